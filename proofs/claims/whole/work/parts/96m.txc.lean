/-! text: the developers' reader, from its start -/
section
variable {d : Nat} {M : am_M} {s : Int}
theorem c_50l (sx : sxt s) : ∀ (m : Nat) (i : Int) (M : am_M), i + m = 4 → 0 ≤ i → ax_K M → ∃ M', am_Ex d 50 9 [(2, s), (0, i)] [] M = some (0, M') ∧ ax_K M' ∧ (∀ x j, ¬ ((x = s + 2 ∨ x = s + 3) ∧ i ≤ j) → am_rd M' x j = am_rd M x j) ∧ ∀ k, i ≤ k → k < 4 → am_rd M' (s + 2) k = -1 := by
  intro m
  induction m with
  | zero =>
    intro i M hi i0 hK
    rw [aq_50_9, if_neg (by omega)]
    exact ⟨M, rfl, hK, fun _ _ _ => rfl, fun k k0 k1 => by omega⟩
  | succ m ih =>
    intro i M hi i0 hK
    have K1 : ax_K (am_wr M (s + 2) i (-1)) := sx_wa sx hK (by omega) (by omega)
    have K2 : ax_K (am_wr (am_wr M (s + 2) i (-1)) (s + 3) i (-1)) := sx_wa sx K1 (by omega) (by omega)
    rw [aq_50_9, if_pos (by omega), sx_o sx, ax_gt, sx_k2 sx hK, sx_2 sx, ax_gi (by omega) (by omega), ax_let, sx_k3 sx K1, sx_3 sx, ax_gi (by omega) (by omega), ax_let, ax_let, ax_w32 (by omega) (by omega)]
    obtain ⟨M', a, b, c, f⟩ := ih (i + 1) _ (by omega) (by omega) K2
    refine ⟨M', a, b, fun x j h => (c x j (by omega)).trans ?_, fun k k0 k1 => ?_⟩
    · rw [ax_rw, if_neg (by omega), ax_rw, if_neg (by omega)]
    · by_cases z : k = i
      · subst z
        rw [c _ _ (by omega), ax_wc (by omega), ax_ws]
      · exact f k (by omega) k1
theorem c_50 (sx : sxt s) (hK : ax_K M) : ∃ M', am_Call d 50 [(2, s)] M = some (0, M') ∧ ax_K M' ∧ (∀ x j, ¬ (s ≤ x ∧ x ≤ s + 5) → am_rd M' x j = am_rd M x j) ∧ am_rd M' s 1 = 0 ∧ am_rd M' s 6 = 0 ∧ ∀ k, 0 ≤ k → k < 4 → am_rd M' (s + 2) k = -1 := by
  have K1 : ax_K (am_wr M s 1 0) := sx_wf sx hK (Or.inl rfl)
  have K2 : ax_K (am_wr (am_wr M s 1 0) s 6 0) := sx_wf sx K1 (Or.inr rfl)
  rw [aq_50, sx_o sx, ax_gt, ax_let, ax_let]
  obtain ⟨M', a, b, c, f⟩ := c_50l (d := d) sx 4 0 _ (by omega) (by omega) K2
  refine ⟨M', a, b, fun x j h => (c x j (by omega)).trans ?_, ?_, ?_, f⟩
  · rw [ax_rw, if_neg (by omega), ax_rw, if_neg (by omega)]
  · rw [c _ _ (by omega), ax_wi (by decide), ax_ws]
  · rw [c _ _ (by omega), ax_ws]
theorem text_c (hK : ax_K M) (hd : 9 ≤ d) {L : Nat} (L3 : L ≤ 300) {B : Int → Int} (hB : ∀ j : Nat, j < L → am_rd M 419 j = B j ∧ 0 ≤ B j ∧ B j < 256) {l : List (Nat × Nat)} (hl : q_tl B L 0 l) (sx : sxt s) : ∃ r Me c0 M0, am_Call d 288 [(2, 420), (2, 419), (0, (L : Int)), (2, s)] M = some (r, Me) ∧ ((c0 : CS).at_ = 0 ∧ c0.cs = [] ∧ c0.nl = 0 ∧ ∀ k, 0 ≤ k → k < 4 → c0.lf k < 0) ∧ PX M0 s (l.length + 1) (cTop (q_fK B L l) (q_fN B L l) (q_fP L l) (l.length + 1) (l.length + 1) c0) Me ∧ (r = 0 ↔ ∃ e, cTop (q_fK B L l) (q_fN B L l) (q_fP L l) (l.length + 1) (l.length + 1) c0 = .error e) ∧ (r = 0 ∨ r = 1) ∧ am_rd M0 420 7 = 1 ∧ am_rd M0 420 9 = -1 ∧ ∀ x i, ¬ (x = 420 ∧ 3 ≤ i) → ¬ (421 ≤ x ∧ x ≤ 423) → ¬ (s ≤ x ∧ x ≤ s + 5) → am_rd M0 x i = am_rd M x i := by
  have s0 := sx
  unfold sxt at s0
  have len := q_tl_len l 0 hl
  have K1 : ax_K (am_wr M 420 7 1) := ax_Kw hK rfl
  have K2 : ax_K (am_wr (am_wr M 420 7 1) 420 8 0) := ax_Kw K1 rfl
  have K3 : ax_K (am_wr (am_wr (am_wr M 420 7 1) 420 8 0) 420 9 (-1)) := ax_Kw K2 rfl
  have K4 : ax_K (am_wr (am_wr (am_wr (am_wr M 420 7 1) 420 8 0) 420 9 (-1)) 420 6 s) := ax_Kw K3 rfl
  have w4 : ∀ x i, ¬ (x = 420 ∧ 3 ≤ i) → am_rd (am_wr (am_wr (am_wr (am_wr M 420 7 1) 420 8 0) 420 9 (-1)) 420 6 s) x i = am_rd M x i := fun x i h => by rw [ax_rw, if_neg (by omega), ax_rw, if_neg (by omega), ax_rw, if_neg (by omega), ax_rw, if_neg (by omega)]
  have v6 : am_rd (am_wr (am_wr (am_wr (am_wr M 420 7 1) 420 8 0) 420 9 (-1)) 420 6 s) 420 6 = s := ax_ws
  have v9 : am_rd (am_wr (am_wr (am_wr (am_wr M 420 7 1) 420 8 0) 420 9 (-1)) 420 6 s) 420 9 = -1 := (ax_wi (by decide)).trans ax_ws
  have v8 : am_rd (am_wr (am_wr (am_wr (am_wr M 420 7 1) 420 8 0) 420 9 (-1)) 420 6 s) 420 8 = 0 := (ax_wi (by decide)).trans ((ax_wi (by decide)).trans ax_ws)
  have v7 : am_rd (am_wr (am_wr (am_wr (am_wr M 420 7 1) 420 8 0) 420 9 (-1)) 420 6 s) 420 7 = 1 := (ax_wi (by decide)).trans ((ax_wi (by decide)).trans ((ax_wi (by decide)).trans ax_ws))
  rw [aq_288, if_neg (by decide), if_neg (by omega), show am_ia 419 = true from rfl, ax_gt, show am_ln 419 = 300 from rfl, if_pos (by omega), ax_o_420, ax_gt, ax_let, ax_let, ax_let, ax_let, v6, sx_o sx, ax_gt]
  generalize am_wr (am_wr (am_wr (am_wr M 420 7 1) 420 8 0) 420 9 (-1)) 420 6 s = Ma at *
  obtain ⟨Mb, e1, Kb, fb, b1, b6, b2⟩ := c_50 (d := d) sx K4
  have Ks : ax_K (am_wr Mb 420 3 0) := ax_Kw Kb rfl
  have ws : ∀ x i, ¬ (x = 420 ∧ i = 3) → am_rd (am_wr Mb 420 3 0) x i = am_rd Mb x i := fun x i h => if_neg h
  rw [e1, Option.bind_some]
  dsimp only
  rw [aq_276, ax_o_420, ax_gt, ax_let]
  have q0 : q_t (am_wr Mb 420 3 0) L B (q_fK B L l) (q_fN B L l) (q_fP L l) 0 (am_wr Mb 420 3 0) := by
    refine ⟨Ks, ⟨L3, fun j hj => ⟨?_, (hB j hj).2⟩⟩, fun _ _ _ => rfl, ax_ws, fun j j0 j1 => by omega⟩
    rw [ws _ _ (by omega), fb _ _ (by omega), w4 _ _ (by omega)]
    exact (hB j hj).1
  obtain ⟨Mc, e2, Kc, _, fc, c3, cj⟩ := k_all (d := d) hl l.length 0 0 (am_wr Mb 420 3 0) (by omega) hl q0
  have e2 : am_Ex d 276 6 [(2, 420), (2, 419), (0, (L : Int)), am_N, (0, 0), am_N, am_N] [] (am_wr Mb 420 3 0) = some (0, Mc) := e2
  rw [e2, Option.bind_some]
  dsimp only
  rw [ax_let]
  have Kd : ax_K (am_wr Mc 420 4 0) := ax_Kw Kc rfl
  have wd' : ∀ x i, ¬ (x = 420 ∧ i = 4) → am_rd (am_wr Mc 420 4 0) x i = am_rd Mc x i := fun x i h => if_neg h
  have d4 : am_rd (am_wr Mc 420 4 0) 420 4 = 0 := ax_ws
  generalize am_wr Mc 420 4 0 = Md at *
  have all : ∀ x i, ¬ (x = 420 ∧ (i = 3 ∨ i = 4)) → ¬ (421 ≤ x ∧ x ≤ 423) → am_rd Md x i = am_rd Mb x i := fun x i h1 h2 => (wd' x i (by omega)).trans ((fc x i (by omega)).trans (ws x i (by omega)))
  have tk : TK Md s (l.length + 1) (q_fK B L l) (q_fN B L l) (q_fP L l) := by
    refine ⟨sx, by omega, by omega, ?_, ?_, fun j j0 j1 => ?_, fun j j0 j1 => ?_, fun j j0 j1 => ?_, fun j j0 j1 => ?_⟩
    · rw [wd' _ _ (by omega)]; exact c3
    · rw [all _ _ (by omega) (by omega), fb _ _ (by omega)]; exact v6
    · rw [wd' _ _ (by omega)]; exact (cj j j0 j1).1
    · rw [wd' _ _ (by omega)]; exact (cj j j0 j1).2.1
    · rw [wd' _ _ (by omega)]; exact (cj j j0 j1).2.2
    · unfold q_fK
      by_cases z : j.toNat < l.length
      · rw [if_pos z]
        exact ⟨fun h => absurd h q_K44, fun h => by omega⟩
      · rw [if_neg z]
        exact ⟨fun _ => by omega, fun _ => rfl⟩
  have pc : PC Md s (l.length + 1) (CS.mk 0 (am_rd Md 420 5) [] (fun k => am_rd Md (s + 2) k) (fun k => am_rd Md (s + 3) k) (fun k => am_rd Md (s + 4) k) (fun k => am_rd Md (s + 5) k) 0) Md := by
    refine ⟨Kd, fun _ _ _ => rfl, d4, show 0 < l.length + 1 by omega, rfl, ?_, ?_, Nat.zero_le _, trivial, ?_, Nat.zero_le _, fun _ _ _ => rfl, fun _ _ _ => rfl, fun _ _ _ => rfl, fun _ _ _ => rfl⟩
    · rw [all _ _ (by omega) (by omega), fb _ _ (by omega)]; exact v8
    · rw [all _ _ (by omega) (by omega)]; exact b1
    · rw [all _ _ (by omega) (by omega)]; exact b6
  obtain ⟨r, M', g1, g2, g3, g4⟩ := tx_288l (d := d) tk hd (l.length + 1) 0 (.ok (CS.mk 0 (am_rd Md 420 5) [] (fun k => am_rd Md (s + 2) k) (fun k => am_rd Md (s + 3) k) (fun k => am_rd Md (s + 4) k) (fun k => am_rd Md (s + 5) k) 0)) Md pc (by omega) (by omega)
  refine ⟨r, M', _, Md, g1, ⟨rfl, rfl, rfl, fun k k0 k1 => ?_⟩, g2, g3, g4, ?_, ?_, fun x i h1 h2 h3 => ?_⟩
  · show am_rd Md (s + 2) k < 0
    rw [all _ _ (by omega) (by omega), b2 k k0 k1]; decide
  · rw [all _ _ (by omega) (by omega), fb _ _ (by omega)]; exact v7
  · rw [all _ _ (by omega) (by omega), fb _ _ (by omega)]; exact v9
  · rw [all x i (by omega) h2, fb _ _ h3]; exact w4 x i h1
end
/-! text: the model's, from its start -/
section
variable {d : Nat} {M : am_M} {t : Int}
theorem u_295h (hK : ax_K M) (h3 : am_rd M 448 3 ≠ 4) : ∃ N0, am_Call d 295 [(2, 447)] M = ((am_Call d 194 [(2, 447)] N0).bind fun r => Ex45 d r.2) ∧ ax_K N0 ∧ (am_rd N0 447 14 = am_rd M 447 3 ∧ am_rd N0 447 3 = 0 ∧ am_rd N0 447 15 = 0 ∧ am_rd N0 447 19 = 0 ∧ am_rd N0 447 20 = -1 ∧ am_rd N0 447 21 = 0 ∧ am_rd N0 447 22 = 0 ∧ am_rd N0 447 25 = 0 ∧ am_rd N0 447 28 = 4 ∧ am_rd N0 447 29 = 0 ∧ am_rd N0 447 36 = 0) ∧ ∀ x i, ¬ (x = 447 ∧ 3 ≤ i) → am_rd N0 x i = am_rd M x i := by
  rw [aq_295, ax_o_447, ax_gt, kr_447_0 hK, ax_a_448, ax_gi (by decide) (by decide), if_neg h3, ax_let, ax_let, ax_let, ax_let, ax_let, ax_let, ax_let, ax_let, ax_let, ax_let, ax_let]
  refine ⟨_, rfl, ?_, ⟨?_, ?_, ?_, ?_, ?_, ?_, ?_, ?_, ?_, ?_, ?_⟩, fun x i h => ?_⟩
  · exact ax_Kw (ax_Kw (ax_Kw (ax_Kw (ax_Kw (ax_Kw (ax_Kw (ax_Kw (ax_Kw (ax_Kw (ax_Kw hK rfl) rfl) rfl) rfl) rfl) rfl) rfl) rfl) rfl) rfl) rfl
  · simp [ax_rw]
  · simp [ax_rw]
  · simp [ax_rw]
  · simp [ax_rw]
  · simp [ax_rw]
  · simp [ax_rw]
  · simp [ax_rw]
  · simp [ax_rw]
  · simp [ax_rw]
  · simp [ax_rw]
  · simp [ax_rw]
  · rw [ax_rw, if_neg (by omega), ax_rw, if_neg (by omega), ax_rw, if_neg (by omega), ax_rw, if_neg (by omega), ax_rw, if_neg (by omega), ax_rw, if_neg (by omega), ax_rw, if_neg (by omega), ax_rw, if_neg (by omega), ax_rw, if_neg (by omega), ax_rw, if_neg (by omega), ax_rw, if_neg (by omega)]
def txr (t x i : Int) : Prop := (x = 447 ∧ 3 ≤ i) ∨ (x = 448 ∧ i = 3) ∨ (x = 451 ∧ i = t) ∨ (452 ≤ x ∧ x ≤ 456 ∧ 24 * t ≤ i ∧ i < 24 * t + 24) ∨ (457 ≤ x ∧ x ≤ 458 ∧ 400 * t ≤ i ∧ i < 400 * t + 400) ∨ (459 ≤ x ∧ x ≤ 469)
/-- what the model's text comes to -/
def RM (d : Nat) (M : am_M) (t : Int) (T : Nat) (x : CX) : Prop := match x with
  | .error e => ∃ M', am_Call d 295 [(2, 447)] M = some (-1, M') ∧ ax_K M' ∧ am_rd M' 447 4 = e.1 ∧ am_rd M' 447 5 = e.2 ∧ am_rd M' 447 3 = 0 ∧ ∀ x i, ¬ ((x = 447 ∧ 3 ≤ i) ∨ (459 ≤ x ∧ x ≤ 469)) → am_rd M' x i = am_rd M x i
  | .ok c' => ∃ M' s' cl', am_Call d 295 [(2, 447)] M = some (t, M') ∧ ax_K M' ∧ XS T c' s' cl' ∧ XM M' t cl' ∧ am_rd M' 447 4 = 0 ∧ am_rd M' 447 5 = -1 ∧ am_rd M' 447 3 = 0 ∧ am_rd M' 448 3 = t + 1 ∧ ∀ x i, ¬ txr t x i → am_rd M' x i = am_rd M x i
theorem XO_nil : XO [] := by
  refine ⟨by decide, fun j hj => ?_, fun i j hi => ?_⟩
  · exact absurd hj (Nat.not_lt_zero _)
  · exact absurd hi (Nat.not_lt_zero _)
theorem text_m (hK : ax_K M) (t0 : 0 ≤ t) (t4 : t < 4) (h3 : am_rd M 448 3 = t) {L : Nat} (hL : am_rd M 447 3 = (L : Int)) (L3 : L ≤ 300) {B : Int → Int} (hb : ∀ j : Nat, j < L → am_rd M 450 j = q_b (B j) ∧ 0 ≤ B j ∧ B j < 256) {l : List (Nat × Nat)} (hl : q_tl B L 0 l) {c0 : CS} (hc : c0.at_ = 0 ∧ c0.cs = [] ∧ c0.nl = 0 ∧ ∀ k, 0 ≤ k → k < 4 → c0.lf k < 0) : RM d M t (l.length + 1) (cTop (q_fK B L l) (q_fN B L l) (q_fP L l) (l.length + 1) (l.length + 1) c0) := by
  have len := q_tl_len l 0 hl
  obtain ⟨N0, e0, K0, ⟨n14, n3, n15, n19, n20, n21, n22, n25, n28, n29, n36⟩, f0⟩ := u_295h (d := d) hK (by omega)
  have nx := q_nx (N0 := N0) (d := d) (i0 := am_rd N0 447 18) (n14.trans hL) L3 (fun j hj => ⟨(f0 _ _ (by omega)).trans (hb j hj).1, (hb j hj).2⟩) hl
  have C := q_C (i0 := am_rd N0 447 18) (fun j hj => (hb j hj).2) hl
  obtain ⟨M1, e1, K1, w, q15, q16, q17, q18⟩ := nx 0 N0 (by omega) K0 (fun _ _ _ => rfl) n15 rfl
  have hT : ∀ j : Nat, j < l.length + 1 → q_fS B L l j ≠ 0 → j + 1 < l.length + 1 := fun j hj h => by
    unfold q_fS at h
    by_cases z : ((j : Int)).toNat < l.length
    · omega
    · rw [if_neg z] at h; exact absurd rfl h
  have pm : PM N0 (l.length + 1) (q_fS B L l) (q_fI B L l (am_rd N0 447 18)) (q_fP L l) (q_fQ L l) (PS.mk 0 4 0 (am_rd M1 447 30) [] [] [] 0 (fun k => am_rd M1 463 k) (fun k => am_rd M1 464 k) (fun k => am_rd M1 465 k) (fun k => am_rd M1 466 k) (fun k => am_rd M1 467 k)) M1 := by
    refine ⟨K1, fun x i hx => w x i (fun z => hx (Or.inl ⟨z.1, Or.inl ⟨z.2.1, by omega⟩⟩)), show 0 < l.length + 1 by omega, q15, q16, q17, q18, (w _ _ (by omega)).trans n19, (w _ _ (by omega)).trans n20, (w _ _ (by omega)).trans n21, (w _ _ (by omega)).trans n22, trivial, (w _ _ (by omega)).trans n25, trivial, (w _ _ (by omega)).trans n28, rfl, (w _ _ (by omega)).trans n36, trivial, (w _ _ (by omega)).trans n29, Nat.zero_le _, fun _ _ _ => rfl, fun _ _ _ => rfl, fun _ _ _ => rfl, fun _ _ _ => rfl, fun _ _ _ => rfl⟩
  have xs : XS (l.length + 1) c0 (PS.mk 0 4 0 (am_rd M1 447 30) [] [] [] 0 (fun k => am_rd M1 463 k) (fun k => am_rd M1 464 k) (fun k => am_rd M1 465 k) (fun k => am_rd M1 466 k) (fun k => am_rd M1 467 k)) [] := by
    refine ⟨⟨rfl, rfl, rfl, rfl⟩, ⟨hc.1, show 0 < l.length + 1 by omega⟩, ⟨by rw [hc.2.1]; exact Nat.zero_le _, Nat.zero_le _⟩, ⟨hc.2.2.1, rfl⟩, XO_nil, fun k k0 k4 => hc.2.2.2 k k0 k4, fun i hi => by cases hi⟩
  have r := D_top nx hT (by omega) C (l.length + 1) c0 _ [] M1 xs pm (by omega)
  rw [show am_Call d 295 [(2, 447)] M = am_Call d 295 [(2, 447)] M from rfl] at e0
  have e0 : am_Call d 295 [(2, 447)] M = Ex45 d M1 := by rw [e0, e1]; rfl
  cases hq : cTop (q_fK B L l) (q_fN B L l) (q_fP L l) (l.length + 1) (l.length + 1) c0 with
  | error e =>
    rw [hq] at r
    obtain ⟨n, M', p, e2⟩ := r
    refine ⟨_, by rw [e0, e2, u_75e p], ax_Kw (ax_Kw p.hK rfl) rfl, (ax_wi (by decide)).trans ax_ws, ax_ws, ?_, fun x i h => ?_⟩
    · rw [ax_wi (by decide), ax_wi (by decide), p.fr _ _ (by unfold mcl; omega)]; exact n3
    · rw [ax_rw, if_neg (by omega), ax_rw, if_neg (by omega), p.fr _ _ (by unfold mcl; omega)]
      exact f0 x i (by omega)
  | ok c' =>
    rw [hq] at r
    obtain ⟨s', cl', M', x', hS, p, e2⟩ := r
    obtain ⟨M2, e3, K2, xm, v4, v5, v3, f2⟩ := u_75o (d := d) (t := t) p hS x' (by omega) t0 t4 ((f0 _ _ (by omega)).trans h3)
    refine ⟨M2, s', cl', by rw [e0, e2, e3], K2, x', xm, v4, v5, ?_, v3, fun x i h => ?_⟩
    · rw [f2 _ _ (by unfold mcl; omega)]; exact n3
    · unfold txr at h
      rw [f2 x i (by unfold mcl; omega)]
      exact f0 x i (by omega)
end
