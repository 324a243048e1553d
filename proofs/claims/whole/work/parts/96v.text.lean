/-! text -/
/-- the texts that stand stay -/
theorem XM_old {M M' : am_M} {t u : Int} {cl : List xcl} (a : XM M u cl) (o : XO cl) (u0 : 0 ≤ u) (h : u < t) (e : ∀ x i, 451 ≤ x → x ≤ 458 → ¬ txr t x i → am_rd M' x i = am_rd M x i) : XM M' u cl := by
  obtain ⟨a1, a2⟩ := a
  have o1 := o.1
  have n : ∀ x i, 452 ≤ x → x ≤ 456 → i < 24 * u + 24 → ¬ txr t x i := fun x i h1 h2 h3 => by unfold txr; omega
  refine ⟨by rw [e _ _ (by omega) (by omega) (by unfold txr; omega)]; exact a1, fun j hj => ?_⟩
  obtain ⟨b1, b2, b3, b4, b5⟩ := a2 j hj
  rw [e 452 _ (by omega) (by omega) (n _ _ (by omega) (by omega) (by omega)), e 454 _ (by omega) (by omega) (n _ _ (by omega) (by omega) (by omega)), e 455 _ (by omega) (by omega) (n _ _ (by omega) (by omega) (by omega)), e 456 _ (by omega) (by omega) (n _ _ (by omega) (by omega) (by omega)), e 453 _ (by omega) (by omega) (n _ _ (by omega) (by omega) (by omega))]
  refine ⟨b1, b2, b3, b4, fun z => ?_⟩
  obtain ⟨⟨c1, c2, c3, c4⟩, c5, c6⟩ := b5 z
  refine ⟨⟨c1, c2, fun i hi => ?_, ?_⟩, c5, c6⟩
  · rw [e 457 _ (by omega) (by omega) (by unfold txr; omega), e 458 _ (by omega) (by omega) (by unfold txr; omega)]
    exact c3 i hi
  · rw [e 457 _ (by omega) (by omega) (by unfold txr; omega)]
    exact c4
/-- the text that is read, on the developers' side -/
theorem XC_new {M0 M M' : am_M} {s : Int} {T : Nat} {c : CS} {p : PS} {cl : List xcl} (h : PC M0 s T c M) (x : XS T c p cl) (e : ∀ y i, s ≤ y → y ≤ s + 5 → am_rd M' y i = am_rd M y i) : XC M' s cl := by
  obtain ⟨_, _, _, ⟨b4, _⟩, b6, b7, b8⟩ := x
  have n24 := b6.1
  refine XC_same (M := M) ⟨?_, fun j hj => ?_, fun k k0 k4 => ?_⟩ e
  · rw [h.nl, b4]
  · obtain ⟨c1, c2, c3, c4, _⟩ := b8 j hj
    rw [h.kd j (by omega) (by omega), h.nm (3 * (j : Int)) (by omega) (by omega), h.nm (3 * (j : Int) + 1) (by omega) (by omega), h.nm (3 * (j : Int) + 2) (by omega) (by omega)]
    exact ⟨c1.1, fun z => (c2 z).1, fun z => (c3 z).1, fun z => (c4 z).1⟩
  · have q := b7 k k0 k4
    unfold XCk at q
    unfold CT
    rw [h.lf k k0 k4, h.ll k k0 k4]
    cases hc : XL cl k with
    | none =>
      rw [hc] at q
      exact q
    | some code =>
      rw [hc] at q
      obtain ⟨u, v, y1, y2, y3⟩ := q
      have len := congrArg List.length y1
      simp only [List.length_append, List.length_reverse] at len
      have n3 := h.nc3
      have o := lc_suf u (y1 ▸ h.cs : CST M (s + 1) (u ++ (code.reverse ++ v)))
      refine ⟨by omega, y3, by omega, fun j hj => ?_⟩
      have g := lc_get code.reverse o j code[j] (by rw [List.reverse_reverse, List.getElem?_eq_getElem hj])
      rw [y2]; exact g
theorem op_text {M : am_M} {d : Nat} (hd : 9 ≤ d) (a : RR M) : OP d M 300 295 [] := by
  have a0 := a
  obtain ⟨hK, p1, p2, ⟨r1, ⟨r2, r3⟩, r4, r5⟩, x1, X0, x2⟩ := a
  have g11 : am_rd M 2 11 = am_rd M 448 3 := p1.1.1.2.2.2.1
  have bt : 0 ≤ am_rd M 448 3 ∧ am_rd M 448 3 ≤ 4 := p1.2.1.1.2.2.2.1
  obtain ⟨t, h3⟩ : ∃ t, am_rd M 448 3 = t := ⟨_, rfl⟩
  rw [h3] at g11 bt
  by_cases h4 : t = 4
  · refine ⟨-1, M, M, ?_, ?_, a0⟩
    · show am_Call d 300 [(2, 1)] M = _
      rw [aq_300, ax_o_1, ax_gt, kr_1_0 hK, ax_o_2, ax_gt, ax_let, g11, if_neg (by omega), kr_1_6 hK, show am_ia 14 = true from rfl, ax_gt, show am_ln 14 = 4 from rfl, if_neg (by omega)]
    · show am_Call d 295 [(2, 447)] M = _
      rw [aq_295, ax_o_447, ax_gt, kr_447_0 hK, ax_a_448, ax_gi (by decide) (by decide), if_pos (h3.trans h4)]
  · have t0 : 0 ≤ t := bt.1
    have t4 : t < 4 := by omega
    obtain ⟨L, hL⟩ : ∃ L : Nat, am_rd M 447 3 = (L : Int) := ⟨(am_rd M 447 3).toNat, by omega⟩
    have L3 : L ≤ 300 := by omega
    have sx : sxt (15 + 6 * t) := by unfold sxt; omega
    have k14 : am_rd M 14 t = 15 + 6 * t := by
      have : t = 0 ∨ t = 1 ∨ t = 2 ∨ t = 3 := by omega
      rcases this with rfl | rfl | rfl | rfl
      · exact kr_14_0 hK
      · exact kr_14_1 hK
      · exact kr_14_2 hK
      · exact kr_14_3 hK
    have hB : ∀ j : Nat, j < L → am_rd M 419 j = (fun j => am_rd M 419 j) (j : Int) ∧ 0 ≤ (fun j => am_rd M 419 j) (j : Int) ∧ (fun j => am_rd M 419 j) (j : Int) < 256 := fun j hj => by
      have := r4 j (by omega) (by omega)
      refine ⟨rfl, ?_, ?_⟩
      · show 0 ≤ am_rd M 419 j; omega
      · show am_rd M 419 j < 256; omega
    have hb : ∀ j : Nat, j < L → am_rd M 450 j = q_b ((fun j => am_rd M 419 j) (j : Int)) ∧ 0 ≤ (fun j => am_rd M 419 j) (j : Int) ∧ (fun j => am_rd M 419 j) (j : Int) < 256 := fun j hj => by
      have := r4 j (by omega) (by omega)
      refine ⟨?_, (hB j hj).2⟩
      show am_rd M 450 j = q_b (am_rd M 419 j)
      unfold q_b
      split <;> omega
    obtain ⟨l, hl⟩ := q_tl_ex (B := fun j => am_rd M 419 j) (L := L) L 0 (Nat.zero_le _) (by omega)
    obtain ⟨r, Me, c0, M0, e1, hc0, hx, hr0, hr1, v7, v9, f0⟩ := text_c hK hd L3 hB hl sx
    have tm : ∀ Mx, ax_K Mx → am_rd Mx 448 3 = t → am_rd Mx 447 3 = (L : Int) → (∀ j : Nat, j < L → am_rd Mx 450 j = am_rd M 450 j) → RM d Mx t (l.length + 1) (cTop (q_fK (fun j => am_rd M 419 j) L l) (q_fN (fun j => am_rd M 419 j) L l) (q_fP L l) (l.length + 1) (l.length + 1) c0) := fun Mx Kx a b c => text_m Kx t0 t4 a b L3 (fun j hj => ⟨(c j hj).trans (hb j hj).1, (hb j hj).2⟩) hl hc0
    generalize cTop (q_fK (fun j => am_rd M 419 j) L l) (q_fN (fun j => am_rd M 419 j) L l) (q_fP L l) (l.length + 1) (l.length + 1) c0 = X at hx hr0 tm
    have Ke := PX_K hx
    have fe : ∀ x i, ¬ (x = 420 ∧ 3 ≤ i) → ¬ (421 ≤ x ∧ x ≤ 423) → ¬ (15 + 6 * t ≤ x ∧ x ≤ 15 + 6 * t + 5) → am_rd Me x i = am_rd M x i := fun x i h1 h2 h3 => (PX_fr hx x i (by unfold tcl; omega)).trans (f0 x i h1 h2 h3)
    have K1 : ax_K (am_wr Me 1 8 0) := ax_Kw Ke rfl
    have K2 : ax_K (am_wr (am_wr Me 1 8 0) 2 11 (t + 1)) := ax_Kw K1 rfl
    have head : am_Call d 300 [(2, 1)] M = if r = 0 then some (-1, am_wr Me 1 8 0) else some (t, am_wr (am_wr Me 1 8 0) 2 11 (t + 1)) := by
      rw [aq_300, ax_o_1, ax_gt, kr_1_0 hK, ax_o_2, ax_gt, ax_let, g11, if_neg (by omega), kr_1_6 hK, show am_ia 14 = true from rfl, ax_gt, show am_ln 14 = 4 from rfl, if_pos t4, ax_q_14, ax_gi t0 t4, kr_1_9 hK, ax_o_420, ax_gt, kr_1_7 hK, r1, hL, k14, e1, Option.bind_some]
      dsimp only
      rw [ax_let, kr_1_0 K1, ax_o_2, ax_gt, ax_let, ax_w32 (by omega) (by omega)]
    have q7 : am_rd Me 420 7 = 1 := (PX_fr hx 420 7 (by unfold tcl; omega)).trans v7
    cases X with
    | error e =>
      have r0 : r = 0 := hr0.mpr ⟨e, rfl⟩
      have pe : PE M0 (15 + 6 * t) e Me := hx
      obtain ⟨M2, e2, K3, v4, v5, v3, f2⟩ := tm _ K1 ((ax_wc (by decide)).trans ((fe _ _ (by omega) (by omega) (by omega)).trans h3)) ((ax_wc (by decide)).trans ((fe _ _ (by omega) (by omega) (by omega)).trans hL)) (fun j hj => (ax_wc (by decide)).trans (fe _ _ (by omega) (by omega) (by omega)))
      have G : ∀ x i, ¬ (x = 420 ∧ 3 ≤ i) → ¬ (421 ≤ x ∧ x ≤ 423) → ¬ (15 + 6 * t ≤ x ∧ x ≤ 15 + 6 * t + 5) → ¬ (x = 1 ∧ i = 8) → ¬ (x = 447 ∧ 3 ≤ i) → ¬ (459 ≤ x ∧ x ≤ 469) → am_rd M2 x i = am_rd M x i := fun x i h1 h2 h3 h4 h5 h6 => (f2 x i (by omega)).trans ((if_neg h4).trans (fe x i h1 h2 h3))
      have g3 : am_rd M2 448 3 = t := (G _ _ (by omega) (by omega) (by omega) (by omega) (by omega) (by omega)).trans h3
      refine ⟨-1, _, M2, by rw [show ((2, 1) :: ([] : List am_V)) = [(2, 1)] from rfl, head, if_pos r0], e2, K3, RP_same p1 (fun x i h => G x i (by omega) (by omega) (by omega) (by omega) (by omega) (by omega)) (fun i _ _ => G _ i (by omega) (by omega) (by omega) (by omega) (by omega) (by omega)), RP_same p2 (fun x i h => G x i (by omega) (by omega) (by omega) (by omega) (by omega) (by omega)) (fun i _ _ => G _ i (by omega) (by omega) (by omega) (by omega) (by omega) (by omega)), ⟨?_, ?_, fun j j0 j1 => by rw [v3] at j1; omega, Or.inr ⟨?_, ?_, ?_⟩⟩, ?_, X0, fun u u0 u4 u1 => ?_⟩
      · rw [v3, f2 1 8 (by omega)]; exact ax_ws
      · rw [v3]; decide
      · rw [f2 420 7 (by omega), ax_wc (by decide)]; exact q7
      · rw [v4, f2 420 8 (by omega), ax_wc (by decide)]; exact pe.ft
      · rw [v5, f2 420 9 (by omega), ax_wc (by decide)]; exact pe.pl
      · rw [g3, G 449 3 (by omega) (by omega) (by omega) (by omega) (by omega) (by omega), ← h3]; exact x1
      · rw [g3] at u1
        obtain ⟨b1, b2, b3⟩ := x2 u u0 u4 (by omega)
        exact ⟨XC_same b1 fun x i h1 h2 => G x i (by omega) (by omega) (by omega) (by omega) (by omega) (by omega), XM_same b2 fun x i h1 h2 => G x i (by omega) (by omega) (by omega) (by omega) (by omega) (by omega), b3⟩
    | ok c' =>
      have r0 : r ≠ 0 := fun h => by
        obtain ⟨e, h'⟩ := hr0.mp h
        cases h'
      have pc : PC M0 (15 + 6 * t) (l.length + 1) c' Me := hx
      obtain ⟨M2, s', cl', e2, K3, xs, xm, v4, v5, v3, v33, f2⟩ := tm _ K2 ((ax_wc (by decide)).trans ((ax_wc (by decide)).trans ((fe _ _ (by omega) (by omega) (by omega)).trans h3))) ((ax_wc (by decide)).trans ((ax_wc (by decide)).trans ((fe _ _ (by omega) (by omega) (by omega)).trans hL))) (fun j hj => (ax_wc (by decide)).trans ((ax_wc (by decide)).trans (fe _ _ (by omega) (by omega) (by omega))))
      have nt : ∀ x i, x < 447 → ¬ txr t x i := fun x i h => by unfold txr; omega
      have G1 : ∀ x i, ¬ (x = 1 ∧ i = 8) → ¬ (x = 2 ∧ i = 11) → ¬ txr t x i → am_rd M2 x i = am_rd Me x i := fun x i h1 h2 h3 => (f2 x i h3).trans ((if_neg h2).trans (if_neg h1))
      have G : ∀ x i, ¬ (x = 420 ∧ 3 ≤ i) → ¬ (421 ≤ x ∧ x ≤ 423) → ¬ (15 + 6 * t ≤ x ∧ x ≤ 15 + 6 * t + 5) → ¬ (x = 1 ∧ i = 8) → ¬ (x = 2 ∧ i = 11) → ¬ txr t x i → am_rd M2 x i = am_rd M x i := fun x i h1 h2 h3 h4 h5 h6 => (G1 x i h4 h5 h6).trans (fe x i h1 h2 h3)
      -- what lies beyond both
      have O : ∀ x i, (x = 2 ∧ i ≠ 11) ∨ (3 ≤ x ∧ x ≤ 13) ∨ (43 ≤ x ∧ x ≤ 418) → am_rd M2 x i = am_rd M x i := fun x i h => G x i (by omega) (by omega) (by omega) (by omega) (by omega) (nt x i (by omega))
      have E : ∀ i, i ≠ 3 → am_rd M2 448 i = am_rd M 448 i := fun i h => G 448 i (by omega) (by omega) (by omega) (by omega) (by omega) (by unfold txr; omega)
      have E9 : ∀ i, am_rd M2 449 i = am_rd M 449 i := fun i => G 449 i (by omega) (by omega) (by omega) (by omega) (by omega) (by unfold txr; omega)
      have g211 : am_rd M2 2 11 = t + 1 := (f2 2 11 (nt 2 11 (by omega))).trans ax_ws
      have hp : RP M2 M2 2 8 55 448 := by
        obtain ⟨⟨⟨g1, g2, g3, g4, g5, g6, g7⟩, y1, y2, y3, y4, y5, y6, y7⟩, ⟨⟨z0, z1, z2, z3, z4, z5, z6, z7⟩, w1, w2, w3, w4, w5, w6⟩, q3, q4⟩ := p1
        have c5 := z5
        have z4 : -1 ≤ am_rd M 448 4 ∧ am_rd M 448 4 < t := by rw [← h3]; exact z4
        refine ⟨⟨⟨?_, ?_, ?_, ?_, ?_, ?_, ?_⟩, fun j j0 j1 => ?_, fun j j0 j1 => ?_, fun j j0 j1 => ?_, fun j j0 j1 => ?_, fun j j0 j1 => ?_, fun j j0 j1 => ?_, ?_⟩, ⟨⟨?_, ?_, ?_, ?_, ?_, ?_, ?_, ?_⟩, fun j j0 j1 => ?_, fun j j0 j1 => ?_, fun j j0 j1 j2 => ?_, fun j j0 j1 => ?_, fun j j0 j1 => ?_, fun j j0 j1 => ?_⟩, ⟨?_, ?_, ?_⟩, ?_, ?_, ?_⟩
        · rw [O 2 5 (by omega), E 0 (by omega)]; exact g1
        · rw [O 2 6 (by omega), E 1 (by omega)]; exact g2
        · rw [O 2 7 (by omega), E 2 (by omega)]; exact g3
        · rw [g211, v33]
        · rw [O 2 12 (by omega), E 4 (by omega)]; exact g5
        · rw [O 2 8 (by omega), E 6 (by omega)]; exact g6
        · rw [O 2 10 (by omega), E 7 (by omega)]; exact g7
        · rw [O (2 + 1) j (by omega), E (10 + j) (by omega)]; exact y1 j j0 j1
        · rw [O (2 + 2) j (by omega), E (18 + j) (by omega)]; exact y2 j j0 j1
        · rw [O (2 + 3) j (by omega), E (26 + j) (by omega)]; exact y3 j j0 j1
        · rw [O (2 + 4) j (by omega), E (32 + j) (by omega)]; exact y4 j j0 j1
        · rw [O (2 + 5) j (by omega), E (38 + 2 * j) (by omega)]; exact y5 j j0 j1
        · rw [O 2 9 (by omega), E (39 + 2 * j) (by omega)]; exact y6 j j0 j1
        · rw [O 2 9 (by omega)]; exact y7
        · rw [E 0 (by omega)]; exact z0
        · rw [E 1 (by omega)]; exact z1
        · rw [E 2 (by omega)]; exact z2
        · rw [v33]; omega
        · rw [E 4 (by omega), v33]; omega
        · rw [E 5 (by omega)]; exact z5
        · rw [E 6 (by omega)]; exact z6
        · rw [E 7 (by omega)]; exact z7
        · rw [E (10 + j) (by omega)]; exact w1 j j0 j1
        · rw [E (18 + j) (by omega), E 0 (by omega)]; exact w2 j j0 j1
        · rw [E (18 + j) (by omega)]; rw [E 0 (by omega)] at j0; exact w3 j j0 j1 j2
        · rw [E (26 + j) (by omega)]; exact w4 j j0 j1
        · rw [E (32 + j) (by omega), E 0 (by omega)]; exact w5 j j0 j1
        · rw [E (38 + 2 * j) (by omega), E 6 (by omega), E 0 (by omega)]; exact w6 j j0 j1
        · rw [E 1 (by omega)]
          exact CH_congr (CH_same q3.1 fun x i h1 h2 => O x i (by omega)) fun j j0 j1 => (E _ (by omega)).symm
        · rw [E 0 (by omega)]
          exact HB_congr q3.2.1 fun j j0 j1 => E _ (by omega)
        · rw [E 222 (by omega)]; exact q3.2.2
        · rw [O 55 1 (by omega)]; exact q4.1
        · rw [O 55 2 (by omega), E 5 (by omega)]; exact q4.2.1
        · intro k k0 k1
          rw [E 5 (by omega)] at k1
          obtain ⟨m1, m2, m3⟩ := q4.2.2 k k0 k1
          rw [O 55 1 (by omega), E 5 (by omega), E 1 (by omega), E 0 (by omega), E (402 + 164 * k) (by omega)]
          exact ⟨CH_congr (CH_same m1 fun x i h1 h2 => O x i (by omega)) fun j j0 j1 => (E _ (by omega)).symm, HB_congr m2 fun j j0 j1 => E _ (by omega), m3⟩
      refine ⟨t, _, M2, by rw [show ((2, 1) :: ([] : List am_V)) = [(2, 1)] from rfl, head, if_neg r0], e2, K3, hp, RP_same p2 (fun x i h => O x i (by omega)) (fun i _ _ => E9 i), ⟨?_, ?_, fun j j0 j1 => by rw [v3] at j1; omega, Or.inr ⟨?_, ?_, ?_⟩⟩, ?_, fun u => if u = t then cl' else X0 u, fun u u0 u4 u1 => ?_⟩
      · rw [v3, f2 1 8 (nt 1 8 (by omega)), ax_wc (by decide)]; exact ax_ws
      · rw [v3]; decide
      · rw [G1 420 7 (by omega) (by omega) (nt _ _ (by omega))]; exact q7
      · rw [v4, G1 420 8 (by omega) (by omega) (nt _ _ (by omega))]; exact pc.ft
      · rw [v5, G1 420 9 (by omega) (by omega) (nt _ _ (by omega)), pc.fr9 420 9 (by unfold tcp; omega)]; exact v9
      · rw [v33, E9 3]; omega
      · rw [v33] at u1
        dsimp only
        by_cases z : u = t
        · subst z
          rw [if_pos rfl]
          exact ⟨XC_new pc xs fun y i h1 h2 => G1 y i (by omega) (by omega) (nt _ _ (by omega)), xm, xs.2.2.2.2.1⟩
        · rw [if_neg z]
          obtain ⟨b1, b2, b3⟩ := x2 u u0 u4 (by omega)
          exact ⟨XC_same b1 fun x i h1 h2 => G x i (by omega) (by omega) (by omega) (by omega) (by omega) (nt _ _ (by omega)), XM_old b2 b3 u0 (by omega) fun x i h1 h2 h3 => G x i (by omega) (by omega) (by omega) (by omega) (by omega) h3, b3⟩
