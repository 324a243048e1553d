/-! spies: the outer loops -/
section
variable {M : am_M} {d : Nat} {n T x : Int} {L V : Int → Int}
def spV (a b c e : Int) : Int := if a < b then 1 else if a = b then (if c ≤ e then 0 else 1) else 0
theorem spV_1 {a b c e : Int} (h : a < b) : spV a b c e = 1 := if_pos h
theorem spV_2 {a b c e : Int} (h : ¬ a < b) (h2 : a = b) (h3 : c ≤ e) : spV a b c e = 0 := (if_neg h).trans ((if_pos h2).trans (if_pos h3))
theorem spV_3 {a b c e : Int} (h : ¬ a < b) (h2 : a = b) (h3 : ¬ c ≤ e) : spV a b c e = 1 := (if_neg h).trans ((if_pos h2).trans (if_neg h3))
theorem spV_4 {a b c e : Int} (h : ¬ a < b) (h2 : ¬ a = b) : spV a b c e = 0 := (if_neg h).trans (if_neg h2)
def spF (L V : Int → Int) (n T x : Int) (k s : Int) : Int := if am_and x (am_xor (ax_fo (unF L k) (n - 0).toNat 0 0) (-1)) = 0 then (if s = -1 then k else if spV (ax_cn k) (ax_cn s) (weF L V n T k) (weF L V n T s) = 0 then s else k) else s
theorem c_180v {k s : Int} (hK : ax_K M) (b : cg_B M) (hn : am_rd M 2 6 = n) (hT : am_rd M 2 5 = T) (n0 : 0 ≤ n) (n6 : n ≤ 6) (hL : ∀ j, 0 ≤ j → j < n → am_rd M 443 j = L j) (hV : ∀ j, 0 ≤ j → j < T → am_rd M 3 j = V j) (k0 : 0 ≤ k) (k1 : k < 256) (s0 : 0 ≤ s) (s1 : s < 256) : am_Call d 180 [(2, 442), (0, k), (0, s)] M = some (spV (ax_cn k) (ax_cn s) (weF L V n T k) (weF L V n T s), M) := c_180 hK b hn hT n0 n6 hL hV k0 k1 s0 s1
theorem spF_in {k s : Int} (k0 : 0 ≤ k) (s0 : s = -1 ∨ (0 ≤ s ∧ s < k)) : spF L V n T x k s = -1 ∨ (0 ≤ spF L V n T x k s ∧ spF L V n T x k s < k + 1) := by
  unfold spF
  (repeat' split) <;> omega
theorem c_259s (hK : ax_K M) (b : cg_B M) (hn : am_rd M 2 6 = n) (hT : am_rd M 2 5 = T) (n0 : 0 ≤ n) (n6 : n ≤ 6) (hL : ∀ j, 0 ≤ j → j < n → am_rd M 443 j = L j) (hV : ∀ j, 0 ≤ j → j < T → am_rd M 3 j = V j) : am_Ex d 259 7 [(2, 442), (0, x), (0, -1), (0, 0)] [] M = some (ax_fo (spF L V n T x) (((2 ^ n.toNat : Nat) : Int) - 0).toNat 0 (-1), M) := by
  have pw := ax_pw n0 (by omega : n ≤ 8)
  have sh := ax_shl1 n0 (by omega : n < 31)
  generalize hN : ((2 ^ n.toNat : Nat) : Int) = N at *
  refine ax_loop (X := fun k s => am_Ex d 259 7 [(2, 442), (0, x), (0, s), (0, k)] [] M) (E := fun s => some (s, M)) (n := N) (fun k s => 0 ≤ k ∧ (s = -1 ∨ (0 ≤ s ∧ s < k))) ?_ ?_ _ _ _ (by omega) (by omega)
  · intro k s ⟨k0, s0⟩ k1
    have e34 : ∀ s, am_Ex d 259 34 [(2, 442), (0, x), (0, s), (0, k)] [] M = am_Ex d 259 7 [(2, 442), (0, x), (0, s), (0, k + 1)] [] M := fun s => by
      rw [aq_259_34, ax_w32 (by omega) (by omega), ax_let]
    refine ⟨?_, by omega, spF_in k0 s0⟩
    show am_Ex d 259 7 _ _ _ = am_Ex d 259 7 _ _ _
    rw [aq_259_7, kr_442_0 hK, show am_ob 442 7 = true from rfl, show am_ob 2 2 = true from rfl, ax_gt, ax_gt, hn, sh, if_pos k1, c_48 hK hn n0 n6, Option.bind_some]
    dsimp only []
    rw [unF_congr hL]
    unfold spF
    by_cases h : am_and x (am_xor (ax_fo (unF L k) (n - 0).toNat 0 0) (-1)) = 0
    · rw [if_pos h, if_pos h]
      by_cases h2 : s = -1
      · rw [if_pos h2, if_pos h2, aq_259_31, e34]
      · rw [if_neg h2, if_neg h2, c_180v hK b hn hT n0 n6 hL hV k0 (by omega) (by omega) (by omega), Option.bind_some]
        dsimp only []
        generalize spV (ax_cn k) (ax_cn s) (weF L V n T k) (weF L V n T s) = w
        by_cases h3 : w = 0
        · rw [if_pos h3, if_pos h3, e34]
        · rw [if_neg h3, if_neg h3, aq_259_31, e34]
    · rw [if_neg h, if_neg h, e34]
  · intro s _
    show am_Ex d 259 7 _ _ _ = _
    rw [aq_259_7, kr_442_0 hK, show am_ob 442 7 = true from rfl, show am_ob 2 2 = true from rfl, ax_gt, ax_gt, hn, sh, if_neg (by omega)]
theorem m_286s (hK : ax_K M) (hn : am_rd M 448 1 = n) (hT : am_rd M 448 0 = T) (n0 : 0 ≤ n) (n6 : n ≤ 6) (T0 : 0 ≤ T) (T8 : T ≤ 8) (hw : ∀ j, 0 ≤ j → j < 8 → 0 ≤ am_rd M 448 (10 + j) ∧ am_rd M 448 (10 + j) ≤ 99) (hL : ∀ j, 0 ≤ j → j < n → am_rd M 483 j = L j) (hV : ∀ j, 0 ≤ j → j < T → am_rd M 448 (10 + j) = V j) : am_Ex d 286 13 [(2, 447), (0, x), (0, -1), (0, 0), am_N] [] M = some (ax_fo (spF L V n T x) (((2 ^ n.toNat : Nat) : Int) - 0).toNat 0 (-1), M) := by
  have pw := ax_pw n0 (by omega : n ≤ 8)
  have sh := ax_shl1 n0 (by omega : n < 31)
  generalize hN : ((2 ^ n.toNat : Nat) : Int) = N at *
  refine ax_loop (X := fun k s => am_Ex d 286 13 [(2, 447), (0, x), (0, s), (0, k), am_N] [] M) (E := fun s => some (s, M)) (n := N) (fun k s => 0 ≤ k ∧ (s = -1 ∨ (0 ≤ s ∧ s < k))) ?_ ?_ _ _ _ (by omega) (by omega)
  · intro k s ⟨k0, s0⟩ k1
    have e55 : ∀ s, am_Ex d 286 55 [(2, 447), (0, x), (0, s), (0, k), am_N] [] M = am_Ex d 286 13 [(2, 447), (0, x), (0, s), (0, k + 1), am_N] [] M := fun s => by
      rw [aq_286_55, ax_w32 (by omega) (by omega), ax_let]
    have c1 := ax_cnr k
    have c2 := ax_cnr s
    refine ⟨?_, by omega, spF_in k0 s0⟩
    show am_Ex d 286 13 _ _ _ = am_Ex d 286 13 _ _ _
    rw [aq_286_13, kr_447_0 hK, show am_ob 447 11 = true from rfl, ax_gt]
    simp only [ax_a_448]
    rw [ax_gi (by omega) (by omega), hn, sh, if_pos k1, m_166 hK hn n0 n6, Option.bind_some]
    dsimp only []
    rw [unF_congr hL]
    unfold spF
    by_cases h : am_and x (am_xor (ax_fo (unF L k) (n - 0).toNat 0 0) (-1)) = 0
    · rw [if_pos h, if_pos h]
      by_cases h2 : s = -1
      · rw [if_pos h2, if_pos h2, if_neg (by decide), aq_286_52, e55]
      · rw [if_neg h2, if_neg h2, m_66 (by omega) (by omega), Option.bind_some]
        dsimp only []
        rw [m_66 k0 (by omega), Option.bind_some]
        dsimp only []
        have e204k := m_204 (d := d) (x := k) hK hn hT n0 n6 T0 T8 hw hL hV
        have e204s := m_204 (d := d) (x := s) hK hn hT n0 n6 T0 T8 hw hL hV
        generalize weF L V n T k = wk at *
        generalize weF L V n T s = ws at *
        generalize ax_cn k = ck at *
        generalize ax_cn s = cs at *
        rw [ax_w32 (x := cs - ck) (by omega) (by omega), ax_let]
        by_cases h3 : ck < cs
        · have g : ¬ (cs - ck ≤ 0) := by omega
          rw [if_neg g, spV_1 h3, if_neg (by decide), aq_286_52, e55]
        · have g : cs - ck ≤ 0 := by omega
          rw [if_pos g]
          by_cases h4 : ck = cs
          · have g2 : cs - ck = 0 := by omega
            rw [if_pos g2, e204k, Option.bind_some]
            dsimp only []
            rw [e204s, Option.bind_some]
            dsimp only []
            by_cases h5 : wk ≤ ws
            · rw [if_pos h5, spV_2 h3 h4 h5, if_pos rfl, e55]
            · rw [if_neg h5, spV_3 h3 h4 h5, if_neg (by decide), aq_286_52, e55]
          · have g2 : ¬ (cs - ck = 0) := by omega
            rw [if_neg g2, spV_4 h3 h4, if_pos rfl, e55]
    · rw [if_neg h, if_neg h, e55]
  · intro s _
    show am_Ex d 286 13 _ _ _ = _
    rw [aq_286_13, kr_447_0 hK, show am_ob 447 11 = true from rfl, ax_gt]
    simp only [ax_a_448]
    rw [ax_gi (by omega) (by omega), hn, sh, if_neg (by omega)]
theorem op_spies (a : RR M) {x : Int} (hx : -2147483648 ≤ x ∧ x < 2147483648) : OP d M 279 286 [(0, x)] := by
  have hK := a.1
  have g := a.2.1.1
  have bb := a.2.1.2.1
  have g8 := g.2.1
  have t8 := bb.1.1.2
  simp only [Int.reduceEq, Int.reduceNe, Int.reduceLT, Int.reduceLE, Int.reduceAdd, Int.reduceSub, Int.reduceMul, Int.reduceNeg, reduceIte, ite_true, ite_false, true_and, and_true, false_and, and_false, true_or, or_true, false_or, or_false, not_true_eq_false, not_false_eq_true, and_self, or_self, eq_self, ite_self, decide_true, decide_false, Bool.true_and, Bool.and_true, Bool.and_self, Bool.false_and, Int.add_zero, Int.zero_add] at g8
  have e108 := fun d => c_108 (d := d) (x := x) hK (RR_gB a)
  rw [ax_w32 hx.1 hx.2, g.1.1] at e108
  obtain ⟨P, W, cd, E, E2, S⟩ := RR_env a
  by_cases h1 : 0 ≤ x ∧ x < ((2 ^ (am_rd M 448 0).toNat : Nat) : Int)
  · obtain ⟨r1, M1, e1, v1, f1⟩ := c_241 (d := d) hK (RR_C a) E S (RR_H a) g.1.2.1 bb.1.2.1.1 bb.1.2.1.2
    have K1 := ax_Kp e1 hK rfl
    have j1 : ∀ c i, ¬ jk c i → am_rd M1 c i = am_rd M c i := fun c i h => by unfold jk at h; exact f1 c i (by omega) (by omega) (by omega)
    have a1 := RR_same a K1 j1
    have e2 := c_259s (d := d) (x := x) K1 (RR_gB a1) ((f1 _ _ (by omega) (by omega) (by omega)).trans g.1.2.1) ((f1 _ _ (by omega) (by omega) (by omega)).trans g.1.1) bb.1.2.1.1 bb.1.2.1.2 v1 (fun j j0 j2 => (f1 3 j (by omega) (by omega) (by omega)).trans (g8 j j0 (by omega)))
    refine OP_ro (r := ax_fo (spF (hHad (am_rd M 448 0) P W cd (fl M 448 60)) (fun t => am_rd M 448 (10 + t)) (am_rd M 448 1) (am_rd M 448 0) x) (((2 ^ (am_rd M 448 1).toNat : Nat) : Int) - 0).toNat 0 (-1)) a ?_ rfl ?_ rfl
    · rw [aq_279, kr_1_0 hK, show am_ob 1 10 = true from rfl, show am_ob 2 2 = true from rfl, ax_gt, ax_gt, e108, Option.bind_some]
      dsimp only []
      rw [if_neg (by rw [ax_b0]; exact fun q => q h1), kr_1_13 hK, show am_ob 442 7 = true from rfl, ax_gt, aq_259, show am_ob 442 7 = true from rfl, ax_gt, e1, Option.bind_some]
      rw [e2, Option.bind_some]
      exact ax_ok_some ⟨rfl, j1⟩
    · intro N a' f
      have F : FH N 448 60 (fl M 448 60) := fun j _ _ => f _ _ (by unfold jk; omega)
      have E3 : ME N (am_rd M 448 0) (am_rd M 448 1) (am_rd M 448 7) P W cd := ME_same E2 fun c i hc => f c i (by unfold jk; omega)
      have q8 : ∀ i, am_rd N 448 i = am_rd M 448 i := fun i => f _ _ (by unfold jk; omega)
      obtain ⟨r2, N1, e3, v3, f3⟩ := m_271 (d := d) a'.1 F E3 S (RR_H a) (q8 1) bb.1.2.1.1 bb.1.2.1.2 (kr_447_53 a'.1) (fun _ => ax_a_483)
      have K3 := ax_Kp e3 a'.1 rfl
      have p8 : ∀ i, am_rd N1 448 i = am_rd M 448 i := fun i => (f3 _ _ (by omega) (by omega) (by omega) (by omega) (by omega)).trans (q8 i)
      have e4 := m_286s (d := d) (x := x) K3 (p8 1) (p8 0) bb.1.2.1.1 bb.1.2.1.2 bb.1.1.1 bb.1.1.2 (fun j j0 j2 => by rw [p8]; exact bb.2.1 j j0 j2) v3 (fun j j0 j2 => p8 (10 + j))
      have e145 := m_145 (d := d) (x := x) a'.1 (RR_mB a')
      rw [q8 0] at e145
      rw [aq_286, show am_ob 447 11 = true from rfl, ax_gt, e145, Option.bind_some]
      dsimp only []
      rw [if_neg (by rw [ax_b0]; exact fun q => q h1), e3, Option.bind_some]
      dsimp only []
      rw [e4]
      exact ax_ok_some ⟨rfl, fun c i h => by unfold jk at h; exact f3 c i (by omega) (by omega) (by omega) (by omega) (by omega)⟩
  · refine ⟨-1, M, M, ?_, ?_, a⟩
    · rw [aq_279, kr_1_0 hK, show am_ob 1 10 = true from rfl, show am_ob 2 2 = true from rfl, ax_gt, ax_gt, e108, Option.bind_some]
      dsimp only []
      rw [if_pos (by rw [ax_b0]; exact h1)]
    · rw [aq_286, show am_ob 447 11 = true from rfl, ax_gt, m_145 hK (RR_mB a), Option.bind_some]
      dsimp only []
      rw [if_pos (by rw [ax_b0]; exact h1)]
end
