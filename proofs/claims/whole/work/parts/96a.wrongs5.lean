/-! wrongs: the model's search -/
section
variable {T n al c N B i k m : Int} {P W H0 : Int → Int} {cd : Int → Option (List (Int × Int))} {d : Nat}
theorem hFo_d {H : Int → Int} (T8 : T ≤ 8) (m0 : 0 ≤ m) (m1 : m < 6) : ax_fo (fun t H => hF P W cd m t H) (T - 0).toNat 0 H 162 = H 162 :=
  ax_fo_inv (P := fun _ (A : Int → Int) => A 162 = H 162) _ _ _ (fun t A t0 t1 h => (hF_d m0 m1 t0 (by omega)).trans h) rfl
theorem lwS_B {L : Int → Int} {H : Int → Int} (E : ES T n al P W cd) (B : HB T H) (m0 : 0 ≤ m) (m1 : m < 6) (h0 : 0 ≤ L i) (h1 : L i ≤ T) (hd : H 162 < 1300) : HB T (lwS T P W cd m k L i H) ∧ lwS T P W cd m k L i H 162 = H 162 + 1 := by
  have T8 := E.1
  have d0 := B.2.2.1
  unfold lwS hDay
  have key : ∀ A : Int → Int, HB T A → A 162 = H 162 → HB T (hu (ax_fo (fun t H => hF P W cd m t H) (T - 0).toNat 0 A) 162 (ax_fo (fun t H => hF P W cd m t H) (T - 0).toNat 0 A 162 + 1)) ∧ hu (ax_fo (fun t H => hF P W cd m t H) (T - 0).toNat 0 A) 162 (ax_fo (fun t H => hF P W cd m t H) (T - 0).toNat 0 A 162 + 1) 162 = H 162 + 1 := fun A hA e => by
    have e2 := hFo_d (P := P) (W := W) (cd := cd) (H := A) T8.2 m0 m1
    have hB : HB T (ax_fo (fun t H => hF P W cd m t H) (T - 0).toNat 0 A) := ax_fo_inv (P := fun _ (A : Int → Int) => HB T A) _ _ _ (fun t A t0 t1 h => HB_F E h m0 m1 t0 (by omega)) hA
    refine ⟨HB_day hB (by omega) (by omega), ?_⟩
    rw [hu_at, e2, e]
  split
  · exact key _ B rfl
  · exact key _ (HB_M E B m0 m1 (by omega) (by omega)) (hM_d m0 m1 (by omega) (by omega))
theorem m_268s (E : ES T n al P W cd) (m0 : 0 ≤ m) (m2 : m < n) (k0 : 1 ≤ k) (k1 : k ≤ 99) (N4 : N ≤ 4) {L : Int → Int} (hL : ∀ j, 0 ≤ j → j < N → 0 ≤ L j ∧ L j ≤ T) : ∀ (j : Nat) (i : Int) (H : Int → Int) (M : am_M), i + j = N → 0 ≤ i → ax_K M → NH M H → ME M T n al P W cd → HB T H → H 162 ≤ 999 + i → (∀ j, 0 ≤ j → j < N → am_rd M 478 j = L j) → ax_ok (am_Ex d 268 5 [(2, 447), (0, m), (0, N), (0, k), (0, i)] [] M) (fun r M' => r = ax_cn (hHad T P W cd (ax_fo (lwS T P W cd m k L) j i H) m) ∧ NF M M') := by
  have n6 := E.2.1
  have T8 := E.1
  intro j
  induction j with
  | zero =>
    intro i H M h i0 hK C CEm B hd hl
    obtain ⟨r, M1, e, q, f⟩ := m_251 (d := d) hK C CEm E B m0 (by omega)
    have hr := hHad_r (P := P) (W := W) (cd := cd) (H := H) (m := m) T8.2
    rw [← q] at hr
    rw [aq_268_5, if_neg (by omega), show am_ob 447 11 = true from rfl, ax_gt, e, Option.bind_some]
    dsimp only []
    rw [m_66 hr.1 hr.2, Option.bind_some]
    refine ax_ok_some ⟨?_, JF_NF f⟩
    rw [q]; rfl
  | succ j ih =>
    intro i H M h i0 hK C CEm B hd hl
    have li := hL i i0 (by omega)
    have ll := hl i i0 (by omega)
    have nx : ∀ (A : Int → Int) (M1 : am_M), ax_K M1 → NH M1 A → HB T A → A 162 = H 162 → NF M M1 → A = (if L i ≤ 0 then H else hM P W cd m (L i - 1) k H) → ax_ok (am_Ex d 268 24 [(2, 447), (0, m), (0, N), (0, k), (0, i)] [] M1) (fun r M' => r = ax_cn (hHad T P W cd (ax_fo (lwS T P W cd m k L) (j + 1) i H) m) ∧ NF M M') := fun A M1 K1 C1 B1 h162 F1 hA => by
      obtain ⟨r2, M2, e2, C2, F2⟩ := m_252 (d := d) K1 C1 (NF_ME CEm F1) E B1 m0 (by omega)
      have K2 := ax_Kp e2 K1 rfl
      have day : am_rd M2 447 47 = ax_fo (fun t H => hF P W cd m t H) (T - 0).toNat 0 A 162 := C2.2.2.2.2.2.2
      have e162 := hFo_d (P := P) (W := W) (cd := cd) (H := A) T8.2 m0 (by omega : m < 6)
      have d0 := B.2.2.1
      have kb := lwS_B (k := k) (L := L) (i := i) E B m0 (by omega) li.1 li.2 (by omega)
      have ek : hu (ax_fo (fun t H => hF P W cd m t H) (T - 0).toNat 0 A) 162 (ax_fo (fun t H => hF P W cd m t H) (T - 0).toNat 0 A 162 + 1) = lwS T P W cd m k L i H := by rw [hA]; rfl
      have C3 := NH_day (v := ax_fo (fun t H => hF P W cd m t H) (T - 0).toNat 0 A 162 + 1) C2
      rw [ek] at C3
      have F3 : NF M2 (am_wr M2 447 47 (ax_fo (fun t H => hF P W cd m t H) (T - 0).toNat 0 A 162 + 1)) := fun c x h1 h2 h3 h4 => if_neg h4
      have FF := NF_trans F1 (NF_trans F2 F3)
      rw [aq_268_24, show am_ob 447 11 = true from rfl, ax_gt, e2, Option.bind_some]
      dsimp only []
      rw [day, ax_w32 (x := ax_fo (fun t H => hF P W cd m t H) (T - 0).toNat 0 A 162 + 1) (by omega) (by omega), ax_let, ax_w32 (x := i + 1) (by omega) (by omega), ax_let]
      refine ax_ok_mono (ih (i + 1) _ _ (by omega) (by omega) (ax_Kw K2 rfl) C3 (NF_ME CEm FF) kb.1 (by rw [kb.2]; omega) (fun x x0 x1 => (FF 478 x (by omega) (by omega) (by omega) (by omega)).trans (hl x x0 x1))) fun r M' ⟨q, f⟩ => ⟨q, NF_trans FF f⟩
    rw [aq_268_5, if_pos (by omega), show am_ob 447 11 = true from rfl, ax_gt, kr_447_48 hK, ax_a_478, ax_gi (by omega) (by omega), ll]
    by_cases hz : L i ≤ 0
    · rw [if_pos hz]
      exact nx H M hK C B rfl NF_refl (if_pos hz).symm
    · obtain ⟨r1, M1, e1, C1, F1⟩ := m_254 (d := d) hK C CEm E B m0 (by omega) (t := L i - 1) (by omega) (by omega) k0 k1
      rw [if_neg hz, ax_w32 (x := L i - 1) (by omega) (by omega), e1, Option.bind_some]
      exact nx _ M1 (ax_Kp e1 hK rfl) C1 (HB_M E B m0 (by omega) (by omega) (by omega)) (hM_d m0 (by omega) (by omega) (by omega)) F1 (if_neg hz).symm
def LB (N T c : Int) (P W : Int → Int) (cd : Int → Option (List (Int × Int))) (m k : Int) (H0 : Int → Int) (p : Int) : Int := ax_cn (hHad T P W cd (lv N T P W cd m k H0 (ckD c N p)) m)
/-- what the model's weighing leaves alone -/
def MZ (M M' : am_M) : Prop := ∀ x i, x ≠ 470 → x ≠ 471 → (x < 472 ∨ 479 < x) → ¬ (x = 447 ∧ i = 47) → am_rd M' x i = am_rd M x i
theorem m_285s (E : ES T n al P W cd) (hc : T + 1 = c) (m0 : 0 ≤ m) (m2 : m < n) (k0 : 1 ≤ k) (k1 : k ≤ 99) (N1 : 1 ≤ N) (N4 : N ≤ 4) (i0 : -1 ≤ i) (i1 : i < N) (HBB : HB T H0) (hd : H0 162 ≤ 999) (L : Int) (L1 : L ≤ 6561) : ∀ (j : Nat) (p : Int) (a : Int × Int) (M : am_M), p + j = L → 0 ≤ p → ax_K M → FH M 448 60 H0 → ME M T n al P W cd → (a.1 = -1 ∨ (0 ≤ a.1 ∧ ∀ j, 0 ≤ j → j < N → am_rd M 479 j = dgt c (N - 1 - j).toNat a.2)) → ax_ok (am_Ex d 285 53 [(2, 447), (0, m), (0, N), (0, k), (0, B), (0, i), (0, L), (0, a.1), (0, p), am_N, am_N] [] M) (fun r M' => r = wrR c N i (ax_fo (wsF c N.toNat B (LB N T c P W cd m k H0)) j p a) ∧ MZ M M') := by
  have n6 := E.2.1
  have T8 := E.1
  have c0 : 0 < c := by omega
  intro j
  induction j with
  | zero =>
    intro p a M h p0 hK F CEm ha
    obtain ⟨f, b⟩ := a
    show ax_ok (am_Ex d 285 53 [(2, 447), (0, m), (0, N), (0, k), (0, B), (0, i), (0, L), (0, f), (0, p), am_N, am_N] [] M) (fun r M' => r = wrR c N i (f, b) ∧ _)
    unfold wrR
    dsimp only at ha ⊢
    rw [aq_285_53, if_neg (by omega)]
    by_cases hf : f = -1
    · rw [if_pos hf, aq_285_103, if_pos (Or.inl hf)]
      exact ax_ok_some ⟨rfl, fun _ _ _ _ _ _ => rfl⟩
    · rw [if_neg hf]
      by_cases hi : i = -1
      · rw [if_pos hi, aq_285_103, if_pos (Or.inr hi)]
        exact ax_ok_some ⟨rfl, fun _ _ _ _ _ _ => rfl⟩
      · rcases ha with ha | ha
        · exact absurd ha hf
        have hd := ha.2 i (by omega) i1
        have hr := dgt_r (c := c) c0 (N - 1 - i).toNat b
        have hw : ¬ (f = -1 ∨ i = -1) := by omega
        rw [if_neg hi, show am_ob 447 11 = true from rfl, ax_gt, kr_447_49 hK, ax_a_479, ax_gi (by omega) (by omega), hd, if_neg hw]
        by_cases hz : dgt c (N - 1 - i).toNat b = 0
        · rw [if_pos hz, if_pos hz]
          exact ax_ok_some ⟨rfl, fun _ _ _ _ _ _ => rfl⟩
        · rw [if_neg hz, if_neg hz, ax_w32 (by omega) (by omega)]
          exact ax_ok_some ⟨rfl, fun _ _ _ _ _ _ => rfl⟩
  | succ j ih =>
    intro p a M h p0 hK F CEm ha
    obtain ⟨f, b⟩ := a
    dsimp only at ha
    have next : ∀ (g : Int × Int) (M1 : am_M), ax_K M1 → (g.1 = -1 ∨ (0 ≤ g.1 ∧ ∀ j, 0 ≤ j → j < N → am_rd M1 479 j = dgt c (N - 1 - j).toNat g.2)) → MZ M M1 → ax_ok (am_Ex d 285 94 [(2, 447), (0, m), (0, N), (0, k), (0, B), (0, i), (0, L), (0, g.1), (0, p), am_N, am_N] [] M1) (fun r M' => r = wrR c N i (ax_fo (wsF c N.toNat B (LB N T c P W cd m k H0)) j (p + 1) g) ∧ MZ M M') := fun g M1 K1 a1 f1 => by
      rw [aq_285_94, ax_w32 (x := p + 1) (by omega) (by omega), ax_let]
      exact ax_ok_mono (ih (p + 1) g M1 (by omega) (by omega) K1 (fun x x0 x1 => (f1 448 _ (by omega) (by omega) (by omega) (by omega)).trans (F x x0 x1)) (ME_same CEm fun x y hx => f1 x y (by omega) (by omega) (by omega) (by omega)) a1) fun r M' ⟨q, f⟩ => ⟨q, fun x y h1 h2 h3 h4 => (f x y h1 h2 h3 h4).trans (f1 x y h1 h2 h3 h4)⟩
    obtain ⟨r3, M3, e3, q3, l3, -, f3⟩ := m_93l (d := d) hc T8.1 T8.2 N.toNat M p 0 (by omega) hK CEm.1.1 p0 (by omega) (by omega) (by omega)
    have K3 := ax_KE (r := (r3, M3)) rfl hK e3
    have eN : ((N.toNat : Nat) : Int) = N := by omega
    rw [eN] at e3 l3
    have q3 : r3 = clz c N.toNat p := by omega
    have cz := clz_r (c := c) N.toNat p
    have e93 : am_Call d 93 [(2, 447), (0, p), (0, N)] M = some (r3, M3) := by
      rw [aq_93, ax_w32 (by omega) (by omega), ax_let]
      exact e3
    have Z3 : MZ M M3 := fun x y h1 h2 h3 h4 => f3 x y (by omega)
    have dg : ∀ j, 0 ≤ j → j < N → 0 ≤ ckD c N p j ∧ ckD c N p j ≤ T := fun j j0 j1 => by
      have := dgt_r (c := c) c0 (N - 1 - j).toNat p
      unfold ckD
      omega
    obtain ⟨x1, N1', y1, D1, F1⟩ := m_88 (d := d) K3 (H := H0) (fun x x0 x1 => (f3 448 _ (by omega)).trans (F x x0 x1))
    have L1' := ax_Kp y1 K3 rfl
    have ME3 : ME M3 T n al P W cd := ME_same CEm fun x y hx => f3 x y (by omega)
    obtain ⟨r4, M4, e4, q4, F4⟩ := m_268s (d := d) E m0 m2 k0 k1 N4 dg N.toNat 0 H0 N1' (by omega) (by omega) L1' D1 (NF_ME ME3 F1) HBB (by omega) (fun x x0 x1 => (F1 478 x (by omega) (by omega) (by omega) (by omega)).trans (l3 x x0 x1))
    have K4 := ax_KE (r := (r4, M4)) rfl L1' e4
    have FF := NF_trans F1 F4
    have e268 : am_Call d 268 [(2, 447), (0, m), (0, N), (0, k)] M3 = some (r4, M4) := by
      rw [aq_268, show am_ob 447 11 = true from rfl, ax_gt, y1, Option.bind_some]
      exact e4
    have q4 : r4 = LB N T c P W cd m k H0 p := q4
    have Z4 : MZ M M4 := fun x y h1 h2 h3 h4 => (FF x y h1 h2 (by omega) h4).trans (f3 x y (by omega))
    show ax_ok (am_Ex d 285 53 [(2, 447), (0, m), (0, N), (0, k), (0, B), (0, i), (0, L), (0, f), (0, p), am_N, am_N] [] M) (fun r M' => r = wrR c N i (ax_fo (wsF c N.toNat B (LB N T c P W cd m k H0)) j (p + 1) (wsF c N.toNat B (LB N T c P W cd m k H0) p (f, b))) ∧ MZ M M')
    have e68 : (f = -1 ∨ clz c N.toNat p < f) → ax_ok (am_Ex d 285 68 [(2, 447), (0, m), (0, N), (0, k), (0, B), (0, i), (0, L), (0, f), (0, p), (0, r3), am_N] [] M3) (fun r M' => r = wrR c N i (ax_fo (wsF c N.toNat B (LB N T c P W cd m k H0)) j (p + 1) (wsF c N.toNat B (LB N T c P W cd m k H0) p (f, b))) ∧ MZ M M') := fun hf => by
      rw [aq_285_68, show am_ob 447 11 = true from rfl, ax_gt, e268, Option.bind_some]
      dsimp only []
      unfold wsF
      by_cases hb : LB N T c P W cd m k H0 p ≤ B
      · rw [if_pos (by omega), if_pos ⟨hf, hb⟩]
        have cp : ∀ (jj : Nat) (x : Int) (M5 : am_M), x + jj = N → 0 ≤ x → ax_K M5 → (∀ y, 0 ≤ y → y < x → am_rd M5 479 y = dgt c (N - 1 - y).toNat p) → (∀ y z, y ≠ 479 → am_rd M5 y z = am_rd M4 y z) → ax_ok (am_Ex d 285 80 [(2, 447), (0, m), (0, N), (0, k), (0, B), (0, i), (0, L), (0, r3), (0, p), am_N, (0, x)] [] M5) (fun r M' => r = wrR c N i (ax_fo (wsF c N.toNat B (LB N T c P W cd m k H0)) j (p + 1) (clz c N.toNat p, p)) ∧ MZ M M') := by
          intro jj
          induction jj with
          | zero =>
            intro x M5 hx x0 K5 l5 f5
            rw [aq_285_80, if_neg (by omega), q3]
            exact next (clz c N.toNat p, p) M5 K5 (Or.inr ⟨cz.1, fun y y0 y1 => l5 y y0 (by omega)⟩) fun y z h1 h2 h3 h4 => (f5 y z (by omega)).trans (Z4 y z h1 h2 h3 h4)
          | succ jj ih2 =>
            intro x M5 hx x0 K5 l5 f5
            have g5 : am_rd M5 478 x = dgt c (N - 1 - x).toNat p := (f5 478 x (by omega)).trans ((FF 478 x (by omega) (by omega) (by omega) (by omega)).trans (l3 x x0 (by omega)))
            rw [aq_285_80, if_pos (by omega), show am_ob 447 11 = true from rfl, ax_gt, kr_447_48 K5, kr_447_49 K5, ax_a_478, ax_gi (by omega) (by omega), ax_a_479, ax_gi (by omega) (by omega), g5, ax_let, ax_w32 (x := x + 1) (by omega) (by omega), ax_let]
            refine ih2 (x + 1) _ (by omega) (by omega) (ax_Kw K5 rfl) (fun y y0 y1 => ?_) (fun y z hy => (ax_wc hy).trans (f5 y z hy))
            by_cases ey : y = x
            · rw [ey, ax_ws]
            · rw [ax_wi ey]; exact l5 y y0 (by omega)
        exact cp N.toNat 0 M4 (by omega) (by omega) K4 (fun y h0 h1 => by omega) fun _ _ _ => rfl
      · rw [if_neg (by omega), if_neg (fun q => hb q.2)]
        refine next (f, b) M4 K4 ?_ Z4
        rcases ha with ha | ha
        · exact Or.inl ha
        · exact Or.inr ⟨ha.1, fun y y0 y1 => (FF 479 y (by omega) (by omega) (by omega) (by omega)).trans ((f3 479 y (by omega)).trans (ha.2 y y0 y1))⟩
    rw [aq_285_53, if_pos (by omega), show am_ob 447 11 = true from rfl, ax_gt, e93, Option.bind_some]
    dsimp only []
    by_cases h1 : f = -1
    · rw [if_pos h1]
      exact e68 (Or.inl h1)
    · rw [if_neg h1]
      by_cases h2 : clz c N.toNat p < f
      · rw [if_pos (by omega)]
        exact e68 (Or.inr h2)
      · rw [if_neg (by omega)]
        have : wsF c N.toNat B (LB N T c P W cd m k H0) p (f, b) = (f, b) := if_neg fun q => q.1.elim h1 h2
        rw [this]
        refine next (f, b) M3 K3 ?_ Z3
        rcases ha with ha | ha
        · exact Or.inl ha
        · exact Or.inr ⟨ha.1, fun y y0 y1 => (f3 479 y (by omega)).trans (ha.2 y y0 y1)⟩
/-- both weigh alike -/
theorem ck_LB (E : ES T n al P W cd) (hc : T + 1 = c) (m0 : 0 ≤ m) (m2 : m < n) (N1 : 1 ≤ N) (N4 : N ≤ 4) (HBB : HB T H0) (p : Int) (hv : ∀ t, 0 ≤ t → t < T → lx_val 0 (cd 0) (lx_nm P W (lv N T P W cd m k H0 (ckD c N p)) m t 0) = 0 ∨ lx_val 0 (cd 0) (lx_nm P W (lv N T P W cd m k H0 (ckD c N p)) m t 0) = 1) : ck c N T (kv N P W cd m k H0) p = LB N T c P W cd m k H0 p := by
  have n6 := E.2.1
  have T8 := E.1
  have c0 : 0 < c := by omega
  unfold LB hHad
  rw [cn_sum T8.1 T8.2 (fun t t0 t1 => hv t t0 t1)]
  unfold ck
  refine ax_fo_congr _ _ _ fun t s t0 t1 => ?_
  obtain ⟨b1, b2⟩ := ns_b (D := ckD c N p) (t := t) (by omega : 0 ≤ N) N4
  rw [kv_lv (S := ax_fo (nsF (ckD c N p) t) (N - 0).toNat 0 0) m0 (by omega) t0 (by omega) T8.2 (by omega) (fun i i0 i1 => by
    have := dgt_r (c := c) c0 (N - 1 - i).toNat p
    unfold ckD
    omega) b2]
end
