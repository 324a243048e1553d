/-! wrongs: the developers' weighing -/
theorem kp_ar {t i : Int} (t0 : 0 ≤ t) (t1 : t < 8) : am_ar (432 + t) 20 i = (decide (0 ≤ i) && decide (i < 16)) := by
  have h : t = 0 ∨ t = 1 ∨ t = 2 ∨ t = 3 ∨ t = 4 ∨ t = 5 ∨ t = 6 ∨ t = 7 := by omega
  rcases h with rfl | rfl | rfl | rfl | rfl | rfl | rfl | rfl <;> rfl
theorem kp_kd {t : Int} (t0 : 0 ≤ t) (t1 : t < 8) : am_kd (432 + t) = 20 := by
  have h : t = 0 ∨ t = 1 ∨ t = 2 ∨ t = 3 ∨ t = 4 ∨ t = 5 ∨ t = 6 ∨ t = 7 := by omega
  rcases h with rfl | rfl | rfl | rfl | rfl | rfl | rfl | rfl <;> rfl
theorem kp_rf {M : am_M} {t : Int} (hK : ax_K M) (t0 : 0 ≤ t) (t1 : t < 8) : am_rd M 431 t = 432 + t := by
  have h := hK.2 431 t (by show (decide (0 ≤ t) && decide (t < 8)) = true; rw [decide_eq_true t0, decide_eq_true t1]; rfl)
  rw [h]
  show (431 : Int) + 1 + t = 432 + t
  omega
/-- what weighing leaves alone -/
def WZ (M M' : am_M) : Prop := ∀ c i, ¬ (c = 40 ∨ c = 41 ∨ (425 ≤ c ∧ c ≤ 430) ∨ (432 ≤ c ∧ c ≤ 439)) → am_rd M' c i = am_rd M c i
section
variable {T n al N : Int} {P W H0 : Int → Int} {cd : Int → Option (List (Int × Int))} {m t k S : Int} {d : Nat}
theorem hF_d {H : Int → Int} (m0 : 0 ≤ m) (m1 : m < 6) (t0 : 0 ≤ t) (t1 : t < 8) : hF P W cd m t H 162 = H 162 := hF_o m0 m1 t0 t1 (by omega)
theorem hM_d {H : Int → Int} (m0 : 0 ≤ m) (m1 : m < 6) (t0 : 0 ≤ t) (t1 : t < 8) : hM P W cd m t k H 162 = H 162 := by
  unfold hM hW hR
  split <;> simp (disch := omega) only [hu, if_neg]
theorem kwS_B {i : Int} {H : Int → Int} (E : ES T n al P W cd) (B : HB T H) (m0 : 0 ≤ m) (m1 : m < 6) (t0 : 0 ≤ t) (t1 : t < T) (hd : H 162 < 1300) : HB T (kwS P W cd m t k S i H) ∧ kwS P W cd m t k S i H 162 = H 162 + 1 := by
  have := E.1
  have d0 := B.2.2.1
  unfold kwS hDay
  have key : ∀ A : Int → Int, HB T A → A 162 = H 162 → HB T (hu (hF P W cd m t A) 162 (hF P W cd m t A 162 + 1)) ∧ hu (hF P W cd m t A) 162 (hF P W cd m t A 162 + 1) 162 = H 162 + 1 := fun A hA e => by
    have e2 := hF_d (P := P) (W := W) (cd := cd) (H := A) m0 m1 t0 (by omega : t < 8)
    refine ⟨HB_day (HB_F E hA m0 m1 t0 t1) (by omega) (by omega), ?_⟩
    rw [hu_at, e2, e]
  split
  · exact key _ (HB_M E B m0 m1 t0 t1) (hM_d m0 m1 t0 (by omega))
  · exact key _ B rfl
/-- behind all nights of a set -/
theorem c_236c (E : ES T n al P W cd) (m0 : 0 ≤ m) (m2 : m < n) (t0 : 0 ≤ t) (t1 : t < T) (S0 : 0 ≤ S) (S1 : S < 16) (k0 : 1 ≤ k) (k1 : k ≤ 99) (N4 : N ≤ 4) {Q : Int → am_M → Prop} : ∀ (j : Nat) (i : Int) (H : Int → Int) (M : am_M), i + j = N → 0 ≤ i → ax_K M → CH M 425 n H → CE M T n al P W cd → HB T H → H 162 ≤ 999 + i → (∀ M2, ax_K M2 → am_rd M2 (432 + t) S = lx_val 0 (cd 0) (lx_nm P W (ax_fo (kwS P W cd m t k S) j i H) m t 0) → (∀ c x, ¬ (c = 40 ∨ c = 41 ∨ (425 ≤ c ∧ c ≤ 430) ∨ (c = 432 + t ∧ x = S)) → am_rd M2 c x = am_rd M c x) → ax_ok (am_Ex d 236 14 [(2, 424), (0, m), (0, N), (0, k), (0, t), (0, S + 1), am_N] [] M2) Q) → ax_ok (am_Ex d 236 30 [(2, 424), (0, m), (0, N), (0, k), (0, t), (0, S), (0, i)] [] M) Q := by
  have n6 := E.2.1
  have T8 := E.1
  intro j
  induction j with
  | zero =>
    intro i H M h i0 hK C CEm B hd hQ
    obtain ⟨r, M1, e, q, f⟩ := c_174 (d := d) hK (Or.inr rfl) C CEm E B m0 m2 t0 (by omega) (l := 0) (k := 0) (by omega) (by omega) (by omega) (by omega)
    have K1 := ax_Kp e hK rfl
    rw [aq_236_30, if_neg (by omega), show am_ob 424 1 = true from rfl, ax_gt, kr_424_5 hK, kr_424_4 hK, kr_424_2 hK, ax_q_431, ax_gi (by omega) (by omega), show am_ob 39 4 = true from rfl, ax_gt, e, Option.bind_some]
    dsimp only []
    rw [kp_rf hK t0 (by omega), kp_ar t0 (by omega), ax_gi (by omega) (by omega), ax_let, ax_w32 (x := S + 1) (by omega) (by omega), ax_let]
    refine hQ _ (ax_Kwa K1 (kp_kd t0 (by omega)) fun _ => rfl) (ax_ws.trans q) fun c x hc => ?_
    by_cases e1 : c = 432 + t ∧ x = S
    · exact absurd (Or.inr (Or.inr (Or.inr e1))) hc
    · exact (if_neg e1).trans (f c x (by omega) (by omega))
  | succ j ih =>
    intro i H M h i0 hK C CEm B hd hQ
    have fade : ∀ (A : Int → Int) (M1 : am_M), ax_K M1 → CH M1 425 n A → CE M1 T n al P W cd → HB T A → A 162 = H 162 → (∀ c x, ¬ (c = 40 ∨ c = 41 ∨ (425 ≤ c ∧ c ≤ 430)) → am_rd M1 c x = am_rd M c x) → A = (if am_and (am_shr S i) 1 = 1 then hM P W cd m t k H else H) → ax_ok (am_Ex d 236 48 [(2, 424), (0, m), (0, N), (0, k), (0, t), (0, S), (0, i)] [] M1) Q := fun A M1 K1 C1 E1 B1 h162 f1 hA => by
      obtain ⟨r2, M2, e2, C2, F2⟩ := c_208 (d := d) K1 (Or.inr rfl) C1 E1 E B1 m0 m2 t0 t1
      have K2 := ax_Kp e2 K1 rfl
      have e162 := hF_d (P := P) (W := W) (cd := cd) (H := A) m0 (by omega : m < 6) t0 (by omega : t < 8)
      have day : am_rd M2 425 6 = hF P W cd m t A 162 := C2.2.2.2.2.2.2.2.1
      have d0 := B.2.2.1
      obtain ⟨K3, C3, F3⟩ := c_day K2 (Or.inr rfl) C2 (v := hF P W cd m t A 162 + 1)
      rw [aq_236_48, show am_ob 424 1 = true from rfl, ax_gt, kr_424_3 K1, kr_424_4 K1, show am_ob 42 0 = true from rfl, ax_gt, e2, Option.bind_some]
      dsimp only []
      rw [kr_424_4 K2, show am_ob 425 3 = true from rfl, ax_gt, day, ax_w32 (x := hF P W cd m t A 162 + 1) (by omega) (by omega), ax_let, ax_w32 (x := i + 1) (by omega) (by omega), ax_let]
      have kb := kwS_B (k := k) (S := S) (i := i) E B m0 (by omega) t0 t1 (by omega)
      have ek : hu (hF P W cd m t A) 162 (hF P W cd m t A 162 + 1) = kwS P W cd m t k S i H := by rw [hA]; rfl
      rw [ek] at C3
      refine ih (i + 1) _ _ (by omega) (by omega) K3 C3 (HF_CE (Or.inr rfl) (HF_CE (Or.inr rfl) E1 F2) F3) kb.1 (by rw [kb.2]; omega) fun M4 K4 q4 f4 => hQ M4 K4 q4 fun c x hc => ?_
      exact (f4 c x hc).trans ((F3 c x (by omega) (by omega) (by omega)).trans ((F2 c x (by omega) (by omega) (by omega)).trans (f1 c x (by omega))))
    rw [aq_236_30, if_pos (by omega)]
    by_cases hb : am_and (am_shr S i) 1 = 1
    · obtain ⟨r1, M1, e1, C1, F1⟩ := c_207 (d := d) hK (Or.inr rfl) C CEm E B m0 m2 t0 t1 k0 k1
      rw [if_neg (by omega), show am_ob 424 1 = true from rfl, ax_gt, kr_424_3 hK, kr_424_4 hK, show am_ob 42 0 = true from rfl, ax_gt, e1, Option.bind_some]
      exact fade _ M1 (ax_Kp e1 hK rfl) C1 (HF_CE (Or.inr rfl) CEm F1) (HB_M E B m0 (by omega) t0 t1) (hM_d m0 (by omega) t0 (by omega)) (fun c x hc => F1 c x (by omega) (by omega) (by omega)) (if_pos hb).symm
    · rw [if_pos (by have := ax_01 (am_shr S i); omega)]
      exact fade H M hK C CEm B rfl (fun _ _ _ => rfl) (if_neg hb).symm
/-- the sets of nights of a turn -/
theorem c_236b (E : ES T n al P W cd) (m0 : 0 ≤ m) (m2 : m < n) (t0 : 0 ≤ t) (t1 : t < T) (k0 : 1 ≤ k) (k1 : k ≤ 99) (N1 : 1 ≤ N) (N4 : N ≤ 4) (B : HB T H0) (hd : H0 162 ≤ 999) {Z : Int} (hZ : am_shl 1 N = Z) (Z16 : Z ≤ 16) {Q : Int → am_M → Prop} : ∀ (j : Nat) (S : Int) (M : am_M), S + j = Z → 0 ≤ S → ax_K M → CH M 8 n H0 → CE M T n al P W cd → (∀ M2, ax_K M2 → (∀ s, S ≤ s → s < Z → am_rd M2 (432 + t) s = kv N P W cd m k H0 t s) → (∀ c x, ¬ (c = 40 ∨ c = 41 ∨ (425 ≤ c ∧ c ≤ 430) ∨ (c = 432 + t ∧ S ≤ x ∧ x < Z)) → am_rd M2 c x = am_rd M c x) → ax_ok (am_Ex d 236 82 [(2, 424), (0, m), (0, N), (0, k), (0, t), am_N, am_N] [] M2) Q) → ax_ok (am_Ex d 236 14 [(2, 424), (0, m), (0, N), (0, k), (0, t), (0, S), am_N] [] M) Q := by
  have T8 := E.1
  intro j
  induction j with
  | zero =>
    intro S M h S0 hK C CEm hQ
    rw [aq_236_14, hZ, if_neg (by omega)]
    exact hQ M hK (fun s h1 h2 => by omega) fun _ _ _ => rfl
  | succ j ih =>
    intro S M h S0 hK C CEm hQ
    obtain ⟨r, M1, e, c, f⟩ := c_22 (d := d) hK (h := 425) (h2 := 8) rfl rfl (by decide)
    have K1 := ax_Kp e hK rfl
    rw [aq_236_14, hZ, if_pos (by omega), if_pos (by omega), show am_ob 424 1 = true from rfl, ax_gt, kr_424_4 hK, kr_424_1 hK, show am_ob 425 3 = true from rfl, ax_gt, e, Option.bind_some]
    refine c_236c E m0 m2 t0 t1 S0 (by omega) k0 k1 N4 N.toNat 0 H0 M1 (by omega) (by omega) K1 (hCp_CH c C) (CE_same CEm fun c i hc => f c i (by omega)) B (by omega) fun M2 K2 q2 f2 => ?_
    have g2 : ∀ c x, ¬ (c = 40 ∨ c = 41 ∨ (425 ≤ c ∧ c ≤ 430) ∨ (c = 432 + t ∧ x = S)) → am_rd M2 c x = am_rd M c x := fun c x hc => (f2 c x hc).trans (f c x (by omega))
    refine ih (S + 1) M2 (by omega) (by omega) K2 (CH_same C fun c i h1 h2 => g2 c i (by omega)) (CE_same CEm fun c i hc => g2 c i (by omega)) fun M3 K3 q3 f3 => hQ M3 K3 (fun s s0 s1 => ?_) fun c x hc => ?_
    · by_cases es : s = S
      · rw [es, f3 _ _ (by omega)]
        exact q2
      · exact q3 s (by omega) s1
    · exact (f3 c x (by omega)).trans (g2 c x (by omega))
theorem c_236a (E : ES T n al P W cd) (m0 : 0 ≤ m) (m2 : m < n) (k0 : 1 ≤ k) (k1 : k ≤ 99) (N1 : 1 ≤ N) (N4 : N ≤ 4) (B : HB T H0) (hd : H0 162 ≤ 999) {Z : Int} (hZ : am_shl 1 N = Z) (Z0 : 0 ≤ Z) (Z16 : Z ≤ 16) : ∀ (j : Nat) (t : Int) (M : am_M), t + j = T → 0 ≤ t → ax_K M → CH M 8 n H0 → CE M T n al P W cd → ax_ok (am_Ex d 236 3 [(2, 424), (0, m), (0, N), (0, k), (0, t), am_N, am_N] [] M) (fun _ M' => (∀ u s, t ≤ u → u < T → 0 ≤ s → s < Z → am_rd M' (432 + u) s = kv N P W cd m k H0 u s) ∧ ∀ c x, ¬ (c = 40 ∨ c = 41 ∨ (425 ≤ c ∧ c ≤ 430) ∨ (432 + t ≤ c ∧ c < 432 + T)) → am_rd M' c x = am_rd M c x) := by
  have T8 := E.1
  intro j
  induction j with
  | zero =>
    intro t M h t0 hK C CEm
    rw [aq_236_3, show am_ob 424 1 = true from rfl, ax_gt, kr_424_0 hK, show am_ob 2 2 = true from rfl, ax_gt, CEm.1.1, if_neg (by omega)]
    exact ax_ok_some ⟨fun u s h1 h2 => by omega, fun _ _ _ => rfl⟩
  | succ j ih =>
    intro t M h t0 hK C CEm
    rw [aq_236_3, show am_ob 424 1 = true from rfl, ax_gt, kr_424_0 hK, show am_ob 2 2 = true from rfl, ax_gt, CEm.1.1, if_pos (by omega), if_pos (by omega)]
    refine c_236b E m0 m2 t0 (by omega) k0 k1 N1 N4 B hd hZ Z16 Z.toNat 0 M (by omega) (by omega) hK C CEm fun M2 K2 q2 f2 => ?_
    rw [aq_236_82, ax_w32 (by omega) (by omega), ax_let]
    obtain ⟨r, M3, e3, q3, f3⟩ := ih (t + 1) M2 (by omega) (by omega) K2 (CH_same C fun c i h1 h2 => f2 c i (by omega)) (CE_same CEm fun c i hc => f2 c i (by omega))
    refine ⟨r, M3, e3, fun u s u0 u1 s0 s1 => ?_, fun c x hc => ?_⟩
    · by_cases eu : u = t
      · rw [eu, f3 _ _ (by omega)]
        exact q2 s s0 s1
      · exact q3 u s (by omega) u1 s0 s1
    · exact (f3 c x (by omega)).trans (f2 c x (by omega))
end
