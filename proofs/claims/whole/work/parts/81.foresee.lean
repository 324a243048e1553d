/-! foretold, free, lasts: the developers' loops -/
def fz (s : (Int → Int) → (Int → Int)) (m : Int) : Nat → Int → (Int → Int) → Int
  | 0, _, _ => -1
  | j + 1, k, H => if H (156 + m) = 0 then fz s m j (k + 1) (s H) else k
def lz (s : (Int → Int) → (Int → Int)) (v : (Int → Int) → Int) (m : Int) : Nat → Int → (Int → Int) → Int
  | 0, _, _ => -1
  | j + 1, k, H => if H (156 + m) = 0 then (if v (s H) = 0 then k else lz s v m j (k + 1) (s H)) else -1
section
variable {T n al N : Int} {P W : Int → Int} {cd : Int → Option (List (Int × Int))} {m t : Int} {d : Nat}
theorem HF_jk {M M' : am_M} (f : HF M M' 425) : ∀ c i, ¬ jk c i → am_rd M' c i = am_rd M c i := fun c i h => by
  unfold jk at h
  exact f c i (by omega) (by omega) (by omega)
theorem fs_ni {H : Int → Int} {a b : Int} (S : ES T n al P W cd) (B : HB T H) (a0 : 0 ≤ a) (b0 : b ≤ 6) {k : Int} (hd : H 162 ≤ 999 + k) (k1 : k ≤ 200) : HB T (hNi T al P W cd a b H) ∧ hNi T al P W cd a b H 162 ≤ 999 + (k + 1) := by
  refine ⟨HB_Ni S B a0 b0 (by omega), ?_⟩
  rw [hNi_day S a0 b0]
  omega
theorem c_273s (S : ES T n al P W cd) (m0 : 0 ≤ m) (m2 : m < n) (hN : N ≤ 60) : ∀ (j : Nat) (k : Int) (H : Int → Int) (M : am_M), k + j = N → 0 ≤ k → ax_K M → CH M 425 n H → CE M T n al P W cd → HB T H → H 162 ≤ 999 + k → ax_ok (am_Ex d 273 8 [(2, 424), (0, N), (0, m), (0, k)] [] M) (fun r M' => r = hHad T P W cd (ax_fo (fun _ H => hNi T al P W cd m (m + 1) H) j k H) m ∧ ∀ c i, ¬ jk c i → am_rd M' c i = am_rd M c i) := by
  have n6 := S.2.1
  intro j
  induction j with
  | zero =>
    intro k H M h k0 hK C E B hd
    obtain ⟨r, M1, e, q, f⟩ := c_209 (d := d) hK (Or.inr rfl) C E S B m0 m2
    rw [aq_273_8, if_neg (by omega), kr_424_2 hK, kr_424_4 hK, show am_ob 424 1 = true from rfl, show am_ob 39 4 = true from rfl, ax_gt, ax_gt, e, Option.bind_some]
    exact ax_ok_some ⟨q, JF_jk f⟩
  | succ j ih =>
    intro k H M h k0 hK C E B hd
    obtain ⟨r, M1, e, C1, F1⟩ := c_256 (d := d) hK (Or.inr rfl) C E S B (a := m) (b := m + 1) m0 (by omega) (by omega) (by omega)
    obtain ⟨B1, d1⟩ := fs_ni (a := m) (b := m + 1) S B m0 (by omega) hd (by omega)
    rw [aq_273_8, if_pos (by omega), kr_424_3 hK, kr_424_4 hK, show am_ob 424 1 = true from rfl, show am_ob 42 0 = true from rfl, ax_gt, ax_gt, ax_w32 (x := m + 1) (by omega) (by omega), e, Option.bind_some]
    dsimp only []
    rw [ax_w32 (x := k + 1) (by omega) (by omega), ax_let]
    exact ax_ok_mono (ih (k + 1) _ M1 (by omega) (by omega) (ax_Kp e hK rfl) C1 (HF_CE (Or.inr rfl) E F1) B1 d1) fun r M' ⟨q, f⟩ => ⟨q, fun c i hc => (f c i hc).trans (HF_jk F1 c i hc)⟩
theorem c_274s (S : ES T n al P W cd) (m0 : 0 ≤ m) (m2 : m < n) (hN : N ≤ 60) : ∀ (j : Nat) (k : Int) (H : Int → Int) (M : am_M), k + j = N + 1 → 0 ≤ k → ax_K M → CH M 425 n H → CE M T n al P W cd → HB T H → H 162 ≤ 999 + k → ax_ok (am_Ex d 274 8 [(2, 424), (0, N), (0, m), (0, k)] [] M) (fun r M' => r = fz (hNi T al P W cd m (m + 1)) m j k H ∧ ∀ c i, ¬ jk c i → am_rd M' c i = am_rd M c i) := by
  have n6 := S.2.1
  intro j
  induction j with
  | zero =>
    intro k H M h k0 hK C E B hd
    rw [aq_274_8, if_neg (by omega)]
    exact ax_ok_some ⟨rfl, fun _ _ _ => rfl⟩
  | succ j ih =>
    intro k H M h k0 hK C E B hd
    rw [aq_274_8, if_pos (by omega), kr_424_4 hK, show am_ob 424 1 = true from rfl, show am_ob 425 3 = true from rfl, ax_gt, ax_gt, c_25 hK (Or.inr rfl) C m0 (by omega), Option.bind_some]
    dsimp only []
    by_cases hf : H (156 + m) = 0
    · obtain ⟨r, M1, e, C1, F1⟩ := c_256 (d := d) hK (Or.inr rfl) C E S B (a := m) (b := m + 1) m0 (by omega) (by omega) (by omega)
      obtain ⟨B1, d1⟩ := fs_ni (a := m) (b := m + 1) S B m0 (by omega) hd (by omega)
      rw [if_pos (by rw [ax_b0]; exact fun q => q hf), kr_424_3 hK, kr_424_4 hK, show am_ob 42 0 = true from rfl, ax_gt, ax_w32 (x := m + 1) (by omega) (by omega), e, Option.bind_some]
      dsimp only []
      rw [ax_w32 (x := k + 1) (by omega) (by omega), ax_let]
      refine ax_ok_mono (ih (k + 1) _ M1 (by omega) (by omega) (ax_Kp e hK rfl) C1 (HF_CE (Or.inr rfl) E F1) B1 d1) fun r M' ⟨q, f⟩ => ⟨q.trans ?_, fun c i hc => (f c i hc).trans (HF_jk F1 c i hc)⟩
      exact (if_pos hf).symm
    · rw [if_neg (by rw [ax_b0]; exact fun q => q hf)]
      exact ax_ok_some ⟨(if_neg hf).symm, fun _ _ _ => rfl⟩
theorem c_275s (S : ES T n al P W cd) (m0 : 0 ≤ m) (m2 : m < n) (t0 : 0 ≤ t) (t1 : t < 8) : ∀ (j : Nat) (k : Int) (H : Int → Int) (M : am_M), k + j = 201 → 0 ≤ k → ax_K M → CH M 425 n H → CE M T n al P W cd → HB T H → H 162 ≤ 999 + k → ax_ok (am_Ex d 275 20 [(2, 424), (0, m), (0, t), (0, k)] [] M) (fun r M' => r = lz (hNi T al P W cd m (m + 1)) (fun H => lx_val 0 (cd 0) (lx_nm P W H m t 0)) m j k H ∧ ∀ c i, ¬ jk c i → am_rd M' c i = am_rd M c i) := by
  have n6 := S.2.1
  intro j
  induction j with
  | zero =>
    intro k H M h k0 hK C E B hd
    rw [aq_275_20, if_neg (by omega)]
    exact ax_ok_some ⟨rfl, fun _ _ _ => rfl⟩
  | succ j ih =>
    intro k H M h k0 hK C E B hd
    rw [aq_275_20, if_pos (by omega), kr_424_4 hK, show am_ob 424 1 = true from rfl, show am_ob 425 3 = true from rfl, ax_gt, ax_gt, c_25 hK (Or.inr rfl) C m0 (by omega), Option.bind_some]
    dsimp only []
    by_cases hf : H (156 + m) = 0
    · obtain ⟨r, M1, e, C1, F1⟩ := c_256 (d := d) hK (Or.inr rfl) C E S B (a := m) (b := m + 1) m0 (by omega) (by omega) (by omega)
      obtain ⟨B1, d1⟩ := fs_ni (a := m) (b := m + 1) S B m0 (by omega) hd (by omega)
      have K1 := ax_Kp e hK rfl
      obtain ⟨r2, M2, e2, q2, f2⟩ := c_174 (d := d) K1 (Or.inr rfl) C1 (HF_CE (Or.inr rfl) E F1) S B1 m0 m2 t0 t1 (l := 0) (k := 0) (by omega) (by omega) (by omega) (by omega)
      have E2 : CE M2 T n al P W cd := CE_same (HF_CE (Or.inr rfl) E F1) fun c i hc => f2 c i (by omega) (by omega)
      rw [if_pos (by rw [ax_b0]; exact fun q => q hf), kr_424_3 hK, kr_424_4 hK, show am_ob 42 0 = true from rfl, ax_gt, ax_w32 (x := m + 1) (by omega) (by omega), e, Option.bind_some]
      dsimp only []
      rw [kr_424_2 K1, kr_424_4 K1, show am_ob 39 4 = true from rfl, ax_gt, e2, Option.bind_some]
      dsimp only []
      have jj : ∀ c i, ¬ jk c i → am_rd M2 c i = am_rd M c i := fun c i hc => (JF_jk f2 c i hc).trans (HF_jk F1 c i hc)
      by_cases hv : r2 = 0
      · rw [if_pos hv]
        refine ax_ok_some ⟨?_, jj⟩
        refine Eq.symm ((if_pos hf).trans (if_pos ?_))
        exact q2.symm.trans hv
      · rw [if_neg hv, ax_w32 (x := k + 1) (by omega) (by omega), ax_let]
        refine ax_ok_mono (ih (k + 1) _ M2 (by omega) (by omega) (ax_Kp e2 K1 rfl) (JF_CH (Or.inr rfl) C1 f2) E2 B1 d1) fun r M' ⟨q, f⟩ => ⟨q.trans ?_, fun c i hc => (f c i hc).trans (jj c i hc)⟩
        refine Eq.symm ((if_pos hf).trans (if_neg ?_))
        exact fun h => hv (q2.trans h)
    · rw [if_neg (by rw [ax_b0]; exact fun q => q hf)]
      exact ax_ok_some ⟨(if_neg hf).symm, fun _ _ _ => rfl⟩
end
