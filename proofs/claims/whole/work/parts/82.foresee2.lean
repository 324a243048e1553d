/-! foretold, free, lasts: the model's loops -/
section
variable {T n al N : Int} {P W : Int → Int} {cd : Int → Option (List (Int × Int))} {m t : Int} {d : Nat}
theorem m_297s (S : ES T n al P W cd) (m0 : 0 ≤ m) (m2 : m < n) (hN : N ≤ 60) : ∀ (j : Nat) (k : Int) (H : Int → Int) (M : am_M), k + j = N → 0 ≤ k → ax_K M → NH M H → ME M T n al P W cd → HB T H → H 162 ≤ 999 + k → ax_ok (am_Ex d 297 17 [(2, 447), (0, N), (0, m), (0, k)] [] M) (fun r M' => r = hHad T P W cd (ax_fo (fun _ H => hNi T al P W cd 0 n H) j k H) m ∧ NF M M') := by
  have n6 := S.2.1
  intro j
  induction j with
  | zero =>
    intro k H M h k0 hK C E B hd
    obtain ⟨r, M1, e, q, f⟩ := m_251 (d := d) hK C E S B m0 (by omega)
    rw [aq_297_17, if_neg (by omega), show am_ob 447 11 = true from rfl, ax_gt, e, Option.bind_some]
    exact ax_ok_some ⟨q, JF_NF f⟩
  | succ j ih =>
    intro k H M h k0 hK C E B hd
    obtain ⟨r, M1, e, C1, F1⟩ := m_282 (d := d) hK C E S B (by omega)
    obtain ⟨B1, d1⟩ := fs_ni (a := 0) (b := n) S B (by omega) (by omega) hd (by omega)
    rw [aq_297_17, if_pos (by omega), show am_ob 447 11 = true from rfl, ax_gt, e, Option.bind_some]
    dsimp only []
    rw [ax_w32 (x := k + 1) (by omega) (by omega), ax_let]
    exact ax_ok_mono (ih (k + 1) _ M1 (by omega) (by omega) (ax_Kp e hK rfl) C1 (NF_ME E F1) B1 d1) fun r M' ⟨q, f⟩ => ⟨q, NF_trans F1 f⟩
theorem m_298s (S : ES T n al P W cd) (m0 : 0 ≤ m) (m2 : m < n) (hN : N ≤ 60) : ∀ (j : Nat) (k : Int) (H : Int → Int) (M : am_M), k + j = N + 1 → 0 ≤ k → ax_K M → NH M H → ME M T n al P W cd → HB T H → H 162 ≤ 999 + k → ax_ok (am_Ex d 298 17 [(2, 447), (0, N), (0, m), (0, k)] [] M) (fun r M' => r = fz (hNi T al P W cd 0 n) m j k H ∧ NF M M') := by
  have n6 := S.2.1
  intro j
  induction j with
  | zero =>
    intro k H M h k0 hK C E B hd
    rw [aq_298_17, if_neg (by omega)]
    exact ax_ok_some ⟨rfl, NF_refl⟩
  | succ j ih =>
    intro k H M h k0 hK C E B hd
    have g1 := C.2.2.2.2.2.1 m m0 (by omega)
    have b1 := (B.2.1 m m0 (by omega)).2.2
    rw [aq_298_17, if_pos (by omega), kr_447_46 hK, ax_a_477, ax_gi (by omega) (by omega), show am_ob 447 11 = true from rfl, ax_gt, g1]
    by_cases hf : H (156 + m) = 0
    · obtain ⟨r, M1, e, C1, F1⟩ := m_282 (d := d) hK C E S B (by omega)
      obtain ⟨B1, d1⟩ := fs_ni (a := 0) (b := n) S B (by omega) (by omega) hd (by omega)
      rw [if_neg (by omega), e, Option.bind_some]
      dsimp only []
      rw [ax_w32 (x := k + 1) (by omega) (by omega), ax_let]
      refine ax_ok_mono (ih (k + 1) _ M1 (by omega) (by omega) (ax_Kp e hK rfl) C1 (NF_ME E F1) B1 d1) fun r M' ⟨q, f⟩ => ⟨q.trans ?_, NF_trans F1 f⟩
      exact (if_pos hf).symm
    · rw [if_pos (by omega)]
      exact ax_ok_some ⟨(if_neg hf).symm, NF_refl⟩
theorem m_299s (S : ES T n al P W cd) (m0 : 0 ≤ m) (m2 : m < n) (t0 : 0 ≤ t) (t1 : t < 8) : ∀ (j : Nat) (k : Int) (H : Int → Int) (M : am_M), k + j = 201 → 0 ≤ k → ax_K M → NH M H → ME M T n al P W cd → HB T H → H 162 ≤ 999 + k → ax_ok (am_Ex d 299 23 [(2, 447), (0, m), (0, t), (0, k)] [] M) (fun r M' => r = lz (hNi T al P W cd 0 n) (fun H => lx_val 0 (cd 0) (lx_nm P W H m t 0)) m j k H ∧ NF M M') := by
  have n6 := S.2.1
  intro j
  induction j with
  | zero =>
    intro k H M h k0 hK C E B hd
    rw [aq_299_23, if_neg (by omega)]
    exact ax_ok_some ⟨rfl, NF_refl⟩
  | succ j ih =>
    intro k H M h k0 hK C E B hd
    have g1 := C.2.2.2.2.2.1 m m0 (by omega)
    rw [aq_299_23, if_pos (by omega), kr_447_46 hK, ax_a_477, ax_gi (by omega) (by omega), show am_ob 447 11 = true from rfl, ax_gt, g1]
    by_cases hf : H (156 + m) = 0
    · obtain ⟨r, M1, e, C1, F1⟩ := m_282 (d := d) hK C E S B (by omega)
      obtain ⟨B1, d1⟩ := fs_ni (a := 0) (b := n) S B (by omega) (by omega) hd (by omega)
      have K1 := ax_Kp e hK rfl
      obtain ⟨r2, M2, e2, q2, f2⟩ := m_221 (d := d) K1 C1 (NF_ME E F1) S B1 m0 (by omega) t0 t1
      have jj : NF M M2 := NF_trans F1 (JF_NF f2)
      rw [if_pos hf, e, Option.bind_some]
      dsimp only []
      rw [e2, Option.bind_some]
      dsimp only []
      by_cases hv : r2 = 0
      · rw [if_pos hv]
        refine ax_ok_some ⟨?_, jj⟩
        refine Eq.symm ((if_pos hf).trans (if_pos ?_))
        exact q2.symm.trans hv
      · rw [if_neg hv, ax_w32 (x := k + 1) (by omega) (by omega), ax_let]
        refine ax_ok_mono (ih (k + 1) _ M2 (by omega) (by omega) (ax_Kp e2 K1 rfl) (JF_NH C1 f2) (NF_ME E jj) B1 d1) fun r M' ⟨q, f⟩ => ⟨q.trans ?_, NF_trans jj f⟩
        refine Eq.symm ((if_pos hf).trans (if_neg ?_))
        exact fun h => hv (q2.trans h)
    · rw [if_neg hf]
      exact ax_ok_some ⟨(if_neg hf).symm, NF_refl⟩
/-! they agree -/
theorem fz_ag (m0 : 0 ≤ m) (m1 : m < n) (n6 : n ≤ 6) (hT8 : T ≤ 8) : ∀ (j : Nat) (k : Int) (H H' : Int → Int), ag m H H' → fz (hNi T al P W cd 0 n) m j k H = fz (hNi T al P W cd m (m + 1)) m j k H' := by
  intro j
  induction j with
  | zero => intro k H H' _; rfl
  | succ j ih =>
    intro k H H' a
    show (if H (156 + m) = 0 then fz _ m j (k + 1) (hNi T al P W cd 0 n H) else k) = (if H' (156 + m) = 0 then fz _ m j (k + 1) (hNi T al P W cd m (m + 1) H') else k)
    rw [a (156 + m) (by unfold om; omega), ih (k + 1) _ _ (ag_Ni m0 m1 n6 hT8 a)]
theorem lz_ag {t : Int} (m0 : 0 ≤ m) (m1 : m < n) (n6 : n ≤ 6) (hT8 : T ≤ 8) (t0 : 0 ≤ t) (t1 : t < 8) : ∀ (j : Nat) (k : Int) (H H' : Int → Int), ag m H H' → lz (hNi T al P W cd 0 n) (fun H => lx_val 0 (cd 0) (lx_nm P W H m t 0)) m j k H = lz (hNi T al P W cd m (m + 1)) (fun H => lx_val 0 (cd 0) (lx_nm P W H m t 0)) m j k H' := by
  intro j
  induction j with
  | zero => intro k H H' _; rfl
  | succ j ih =>
    intro k H H' a
    have a1 := ag_Ni (al := al) (P := P) (W := W) (cd := cd) m0 m1 n6 hT8 a
    show (if H (156 + m) = 0 then (if lx_val 0 (cd 0) (lx_nm P W (hNi T al P W cd 0 n H) m t 0) = 0 then k else lz _ _ m j (k + 1) (hNi T al P W cd 0 n H)) else -1) = (if H' (156 + m) = 0 then (if lx_val 0 (cd 0) (lx_nm P W (hNi T al P W cd m (m + 1) H') m t 0) = 0 then k else lz _ _ m j (k + 1) (hNi T al P W cd m (m + 1) H')) else -1)
    rw [a (156 + m) (by unfold om; omega), ag_nm a1 t0 t1, ih (k + 1) _ _ a1]
theorem hz_ag (m0 : 0 ≤ m) (m1 : m < n) (n6 : n ≤ 6) (hT8 : T ≤ 8) (j : Nat) (k : Int) (H : Int → Int) : hHad T P W cd (ax_fo (fun _ H => hNi T al P W cd 0 n H) j k H) m = hHad T P W cd (ax_fo (fun _ H => hNi T al P W cd m (m + 1) H) j k H) m :=
  ag_Had (ax_fo_rel (P := fun _ A B => ag m A B) j k H H (fun _ A B _ _ h => ag_Ni m0 m1 n6 hT8 h) ag_refl) hT8
end
