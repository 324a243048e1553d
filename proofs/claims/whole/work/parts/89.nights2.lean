/-! nights by a text; a call in a frame -/
section
variable {M N : am_M} {d : Nat} {T n al : Int} {P W H : Int → Int} {cd : Int → Option (List (Int × Int))}
theorem m_one (hK : ax_K M) (e : RowEq M N) (E : ME M T n al P W cd) (S : ES T n al P W cd) (a : NI T n N) (hd : am_rd N 448 222 < 999) : ∃ r M', am_Call d 301 [(2, 447), (0, 1)] M = some (r, M') ∧ r ≠ -1 ∧ ax_K M' ∧ RowEq M' (niN T n al P W cd N) ∧ ME M' T n al P W cd ∧ DG M M' := by
  have d0 := a.2.2.2.2.2.1
  have d1 : fl N 448 60 162 = am_rd N 448 222 := fl_at (by omega)
  have hn := S.2.1
  obtain ⟨r1, Ma, r2, M1, e1, e2, K1, p1, E1, D1⟩ := m_night (d := d) hK e E S a hd
  obtain ⟨a1, y1, l1⟩ := NI_st S a (by omega)
  have f1 : ∀ m, 0 ≤ m → m < 6 → 0 ≤ am_rd M1 448 (216 + m) ∧ am_rd M1 448 (216 + m) ≤ 1 := fun m m0 m1 => by
    have h : am_rd M1 448 (216 + m) = fl (niN T n al P W cd N) 448 60 (156 + m) := (p1 _ (by omega) (by omega)).trans (fl_at (by omega)).symm
    rw [h]; exact (a1.2.2.2.2.1 m m0 m1).2.2
  have e91 := m_91 (d := d) K1 (RowEq_mB p1 a1.1) f1
  rw [show am_rd M1 448 1 = n from (p1 1 (by omega) (by omega)).trans a1.2.2.1] at e91
  have g : am_rd M 448 222 = am_rd N 448 222 := e 222 (by omega) (by omega)
  refine ⟨ax_fo (fun m s => s + am_rd M1 448 (216 + m)) (n - 0).toNat 0 0, M1, ?_, ?_, K1, p1, E1, D1⟩
  · rw [aq_301, m_64, Option.bind_some]
    dsimp only []
    rw [if_neg (by rw [ax_b0]; exact fun q => q (by decide)), show am_ob 447 11 = true from rfl, ax_gt, kr_447_0 hK, ax_a_448, ax_gi (by omega) (by omega), g, ax_w32 (by omega) (by omega), if_pos (by omega), aq_301_19, if_pos (by decide), show am_ob 447 11 = true from rfl, ax_gt, e1, Option.bind_some]
    dsimp only []
    rw [e2, Option.bind_some]
    dsimp only []
    rw [ax_w32 (by omega) (by omega), ax_let, aq_301_19, if_neg (by decide), show am_ob 447 11 = true from rfl, ax_gt, e91, Option.bind_some]
  · have := ax_fo_inv (f := fun m s => s + am_rd M1 448 (216 + m)) (P := fun _ s => 0 ≤ s) (n - 0).toNat 0 0 (fun m s m0 m1 hs => by
      have := f1 m m0 (by omega)
      show 0 ≤ s + am_rd M1 448 (216 + m)
      omega) (Int.le_refl 0)
    omega
theorem m_304 {k q : Int} (hK : ax_K M) (e : RowEq M N) (E : ME M T n al P W cd) (S : ES T n al P W cd) (a : NI T n N) (hd : am_rd N 448 222 ≤ 999) (k0 : 1 ≤ k) (k1 : k ≤ 60) (hq : q = min k (999 - am_rd N 448 222)) : ax_ok (am_Call d 304 [(2, 447), (0, k)] M) (fun r M' => r = ax_b (q = k) ∧ RowEq M' (niK T n al P W cd q N) ∧ DG M M') := by
  have d0 := a.2.2.2.2.2.1
  have d1 : fl N 448 60 162 = am_rd N 448 222 := fl_at (by omega)
  have hn := S.2.1
  rw [aq_304]
  refine ax_loopQ (σ := am_M) (X := fun i _ m' => am_Ex d 304 3 [(2, 447), (0, k), (0, i)] [] m') (n := q) (fun i N' m' => 0 ≤ i ∧ ax_K m' ∧ RowEq m' N' ∧ ME m' T n al P W cd ∧ DG M m' ∧ NI T n N' ∧ am_rd N' 448 222 = am_rd N 448 222 + i ∧ ax_fo (fun _ N => niN T n al P W cd N) (q - i).toNat i N' = niK T n al P W cd q N) ?_ ?_ (q - 0).toNat 0 N M (by omega) ⟨by omega, hK, e, E, DG_refl, a, by omega, rfl⟩
  · intro i N' m' ⟨i0, K', e', E', D', a', y', hs⟩ i1 hnext
    obtain ⟨r1, M1, e1, h1, K1, p1, E1, D1⟩ := m_one (d := d) K' e' E' S a' (by omega)
    obtain ⟨a1, y1, l1⟩ := NI_st S a' (by omega)
    show ax_ok (am_Ex d 304 3 _ _ _) _
    rw [aq_304_3, if_pos (by omega), show am_ob 447 11 = true from rfl, ax_gt, e1, Option.bind_some]
    dsimp only []
    rw [if_neg h1, ax_w32 (by omega) (by omega), ax_let]
    exact hnext _ M1 ⟨by omega, K1, p1, E1, DG_trans D' D1, a1, by omega, by rw [← hs, ax_fo_s i1]⟩
  · intro N' m' ⟨i0, K', e', E', D', a', y', hs⟩
    rw [ax_fo_e (Int.le_refl _)] at hs
    subst hs
    show ax_ok (am_Ex d 304 3 _ _ _) _
    rw [aq_304_3]
    by_cases h : q = k
    · rw [if_neg (by omega), ax_bt h]
      exact ax_ok_some ⟨rfl, e', D'⟩
    · have g : am_rd m' 448 222 = am_rd N 448 222 + q := (e' 222 (by omega) (by omega)).trans y'
      rw [if_pos (by omega), show am_ob 447 11 = true from rfl, ax_gt, aq_301, m_64, Option.bind_some]
      dsimp only []
      rw [if_neg (by rw [ax_b0]; exact fun q => q (by decide)), show am_ob 447 11 = true from rfl, ax_gt, kr_447_0 K', ax_a_448, ax_gi (by omega) (by omega), g, ax_w32 (by omega) (by omega), if_neg (by omega), Option.bind_some]
      dsimp only []
      rw [if_pos rfl, ax_bf h]
      exact ax_ok_some ⟨rfl, e', D'⟩
theorem op_nights (a : RR M) {k : Int} (k0 : 1 ≤ k) (k1 : k ≤ 60) : OP d M 277 304 [(0, k)] ∧ ∃ b, (b = 0 ∨ b = 1) ∧ ∃ M1, am_Call d 277 [(2, 1), (0, k)] M = some (b, M1) := by
  have hK := a.1
  have hd := a.2.1.2.2.1.2.2
  have B := RR_H a
  obtain ⟨P, W, cd, E, E2, S⟩ := RR_env a
  have d0 := B.2.2.1
  have d1 : fl M 448 60 162 = am_rd M 448 222 := fl_at (by omega)
  have aN : NI (am_rd M 448 0) (am_rd M 448 1) M := ⟨a.2.1.2.1, rfl, rfl, B⟩
  obtain ⟨r1, M1, e1, q1, K1, p1, E1, D1, n1, y1, l1⟩ := c_277 (d := d) (k := k) (q := min k (999 - am_rd M 448 222)) hK a.2.1 E S aN hd k0 k1 rfl
  have row : RowEq M1 M := fun i _ _ => D1 448 i (by omega) (by omega) (by omega) (by omega)
  obtain ⟨r3, M3, e3, q3, R3, D3⟩ := m_304 (d := d) (k := k) K1 row (DF_ME E2 D1) S aN hd k0 k1 rfl
  refine ⟨⟨r3, M1, M3, ?_, e3, RR_fin a p1 D1 D3 R3 (l1 3 (by omega) (by omega)) (ax_Kp e3 K1 rfl)⟩, r1, ?_, M1, e1⟩
  · rw [e1, q1, q3]
  · rw [q1]; unfold ax_b; split
    · exact Or.inr rfl
    · exact Or.inl rfl
/-- a call of both, whatever lies in the other's cells -/
def OPf (d : Nat) (V : am_M) (x m : Nat) (as : List am_V) : Prop := ∃ r V', (∀ X, am_Call d x ((2, 1) :: as) (mix true V X) = some (r, mix true V' X)) ∧ (∀ Y, am_Call d m ((2, 447) :: as) (mix false V Y) = some (r, mix false V' Y)) ∧ RR V' ∧ am_rd V' 448 3 = am_rd V 448 3
theorem reg_t {c : Int} (h : c < 447) : reg true c = true := decide_eq_true h
theorem reg_f {c : Int} (h : 447 ≤ c) (h2 : c < 484) : reg false c = true := by
  show (decide (447 ≤ c) && decide (c < 484)) = true
  rw [decide_eq_true h, decide_eq_true h2]; rfl
theorem mix_tt {V V1 X : am_M} (h1 : V1.1 = V.1) (h : ∀ c i, reg true c = true → am_rd V1 c i = am_rd V c i) : mix true V1 X = mix true V X := by
  refine Prod.ext h1 ?_
  funext c i
  show (if reg true c = true then V1.2 c i else X.2 c i) = (if reg true c = true then V.2 c i else X.2 c i)
  by_cases e : reg true c = true
  · rw [if_pos e, if_pos e]; exact h c i e
  · rw [if_neg e, if_neg e]
theorem mix_ff {V V1 X : am_M} (h1 : V1.1 = V.1) (h : ∀ c i, reg false c = true → am_rd V1 c i = am_rd V c i) : mix false V1 X = mix false V X := by
  refine Prod.ext h1 ?_
  funext c i
  show (if reg false c = true then V1.2 c i else X.2 c i) = (if reg false c = true then V.2 c i else X.2 c i)
  by_cases e : reg false c = true
  · rw [if_pos e, if_pos e]; exact h c i e
  · rw [if_neg e, if_neg e]
theorem reg_x {c : Int} (h : reg false c = true) : reg true c = false := by
  have h2 := of_decide_eq_true (Bool.and_eq_true_iff.mp (show (decide (447 ≤ c) && decide (c < 484)) = true from h)).1
  exact decide_eq_false (by omega)
theorem reg_y {c : Int} (h : reg true c = true) : reg false c = false := by
  have h2 : c < 447 := of_decide_eq_true h
  show (decide (447 ≤ c) && decide (c < 484)) = false
  rw [decide_eq_false (by omega)]; rfl
theorem OP_f {x m : Nat} {as : List am_V} (a : RR M) (h : OP d M x m as) (hx : fx_ok true x = true) (hm : fx_ok false m = true) (ha : ∀ v ∈ as, v.1 = 0) : OPf d M x m as := by
  obtain ⟨r, M1, M2, e1, e2, R⟩ := h
  have rgs : ∀ s, rg s as := fun s v hv h2 => by rw [ha v hv] at h2; cases h2
  obtain ⟨g1, o1, K1⟩ := fx_call hx a.1 (rg_c (fun _ => (rfl : reg true 1 = true)) (rgs true)) e1
  obtain ⟨g2, o2, K2⟩ := fx_call hm K1 (rg_c (fun _ => (rfl : reg false 447 = true)) (rgs false)) e2
  refine ⟨r, M2, fun X => ?_, fun Y => ?_, R, ?_⟩
  · rw [g1, mix_tt (V := M1) (V1 := M2) (K2.1.trans K1.1.symm) fun c i hc => o2 c i (Or.inl (reg_y hc))]
  · rw [← mix_ff (V := M) (V1 := M1) (K1.1.trans a.1.1.symm) fun c i hc => o1 c i (Or.inl (reg_x hc))]
    exact g2 Y
  · rw [← R.2.1.1.1.2.2.2.1, o2 2 11 (Or.inr rfl), o1 2 11 (Or.inr rfl)]
    exact a.2.1.1.1.2.2.2.1
end
