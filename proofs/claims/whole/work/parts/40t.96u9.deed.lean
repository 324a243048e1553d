/-! both readers, a clause that is a deed; all clauses -/
def cNm (j : Nat) (f : Int → Int) (c : CS) : CS := .mk j c.law c.cs c.lf c.lt c.kd f c.nl
def cBD (k : Int) (c : CS) : CS := .mk (c.at_ + 1) k c.cs c.lf c.lt (up c.kd (c.nl : Int) k) c.nm (c.nl + 1)
def cFD (j : Nat) (k : Int) (f : Int → Int) (c : CS) : CS := .mk (j + 1) k c.cs c.lf c.lt (up c.kd (c.nl : Int) k) f (c.nl + 1)
def sFD (j : Nat) (k a b g : Int) (s : PS) : PS := .mk (j + 1) 4 s.op k [] [] ((408, 0) :: s.cs) (s.nc + 1) (up s.kd (s.nc : Int) k) (up s.po (s.nc : Int) (s.cs.length : Int)) (up s.na (s.nc : Int) a) (up s.nb (s.nc : Int) b) (up s.nd (s.nc : Int) g)
theorem cBD_eq {k : Int} {c : CS} (k4 : 4 ≤ k) (n24 : c.nl < 24) : cBeg k (cLaw k (cAdv (cCls k c))) = cBD k c := by
  unfold cCls
  rw [if_pos n24]
  unfold cBeg
  rw [if_neg (by omega)]
  rfl
theorem cEnd_id {k : Int} {c : CS} (k4 : 4 ≤ k) : cEnd k c = c := by
  unfold cEnd
  rw [if_neg (by omega)]
theorem sWk_nil {p : Int} {s : PS} (h : s.ws = []) : sWk p s = s := by
  unfold sWk
  rw [h]
  unfold wkL
  rw [show sWs [] s = s by unfold sWs; rw [← h]; rfl]
  rfl
theorem s3_mk {j : Nat} {st op nk a b g : Int} {fs ws : List (Int × Int)} {cs : List cd} {nc : Nat} {kd po na nb nd : Int → Int} : s3 a b g (PS.mk j st op nk fs ws cs nc kd po na nb nd) = PS.mk j st op nk fs ws cs nc kd po (up na (nc : Int) a) (up nb (nc : Int) b) (up nd (nc : Int) g) := rfl
theorem sOver_mk {j : Nat} {st op nk : Int} {fs : List (Int × Int)} {cs : List cd} {nc : Nat} {kd po na nb nd : Int → Int} : sOver (PS.mk j st op nk fs [] cs nc kd po na nb nd) = PS.mk (j + 1) 4 op nk [] [] ((408, 0) :: cs) (nc + 1) kd po na nb nd := by
  unfold sOver
  rw [sWk_nil (s := PS.mk j st op nk fs [] cs nc kd po na nb nd) rfl]
  rfl
theorem sFD_eq {k a b g : Int} {s : PS} {j : Nat} (h : s.ws = []) : sOver (s3 a b g (sAt j [] (sBeg k s))) = sFD j k a b g s := by
  have e : sAt j [] (sBeg k s) = PS.mk j s.st s.op k s.fs s.ws s.cs s.nc (up s.kd (s.nc : Int) k) (up s.po (s.nc : Int) (s.cs.length : Int)) s.na s.nb s.nd := rfl
  rw [e, s3_mk, h, sOver_mk]
  rfl
section
variable (T : Nat) (c1 : CS) (s1 : PS)
def DR (t : Nat) (f : Int → Int) (B : Prop) (x : CX) (y : MX) : Prop := match x with
  | .error e => y = .error (e.1, e.2, s1.nc)
  | .ok c' => B ∧ c' = cNm (s1.j + t) f c1 ∧ s1.j + t < T ∧ y = .ok (sAt (s1.j + t) [] s1)
end
section
variable {N0 : am_M} {T : Nat} {S I P Q : Int → Int} {d : Nat} {K N : Int → Int} {M : am_M} {s s0 s1 : PS} {c c1 : CS} {n t : Nat} {o : Int} {x : CX} {y : MX} {cl : List xcl} {f : Int → Int} {B : Prop}
theorem DR_num (hT : ∀ j : Nat, j < T → S j ≠ 0 → j + 1 < T) (C : ∀ j : Nat, j < T → cor (K j) (N j) (S j) (I j)) (h : DR T c1 s1 t f B x y) {w lo hi : Int} (h1 : lo ≤ 9999) (h2 : hi ≤ 9999) : DR T c1 s1 (t + 1) (up f (3 * ((c1.nl : Int) - 1) + w) (N ((s1.j + t : Nat) : Int))) (B ∧ I ((s1.j + t : Nat) : Int) = N ((s1.j + t : Nat) : Int) ∧ lo ≤ N ((s1.j + t : Nat) : Int) ∧ N ((s1.j + t : Nat) : Int) ≤ hi) (x.bind (cNum K N P w lo hi)) (y.bind (mNum S I P lo hi)) := by
  cases x with
  | error e =>
    have h : y = .error (e.1, e.2, s1.nc) := h
    rw [h]
    rfl
  | ok c' =>
    obtain ⟨b, e1, l, e2⟩ := h
    rw [e2, e1]
    have cc := C (s1.j + t) l
    show DR T c1 s1 (t + 1) _ _ (cNum K N P w lo hi (cNm (s1.j + t) f c1)) (mNum S I P lo hi (sAt (s1.j + t) [] s1))
    unfold cNum mNum
    show DR T c1 s1 (t + 1) _ _ (if K ((s1.j + t : Nat) : Int) = 42 then (if N ((s1.j + t : Nat) : Int) < lo then _ else if N ((s1.j + t : Nat) : Int) ≤ hi then _ else _) else _) (if S ((s1.j + t : Nat) : Int) = 2 then (if I ((s1.j + t : Nat) : Int) < lo then _ else if I ((s1.j + t : Nat) : Int) ≤ hi then _ else _) else _)
    have n2 := cor_num cc
    by_cases k : K ((s1.j + t : Nat) : Int) = 42
    · have big := cor_big cc k (lo := lo) h2
      have lim := cor_lim cc k
      rw [if_pos k, if_pos (n2.mp k)]
      by_cases q1 : N ((s1.j + t : Nat) : Int) < lo
      · rw [if_pos q1]
        by_cases q2 : I ((s1.j + t : Nat) : Int) < lo
        · rw [if_pos q2]; exact rfl
        · rw [if_neg q2, if_neg (by omega)]; exact rfl
      · rw [if_neg q1]
        by_cases q3 : N ((s1.j + t : Nat) : Int) ≤ hi
        · have iv := lim.2.1 (by omega)
          have hl := hT (s1.j + t) l (by rw [n2.mp k]; decide)
          rw [if_pos q3, if_neg (by omega), if_pos (by omega)]
          exact ⟨⟨b, iv, by omega, q3⟩, rfl, hl, rfl⟩
        · rw [if_neg q3]
          by_cases q2 : I ((s1.j + t : Nat) : Int) < lo
          · rw [if_pos q2]; exact rfl
          · rw [if_neg q2, if_neg (by omega)]; exact rfl
    · rw [if_neg k, if_neg (fun z => k (n2.mpr z))]
      exact rfl
theorem DR_beh (hT : ∀ j : Nat, j < T → S j ≠ 0 → j + 1 < T) (C : ∀ j : Nat, j < T → cor (K j) (N j) (S j) (I j)) (h : DR T c1 s1 t f B x y) {w lo hi : Int} (h1 : lo ≤ 9999) (h2 : hi ≤ 9999) {kw W : Int} (hw : 0 ≤ kw ∧ kw ≤ 28) (hW : wd kw = W) : DR T c1 s1 (t + 2) (up f (3 * ((c1.nl : Int) - 1) + w) (N ((s1.j + (t + 1) : Nat) : Int))) (B ∧ I ((s1.j + (t + 1) : Nat) : Int) = N ((s1.j + (t + 1) : Nat) : Int) ∧ lo ≤ N ((s1.j + (t + 1) : Nat) : Int) ∧ N ((s1.j + (t + 1) : Nat) : Int) ≤ hi) ((x.bind (cExp K P kw)).bind (cNum K N P w lo hi)) (y.bind (mBeh S I P W lo hi)) := by
  cases x with
  | error e =>
    have h : y = .error (e.1, e.2, s1.nc) := h
    rw [h]
    rfl
  | ok c' =>
    obtain ⟨b, e1, l, e2⟩ := h
    rw [e2, e1]
    have cw := cor_word (C (s1.j + t) l) (w := kw) (v := W) hw hW
    show DR T c1 s1 (t + 2) _ _ ((cExp K P kw (cNm (s1.j + t) f c1)).bind (cNum K N P w lo hi)) (mBeh S I P W lo hi (sAt (s1.j + t) [] s1))
    unfold cExp mBeh
    show DR T c1 s1 (t + 2) _ _ (Except.bind (if K ((s1.j + t : Nat) : Int) = kw then _ else _) _) (if S ((s1.j + t : Nat) : Int) = 1 ∧ I ((s1.j + t : Nat) : Int) = W then _ else _)
    by_cases k : K ((s1.j + t : Nat) : Int) = kw
    · have k2 := cw.mpr k
      have hl := hT (s1.j + t) l (by rw [k2.1]; decide)
      rw [if_pos k, if_pos k2]
      have h' : DR T c1 s1 (t + 1) f B (.ok (cNm (s1.j + (t + 1)) f c1)) (.ok (sAt (s1.j + (t + 1)) [] s1)) := ⟨b, rfl, hl, rfl⟩
      exact DR_num (P := P) hT C h' h1 h2
    · rw [if_neg k, if_neg (fun z => k (cw.mp z))]
      exact rfl
theorem XS_deed (h : XS T c s cl) {k : Int} (k4 : 4 ≤ k) (n24 : cl.length < 24) {t : Nat} {a b g : Int} (hj : s.j + 1 + t + 1 < T) (hf : ∀ i : Int, i < 3 * (cl.length : Int) → f i = c.nm i) {v : xcl} (hv : v.1 = k) (hx : xo1 v) (ha : f (3 * (cl.length : Int)) = v.2.1 ∧ a = v.2.1) (hb : k = 4 ∨ k = 5 ∨ k = 7 ∨ k = 8 ∨ k = 9 → f (3 * (cl.length : Int) + 1) = v.2.2.1 ∧ b = v.2.2.1) (hg : k = 4 ∨ k = 5 → f (3 * (cl.length : Int) + 2) = v.2.2.2.1 ∧ g = v.2.2.2.1) : XS T (cFD (s.j + 1 + t) k f c) (sFD (s.j + 1 + t) k a b g s) (cl ++ [v]) := by
  have h0 := h
  obtain ⟨⟨a1, a2, a3, a4⟩, ⟨a5, a6⟩, ⟨a7, a8⟩, ⟨b4, b5⟩, b6, b7, b8⟩ := h
  refine XS_add (w := []) (w' := [(408, 0)]) h0 n24 hx (fun z => by omega) ⟨rfl, a2, rfl, rfl⟩ ⟨rfl, hj⟩ ⟨?_, ?_⟩ ⟨rfl, rfl⟩ ⟨rfl, rfl⟩ (fun i hi => ?_) (fun i hi => hf i hi) (fun k' hk' => ⟨rfl, rfl⟩) ?_ (fun z => by omega)
  · show c.cs.length ≤ s.j + 1 + t + 1; omega
  · show s.cs.length + 1 ≤ s.j + 1 + t + 1; omega
  · exact ⟨up_ne (by omega), up_ne (by omega), up_ne (by omega), up_ne (by omega), up_ne (by omega), up_ne (by omega)⟩
  · unfold XSi
    rw [hv]
    refine ⟨⟨?_, ?_⟩, fun z => ⟨ha.1, ?_⟩, fun z => ⟨(hb z).1, ?_⟩, fun z => ⟨(hg z).1, ?_⟩, fun z => by omega⟩
    · show up c.kd (c.nl : Int) k (cl.length : Int) = k
      rw [← b4]; exact up_eq
    · show up s.kd (s.nc : Int) k (cl.length : Int) = k
      rw [← b5]; exact up_eq
    · show up s.na (s.nc : Int) a (cl.length : Int) = _
      rw [← b5]; exact up_eq.trans ha.2
    · show up s.nb (s.nc : Int) b (cl.length : Int) = _
      rw [← b5]; exact up_eq.trans (hb z).2
    · show up s.nd (s.nc : Int) g (cl.length : Int) = _
      rw [← b5]; exact up_eq.trans (hg z).2
/-- what a deed's numbers are -/
def DV (I : Int → Int) (c : CS) (s : PS) (cl : List xcl) (k : Int) (f : Int → Int) : Prop := ∃ v : xcl, v.1 = k ∧ xo1 v ∧ (∀ i : Int, i < 3 * (cl.length : Int) → f i = c.nm i) ∧ (f (3 * (cl.length : Int)) = v.2.1 ∧ I ((s.j : Int) + 1) = v.2.1) ∧ (k = 4 ∨ k = 5 ∨ k = 7 ∨ k = 8 ∨ k = 9 → f (3 * (cl.length : Int) + 1) = v.2.2.1 ∧ I ((s.j : Int) + 3) = v.2.2.1) ∧ (k = 4 ∨ k = 5 → f (3 * (cl.length : Int) + 2) = v.2.2.2.1 ∧ I ((s.j : Int) + 5) = v.2.2.2.1)
theorem D_do (hT : ∀ j : Nat, j < T → S j ≠ 0 → j + 1 < T) (C : ∀ j : Nat, j < T → cor (K j) (N j) (S j) (I j)) (h5 : c.at_ = s.j) (hl : s.j + 1 < T) (b4 : c.nl = cl.length) {k : Int} (k4 : 4 ≤ k ∧ k ≤ 11) : ∃ t f B, DR T (cBD k c) (sBeg k s) t f B (cDeed K N P k (cBD k c)) (mDo S I P k (sBeg k s)) ∧ (B → DV I c s cl k f) := by
  have h0 : DR T (cBD k c) (sBeg k s) 0 c.nm True (.ok (cBD k c)) (.ok (sBeg k s)) := by
    refine ⟨trivial, ?_, hl, rfl⟩
    show CS.mk (c.at_ + 1) k c.cs c.lf c.lt (up c.kd (c.nl : Int) k) c.nm (c.nl + 1) = CS.mk (s.j + 1 + 0) k c.cs c.lf c.lt (up c.kd (c.nl : Int) k) c.nm (c.nl + 1)
    rw [h5]
  have enl : ((cBD k c).nl : Int) - 1 = (cl.length : Int) := by show ((c.nl + 1 : Nat) : Int) - 1 = _; omega
  have ej : (sBeg k s).j = s.j + 1 := rfl
  have A := @DR_num T S I P K N (sBeg k s) (cBD k c)
  have Bh := @DR_beh T S I P K N (sBeg k s) (cBD k c)
  have i1 : (((sBeg k s).j + 0 : Nat) : Int) = (s.j : Int) + 1 := by rw [ej]; omega
  have i3 : (((sBeg k s).j + (1 + 1) : Nat) : Int) = (s.j : Int) + 3 := by rw [ej]; omega
  have i5 : (((sBeg k s).j + (1 + 2 + 1) : Nat) : Int) = (s.j : Int) + 5 := by rw [ej]; omega
  have d1 := DR_num (P := P) hT C h0 (w := 0) (lo := 0) (hi := 5) (by decide) (by decide)
  have d1n := DR_num (P := P) hT C h0 (w := 0) (lo := 1) (hi := 60) (by decide) (by decide)
  have dIn := DR_beh (P := P) hT C d1 (w := 1) (lo := 0) (hi := 7) (by decide) (by decide) (kw := 25) (W := 12) (by decide) (by decide)
  have dInBy := DR_beh (P := P) hT C dIn (w := 2) (lo := 1) (hi := 99) (by decide) (by decide) (kw := 26) (W := 13) (by decide) (by decide)
  have dOf := DR_beh (P := P) hT C d1 (w := 1) (lo := 0) (hi := 7) (by decide) (by decide) (kw := 27) (W := 14) (by decide) (by decide)
  have dAt := DR_beh (P := P) hT C d1 (w := 1) (lo := 0) (hi := 7) (by decide) (by decide) (kw := 28) (W := 15) (by decide) (by decide)
  have dBy := DR_beh (P := P) hT C d1 (w := 1) (lo := 0) (hi := 5) (by decide) (by decide) (kw := 26) (W := 13) (by decide) (by decide)
  rw [enl, i1] at d1 d1n
  rw [enl, i1, i3] at dIn dOf dAt dBy
  rw [enl, i1, i3, i5] at dInBy
  have z : k = 4 ∨ k = 5 ∨ k = 6 ∨ k = 7 ∨ k = 8 ∨ k = 9 ∨ k = 10 ∨ k = 11 := by omega
  rcases z with rfl | rfl | rfl | rfl | rfl | rfl | rfl | rfl
  · refine ⟨_, _, _, dInBy, fun b => ⟨(4, N ((s.j : Int) + 1), N ((s.j : Int) + 3), N ((s.j : Int) + 5), []), rfl, ?_, fun i hi => ?_, ⟨?_, by dsimp only; omega⟩, fun _ => ⟨?_, by dsimp only; omega⟩, fun _ => ⟨?_, by dsimp only; omega⟩⟩⟩
    · unfold xo1; dsimp only; omega
    · rw [up_ne (by omega), up_ne (by omega), up_ne (by omega)]
    · rw [up_ne (by omega), up_ne (by omega), show 3 * (cl.length : Int) = 3 * (cl.length : Int) + 0 by omega]; exact up_eq
    · rw [up_ne (by omega)]; exact up_eq
    · exact up_eq
  · refine ⟨_, _, _, dInBy, fun b => ⟨(5, N ((s.j : Int) + 1), N ((s.j : Int) + 3), N ((s.j : Int) + 5), []), rfl, ?_, fun i hi => ?_, ⟨?_, by dsimp only; omega⟩, fun _ => ⟨?_, by dsimp only; omega⟩, fun _ => ⟨?_, by dsimp only; omega⟩⟩⟩
    · unfold xo1; dsimp only; omega
    · rw [up_ne (by omega), up_ne (by omega), up_ne (by omega)]
    · rw [up_ne (by omega), up_ne (by omega), show 3 * (cl.length : Int) = 3 * (cl.length : Int) + 0 by omega]; exact up_eq
    · rw [up_ne (by omega)]; exact up_eq
    · exact up_eq
  · refine ⟨_, _, _, d1, fun b => ⟨(6, N ((s.j : Int) + 1), 0, 0, []), rfl, ?_, fun i hi => ?_, ⟨?_, by dsimp only; omega⟩, fun q => by omega, fun q => by omega⟩⟩
    · unfold xo1; dsimp only; omega
    · rw [up_ne (by omega)]
    · rw [show 3 * (cl.length : Int) = 3 * (cl.length : Int) + 0 by omega]; exact up_eq
  · refine ⟨_, _, _, dOf, fun b => ⟨(7, N ((s.j : Int) + 1), N ((s.j : Int) + 3), 0, []), rfl, ?_, fun i hi => ?_, ⟨?_, by dsimp only; omega⟩, fun _ => ⟨?_, by dsimp only; omega⟩, fun q => by omega⟩⟩
    · unfold xo1; dsimp only; omega
    · rw [up_ne (by omega), up_ne (by omega)]
    · rw [up_ne (by omega), show 3 * (cl.length : Int) = 3 * (cl.length : Int) + 0 by omega]; exact up_eq
    · exact up_eq
  · refine ⟨_, _, _, dAt, fun b => ⟨(8, N ((s.j : Int) + 1), N ((s.j : Int) + 3), 0, []), rfl, ?_, fun i hi => ?_, ⟨?_, by dsimp only; omega⟩, fun _ => ⟨?_, by dsimp only; omega⟩, fun q => by omega⟩⟩
    · unfold xo1; dsimp only; omega
    · rw [up_ne (by omega), up_ne (by omega)]
    · rw [up_ne (by omega), show 3 * (cl.length : Int) = 3 * (cl.length : Int) + 0 by omega]; exact up_eq
    · exact up_eq
  · refine ⟨_, _, _, dBy, fun b => ⟨(9, N ((s.j : Int) + 1), N ((s.j : Int) + 3), 0, []), rfl, ?_, fun i hi => ?_, ⟨?_, by dsimp only; omega⟩, fun _ => ⟨?_, by dsimp only; omega⟩, fun q => by omega⟩⟩
    · unfold xo1; dsimp only; omega
    · rw [up_ne (by omega), up_ne (by omega)]
    · rw [up_ne (by omega), show 3 * (cl.length : Int) = 3 * (cl.length : Int) + 0 by omega]; exact up_eq
    · exact up_eq
  · refine ⟨_, _, _, d1, fun b => ⟨(10, N ((s.j : Int) + 1), 0, 0, []), rfl, ?_, fun i hi => ?_, ⟨?_, by dsimp only; omega⟩, fun q => by omega, fun q => by omega⟩⟩
    · unfold xo1; dsimp only; omega
    · rw [up_ne (by omega)]
    · rw [show 3 * (cl.length : Int) = 3 * (cl.length : Int) + 0 by omega]; exact up_eq
  · refine ⟨_, _, _, d1n, fun b => ⟨(11, N ((s.j : Int) + 1), 0, 0, []), rfl, ?_, fun i hi => ?_, ⟨?_, by dsimp only; omega⟩, fun q => by omega, fun q => by omega⟩⟩
    · unfold xo1; dsimp only; omega
    · rw [up_ne (by omega)]
    · rw [show 3 * (cl.length : Int) = 3 * (cl.length : Int) + 0 by omega]; exact up_eq
theorem D_deed (nx : NX N0 T S I P Q d) (hT : ∀ j : Nat, j < T → S j ≠ 0 → j + 1 < T) (T2 : T ≤ 301) (C : ∀ j : Nat, j < T → cor (K j) (N j) (S j) (I j)) (h : XS T c s cl) (hM : PM N0 T S I P Q s M) (k4 : 4 ≤ K s.j ∧ K s.j ≤ 11) (n24 : cl.length < 24) : RC N0 T S I P Q d c M (cClause1 K N P T (K s.j) c) := by
  have h0 := h
  obtain ⟨⟨a1, a2, a3, a4⟩, ⟨a5, a6⟩, ⟨a7, a8⟩, ⟨b4, b5⟩, b6, b7, b8⟩ := h
  have cc := C s.j a6
  have hk : S s.j = 1 ∧ I s.j = K s.j := by
    have q := cor_w cc (by omega) (by omega)
    have := wd_v (k := K s.j) (by omega) (by omega)
    exact ⟨q.1, by omega⟩
  have hl := hT s.j a6 (by rw [hk.1]; decide)
  have ok : okS s := ⟨by rw [a4, a3]; show s.cs.length + 0 + 0 ≤ 390; omega, by rw [a3]; decide, by rw [a4]; decide, by omega, by omega⟩
  unfold cClause1
  rw [cBD_eq (by omega) (by omega)]
  generalize hkk : K s.j = k at *
  have hk1 : S s.j = 1 ∧ I s.j ≤ 11 := ⟨hk.1, by omega⟩
  have hk3 : ¬ I s.j ≤ 3 := by omega
  obtain ⟨t, f, B, r, rB⟩ := D_do (P := P) (cl := cl) hT C a5 hl b4 k4
  have eb : cBody K N P T k (cBD k c) = cDeed K N P k (cBD k c) := by unfold cBody; rw [if_neg (by omega), if_neg (by omega)]
  rw [eb]
  cases hc : cDeed K N P k (cBD k c) with
  | error e =>
    rw [hc] at r
    have r : mDo S I P k (sBeg k s) = .error (e.1, e.2, s.nc) := r
    exact RC_e (g4_deedE nx hT a1 hk1 hk3 (by omega) (by rw [hk.2]; exact r)) hM
  | ok c2 =>
    rw [hc] at r
    obtain ⟨b, e2, l2, y⟩ := r
    obtain ⟨v, v1, v2, v3, v4, v5, v6⟩ := rB b
    have l2 : s.j + 1 + t < T := l2
    have e2 : c2 = cNm (s.j + 1 + t) f (cBD k c) := e2
    have y : mDo S I P (I s.j) (sBeg (I s.j) s) = .ok (sAt (s.j + 1 + t) [] (sBeg k s)) := by rw [hk.2]; exact y
    have cj := C (s.j + 1 + t) l2
    have sg := cor_sign cj (w := 39) (v := 59) (by omega) (by decide)
    have ea : c2.at_ = s.j + 1 + t := by rw [e2]; rfl
    show RC N0 T S I P Q d c M (cExp K P 39 (cEnd k c2))
    rw [cEnd_id k4.1]
    unfold cExp
    rw [ea]
    by_cases q : K ((s.j + 1 + t : Nat) : Int) = 39
    · rw [if_pos q]
      have hl2 := hT _ l2 (by rw [(sg.mpr q).1]; decide)
      obtain ⟨b', g', M', hM', e', hb', hg'⟩ := g4_deed nx hT a1 hk1 hk3 (by omega) ok y (sg.mpr q) hM
      rw [sFD_eq a4] at hM'
      rw [hk.2] at hb' hg'
      refine ⟨_, cl ++ [v], M', ?_, ?_, hM', e'⟩
      · rw [e2]
        exact XS_deed h0 k4.1 n24 hl2 v3 v1 v2 v4 (fun z => ⟨(v5 z).1, (hb' z).trans (v5 z).2⟩) (fun z => ⟨(v6 z).1, (hg' z).trans (v6 z).2⟩)
      · rw [e2]
        show c.at_ < s.j + 1 + t + 1
        omega
    · rw [if_neg q]
      show RC N0 T S I P Q d c M (.error (1, P ((c2.at_ : Nat) : Int)))
      rw [ea]
      exact RC_e (e := (1, P ((s.j + 1 + t : Nat) : Int))) (g4_semiE nx hT a1 hk1 hk3 (by omega) y (fun z => q (sg.mp z))) hM
theorem D_clause (nx : NX N0 T S I P Q d) (hT : ∀ j : Nat, j < T → S j ≠ 0 → j + 1 < T) (T2 : T ≤ 301) (C : ∀ j : Nat, j < T → cor (K j) (N j) (S j) (I j)) (h : XS T c s cl) (hM : PM N0 T S I P Q s M) (hk : K s.j ≠ 44) : RC N0 T S I P Q d c M (cClause K N P T c) := by
  have h0 := h
  obtain ⟨⟨a1, a2, a3, a4⟩, ⟨a5, a6⟩, ⟨a7, a8⟩, ⟨b4, b5⟩, b6, b7, b8⟩ := h
  have cc := C s.j a6
  have s0 : S s.j ≠ 0 := fun z => hk ((cor_end cc).mpr z)
  have cls := cor_cls cc
  unfold cClause
  unfold cErr
  rw [a5]
  have er : ¬ (0 ≤ K s.j ∧ K s.j ≤ 11) → RC N0 T S I P Q d c M (.error (1, P s.j)) := fun q => RC_e (e := (1, P s.j)) (g4_err a1 s0 fun z => q (cls.mp z)) hM
  by_cases q1 : K s.j < 0
  · rw [if_pos q1]; exact er (by omega)
  · rw [if_neg q1]
    by_cases q2 : K s.j ≤ 11
    · rw [if_pos q2]
      have hk1 := cls.mpr ⟨by omega, q2⟩
      have iv : I s.j = K s.j := by
        have q := cor_w cc (by omega) (by omega)
        have := wd_v (k := K s.j) (by omega) (by omega)
        omega
      obtain ⟨t1, t2⟩ := XS_told h0 (k := K s.j) (by omega)
      by_cases q3 : K s.j < 4 ∧ 0 ≤ c.lf (K s.j)
      · rw [if_pos q3]
        exact RC_e (e := (4, P s.j)) (g4_told a1 hk1 (by rw [iv]; exact t1.mp q3)) hM
      · rw [if_neg q3]
        have nt : ¬ toldL s (K s.j) := fun z => q3 (t1.mpr z)
        by_cases q4 : c.nl < 24
        · rw [if_pos q4]
          by_cases q5 : K s.j ≤ 3
          · exact D_law nx hT T2 C h0 hM ⟨by omega, q5⟩ (fun i hi e => nt (t2.mpr ⟨by omega, i, hi, e⟩)) (by omega)
          · exact D_deed nx hT T2 C h0 hM ⟨by omega, q2⟩ (by omega)
        · rw [if_neg q4]
          have := b6.1
          exact RC_e (e := (6, P s.j)) (g4_full a1 hk1 (by rw [iv]; exact nt) (by omega)) hM
    · rw [if_neg q2]; exact er (by omega)
section
variable (N0 : am_M) (T : Nat) (S I P Q : Int → Int) (d : Nat)
def RTp (M : am_M) (x : CX) : Prop := match x with
  | .error e => ∃ n M', PN N0 (e.1, e.2, n) M' ∧ Ex45 d M = Ex45 d M'
  | .ok c' => ∃ s' cl' M', XS T c' s' cl' ∧ S s'.j = 0 ∧ PM N0 T S I P Q s' M' ∧ Ex45 d M = Ex45 d M'
end
theorem D_top (nx : NX N0 T S I P Q d) (hT : ∀ j : Nat, j < T → S j ≠ 0 → j + 1 < T) (T2 : T ≤ 301) (C : ∀ j : Nat, j < T → cor (K j) (N j) (S j) (I j)) : ∀ (m : Nat) (c : CS) (s : PS) (cl : List xcl) (M : am_M), XS T c s cl → PM N0 T S I P Q s M → T ≤ m + c.at_ → RTp N0 T S I P Q d M (cTop K N P T m c) := by
  intro m
  induction m with
  | zero =>
    intro c s cl M h hM hm
    have := h.2.1
    omega
  | succ m ih =>
    intro c s cl M h hM hm
    obtain ⟨a5, a6⟩ := h.2.1
    have cc := C s.j a6
    unfold cTop
    rw [a5]
    by_cases k : K s.j = 44
    · rw [if_pos k]
      exact ⟨s, cl, M, h, (cor_end cc).mp k, hM, rfl⟩
    · rw [if_neg k]
      have r := D_clause nx hT T2 C h hM k
      cases hc : cClause K N P T c with
      | error e =>
        rw [hc] at r
        exact r
      | ok c2 =>
        rw [hc] at r
        obtain ⟨s2, cl2, M2, h2, l2, hM2, e2⟩ := r
        have r2 := ih c2 s2 cl2 M2 h2 hM2 (by omega)
        show RTp N0 T S I P Q d M (cTop K N P T m c2)
        cases hc2 : cTop K N P T m c2 with
        | error e =>
          rw [hc2] at r2
          obtain ⟨n, M', b1, b2⟩ := r2
          exact ⟨n, M', b1, e2.trans b2⟩
        | ok c3 =>
          rw [hc2] at r2
          obtain ⟨s3, cl3, M3, b1, b2, b3, b4⟩ := r2
          exact ⟨s3, cl3, M3, b1, b2, b3, e2.trans b4⟩
end
