/-! the constructors: the model -/
/-- the model's object so far -/
def MI (M0 M : am_M) (n : Int) (F : Int → Int) : Prop := (M.1 : Int) = n ∧ (∀ i, am_rd M 447 i = F i) ∧ (∀ c i, 448 ≤ c → c < n → am_rd M c i = 0) ∧ ∀ c i, c < 447 → am_rd M c i = am_rd M0 c i
section
variable {d : Nat} {M0 M : am_M} {n k v : Int} {F : Int → Int}
theorem mi_st (h : MI M0 M n F) (hn : 448 ≤ n) : MI M0 (am_wr (am_al M) 447 k n) (n + 1) (fun i => if i = k then n else F i) := by
  obtain ⟨h1, h2, h3, h4⟩ := h
  obtain ⟨n1, s1, f1, z1⟩ := i_st (M := M) (h := 447) (k := k) (v := n) h1 (by omega)
  refine ⟨n1, fun i => by rw [f1, h2], fun c i c1 c2 => ?_, fun c i hc => by rw [s1 c i (by omega) (by omega), h4 c i hc]⟩
  by_cases e : c = n
  · rw [e, z1]
  · rw [s1 c i (by omega) e, h3 c i c1 (by omega)]
theorem mi_wr (h : MI M0 M n F) : MI M0 (am_wr M 447 k v) n (fun i => if i = k then v else F i) := by
  obtain ⟨h1, h2, h3, h4⟩ := h
  obtain ⟨n1, s1, f1⟩ := i_wr (M := M) (h := 447) (k := k) (v := v)
  exact ⟨h1, fun i => by rw [f1, h2], fun c i c1 c2 => by rw [s1 c i (by omega), h3 c i c1 c2], fun c i hc => by rw [s1 c i (by omega), h4 c i hc]⟩
def miF (i : Int) : Int := if i = 53 then 483 else if i = 52 then 482 else if i = 51 then 481 else if i = 50 then 480 else if i = 49 then 479 else if i = 48 then 478 else if i = 46 then 477 else if i = 45 then 476 else if i = 44 then 475 else if i = 43 then 474 else if i = 42 then 473 else if i = 41 then 472 else if i = 40 then 471 else if i = 39 then 470 else if i = 38 then 469 else if i = 37 then 468 else if i = 35 then 467 else if i = 34 then 466 else if i = 33 then 465 else if i = 32 then 464 else if i = 31 then 463 else if i = 27 then 462 else if i = 26 then 461 else if i = 24 then 460 else if i = 23 then 459 else if i = 13 then 458 else if i = 12 then 457 else if i = 11 then 456 else if i = 10 then 455 else if i = 9 then 454 else if i = 8 then 453 else if i = 7 then 452 else if i = 6 then 451 else if i = 5 then -1 else if i = 4 then -1 else if i = 2 then 450 else if i = 1 then 449 else if i = 0 then 448 else 0
set_option maxHeartbeats 4000000 in
theorem i_142 (hM : (M.1 : Int) = 448) (hz : ∀ i, am_rd M 447 i = 0) : ∃ M2, am_Call d 142 [(2, 447)] M = (am_Call d 67 [(2, 447), (0, 1)] M2).bind (fun r => some (0, r.2)) ∧ (M2.1 : Int) = 484 ∧ (∀ i, am_rd M2 447 i = miF i) ∧ (∀ c i, 448 ≤ c → c < 484 → am_rd M2 c i = if c = 448 ∧ i = 223 then 73 else if c = 448 ∧ i = 4 then -1 else 0) ∧ ∀ c i, c < 447 → am_rd M2 c i = am_rd M c i := by
  have h0 : MI M M 448 (fun _ => 0) := ⟨hM, hz, fun c i c1 c2 => by omega, fun _ _ _ => rfl⟩
  rw [aq_142, ax_gtb (by rfl)]
  rw [h0.1, ax_gtb (by rfl), ax_let, ax_gtb (by rfl), ax_let]
  have h1 := mi_st (k := 0) h0 (by decide)
  generalize am_wr (am_al M) 447 0 448 = A1 at *
  rw [show (448 : Int) + 1 = 449 from rfl] at h1
  rw [h1.1, ax_gtb (by rfl), ax_let, ax_let]
  have h2 := mi_st (k := 1) h1 (by decide)
  generalize am_wr (am_al A1) 447 1 449 = A2 at *
  rw [show (449 : Int) + 1 = 450 from rfl] at h2
  rw [h2.1, ax_gtb (by rfl), ax_let, ax_let]
  have h3 := mi_st (k := 2) h2 (by decide)
  generalize am_wr (am_al A2) 447 2 450 = A3 at *
  rw [show (450 : Int) + 1 = 451 from rfl] at h3
  rw [ax_let]
  have h4 := mi_wr (k := 4) (v := -1) h3
  generalize am_wr A3 447 4 (-1) = A4 at *
  rw [ax_let]
  have h5 := mi_wr (k := 5) (v := -1) h4
  generalize am_wr A4 447 5 (-1) = A5 at *
  rw [h5.1, ax_gtb (by rfl), ax_let, ax_let]
  have h6 := mi_st (k := 6) h5 (by decide)
  generalize am_wr (am_al A5) 447 6 451 = A6 at *
  rw [show (451 : Int) + 1 = 452 from rfl] at h6
  rw [h6.1, ax_gtb (by rfl), ax_let, ax_let]
  have h7 := mi_st (k := 7) h6 (by decide)
  generalize am_wr (am_al A6) 447 7 452 = A7 at *
  rw [show (452 : Int) + 1 = 453 from rfl] at h7
  rw [h7.1, ax_gtb (by rfl), ax_let, ax_let]
  have h8 := mi_st (k := 8) h7 (by decide)
  generalize am_wr (am_al A7) 447 8 453 = A8 at *
  rw [show (453 : Int) + 1 = 454 from rfl] at h8
  rw [h8.1, ax_gtb (by rfl), ax_let, ax_let]
  have h9 := mi_st (k := 9) h8 (by decide)
  generalize am_wr (am_al A8) 447 9 454 = A9 at *
  rw [show (454 : Int) + 1 = 455 from rfl] at h9
  rw [h9.1, ax_gtb (by rfl), ax_let, ax_let]
  have h10 := mi_st (k := 10) h9 (by decide)
  generalize am_wr (am_al A9) 447 10 455 = A10 at *
  rw [show (455 : Int) + 1 = 456 from rfl] at h10
  rw [h10.1, ax_gtb (by rfl), ax_let, ax_let]
  have h11 := mi_st (k := 11) h10 (by decide)
  generalize am_wr (am_al A10) 447 11 456 = A11 at *
  rw [show (456 : Int) + 1 = 457 from rfl] at h11
  rw [h11.1, ax_gtb (by rfl), ax_let, ax_let]
  have h12 := mi_st (k := 12) h11 (by decide)
  generalize am_wr (am_al A11) 447 12 457 = A12 at *
  rw [show (457 : Int) + 1 = 458 from rfl] at h12
  rw [h12.1, ax_gtb (by rfl), ax_let, ax_let]
  have h13 := mi_st (k := 13) h12 (by decide)
  generalize am_wr (am_al A12) 447 13 458 = A13 at *
  rw [show (458 : Int) + 1 = 459 from rfl] at h13
  rw [h13.1, ax_gtb (by rfl), ax_let, ax_let]
  have h14 := mi_st (k := 23) h13 (by decide)
  generalize am_wr (am_al A13) 447 23 459 = A14 at *
  rw [show (459 : Int) + 1 = 460 from rfl] at h14
  rw [h14.1, ax_gtb (by rfl), ax_let, ax_let]
  have h15 := mi_st (k := 24) h14 (by decide)
  generalize am_wr (am_al A14) 447 24 460 = A15 at *
  rw [show (460 : Int) + 1 = 461 from rfl] at h15
  rw [h15.1, ax_gtb (by rfl), ax_let, ax_let]
  have h16 := mi_st (k := 26) h15 (by decide)
  generalize am_wr (am_al A15) 447 26 461 = A16 at *
  rw [show (461 : Int) + 1 = 462 from rfl] at h16
  rw [h16.1, ax_gtb (by rfl), ax_let, ax_let]
  have h17 := mi_st (k := 27) h16 (by decide)
  generalize am_wr (am_al A16) 447 27 462 = A17 at *
  rw [show (462 : Int) + 1 = 463 from rfl] at h17
  rw [h17.1, ax_gtb (by rfl), ax_let, ax_let]
  have h18 := mi_st (k := 31) h17 (by decide)
  generalize am_wr (am_al A17) 447 31 463 = A18 at *
  rw [show (463 : Int) + 1 = 464 from rfl] at h18
  rw [h18.1, ax_gtb (by rfl), ax_let, ax_let]
  have h19 := mi_st (k := 32) h18 (by decide)
  generalize am_wr (am_al A18) 447 32 464 = A19 at *
  rw [show (464 : Int) + 1 = 465 from rfl] at h19
  rw [h19.1, ax_gtb (by rfl), ax_let, ax_let]
  have h20 := mi_st (k := 33) h19 (by decide)
  generalize am_wr (am_al A19) 447 33 465 = A20 at *
  rw [show (465 : Int) + 1 = 466 from rfl] at h20
  rw [h20.1, ax_gtb (by rfl), ax_let, ax_let]
  have h21 := mi_st (k := 34) h20 (by decide)
  generalize am_wr (am_al A20) 447 34 466 = A21 at *
  rw [show (466 : Int) + 1 = 467 from rfl] at h21
  rw [h21.1, ax_gtb (by rfl), ax_let, ax_let]
  have h22 := mi_st (k := 35) h21 (by decide)
  generalize am_wr (am_al A21) 447 35 467 = A22 at *
  rw [show (467 : Int) + 1 = 468 from rfl] at h22
  rw [h22.1, ax_gtb (by rfl), ax_let, ax_let]
  have h23 := mi_st (k := 37) h22 (by decide)
  generalize am_wr (am_al A22) 447 37 468 = A23 at *
  rw [show (468 : Int) + 1 = 469 from rfl] at h23
  rw [h23.1, ax_gtb (by rfl), ax_let, ax_let]
  have h24 := mi_st (k := 38) h23 (by decide)
  generalize am_wr (am_al A23) 447 38 469 = A24 at *
  rw [show (469 : Int) + 1 = 470 from rfl] at h24
  rw [h24.1, ax_gtb (by rfl), ax_let, ax_let]
  have h25 := mi_st (k := 39) h24 (by decide)
  generalize am_wr (am_al A24) 447 39 470 = A25 at *
  rw [show (470 : Int) + 1 = 471 from rfl] at h25
  rw [h25.1, ax_gtb (by rfl), ax_let, ax_let]
  have h26 := mi_st (k := 40) h25 (by decide)
  generalize am_wr (am_al A25) 447 40 471 = A26 at *
  rw [show (471 : Int) + 1 = 472 from rfl] at h26
  rw [h26.1, ax_gtb (by rfl), ax_let, ax_let]
  have h27 := mi_st (k := 41) h26 (by decide)
  generalize am_wr (am_al A26) 447 41 472 = A27 at *
  rw [show (472 : Int) + 1 = 473 from rfl] at h27
  rw [h27.1, ax_gtb (by rfl), ax_let, ax_let]
  have h28 := mi_st (k := 42) h27 (by decide)
  generalize am_wr (am_al A27) 447 42 473 = A28 at *
  rw [show (473 : Int) + 1 = 474 from rfl] at h28
  rw [h28.1, ax_gtb (by rfl), ax_let, ax_let]
  have h29 := mi_st (k := 43) h28 (by decide)
  generalize am_wr (am_al A28) 447 43 474 = A29 at *
  rw [show (474 : Int) + 1 = 475 from rfl] at h29
  rw [h29.1, ax_gtb (by rfl), ax_let, ax_let]
  have h30 := mi_st (k := 44) h29 (by decide)
  generalize am_wr (am_al A29) 447 44 475 = A30 at *
  rw [show (475 : Int) + 1 = 476 from rfl] at h30
  rw [h30.1, ax_gtb (by rfl), ax_let, ax_let]
  have h31 := mi_st (k := 45) h30 (by decide)
  generalize am_wr (am_al A30) 447 45 476 = A31 at *
  rw [show (476 : Int) + 1 = 477 from rfl] at h31
  rw [h31.1, ax_gtb (by rfl), ax_let, ax_let]
  have h32 := mi_st (k := 46) h31 (by decide)
  generalize am_wr (am_al A31) 447 46 477 = A32 at *
  rw [show (477 : Int) + 1 = 478 from rfl] at h32
  rw [h32.1, ax_gtb (by rfl), ax_let, ax_let]
  have h33 := mi_st (k := 48) h32 (by decide)
  generalize am_wr (am_al A32) 447 48 478 = A33 at *
  rw [show (478 : Int) + 1 = 479 from rfl] at h33
  rw [h33.1, ax_gtb (by rfl), ax_let, ax_let]
  have h34 := mi_st (k := 49) h33 (by decide)
  generalize am_wr (am_al A33) 447 49 479 = A34 at *
  rw [show (479 : Int) + 1 = 480 from rfl] at h34
  rw [h34.1, ax_gtb (by rfl), ax_let, ax_let]
  have h35 := mi_st (k := 50) h34 (by decide)
  generalize am_wr (am_al A34) 447 50 480 = A35 at *
  rw [show (480 : Int) + 1 = 481 from rfl] at h35
  rw [h35.1, ax_gtb (by rfl), ax_let, ax_let]
  have h36 := mi_st (k := 51) h35 (by decide)
  generalize am_wr (am_al A35) 447 51 481 = A36 at *
  rw [show (481 : Int) + 1 = 482 from rfl] at h36
  rw [h36.1, ax_gtb (by rfl), ax_let, ax_let]
  have h37 := mi_st (k := 52) h36 (by decide)
  generalize am_wr (am_al A36) 447 52 482 = A37 at *
  rw [show (482 : Int) + 1 = 483 from rfl] at h37
  rw [h37.1, ax_gtb (by rfl), ax_let, ax_let]
  have h38 := mi_st (k := 53) h37 (by decide)
  generalize am_wr (am_al A37) 447 53 483 = A38 at *
  rw [show (483 : Int) + 1 = 484 from rfl] at h38
  clear h0 h1 h2 h3 h4 h5 h6 h7 h8 h9 h10 h11 h12 h13 h14 h15 h16 h17 h18 h19 h20 h21 h22 h23 h24 h25 h26 h27 h28 h29 h30 h31 h32 h33 h34 h35 h36 h37
  obtain ⟨n1, f1, z1, u1⟩ := h38
  have g0 : am_rd A38 447 0 = 448 := by rw [f1]; rfl
  have g1 : am_rd (am_wr A38 448 4 (-1)) 447 0 = 448 := (ax_wc (by decide)).trans g0
  rw [g0, ax_gtb (by rfl), ax_let, g1, ax_gtb (by rfl), ax_let]
  refine ⟨am_wr (am_wr A38 448 4 (-1)) 448 223 73, rfl, n1, fun i => ?_, fun c i c1 c2 => ?_, fun c i hc => ?_⟩
  · rw [ax_wc (by decide), ax_wc (by decide), f1]
    rfl
  · rw [ax_rw, ax_rw, z1 c i c1 c2]
  · rw [ax_wc (by omega), ax_wc (by omega), u1 c i hc]
end
