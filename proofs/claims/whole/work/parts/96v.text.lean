/-! text: NOT PROVED YET -/
theorem op_text {M : am_M} {d : Nat} (a : RR M) : OP d M 300 295 [] := sorry
