/-! the cells by their numbers -/
theorem ax_o_1 : am_ob 1 10 = true := rfl
theorem ax_o_2 : am_ob 2 2 = true := rfl
theorem ax_o_8 : am_ob 8 3 = true := rfl
theorem ax_o_39 : am_ob 39 4 = true := rfl
theorem ax_o_42 : am_ob 42 0 = true := rfl
theorem ax_o_43 : am_ob 43 2 = true := rfl
theorem ax_o_49 : am_ob 49 3 = true := rfl
theorem ax_o_55 : am_ob 55 9 = true := rfl
theorem ax_o_237 : am_ob 237 9 = true := rfl
theorem ax_o_420 : am_ob 420 6 = true := rfl
theorem ax_o_424 : am_ob 424 1 = true := rfl
theorem ax_o_425 : am_ob 425 3 = true := rfl
theorem ax_o_442 : am_ob 442 7 = true := rfl
theorem ax_o_444 : am_ob 444 5 = true := rfl
theorem ax_o_447 : am_ob 447 11 = true := rfl
theorem ax_o_15 : am_ob 15 8 = true := rfl
theorem ax_o_21 : am_ob 21 8 = true := rfl
theorem ax_o_27 : am_ob 27 8 = true := rfl
theorem ax_o_33 : am_ob 33 8 = true := rfl
theorem ax_a_3 {i : Int} : am_ar 3 20 i = (decide (0 ≤ i) && decide (i < 8)) := rfl
theorem ax_a_4 {i : Int} : am_ar 4 20 i = (decide (0 ≤ i) && decide (i < 8)) := rfl
theorem ax_a_5 {i : Int} : am_ar 5 20 i = (decide (0 ≤ i) && decide (i < 6)) := rfl
theorem ax_a_6 {i : Int} : am_ar 6 20 i = (decide (0 ≤ i) && decide (i < 6)) := rfl
theorem ax_a_7 {i : Int} : am_ar 7 20 i = (decide (0 ≤ i) && decide (i < 8)) := rfl
theorem ax_a_9 {i : Int} : am_ar 9 20 i = (decide (0 ≤ i) && decide (i < 48)) := rfl
theorem ax_a_10 {i : Int} : am_ar 10 20 i = (decide (0 ≤ i) && decide (i < 48)) := rfl
theorem ax_a_11 {i : Int} : am_ar 11 20 i = (decide (0 ≤ i) && decide (i < 48)) := rfl
theorem ax_a_12 {i : Int} : am_ar 12 20 i = (decide (0 ≤ i) && decide (i < 6)) := rfl
theorem ax_a_13 {i : Int} : am_ar 13 20 i = (decide (0 ≤ i) && decide (i < 6)) := rfl
theorem ax_a_40 {i : Int} : am_ar 40 20 i = (decide (0 ≤ i) && decide (i < 9)) := rfl
theorem ax_a_41 {i : Int} : am_ar 41 20 i = (decide (0 ≤ i) && decide (i < 64)) := rfl
theorem ax_a_44 {i : Int} : am_ar 44 20 i = (decide (0 ≤ i) && decide (i < 8)) := rfl
theorem ax_a_45 {i : Int} : am_ar 45 20 i = (decide (0 ≤ i) && decide (i < 8)) := rfl
theorem ax_a_46 {i : Int} : am_ar 46 20 i = (decide (0 ≤ i) && decide (i < 6)) := rfl
theorem ax_a_47 {i : Int} : am_ar 47 20 i = (decide (0 ≤ i) && decide (i < 6)) := rfl
theorem ax_a_48 {i : Int} : am_ar 48 20 i = (decide (0 ≤ i) && decide (i < 8)) := rfl
theorem ax_a_50 {i : Int} : am_ar 50 20 i = (decide (0 ≤ i) && decide (i < 48)) := rfl
theorem ax_a_51 {i : Int} : am_ar 51 20 i = (decide (0 ≤ i) && decide (i < 48)) := rfl
theorem ax_a_52 {i : Int} : am_ar 52 20 i = (decide (0 ≤ i) && decide (i < 48)) := rfl
theorem ax_a_53 {i : Int} : am_ar 53 20 i = (decide (0 ≤ i) && decide (i < 6)) := rfl
theorem ax_a_54 {i : Int} : am_ar 54 20 i = (decide (0 ≤ i) && decide (i < 6)) := rfl
theorem ax_a_421 {i : Int} : am_ar 421 20 i = (decide (0 ≤ i) && decide (i < 301)) := rfl
theorem ax_a_422 {i : Int} : am_ar 422 20 i = (decide (0 ≤ i) && decide (i < 301)) := rfl
theorem ax_a_423 {i : Int} : am_ar 423 20 i = (decide (0 ≤ i) && decide (i < 301)) := rfl
theorem ax_a_426 {i : Int} : am_ar 426 20 i = (decide (0 ≤ i) && decide (i < 48)) := rfl
theorem ax_a_427 {i : Int} : am_ar 427 20 i = (decide (0 ≤ i) && decide (i < 48)) := rfl
theorem ax_a_428 {i : Int} : am_ar 428 20 i = (decide (0 ≤ i) && decide (i < 48)) := rfl
theorem ax_a_429 {i : Int} : am_ar 429 20 i = (decide (0 ≤ i) && decide (i < 6)) := rfl
theorem ax_a_430 {i : Int} : am_ar 430 20 i = (decide (0 ≤ i) && decide (i < 6)) := rfl
theorem ax_a_440 {i : Int} : am_ar 440 20 i = (decide (0 ≤ i) && decide (i < 4)) := rfl
theorem ax_a_441 {i : Int} : am_ar 441 20 i = (decide (0 ≤ i) && decide (i < 4)) := rfl
theorem ax_a_443 {i : Int} : am_ar 443 20 i = (decide (0 ≤ i) && decide (i < 6)) := rfl
theorem ax_a_445 {i : Int} : am_ar 445 20 i = (decide (0 ≤ i) && decide (i < 6)) := rfl
theorem ax_a_446 {i : Int} : am_ar 446 20 i = (decide (0 ≤ i) && decide (i < 6)) := rfl
theorem ax_a_448 {i : Int} : am_ar 448 20 i = (decide (0 ≤ i) && decide (i < 5160)) := rfl
theorem ax_a_449 {i : Int} : am_ar 449 20 i = (decide (0 ≤ i) && decide (i < 5160)) := rfl
theorem ax_a_451 {i : Int} : am_ar 451 20 i = (decide (0 ≤ i) && decide (i < 4)) := rfl
theorem ax_a_452 {i : Int} : am_ar 452 20 i = (decide (0 ≤ i) && decide (i < 96)) := rfl
theorem ax_a_453 {i : Int} : am_ar 453 20 i = (decide (0 ≤ i) && decide (i < 96)) := rfl
theorem ax_a_454 {i : Int} : am_ar 454 20 i = (decide (0 ≤ i) && decide (i < 96)) := rfl
theorem ax_a_455 {i : Int} : am_ar 455 20 i = (decide (0 ≤ i) && decide (i < 96)) := rfl
theorem ax_a_456 {i : Int} : am_ar 456 20 i = (decide (0 ≤ i) && decide (i < 96)) := rfl
theorem ax_a_457 {i : Int} : am_ar 457 20 i = (decide (0 ≤ i) && decide (i < 1600)) := rfl
theorem ax_a_458 {i : Int} : am_ar 458 20 i = (decide (0 ≤ i) && decide (i < 1600)) := rfl
theorem ax_a_459 {i : Int} : am_ar 459 20 i = (decide (0 ≤ i) && decide (i < 40)) := rfl
theorem ax_a_460 {i : Int} : am_ar 460 20 i = (decide (0 ≤ i) && decide (i < 41)) := rfl
theorem ax_a_461 {i : Int} : am_ar 461 20 i = (decide (0 ≤ i) && decide (i < 80)) := rfl
theorem ax_a_462 {i : Int} : am_ar 462 20 i = (decide (0 ≤ i) && decide (i < 80)) := rfl
theorem ax_a_463 {i : Int} : am_ar 463 20 i = (decide (0 ≤ i) && decide (i < 24)) := rfl
theorem ax_a_464 {i : Int} : am_ar 464 20 i = (decide (0 ≤ i) && decide (i < 24)) := rfl
theorem ax_a_465 {i : Int} : am_ar 465 20 i = (decide (0 ≤ i) && decide (i < 24)) := rfl
theorem ax_a_466 {i : Int} : am_ar 466 20 i = (decide (0 ≤ i) && decide (i < 24)) := rfl
theorem ax_a_467 {i : Int} : am_ar 467 20 i = (decide (0 ≤ i) && decide (i < 24)) := rfl
theorem ax_a_468 {i : Int} : am_ar 468 20 i = (decide (0 ≤ i) && decide (i < 400)) := rfl
theorem ax_a_469 {i : Int} : am_ar 469 20 i = (decide (0 ≤ i) && decide (i < 400)) := rfl
theorem ax_a_470 {i : Int} : am_ar 470 20 i = (decide (0 ≤ i) && decide (i < 9)) := rfl
theorem ax_a_472 {i : Int} : am_ar 472 20 i = (decide (0 ≤ i) && decide (i < 48)) := rfl
theorem ax_a_473 {i : Int} : am_ar 473 20 i = (decide (0 ≤ i) && decide (i < 48)) := rfl
theorem ax_a_474 {i : Int} : am_ar 474 20 i = (decide (0 ≤ i) && decide (i < 48)) := rfl
theorem ax_a_475 {i : Int} : am_ar 475 20 i = (decide (0 ≤ i) && decide (i < 6)) := rfl
theorem ax_a_476 {i : Int} : am_ar 476 20 i = (decide (0 ≤ i) && decide (i < 6)) := rfl
theorem ax_a_477 {i : Int} : am_ar 477 20 i = (decide (0 ≤ i) && decide (i < 6)) := rfl
theorem ax_a_478 {i : Int} : am_ar 478 20 i = (decide (0 ≤ i) && decide (i < 4)) := rfl
theorem ax_a_479 {i : Int} : am_ar 479 20 i = (decide (0 ≤ i) && decide (i < 4)) := rfl
theorem ax_a_480 {i : Int} : am_ar 480 20 i = (decide (0 ≤ i) && decide (i < 8)) := rfl
theorem ax_a_481 {i : Int} : am_ar 481 20 i = (decide (0 ≤ i) && decide (i < 6)) := rfl
theorem ax_a_482 {i : Int} : am_ar 482 20 i = (decide (0 ≤ i) && decide (i < 6)) := rfl
theorem ax_a_483 {i : Int} : am_ar 483 20 i = (decide (0 ≤ i) && decide (i < 6)) := rfl
theorem ax_a_16 {i : Int} : am_ar 16 20 i = (decide (0 ≤ i) && decide (i < 300)) := rfl
theorem ax_a_17 {i : Int} : am_ar 17 20 i = (decide (0 ≤ i) && decide (i < 4)) := rfl
theorem ax_a_18 {i : Int} : am_ar 18 20 i = (decide (0 ≤ i) && decide (i < 4)) := rfl
theorem ax_a_19 {i : Int} : am_ar 19 20 i = (decide (0 ≤ i) && decide (i < 24)) := rfl
theorem ax_a_20 {i : Int} : am_ar 20 20 i = (decide (0 ≤ i) && decide (i < 72)) := rfl
theorem ax_a_22 {i : Int} : am_ar 22 20 i = (decide (0 ≤ i) && decide (i < 300)) := rfl
theorem ax_a_23 {i : Int} : am_ar 23 20 i = (decide (0 ≤ i) && decide (i < 4)) := rfl
theorem ax_a_24 {i : Int} : am_ar 24 20 i = (decide (0 ≤ i) && decide (i < 4)) := rfl
theorem ax_a_25 {i : Int} : am_ar 25 20 i = (decide (0 ≤ i) && decide (i < 24)) := rfl
theorem ax_a_26 {i : Int} : am_ar 26 20 i = (decide (0 ≤ i) && decide (i < 72)) := rfl
theorem ax_a_28 {i : Int} : am_ar 28 20 i = (decide (0 ≤ i) && decide (i < 300)) := rfl
theorem ax_a_29 {i : Int} : am_ar 29 20 i = (decide (0 ≤ i) && decide (i < 4)) := rfl
theorem ax_a_30 {i : Int} : am_ar 30 20 i = (decide (0 ≤ i) && decide (i < 4)) := rfl
theorem ax_a_31 {i : Int} : am_ar 31 20 i = (decide (0 ≤ i) && decide (i < 24)) := rfl
theorem ax_a_32 {i : Int} : am_ar 32 20 i = (decide (0 ≤ i) && decide (i < 72)) := rfl
theorem ax_a_34 {i : Int} : am_ar 34 20 i = (decide (0 ≤ i) && decide (i < 300)) := rfl
theorem ax_a_35 {i : Int} : am_ar 35 20 i = (decide (0 ≤ i) && decide (i < 4)) := rfl
theorem ax_a_36 {i : Int} : am_ar 36 20 i = (decide (0 ≤ i) && decide (i < 4)) := rfl
theorem ax_a_37 {i : Int} : am_ar 37 20 i = (decide (0 ≤ i) && decide (i < 24)) := rfl
theorem ax_a_38 {i : Int} : am_ar 38 20 i = (decide (0 ≤ i) && decide (i < 72)) := rfl
theorem ax_a_432 {i : Int} : am_ar 432 20 i = (decide (0 ≤ i) && decide (i < 16)) := rfl
theorem ax_a_433 {i : Int} : am_ar 433 20 i = (decide (0 ≤ i) && decide (i < 16)) := rfl
theorem ax_a_434 {i : Int} : am_ar 434 20 i = (decide (0 ≤ i) && decide (i < 16)) := rfl
theorem ax_a_435 {i : Int} : am_ar 435 20 i = (decide (0 ≤ i) && decide (i < 16)) := rfl
theorem ax_a_436 {i : Int} : am_ar 436 20 i = (decide (0 ≤ i) && decide (i < 16)) := rfl
theorem ax_a_437 {i : Int} : am_ar 437 20 i = (decide (0 ≤ i) && decide (i < 16)) := rfl
theorem ax_a_438 {i : Int} : am_ar 438 20 i = (decide (0 ≤ i) && decide (i < 16)) := rfl
theorem ax_a_439 {i : Int} : am_ar 439 20 i = (decide (0 ≤ i) && decide (i < 16)) := rfl
theorem ax_a_419 {i : Int} : am_ar 419 22 i = (decide (0 ≤ i) && decide (i < 300)) := rfl
theorem ax_a_450 {i : Int} : am_ar 450 23 i = (decide (0 ≤ i) && decide (i < 300)) := rfl
theorem ax_a_471 {i : Int} : am_ar 471 21 i = (decide (0 ≤ i) && decide (i < 200)) := rfl
theorem ax_q_14 {i : Int} : (am_ar 14 24 i || (am_ar 14 25 i || am_ar 14 26 i)) = (decide (0 ≤ i) && decide (i < 4)) := by
  show ((decide (0 ≤ i) && decide (i < 4)) || (false || false)) = _
  simp only [Bool.false_or, Bool.or_false]
theorem ax_q_56 {i : Int} : (am_ar 56 24 i || (am_ar 56 25 i || am_ar 56 26 i)) = (decide (0 ≤ i) && decide (i < 30)) := by
  show (false || ((decide (0 ≤ i) && decide (i < 30)) || false)) = _
  simp only [Bool.false_or, Bool.or_false]
theorem ax_q_238 {i : Int} : (am_ar 238 24 i || (am_ar 238 25 i || am_ar 238 26 i)) = (decide (0 ≤ i) && decide (i < 30)) := by
  show (false || ((decide (0 ≤ i) && decide (i < 30)) || false)) = _
  simp only [Bool.false_or, Bool.or_false]
theorem ax_q_431 {i : Int} : (am_ar 431 24 i || (am_ar 431 25 i || am_ar 431 26 i)) = (decide (0 ≤ i) && decide (i < 8)) := by
  show (false || (false || (decide (0 ≤ i) && decide (i < 8)))) = _
  simp only [Bool.false_or, Bool.or_false]
theorem kr_2_0 {M : am_M} (h : ax_K M) : am_rd M 2 0 = 3 := h.2 2 0 rfl
theorem kr_2_1 {M : am_M} (h : ax_K M) : am_rd M 2 1 = 4 := h.2 2 1 rfl
theorem kr_2_2 {M : am_M} (h : ax_K M) : am_rd M 2 2 = 5 := h.2 2 2 rfl
theorem kr_2_3 {M : am_M} (h : ax_K M) : am_rd M 2 3 = 6 := h.2 2 3 rfl
theorem kr_2_4 {M : am_M} (h : ax_K M) : am_rd M 2 4 = 7 := h.2 2 4 rfl
theorem kr_43_0 {M : am_M} (h : ax_K M) : am_rd M 43 0 = 44 := h.2 43 0 rfl
theorem kr_43_1 {M : am_M} (h : ax_K M) : am_rd M 43 1 = 45 := h.2 43 1 rfl
theorem kr_43_2 {M : am_M} (h : ax_K M) : am_rd M 43 2 = 46 := h.2 43 2 rfl
theorem kr_43_3 {M : am_M} (h : ax_K M) : am_rd M 43 3 = 47 := h.2 43 3 rfl
theorem kr_43_4 {M : am_M} (h : ax_K M) : am_rd M 43 4 = 48 := h.2 43 4 rfl
theorem kr_8_0 {M : am_M} (h : ax_K M) : am_rd M 8 0 = 9 := h.2 8 0 rfl
theorem kr_8_1 {M : am_M} (h : ax_K M) : am_rd M 8 1 = 10 := h.2 8 1 rfl
theorem kr_8_2 {M : am_M} (h : ax_K M) : am_rd M 8 2 = 11 := h.2 8 2 rfl
theorem kr_8_3 {M : am_M} (h : ax_K M) : am_rd M 8 3 = 12 := h.2 8 3 rfl
theorem kr_8_4 {M : am_M} (h : ax_K M) : am_rd M 8 4 = 13 := h.2 8 4 rfl
theorem kr_49_0 {M : am_M} (h : ax_K M) : am_rd M 49 0 = 50 := h.2 49 0 rfl
theorem kr_49_1 {M : am_M} (h : ax_K M) : am_rd M 49 1 = 51 := h.2 49 1 rfl
theorem kr_49_2 {M : am_M} (h : ax_K M) : am_rd M 49 2 = 52 := h.2 49 2 rfl
theorem kr_49_3 {M : am_M} (h : ax_K M) : am_rd M 49 3 = 53 := h.2 49 3 rfl
theorem kr_49_4 {M : am_M} (h : ax_K M) : am_rd M 49 4 = 54 := h.2 49 4 rfl
theorem kr_425_0 {M : am_M} (h : ax_K M) : am_rd M 425 0 = 426 := h.2 425 0 rfl
theorem kr_425_1 {M : am_M} (h : ax_K M) : am_rd M 425 1 = 427 := h.2 425 1 rfl
theorem kr_425_2 {M : am_M} (h : ax_K M) : am_rd M 425 2 = 428 := h.2 425 2 rfl
theorem kr_425_3 {M : am_M} (h : ax_K M) : am_rd M 425 3 = 429 := h.2 425 3 rfl
theorem kr_425_4 {M : am_M} (h : ax_K M) : am_rd M 425 4 = 430 := h.2 425 4 rfl
theorem kr_15_0 {M : am_M} (h : ax_K M) : am_rd M 15 0 = 16 := h.2 15 0 rfl
theorem kr_15_2 {M : am_M} (h : ax_K M) : am_rd M 15 2 = 17 := h.2 15 2 rfl
theorem kr_15_3 {M : am_M} (h : ax_K M) : am_rd M 15 3 = 18 := h.2 15 3 rfl
theorem kr_15_4 {M : am_M} (h : ax_K M) : am_rd M 15 4 = 19 := h.2 15 4 rfl
theorem kr_15_5 {M : am_M} (h : ax_K M) : am_rd M 15 5 = 20 := h.2 15 5 rfl
theorem kr_14_0 {M : am_M} (h : ax_K M) : am_rd M 14 0 = 15 := h.2 14 0 rfl
theorem kr_21_0 {M : am_M} (h : ax_K M) : am_rd M 21 0 = 22 := h.2 21 0 rfl
theorem kr_21_2 {M : am_M} (h : ax_K M) : am_rd M 21 2 = 23 := h.2 21 2 rfl
theorem kr_21_3 {M : am_M} (h : ax_K M) : am_rd M 21 3 = 24 := h.2 21 3 rfl
theorem kr_21_4 {M : am_M} (h : ax_K M) : am_rd M 21 4 = 25 := h.2 21 4 rfl
theorem kr_21_5 {M : am_M} (h : ax_K M) : am_rd M 21 5 = 26 := h.2 21 5 rfl
theorem kr_14_1 {M : am_M} (h : ax_K M) : am_rd M 14 1 = 21 := h.2 14 1 rfl
theorem kr_27_0 {M : am_M} (h : ax_K M) : am_rd M 27 0 = 28 := h.2 27 0 rfl
theorem kr_27_2 {M : am_M} (h : ax_K M) : am_rd M 27 2 = 29 := h.2 27 2 rfl
theorem kr_27_3 {M : am_M} (h : ax_K M) : am_rd M 27 3 = 30 := h.2 27 3 rfl
theorem kr_27_4 {M : am_M} (h : ax_K M) : am_rd M 27 4 = 31 := h.2 27 4 rfl
theorem kr_27_5 {M : am_M} (h : ax_K M) : am_rd M 27 5 = 32 := h.2 27 5 rfl
theorem kr_14_2 {M : am_M} (h : ax_K M) : am_rd M 14 2 = 27 := h.2 14 2 rfl
theorem kr_33_0 {M : am_M} (h : ax_K M) : am_rd M 33 0 = 34 := h.2 33 0 rfl
theorem kr_33_2 {M : am_M} (h : ax_K M) : am_rd M 33 2 = 35 := h.2 33 2 rfl
theorem kr_33_3 {M : am_M} (h : ax_K M) : am_rd M 33 3 = 36 := h.2 33 3 rfl
theorem kr_33_4 {M : am_M} (h : ax_K M) : am_rd M 33 4 = 37 := h.2 33 4 rfl
theorem kr_33_5 {M : am_M} (h : ax_K M) : am_rd M 33 5 = 38 := h.2 33 5 rfl
theorem kr_14_3 {M : am_M} (h : ax_K M) : am_rd M 14 3 = 33 := h.2 14 3 rfl
theorem kr_55_0 {M : am_M} (h : ax_K M) : am_rd M 55 0 = 56 := h.2 55 0 rfl
theorem kr_237_0 {M : am_M} (h : ax_K M) : am_rd M 237 0 = 238 := h.2 237 0 rfl
theorem kr_431_0 {M : am_M} (h : ax_K M) : am_rd M 431 0 = 432 := h.2 431 0 rfl
theorem kr_431_1 {M : am_M} (h : ax_K M) : am_rd M 431 1 = 433 := h.2 431 1 rfl
theorem kr_431_2 {M : am_M} (h : ax_K M) : am_rd M 431 2 = 434 := h.2 431 2 rfl
theorem kr_431_3 {M : am_M} (h : ax_K M) : am_rd M 431 3 = 435 := h.2 431 3 rfl
theorem kr_431_4 {M : am_M} (h : ax_K M) : am_rd M 431 4 = 436 := h.2 431 4 rfl
theorem kr_431_5 {M : am_M} (h : ax_K M) : am_rd M 431 5 = 437 := h.2 431 5 rfl
theorem kr_431_6 {M : am_M} (h : ax_K M) : am_rd M 431 6 = 438 := h.2 431 6 rfl
theorem kr_431_7 {M : am_M} (h : ax_K M) : am_rd M 431 7 = 439 := h.2 431 7 rfl
theorem kr_1_0 {M : am_M} (h : ax_K M) : am_rd M 1 0 = 2 := h.2 1 0 rfl
theorem kr_1_1 {M : am_M} (h : ax_K M) : am_rd M 1 1 = 43 := h.2 1 1 rfl
theorem kr_1_2 {M : am_M} (h : ax_K M) : am_rd M 1 2 = 8 := h.2 1 2 rfl
theorem kr_1_3 {M : am_M} (h : ax_K M) : am_rd M 1 3 = 49 := h.2 1 3 rfl
theorem kr_1_4 {M : am_M} (h : ax_K M) : am_rd M 1 4 = 55 := h.2 1 4 rfl
theorem kr_1_5 {M : am_M} (h : ax_K M) : am_rd M 1 5 = 237 := h.2 1 5 rfl
theorem kr_1_6 {M : am_M} (h : ax_K M) : am_rd M 1 6 = 14 := h.2 1 6 rfl
theorem kr_1_7 {M : am_M} (h : ax_K M) : am_rd M 1 7 = 419 := h.2 1 7 rfl
theorem kr_1_9 {M : am_M} (h : ax_K M) : am_rd M 1 9 = 420 := h.2 1 9 rfl
theorem kr_1_10 {M : am_M} (h : ax_K M) : am_rd M 1 10 = 39 := h.2 1 10 rfl
theorem kr_1_11 {M : am_M} (h : ax_K M) : am_rd M 1 11 = 42 := h.2 1 11 rfl
theorem kr_1_12 {M : am_M} (h : ax_K M) : am_rd M 1 12 = 424 := h.2 1 12 rfl
theorem kr_1_13 {M : am_M} (h : ax_K M) : am_rd M 1 13 = 442 := h.2 1 13 rfl
theorem kr_1_14 {M : am_M} (h : ax_K M) : am_rd M 1 14 = 444 := h.2 1 14 rfl
theorem kr_39_0 {M : am_M} (h : ax_K M) : am_rd M 39 0 = 2 := h.2 39 0 rfl
theorem kr_39_1 {M : am_M} (h : ax_K M) : am_rd M 39 1 = 14 := h.2 39 1 rfl
theorem kr_39_2 {M : am_M} (h : ax_K M) : am_rd M 39 2 = 40 := h.2 39 2 rfl
theorem kr_39_3 {M : am_M} (h : ax_K M) : am_rd M 39 3 = 41 := h.2 39 3 rfl
theorem kr_42_0 {M : am_M} (h : ax_K M) : am_rd M 42 0 = 2 := h.2 42 0 rfl
theorem kr_42_1 {M : am_M} (h : ax_K M) : am_rd M 42 1 = 39 := h.2 42 1 rfl
theorem kr_424_0 {M : am_M} (h : ax_K M) : am_rd M 424 0 = 2 := h.2 424 0 rfl
theorem kr_424_1 {M : am_M} (h : ax_K M) : am_rd M 424 1 = 8 := h.2 424 1 rfl
theorem kr_424_2 {M : am_M} (h : ax_K M) : am_rd M 424 2 = 39 := h.2 424 2 rfl
theorem kr_424_3 {M : am_M} (h : ax_K M) : am_rd M 424 3 = 42 := h.2 424 3 rfl
theorem kr_424_4 {M : am_M} (h : ax_K M) : am_rd M 424 4 = 425 := h.2 424 4 rfl
theorem kr_424_5 {M : am_M} (h : ax_K M) : am_rd M 424 5 = 431 := h.2 424 5 rfl
theorem kr_424_6 {M : am_M} (h : ax_K M) : am_rd M 424 6 = 440 := h.2 424 6 rfl
theorem kr_424_7 {M : am_M} (h : ax_K M) : am_rd M 424 7 = 441 := h.2 424 7 rfl
theorem kr_420_0 {M : am_M} (h : ax_K M) : am_rd M 420 0 = 421 := h.2 420 0 rfl
theorem kr_420_1 {M : am_M} (h : ax_K M) : am_rd M 420 1 = 422 := h.2 420 1 rfl
theorem kr_420_2 {M : am_M} (h : ax_K M) : am_rd M 420 2 = 423 := h.2 420 2 rfl
theorem kr_442_0 {M : am_M} (h : ax_K M) : am_rd M 442 0 = 2 := h.2 442 0 rfl
theorem kr_442_1 {M : am_M} (h : ax_K M) : am_rd M 442 1 = 8 := h.2 442 1 rfl
theorem kr_442_2 {M : am_M} (h : ax_K M) : am_rd M 442 2 = 39 := h.2 442 2 rfl
theorem kr_442_3 {M : am_M} (h : ax_K M) : am_rd M 442 3 = 443 := h.2 442 3 rfl
theorem kr_444_0 {M : am_M} (h : ax_K M) : am_rd M 444 0 = 2 := h.2 444 0 rfl
theorem kr_444_1 {M : am_M} (h : ax_K M) : am_rd M 444 1 = 8 := h.2 444 1 rfl
theorem kr_444_2 {M : am_M} (h : ax_K M) : am_rd M 444 2 = 445 := h.2 444 2 rfl
theorem kr_444_3 {M : am_M} (h : ax_K M) : am_rd M 444 3 = 446 := h.2 444 3 rfl
theorem kr_447_0 {M : am_M} (h : ax_K M) : am_rd M 447 0 = 448 := h.2 447 0 rfl
theorem kr_447_1 {M : am_M} (h : ax_K M) : am_rd M 447 1 = 449 := h.2 447 1 rfl
theorem kr_447_2 {M : am_M} (h : ax_K M) : am_rd M 447 2 = 450 := h.2 447 2 rfl
theorem kr_447_6 {M : am_M} (h : ax_K M) : am_rd M 447 6 = 451 := h.2 447 6 rfl
theorem kr_447_7 {M : am_M} (h : ax_K M) : am_rd M 447 7 = 452 := h.2 447 7 rfl
theorem kr_447_8 {M : am_M} (h : ax_K M) : am_rd M 447 8 = 453 := h.2 447 8 rfl
theorem kr_447_9 {M : am_M} (h : ax_K M) : am_rd M 447 9 = 454 := h.2 447 9 rfl
theorem kr_447_10 {M : am_M} (h : ax_K M) : am_rd M 447 10 = 455 := h.2 447 10 rfl
theorem kr_447_11 {M : am_M} (h : ax_K M) : am_rd M 447 11 = 456 := h.2 447 11 rfl
theorem kr_447_12 {M : am_M} (h : ax_K M) : am_rd M 447 12 = 457 := h.2 447 12 rfl
theorem kr_447_13 {M : am_M} (h : ax_K M) : am_rd M 447 13 = 458 := h.2 447 13 rfl
theorem kr_447_23 {M : am_M} (h : ax_K M) : am_rd M 447 23 = 459 := h.2 447 23 rfl
theorem kr_447_24 {M : am_M} (h : ax_K M) : am_rd M 447 24 = 460 := h.2 447 24 rfl
theorem kr_447_26 {M : am_M} (h : ax_K M) : am_rd M 447 26 = 461 := h.2 447 26 rfl
theorem kr_447_27 {M : am_M} (h : ax_K M) : am_rd M 447 27 = 462 := h.2 447 27 rfl
theorem kr_447_31 {M : am_M} (h : ax_K M) : am_rd M 447 31 = 463 := h.2 447 31 rfl
theorem kr_447_32 {M : am_M} (h : ax_K M) : am_rd M 447 32 = 464 := h.2 447 32 rfl
theorem kr_447_33 {M : am_M} (h : ax_K M) : am_rd M 447 33 = 465 := h.2 447 33 rfl
theorem kr_447_34 {M : am_M} (h : ax_K M) : am_rd M 447 34 = 466 := h.2 447 34 rfl
theorem kr_447_35 {M : am_M} (h : ax_K M) : am_rd M 447 35 = 467 := h.2 447 35 rfl
theorem kr_447_37 {M : am_M} (h : ax_K M) : am_rd M 447 37 = 468 := h.2 447 37 rfl
theorem kr_447_38 {M : am_M} (h : ax_K M) : am_rd M 447 38 = 469 := h.2 447 38 rfl
theorem kr_447_39 {M : am_M} (h : ax_K M) : am_rd M 447 39 = 470 := h.2 447 39 rfl
theorem kr_447_40 {M : am_M} (h : ax_K M) : am_rd M 447 40 = 471 := h.2 447 40 rfl
theorem kr_447_41 {M : am_M} (h : ax_K M) : am_rd M 447 41 = 472 := h.2 447 41 rfl
theorem kr_447_42 {M : am_M} (h : ax_K M) : am_rd M 447 42 = 473 := h.2 447 42 rfl
theorem kr_447_43 {M : am_M} (h : ax_K M) : am_rd M 447 43 = 474 := h.2 447 43 rfl
theorem kr_447_44 {M : am_M} (h : ax_K M) : am_rd M 447 44 = 475 := h.2 447 44 rfl
theorem kr_447_45 {M : am_M} (h : ax_K M) : am_rd M 447 45 = 476 := h.2 447 45 rfl
theorem kr_447_46 {M : am_M} (h : ax_K M) : am_rd M 447 46 = 477 := h.2 447 46 rfl
theorem kr_447_48 {M : am_M} (h : ax_K M) : am_rd M 447 48 = 478 := h.2 447 48 rfl
theorem kr_447_49 {M : am_M} (h : ax_K M) : am_rd M 447 49 = 479 := h.2 447 49 rfl
theorem kr_447_50 {M : am_M} (h : ax_K M) : am_rd M 447 50 = 480 := h.2 447 50 rfl
theorem kr_447_51 {M : am_M} (h : ax_K M) : am_rd M 447 51 = 481 := h.2 447 51 rfl
theorem kr_447_52 {M : am_M} (h : ax_K M) : am_rd M 447 52 = 482 := h.2 447 52 rfl
theorem kr_447_53 {M : am_M} (h : ax_K M) : am_rd M 447 53 = 483 := h.2 447 53 rfl
