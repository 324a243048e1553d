theorem am_t0 : am_at 5 0 = am_at 5 0 := rfl
