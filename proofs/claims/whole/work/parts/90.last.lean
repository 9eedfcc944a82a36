theorem z_dummy : 1 = 1 := rfl
