theorem zz_last_probe : 1 = 1 := rfl
