theorem ae_one : 1 = 1 := rfl
