theorem zz_try : (1 : Nat) + 1 = 2 := rfl
