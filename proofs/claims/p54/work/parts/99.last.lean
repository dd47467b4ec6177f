theorem zz_test (a : Nat) : a = a := rfl
