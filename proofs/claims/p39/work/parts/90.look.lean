theorem my_test : (2:Nat) + 2 = 4 := rfl
