/-! a first look -/
def tst (f : Nat) : Option XR := xL (am_ent (am_maxL 54) [(2, 8)]) fun ls => xrun f 60 54 8 0 ls [] [] [] 8
set_option maxRecDepth 100000 in
theorem tst_ok : (match xrun 300 60 8 10 0 [(2, 9)] [] [] [] 10 with
  | none => 0
  | some q => q.2.2.2) = 13 := by decide +kernel
