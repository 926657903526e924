/-! raised, ruin, balance, restore over J5 -/
section VL5
variable {sc : SCR} {d : Nat} {Q : QJ} {g r : GH}
theorem tt_100 (hJ : J5 g r) {A1 : Int} (D : Nat) : Ce sc (D + 4) 100 [(2, 0), (0, A1)] g r (fun v1 g1 r1 => Ce sc (D + 4) 226 [(2, 165), (0, A1)] g1 r1 fun v2 g2 r2 => v1 = v2 ∧ J5 g2 r2) :=
  f_100 hJ.1.1 (fun y => f_226 (d := D + 2) hJ.1.1 (fun _ => ⟨rfl, hJ⟩) (fun z => absurd y z)) (fun y => f_226 (d := D + 2) hJ.1.1 (fun z => absurd z y) (fun _ => ⟨rfl, hJ⟩))
theorem tt_103 (hJ : J5 g r) {A1 A2 A3 : Int} (b2 : rI A2) (b3 : rI A3) (D : Nat) : Ce sc (D + 3) 103 [(2, 0), (0, A1), (0, A2), (0, A3)] g r (fun v1 g1 r1 => Ce sc (D + 3) 227 [(2, 165), (0, A1), (0, A2), (0, A3)] g1 r1 fun v2 g2 r2 => v1 = v2 ∧ J5 g2 r2) :=
  f_103 hJ.1.1 (fun y => f_227 (d := D + 1) hJ.1.1 b2 b3 (fun _ => ⟨rfl, hJ⟩) (fun z => absurd y z)) (fun y => f_227 (d := D + 1) hJ.1.1 b2 b3 (fun z => absurd z y) (fun _ => ⟨rfl, hJ⟩))
theorem tt_110 (hJ : J5 g r) {A1 A2 A3 A4 : Int} (D : Nat) : Ce sc (D + 3) 110 [(2, 0), (0, A1), (0, A2), (0, A3), (0, A4)] g r (fun v1 g1 r1 => Ce sc (D + 3) 235 [(2, 165), (0, A1), (0, A2), (0, A3), (0, A4)] g1 r1 fun v2 g2 r2 => v1 = v2 ∧ J5 g2 r2) :=
  f_110 hJ.1.1 (fun y => f_235 (d := D + 1) hJ.1.1 (fun _ => ⟨rfl, hJ⟩) (fun z => absurd y z)) (fun y => f_235 (d := D + 1) hJ.1.1 (fun z => absurd z y) (fun _ => ⟨rfl, hJ⟩))
end VL5
