/-! losses and bucket: the same value on both sides -/
section VL7
variable {sc : SCR} {d : Nat} {Q : QJ} {g r : GH} {l0 l1 l2 l3 l4 l5 : Int}
theorem pls_1 {W : Int → Int} (h : WBd W) : 1 ≤ plsE W := by
  have P := pls_b h
  have w6 := h.2.2.2.2.2.1
  refine Decidable.byContradiction fun q => ?_
  have e : plsE W = 0 := by omega
  have z := P.2.2.2 0 (by omega)
  have : plcE W 0 = W 6 := by
    unfold plcE
    rw [Int.mul_zero, Int.zero_ediv, Int.add_zero]
  omega
theorem tt_107 (hJ : J5 g r) {A1 A2 A3 A4 : Int} (D : Nat) : Ce sc (D + 6) 107 [(2, 0), (0, A1), (0, A2), (0, A3), (0, A4)] g r (fun v1 g1 r1 => Ce sc (D + 6) 232 [(2, 165), (0, A1), (0, A2), (0, A3), (0, A4)] g1 r1 fun v2 g2 r2 => v1 = v2 ∧ J5 g2 r2) := by
  have hr := hJ.1.1.1.1.1
  have k0 : okr 218 0 8 := okd (by decide +kernel)
  have k9 : okr 218 165 9 := okd (by decide +kernel)
  have mno : ¬ ((TM g A1 ∧ g 168 A1 ≠ 0) ∧ (0 ≤ A2 ∧ A2 ≤ 99999) ∧ 1 ≤ A3 ∧ A3 ≤ 300) → Ce sc (D + 6) 232 [(2, 165), (0, A1), (0, A2), (0, A3), (0, A4)] g r (fun v2 g2 r2 => -1 = v2 ∧ J5 g2 r2) := fun n => by
    refine c_232 ⟨k9, w_179 hr (fun t t0 => ?_) (fun _ => by rw [if_pos rfl]; exact ⟨rfl, hJ⟩)⟩
    rw [if_neg (by decide)]
    refine w_178 (fun q1 q2 => ?_) (fun _ => by rw [if_pos rfl]; exact ⟨rfl, hJ⟩)
    rw [if_neg (by decide)]
    refine w_137 (fun q3 q4 => ?_) (fun _ => by rw [if_pos rfl]; exact ⟨rfl, hJ⟩)
    exact absurd ⟨⟨t, t0⟩, ⟨q1, q2⟩, q3, q4⟩ n
  have ov : ∀ (t : TM g A1), g (r 6 A1 + 1) 0 = g 168 A1 := fun t => (tk_f hJ.1.1 t).1
  refine c_107 ⟨k0, w_130 hr (fun t t0 => ?_) (fun t => ?_)⟩
  rotate_left 1
  · rw [if_pos rfl]
    exact mno (fun z => t ⟨(td_tm hJ.1.1 A1).mpr z.1.1, by rw [ov z.1.1]; exact z.1.2⟩)
  have tm := (td_tm hJ.1.1 A1).mp t
  have o0 : g 168 A1 ≠ 0 := by rw [← ov tm]; exact t0
  have hm := hr.2.1 A1 t.1 t.2.1
  obtain ⟨hx, wh, wb, b3⟩ := t5_of hJ tm
  rw [if_neg (show ¬ r 6 A1 + 1 = -1 by unfold MO at hm; omega)]
  refine w_124 (fun q1 q2 => ?_) (fun q => by rw [if_pos rfl]; exact mno (fun z => q z.2.1))
  rw [if_neg (by decide)]
  refine w_125 (fun q3 q4 => ?_) (fun q => by rw [if_pos rfl]; exact mno (fun z => q z.2.2))
  rw [if_neg (by decide)]
  have P := pls_b wb
  have P1 := pls_1 wb
  have t6 := tm.2.1
  refine ⟨hx.1, ?_⟩
  rw [hx.2.2.1]
  refine ⟨hx.2.1, f_13 hx b3 wb q1 q2 q3 q4 (fun g1 bu b3' fl => ?_)⟩
  have j1 := hJ.bu tm bu b3'
  have eV := mwh_bu hJ tm bu A1
  have tm1 := (tm_bu hJ tm bu A1).mpr tm
  have o1 : g1 168 A1 ≠ 0 := by rw [bu 168 A1 (by unfold MO at hm; omega)]; exact o0
  obtain ⟨c7, c8, c9, c10, c11, ch⟩ := fl
  have wb1 : WBd (MWh g1 A1) := by rw [eV]; exact wb
  have mod : ∀ v1, (A4 = 0 → v1 = wr (offE (MWh g A1) A2 A3 - getE (MWh g A1) A2 A3)) → (A4 = 1 → v1 = wr (getE (MWh g A1) A2 A3 - hasE (MWh g A1) A2 A3 0)) → (A4 = 2 → v1 = wr (hasE (MWh g A1) A2 A3 0 - hasE (MWh g A1) A2 A3 (plsE (MWh g A1) - 1))) → (A4 = 3 → v1 = hasE (MWh g A1) A2 A3 (plsE (MWh g A1) - 1)) → (¬ (0 ≤ A4 ∧ A4 ≤ 3) → v1 = -1) → Ce sc (D + 6) 232 [(2, 165), (0, A1), (0, A2), (0, A3), (0, A4)] g1 r (fun v2 g2 r2 => v1 = v2 ∧ J5 g2 r2) := fun v1 h0 h1 h2 h3 h4 => by
    refine c_232 ⟨k9, w_179 hr (fun _ _ => ?_) (fun z => absurd ⟨tm1, o1⟩ z)⟩
    rw [if_neg (by decide)]
    refine w_178 (fun _ _ => ?_) (fun z => absurd ⟨q1, q2⟩ z)
    rw [if_neg (by decide)]
    refine w_137 (fun _ _ => ?_) (fun z => absurd ⟨q3, q4⟩ z)
    rw [if_neg (by decide)]
    refine w_137 (fun a0 a3 => ?_) (fun z => by rw [if_pos rfl]; exact ⟨h4 z, j1⟩)
    rw [if_neg (by decide)]
    refine ⟨k9, f_165 (d := D + 4) hr tm.1 (by omega) wb1 q1 q2 q3 q4 ⟨k9, f_167 (d := D + 3) hr tm.1 (by omega) wb1 q1 q2 q3 q4 ⟨k9, f_172 (d := D + 2) hr tm.1 (by omega) wb1 q1 q2 q3 q4 (by decide) (by decide) ⟨k9, f_171 (d := D + 3) hr tm.1 (by omega) wb1 ⟨k9, ?_⟩⟩⟩⟩⟩
    rw [eV, wr_id (x := plsE (MWh g A1) - 1) ⟨by omega, by omega⟩]
    refine f_172 (d := D + 2) hr tm.1 (by omega) wb1 q1 q2 q3 q4 (by omega) (by omega) ?_
    rw [eV]
    exact ite_c (fun z => ⟨h0 z, j1⟩) (fun z0 => ite_c (fun z => ⟨h1 z, j1⟩) (fun z1 => ite_c (fun z => ⟨h2 z, j1⟩) (fun z2 => ⟨h3 (by omega), j1⟩)))
  refine ⟨hx.2.1, f_14 hx (by decide) (by decide) ⟨hx.2.1, hx.2.1, ?_⟩⟩
  rw [b3'.1.2.2.2.2.1, wr_id (x := plsE (MWh g A1) - 1) ⟨by omega, by omega⟩]
  refine f_14 hx (by omega) (by omega) ⟨by decide, ?_⟩
  rw [ch 0 (by decide) (by omega), ch (plsE (MWh g A1) - 1) (by omega) (by omega), c7, c9]
  refine ite_c (fun z => ⟨hx.2.1, hx.2.1, mod _ (fun _ => rfl) (fun y => by omega) (fun y => by omega) (fun y => by omega) (fun y => by omega)⟩) (fun z0 => ite_c (fun z => ⟨hx.2.1, mod _ (fun y => by omega) (fun _ => rfl) (fun y => by omega) (fun y => by omega) (fun y => by omega)⟩) (fun z1 => ite_c (fun z => mod _ (fun y => by omega) (fun y => by omega) (fun _ => rfl) (fun y => by omega) (fun y => by omega)) (fun z2 => ite_c (fun z => mod _ (fun y => by omega) (fun y => by omega) (fun y => by omega) (fun _ => rfl) (fun y => by omega)) (fun z3 => mod _ (fun y => by omega) (fun y => by omega) (fun y => by omega) (fun y => by omega) (fun _ => rfl)))))
end VL7
