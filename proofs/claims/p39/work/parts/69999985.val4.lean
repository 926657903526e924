/-! bucket: the same value on both sides -/
section VL8
variable {sc : SCR} {d : Nat} {Q : QJ} {g r : GH} {l0 l1 l2 l3 l4 l5 : Int}
/-- what bucket answers -/
def buV (W : Int → Int) (f p a : Int) : Int := if a = 0 then offE W f p else if a = 1 then splE W p else if a = 2 then getE W f p else if a = 3 then thrE W p else if a = 4 then plsE W else if a = 5 then pshE W f p else if a = 6 then drpE W f p else if 100 ≤ a ∧ a ≤ 99 + plsE W then hasE W f p (a - 100) else -1
theorem buV_h {W : Int → Int} {f p a : Int} (h : 100 ≤ a ∧ a ≤ 99 + plsE W) : buV W f p a = hasE W f p (a - 100) := by
  unfold buV
  rw [if_neg (by omega), if_neg (by omega), if_neg (by omega), if_neg (by omega), if_neg (by omega), if_neg (by omega), if_neg (by omega), if_pos h]
theorem tt_71 (hJ : J5 g r) {A1 A2 A3 A4 : Int} (D : Nat) : Ce sc (D + 6) 71 [(2, 0), (0, A1), (0, A2), (0, A3), (0, A4)] g r (fun v1 g1 r1 => Ce sc (D + 6) 180 [(2, 165), (0, A1), (0, A2), (0, A3), (0, A4)] g1 r1 fun v2 g2 r2 => v1 = v2 ∧ J5 g2 r2) := by
  have hr := hJ.1.1.1.1.1
  have k0 : okr 218 0 8 := okd (by decide +kernel)
  have k9 : okr 218 165 9 := okd (by decide +kernel)
  have mno : ¬ ((TM g A1 ∧ g 168 A1 ≠ 0) ∧ (0 ≤ A2 ∧ A2 ≤ 99999) ∧ 1 ≤ A3 ∧ A3 ≤ 300) → Ce sc (D + 6) 180 [(2, 165), (0, A1), (0, A2), (0, A3), (0, A4)] g r (fun v2 g2 r2 => -1 = v2 ∧ J5 g2 r2) := fun n => by
    refine c_180 ⟨k9, w_179 hr (fun t t0 => ?_) (fun _ => by rw [if_pos rfl]; exact ⟨rfl, hJ⟩)⟩
    rw [if_neg (by decide)]
    refine w_178 (fun q1 q2 => ?_) (fun _ => by rw [if_pos rfl]; exact ⟨rfl, hJ⟩)
    rw [if_neg (by decide)]
    refine w_137 (fun q3 q4 => ?_) (fun _ => by rw [if_pos rfl]; exact ⟨rfl, hJ⟩)
    exact absurd ⟨⟨t, t0⟩, ⟨q1, q2⟩, q3, q4⟩ n
  have ov : ∀ (t : TM g A1), g (r 6 A1 + 1) 0 = g 168 A1 := fun t => (tk_f hJ.1.1 t).1
  refine c_71 ⟨k0, w_130 hr (fun t t0 => ?_) (fun t => ?_)⟩
  rotate_left 1
  · rw [if_pos rfl]
    exact mno (fun z => t ⟨(td_tm hJ.1.1 A1).mpr z.1.1, by rw [ov z.1.1]; exact z.1.2⟩)
  have tm := (td_tm hJ.1.1 A1).mp t
  have o0 : g 168 A1 ≠ 0 := by rw [← ov tm]; exact t0
  have hm := hr.2.1 A1 t.1 t.2.1
  obtain ⟨hx, wh, wb, b3⟩ := t5_of hJ tm
  rw [if_neg (show ¬ r 6 A1 + 1 = -1 by unfold MO at hm; omega)]
  refine w_124 (fun q1 q2 => ?_) (fun q => by rw [if_pos rfl]; exact mno (fun z => q z.2.1))
  rw [if_neg (by decide)]
  refine w_125 (fun q3 q4 => ?_) (fun q => by rw [if_pos rfl]; exact mno (fun z => q z.2.2))
  rw [if_neg (by decide)]
  have P := pls_b wb
  have t6 := tm.2.1
  refine ⟨hx.1, ?_⟩
  rw [hx.2.2.1]
  refine ⟨hx.2.1, f_13 hx b3 wb q1 q2 q3 q4 (fun g1 bu b3' fl => ?_)⟩
  have j1 := hJ.bu tm bu b3'
  have eV := mwh_bu hJ tm bu A1
  have tm1 := (tm_bu hJ tm bu A1).mpr tm
  have o1 : g1 168 A1 ≠ 0 := by rw [bu 168 A1 (by unfold MO at hm; omega)]; exact o0
  have fl0 := fl
  obtain ⟨c7, c8, c9, c10, c11, ch⟩ := fl
  have wb1 : WBd (MWh g1 A1) := by rw [eV]; exact wb
  have mod : Ce sc (D + 6) 180 [(2, 165), (0, A1), (0, A2), (0, A3), (0, A4)] g1 r (fun v2 g2 r2 => buV (MWh g A1) A2 A3 A4 = v2 ∧ J5 g2 r2) := by
    refine c_180 ⟨k9, w_179 hr (fun _ _ => ?_) (fun z => absurd ⟨tm1, o1⟩ z)⟩
    rw [if_neg (by decide)]
    refine w_178 (fun _ _ => ?_) (fun z => absurd ⟨q1, q2⟩ z)
    rw [if_neg (by decide)]
    refine w_137 (fun _ _ => ?_) (fun z => absurd ⟨q3, q4⟩ z)
    rw [if_neg (by decide)]
    refine ⟨k9, f_171 (d := D + 3) hr tm.1 (by omega) wb1 ?_⟩
    rw [eV, wr_id (x := 99 + plsE (MWh g A1)) ⟨by omega, by omega⟩]
    refine w_137 (fun a0 a1 => ?_) (fun n => ?_)
    · rw [if_neg (by decide), wr_id (x := A4 - 100) ⟨by omega, by omega⟩]
      refine ⟨k9, f_172 (d := D + 2) hr tm.1 (by omega) wb1 q1 q2 q3 q4 (by omega) (by omega) ⟨?_, j1⟩⟩
      rw [eV, buV_h ⟨a0, a1⟩]
    · rw [if_pos rfl]
      unfold buV
      refine ⟨by decide, ite_c (fun z => ⟨k9, f_165 (d := D + 4) hr tm.1 (by omega) wb1 q1 q2 q3 q4 ⟨by rw [if_pos z, eV], j1⟩⟩) (fun z0 => ite_c (fun z => ⟨k9, f_166 (d := D + 4) hr tm.1 (by omega) wb1 q3 q4 ⟨by rw [if_neg z0, if_pos z, eV], j1⟩⟩) (fun z1 => ite_c (fun z => ⟨k9, f_167 (d := D + 3) hr tm.1 (by omega) wb1 q1 q2 q3 q4 ⟨by rw [if_neg z0, if_neg z1, if_pos z, eV], j1⟩⟩) (fun z2 => ite_c (fun z => ⟨k9, f_168 (d := D + 4) hr tm.1 (by omega) wb1 q3 q4 ⟨by rw [if_neg z0, if_neg z1, if_neg z2, if_pos z, eV], j1⟩⟩) (fun z3 => ite_c (fun z => ⟨k9, f_171 (d := D + 3) hr tm.1 (by omega) wb1 ⟨by rw [if_neg z0, if_neg z1, if_neg z2, if_neg z3, if_pos z, eV], j1⟩⟩) (fun z4 => ite_c (fun z => ⟨k9, f_173 (d := D + 2) hr tm.1 (by omega) wb1 q1 q2 q3 q4 ⟨k9, ?_⟩⟩) (fun z5 => ite_c (fun z => ⟨k9, f_174 (d := D + 1) hr tm.1 (by omega) wb1 q1 q2 q3 q4 ⟨by rw [if_neg z0, if_neg z1, if_neg z2, if_neg z3, if_neg z4, if_neg z5, if_pos z, eV], j1⟩⟩) (fun z6 => ⟨by rw [if_neg z0, if_neg z1, if_neg z2, if_neg z3, if_neg z4, if_neg z5, if_neg z6, if_neg n], j1⟩)))))))⟩
      rw [r_165_3 hr, if_neg (show ¬ (1 : Int) = 0 by decide)]
      refine ⟨i_169.mpr ⟨tm.1, by omega⟩, by decide, ?_, j1⟩
      rw [if_neg z0, if_neg z1, if_neg z2, if_neg z3, if_neg z4, if_pos z, eV]
      have e1 : g1 169 A1 = MWh g A1 1 := by rw [← eV]; rfl
      rw [e1]
      rfl
  have fin : ∀ v, v = buV (MWh g A1) A2 A3 A4 → Ce sc (D + 6) 180 [(2, 165), (0, A1), (0, A2), (0, A3), (0, A4)] g1 r (fun v2 g2 r2 => v = v2 ∧ J5 g2 r2) := fun v ev => by rw [ev]; exact mod
  have k1 := hx.2.1
  refine ⟨by decide, ?_⟩
  refine ite_c (fun z => ⟨k1, fin _ ?_⟩) (fun z0 => ite_c (fun z => ⟨k1, fin _ ?_⟩) (fun z1 => ite_c (fun z => ⟨k1, fin _ ?_⟩) (fun z2 => ite_c (fun z => ⟨k1, fin _ ?_⟩) (fun z3 => ite_c (fun z => ⟨k1, fin _ ?_⟩) (fun z4 => ite_c (fun z => ⟨k1, f_15 hx b3'.1 fl0 wb (fin _ ?_)⟩) (fun z5 => ite_c (fun z => ⟨k1, f_16 hx b3'.1 fl0 wb (fin _ ?_)⟩) (fun z6 => ⟨k1, ?_⟩)))))))
  · rw [c7]; unfold buV; rw [if_pos z]
  · rw [c8]; unfold buV; rw [if_neg z0, if_pos z]
  · rw [c9]; unfold buV; rw [if_neg z0, if_neg z1, if_pos z]
  · rw [c10]; unfold buV; rw [if_neg z0, if_neg z1, if_neg z2, if_pos z]
  · rw [b3'.1.2.2.2.2.1]; unfold buV; rw [if_neg z0, if_neg z1, if_neg z2, if_neg z3, if_pos z]
  · unfold buV; rw [if_neg z0, if_neg z1, if_neg z2, if_neg z3, if_neg z4, if_pos z]
  · unfold buV; rw [if_neg z0, if_neg z1, if_neg z2, if_neg z3, if_neg z4, if_neg z5, if_pos z]
  rw [b3'.1.2.2.2.2.1, wr_id (x := 99 + plsE (MWh g A1)) ⟨by omega, by omega⟩]
  refine w_123 (fun a0 a1 => ?_) (fun n => ?_)
  · rw [if_neg (by decide), wr_id (x := A4 - 100) ⟨by omega, by omega⟩]
    refine ⟨k1, f_14 hx (by omega) (by omega) (fin _ ?_)⟩
    rw [ch (A4 - 100) (by omega) (by omega), buV_h ⟨a0, a1⟩]
  · rw [if_pos rfl]
    refine fin _ ?_
    unfold buV
    rw [if_neg z0, if_neg z1, if_neg z2, if_neg z3, if_neg z4, if_neg z5, if_neg z6, if_neg n]
end VL8
