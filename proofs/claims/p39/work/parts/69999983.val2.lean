/-! parts, holds, losses, bucket: the same value on both sides -/
section VL6
variable {sc : SCR} {d : Nat} {Q : QJ} {g r : GH} {l0 l1 l2 l3 l4 l5 : Int}
/-- a mill told: its wheel, over J5 -/
theorem t5_of (hJ : J5 g r) {k : Int} (t : TM g k) : WXO r (r 6 k + 1) ∧ WHR g (r 6 k + 1) (MWh g k) ∧ WBd (MWh g k) ∧ BK3 g (r 6 k + 1) (MWh g k) := by
  have x := (hJ.2 k t.1 t.2.1).2 t
  exact ⟨wxo_of hJ.1.1.1.1.1 (hJ.1.1.1.1.1.2.1 k t.1 t.2.1), x⟩
theorem J5.bu (hJ : J5 g r) {k : Int} (t : TM g k) {g' : GH} (u : BUX (r 6 k + 1) g g') (z : BK3 g' (r 6 k + 1) (MWh g k)) : J5 g' r := hJ.eb ((EB.rf hJ.2).bu hJ.1.1.1.1.1 t.1 t.2.1 u z)
theorem mwh_bu (hJ : J5 g r) {k : Int} (t : TM g k) {g' : GH} (u : BUX (r 6 k + 1) g g') (q : Int) : MWh g' q = MWh g q := mwh_e (fun j j0 _ => u (168 + j) q (by
  have hm := hJ.1.1.1.1.1.2.1 k t.1 t.2.1
  unfold MO at hm
  omega))
theorem tm_bu (hJ : J5 g r) {k : Int} (t : TM g k) {g' : GH} (u : BUX (r 6 k + 1) g g') (q : Int) : TM g' q ↔ TM g q := by
  have hm := hJ.1.1.1.1.1.2.1 k t.1 t.2.1
  unfold TM
  rw [u 167 q (by unfold MO at hm; omega)]
theorem tt_76 (hJ : J5 g r) {A1 A2 A3 : Int} (D : Nat) : Ce sc (D + 9) 76 [(2, 0), (0, A1), (0, A2), (0, A3)] g r (fun v1 g1 r1 => Ce sc (D + 9) 188 [(2, 165), (0, A1), (0, A2), (0, A3)] g1 r1 fun v2 g2 r2 => v1 = v2 ∧ J5 g2 r2) := by
  have hr := hJ.1.1.1.1.1
  have k0 : okr 218 0 8 := okd (by decide +kernel)
  have k9 : okr 218 165 9 := okd (by decide +kernel)
  have tt := td_tm hJ.1.1 A1
  -- the model, where it is none
  have mno : ¬ (TM g A1 ∧ (1 ≤ A2 ∧ A2 ≤ 99999) ∧ 1 ≤ A3 ∧ A3 ≤ 99) → Ce sc (D + 9) 188 [(2, 165), (0, A1), (0, A2), (0, A3)] g r (fun v2 g2 r2 => -1 = v2 ∧ J5 g2 r2) := fun n => by
    refine c_188 ⟨k9, w_140 hr (fun t => ?_) (fun _ => by rw [if_pos rfl]; exact ⟨rfl, hJ⟩)⟩
    rw [if_neg (by decide)]
    refine w_137 (fun q1 q2 => ?_) (fun _ => by rw [if_pos rfl]; exact ⟨rfl, hJ⟩)
    rw [if_neg (by decide)]
    refine w_137 (fun q3 q4 => ?_) (fun _ => by rw [if_pos rfl]; exact ⟨rfl, hJ⟩)
    exact absurd ⟨t, ⟨q1, q2⟩, q3, q4⟩ n
  refine c_76 ⟨k0, w_129 hr (fun t => ?_) (fun t => ?_)⟩
  rotate_left 1
  · rw [if_pos rfl]; exact mno (fun z => t (tt.mpr z.1))
  have tm := tt.mp t
  have hm := hr.2.1 A1 t.1 t.2.1
  obtain ⟨hx, wh, wb, b3⟩ := t5_of hJ tm
  rw [if_neg (mo_ne hm)]
  refine w_123 (fun q1 q2 => ?_) (fun q => by rw [if_pos rfl]; exact mno (fun z => q z.2.1))
  rw [if_neg (by decide)]
  refine w_123 (fun q3 q4 => ?_) (fun q => by rw [if_pos rfl]; exact mno (fun z => q z.2.2))
  rw [if_neg (by decide)]
  have m1 := mlb (a := 60 * A2) (b := A3) (A := 5999940) (B := 99) (by omega) (by omega) (by omega) q4
  have m2 : 60 * 1 ≤ 60 * A2 * A3 := Int.mul_le_mul (by omega) q3 (by decide) (by omega)
  have nz : wL ((wL (60 * A2)) * A3) ≠ 0 := by
    rw [wL_id (x := 60 * A2) ⟨by omega, by omega⟩, wL_id (x := 60 * A2 * A3) ⟨by omega, by omega⟩]
    omega
  refine ⟨mo_ok hm, ?_⟩
  rw [mo_1 hr hm]
  refine ⟨hx.1, f_63 hx wh b3 wb (by omega) q2 (fun g1 bu b3' => ⟨nz, ?_⟩)⟩
  have j1 := hJ.bu tm bu b3'
  have tm1 : TM g1 A1 := (tm_bu hJ tm bu A1).mpr tm
  have wb1 : WBd (MWh g1 A1) := by rw [mwh_bu hJ tm bu A1]; exact wb
  refine c_188 ⟨k9, w_140 hr (fun _ => ?_) (fun z => absurd tm1 z)⟩
  rw [if_neg (by decide)]
  refine w_137 (fun _ _ => ?_) (fun z => absurd ⟨q1, q2⟩ z)
  rw [if_neg (by decide)]
  refine w_137 (fun _ _ => ?_) (fun z => absurd ⟨q3, q4⟩ z)
  rw [if_neg (by decide)]
  refine ⟨k9, ?_⟩
  rw [r_165_11 hr]
  have e9 : g1 177 A1 = MWh g1 A1 9 := rfl
  have t6 := tm.2.1
  refine ⟨i_177.mpr ⟨tm.1, by omega⟩, k9, ?_⟩
  rw [e9]
  refine f_177 (d := D + 2) hr tm.1 (by omega) wb1 (by omega) q2 wb1.2.2.2.2.2.2.1.1 wb1.2.2.2.2.2.2.1.2 (by decide) (by decide) ⟨nz, ?_, j1⟩
  rw [mwh_bu hJ tm bu A1, Int.mul_comm 100]
theorem tt_72 (hJ : J5 g r) {A1 A2 A3 : Int} (D : Nat) : Ce sc (D + 6) 72 [(2, 0), (0, A1), (0, A2), (0, A3)] g r (fun v1 g1 r1 => Ce sc (D + 6) 181 [(2, 165), (0, A1), (0, A2), (0, A3)] g1 r1 fun v2 g2 r2 => v1 = v2 ∧ J5 g2 r2) := by
  have hr := hJ.1.1.1.1.1
  have k0 : okr 218 0 8 := okd (by decide +kernel)
  have k9 : okr 218 165 9 := okd (by decide +kernel)
  have mno : ¬ ((TM g A1 ∧ g 168 A1 ≠ 0) ∧ (1 ≤ A2 ∧ A2 ≤ 300) ∧ 0 ≤ A3 ∧ A3 ≤ 180) → Ce sc (D + 6) 181 [(2, 165), (0, A1), (0, A2), (0, A3)] g r (fun v2 g2 r2 => -1 = v2 ∧ J5 g2 r2) := fun n => by
    refine c_181 ⟨k9, w_179 hr (fun t t0 => ?_) (fun _ => by rw [if_pos rfl]; exact ⟨rfl, hJ⟩)⟩
    rw [if_neg (by decide)]
    refine w_137 (fun q1 q2 => ?_) (fun _ => by rw [if_pos rfl]; exact ⟨rfl, hJ⟩)
    rw [if_neg (by decide)]
    refine w_137 (fun q3 q4 => ?_) (fun _ => by rw [if_pos rfl]; exact ⟨rfl, hJ⟩)
    exact absurd ⟨⟨t, t0⟩, ⟨q1, q2⟩, q3, q4⟩ n
  have ov : ∀ (t : TM g A1), g (r 6 A1 + 1) 0 = g 168 A1 := fun t => (tk_f hJ.1.1 t).1
  refine c_72 ⟨k0, w_130 hr (fun t t0 => ?_) (fun t => ?_)⟩
  rotate_left 1
  · rw [if_pos rfl]
    exact mno (fun z => t ⟨(td_tm hJ.1.1 A1).mpr z.1.1, by rw [ov z.1.1]; exact z.1.2⟩)
  have tm := (td_tm hJ.1.1 A1).mp t
  have o0 : g 168 A1 ≠ 0 := by rw [← ov tm]; exact t0
  have hm := hr.2.1 A1 t.1 t.2.1
  obtain ⟨hx, wh, wb, b3⟩ := t5_of hJ tm
  rw [if_neg (show ¬ r 6 A1 + 1 = -1 by unfold MO at hm; omega)]
  refine w_125 (fun q1 q2 => ?_) (fun q => by rw [if_pos rfl]; exact mno (fun z => q z.2.1))
  rw [if_neg (by decide)]
  refine w_123 (fun q3 q4 => ?_) (fun q => by rw [if_pos rfl]; exact mno (fun z => q z.2.2))
  rw [if_neg (by decide)]
  have bu : BUX (r 6 A1 + 1) g (up (up (up g (r 6 A1 + 1 + 1) 14 (-1)) (r 6 A1 + 1 + 1) 10 (thrE (MWh g A1) A2)) (r 6 A1 + 1 + 1) 11 (whoE (MWh g A1) A2)) := (((BUX.rf (r 6 A1 + 1) g).u (Or.inl rfl)).u (Or.inl rfl)).u (Or.inl rfl)
  have u : ∀ j, j ≠ 14 → j ≠ 10 → j ≠ 11 → up (up (up g (r 6 A1 + 1 + 1) 14 (-1)) (r 6 A1 + 1 + 1) 10 (thrE (MWh g A1) A2)) (r 6 A1 + 1 + 1) 11 (whoE (MWh g A1) A2) (r 6 A1 + 1 + 1) j = g (r 6 A1 + 1 + 1) j := fun j a b c => by rw [up_j c, up_j b, up_j a]
  have e11 : up (up (up g (r 6 A1 + 1 + 1) 14 (-1)) (r 6 A1 + 1 + 1) 10 (thrE (MWh g A1) A2)) (r 6 A1 + 1 + 1) 11 (whoE (MWh g A1) A2) (r 6 A1 + 1 + 1) 11 = whoE (MWh g A1) A2 := up_s
  have e14 : up (up (up g (r 6 A1 + 1 + 1) 14 (-1)) (r 6 A1 + 1 + 1) 10 (thrE (MWh g A1) A2)) (r 6 A1 + 1 + 1) 11 (whoE (MWh g A1) A2) (r 6 A1 + 1 + 1) 14 = -1 := by rw [up_j (by decide), up_j (by decide), up_s]
  have b3' : BK3 (up (up (up g (r 6 A1 + 1 + 1) 14 (-1)) (r 6 A1 + 1 + 1) 10 (thrE (MWh g A1) A2)) (r 6 A1 + 1 + 1) 11 (whoE (MWh g A1) A2)) (r 6 A1 + 1) (MWh g A1) := ⟨b3.1.fr (fun j j0 j4 => u j (by omega) (by omega) (by omega)) (fun j => bu _ _ (by omega)) (fun j => bu _ _ (by omega)), fun _ _ a _ => absurd a (by rw [e14]; decide)⟩
  have j1 := hJ.bu tm bu b3'
  refine ⟨hx.1, ?_⟩
  rw [hx.2.2.1]
  refine ⟨hx.2.1, f_10 hx b3.1 wb q1 q2 ⟨hx.1, ?_⟩⟩
  rw [hx.2.2.1]
  refine ⟨hx.2.1, f_11 hx b3'.1.2.2.1 e11 wb q1 q2 q3 (by omega) ?_⟩
  have tm1 := (tm_bu hJ tm bu A1).mpr tm
  have eV := mwh_bu hJ tm bu A1
  have o1 : up (up (up g (r 6 A1 + 1 + 1) 14 (-1)) (r 6 A1 + 1 + 1) 10 (thrE (MWh g A1) A2)) (r 6 A1 + 1 + 1) 11 (whoE (MWh g A1) A2) 168 A1 ≠ 0 := by
    rw [bu 168 A1 (by unfold MO at hm; omega)]; exact o0
  have t6 := tm.2.1
  refine c_181 ⟨k9, w_179 hr (fun _ _ => ?_) (fun z => absurd ⟨tm1, o1⟩ z)⟩
  rw [if_neg (by decide)]
  refine w_137 (fun _ _ => ?_) (fun z => absurd ⟨q1, q2⟩ z)
  rw [if_neg (by decide)]
  refine w_137 (fun _ _ => ?_) (fun z => absurd ⟨q3, q4⟩ z)
  rw [if_neg (by decide)]
  exact ⟨k9, f_169 (d := D + 3) hr tm.1 (by omega) (by rw [eV]; exact wb) q1 q2 q3 (by omega) ⟨by rw [eV], j1⟩⟩
end VL6
