/-! balance: the same value on both sides -/
def dgV (b x : Int) : Int := 360 * (x % b) / b
def bsin (b x : Int) : Int := if 180 < dgV b x then -sinV (dgV b x - 180) else sinV (dgV b x)
def bs (b : Int) : Nat → Int → Int → Int
  | 0, s, _ => s
  | n + 1, s, x => bs b n (s + bsin b x) (x + 1)
theorem dg_e {b x : Int} (h0 : 0 ≤ x) (b4 : 4 ≤ b) (b8 : b ≤ 80) : wr ((wr (360 * (x.tmod b))).tdiv b) = dgV b x ∧ 0 ≤ dgV b x ∧ dgV b x ≤ 359 := by
  have e0 : x.tmod b = x % b := Int.tmod_eq_emod_of_nonneg h0
  have m0 : 0 ≤ x % b := Int.emod_nonneg x (by omega)
  have m1 : x % b < b := Int.emod_lt_of_pos x (by omega)
  have d0 : 0 ≤ 360 * (x % b) / b := Int.ediv_nonneg (by omega) (by omega)
  have d1 : 360 * (x % b) / b < 360 := Int.ediv_lt_of_lt_mul (by omega) (by omega)
  have w : wr (360 * (x % b)) = 360 * (x % b) := wr_id ⟨by omega, by omega⟩
  rw [e0, w, Int.tdiv_eq_ediv_of_nonneg (by omega)]
  unfold dgV
  rw [wr_id (x := 360 * (x % b) / b) ⟨by omega, by omega⟩]
  exact ⟨rfl, d0, by omega⟩
theorem mulb {a x X : Int} (a1 : 0 ≤ a) (a2 : a ≤ 9999) (X0 : 0 ≤ X) (x0 : -X ≤ x) (x1 : x ≤ X) : -(9999 * X) ≤ a * x ∧ a * x ≤ 9999 * X := by
  have e1 := Int.mul_le_mul_of_nonneg_left x1 a1
  have e2 := Int.mul_le_mul_of_nonneg_left x0 a1
  have e3 := Int.mul_le_mul_of_nonneg_right a2 X0
  rw [Int.mul_neg] at e2
  omega
section BL3
variable {sc : SCR} {d : Nat} {Q : QJ} {g r : GH} {l0 l1 l2 l3 l4 l5 l6 l7 l8 l9 : Int}
def BAV (g : GH) (l1 l2 l3 l4 : Int) : Int := wr (wL ((wL ((bs (g 171 l1) l3.toNat 0 l2 * l4) * g 169 l1)).tdiv 2000))
def BAC (g : GH) (l1 l2 l3 l4 : Int) : Prop := TM g l1 ∧ (0 ≤ l2 ∧ l2 ≤ g 171 l1 - 1) ∧ (1 ≤ l3 ∧ l3 ≤ g 171 l1) ∧ 1 ≤ l4 ∧ l4 ≤ 9999
theorem f_110 (hJ : J3 g r) (h1 : BAC g l1 l2 l3 l4 → Q (BAV g l1 l2 l3 l4) g r) (h0 : ¬ BAC g l1 l2 l3 l4 → Q (-2000000000) g r) : Ce sc (d + 3) 110 [(2, 0), (0, l1), (0, l2), (0, l3), (0, l4)] g r Q := by
  have hr := hJ.1.1.1
  have k0 : okr 218 0 8 := okd (by decide +kernel)
  have tt := td_tm hJ l1
  refine c_110 ⟨k0, w_129 hr (fun t => ?_) (fun t => ?_)⟩
  rotate_left 1
  · rw [if_pos rfl]; exact h0 (fun z => t (tt.mpr z.1))
  have tm := tt.mp t
  have hm := hr.2.1 l1 t.1 t.2.1
  have F := tk_f hJ tm
  have F3' := F.2.2.2.1
  have gm := (hJ.1.1.2.2.2.1.2.2 l1 tm.1 tm.2.1 tm.2.2).1
  have b4 : 4 ≤ g 171 l1 := gm.2.2.1
  have b8 : g 171 l1 ≤ 80 := gm.2.2.2.1
  have wb : wr (g 171 l1 - 1) = g 171 l1 - 1 := wr_id ⟨by omega, by omega⟩
  rw [if_neg (mo_ne hm)]
  refine ⟨mo_ok hm, ?_⟩
  rw [mo_1 hr hm, F3', if_neg (by omega)]
  refine ⟨mo_w hm, mo_ok hm, ?_⟩
  rw [wb]
  refine ⟨mo_w hm, w_123 (fun q1 q2 => ?_) (fun q => ?_)⟩
  rotate_left 1
  · rw [if_pos rfl]; exact h0 (fun z => q z.2.1)
  rw [if_neg (by decide)]
  refine ⟨mo_ok hm, ?_⟩
  rw [mo_1 hr hm, F3']
  refine ⟨mo_w hm, w_123 (fun q3 q4 => ?_) (fun q => ?_)⟩
  rotate_left 1
  · rw [if_pos rfl]; exact h0 (fun z => q z.2.2.1)
  rw [if_neg (by decide)]
  refine w_123 (fun q5 q6 => ?_) (fun q => ?_)
  rotate_left 1
  · rw [if_pos rfl]; exact h0 (fun z => q z.2.2.2)
  rw [if_neg (by decide)]
  have hq := h1 ⟨tm, ⟨q1, q2⟩, ⟨q3, q4⟩, q5, q6⟩
  refine ⟨mo_ok hm, ?_⟩
  rw [mo_1 hr hm, F3']
  refine ⟨mo_w hm, ?_⟩
  have loop : ∀ (n : Nat) (i s : Int), i + n = l3 → 0 ≤ i → -(1000 * i) ≤ s → s ≤ 1000 * i → bs (g 171 l1) n s (l2 + i) = bs (g 171 l1) l3.toNat 0 l2 → WQ sc (d + 2) 110 Q 90 [(9, 0), (9, 0), (0, l2), (0, l3), (0, l4), (2, r 6 l1), (0, g 171 l1), (1, s), (8, 0), (0, i), (9, 0)] [] g r := by
    intro n
    induction n with
    | zero =>
      intro i s e i0 s0 s1 es
      have es' : s = bs (g 171 l1) l3.toNat 0 l2 := es
      refine b_110_90 (ite_c (fun q => absurd q (by omega)) (fun _ => ⟨mo_ok hm, ?_⟩))
      rw [mo_1 hr hm, F.2.1]
      have mb := mulb (a := l4) (x := s) (X := 80000) (by omega) q6 (by decide) (by omega) (by omega)
      rw [Int.mul_comm l4 s] at mb
      rw [wL_id (x := s * l4) ⟨by omega, by omega⟩, es']
      exact ⟨mo_w hm, by decide, hq⟩
    | succ n ih =>
      intro i s e i0 s0 s1 es
      have w1 : wr (i + 1) = i + 1 := wr_id ⟨by omega, by omega⟩
      have w2 : wr (l2 + i) = l2 + i := wr_id ⟨by omega, by omega⟩
      obtain ⟨e1, e2, e3⟩ := dg_e (b := g 171 l1) (x := l2 + i) (by omega) b4 b8
      have es' : bs (g 171 l1) n (s + bsin (g 171 l1) (l2 + i)) (l2 + i + 1) = bs (g 171 l1) l3.toNat 0 l2 := es
      have nx : ∀ v, v = bsin (g 171 l1) (l2 + i) → -1000 ≤ v → v ≤ 1000 → WQ sc (d + 2) 110 Q 90 [(9, 0), (9, 0), (0, l2), (0, l3), (0, l4), (2, r 6 l1), (0, g 171 l1), (1, wL (s + v)), (8, 0), (0, i + 1), (9, 0)] [] g r := fun v ev v0 v1 => by
        rw [wL_id ⟨by omega, by omega⟩]
        refine ih (i + 1) (s + v) (by omega) (by omega) (by omega) (by omega) ?_
        rw [ev, ← es']
        congr 1
        omega
      refine b_110_90 (ite_c (fun _ => ⟨by omega, by omega, ?_⟩) (fun q => absurd (by omega) q))
      rw [w1, w2, e1]
      refine ite_c (fun z => ?_) (fun z => ?_)
      · rw [wr_id (x := dgV (g 171 l1) (l2 + i) - 180) ⟨by omega, by omega⟩]
        have sb := sin_at (a := dgV (g 171 l1) (l2 + i) - 180) (by omega) (by omega)
        refine w_17 (by omega) (by omega) ?_
        rw [wr_id (x := -sinV (dgV (g 171 l1) (l2 + i) - 180)) ⟨by omega, by omega⟩]
        exact nx _ (by unfold bsin; rw [if_pos z]) (by omega) (by omega)
      · have sb := sin_at (a := dgV (g 171 l1) (l2 + i)) (by omega) (by omega)
        refine w_17 (by omega) (by omega) ?_
        exact nx _ (by unfold bsin; rw [if_neg z]) (by omega) (by omega)
  exact loop l3.toNat 0 0 (by omega) (by decide) (by decide) (by decide) (by rw [Int.add_zero])
theorem f_235 (hJ : J3 g r) (h1 : BAC g l1 l2 l3 l4 → Q (BAV g l1 l2 l3 l4) g r) (h0 : ¬ BAC g l1 l2 l3 l4 → Q (-2000000000) g r) : Ce sc (d + 2) 235 [(2, 165), (0, l1), (0, l2), (0, l3), (0, l4)] g r Q := by
  have hr := hJ.1.1.1
  have k9 : okr 218 165 9 := okd (by decide +kernel)
  refine c_235 ⟨k9, w_140 hr (fun tm => ?_) (fun t => ?_)⟩
  rotate_left 1
  · rw [if_pos rfl]; exact h0 (fun z => t z.1)
  rw [if_neg (by decide)]
  have gm := (hJ.1.1.2.2.2.1.2.2 l1 tm.1 tm.2.1 tm.2.2).1
  have b4 : 4 ≤ g 171 l1 := gm.2.2.1
  have b8 : g 171 l1 ≤ 80 := gm.2.2.2.1
  have t0 := tm.1
  have t6 := tm.2.1
  have wb : wr (g 171 l1 - 1) = g 171 l1 - 1 := wr_id ⟨by omega, by omega⟩
  have i71 : okI 218 171 11 l1 := i_171.mpr ⟨by omega, by omega⟩
  refine ⟨k9, ?_⟩
  rw [r_165_5 hr, wb]
  refine ⟨i71, w_137 (fun q1 q2 => ?_) (fun q => ?_)⟩
  rotate_left 1
  · rw [if_pos rfl]; exact h0 (fun z => q z.2.1)
  rw [if_neg (by decide)]
  refine ⟨k9, ?_⟩
  rw [r_165_5 hr]
  refine ⟨i71, w_137 (fun q3 q4 => ?_) (fun q => ?_)⟩
  rotate_left 1
  · rw [if_pos rfl]; exact h0 (fun z => q z.2.2.1)
  rw [if_neg (by decide)]
  refine w_137 (fun q5 q6 => ?_) (fun q => ?_)
  rotate_left 1
  · rw [if_pos rfl]; exact h0 (fun z => q z.2.2.2)
  rw [if_neg (by decide)]
  have hq := h1 ⟨tm, ⟨q1, q2⟩, ⟨q3, q4⟩, q5, q6⟩
  have wt : wr (l2 + l3) = l2 + l3 := wr_id ⟨by omega, by omega⟩
  have loop : ∀ (n : Nat) (i s : Int), i + n = l3 → 0 ≤ i → -(1000 * i) ≤ s → s ≤ 1000 * i → bs (g 171 l1) n s (l2 + i) = bs (g 171 l1) l3.toNat 0 l2 → WQ sc (d + 1) 235 Q 65 [(2, 165), (0, l1), (0, l2), (0, l3), (0, l4), (1, l4 * s), (8, 0), (0, l2 + i), (9, 0)] [] g r := by
    intro n
    induction n with
    | zero =>
      intro i s e i0 s0 s1 es
      have es' : s = bs (g 171 l1) l3.toNat 0 l2 := es
      refine b_235_65 ?_
      rw [wt, if_neg (by omega), r_165_3 hr, Int.mul_comm l4 s, es']
      exact ⟨k9, i_169.mpr ⟨by omega, by omega⟩, by decide, hq⟩
    | succ n ih =>
      intro i s e i0 s0 s1 es
      have w1 : wr (l2 + i + 1) = l2 + (i + 1) := by rw [wr_id ⟨by omega, by omega⟩]; omega
      obtain ⟨e1, e2, e3⟩ := dg_e (b := g 171 l1) (x := l2 + i) (by omega) b4 b8
      have es' : bs (g 171 l1) n (s + bsin (g 171 l1) (l2 + i)) (l2 + i + 1) = bs (g 171 l1) l3.toNat 0 l2 := es
      have nx : ∀ v, v = bsin (g 171 l1) (l2 + i) → -1000 ≤ v → v ≤ 1000 → WQ sc (d + 1) 235 Q 65 [(2, 165), (0, l1), (0, l2), (0, l3), (0, l4), (1, wL (l4 * s + (wL (l4 * v)))), (8, 0), (0, l2 + (i + 1)), (9, 0)] [] g r := fun v ev v0 v1 => by
        have m1 := mulb (a := l4) (x := v) (X := 1000) (by omega) q6 (by decide) v0 v1
        have m2 := mulb (a := l4) (x := s) (X := 80000) (by omega) q6 (by decide) (by omega) (by omega)
        rw [wL_id (x := l4 * v) ⟨by omega, by omega⟩, wL_id ⟨by omega, by omega⟩, ← Int.mul_add]
        refine ih (i + 1) (s + v) (by omega) (by omega) (by omega) (by omega) ?_
        rw [ev, ← es']
        congr 1
        omega
      refine b_235_65 ?_
      rw [wt, if_pos (by omega), r_165_5 hr, w1, e1]
      refine ⟨k9, i71, by omega, k9, i71, by omega, ite_c (fun z => ?_) (fun z => ?_)⟩
      · rw [wr_id (x := dgV (g 171 l1) (l2 + i) - 180) ⟨by omega, by omega⟩]
        have sb := sin_at (a := dgV (g 171 l1) (l2 + i) - 180) (by omega) (by omega)
        refine w_161 (by omega) (by omega) ?_
        rw [wr_id (x := -sinV (dgV (g 171 l1) (l2 + i) - 180)) ⟨by omega, by omega⟩]
        exact nx _ (by unfold bsin; rw [if_pos z]) (by omega) (by omega)
      · have sb := sin_at (a := dgV (g 171 l1) (l2 + i)) (by omega) (by omega)
        refine w_161 (by omega) (by omega) ?_
        exact nx _ (by unfold bsin; rw [if_neg z]) (by omega) (by omega)
  have start := loop l3.toNat 0 0 (by omega) (by decide) (by decide) (by decide) (by rw [Int.add_zero])
  rw [Int.mul_zero, Int.add_zero] at start
  exact start
theorem qq_110 (hJ : J3 g r) {A1 A2 A3 A4 : Int} (D : Nat) : Ce sc (D + 3) 110 [(2, 0), (0, A1), (0, A2), (0, A3), (0, A4)] g r (fun v1 g1 r1 => Ce sc (D + 3) 235 [(2, 165), (0, A1), (0, A2), (0, A3), (0, A4)] g1 r1 fun v2 g2 r2 => v1 = v2 ∧ J3 g2 r2) :=
  f_110 hJ (fun y => f_235 (d := D + 1) hJ (fun _ => ⟨rfl, hJ⟩) (fun z => absurd y z)) (fun y => f_235 (d := D + 1) hJ (fun z => absurd z y) (fun _ => ⟨rfl, hJ⟩))
end BL3
