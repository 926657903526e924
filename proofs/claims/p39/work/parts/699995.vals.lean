/-! raised, ruin and balance: the same value on both sides -/
/-- what the class keeps of a mill told is what the model keeps -/
theorem tk_f {g r : GH} (hJ : J3 g r) {k : Int} (t : TM g k) : g (r 6 k + 1) 0 = g 168 k ∧ g (r 6 k + 1) 1 = g 169 k ∧ g (r 6 k + 1) 2 = g 170 k ∧ g (r 6 k + 1) 3 = g 171 k ∧ g (r 6 k + 1) 4 = g 172 k ∧ g (r 6 k + 1) 5 = g 173 k ∧ g (r 6 k + 1) 6 = g 174 k ∧ g (r 6 k) 2 = g 175 k ∧ g (r 6 k) 3 = g 176 k ∧ g (r 6 k + 1) 7 = g 177 k ∧ g (r 6 k + 1) 8 = g 178 k ∧ g (r 6 k + 6) 4 = g 179 k := by
  obtain ⟨m, _, mc, mx⟩ := (hJ.2.1 k t.1 t.2.1).2 t.2.2
  obtain ⟨a0, a1, a2, a3, a4, a5, a6, a7, a8, a9, a10, a11, _⟩ := mc
  have f := mx.1
  have f0 := f 0 (by decide) (by decide)
  have f1 := f 1 (by decide) (by decide)
  have f2 := f 2 (by decide) (by decide)
  have f3 := f 3 (by decide) (by decide)
  have f4 := f 4 (by decide) (by decide)
  have f5 := f 5 (by decide) (by decide)
  have f6 := f 6 (by decide) (by decide)
  have f7 := f 7 (by decide) (by decide)
  have f8 := f 8 (by decide) (by decide)
  have f9 := f 9 (by decide) (by decide)
  have f10 := f 10 (by decide) (by decide)
  have f11 := f 11 (by decide) (by decide)
  exact ⟨a0.trans f0.symm, a1.trans f1.symm, a2.trans f2.symm, a3.trans f3.symm, a4.trans f4.symm, a5.trans f5.symm, a6.trans f6.symm, a7.trans f7.symm, a8.trans f8.symm, a9.trans f9.symm, a10.trans f10.symm, a11.trans f11.symm⟩
/-- the bits of the mills that fit -/
def rb (c : Int → Bool) : Nat → Int → Int → Int
  | 0, b, _ => b
  | n + 1, b, i => rb c n (if c i then i_or b (i_shl 1 i) else b) (i + 1)
def ruC (g : GH) (p A B C D : Int) (i : Int) : Bool := decide (g 167 i ≠ 0 ∧ ¬ p < g 170 i ∧ (A ≤ g 169 i ∧ g 169 i ≤ B) ∧ (C ≤ g 177 i ∧ g 177 i ≤ D))
/-- the weight of a mill after all that was seen -/
def wg (g : GH) (k : Int) : Nat → Int → Int → Int
  | 0, w, _ => w
  | n + 1, w, i => wg g k n (wL ((wL (w * (if (if g 209 i = k then (1 : Int) else 0) = (if g 176 (g 209 i) < g 210 i then (1 : Int) else 0) then 8 else 2))).tdiv 10)) (i + 1)
def wgt (g : GH) (k : Int) : Int := wg g k (g 165 61).toNat (wL (100000000000000 * g 181 k)) 0
def rs6 (g : GH) : Nat → Int → Int → Int
  | 0, s, _ => s
  | n + 1, s, i => rs6 g n (wL (s + (if g 167 i = 0 then 0 else wgt g i))) (i + 1)
def mil (all : Int) : Nat → Int → Int → Int
  | 0, a, _ => wr a
  | n + 1, a, e => mil all n (wL ((wL (a * 10)) + (wL ((wL (e * 10)).tdiv all)))) ((wL (e * 10)).tmod all)
theorem wg_b {g : GH} {k : Int} : ∀ (n : Nat) (w i : Int), 0 ≤ w → w ≤ 9900000000000000 → 0 ≤ wg g k n w i ∧ wg g k n w i ≤ 9900000000000000 := by
  intro n
  induction n with
  | zero => intro w i a b; exact ⟨a, b⟩
  | succ n ih =>
    intro w i a b
    have key : ∀ c : Int, c = 8 ∨ c = 2 → 0 ≤ wL ((wL (w * c)).tdiv 10) ∧ wL ((wL (w * c)).tdiv 10) ≤ 9900000000000000 := fun c hc => by
      have e : 0 ≤ w * c ∧ w * c ≤ 8 * 9900000000000000 := by rcases hc with rfl | rfl <;> omega
      rw [wL_id (x := w * c) ⟨by omega, by omega⟩, Int.tdiv_eq_ediv_of_nonneg e.1, wL_id (x := w * c / 10) ⟨by omega, by omega⟩]
      omega
    have hc : (if (if g 209 i = k then (1 : Int) else 0) = (if g 176 (g 209 i) < g 210 i then (1 : Int) else 0) then (8 : Int) else 2) = 8 ∨ (if (if g 209 i = k then (1 : Int) else 0) = (if g 176 (g 209 i) < g 210 i then (1 : Int) else 0) then (8 : Int) else 2) = 2 := by
      by_cases z : (if g 209 i = k then (1 : Int) else 0) = (if g 176 (g 209 i) < g 210 i then (1 : Int) else 0)
      · exact Or.inl (if_pos z)
      · exact Or.inr (if_neg z)
    exact ih _ _ (key _ hc).1 (key _ hc).2
section RZ3
variable {sc : SCR} {d : Nat} {Q : QJ} {g r : GH} {l0 l1 l2 l3 l4 l5 l6 l7 l8 l9 p a n : Int}
theorem wgt_b (hJ : J3 g r) {k : Int} (k0 : 0 ≤ k) (k6 : k < 6) : 0 ≤ wgt g k ∧ wgt g k ≤ 9900000000000000 := by
  have w := (hJ.2.2.1 k k0 k6).2
  unfold wgt
  rw [wL_id ⟨by omega, by omega⟩]
  exact wg_b _ _ _ (by omega) (by omega)
theorem rs6_b (hJ : J3 g r) : ∀ (n : Nat) (s i : Int), 0 ≤ i → i + n = 6 → 0 ≤ s → s ≤ i * 9900000000000000 → 0 ≤ rs6 g n s i := by
  intro n
  induction n with
  | zero => intro s i _ _ a _; exact a
  | succ n ih =>
    intro s i i0 e a b
    have w := wgt_b hJ i0 (by omega)
    have key : ∀ x : Int, 0 ≤ x → x ≤ 9900000000000000 → 0 ≤ rs6 g n (wL (s + x)) (i + 1) := fun x x0 x1 => by
      rw [wL_id ⟨by omega, by omega⟩]
      exact ih _ _ (by omega) (by omega) (by omega) (by omega)
    show 0 ≤ rs6 g n (wL (s + (if g 167 i = 0 then 0 else wgt g i))) (i + 1)
    by_cases z : g 167 i = 0
    · rw [if_pos z]; exact key 0 (by decide) (by decide)
    · rw [if_neg z]; exact key _ w.1 w.2
theorem w_26 {b : Int} (k : okr 218 p 3) (e0 : r p 1 = a) (A : AL a 11 n) (h0 : 0 ≤ l1) (h1 : l1 < n) (h : Q (g a l1) g r) : Ce sc (d + 1) 26 [(2, p), (0, l1)] g r Q := by
  refine c_26 (ite_c (fun q => absurd q (by omega)) (fun _ => ⟨k, ?_⟩))
  rw [e0, A.2]
  exact ⟨⟨A.1.1, A.1.2.1, by rw [A.1.2.2]; decide, by rw [A.1.2.2]; decide⟩, ite_c (fun q => ⟨k, ⟨A.1, h0, by rw [A.2]; exact q⟩, h⟩) (fun q => absurd h1 q)⟩
/-! ruin -/
def RUV (l1 A B C D : Int) : Prop := (1 ≤ l1 ∧ l1 ≤ 20) ∧ ¬ A < 2 ∧ ¬ 40 < B ∧ ¬ B < A ∧ ¬ C < 1 ∧ ¬ 300 < D ∧ ¬ D < C
theorem f_103l (hJ : J3 g r) : ∀ (n : Nat) (i b : Int), i + n = 6 → 0 ≤ i → Q (rb (ruC g l1 l4 l5 l6 l7) n b i) g r → WQ sc (d + 2) 103 Q 85 [(2, 0), (0, l1), (9, 0), (9, 0), (0, l4), (0, l5), (0, l6), (0, l7), (0, b), (0, i), (9, 0)] [] g r := by
  have hr := hJ.1.1.1
  have k0 : okr 218 0 8 := okd (by decide +kernel)
  intro n
  induction n with
  | zero => intro i b e _ h; exact b_103_85 (ite_c (fun q => absurd q (by omega)) (fun _ => h))
  | succ n ih =>
    intro i b e i0 h
    have w1 : wr (i + 1) = i + 1 := wr_id ⟨by omega, by omega⟩
    have tt := td_tm hJ i
    have nx : ∀ b', b' = (if ruC g l1 l4 l5 l6 l7 i then i_or b (i_shl 1 i) else b) → WQ sc (d + 2) 103 Q 85 [(2, 0), (0, l1), (9, 0), (9, 0), (0, l4), (0, l5), (0, l6), (0, l7), (0, b'), (0, wr (i + 1)), (9, 0)] [] g r := fun b' eb => by
      rw [w1]
      exact ih (i + 1) b' (by omega) (by omega) (by rw [eb]; exact h)
    have no : ¬ (g 167 i ≠ 0 ∧ ¬ l1 < g 170 i ∧ (l4 ≤ g 169 i ∧ g 169 i ≤ l5) ∧ (l6 ≤ g 177 i ∧ g 177 i ≤ l7)) → b = (if ruC g l1 l4 l5 l6 l7 i then i_or b (i_shl 1 i) else b) := fun z => (if_neg (fun y => z (of_decide_eq_true y))).symm
    refine b_103_85 (ite_c (fun _ => ⟨k0, w_129 hr (fun t => ?_) (fun t => ?_)⟩) (fun q => absurd (by omega) q))
    · have tm := tt.mp t
      have hm := hr.2.1 i t.1 t.2.1
      have F := tk_f hJ tm
      rw [if_neg (mo_ne hm)]
      refine ⟨mo_ok hm, ?_⟩
      rw [mo_1 hr hm, F.2.2.1]
      refine ⟨mo_w hm, ite_c (fun q => nx _ (no (fun z => z.2.1 q))) (fun q => ⟨mo_ok hm, ?_⟩)⟩
      rw [F.2.1]
      refine ⟨mo_w hm, w_123 (fun q1 q2 => ?_) (fun q1 => ?_)⟩
      · rw [if_neg (by decide)]
        refine ⟨mo_ok hm, ?_⟩
        rw [mo_1 hr hm, F.2.2.2.2.2.2.2.2.2.1]
        refine ⟨mo_w hm, w_123 (fun q3 q4 => ?_) (fun q3 => ?_)⟩
        · rw [if_neg (by decide)]
          exact nx _ (if_pos (decide_eq_true ⟨tm.2.2, q, ⟨q1, q2⟩, q3, q4⟩)).symm
        · rw [if_pos rfl]
          exact nx _ (no (fun z => q3 z.2.2.2))
      · rw [if_pos rfl]
        exact nx _ (no (fun z => q1 z.2.2.1))
    · rw [if_pos rfl]
      exact nx _ (no (fun z => t (tt.mpr ⟨i0, by omega, z.1⟩)))
theorem f_103 (hJ : J3 g r) (h1 : RUV l1 (wr (l2.tdiv 100)) (l2.tmod 100) (wr (l3.tdiv 1000)) (l3.tmod 1000) → Q (rb (ruC g l1 (wr (l2.tdiv 100)) (l2.tmod 100) (wr (l3.tdiv 1000)) (l3.tmod 1000)) 6 0 0) g r) (h0 : ¬ RUV l1 (wr (l2.tdiv 100)) (l2.tmod 100) (wr (l3.tdiv 1000)) (l3.tmod 1000) → Q (-1) g r) : Ce sc (d + 3) 103 [(2, 0), (0, l1), (0, l2), (0, l3)] g r Q := by
  refine c_103 ⟨by decide, by decide, by decide, by decide, w_123 (fun q1 q2 => ?_) (fun q => ?_)⟩
  · rw [if_neg (by decide)]
    exact ite_c (fun z => h0 (fun y => y.2.1 z)) (fun z1 => ite_c (fun z => h0 (fun y => y.2.2.1 z)) (fun z2 => ite_c (fun z => h0 (fun y => y.2.2.2.1 z)) (fun z3 => ite_c (fun z => h0 (fun y => y.2.2.2.2.1 z)) (fun z4 => ite_c (fun z => h0 (fun y => y.2.2.2.2.2.1 z)) (fun z5 => ite_c (fun z => h0 (fun y => y.2.2.2.2.2.2 z)) (fun z6 => f_103l hJ 6 0 0 (by decide) (by decide) (h1 ⟨⟨q1, q2⟩, z1, z2, z3, z4, z5, z6⟩)))))))
  · rw [if_pos rfl]
    exact h0 (fun y => q y.1)
theorem f_227l (hJ : J3 g r) : ∀ (n : Nat) (i b : Int), i + n = 6 → 0 ≤ i → Q (rb (ruC g l1 (wr (l2.tdiv 100)) (l2.tmod 100) (wr (l3.tdiv 1000)) (l3.tmod 1000)) n b i) g r → WQ sc (d + 1) 227 Q 113 [(2, 165), (0, l1), (0, l2), (0, l3), (9, 0), (0, b), (0, i)] [] g r := by
  have hr := hJ.1.1.1
  have k9 : okr 218 165 9 := okd (by decide +kernel)
  intro n
  induction n with
  | zero => intro i b e _ h; exact b_227_113 (ite_c (fun q => absurd q (by omega)) (fun _ => h))
  | succ n ih =>
    intro i b e i0 h
    have w1 : wr (i + 1) = i + 1 := wr_id ⟨by omega, by omega⟩
    have nx : ∀ b', b' = (if ruC g l1 (wr (l2.tdiv 100)) (l2.tmod 100) (wr (l3.tdiv 1000)) (l3.tmod 1000) i then i_or b (i_shl 1 i) else b) → WQ sc (d + 1) 227 Q 113 [(2, 165), (0, l1), (0, l2), (0, l3), (9, 0), (0, b'), (0, wr (i + 1))] [] g r := fun b' eb => by
      rw [w1]
      exact ih (i + 1) b' (by omega) (by omega) (by rw [eb]; exact h)
    have no : ¬ (g 167 i ≠ 0 ∧ ¬ l1 < g 170 i ∧ (wr (l2.tdiv 100) ≤ g 169 i ∧ g 169 i ≤ l2.tmod 100) ∧ (wr (l3.tdiv 1000) ≤ g 177 i ∧ g 177 i ≤ l3.tmod 1000)) → b = (if ruC g l1 (wr (l2.tdiv 100)) (l2.tmod 100) (wr (l3.tdiv 1000)) (l3.tmod 1000) i then i_or b (i_shl 1 i) else b) := fun z => (if_neg (fun y => z (of_decide_eq_true y))).symm
    have i67 : okI 218 167 10 i ∨ okI 218 167 13 i := by
      first | exact Or.inr (i_167.mpr ⟨by omega, by omega⟩) | exact Or.inl (i_167.mpr ⟨by omega, by omega⟩)
    refine b_227_113 (ite_c (fun _ => ⟨k9, ?_⟩) (fun q => absurd (by omega) q))
    rw [r_165_1 hr]
    refine ⟨i67, ite_c (fun q => nx _ (no (fun z => z.1 q))) (fun q0 => ⟨k9, ?_⟩)⟩
    rw [r_165_4 hr]
    refine ⟨i_170.mpr ⟨by omega, by omega⟩, ite_c (fun q => nx _ (no (fun z => z.2.1 q))) (fun q => ⟨k9, ?_⟩)⟩
    rw [r_165_3 hr]
    refine ⟨i_169.mpr ⟨by omega, by omega⟩, by decide, by decide, w_137 (fun q1 q2 => ?_) (fun q1 => ?_)⟩
    · rw [if_neg (by decide)]
      refine ⟨k9, ?_⟩
      rw [r_165_11 hr]
      refine ⟨i_177.mpr ⟨by omega, by omega⟩, by decide, by decide, w_137 (fun q3 q4 => ?_) (fun q3 => ?_)⟩
      · rw [if_neg (by decide)]
        exact nx _ (if_pos (decide_eq_true ⟨q0, q, ⟨q1, q2⟩, q3, q4⟩)).symm
      · rw [if_pos rfl]
        exact nx _ (no (fun z => q3 z.2.2.2))
    · rw [if_pos rfl]
      exact nx _ (no (fun z => q1 z.2.2.1))
theorem f_227 (hJ : J3 g r) (b2 : rI l2) (b3 : rI l3) (h1 : RUV l1 (wr (l2.tdiv 100)) (l2.tmod 100) (wr (l3.tdiv 1000)) (l3.tmod 1000) → Q (rb (ruC g l1 (wr (l2.tdiv 100)) (l2.tmod 100) (wr (l3.tdiv 1000)) (l3.tmod 1000)) 6 0 0) g r) (h0 : ¬ RUV l1 (wr (l2.tdiv 100)) (l2.tmod 100) (wr (l3.tdiv 1000)) (l3.tmod 1000) → Q (-1) g r) : Ce sc (d + 2) 227 [(2, 165), (0, l1), (0, l2), (0, l3)] g r Q := by
  have neg : ∀ x m : Int, rI x → 1 < m → x < 0 → wr (x.tdiv m) ≤ 0 := fun x m hx hm h => by
    obtain ⟨y, rfl⟩ : ∃ y : Int, x = -y := ⟨-x, by omega⟩
    have e : (-y).tdiv m = -(y / m) := by rw [Int.neg_tdiv, Int.tdiv_eq_ediv_of_nonneg (by omega)]
    have c1 : 0 ≤ y / m := Int.ediv_nonneg (by omega) (by omega)
    have c2 : y / m ≤ y := Int.ediv_le_self m (by omega)
    have hx1 := hx.1
    rw [e, wr_id ⟨by omega, by omega⟩]
    omega
  refine c_227 (w_137 (fun q1 q2 => ?_) (fun q => ?_))
  rotate_left 1
  · rw [if_pos rfl]; exact h0 (fun y => q y.1)
  rw [if_neg (by decide)]
  refine ite_c (fun z => h0 (fun y => y.2.1 (by have := neg l2 100 b2 (by decide) z; omega))) (fun z2 => ite_c (fun z => h0 (fun y => y.2.2.2.2.1 (by have := neg l3 1000 b3 (by decide) z; omega))) (fun z3 => ⟨by decide, w_137 (fun a1 a2 => ?_) (fun a => ?_)⟩))
  rotate_left 1
  · rw [if_pos rfl]; exact h0 (fun y => a ⟨by have := y.2.1; omega, by have := y.2.2.1; have := y.2.2.2.1; omega⟩)
  rw [if_neg (by decide)]
  refine ⟨by decide, by decide, w_137 (fun a3 a4 => ?_) (fun a => ?_)⟩
  rotate_left 1
  · rw [if_pos rfl]; exact h0 (fun y => a ⟨by have := y.2.2.2.1; omega, by have := y.2.2.1; omega⟩)
  rw [if_neg (by decide)]
  refine ⟨by decide, w_137 (fun a5 a6 => ?_) (fun a => ?_)⟩
  rotate_left 1
  · rw [if_pos rfl]; exact h0 (fun y => a ⟨by have := y.2.2.2.2.1; omega, by have := y.2.2.2.2.2.1; have := y.2.2.2.2.2.2; omega⟩)
  rw [if_neg (by decide)]
  refine ⟨by decide, by decide, w_137 (fun a7 a8 => ?_) (fun a => ?_)⟩
  rotate_left 1
  · rw [if_pos rfl]; exact h0 (fun y => a ⟨by have := y.2.2.2.2.2.2; omega, by have := y.2.2.2.2.2.1; omega⟩)
  rw [if_neg (by decide)]
  exact f_227l hJ 6 0 0 (by decide) (by decide) (h1 ⟨⟨q1, q2⟩, by omega, by omega, by omega, by omega, by omega, by omega⟩)
theorem qq_103 (hJ : J3 g r) {A1 A2 A3 : Int} (b2 : rI A2) (b3 : rI A3) (D : Nat) : Ce sc (D + 3) 103 [(2, 0), (0, A1), (0, A2), (0, A3)] g r (fun v1 g1 r1 => Ce sc (D + 3) 227 [(2, 165), (0, A1), (0, A2), (0, A3)] g1 r1 fun v2 g2 r2 => v1 = v2 ∧ J3 g2 r2) :=
  f_103 hJ (fun y => f_227 (d := D + 1) hJ b2 b3 (fun _ => ⟨rfl, hJ⟩) (fun z => absurd y z)) (fun y => f_227 (d := D + 1) hJ b2 b3 (fun z => absurd z y) (fun _ => ⟨rfl, hJ⟩))
/-! raised -/
theorem f_101 (hJ : J3 g r) (h0 : 0 ≤ l1) (h6 : l1 < 6) (h : Q (wgt g l1) g r) : Ce sc (d + 3) 101 [(2, 0), (0, l1)] g r Q := by
  have hr := hJ.1.1.1
  have k0 : okr 218 0 8 := okd (by decide +kernel)
  have k52 : okr 218 52 3 := okd (by decide +kernel)
  have A : AL 53 11 30 := ⟨okd (by decide +kernel), n_53⟩
  have B : AL 54 11 30 := ⟨okd (by decide +kernel), n_54⟩
  have c52 := hJ.1.1.2.1.2.2.1
  have e61 := hJ.2.2.2.1
  have loop : ∀ (n : Nat) (i w : Int), i + n = g 165 61 → 0 ≤ i → Q (wg g l1 n w i) g r → WQ sc (d + 2) 101 Q 28 [(2, 0), (0, l1), (1, w), (8, 0), (0, i), (9, 0), (9, 0), (9, 0)] [] g r := by
    intro n
    induction n with
    | zero =>
      intro i w e i0 h
      refine b_101_28 ⟨k0, ?_⟩
      rw [r_0_12 hr]
      exact ⟨k52, ite_c (fun q => absurd q (by omega)) (fun _ => h)⟩
    | succ n ih =>
      intro i w e i0 h
      have w1 : wr (i + 1) = i + 1 := wr_id ⟨by omega, by omega⟩
      obtain ⟨s1, s2, s3⟩ := hJ.2.2.2.2 i i0 (by omega)
      have td := (td_tm hJ (g 209 i)).mpr s3
      have F := (tk_f hJ s3).2.2.2.2.2.2.2.2.1
      have hm := hr.2.1 _ s3.1 s3.2.1
      have fin : ∀ t0 l6 : Int, t0 = (if g 209 i = l1 then (1 : Int) else 0) → l6 = (if g 176 (g 209 i) < g 210 i then (1 : Int) else 0) → WQ sc (d + 2) 101 Q 102 [(2, 0), (0, l1), (1, w), (8, 0), (0, i), (9, 0), (0, l6), (9, 0)] [(0, t0)] g r := fun t0 l6 et el => by
        refine b_101_102 ?_
        rw [w1]
        have h' : Q (wg g l1 n (wL ((wL (w * (if t0 = l6 then 8 else 2))).tdiv 10)) (i + 1)) g r := by rw [et, el]; exact h
        refine ite_c (fun q => ⟨by decide, ih (i + 1) _ (by omega) (by omega) ?_⟩) (fun q => ⟨by decide, ih (i + 1) _ (by omega) (by omega) ?_⟩)
        · rw [if_pos q] at h'; exact h'
        · rw [if_neg q] at h'; exact h'
      refine b_101_28 ⟨k0, ?_⟩
      rw [r_0_12 hr]
      refine ⟨k52, ite_c (fun _ => ⟨k0, k52, w_25 k52 (r_52_0 hr) A i0 (by omega) ⟨k0, ?_⟩⟩) (fun q => absurd (by omega) q)⟩
      rw [s1]
      refine w_129 hr (fun _ => ?_) (fun z => absurd td z)
      rw [if_neg (mo_ne hm), r_0_12 hr]
      refine ⟨k0, k52, w_26 (b := 0) k52 (r_52_1 hr) B i0 (by omega) ⟨mo_ok hm, ?_⟩⟩
      rw [F, s2, r_0_12 hr]
      refine ite_c (fun q => ⟨k0, k52, w_25 k52 (r_52_0 hr) A i0 (by omega) ?_⟩) (fun q => ⟨k0, k52, w_25 k52 (r_52_0 hr) A i0 (by omega) ?_⟩)
      · rw [s1]
        exact ite_c (fun y => fin 1 1 (if_pos y).symm (if_pos q).symm) (fun y => fin 0 1 (if_neg y).symm (if_pos q).symm)
      · rw [s1]
        exact ite_c (fun y => fin 1 0 (if_pos y).symm (if_neg q).symm) (fun y => fin 0 0 (if_neg y).symm (if_neg q).symm)
  refine c_101 (w_123 (fun _ _ => ?_) (fun q => absurd ⟨h0, by omega⟩ q))
  rw [if_neg (by decide), r_0_11 hr]
  refine ⟨k0, i_51.mpr ⟨h0, h6⟩, ?_⟩
  rw [(hJ.2.2.1 l1 h0 h6).1]
  exact loop (g 165 61).toNat 0 _ (by omega) (by decide) h
theorem f_224 (hJ : J3 g r) (h0 : 0 ≤ l1) (h6 : l1 < 6) (h : Q (wgt g l1) g r) : Ce sc (d + 1) 224 [(2, 165), (0, l1)] g r Q := by
  have hr := hJ.1.1.1
  have k9 : okr 218 165 9 := okd (by decide +kernel)
  have c52 := hJ.1.1.2.1.2.2.1
  have e61 := hJ.2.2.2.1
  have loop : ∀ (n : Nat) (i w : Int), i + n = g 165 61 → 0 ≤ i → Q (wg g l1 n w i) g r → WQ sc d 224 Q 15 [(2, 165), (0, l1), (1, w), (8, 0), (0, i)] [] g r := by
    intro n
    induction n with
    | zero => intro i w e i0 h; exact b_224_15 ⟨k9, ite_c (fun q => absurd q (by omega)) (fun _ => h)⟩
    | succ n ih =>
      intro i w e i0 h
      have w1 : wr (i + 1) = i + 1 := wr_id ⟨by omega, by omega⟩
      obtain ⟨s1, s2, s3⟩ := hJ.2.2.2.2 i i0 (by omega)
      have fin : ∀ l6 : Int, (l6 = 0 ∨ l6 = 1) → l6 = (if g 176 (g 209 i) < g 210 i then (1 : Int) else 0) → WQ sc d 224 Q 52 [(2, 165), (0, l1), (9, 0), (9, 0), (0, i)] [(0, l6), (1, w)] g r := fun l6 hl el => by
        refine b_224_52 ⟨k9, ?_⟩
        rw [w1, r_165_62 hr]
        have h' : Q (wg g l1 n (wL ((wL (w * (if (if g 209 i = l1 then (1 : Int) else 0) = l6 then 8 else 2))).tdiv 10)) (i + 1)) g r := by rw [el]; exact h
        refine ⟨i_209.mpr ⟨by omega, by omega⟩, ite_c (fun q => ite_c (fun y => ⟨by decide, ih (i + 1) _ (by omega) (by omega) ?_⟩) (fun y => ⟨by decide, ih (i + 1) _ (by omega) (by omega) ?_⟩)) (fun q => ite_c (fun y => ⟨by decide, ih (i + 1) _ (by omega) (by omega) ?_⟩) (fun y => ⟨by decide, ih (i + 1) _ (by omega) (by omega) ?_⟩))⟩
        · rw [if_pos q, if_pos y.symm] at h'; exact h'
        · rw [if_pos q, if_neg (fun z => y z.symm)] at h'; exact h'
        · rw [if_neg q, if_pos y.symm] at h'; exact h'
        · rw [if_neg q, if_neg (fun z => y z.symm)] at h'; exact h'
      refine b_224_15 ⟨k9, ite_c (fun _ => ⟨k9, ?_⟩) (fun q => absurd (by omega) q)⟩
      rw [r_165_63 hr, r_165_62 hr, r_165_10 hr]
      exact ⟨i_210.mpr ⟨by omega, by omega⟩, k9, k9, i_209.mpr ⟨by omega, by omega⟩, i_176.mpr ⟨s3.1, by have := s3.2.1; omega⟩, ite_c (fun q => fin 1 (Or.inr rfl) (if_pos q).symm) (fun q => fin 0 (Or.inl rfl) (if_neg q).symm)⟩
  refine c_224 ⟨k9, ?_⟩
  rw [r_165_15 hr]
  exact ⟨i_181.mpr ⟨h0, h6⟩, loop (g 165 61).toNat 0 _ (by omega) (by decide) h⟩
theorem f_102 (hp : 0 < l2) (h : Q (mil l2 6 (wL (l0.tdiv l2)) (l0.tmod l2)) g r) : Ce sc (d + 1) 102 [(1, l0), (1, l2)] g r Q := by
  have nz : l2 ≠ 0 := by omega
  have loop : ∀ (n : Nat) (i x e : Int), i + n = 6 → 0 ≤ i → Q (mil l2 n x e) g r → WQ sc d 102 Q 21 [(9, 0), (9, 0), (1, l2), (8, 0), (1, x), (8, 0), (1, e), (8, 0), (0, i)] [] g r := by
    intro n
    induction n with
    | zero => intro i x e he _ h; exact b_102_21 (ite_c (fun q => absurd q (by omega)) (fun _ => h))
    | succ n ih =>
      intro i x e he i0 h
      refine b_102_21 (ite_c (fun _ => ⟨nz, nz, ?_⟩) (fun q => absurd (by omega) q))
      rw [wr_id (x := i + 1) ⟨by omega, by omega⟩]
      exact ih _ _ _ (by omega) (by omega) h
  exact c_102 (ite_c (fun _ => ⟨nz, nz, loop 6 0 _ _ (by decide) (by decide) h⟩) (fun q => absurd (cmp_gt.mpr hp) q))
theorem f_225 (nz : l2 ≠ 0) (h : Q (mil l2 6 (wL (l0.tdiv l2)) (l0.tmod l2)) g r) : Ce sc (d + 1) 225 [(1, l0), (1, l2)] g r Q := by
  have loop : ∀ (n : Nat) (i x e : Int), i + n = 6 → 0 ≤ i → Q (mil l2 n x e) g r → WQ sc d 225 Q 13 [(9, 0), (9, 0), (1, l2), (8, 0), (1, x), (8, 0), (1, e), (8, 0), (0, i)] [] g r := by
    intro n
    induction n with
    | zero => intro i x e he _ h; exact b_225_13 (ite_c (fun q => absurd q (by omega)) (fun _ => h))
    | succ n ih =>
      intro i x e he i0 h
      refine b_225_13 (ite_c (fun _ => ⟨nz, nz, ?_⟩) (fun q => absurd (by omega) q))
      rw [wr_id (x := i + 1) ⟨by omega, by omega⟩, Int.mul_comm 10 x]
      exact ih _ _ _ (by omega) (by omega) h
  exact c_225 ⟨nz, nz, loop 6 0 _ _ (by decide) (by decide) h⟩
def raV (g : GH) (k : Int) : Int := if rs6 g 6 0 0 = 0 then -1 else mil (rs6 g 6 0 0) 6 (wL ((wgt g k).tdiv (rs6 g 6 0 0))) ((wgt g k).tmod (rs6 g 6 0 0))
theorem f_100 (hJ : J3 g r) (h1 : TM g l1 → Q (raV g l1) g r) (h0 : ¬ TM g l1 → Q (-1) g r) : Ce sc (d + 4) 100 [(2, 0), (0, l1)] g r Q := by
  have hr := hJ.1.1.1
  have k0 : okr 218 0 8 := okd (by decide +kernel)
  have tt := td_tm hJ l1
  refine c_100 ⟨k0, w_129 hr (fun t => ?_) (fun t => ?_)⟩
  · rw [if_neg (mo_ne (hr.2.1 l1 t.1 t.2.1))]
    have hq := h1 (tt.mp t)
    have loop : ∀ (n : Nat) (i s : Int), i + n = 6 → 0 ≤ i → rs6 g n s i = rs6 g 6 0 0 → WQ sc (d + 3) 100 Q 15 [(2, 0), (0, l1), (1, s), (8, 0), (0, i)] [] g r := by
      intro n
      induction n with
      | zero =>
        intro i s e _ es
        have es' : s = rs6 g 6 0 0 := es
        refine b_100_15 (ite_c (fun q => absurd q (by omega)) (fun _ => ite_c (fun q => ?_) (fun q => ⟨k0, f_101 hJ t.1 t.2.1 (f_102 ?_ ?_)⟩)))
        · have z := cmp_eq.mp q
          unfold raV at hq
          rw [if_pos (by omega)] at hq
          exact hq
        · have b := rs6_b hJ 6 0 0 (by decide) (by decide) (by decide) (by decide)
          have z : s ≠ 0 := fun y => q (cmp_eq.mpr y)
          omega
        · have z : s ≠ 0 := fun y => q (cmp_eq.mpr y)
          unfold raV at hq
          rw [if_neg (by omega), ← es'] at hq
          exact hq
      | succ n ih =>
        intro i s e i0 es
        have w1 : wr (i + 1) = i + 1 := wr_id ⟨by omega, by omega⟩
        have ti := td_tm hJ i
        have es' : rs6 g n (wL (s + (if g 167 i = 0 then 0 else wgt g i))) (i + 1) = rs6 g 6 0 0 := es
        refine b_100_15 (ite_c (fun _ => ⟨k0, w_129 hr (fun t => ?_) (fun t => ?_)⟩) (fun q => absurd (by omega) q))
        · rw [if_neg (mo_ne (hr.2.1 i t.1 t.2.1)), w1]
          rw [if_neg (ti.mp t).2.2] at es'
          exact ⟨k0, f_101 hJ t.1 t.2.1 (ih _ _ (by omega) (by omega) es')⟩
        · rw [if_pos rfl, w1]
          have z : g 167 i = 0 := Decidable.byContradiction fun y => t (ti.mpr ⟨i0, by omega, y⟩)
          rw [if_pos z] at es'
          exact ih _ _ (by omega) (by omega) es'
    exact loop 6 0 0 (by decide) (by decide) rfl
  · rw [if_pos rfl]
    exact h0 (fun z => t (tt.mpr z))
theorem f_226 (hJ : J3 g r) (h1 : TM g l1 → Q (raV g l1) g r) (h0 : ¬ TM g l1 → Q (-1) g r) : Ce sc (d + 2) 226 [(2, 165), (0, l1)] g r Q := by
  have hr := hJ.1.1.1
  have k9 : okr 218 165 9 := okd (by decide +kernel)
  refine c_226 ⟨k9, w_140 hr (fun t => ?_) (fun t => ?_)⟩
  · rw [if_neg (by decide)]
    have hq := h1 t
    have loop : ∀ (n : Nat) (i s : Int), i + n = 6 → 0 ≤ i → rs6 g n s i = rs6 g 6 0 0 → WQ sc (d + 1) 226 Q 15 [(2, 165), (0, l1), (1, s), (8, 0), (0, i)] [] g r := by
      intro n
      induction n with
      | zero =>
        intro i s e _ es
        have es' : s = rs6 g 6 0 0 := es
        refine b_226_15 (ite_c (fun q => absurd q (by omega)) (fun _ => ite_c (fun q => ?_) (fun q => ⟨k9, f_224 hJ t.1 t.2.1 (f_225 ?_ ?_)⟩)))
        · have z := cmp_eq.mp q
          unfold raV at hq
          rw [if_pos (by omega)] at hq
          exact hq
        · exact fun y => q (cmp_eq.mpr y)
        · have z : s ≠ 0 := fun y => q (cmp_eq.mpr y)
          unfold raV at hq
          rw [if_neg (by omega), ← es'] at hq
          exact hq
      | succ n ih =>
        intro i s e i0 es
        have w1 : wr (i + 1) = i + 1 := wr_id ⟨by omega, by omega⟩
        have es' : rs6 g n (wL (s + (if g 167 i = 0 then 0 else wgt g i))) (i + 1) = rs6 g 6 0 0 := es
        have i67 : okI 218 167 10 i ∨ okI 218 167 13 i := by
          first | exact Or.inr (i_167.mpr ⟨by omega, by omega⟩) | exact Or.inl (i_167.mpr ⟨by omega, by omega⟩)
        refine b_226_15 (ite_c (fun _ => ⟨k9, ?_⟩) (fun q => absurd (by omega) q))
        rw [r_165_1 hr, w1]
        refine ⟨i67, ite_c (fun q => ?_) (fun q => ⟨k9, f_224 hJ i0 (by omega) ?_⟩)⟩
        · rw [if_pos q] at es'
          exact ih _ _ (by omega) (by omega) es'
        · rw [if_neg q] at es'
          exact ih _ _ (by omega) (by omega) es'
    exact loop 6 0 0 (by decide) (by decide) rfl
  · rw [if_pos rfl]
    exact h0 t
theorem qq_100 (hJ : J3 g r) {A1 : Int} (D : Nat) : Ce sc (D + 4) 100 [(2, 0), (0, A1)] g r (fun v1 g1 r1 => Ce sc (D + 4) 226 [(2, 165), (0, A1)] g1 r1 fun v2 g2 r2 => v1 = v2 ∧ J3 g2 r2) :=
  f_100 hJ (fun y => f_226 (d := D + 2) hJ (fun _ => ⟨rfl, hJ⟩) (fun z => absurd y z)) (fun y => f_226 (d := D + 2) hJ (fun z => absurd z y) (fun _ => ⟨rfl, hJ⟩))
end RZ3
