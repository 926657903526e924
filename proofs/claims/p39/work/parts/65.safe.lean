/-! the class's methods come to their end, whatever their numbers; printed by a program (wip/gen/gen_safe.py) -/
section SFE
variable {sc : SCR} {d : Nat} {Q : QJ} {g r : GH} {l0 l1 l2 l3 l4 l5 l6 l7 l8 l9 : Int}
theorem w_248 (h1 : l1 ≤ l0 → Q l0 g r) (h0 : l0 ≤ l1 → Q l1 g r) : Ce sc (d + 1) 248 [(0, l0), (0, l1)] g r Q := by
  refine c_248 ?_
  split
  · exact h0 (by omega)
  · exact h1 (by omega)
theorem w_249 (h1 : l1 ≤ l0 → Q l0 g r) (h0 : l0 ≤ l1 → Q l1 g r) : Ce sc (d + 1) 249 [(1, l0), (1, l1)] g r Q := by
  refine c_249 ?_
  simp only [cmp_lt]
  split
  · exact h0 (by omega)
  · exact h1 (by omega)
theorem w_251 (h1 : l0 ≤ l1 → Q l0 g r) (h0 : l1 ≤ l0 → Q l1 g r) : Ce sc (d + 1) 251 [(1, l0), (1, l1)] g r Q := by
  refine c_251 ?_
  simp only [cmp_gt]
  split
  · exact h0 (by omega)
  · exact h1 (by omega)
theorem w_125 (h1 : 1 ≤ l0 → l0 ≤ 300 → Q 1 g r) (h0 : ¬ (1 ≤ l0 ∧ l0 ≤ 300) → Q 0 g r) : Ce sc (d + 2) 125 [(0, l0)] g r Q :=
  c_125 (w_123 (fun a b => ⟨Or.inr rfl, h1 a b⟩) (fun a => ⟨Or.inl rfl, h0 a⟩))
theorem w_126 (h1 : 0 ≤ l0 → l0 ≤ 100 → Q 1 g r) (h0 : ¬ (0 ≤ l0 ∧ l0 ≤ 100) → Q 0 g r) : Ce sc (d + 2) 126 [(0, l0)] g r Q :=
  c_126 (w_123 (fun a b => ⟨Or.inr rfl, h1 a b⟩) (fun a => ⟨Or.inl rfl, h0 a⟩))
theorem s_17 (h : ∀ v, Q v g r) : Ce sc (d + 2) 17 [(0, l0)] g r Q := by
  by_cases hq : 0 ≤ l0 ∧ l0 ≤ 180
  · exact w_17 hq.1 hq.2 (h _)
  · refine c_17 (w_123 (fun a b => (hq ⟨a, b⟩).elim) (fun _ => ?_))
    rw [if_pos rfl]; exact h _
theorem s_18 (h : ∀ v, Q v g r) : Ce sc (d + 3) 18 [(0, l0)] g r Q :=
  c_18 (ite_c (fun _ => s_17 fun _ => h _) (fun _ => s_17 fun _ => h _))
theorem s_247 (hl : l1 ≠ 0) (h : ∀ v, Q v g r) : Ce sc (d + 1) 247 [(0, l0), (0, l1)] g r Q :=
  c_247 ⟨hl, ite_c (fun _ => ite_c (fun _ => h _) (fun _ => h _)) (fun _ => h _)⟩
theorem s_4 (hB : BR r l0) (h : ∀ v, 0 ≤ v → v ≤ 39 → Q v g r) : Ce sc (d + 2) 4 [(2, l0)] g r Q :=
  c_4 ⟨hB.1, by decide, w_250 (fun _ => w_248 (fun _ => h _ (by omega) (by omega)) (fun _ => h _ (by omega) (by omega))) (fun _ => w_248 (fun _ => h _ (by omega) (by omega)) (fun _ => h _ (by omega) (by omega)))⟩
theorem s_252 {x : Int} {n : Int} (ha : AR x 11 n) (hn : n < 2147483648) (h : ∀ g', EQ g g' → Q 0 g' r) : Ce sc (d + 1) 252 [(2, x), (0, l1)] g r Q := by
  have loop : ∀ i : Int, -2147483648 ≤ i → 0 ≤ i → ∀ g1, EQ g g1 → WQ sc d 252 Q 5 [(2, x), (0, l1), (0, i), (0, n)] [] g1 r := by
    refine upW n hn fun i _ ih h0 g1 e => b_252_5 (ite_c (fun hi => ⟨ha.i h0 hi, fun g2 e2 => ?_⟩) (fun _ => h _ e))
    subst e2
    exact ih hi (by rw [wr_id ⟨by omega, by omega⟩]; omega) _ (e.up ha.2.2)
  refine c_252 ⟨ha.a (by decide) (by decide), ?_⟩
  rw [ha.2.1]
  exact loop 0 (by decide) (by decide) g (EQ.rf g)
end SFE
section SFF
variable {sc : SCR} {d : Nat} {Q : QJ} {g r : GH} {l0 l1 l2 l3 l4 l5 l6 l7 l8 l9 : Int}
theorem s_22 (hM : okr 218 l0 2) (h : ∀ v, Q v g r) : Ce sc (d + 1) 22 [(2, l0), (0, l1)] g r Q := by
  refine c_22 ?_
  repeat' first
    | (with_reducible refine ite_01 ?_)
    | (with_reducible refine ite_00 ?_)
    | (with_reducible refine And.intro ?_ ?_; · first | assumption | decide | (exact AR.i (by assumption) (by omega) (by omega)) | (exact AR.a (by assumption) (by decide) (by decide)) | (exact AR.k (by assumption)) | omega | (have := cmp_gt.mp (by assumption : 0 < cmpL _ 0); omega))
    | (refine ite_c (fun _ => ?_) (fun _ => ?_))
    | (intro _ e1; subst e1)
    | (exfalso; omega)
    | (exact absurd trivial (by assumption))
    | ((with_reducible refine h _))
theorem s_29 (hP : PL r l0) (h : ∀ v, Q v g r) : Ce sc (d + 2) 29 [(2, l0), (0, l1), (0, l2)] g r Q := by
  obtain ⟨p1, p2, p3⟩ := hP
  have p5 := p3.2.1
  refine c_29 ?_
  repeat' first
    | (with_reducible refine ite_01 ?_)
    | (with_reducible refine ite_00 ?_)
    | (with_reducible refine And.intro ?_ ?_; · first | assumption | decide | (exact AR.i (by assumption) (by omega) (by omega)) | (exact AR.a (by assumption) (by decide) (by decide)) | (exact AR.k (by assumption)) | omega | (have := cmp_gt.mp (by assumption : 0 < cmpL _ 0); omega))
    | (refine ite_c (fun _ => ?_) (fun _ => ?_))
    | (intro _ e1; subst e1)
    | (with_reducible refine s_247 (by decide) (fun _ => ?_))
    | (exfalso; omega)
    | (exact absurd trivial (by assumption))
    | ((with_reducible refine h _))
theorem s_10 (hB : BK r l0) (h : ∀ v g', EQ g g' → Q v g' r) : Ce sc (d + 2) 10 [(2, l0), (0, l1)] g r Q := by
  have hB0 := hB
  obtain ⟨b1, b2, b3, b4, b5⟩ := hB
  have n3 := b3.2.2
  have n4 := b4.2.2
  have n5 := b5.2.2
  have m5 := b5.2.1
  refine c_10 ?_
  repeat' first
    | (with_reducible refine ite_01 ?_)
    | (with_reducible refine ite_00 ?_)
    | (with_reducible refine And.intro ?_ ?_; · first | assumption | decide | (exact AR.i (by assumption) (by omega) (by omega)) | (exact AR.a (by assumption) (by decide) (by decide)) | (exact AR.k (by assumption)) | omega | (have := cmp_gt.mp (by assumption : 0 < cmpL _ 0); omega))
    | (refine ite_c (fun _ => ?_) (fun _ => ?_))
    | (intro _ e1; subst e1)
    | (with_reducible refine w_250 (fun _ => ?_) (fun _ => ?_))
    | (exfalso; omega)
    | (exact absurd trivial (by assumption))
    | ((with_reducible refine h _ _ ?_) <;> (first | ((repeat (with_reducible first | assumption | exact EQ.rf _ | (refine EQ.up ?_ (by assumption)) | (refine EQ.cp ?_ (by assumption)) | (refine EQ.tr ?_ (by assumption)))); done) | omega | decide | (rw [wr_id ⟨by omega, by omega⟩]; omega)))
theorem s_11 (hB : BK r l0) (h : ∀ v, Q v g r) : Ce sc (d + 1) 11 [(2, l0), (0, l1)] g r Q := by
  have hB0 := hB
  obtain ⟨b1, b2, b3, b4, b5⟩ := hB
  have n3 := b3.2.2
  have n4 := b4.2.2
  have n5 := b5.2.2
  have m5 := b5.2.1
  refine c_11 ?_
  repeat' first
    | (with_reducible refine ite_01 ?_)
    | (with_reducible refine ite_00 ?_)
    | (with_reducible refine And.intro ?_ ?_; · first | assumption | decide | (exact AR.i (by assumption) (by omega) (by omega)) | (exact AR.a (by assumption) (by decide) (by decide)) | (exact AR.k (by assumption)) | omega | (have := cmp_gt.mp (by assumption : 0 < cmpL _ 0); omega))
    | (refine ite_c (fun _ => ?_) (fun _ => ?_))
    | (intro _ e1; subst e1)
    | (exfalso; omega)
    | (exact absurd trivial (by assumption))
    | ((with_reducible refine h _))
theorem s_14 (hB : BK r l0) (h : ∀ v, Q v g r) : Ce sc (d + 1) 14 [(2, l0), (0, l1)] g r Q := by
  have hB0 := hB
  obtain ⟨b1, b2, b3, b4, b5⟩ := hB
  have n3 := b3.2.2
  have n4 := b4.2.2
  have n5 := b5.2.2
  have m5 := b5.2.1
  refine c_14 ?_
  repeat' first
    | (with_reducible refine ite_01 ?_)
    | (with_reducible refine ite_00 ?_)
    | (with_reducible refine And.intro ?_ ?_; · first | assumption | decide | (exact AR.i (by assumption) (by omega) (by omega)) | (exact AR.a (by assumption) (by decide) (by decide)) | (exact AR.k (by assumption)) | omega | (have := cmp_gt.mp (by assumption : 0 < cmpL _ 0); omega))
    | (refine ite_c (fun _ => ?_) (fun _ => ?_))
    | (intro _ e1; subst e1)
    | (exfalso; omega)
    | (exact absurd trivial (by assumption))
    | ((with_reducible refine h _))
theorem s_12 (hB : BK r l0) (h : ∀ v g', EQ g g' → Q v g' r) : Ce sc (d + 3) 12 [(2, l0), (0, l1)] g r Q := by
  have hB0 := hB
  obtain ⟨b1, b2, b3, b4, b5⟩ := hB
  have n3 := b3.2.2
  have n4 := b4.2.2
  have n5 := b5.2.2
  have m5 := b5.2.1
  have loop : ∀ l2 : Int, -2147483648 ≤ l2 → 0 ≤ l2 → ∀ g1, EQ g g1 → WQ sc (d + 2) 12 Q 7 [(2, l0), (9, 0), (0, l2)] [] g1 r := by
    refine upW 180 (by decide) fun l2 _ ih h0 g1 e0 => ?_
    refine b_12_7 ?_
    repeat' first
      | (with_reducible refine ite_01 ?_)
      | (with_reducible refine ite_00 ?_)
      | (with_reducible refine And.intro ?_ ?_; · first | assumption | decide | (exact AR.i (by assumption) (by omega) (by omega)) | (exact AR.a (by assumption) (by decide) (by decide)) | (exact AR.k (by assumption)) | omega | (have := cmp_gt.mp (by assumption : 0 < cmpL _ 0); omega))
      | (refine ite_c (fun _ => ?_) (fun _ => ?_))
      | (intro _ e1; subst e1)
      | (with_reducible refine s_10 (by assumption) (fun _ _ _ => ?_))
      | (with_reducible refine s_11 (by assumption) (fun _ => ?_))
      | (exfalso; omega)
      | (exact absurd trivial (by assumption))
      | ((with_reducible refine ih ?_ ?_ _ ?_) <;> (first | ((repeat (with_reducible first | assumption | exact EQ.rf _ | (refine EQ.up ?_ (by assumption)) | (refine EQ.cp ?_ (by assumption)) | (refine EQ.tr ?_ (by assumption)))); done) | omega | decide | (rw [wr_id ⟨by omega, by omega⟩]; omega)))
      | ((with_reducible refine h _ _ ?_) <;> (first | ((repeat (with_reducible first | assumption | exact EQ.rf _ | (refine EQ.up ?_ (by assumption)) | (refine EQ.cp ?_ (by assumption)) | (refine EQ.tr ?_ (by assumption)))); done) | omega | decide | (rw [wr_id ⟨by omega, by omega⟩]; omega)))
  refine c_12 ?_
  repeat' first
    | (with_reducible refine ite_01 ?_)
    | (with_reducible refine ite_00 ?_)
    | (with_reducible refine And.intro ?_ ?_; · first | assumption | decide | (exact AR.i (by assumption) (by omega) (by omega)) | (exact AR.a (by assumption) (by decide) (by decide)) | (exact AR.k (by assumption)) | omega | (have := cmp_gt.mp (by assumption : 0 < cmpL _ 0); omega))
    | (refine ite_c (fun _ => ?_) (fun _ => ?_))
    | (intro _ e1; subst e1)
    | (with_reducible refine s_10 (by assumption) (fun _ _ _ => ?_))
    | (with_reducible refine s_11 (by assumption) (fun _ => ?_))
    | (exfalso; omega)
    | (exact absurd trivial (by assumption))
    | ((with_reducible refine loop _ ?_ ?_ _ ?_) <;> (first | ((repeat (with_reducible first | assumption | exact EQ.rf _ | (refine EQ.up ?_ (by assumption)) | (refine EQ.cp ?_ (by assumption)) | (refine EQ.tr ?_ (by assumption)))); done) | omega | decide | (rw [wr_id ⟨by omega, by omega⟩]; omega)))
    | ((with_reducible refine h _ _ ?_) <;> (first | ((repeat (with_reducible first | assumption | exact EQ.rf _ | (refine EQ.up ?_ (by assumption)) | (refine EQ.cp ?_ (by assumption)) | (refine EQ.tr ?_ (by assumption)))); done) | omega | decide | (rw [wr_id ⟨by omega, by omega⟩]; omega)))
theorem s_15 (hB : BK r l0) (h : ∀ v g', EQ g g' → Q v g' r) : Ce sc (d + 3) 15 [(2, l0)] g r Q := by
  have hB0 := hB
  obtain ⟨b1, b2, b3, b4, b5⟩ := hB
  have n3 := b3.2.2
  have n4 := b4.2.2
  have n5 := b5.2.2
  have m5 := b5.2.1
  have loop : ∀ l3 : Int, -2147483648 ≤ l3 → 0 ≤ l3 → ∀ (l1 : Int) g1, EQ g g1 → WQ sc (d + 2) 15 Q 4 [(2, l0), (1, l1), (8, 0), (0, l3)] [] g1 r := by
    refine upW 40 (by decide) fun l3 _ ih h0 l1 g1 e0 => ?_
    refine b_15_4 ?_
    repeat' first
      | (with_reducible refine ite_01 ?_)
      | (with_reducible refine ite_00 ?_)
      | (with_reducible refine And.intro ?_ ?_; · first | assumption | decide | (exact AR.i (by assumption) (by omega) (by omega)) | (exact AR.a (by assumption) (by decide) (by decide)) | (exact AR.k (by assumption)) | omega | (have := cmp_gt.mp (by assumption : 0 < cmpL _ 0); omega))
      | (refine ite_c (fun _ => ?_) (fun _ => ?_))
      | (intro _ e1; subst e1)
      | (with_reducible refine s_17 (fun _ => ?_))
      | (exfalso; omega)
      | (exact absurd trivial (by assumption))
      | ((with_reducible refine ih ?_ ?_ _ _ ?_) <;> (first | ((repeat (with_reducible first | assumption | exact EQ.rf _ | (refine EQ.up ?_ (by assumption)) | (refine EQ.cp ?_ (by assumption)) | (refine EQ.tr ?_ (by assumption)))); done) | omega | decide | (rw [wr_id ⟨by omega, by omega⟩]; omega)))
      | ((with_reducible refine h _ _ ?_) <;> (first | ((repeat (with_reducible first | assumption | exact EQ.rf _ | (refine EQ.up ?_ (by assumption)) | (refine EQ.cp ?_ (by assumption)) | (refine EQ.tr ?_ (by assumption)))); done) | omega | decide | (rw [wr_id ⟨by omega, by omega⟩]; omega)))
  refine c_15 ?_
  repeat' first
    | (with_reducible refine ite_01 ?_)
    | (with_reducible refine ite_00 ?_)
    | (with_reducible refine And.intro ?_ ?_; · first | assumption | decide | (exact AR.i (by assumption) (by omega) (by omega)) | (exact AR.a (by assumption) (by decide) (by decide)) | (exact AR.k (by assumption)) | omega | (have := cmp_gt.mp (by assumption : 0 < cmpL _ 0); omega))
    | (refine ite_c (fun _ => ?_) (fun _ => ?_))
    | (intro _ e1; subst e1)
    | (with_reducible refine s_17 (fun _ => ?_))
    | (exfalso; omega)
    | (exact absurd trivial (by assumption))
    | ((with_reducible refine loop _ ?_ ?_ _ _ ?_) <;> (first | ((repeat (with_reducible first | assumption | exact EQ.rf _ | (refine EQ.up ?_ (by assumption)) | (refine EQ.cp ?_ (by assumption)) | (refine EQ.tr ?_ (by assumption)))); done) | omega | decide | (rw [wr_id ⟨by omega, by omega⟩]; omega)))
    | ((with_reducible refine h _ _ ?_) <;> (first | ((repeat (with_reducible first | assumption | exact EQ.rf _ | (refine EQ.up ?_ (by assumption)) | (refine EQ.cp ?_ (by assumption)) | (refine EQ.tr ?_ (by assumption)))); done) | omega | decide | (rw [wr_id ⟨by omega, by omega⟩]; omega)))
theorem s_16 (hB : BK r l0) (h : ∀ v g', EQ g g' → Q v g' r) : Ce sc (d + 1) 16 [(2, l0)] g r Q := by
  have hB0 := hB
  obtain ⟨b1, b2, b3, b4, b5⟩ := hB
  have n3 := b3.2.2
  have n4 := b4.2.2
  have n5 := b5.2.2
  have m5 := b5.2.1
  have loop : ∀ l3 : Int, -2147483648 ≤ l3 → 0 ≤ l3 → ∀ (l1 : Int) g1, EQ g g1 → WQ sc d 16 Q 4 [(2, l0), (1, l1), (8, 0), (0, l3)] [] g1 r := by
    refine upW 40 (by decide) fun l3 _ ih h0 l1 g1 e0 => ?_
    refine b_16_4 ?_
    repeat' first
      | (with_reducible refine ite_01 ?_)
      | (with_reducible refine ite_00 ?_)
      | (with_reducible refine And.intro ?_ ?_; · first | assumption | decide | (exact AR.i (by assumption) (by omega) (by omega)) | (exact AR.a (by assumption) (by decide) (by decide)) | (exact AR.k (by assumption)) | omega | (have := cmp_gt.mp (by assumption : 0 < cmpL _ 0); omega))
      | (refine ite_c (fun _ => ?_) (fun _ => ?_))
      | (intro _ e1; subst e1)
      | (exfalso; omega)
      | (exact absurd trivial (by assumption))
      | ((with_reducible refine ih ?_ ?_ _ _ ?_) <;> (first | ((repeat (with_reducible first | assumption | exact EQ.rf _ | (refine EQ.up ?_ (by assumption)) | (refine EQ.cp ?_ (by assumption)) | (refine EQ.tr ?_ (by assumption)))); done) | omega | decide | (rw [wr_id ⟨by omega, by omega⟩]; omega)))
      | ((with_reducible refine h _ _ ?_) <;> (first | ((repeat (with_reducible first | assumption | exact EQ.rf _ | (refine EQ.up ?_ (by assumption)) | (refine EQ.cp ?_ (by assumption)) | (refine EQ.tr ?_ (by assumption)))); done) | omega | decide | (rw [wr_id ⟨by omega, by omega⟩]; omega)))
  refine c_16 ?_
  repeat' first
    | (with_reducible refine ite_01 ?_)
    | (with_reducible refine ite_00 ?_)
    | (with_reducible refine And.intro ?_ ?_; · first | assumption | decide | (exact AR.i (by assumption) (by omega) (by omega)) | (exact AR.a (by assumption) (by decide) (by decide)) | (exact AR.k (by assumption)) | omega | (have := cmp_gt.mp (by assumption : 0 < cmpL _ 0); omega))
    | (refine ite_c (fun _ => ?_) (fun _ => ?_))
    | (intro _ e1; subst e1)
    | (exfalso; omega)
    | (exact absurd trivial (by assumption))
    | ((with_reducible refine loop _ ?_ ?_ _ _ ?_) <;> (first | ((repeat (with_reducible first | assumption | exact EQ.rf _ | (refine EQ.up ?_ (by assumption)) | (refine EQ.cp ?_ (by assumption)) | (refine EQ.tr ?_ (by assumption)))); done) | omega | decide | (rw [wr_id ⟨by omega, by omega⟩]; omega)))
    | ((with_reducible refine h _ _ ?_) <;> (first | ((repeat (with_reducible first | assumption | exact EQ.rf _ | (refine EQ.up ?_ (by assumption)) | (refine EQ.cp ?_ (by assumption)) | (refine EQ.tr ?_ (by assumption)))); done) | omega | decide | (rw [wr_id ⟨by omega, by omega⟩]; omega)))
theorem s_13 (hB : BK r l0) (h : ∀ v g', EQ g g' → Q v g' r) : Ce sc (d + 3) 13 [(2, l0), (0, l1), (0, l2)] g r Q := by
  have hB0 := hB
  obtain ⟨b1, b2, b3, b4, b5⟩ := hB
  have n3 := b3.2.2
  have n4 := b4.2.2
  have n5 := b5.2.2
  have m5 := b5.2.1
  have loop : ∀ l4 : Int, -2147483648 ≤ l4 → 0 ≤ l4 → ∀ (l3 : Int) g1, EQ g g1 → WQ sc (d + 2) 13 Q 105 [(2, l0), (0, l1), (0, l2), (0, l3), (0, l4)] [] g1 r := by
    refine upW 40 (by decide) fun l4 _ ih h0 l3 g1 e0 => ?_
    refine b_13_105 ?_
    repeat' first
      | (with_reducible refine ite_01 ?_)
      | (with_reducible refine ite_00 ?_)
      | (with_reducible refine And.intro ?_ ?_; · first | assumption | decide | (exact AR.i (by assumption) (by omega) (by omega)) | (exact AR.a (by assumption) (by decide) (by decide)) | (exact AR.k (by assumption)) | omega | (have := cmp_gt.mp (by assumption : 0 < cmpL _ 0); omega))
      | (refine ite_c (fun _ => ?_) (fun _ => ?_))
      | (intro _ e1; subst e1)
      | (with_reducible refine s_10 (by assumption) (fun _ _ _ => ?_))
      | (with_reducible refine s_11 (by assumption) (fun _ => ?_))
      | (with_reducible refine w_248 (fun _ => ?_) (fun _ => ?_))
      | (with_reducible refine w_250 (fun _ => ?_) (fun _ => ?_))
      | (exfalso; omega)
      | (exact absurd trivial (by assumption))
      | ((with_reducible refine ih ?_ ?_ _ _ ?_) <;> (first | ((repeat (with_reducible first | assumption | exact EQ.rf _ | (refine EQ.up ?_ (by assumption)) | (refine EQ.cp ?_ (by assumption)) | (refine EQ.tr ?_ (by assumption)))); done) | omega | decide | (rw [wr_id ⟨by omega, by omega⟩]; omega)))
      | ((with_reducible refine h _ _ ?_) <;> (first | ((repeat (with_reducible first | assumption | exact EQ.rf _ | (refine EQ.up ?_ (by assumption)) | (refine EQ.cp ?_ (by assumption)) | (refine EQ.tr ?_ (by assumption)))); done) | omega | decide | (rw [wr_id ⟨by omega, by omega⟩]; omega)))
  have mid : WQ sc (d + 2) 13 Q 17 [(2, l0), (0, l1), (0, l2), (9, 0), (9, 0)] [] g r := by
    refine b_13_17 ?_
    repeat' first
      | (with_reducible refine ite_01 ?_)
      | (with_reducible refine ite_00 ?_)
      | (with_reducible refine And.intro ?_ ?_; · first | assumption | decide | (exact AR.i (by assumption) (by omega) (by omega)) | (exact AR.a (by assumption) (by decide) (by decide)) | (exact AR.k (by assumption)) | omega | (have := cmp_gt.mp (by assumption : 0 < cmpL _ 0); omega) | omega)
      | (refine ite_c (fun _ => ?_) (fun _ => ?_))
      | (intro _ e1; subst e1)
      | (with_reducible refine s_10 (by assumption) (fun _ _ _ => ?_))
      | (with_reducible refine s_11 (by assumption) (fun _ => ?_))
      | (with_reducible refine w_248 (fun _ => ?_) (fun _ => ?_))
      | (with_reducible refine w_250 (fun _ => ?_) (fun _ => ?_))
      | (exfalso; omega)
      | (exact absurd trivial (by assumption))
      | ((with_reducible refine loop _ ?_ ?_ _ _ ?_) <;> (first | ((repeat (with_reducible first | assumption | exact EQ.rf _ | (refine EQ.up ?_ (by assumption)) | (refine EQ.cp ?_ (by assumption)) | (refine EQ.tr ?_ (by assumption)))); done) | omega | decide | (rw [wr_id ⟨by omega, by omega⟩]; omega)))
      | ((with_reducible refine h _ _ ?_) <;> (first | ((repeat (with_reducible first | assumption | exact EQ.rf _ | (refine EQ.up ?_ (by assumption)) | (refine EQ.cp ?_ (by assumption)) | (refine EQ.tr ?_ (by assumption)))); done) | omega | decide | (rw [wr_id ⟨by omega, by omega⟩]; omega)))
  refine c_13 ?_
  repeat' first
    | (with_reducible refine ite_01 ?_)
    | (with_reducible refine ite_00 ?_)
    | (with_reducible refine And.intro ?_ ?_; · first | assumption | decide | (exact AR.i (by assumption) (by omega) (by omega)) | (exact AR.a (by assumption) (by decide) (by decide)) | (exact AR.k (by assumption)) | omega | (have := cmp_gt.mp (by assumption : 0 < cmpL _ 0); omega))
    | (refine ite_c (fun _ => ?_) (fun _ => ?_))
    | (intro _ e1; subst e1)
    | (with_reducible refine s_10 (by assumption) (fun _ _ _ => ?_))
    | (with_reducible refine s_11 (by assumption) (fun _ => ?_))
    | (with_reducible refine w_248 (fun _ => ?_) (fun _ => ?_))
    | (with_reducible refine w_250 (fun _ => ?_) (fun _ => ?_))
    | (exfalso; omega)
    | (exact absurd trivial (by assumption))
    | ((with_reducible refine mid))
    | ((with_reducible refine h _ _ ?_) <;> (first | ((repeat (with_reducible first | assumption | exact EQ.rf _ | (refine EQ.up ?_ (by assumption)) | (refine EQ.cp ?_ (by assumption)) | (refine EQ.tr ?_ (by assumption)))); done) | omega | decide | (rw [wr_id ⟨by omega, by omega⟩]; omega)))
theorem nz9 {f : GH} {l0 v a b c e : Int} (h : v ≠ 0) : up (up (up (up (up f l0 1 v) l0 2 a) l0 3 b) l0 4 c) l0 13 e l0 1 ≠ 0 := by
  rw [up_j (by decide), up_j (by decide), up_j (by decide), up_j (by decide), up_s]; exact h
theorem s_9 (hB : BK r l0) (hW : okr 218 l1 7) (hne : l1 ≠ l0) (h : ∀ v g', EQ g g' → Q v g' r) : Ce sc (d + 4) 9 [(2, l0), (2, l1)] g r Q := by
  have hB0 := hB
  obtain ⟨b1, b2, b3, b4, b5⟩ := hB
  have n3 := b3.2.2
  have n4 := b4.2.2
  have n5 := b5.2.2
  have m5 := b5.2.1
  have loop : ∀ l2 : Int, -2147483648 ≤ l2 → 0 ≤ l2 → ∀ g1, EQ g g1 → g1 l0 1 ≠ 0 → WQ sc (d + 3) 9 Q 66 [(2, l0), (2, l1), (0, l2), (9, 0), (9, 0)] [] g1 r := by
    refine upW 40 (by decide) fun l2 _ ih h0 g1 e0 hz => ?_
    have ne5 : l0 ≠ r l0 5 := fun q => by have := b1.2.2; have := b3.1.2.2; rw [← q] at this; omega
    have ne6 : l0 ≠ r l0 6 := fun q => by have := b1.2.2; have := b4.1.2.2; rw [← q] at this; omega
    have hk : ∀ a b c : Int, up (up (up g1 (r l0 5) l2 a) (r l0 6) l2 b) l0 4 c l0 1 ≠ 0 := fun a b c => by
      rw [up_j (by decide), up_i ne6, up_i ne5]; exact hz
    refine b_9_66 ?_
    repeat' first
      | (with_reducible refine ite_01 ?_)
      | (with_reducible refine ite_00 ?_)
      | (with_reducible refine And.intro ?_ ?_; · first | assumption | decide | (exact AR.i (by assumption) (by omega) (by omega)) | (exact AR.a (by assumption) (by decide) (by decide)) | (exact AR.k (by assumption)) | omega | (have := cmp_gt.mp (by assumption : 0 < cmpL _ 0); omega))
      | (refine ite_c (fun _ => ?_) (fun _ => ?_))
      | (intro _ e1; subst e1)
      | (with_reducible refine s_18 (fun _ => ?_))
      | (with_reducible refine w_248 (fun _ => ?_) (fun _ => ?_))
      | (with_reducible refine w_250 (fun _ => ?_) (fun _ => ?_))
      | (exfalso; omega)
      | (exact absurd trivial (by assumption))
      | ((with_reducible refine ih ?_ ?_ _ ?_ (hk _ _ _)) <;> (first | ((repeat (with_reducible first | assumption | exact EQ.rf _ | (refine EQ.up ?_ (by assumption)) | (refine EQ.cp ?_ (by assumption)) | (refine EQ.tr ?_ (by assumption)))); done) | omega | decide | (rw [wr_id ⟨by omega, by omega⟩]; omega)))
      | ((with_reducible refine h _ _ ?_) <;> (first | ((repeat (with_reducible first | assumption | exact EQ.rf _ | (refine EQ.up ?_ (by assumption)) | (refine EQ.cp ?_ (by assumption)) | (refine EQ.tr ?_ (by assumption)))); done) | omega | decide | (rw [wr_id ⟨by omega, by omega⟩]; omega)))
  refine c_9 ?_
  repeat' first
    | (with_reducible refine ite_01 ?_)
    | (with_reducible refine ite_00 ?_)
    | (with_reducible refine And.intro ?_ ?_; · first | assumption | decide | (exact AR.i (by assumption) (by omega) (by omega)) | (exact AR.a (by assumption) (by decide) (by decide)) | (exact AR.k (by assumption)) | omega | (have := cmp_gt.mp (by assumption : 0 < cmpL _ 0); omega) | (simp only [up_j (show (1 : Int) ≠ 2 by decide), up_s]; omega))
    | (refine ite_c (fun _ => ?_) (fun _ => ?_))
    | (intro _ e1; subst e1)
    | (with_reducible refine s_18 (fun _ => ?_))
    | (with_reducible refine w_248 (fun _ => ?_) (fun _ => ?_))
    | (with_reducible refine w_250 (fun _ => ?_) (fun _ => ?_))
    | (exfalso; omega)
    | (exact absurd trivial (by assumption))
    | ((with_reducible refine loop _ ?_ ?_ _ ?_ (nz9 (by omega))) <;> (first | ((repeat (with_reducible first | assumption | exact EQ.rf _ | (refine EQ.up ?_ (by assumption)) | (refine EQ.cp ?_ (by assumption)) | (refine EQ.tr ?_ (by assumption)))); done) | omega | decide | (rw [wr_id ⟨by omega, by omega⟩]; omega)))
    | ((with_reducible refine h _ _ ?_) <;> (first | ((repeat (with_reducible first | assumption | exact EQ.rf _ | (refine EQ.up ?_ (by assumption)) | (refine EQ.cp ?_ (by assumption)) | (refine EQ.tr ?_ (by assumption)))); done) | omega | decide | (rw [wr_id ⟨by omega, by omega⟩]; omega)))
theorem s_58 (hW : okr 218 l0 7) (h1 : Q 1 g r) (h0 : Q 0 g r) : Ce sc (d + 2) 58 [(2, l0), (0, l1)] g r Q := by
  refine c_58 ⟨hW, ite_c (fun _ => w_123 (fun _ _ => ?_) (fun _ => ?_)) (fun _ => ⟨by decide, h1⟩)⟩
  · rw [if_neg (by decide)]; exact ⟨by decide, h1⟩
  · rw [if_pos rfl]; exact ⟨by decide, h0⟩
def pw : Nat → Int
  | 0 => 0
  | n + 1 => ((2 ^ n : Nat) : Int)
theorem pw_sh : (List.range 12).all (fun n => decide (i_shr (pw (n + 1)) 1 = pw n ∧ 0 < pw (n + 1))) = true := by decide +kernel
theorem s_61 (h : ∀ v, Q v g r) : Ce sc (d + 1) 61 [(0, l0)] g r Q := by
  have key : ∀ (n : Nat) (l1 : Int), n ≤ 12 → WQ sc d 61 Q 6 [(0, l0), (0, l1), (0, pw n), (9, 0)] [] g r := by
    intro n
    induction n with
    | zero => intro l1 _; refine b_61_6 ?_; rw [if_neg (by decide)]; exact h _
    | succ n ih =>
      intro l1 hn
      obtain ⟨e1, e2⟩ := of_decide_eq_true (List.all_eq_true.mp pw_sh n (List.mem_range.mpr (by omega)))
      refine b_61_6 ?_
      rw [if_pos e2, e1]
      exact ite_c (fun _ => ih _ (by omega)) (fun _ => ih _ (by omega))
  exact c_61 (key 12 0 (by decide))
theorem WH.ne {r : GH} {x : Int} (h : WH r x) : x ≠ r x 9 := fun q => by
  have h1 := h.1.2.2
  have h2 := h.2.2.1.2.2
  rw [← q] at h2
  omega
theorem s_60 (hW : okr 218 l0 7) (h : ∀ v, Q v g r) : Ce sc (d + 2) 60 [(2, l0), (0, l1), (0, l2), (0, l3)] g r Q := by
  refine c_60 ?_
  repeat' first
    | (with_reducible refine ite_01 ?_)
    | (with_reducible refine ite_00 ?_)
    | (with_reducible refine And.intro ?_ ?_; · first | assumption | decide | (exact AR.i (by assumption) (by omega) (by omega)) | (exact AR.a (by assumption) (by decide) (by decide)) | (exact AR.k (by assumption)) | omega | (have := cmp_gt.mp (by assumption : 0 < cmpL _ 0); omega))
    | (refine ite_c (fun _ => ?_) (fun _ => ?_))
    | (intro _ e1; subst e1)
    | (with_reducible refine s_61 (fun _ => ?_))
    | (with_reducible refine w_248 (fun _ => ?_) (fun _ => ?_))
    | (exfalso; omega)
    | (exact absurd trivial (by assumption))
    | ((with_reducible refine h _))
theorem s_59 (hW : WH r l0) (h : ∀ v g', EQ g g' → Q v g' r) : Ce sc (d + 4) 59 [(2, l0), (0, l1), (0, l2), (0, l3)] g r Q := by
  have hW0 := hW
  obtain ⟨w1, w2, hB⟩ := hW
  have hB0 := hB
  obtain ⟨b1, b2, b3, b4, b5⟩ := hB
  have n3 := b3.2.2
  have n4 := b4.2.2
  have n5 := b5.2.2
  have m5 := b5.2.1
  refine c_59 ?_
  repeat' first
    | (with_reducible refine ite_01 ?_)
    | (with_reducible refine ite_00 ?_)
    | (with_reducible refine And.intro ?_ ?_; · first | assumption | decide | (exact AR.i (by assumption) (by omega) (by omega)) | (exact AR.a (by assumption) (by decide) (by decide)) | (exact AR.k (by assumption)) | omega | (have := cmp_gt.mp (by assumption : 0 < cmpL _ 0); omega))
    | (refine ite_c (fun _ => ?_) (fun _ => ?_))
    | (intro _ e1; subst e1)
    | (with_reducible refine s_13 (by assumption) (fun _ _ _ => ?_))
    | (with_reducible refine s_16 (by assumption) (fun _ _ _ => ?_))
    | (with_reducible refine s_60 (by assumption) (fun _ => ?_))
    | (exfalso; omega)
    | (exact absurd trivial (by assumption))
    | ((with_reducible refine h _ _ ?_) <;> (first | ((repeat (with_reducible first | assumption | exact EQ.rf _ | (refine EQ.up ?_ (by assumption)) | (refine EQ.cp ?_ (by assumption)) | (refine EQ.tr ?_ (by assumption)))); done) | omega | decide | (rw [wr_id ⟨by omega, by omega⟩]; omega)))
theorem s_62 (hW : WH r l0) (h : ∀ v g', EQ g g' → Q v g' r) : Ce sc (d + 5) 62 [(2, l0), (0, l1), (0, l2), (0, l3), (0, l4)] g r Q := by
  have hW0 := hW
  obtain ⟨w1, w2, hB⟩ := hW
  have hB0 := hB
  obtain ⟨b1, b2, b3, b4, b5⟩ := hB
  have n3 := b3.2.2
  have n4 := b4.2.2
  have n5 := b5.2.2
  have m5 := b5.2.1
  refine c_62 ?_
  repeat' first
    | (with_reducible refine ite_01 ?_)
    | (with_reducible refine ite_00 ?_)
    | (with_reducible refine And.intro ?_ ?_; · first | assumption | decide | (exact AR.i (by assumption) (by omega) (by omega)) | (exact AR.a (by assumption) (by decide) (by decide)) | (exact AR.k (by assumption)) | omega | (have := cmp_gt.mp (by assumption : 0 < cmpL _ 0); omega))
    | (refine ite_c (fun _ => ?_) (fun _ => ?_))
    | (intro _ e1; subst e1)
    | (with_reducible refine s_59 (by assumption) (fun _ _ _ => ?_))
    | (with_reducible refine w_249 (fun _ => ?_) (fun _ => ?_))
    | (exfalso; omega)
    | (exact absurd trivial (by assumption))
    | ((with_reducible refine h _ _ ?_) <;> (first | ((repeat (with_reducible first | assumption | exact EQ.rf _ | (refine EQ.up ?_ (by assumption)) | (refine EQ.cp ?_ (by assumption)) | (refine EQ.tr ?_ (by assumption)))); done) | omega | decide | (rw [wr_id ⟨by omega, by omega⟩]; omega)))
theorem s_63 (hW : WH r l0) (h : ∀ v g', EQ g g' → Q v g' r) : Ce sc (d + 6) 63 [(2, l0), (0, l1)] g r Q := by
  have hW0 := hW
  obtain ⟨w1, w2, hB⟩ := hW
  have hB0 := hB
  obtain ⟨b1, b2, b3, b4, b5⟩ := hB
  have n3 := b3.2.2
  have n4 := b4.2.2
  have n5 := b5.2.2
  have m5 := b5.2.1
  refine c_63 ?_
  repeat' first
    | (with_reducible refine ite_01 ?_)
    | (with_reducible refine ite_00 ?_)
    | (with_reducible refine And.intro ?_ ?_; · first | assumption | decide | (exact AR.i (by assumption) (by omega) (by omega)) | (exact AR.a (by assumption) (by decide) (by decide)) | (exact AR.k (by assumption)) | omega | (have := cmp_gt.mp (by assumption : 0 < cmpL _ 0); omega))
    | (refine ite_c (fun _ => ?_) (fun _ => ?_))
    | (intro _ e1; subst e1)
    | (with_reducible refine s_62 (by assumption) (fun _ _ _ => ?_))
    | (exfalso; omega)
    | (exact absurd trivial (by assumption))
    | ((with_reducible refine h _ _ ?_) <;> (first | ((repeat (with_reducible first | assumption | exact EQ.rf _ | (refine EQ.up ?_ (by assumption)) | (refine EQ.cp ?_ (by assumption)) | (refine EQ.tr ?_ (by assumption)))); done) | omega | decide | (rw [wr_id ⟨by omega, by omega⟩]; omega)))
theorem s_64 (hW : WH r l0) (h : ∀ v g', EQ g g' → Q v g' r) : Ce sc (d + 6) 64 [(2, l0), (0, l1), (0, l2), (0, l3)] g r Q := by
  have hW0 := hW
  obtain ⟨w1, w2, hB⟩ := hW
  have hB0 := hB
  obtain ⟨b1, b2, b3, b4, b5⟩ := hB
  have n3 := b3.2.2
  have n4 := b4.2.2
  have n5 := b5.2.2
  have m5 := b5.2.1
  have loop : ∀ l7 : Int, -2147483648 ≤ l7 → 0 ≤ l7 → ∀ (l4 l5 : Int) g1, EQ g g1 → WQ sc (d + 5) 64 Q 11 [(2, l0), (0, l1), (0, l2), (0, l3), (0, l4), (1, l5), (8, 0), (0, l7), (9, 0), (9, 0)] [] g1 r := by
    refine upW 301 (by decide) fun l7 _ ih h0 l4 l5 g1 e0 => ?_
    refine b_64_11 ?_
    repeat' first
      | (with_reducible refine ite_01 ?_)
      | (with_reducible refine ite_00 ?_)
      | (with_reducible refine And.intro ?_ ?_; · first | assumption | decide | (exact AR.i (by assumption) (by omega) (by omega)) | (exact AR.a (by assumption) (by decide) (by decide)) | (exact AR.k (by assumption)) | omega | (have := cmp_gt.mp (by assumption : 0 < cmpL _ 0); omega))
      | (refine ite_c (fun _ => ?_) (fun _ => ?_))
      | (intro _ e1; subst e1)
      | (with_reducible refine s_62 (by assumption) (fun _ _ _ => ?_))
      | (exfalso; omega)
      | (exact absurd trivial (by assumption))
      | ((with_reducible refine ih ?_ ?_ _ _ _ ?_) <;> (first | ((repeat (with_reducible first | assumption | exact EQ.rf _ | (refine EQ.up ?_ (by assumption)) | (refine EQ.cp ?_ (by assumption)) | (refine EQ.tr ?_ (by assumption)))); done) | omega | decide | (rw [wr_id ⟨by omega, by omega⟩]; omega)))
      | ((with_reducible refine h _ _ ?_) <;> (first | ((repeat (with_reducible first | assumption | exact EQ.rf _ | (refine EQ.up ?_ (by assumption)) | (refine EQ.cp ?_ (by assumption)) | (refine EQ.tr ?_ (by assumption)))); done) | omega | decide | (rw [wr_id ⟨by omega, by omega⟩]; omega)))
  refine c_64 ?_
  repeat' first
    | (with_reducible refine ite_01 ?_)
    | (with_reducible refine ite_00 ?_)
    | (with_reducible refine And.intro ?_ ?_; · first | assumption | decide | (exact AR.i (by assumption) (by omega) (by omega)) | (exact AR.a (by assumption) (by decide) (by decide)) | (exact AR.k (by assumption)) | omega | (have := cmp_gt.mp (by assumption : 0 < cmpL _ 0); omega))
    | (refine ite_c (fun _ => ?_) (fun _ => ?_))
    | (intro _ e1; subst e1)
    | (with_reducible refine s_62 (by assumption) (fun _ _ _ => ?_))
    | (exfalso; omega)
    | (exact absurd trivial (by assumption))
    | ((with_reducible refine loop _ ?_ ?_ _ _ _ ?_) <;> (first | ((repeat (with_reducible first | assumption | exact EQ.rf _ | (refine EQ.up ?_ (by assumption)) | (refine EQ.cp ?_ (by assumption)) | (refine EQ.tr ?_ (by assumption)))); done) | omega | decide | (rw [wr_id ⟨by omega, by omega⟩]; omega)))
    | ((with_reducible refine h _ _ ?_) <;> (first | ((repeat (with_reducible first | assumption | exact EQ.rf _ | (refine EQ.up ?_ (by assumption)) | (refine EQ.cp ?_ (by assumption)) | (refine EQ.tr ?_ (by assumption)))); done) | omega | decide | (rw [wr_id ⟨by omega, by omega⟩]; omega)))
theorem s_56 (hW : WH r l0) (hL : okr 218 l1 7) (h : ∀ v g', EQ g g' → Q v g' r) : Ce sc (d + 5) 56 [(2, l0), (2, l1), (0, l2), (0, l3)] g r Q := by
  have hW0 := hW
  obtain ⟨w1, w2, hB⟩ := hW
  have hB0 := hB
  obtain ⟨b1, b2, b3, b4, b5⟩ := hB
  have n3 := b3.2.2
  have n4 := b4.2.2
  have n5 := b5.2.2
  have m5 := b5.2.1
  have hne := hW0.ne
  refine c_56 ?_
  repeat' first
    | (with_reducible refine ite_01 ?_)
    | (with_reducible refine ite_00 ?_)
    | (with_reducible refine And.intro ?_ ?_; · first | assumption | decide | (exact AR.i (by assumption) (by omega) (by omega)) | (exact AR.a (by assumption) (by decide) (by decide)) | (exact AR.k (by assumption)) | omega | (have := cmp_gt.mp (by assumption : 0 < cmpL _ 0); omega))
    | (refine ite_c (fun _ => ?_) (fun _ => ?_))
    | (intro _ e1; subst e1)
    | (with_reducible refine s_9 (by assumption) (by assumption) (by assumption) (fun _ _ _ => ?_))
    | (exfalso; omega)
    | (exact absurd trivial (by assumption))
    | ((with_reducible refine h _ _ ?_) <;> (first | ((repeat (with_reducible first | assumption | exact EQ.rf _ | (refine EQ.up ?_ (by assumption)) | (refine EQ.cp ?_ (by assumption)) | (refine EQ.tr ?_ (by assumption)))); done) | omega | decide | (rw [wr_id ⟨by omega, by omega⟩]; omega)))
theorem s_57 (hW : WH r l0) (hL : okr 218 l1 7) (h : ∀ v g', EQ g g' → Q v g' r) : Ce sc (d + 6) 57 [(2, l0), (2, l1), (0, l2)] g r Q := by
  have hW0 := hW
  obtain ⟨w1, w2, hB⟩ := hW
  have hB0 := hB
  obtain ⟨b1, b2, b3, b4, b5⟩ := hB
  have n3 := b3.2.2
  have n4 := b4.2.2
  have n5 := b5.2.2
  have m5 := b5.2.1
  have hne := hW0.ne
  refine c_57 ?_
  repeat' first
    | (with_reducible refine ite_01 ?_)
    | (with_reducible refine ite_00 ?_)
    | (with_reducible refine And.intro ?_ ?_; · first | assumption | decide | (exact AR.i (by assumption) (by omega) (by omega)) | (exact AR.a (by assumption) (by decide) (by decide)) | (exact AR.k (by assumption)) | omega | (have := cmp_gt.mp (by assumption : 0 < cmpL _ 0); omega))
    | (refine ite_c (fun _ => ?_) (fun _ => ?_))
    | (intro _ e1; subst e1)
    | (with_reducible refine s_9 (by assumption) (by assumption) (by assumption) (fun _ _ _ => ?_))
    | (with_reducible refine s_56 (by assumption) (by assumption) (fun _ _ _ => ?_))
    | (exfalso; omega)
    | (exact absurd trivial (by assumption))
    | ((with_reducible refine h _ _ ?_) <;> (first | ((repeat (with_reducible first | assumption | exact EQ.rf _ | (refine EQ.up ?_ (by assumption)) | (refine EQ.cp ?_ (by assumption)) | (refine EQ.tr ?_ (by assumption)))); done) | omega | decide | (rw [wr_id ⟨by omega, by omega⟩]; omega)))
theorem s_53 (hU : RU r l0) (h1 : Q 1 g r) (h0 : Q 0 g r) : Ce sc (d + 1) 53 [(2, l0), (0, l1)] g r Q := by
  obtain ⟨u1, -, -, -, u5, -⟩ := hU
  have mu5 := u5.2.1
  have fin : ∀ a b t : Int, WQ sc d 53 Q 49 [(9, 0), (9, 0), (0, a), (0, b), (9, 0), (9, 0)] [(0, t)] g r := fun a b t => by
    refine b_53_49 ?_
    repeat' first
      | (with_reducible refine ite_01 ?_)
      | (with_reducible refine ite_00 ?_)
      | (with_reducible refine And.intro ?_ ?_; · decide)
      | (refine ite_c (fun _ => ?_) (fun _ => ?_))
      | (exact h1)
      | (exact h0)
  refine c_53 ⟨by decide, by decide, by decide, by decide, by decide, ite_c (fun _ => fin _ _ _) (fun _ => ⟨u1, u5.a (by decide) (by decide), ite_c (fun _ => ⟨u1, u5.i (by omega) (by omega), fin _ _ _⟩) (fun _ => fin _ _ _)⟩)⟩
theorem s_52 (hU : RU r l0) (h1 : Q 1 g r) (h0 : Q 0 g r) : Ce sc (d + 2) 52 [(2, l0), (0, l1), (0, l2)] g r Q := by
  have hU0 := hU
  obtain ⟨u1, u2, -, -, u5, -⟩ := hU
  have mu2 := u2.2.1
  have loop : ∀ l5 : Int, -2147483648 ≤ l5 → 0 ≤ l5 → ∀ l3 : Int, WQ sc (d + 1) 52 Q 18 [(2, l0), (9, 0), (0, l2), (1, l3), (8, 0), (0, l5), (9, 0)] [] g r := by
    refine upW 700 (by decide) fun l5 _ ih h5 l3 => ?_
    have st : l5 < 700 → ∀ x : Int, WQ sc (d + 1) 52 Q 18 [(2, l0), (9, 0), (0, l2), (1, x), (8, 0), (0, wr (l5 + 1)), (9, 0)] [] g r := fun hi x => ih hi (by rw [wr_id ⟨by omega, by omega⟩]; omega) x
    refine b_52_18 ?_
    repeat' first
      | (with_reducible refine ite_01 ?_)
      | (with_reducible refine ite_00 ?_)
      | (with_reducible refine And.intro ?_ ?_; · first | assumption | decide | (exact AR.i (by assumption) (by omega) (by omega)) | (exact AR.a (by assumption) (by decide) (by decide)))
      | (refine ite_c (fun _ => ?_) (fun _ => ?_))
      | (refine s_53 (by assumption) ?_ ?_)
      | (exact st (by omega) _)
      | (exact h1)
      | (exact h0)
  refine c_52 (ite_c (fun _ => w_248 (fun _ => ?_) (fun _ => ?_)) (fun _ => w_248 (fun _ => ?_) (fun _ => ?_)))
  all_goals exact loop _ (by omega) (by omega) _
theorem s_51 (hU : RU r l0) (h : ∀ v g', EQ g g' → Q v g' r) : Ce sc (d + 3) 51 [(2, l0), (0, l1), (0, l2), (0, l3), (0, l4), (0, l5)] g r Q := by
  have hU0 := hU
  obtain ⟨u1, u2, u3, u4, u5, -⟩ := hU
  have mu2 := u2.2.1
  have mu3 := u3.2.1
  have mu4 := u4.2.1
  have mu5 := u5.2.1
  have nu5 := u5.2.2
  have loop : ∀ l7 : Int, -2147483648 ≤ l7 → 0 ≤ l7 → ∀ (l6 : Int) g1, EQ g g1 → WQ sc (d + 2) 51 Q 43 [(2, l0), (9, 0), (9, 0), (9, 0), (9, 0), (9, 0), (0, l6), (0, l7)] [] g1 r := by
    refine upW 30 (by decide) fun l7 _ ih h0 l6 g1 e0 => ?_
    refine b_51_43 ?_
    repeat' first
      | (with_reducible refine ite_01 ?_)
      | (with_reducible refine ite_00 ?_)
      | (with_reducible refine And.intro ?_ ?_; · first | assumption | decide | (exact AR.i (by assumption) (by omega) (by omega)) | (exact AR.a (by assumption) (by decide) (by decide)) | (exact AR.k (by assumption)) | omega | (have := cmp_gt.mp (by assumption : 0 < cmpL _ 0); omega))
      | (refine ite_c (fun _ => ?_) (fun _ => ?_))
      | (intro _ e1; subst e1)
      | (with_reducible refine s_52 (by assumption) ?_ ?_)
      | (exfalso; omega)
      | (exact absurd trivial (by assumption))
      | ((with_reducible refine ih ?_ ?_ _ _ ?_) <;> (first | ((repeat (with_reducible first | assumption | exact EQ.rf _ | (refine EQ.up ?_ (by assumption)) | (refine EQ.cp ?_ (by assumption)) | (refine EQ.tr ?_ (by assumption)))); done) | omega | decide | (rw [wr_id ⟨by omega, by omega⟩]; omega)))
      | ((with_reducible refine h _ _ ?_) <;> (first | ((repeat (with_reducible first | assumption | exact EQ.rf _ | (refine EQ.up ?_ (by assumption)) | (refine EQ.cp ?_ (by assumption)) | (refine EQ.tr ?_ (by assumption)))); done) | omega | decide | (rw [wr_id ⟨by omega, by omega⟩]; omega)))
  refine c_51 ?_
  repeat' first
    | (with_reducible refine ite_01 ?_)
    | (with_reducible refine ite_00 ?_)
    | (with_reducible refine And.intro ?_ ?_; · first | assumption | decide | (exact AR.i (by assumption) (by omega) (by omega)) | (exact AR.a (by assumption) (by decide) (by decide)) | (exact AR.k (by assumption)) | omega | (have := cmp_gt.mp (by assumption : 0 < cmpL _ 0); omega))
    | (refine ite_c (fun _ => ?_) (fun _ => ?_))
    | (intro _ e1; subst e1)
    | (with_reducible refine s_52 (by assumption) ?_ ?_)
    | (exfalso; omega)
    | (exact absurd trivial (by assumption))
    | ((with_reducible refine loop _ ?_ ?_ _ _ ?_) <;> (first | ((repeat (with_reducible first | assumption | exact EQ.rf _ | (refine EQ.up ?_ (by assumption)) | (refine EQ.cp ?_ (by assumption)) | (refine EQ.tr ?_ (by assumption)))); done) | omega | decide | (rw [wr_id ⟨by omega, by omega⟩]; omega)))
    | ((with_reducible refine h _ _ ?_) <;> (first | ((repeat (with_reducible first | assumption | exact EQ.rf _ | (refine EQ.up ?_ (by assumption)) | (refine EQ.cp ?_ (by assumption)) | (refine EQ.tr ?_ (by assumption)))); done) | omega | decide | (rw [wr_id ⟨by omega, by omega⟩]; omega)))
theorem s_1 (hRa : BR r l0) (hRb : BR r l1) (h : ∀ v g', EQ g g' → Q v g' r) : Ce sc (d + 1) 1 [(2, l0), (2, l1)] g r Q := by
  have hR0a := hRa
  obtain ⟨x1a, x2a, x3a, x4a, x5a, x6a, x7a, x8a, x9a, x10a, x11a, x12a⟩ := hRa
  have mx3a := x3a.2.1
  have nx3a := x3a.2.2
  have mx4a := x4a.2.1
  have nx4a := x4a.2.2
  have mx5a := x5a.2.1
  have nx5a := x5a.2.2
  have mx6a := x6a.2.1
  have nx6a := x6a.2.2
  have mx7a := x7a.2.1
  have nx7a := x7a.2.2
  have mx8a := x8a.2.1
  have nx8a := x8a.2.2
  have mx9a := x9a.2.1
  have nx9a := x9a.2.2
  have mx10a := x10a.2.1
  have nx10a := x10a.2.2
  have mx11a := x11a.2.1
  have nx11a := x11a.2.2
  have mx12a := x12a.2.1
  have nx12a := x12a.2.2
  have hR0b := hRb
  obtain ⟨x1b, x2b, x3b, x4b, x5b, x6b, x7b, x8b, x9b, x10b, x11b, x12b⟩ := hRb
  have mx3b := x3b.2.1
  have nx3b := x3b.2.2
  have mx4b := x4b.2.1
  have nx4b := x4b.2.2
  have mx5b := x5b.2.1
  have nx5b := x5b.2.2
  have mx6b := x6b.2.1
  have nx6b := x6b.2.2
  have mx7b := x7b.2.1
  have nx7b := x7b.2.2
  have mx8b := x8b.2.1
  have nx8b := x8b.2.2
  have mx9b := x9b.2.1
  have nx9b := x9b.2.2
  have mx10b := x10b.2.1
  have nx10b := x10b.2.2
  have mx11b := x11b.2.1
  have nx11b := x11b.2.2
  have mx12b := x12b.2.1
  have nx12b := x12b.2.2
  refine c_1 ?_
  repeat' first
    | (with_reducible refine ite_01 ?_)
    | (with_reducible refine ite_00 ?_)
    | (with_reducible refine And.intro ?_ ?_; · first | assumption | decide | (exact AR.i (by assumption) (by omega) (by omega)) | (exact AR.a (by assumption) (by decide) (by decide)) | (exact AR.k (by assumption)) | omega | (have := cmp_gt.mp (by assumption : 0 < cmpL _ 0); omega) | (refine ⟨by decide, by decide, by decide, by omega, by omega, ?_⟩; first | exact Or.inl ⟨AR.k (by assumption), AR.k (by assumption)⟩ | exact Or.inr ⟨AR.k (by assumption), AR.k (by assumption)⟩))
    | (refine ite_c (fun _ => ?_) (fun _ => ?_))
    | (intro _ e1; subst e1)
    | (exfalso; omega)
    | (exact absurd trivial (by assumption))
    | ((with_reducible refine h _ _ ?_) <;> (first | ((repeat (with_reducible first | assumption | exact EQ.rf _ | (refine EQ.up ?_ (by assumption)) | (refine EQ.cp ?_ (by assumption)) | (refine EQ.tr ?_ (by assumption)))); done) | omega | decide | (rw [wr_id ⟨by omega, by omega⟩]; omega)))
theorem s_2 (hR : BR r l0) (h : ∀ v g', EQ g g' → Q v g' r) : Ce sc (d + 2) 2 [(2, l0), (0, l1)] g r Q := by
  have hR0 := hR
  obtain ⟨x1, x2, x3, x4, x5, x6, x7, x8, x9, x10, x11, x12⟩ := hR
  have mx3 := x3.2.1
  have nx3 := x3.2.2
  have mx4 := x4.2.1
  have nx4 := x4.2.2
  have mx5 := x5.2.1
  have nx5 := x5.2.2
  have mx6 := x6.2.1
  have nx6 := x6.2.2
  have mx7 := x7.2.1
  have nx7 := x7.2.2
  have mx8 := x8.2.1
  have nx8 := x8.2.2
  have mx9 := x9.2.1
  have nx9 := x9.2.2
  have mx10 := x10.2.1
  have nx10 := x10.2.2
  have mx11 := x11.2.1
  have nx11 := x11.2.2
  have mx12 := x12.2.1
  have nx12 := x12.2.2
  refine c_2 ?_
  repeat' first
    | (with_reducible refine ite_01 ?_)
    | (with_reducible refine ite_00 ?_)
    | (with_reducible refine And.intro ?_ ?_; · first | assumption | decide | (exact AR.i (by assumption) (by omega) (by omega)) | (exact AR.a (by assumption) (by decide) (by decide)) | (exact AR.k (by assumption)) | omega | (have := cmp_gt.mp (by assumption : 0 < cmpL _ 0); omega))
    | (refine ite_c (fun _ => ?_) (fun _ => ?_))
    | (intro _ e1; subst e1)
    | (with_reducible refine w_123 (fun _ _ => ?_) (fun _ => ?_))
    | (exfalso; omega)
    | (exact absurd trivial (by assumption))
    | ((with_reducible refine h _ _ ?_) <;> (first | ((repeat (with_reducible first | assumption | exact EQ.rf _ | (refine EQ.up ?_ (by assumption)) | (refine EQ.cp ?_ (by assumption)) | (refine EQ.tr ?_ (by assumption)))); done) | omega | decide | (rw [wr_id ⟨by omega, by omega⟩]; omega)))
theorem MO.ok {m : Int} (h : MO m) : okr 218 m 2 := mo_ok h
/-- the row of mills -/
def MR (r : GH) : Prop := (0 ≤ (6 : Int) ∧ (6 : Int) < 218 ∧ 11 ≤ am_sh 6 ∧ am_sh 6 ≤ 15) ∧ am_ln 6 = 6 ∧ ∀ j, 0 ≤ j → j < 6 → (okI 218 6 14 j ∨ okI 218 6 15 j) ∧ MO (r 6 j) ∧ ML r (r 6 j)
theorem mr_of {r : GH} (hr : RI r) : MR r := ⟨a_6.mpr trivial, n_6, fun j h0 h1 => ⟨Or.inl (i_6.mpr ⟨h0, h1⟩), hr.2.1 j h0 h1, ml_of hr (hr.2.1 j h0 h1)⟩⟩
theorem dnW {W : Int → Prop} (h : ∀ i, -2147483648 ≤ i → i < 2147483647 → (0 ≤ i → W (wr (i + (-1)))) → W i) : ∀ i, -1 ≤ i → i < 2147483647 → W i := by
  have key : ∀ (n : Nat) (i : Int), -1 ≤ i → i < n → i < 2147483647 → W i := by
    intro n
    induction n with
    | zero => intro i h0 h1 h2; exact h i (by omega) h2 (fun q => by omega)
    | succ n ih =>
      intro i h0 h1 h2
      refine h i (by omega) h2 (fun q => ?_)
      rw [wr_id ⟨by omega, by omega⟩]
      exact ih (i + -1) (by omega) (by omega) (by omega)
  intro i h0 h1
  exact key (i + 1).toNat i h0 (by omega) h1
theorem s_6 (hR : BR r l0) (hM : MR r) (h : ∀ v g', EQ g g' → Q v g' r) : Ce sc (d + 2) 6 [(2, l0), (2, 6)] g r Q := by
  obtain ⟨m1, m2, m3⟩ := hM
  have hR0 := hR
  obtain ⟨x1, x2, x3, x4, x5, x6, x7, x8, x9, x10, x11, x12⟩ := hR
  have mx3 := x3.2.1
  have nx3 := x3.2.2
  have mx4 := x4.2.1
  have nx4 := x4.2.2
  have mx5 := x5.2.1
  have nx5 := x5.2.2
  have mx6 := x6.2.1
  have nx6 := x6.2.2
  have mx7 := x7.2.1
  have nx7 := x7.2.2
  have mx8 := x8.2.1
  have nx8 := x8.2.2
  have mx9 := x9.2.1
  have nx9 := x9.2.2
  have mx10 := x10.2.1
  have nx10 := x10.2.2
  have mx11 := x11.2.1
  have nx11 := x11.2.2
  have mx12 := x12.2.1
  have nx12 := x12.2.2
  have loop : ∀ l4 : Int, -1 ≤ l4 → l4 < 2147483647 → l4 ≤ 5 → ∀ (l2 l3 : Int) g1, EQ g g1 → WQ sc (d + 1) 6 Q 7 [(2, l0), (2, 6), (0, l2), (0, l3), (0, l4), (9, 0)] [] g1 r := by
    refine dnW fun l4 _ _ ih h5 l2 l3 g1 e0 => ?_
    refine b_6_7 (ite_c (fun _ => h _ _ e0) (fun hi => ⟨m1, ite_c (fun _ => ?_) (fun q => by omega)⟩))
    obtain ⟨k1, k2, k3, k4, k5, k6⟩ := m3 l4 (by omega) (by omega)
    refine ⟨k1, b_6_27 ?_⟩
    rw [if_neg (mo_ne k2)]
    have st : ∀ (a b : Int) g2, EQ g g2 → WQ sc (d + 1) 6 Q 7 [(2, l0), (2, 6), (0, a), (0, b), (0, wr (l4 + (-1))), (9, 0)] [] g2 r := fun a b g2 e => ih (by omega) (by rw [wr_id ⟨by omega, by omega⟩]; omega) a b g2 e
    repeat' first
      | (with_reducible refine ite_01 ?_)
      | (with_reducible refine ite_00 ?_)
      | (with_reducible refine And.intro ?_ ?_; · first | assumption | decide | (exact AR.i (by assumption) (by omega) (by omega)))
      | (refine ite_c (fun _ => ?_) (fun _ => ?_))
      | (intro _ e1; subst e1)
      | (refine s_22 (by assumption) (fun _ => ?_))
      | (exact st _ _ _ (by (repeat (with_reducible first | assumption | exact EQ.rf _ | (refine EQ.up ?_ (by assumption)) | (refine EQ.cp ?_ (by assumption)) | (refine EQ.tr ?_ (by assumption))))))
  exact c_6 (loop 5 (by decide) (by decide) (by decide) _ _ _ (EQ.rf g))
theorem s_7 (hR : BR r l0) (hM : ML r l1) (hP : PL r l3) (h : ∀ v g', EQ g g' → Q v g' r) : Ce sc (d + 6) 7 [(2, l0), (2, l1), (0, l2), (2, l3)] g r Q := by
  have hR0 := hR
  obtain ⟨x1, x2, x3, x4, x5, x6, x7, x8, x9, x10, x11, x12⟩ := hR
  have mx3 := x3.2.1
  have nx3 := x3.2.2
  have mx4 := x4.2.1
  have nx4 := x4.2.2
  have mx5 := x5.2.1
  have nx5 := x5.2.2
  have mx6 := x6.2.1
  have nx6 := x6.2.2
  have mx7 := x7.2.1
  have nx7 := x7.2.2
  have mx8 := x8.2.1
  have nx8 := x8.2.2
  have mx9 := x9.2.1
  have nx9 := x9.2.2
  have mx10 := x10.2.1
  have nx10 := x10.2.2
  have mx11 := x11.2.1
  have nx11 := x11.2.2
  have mx12 := x12.2.1
  have nx12 := x12.2.2
  obtain ⟨m1, m2, hW, hU⟩ := hM
  have w1 := hW.1
  have u1 := hU.1
  have p1 := hP.1
  by_cases hl : 0 ≤ l2 ∧ l2 ≤ 5
  · obtain ⟨hl0, hl5⟩ := hl
    have end3 : ∀ (l4 l8 l9 t2 t3 : Int) g1, EQ g g1 → WQ sc (d + 5) 7 Q 225 [(2, l0), (9, 0), (0, l2), (9, 0), (0, l4), (9, 0), (9, 0), (9, 0), (0, l8), (0, l9), (9, 0), (9, 0), (9, 0)] [(0, t3), (0, t2), (0, l2), (2, r l0 9)] g1 r := by
      intro l4 l8 l9 t2 t3 g1 e0
      refine b_7_225 ?_
      repeat' first
        | (with_reducible refine ite_01 ?_)
        | (with_reducible refine ite_00 ?_)
        | (with_reducible refine And.intro ?_ ?_; · first | assumption | decide | (exact AR.i (by assumption) (by omega) (by omega)) | (exact AR.a (by assumption) (by decide) (by decide)) | (exact AR.k (by assumption)) | omega | (have := cmp_gt.mp (by assumption : 0 < cmpL _ 0); omega))
        | (refine ite_c (fun _ => ?_) (fun _ => ?_))
        | (intro _ e1; subst e1)
        | (with_reducible refine s_4 (by assumption) (fun _ _ _ => ?_))
        | (with_reducible refine s_22 (by assumption) (fun _ => ?_))
        | (with_reducible refine s_29 (by assumption) (fun _ => ?_))
        | (with_reducible refine s_51 (by assumption) (fun _ _ _ => ?_))
        | (with_reducible refine s_62 (by assumption) (fun _ _ _ => ?_))
        | (with_reducible refine w_123 (fun _ _ => ?_) (fun _ => ?_))
        | (with_reducible refine w_248 (fun _ => ?_) (fun _ => ?_))
        | (with_reducible refine w_250 (fun _ => ?_) (fun _ => ?_))
        | (exfalso; omega)
        | (exact absurd trivial (by assumption))
        | ((with_reducible refine h _ _ ?_) <;> (first | ((repeat (with_reducible first | assumption | exact EQ.rf _ | (refine EQ.up ?_ (by assumption)) | (refine EQ.cp ?_ (by assumption)) | (refine EQ.tr ?_ (by assumption)))); done) | omega | decide | (rw [wr_id ⟨by omega, by omega⟩]; omega)))
    have mid : ∀ (l4 l5 l7 : Int) g1, EQ g g1 → WQ sc (d + 5) 7 Q 113 [(2, l0), (2, l1), (0, l2), (9, 0), (0, l4), (0, l5), (9, 0), (0, l7), (9, 0), (9, 0), (9, 0), (9, 0), (9, 0)] [] g1 r := by
      intro l4 l5 l7 g1 e0
      refine b_7_113 ?_
      repeat' first
        | (with_reducible refine ite_01 ?_)
        | (with_reducible refine ite_00 ?_)
        | (with_reducible refine And.intro ?_ ?_; · first | assumption | decide | (exact AR.i (by assumption) (by omega) (by omega)) | (exact AR.a (by assumption) (by decide) (by decide)) | (exact AR.k (by assumption)) | omega | (have := cmp_gt.mp (by assumption : 0 < cmpL _ 0); omega))
        | (refine ite_c (fun _ => ?_) (fun _ => ?_))
        | (intro _ e1; subst e1)
        | (with_reducible refine s_4 (by assumption) (fun _ _ _ => ?_))
        | (with_reducible refine s_22 (by assumption) (fun _ => ?_))
        | (with_reducible refine s_29 (by assumption) (fun _ => ?_))
        | (with_reducible refine s_51 (by assumption) (fun _ _ _ => ?_))
        | (with_reducible refine s_62 (by assumption) (fun _ _ _ => ?_))
        | (with_reducible refine w_123 (fun _ _ => ?_) (fun _ => ?_))
        | (with_reducible refine w_248 (fun _ => ?_) (fun _ => ?_))
        | (with_reducible refine w_250 (fun _ => ?_) (fun _ => ?_))
        | (exfalso; omega)
        | (exact absurd trivial (by assumption))
        | ((with_reducible refine end3 _ _ _ _ _ _ ?_) <;> (first | ((repeat (with_reducible first | assumption | exact EQ.rf _ | (refine EQ.up ?_ (by assumption)) | (refine EQ.cp ?_ (by assumption)) | (refine EQ.tr ?_ (by assumption)))); done) | omega | decide | (rw [wr_id ⟨by omega, by omega⟩]; omega)))
        | ((with_reducible refine h _ _ ?_) <;> (first | ((repeat (with_reducible first | assumption | exact EQ.rf _ | (refine EQ.up ?_ (by assumption)) | (refine EQ.cp ?_ (by assumption)) | (refine EQ.tr ?_ (by assumption)))); done) | omega | decide | (rw [wr_id ⟨by omega, by omega⟩]; omega)))
    refine c_7 ?_
    repeat' first
      | (with_reducible refine ite_01 ?_)
      | (with_reducible refine ite_00 ?_)
      | (with_reducible refine And.intro ?_ ?_; · first | assumption | decide | (exact AR.i (by assumption) (by omega) (by omega)) | (exact AR.a (by assumption) (by decide) (by decide)) | (exact AR.k (by assumption)) | omega | (have := cmp_gt.mp (by assumption : 0 < cmpL _ 0); omega))
      | (refine ite_c (fun _ => ?_) (fun _ => ?_))
      | (intro _ e1; subst e1)
      | (with_reducible refine s_4 (by assumption) (fun _ _ _ => ?_))
      | (with_reducible refine s_22 (by assumption) (fun _ => ?_))
      | (with_reducible refine s_29 (by assumption) (fun _ => ?_))
      | (with_reducible refine s_51 (by assumption) (fun _ _ _ => ?_))
      | (with_reducible refine s_62 (by assumption) (fun _ _ _ => ?_))
      | (with_reducible refine w_123 (fun _ _ => ?_) (fun _ => ?_))
      | (with_reducible refine w_248 (fun _ => ?_) (fun _ => ?_))
      | (with_reducible refine w_250 (fun _ => ?_) (fun _ => ?_))
      | (exfalso; omega)
      | (exact absurd trivial (by assumption))
      | ((with_reducible refine mid _ _ _ _ ?_) <;> (first | ((repeat (with_reducible first | assumption | exact EQ.rf _ | (refine EQ.up ?_ (by assumption)) | (refine EQ.cp ?_ (by assumption)) | (refine EQ.tr ?_ (by assumption)))); done) | omega | decide | (rw [wr_id ⟨by omega, by omega⟩]; omega)))
      | ((with_reducible refine h _ _ ?_) <;> (first | ((repeat (with_reducible first | assumption | exact EQ.rf _ | (refine EQ.up ?_ (by assumption)) | (refine EQ.cp ?_ (by assumption)) | (refine EQ.tr ?_ (by assumption)))); done) | omega | decide | (rw [wr_id ⟨by omega, by omega⟩]; omega)))
  · refine c_7 (w_123 (fun a b => (hl ⟨a, b⟩).elim) (fun _ => ?_))
    rw [if_pos rfl]
    exact h _ _ (EQ.rf g)
theorem s_5 (hR : BR r l0) (hM : MR r) (hP : PL r l2) (h : ∀ v g', EQ g g' → Q v g' r) : Ce sc (d + 7) 5 [(2, l0), (2, 6), (2, l2)] g r Q := by
  have hR0 := hR
  obtain ⟨x1, x2, x3, x4, x5, x6, x7, x8, x9, x10, x11, x12⟩ := hR
  have mx3 := x3.2.1
  have nx3 := x3.2.2
  have mx4 := x4.2.1
  have nx4 := x4.2.2
  have mx5 := x5.2.1
  have nx5 := x5.2.2
  have mx6 := x6.2.1
  have nx6 := x6.2.2
  have mx7 := x7.2.1
  have nx7 := x7.2.2
  have mx8 := x8.2.1
  have nx8 := x8.2.2
  have mx9 := x9.2.1
  have nx9 := x9.2.2
  have mx10 := x10.2.1
  have nx10 := x10.2.2
  have mx11 := x11.2.1
  have nx11 := x11.2.2
  have mx12 := x12.2.1
  have nx12 := x12.2.2
  have hM0 := hM
  obtain ⟨m1, m2, m3⟩ := hM
  have end1 : ∀ (l3 : Int) g1, EQ g g1 → WQ sc (d + 6) 5 Q 134 [(2, l0), (9, 0), (9, 0), (0, l3), (9, 0), (9, 0), (9, 0)] [] g1 r := by
    intro l3 g1 e0
    refine b_5_134 ?_
    repeat' first
      | (with_reducible refine ite_01 ?_)
      | (with_reducible refine ite_00 ?_)
      | (with_reducible refine And.intro ?_ ?_; · first | assumption | decide | (exact AR.i (by assumption) (by omega) (by omega)) | (exact AR.a (by assumption) (by decide) (by decide)) | (exact AR.k (by assumption)) | omega | (have := cmp_gt.mp (by assumption : 0 < cmpL _ 0); omega))
      | (refine ite_c (fun _ => ?_) (fun _ => ?_))
      | (intro _ e1; subst e1)
      | (with_reducible refine s_4 (by assumption) (fun _ _ _ => ?_))
      | (with_reducible refine s_6 (by assumption) (by assumption) (fun _ _ _ => ?_))
      | (with_reducible refine s_7 (by assumption) (by assumption) (by assumption) (fun _ _ _ => ?_))
      | (with_reducible refine w_123 (fun _ _ => ?_) (fun _ => ?_))
      | (exfalso; omega)
      | (exact absurd trivial (by assumption))
      | ((with_reducible refine h _ _ ?_) <;> (first | ((repeat (with_reducible first | assumption | exact EQ.rf _ | (refine EQ.up ?_ (by assumption)) | (refine EQ.cp ?_ (by assumption)) | (refine EQ.tr ?_ (by assumption)))); done) | omega | decide | (rw [wr_id ⟨by omega, by omega⟩]; omega)))
  have loop : ∀ l5 : Int, -2147483648 ≤ l5 → 0 ≤ l5 → ∀ (l3 l4 : Int) g1, EQ g g1 → WQ sc (d + 6) 5 Q 55 [(2, l0), (2, 6), (2, l2), (0, l3), (0, l4), (0, l5), (9, 0)] [] g1 r := by
    refine upW 6 (by decide) fun l5 _ ih h5 l3 l4 g1 e0 => ?_
    refine b_5_55 (ite_c (fun _ => end1 _ _ e0) (fun _ => ite_c (fun hi => ⟨m1, ite_c (fun _ => ?_) (fun _ => end1 _ _ e0)⟩) (fun _ => end1 _ _ e0)))
    obtain ⟨k1, k2, k3⟩ := m3 l5 h5 hi
    have k4 := k3.1
    refine ⟨k1, ?_⟩
    rw [if_neg (mo_ne k2)]
    repeat' first
      | (with_reducible refine ite_01 ?_)
      | (with_reducible refine ite_00 ?_)
      | (with_reducible refine And.intro ?_ ?_; · first | assumption | decide | (exact AR.i (by assumption) (by omega) (by omega)) | (exact AR.a (by assumption) (by decide) (by decide)) | (exact AR.k (by assumption)) | omega | (have := cmp_gt.mp (by assumption : 0 < cmpL _ 0); omega))
      | (refine ite_c (fun _ => ?_) (fun _ => ?_))
      | (intro _ e1; subst e1)
      | (with_reducible refine s_4 (by assumption) (fun _ _ _ => ?_))
      | (with_reducible refine s_6 (by assumption) (by assumption) (fun _ _ _ => ?_))
      | (with_reducible refine s_7 (by assumption) (by assumption) (by assumption) (fun _ _ _ => ?_))
      | (with_reducible refine w_123 (fun _ _ => ?_) (fun _ => ?_))
      | (exfalso; omega)
      | (exact absurd trivial (by assumption))
      | ((with_reducible refine ih ?_ ?_ _ _ _ ?_) <;> (first | ((repeat (with_reducible first | assumption | exact EQ.rf _ | (refine EQ.up ?_ (by assumption)) | (refine EQ.cp ?_ (by assumption)) | (refine EQ.tr ?_ (by assumption)))); done) | omega | decide | (rw [wr_id ⟨by omega, by omega⟩]; omega)))
      | ((with_reducible refine h _ _ ?_) <;> (first | ((repeat (with_reducible first | assumption | exact EQ.rf _ | (refine EQ.up ?_ (by assumption)) | (refine EQ.cp ?_ (by assumption)) | (refine EQ.tr ?_ (by assumption)))); done) | omega | decide | (rw [wr_id ⟨by omega, by omega⟩]; omega)))
  refine c_5 ?_
  repeat' first
    | (with_reducible refine ite_01 ?_)
    | (with_reducible refine ite_00 ?_)
    | (with_reducible refine And.intro ?_ ?_; · first | assumption | decide | (exact AR.i (by assumption) (by omega) (by omega)) | (exact AR.a (by assumption) (by decide) (by decide)) | (exact AR.k (by assumption)) | omega | (have := cmp_gt.mp (by assumption : 0 < cmpL _ 0); omega))
    | (refine ite_c (fun _ => ?_) (fun _ => ?_))
    | (intro _ e1; subst e1)
    | (with_reducible refine s_4 (by assumption) (fun _ _ _ => ?_))
    | (with_reducible refine s_6 (by assumption) (by assumption) (fun _ _ _ => ?_))
    | (with_reducible refine s_7 (by assumption) (by assumption) (by assumption) (fun _ _ _ => ?_))
    | (with_reducible refine w_123 (fun _ _ => ?_) (fun _ => ?_))
    | (exfalso; omega)
    | (exact absurd trivial (by assumption))
    | ((with_reducible refine loop _ ?_ ?_ _ _ _ ?_) <;> (first | ((repeat (with_reducible first | assumption | exact EQ.rf _ | (refine EQ.up ?_ (by assumption)) | (refine EQ.cp ?_ (by assumption)) | (refine EQ.tr ?_ (by assumption)))); done) | omega | decide | (rw [wr_id ⟨by omega, by omega⟩]; omega)))
    | ((with_reducible refine h _ _ ?_) <;> (first | ((repeat (with_reducible first | assumption | exact EQ.rf _ | (refine EQ.up ?_ (by assumption)) | (refine EQ.cp ?_ (by assumption)) | (refine EQ.tr ?_ (by assumption)))); done) | omega | decide | (rw [wr_id ⟨by omega, by omega⟩]; omega)))
theorem s_28 (hP : PL r l0) (h : ∀ v g', EQ g g' → Q v g' r) : Ce sc (d + 2) 28 [(2, l0), (0, l1), (0, l2)] g r Q := by
  obtain ⟨p1, p2, p3⟩ := hP
  refine c_28 ?_
  repeat' first
    | (with_reducible refine ite_01 ?_)
    | (with_reducible refine ite_00 ?_)
    | (with_reducible refine And.intro ?_ ?_; · first | assumption | decide | (exact AR.i (by assumption) (by omega) (by omega)) | (exact AR.a (by assumption) (by decide) (by decide)) | (exact AR.k (by assumption)) | omega | (have := cmp_gt.mp (by assumption : 0 < cmpL _ 0); omega))
    | (refine s_252 (by assumption) (by decide) (fun _ _ => ?_))
    | (refine ite_c (fun _ => ?_) (fun _ => ?_))
    | (intro _ e1; subst e1)
    | (exfalso; omega)
    | (exact absurd trivial (by assumption))
    | ((with_reducible refine h _ _ ?_) <;> (first | ((repeat (with_reducible first | assumption | exact EQ.rf _ | (refine EQ.up ?_ (by assumption)) | (refine EQ.cp ?_ (by assumption)) | (refine EQ.tr ?_ (by assumption)))); done) | omega | decide | (rw [wr_id ⟨by omega, by omega⟩]; omega)))
end SFF
