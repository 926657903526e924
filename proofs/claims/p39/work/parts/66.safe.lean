/-! MillRow's own methods come to their end; printed by a program (wip/gen/gen_safe2.py) -/
def AL (x : Int) (c : Nat) (n : Int) : Prop := okr 218 x c ∧ am_ln x = n
def PR (r : GH) (p : Int) : Prop := okr 218 p 3 ∧ ∃ n, AL (r p 0) 11 n ∧ AL (r p 1) 11 n
/-- what the class's numbers keep to between the calls -/
def CI (g : GH) : Prop := (0 ≤ g 1 1 ∧ g 1 1 ≤ 700) ∧ (0 ≤ g 0 7 ∧ g 0 7 ≤ 3) ∧ (0 ≤ g 52 2 ∧ g 52 2 ≤ 30) ∧ (0 ≤ g 55 2 ∧ g 55 2 ≤ 24) ∧ (0 ≤ g 58 2 ∧ g 58 2 ≤ 9) ∧ (0 ≤ g 62 2 ∧ g 62 2 ≤ 8)
theorem CI.eq {g g' : GH} (h : CI g) (e : EQ g g') : CI g' := by
  unfold CI
  rw [e 1 (by unfold FP; omega) 1, e 0 (by unfold FP; omega) 7, e 52 (by unfold FP; omega) 2, e 55 (by unfold FP; omega) 2, e 58 (by unfold FP; omega) 2, e 62 (by unfold FP; omega) 2]
  exact h
theorem pr_52 {r : GH} (hr : RI r) : PR r 52 := ⟨okd (by decide +kernel), 30, by rw [r_52_0 hr]; exact ⟨okd (by decide +kernel), n_53⟩, by rw [r_52_1 hr]; exact ⟨okd (by decide +kernel), n_54⟩⟩
theorem pr_55 {r : GH} (hr : RI r) : PR r 55 := ⟨okd (by decide +kernel), 24, by rw [r_55_0 hr]; exact ⟨okd (by decide +kernel), n_56⟩, by rw [r_55_1 hr]; exact ⟨okd (by decide +kernel), n_57⟩⟩
theorem pr_58 {r : GH} (hr : RI r) : PR r 58 := ⟨okd (by decide +kernel), 9, by rw [r_58_0 hr]; exact ⟨okd (by decide +kernel), n_59⟩, by rw [r_58_1 hr]; exact ⟨okd (by decide +kernel), n_60⟩⟩
theorem pr_62 {r : GH} (hr : RI r) : PR r 62 := ⟨okd (by decide +kernel), 8, by rw [r_62_0 hr]; exact ⟨okd (by decide +kernel), n_63⟩, by rw [r_62_1 hr]; exact ⟨okd (by decide +kernel), n_64⟩⟩
theorem upS {W : Int → Prop} (s N : Int) (hs : 1 ≤ s) (hN : N + s < 2147483647) (h : ∀ i, -2147483648 ≤ i → (i < N → W (wr (i + s))) → W i) : ∀ i, -2147483648 ≤ i → W i := by
  have key : ∀ (n : Nat) (i : Int), -2147483648 ≤ i → N ≤ i + n → W i := by
    intro n
    induction n with
    | zero => intro i h0 h1; exact h i h0 (fun q => by omega)
    | succ n ih =>
      intro i h0 h1
      refine h i h0 (fun q => ?_)
      rw [wr_id ⟨by omega, by omega⟩]
      exact ih (i + s) (by omega) (by omega)
  intro i h0
  exact key (N - i).toNat i h0 (by omega)
theorem im_of {r : GH} (hr : RI r) {j : Int} (h0 : 0 ≤ j) (h1 : j < 3) : BR r (r 45 j) ∧ okr 218 (r 45 j) 0 ∧ ¬ r 45 j = -1 := by
  have e : j = 0 ∨ j = 1 ∨ j = 2 := by omega
  rcases e with rfl | rfl | rfl
  · rw [r_45_0 hr]; exact ⟨br_132 hr, (br_132 hr).1, by decide⟩
  · rw [r_45_1 hr]; exact ⟨br_143 hr, (br_143 hr).1, by decide⟩
  · rw [r_45_2 hr]; exact ⟨br_154 hr, (br_154 hr).1, by decide⟩
section SFG
variable {sc : SCR} {d : Nat} {Q : QJ} {g r : GH} {l0 l1 l2 l3 l4 l5 l6 l7 l8 l9 : Int}
theorem s_25 (hP : PR r l0) (h : ∀ v, Q v g r) : Ce sc (d + 1) 25 [(2, l0), (0, l1)] g r Q := by
  obtain ⟨k, n, a, b⟩ := hP
  exact c_25 (ite_c (fun _ => h _) (fun _ => ⟨k, ⟨a.1.1, a.1.2.1, by rw [a.1.2.2]; decide, by rw [a.1.2.2]; decide⟩, ite_c (fun q => ⟨k, ⟨a.1, by omega, q⟩, h _⟩) (fun _ => h _)⟩))
theorem s_26 (hP : PR r l0) (h : ∀ v, Q v g r) : Ce sc (d + 1) 26 [(2, l0), (0, l1)] g r Q := by
  obtain ⟨k, n, a, b⟩ := hP
  exact c_26 (ite_c (fun _ => h _) (fun _ => ⟨k, ⟨b.1.1, b.1.2.1, by rw [b.1.2.2]; decide, by rw [b.1.2.2]; decide⟩, ite_c (fun q => ⟨k, ⟨b.1, by omega, q⟩, h _⟩) (fun _ => h _)⟩))
theorem s_129 (hr : RI r) (h1 : ∀ m, m ≠ -1 → 0 ≤ l1 → l1 < 6 → okr 218 m 2 → NF m → WH r (r m 1) → okr 218 (r m 1) 7 → RU r (r m 4) → okr 218 (r m 4) 6 → BK r (r (r m 1) 9) → okr 218 (r (r m 1) 9) 1 → Q m g r) (h0 : Q (-1) g r) : Ce sc (d + 2) 129 [(2, 0), (0, l1)] g r Q :=
  w_129 hr (fun t => by
    have hm := hr.2.1 l1 t.1 t.2.1
    have hl := ml_of hr hm
    exact h1 _ (mo_ne hm) t.1 t.2.1 hl.1 hl.2.1 hl.2.2.1 hl.2.2.1.1 hl.2.2.2 hl.2.2.2.1 hl.2.2.1.2.2 hl.2.2.1.2.2.1) (fun _ => h0)
theorem s_130 (hr : RI r) (h1 : ∀ x, x ≠ -1 → 0 ≤ l1 → l1 < 6 → WH r x → okr 218 x 7 → BK r (r x 9) → okr 218 (r x 9) 1 → Q x g r) (h0 : Q (-1) g r) : Ce sc (d + 3) 130 [(2, 0), (0, l1)] g r Q :=
  w_130 hr (fun t _ => by
    have hm := hr.2.1 l1 t.1 t.2.1
    have hl := ml_of hr hm
    rw [← mo_1 hr hm]
    refine h1 _ ?_ t.1 t.2.1 hl.2.2.1 hl.2.2.1.1 hl.2.2.1.2.2 hl.2.2.1.2.2.1
    rw [mo_1 hr hm]; unfold MO at hm; omega) (fun _ => h0)
theorem s_3 (k : okr 218 l0 0) (hn : NF l0) (h : ∀ v g', EQ g g' → Q v g' r) : Ce sc (d + 1) 3 [(2, l0)] g r Q :=
  c_3 ⟨k, k, fun g1 e1 => ⟨k, by decide, ite_c (fun _ => h _ _ (by rw [e1]; exact (EQ.rf g).up hn)) (fun _ => ite_c (fun _ => h _ _ (by rw [e1]; exact (EQ.rf g).up hn)) (fun _ => h _ _ (by rw [e1]; exact (EQ.rf g).up hn)))⟩⟩
theorem s_93 (h : ∀ v, v ≠ 0 → Q v g r) : Ce sc (d + 1) 93 [(0, l0)] g r Q := c_93 (ite_c (fun _ => ite_c (fun _ => h _ (by decide)) (fun _ => h _ (by decide))) (fun _ => h _ (by decide)))
theorem s_94 (h : ∀ v, Q v g r) : Ce sc (d + 2) 94 [(0, l0), (0, l1)] g r Q := c_94 (s_93 fun v hv => ⟨hv, by decide, h _⟩)
theorem s_133 (hr : RI r) (h0 : 0 ≤ l1) (h2 : l1 ≤ 2) (h : ∀ v g', EQ g g' → Q v g' r) : Ce sc (d + 2) 133 [(2, 0), (0, l1)] g r Q := w_133 hr h0 h2 (h _ _ ((EQ.rf g).up (nf_of (by decide +kernel))))
theorem s_134 (hr : RI r) (h0 : 0 ≤ l1) (h2 : l1 ≤ 2) (h : ∀ g', EQ g g' → Q 0 g' r) : Ce sc (d + 3) 134 [(2, 0), (0, l1)] g r Q := w_134 hr h0 h2 (h _ ((EQ.rf g).up (nf_of (by decide +kernel))))
theorem parts_ne {a b : Int} (h1 : 1 ≤ a) (h2 : a ≤ 99999) (h3 : 1 ≤ b) (h4 : b ≤ 99) : wL (wL (60 * a) * b) ≠ 0 := by
  rw [wL_id (x := 60 * a) ⟨by omega, by omega⟩]
  have e1 : 1 * 1 ≤ (60 * a) * b := Int.mul_le_mul (by omega) h3 (by decide) (by omega)
  have e2 : (60 * a) * b ≤ 5999940 * 99 := Int.mul_le_mul (by omega) h4 (by omega) (by decide)
  rw [wL_id ⟨by omega, by omega⟩]
  omega
theorem wr191 : wr (192 - 1) = 191 := by decide
theorem shl9 {m : Int} (h0 : 0 ≤ m) (h9 : m ≤ 9) : i_shl 1 m ≤ 512 := by
  have e : m = 0 ∨ m = 1 ∨ m = 2 ∨ m = 3 ∨ m = 4 ∨ m = 5 ∨ m = 6 ∨ m = 7 ∨ m = 8 ∨ m = 9 := by omega
  rcases e with rfl | rfl | rfl | rfl | rfl | rfl | rfl | rfl | rfl | rfl <;> decide +kernel
end SFG
section SFH
variable {sc : SCR} {d : Nat} {Q : QJ} {g r : GH} {l0 l1 l2 l3 l4 l5 l6 l7 l8 l9 : Int}
theorem s_128 (hr : RI r) (h1 : Q 1 g r) (h0 : Q 0 g r) : Ce sc (d + 1) 128 [(2, 0)] g r Q := by
  refine c_128 ?_
  rw [r_0_4 hr]
  exact ⟨okd (by decide +kernel), okd (by decide +kernel), ite_c (fun _ => ⟨by decide, h0⟩) (fun _ => ⟨by decide, h1⟩)⟩
theorem s_131 (hr : RI r) (h : ∀ v, Q v g r) : Ce sc (d + 3) 131 [(2, 0)] g r Q := by
  have loop : ∀ l2 : Int, -2147483648 ≤ l2 → ∀ l1 : Int, WQ sc (d + 2) 131 Q 4 [(2, 0), (0, l1), (0, l2)] [] g r := by
    refine upW 6 (by decide) fun l2 _ ih l1 => b_131_4 (ite_c (fun hi => ⟨okd (by decide +kernel), s_129 hr (fun m hm _ _ _ _ _ _ _ _ _ _ => ?_) ?_⟩) (fun _ => h _))
    · rw [if_neg hm]; exact ih hi _
    · rw [if_pos rfl]; exact ih hi _
  exact c_131 (loop 0 (by decide) _)
theorem s_91 (hr : RI r) (h : ∀ v, v ≤ 3 → Q v g r) : Ce sc (d + 4) 91 [(2, 0)] g r Q := c_91 ⟨okd (by decide +kernel), s_131 hr fun v => w_250 (fun _ => h _ (by omega)) (fun _ => h _ (by omega))⟩
theorem s_135 {a n : Int} (ha : AR a 11 n) (hn : n < 2147483648) (h : ∀ v, Q v g r) : Ce sc (d + 1) 135 [(2, a)] g r Q := by
  have loop : ∀ l5 : Int, -2147483648 ≤ l5 → 0 ≤ l5 → ∀ l1 : Int, WQ sc d 135 Q 11 [(9, 0), (1, l1), (8, 0), (2, a), (0, n), (0, l5), (9, 0)] [] g r := by
    refine upW n hn fun l5 _ ih h0 l1 => b_135_11 (ite_c (fun hi => ⟨ha.i h0 hi, ih hi (by rw [wr_id ⟨by omega, by omega⟩]; omega) _⟩) (fun _ => h _))
  refine c_135 ⟨ha.a (by decide) (by decide), ?_⟩
  rw [ha.2.1]
  exact loop 0 (by decide) (by decide) _
theorem s_90 (hr : RI r) (h1 : Q 1 g r) (h0 : Q 0 g r) : Ce sc (d + 5) 90 [(2, 0), (0, l1), (0, l2)] g r Q := by
  have k0 : okr 218 0 8 := okd (by decide +kernel)
  refine c_90 ?_
  repeat' first
    | (with_reducible refine ite_01 ?_)
    | (with_reducible refine ite_00 ?_)
    | (with_reducible refine And.intro ?_ ?_; · first | assumption | decide | (exact AR.i (by assumption) (by omega) (by omega)) | (exact AR.a (by assumption) (by decide) (by decide)) | (exact AR.k (by assumption)) | omega | (have := cmp_gt.mp (by assumption : 0 < cmpL _ 0); omega))
    | (refine ite_c (fun _ => ?_) (fun _ => ?_))
    | (intro _ e1; subst e1)
    | (with_reducible refine s_91 hr (fun _ _ => ?_))
    | (with_reducible refine w_123 (fun _ _ => ?_) (fun _ => ?_))
    | (with_reducible refine s_128 hr ?_ ?_)
    | (exfalso; omega)
    | (exact absurd trivial (by assumption))
    | ((first | exact h1 | exact h0))
theorem s_92 (hr : RI r) (h1 : Q 1 g r) (h0 : Q 0 g r) : Ce sc (d + 5) 92 [(2, 0), (0, l1)] g r Q := by
  have k0 : okr 218 0 8 := okd (by decide +kernel)
  refine c_92 ?_
  repeat' first
    | (with_reducible refine ite_01 ?_)
    | (with_reducible refine ite_00 ?_)
    | (with_reducible refine And.intro ?_ ?_; · first | assumption | decide | (exact AR.i (by assumption) (by omega) (by omega)) | (exact AR.a (by assumption) (by decide) (by decide)) | (exact AR.k (by assumption)) | omega | (have := cmp_gt.mp (by assumption : 0 < cmpL _ 0); omega))
    | (refine ite_c (fun _ => ?_) (fun _ => ?_))
    | (intro _ e1; subst e1)
    | (with_reducible refine s_91 hr (fun _ _ => ?_))
    | (with_reducible refine s_93 (fun _ _ => ?_))
    | (with_reducible refine w_123 (fun _ _ => ?_) (fun _ => ?_))
    | (exfalso; omega)
    | (exact absurd trivial (by assumption))
    | ((first | exact h1 | exact h0))
theorem s_69 (hr : RI r) (h : ∀ v g', EQ g g' → Q v g' r) : Ce sc (d + 4) 69 [(2, 0), (0, l1), (0, l2)] g r Q := by
  have k0 : okr 218 0 8 := okd (by decide +kernel)
  have b23 := br_23 hr
  have k23 := b23.1
  have q23 := b23.2.1
  have ar26 : AR 26 11 6 := ar_of (by decide +kernel) (by decide +kernel) (by decide +kernel)
  have nr26 := ar26.2.2
  have ar27 : AR 27 11 6 := ar_of (by decide +kernel) (by decide +kernel) (by decide +kernel)
  have nr27 := ar27.2.2
  refine c_69 ?_
  repeat' first
    | (with_reducible refine ite_01 ?_)
    | (with_reducible refine ite_00 ?_)
    | (with_reducible refine And.intro ?_ ?_; · first | assumption | decide | (exact AR.i (by assumption) (by omega) (by omega)) | (exact AR.a (by assumption) (by decide) (by decide)) | (exact AR.k (by assumption)) | omega | (have := cmp_gt.mp (by assumption : 0 < cmpL _ 0); omega))
    | (simp only [r_0_4 hr, r_23_6 hr, r_23_7 hr])
    | (refine ite_c (fun _ => ?_) (fun _ => ?_))
    | (intro _ e1; subst e1)
    | (with_reducible refine s_12 (by assumption) (fun _ _ _ => ?_))
    | (with_reducible refine s_22 (by assumption) (fun _ => ?_))
    | (with_reducible refine s_129 hr (fun _ _ _ _ _ _ _ _ _ _ _ _ => ?_) ?_)
    | (exfalso; omega)
    | (exact absurd trivial (by assumption))
    | ((with_reducible refine h _ _ ?_) <;> (first | ((repeat (with_reducible first | assumption | exact EQ.rf _ | (refine EQ.up ?_ (by assumption)) | (refine EQ.cp ?_ (by assumption)) | (refine EQ.tr ?_ (by assumption)))); done) | omega | decide | (rw [wr_id ⟨by omega, by omega⟩]; omega)))
theorem s_71 (hr : RI r) (h : ∀ v g', EQ g g' → Q v g' r) : Ce sc (d + 4) 71 [(2, 0), (0, l1), (0, l2), (0, l3), (0, l4)] g r Q := by
  have k0 : okr 218 0 8 := okd (by decide +kernel)
  refine c_71 ?_
  repeat' first
    | (with_reducible refine ite_01 ?_)
    | (with_reducible refine ite_00 ?_)
    | (with_reducible refine And.intro ?_ ?_; · first | assumption | decide | (exact AR.i (by assumption) (by omega) (by omega)) | (exact AR.a (by assumption) (by decide) (by decide)) | (exact AR.k (by assumption)) | omega | (have := cmp_gt.mp (by assumption : 0 < cmpL _ 0); omega))
    | (refine ite_c (fun _ => ?_) (fun _ => ?_))
    | (intro _ e1; subst e1)
    | (with_reducible refine s_13 (by assumption) (fun _ _ _ => ?_))
    | (with_reducible refine s_14 (by assumption) (fun _ => ?_))
    | (with_reducible refine s_15 (by assumption) (fun _ _ _ => ?_))
    | (with_reducible refine s_16 (by assumption) (fun _ _ _ => ?_))
    | (with_reducible refine w_123 (fun _ _ => ?_) (fun _ => ?_))
    | (with_reducible refine w_124 (fun _ _ => ?_) (fun _ => ?_))
    | (with_reducible refine w_125 (fun _ _ => ?_) (fun _ => ?_))
    | (with_reducible refine s_130 hr (fun _ _ _ _ _ _ _ _ => ?_) ?_)
    | (exfalso; omega)
    | (exact absurd trivial (by assumption))
    | ((with_reducible refine h _ _ ?_) <;> (first | ((repeat (with_reducible first | assumption | exact EQ.rf _ | (refine EQ.up ?_ (by assumption)) | (refine EQ.cp ?_ (by assumption)) | (refine EQ.tr ?_ (by assumption)))); done) | omega | decide | (rw [wr_id ⟨by omega, by omega⟩]; omega)))
theorem s_72 (hr : RI r) (h : ∀ v g', EQ g g' → Q v g' r) : Ce sc (d + 4) 72 [(2, 0), (0, l1), (0, l2), (0, l3)] g r Q := by
  have k0 : okr 218 0 8 := okd (by decide +kernel)
  refine c_72 ?_
  repeat' first
    | (with_reducible refine ite_01 ?_)
    | (with_reducible refine ite_00 ?_)
    | (with_reducible refine And.intro ?_ ?_; · first | assumption | decide | (exact AR.i (by assumption) (by omega) (by omega)) | (exact AR.a (by assumption) (by decide) (by decide)) | (exact AR.k (by assumption)) | omega | (have := cmp_gt.mp (by assumption : 0 < cmpL _ 0); omega))
    | (refine ite_c (fun _ => ?_) (fun _ => ?_))
    | (intro _ e1; subst e1)
    | (with_reducible refine s_10 (by assumption) (fun _ _ _ => ?_))
    | (with_reducible refine s_11 (by assumption) (fun _ => ?_))
    | (with_reducible refine w_123 (fun _ _ => ?_) (fun _ => ?_))
    | (with_reducible refine w_125 (fun _ _ => ?_) (fun _ => ?_))
    | (with_reducible refine s_130 hr (fun _ _ _ _ _ _ _ _ => ?_) ?_)
    | (exfalso; omega)
    | (exact absurd trivial (by assumption))
    | ((with_reducible refine h _ _ ?_) <;> (first | ((repeat (with_reducible first | assumption | exact EQ.rf _ | (refine EQ.up ?_ (by assumption)) | (refine EQ.cp ?_ (by assumption)) | (refine EQ.tr ?_ (by assumption)))); done) | omega | decide | (rw [wr_id ⟨by omega, by omega⟩]; omega)))
theorem s_73 (hr : RI r) (h : ∀ v g', EQ g g' → Q v g' r) : Ce sc (d + 5) 73 [(2, 0), (0, l1), (0, l2), (0, l3), (0, l4)] g r Q := by
  have k0 : okr 218 0 8 := okd (by decide +kernel)
  refine c_73 ?_
  repeat' first
    | (with_reducible refine ite_01 ?_)
    | (with_reducible refine ite_00 ?_)
    | (with_reducible refine And.intro ?_ ?_; · first | assumption | decide | (exact AR.i (by assumption) (by omega) (by omega)) | (exact AR.a (by assumption) (by decide) (by decide)) | (exact AR.k (by assumption)) | omega | (have := cmp_gt.mp (by assumption : 0 < cmpL _ 0); omega))
    | (refine ite_c (fun _ => ?_) (fun _ => ?_))
    | (intro _ e1; subst e1)
    | (with_reducible refine s_58 (by assumption) ?_ ?_)
    | (with_reducible refine s_59 (by assumption) (fun _ _ _ => ?_))
    | (with_reducible refine w_124 (fun _ _ => ?_) (fun _ => ?_))
    | (with_reducible refine w_125 (fun _ _ => ?_) (fun _ => ?_))
    | (with_reducible refine s_129 hr (fun _ _ _ _ _ _ _ _ _ _ _ _ => ?_) ?_)
    | (exfalso; omega)
    | (exact absurd trivial (by assumption))
    | ((with_reducible refine h _ _ ?_) <;> (first | ((repeat (with_reducible first | assumption | exact EQ.rf _ | (refine EQ.up ?_ (by assumption)) | (refine EQ.cp ?_ (by assumption)) | (refine EQ.tr ?_ (by assumption)))); done) | omega | decide | (rw [wr_id ⟨by omega, by omega⟩]; omega)))
theorem s_74 (hr : RI r) (h : ∀ v g', EQ g g' → Q v g' r) : Ce sc (d + 6) 74 [(2, 0), (0, l1), (0, l2), (0, l3), (0, l4), (0, l5)] g r Q := by
  have k0 : okr 218 0 8 := okd (by decide +kernel)
  refine c_74 ?_
  repeat' first
    | (with_reducible refine ite_01 ?_)
    | (with_reducible refine ite_00 ?_)
    | (with_reducible refine And.intro ?_ ?_; · first | assumption | decide | (exact AR.i (by assumption) (by omega) (by omega)) | (exact AR.a (by assumption) (by decide) (by decide)) | (exact AR.k (by assumption)) | omega | (have := cmp_gt.mp (by assumption : 0 < cmpL _ 0); omega))
    | (refine ite_c (fun _ => ?_) (fun _ => ?_))
    | (intro _ e1; subst e1)
    | (with_reducible refine s_58 (by assumption) ?_ ?_)
    | (with_reducible refine s_62 (by assumption) (fun _ _ _ => ?_))
    | (with_reducible refine w_124 (fun _ _ => ?_) (fun _ => ?_))
    | (with_reducible refine w_125 (fun _ _ => ?_) (fun _ => ?_))
    | (with_reducible refine w_126 (fun _ _ => ?_) (fun _ => ?_))
    | (with_reducible refine s_129 hr (fun _ _ _ _ _ _ _ _ _ _ _ _ => ?_) ?_)
    | (exfalso; omega)
    | (exact absurd trivial (by assumption))
    | ((with_reducible refine h _ _ ?_) <;> (first | ((repeat (with_reducible first | assumption | exact EQ.rf _ | (refine EQ.up ?_ (by assumption)) | (refine EQ.cp ?_ (by assumption)) | (refine EQ.tr ?_ (by assumption)))); done) | omega | decide | (rw [wr_id ⟨by omega, by omega⟩]; omega)))
theorem s_75 (hr : RI r) (h : ∀ v g', EQ g g' → Q v g' r) : Ce sc (d + 7) 75 [(2, 0), (0, l1), (0, l2), (0, l3), (0, l4), (0, l5)] g r Q := by
  have k0 : okr 218 0 8 := okd (by decide +kernel)
  refine c_75 ?_
  repeat' first
    | (with_reducible refine ite_01 ?_)
    | (with_reducible refine ite_00 ?_)
    | (with_reducible refine And.intro ?_ ?_; · first | assumption | decide | (exact AR.i (by assumption) (by omega) (by omega)) | (exact AR.a (by assumption) (by decide) (by decide)) | (exact AR.k (by assumption)) | omega | (have := cmp_gt.mp (by assumption : 0 < cmpL _ 0); omega))
    | (refine ite_c (fun _ => ?_) (fun _ => ?_))
    | (intro _ e1; subst e1)
    | (with_reducible refine s_58 (by assumption) ?_ ?_)
    | (with_reducible refine s_62 (by assumption) (fun _ _ _ => ?_))
    | (with_reducible refine s_64 (by assumption) (fun _ _ _ => ?_))
    | (with_reducible refine w_123 (fun _ _ => ?_) (fun _ => ?_))
    | (with_reducible refine w_124 (fun _ _ => ?_) (fun _ => ?_))
    | (with_reducible refine w_126 (fun _ _ => ?_) (fun _ => ?_))
    | (with_reducible refine s_129 hr (fun _ _ _ _ _ _ _ _ _ _ _ _ => ?_) ?_)
    | (exfalso; omega)
    | (exact absurd trivial (by assumption))
    | ((with_reducible refine h _ _ ?_) <;> (first | ((repeat (with_reducible first | assumption | exact EQ.rf _ | (refine EQ.up ?_ (by assumption)) | (refine EQ.cp ?_ (by assumption)) | (refine EQ.tr ?_ (by assumption)))); done) | omega | decide | (rw [wr_id ⟨by omega, by omega⟩]; omega)))
theorem s_76 (hr : RI r) (h : ∀ v g', EQ g g' → Q v g' r) : Ce sc (d + 7) 76 [(2, 0), (0, l1), (0, l2), (0, l3)] g r Q := by
  have k0 : okr 218 0 8 := okd (by decide +kernel)
  refine c_76 ?_
  repeat' first
    | (with_reducible refine ite_01 ?_)
    | (with_reducible refine ite_00 ?_)
    | (with_reducible refine And.intro ?_ ?_; · first | assumption | decide | (exact AR.i (by assumption) (by omega) (by omega)) | (exact AR.a (by assumption) (by decide) (by decide)) | (exact AR.k (by assumption)) | omega | (have := cmp_gt.mp (by assumption : 0 < cmpL _ 0); omega) | (exact parts_ne (by assumption) (by assumption) (by assumption) (by assumption)))
    | (refine ite_c (fun _ => ?_) (fun _ => ?_))
    | (intro _ e1; subst e1)
    | (with_reducible refine s_63 (by assumption) (fun _ _ _ => ?_))
    | (with_reducible refine w_123 (fun _ _ => ?_) (fun _ => ?_))
    | (with_reducible refine s_129 hr (fun _ _ _ _ _ _ _ _ _ _ _ _ => ?_) ?_)
    | (exfalso; omega)
    | (exact absurd trivial (by assumption))
    | ((with_reducible refine h _ _ ?_) <;> (first | ((repeat (with_reducible first | assumption | exact EQ.rf _ | (refine EQ.up ?_ (by assumption)) | (refine EQ.cp ?_ (by assumption)) | (refine EQ.tr ?_ (by assumption)))); done) | omega | decide | (rw [wr_id ⟨by omega, by omega⟩]; omega)))
theorem s_79 (hr : RI r) (h : ∀ v g', EQ g g' → Q v g' r) : Ce sc (d + 7) 79 [(2, 0), (0, l1), (0, l2), (0, l3), (0, l4)] g r Q := by
  have k0 : okr 218 0 8 := okd (by decide +kernel)
  have h18 := wh_18 hr
  have k18 := h18.1
  refine c_79 ?_
  repeat' first
    | (with_reducible refine ite_01 ?_)
    | (with_reducible refine ite_00 ?_)
    | (with_reducible refine And.intro ?_ ?_; · first | assumption | decide | (exact AR.i (by assumption) (by omega) (by omega)) | (exact AR.a (by assumption) (by decide) (by decide)) | (exact AR.k (by assumption)) | omega | (have := cmp_gt.mp (by assumption : 0 < cmpL _ 0); omega))
    | (simp only [r_0_3 hr])
    | (refine ite_c (fun _ => ?_) (fun _ => ?_))
    | (intro _ e1; subst e1)
    | (with_reducible refine s_57 (by assumption) (by assumption) (fun _ _ _ => ?_))
    | (with_reducible refine s_59 (by assumption) (fun _ _ _ => ?_))
    | (with_reducible refine w_123 (fun _ _ => ?_) (fun _ => ?_))
    | (with_reducible refine w_124 (fun _ _ => ?_) (fun _ => ?_))
    | (with_reducible refine s_130 hr (fun _ _ _ _ _ _ _ _ => ?_) ?_)
    | (with_reducible refine w_250 (fun _ => ?_) (fun _ => ?_))
    | (exfalso; omega)
    | (exact absurd trivial (by assumption))
    | ((with_reducible refine h _ _ ?_) <;> (first | ((repeat (with_reducible first | assumption | exact EQ.rf _ | (refine EQ.up ?_ (by assumption)) | (refine EQ.cp ?_ (by assumption)) | (refine EQ.tr ?_ (by assumption)))); done) | omega | decide | (rw [wr_id ⟨by omega, by omega⟩]; omega)))
theorem s_107 (hr : RI r) (h : ∀ v g', EQ g g' → Q v g' r) : Ce sc (d + 4) 107 [(2, 0), (0, l1), (0, l2), (0, l3), (0, l4)] g r Q := by
  have k0 : okr 218 0 8 := okd (by decide +kernel)
  refine c_107 ?_
  repeat' first
    | (with_reducible refine ite_01 ?_)
    | (with_reducible refine ite_00 ?_)
    | (with_reducible refine And.intro ?_ ?_; · first | assumption | decide | (exact AR.i (by assumption) (by omega) (by omega)) | (exact AR.a (by assumption) (by decide) (by decide)) | (exact AR.k (by assumption)) | omega | (have := cmp_gt.mp (by assumption : 0 < cmpL _ 0); omega))
    | (refine ite_c (fun _ => ?_) (fun _ => ?_))
    | (intro _ e1; subst e1)
    | (with_reducible refine s_13 (by assumption) (fun _ _ _ => ?_))
    | (with_reducible refine s_14 (by assumption) (fun _ => ?_))
    | (with_reducible refine w_124 (fun _ _ => ?_) (fun _ => ?_))
    | (with_reducible refine w_125 (fun _ _ => ?_) (fun _ => ?_))
    | (with_reducible refine s_130 hr (fun _ _ _ _ _ _ _ _ => ?_) ?_)
    | (exfalso; omega)
    | (exact absurd trivial (by assumption))
    | ((with_reducible refine h _ _ ?_) <;> (first | ((repeat (with_reducible first | assumption | exact EQ.rf _ | (refine EQ.up ?_ (by assumption)) | (refine EQ.cp ?_ (by assumption)) | (refine EQ.tr ?_ (by assumption)))); done) | omega | decide | (rw [wr_id ⟨by omega, by omega⟩]; omega)))
theorem s_109 (hr : RI r) (h : ∀ v g', EQ g g' → Q v g' r) : Ce sc (d + 7) 109 [(2, 0), (0, l1), (0, l2), (0, l3), (0, l4)] g r Q := by
  have k0 : okr 218 0 8 := okd (by decide +kernel)
  refine c_109 ?_
  repeat' first
    | (with_reducible refine ite_01 ?_)
    | (with_reducible refine ite_00 ?_)
    | (with_reducible refine And.intro ?_ ?_; · first | assumption | decide | (exact AR.i (by assumption) (by omega) (by omega)) | (exact AR.a (by assumption) (by decide) (by decide)) | (exact AR.k (by assumption)) | omega | (have := cmp_gt.mp (by assumption : 0 < cmpL _ 0); omega))
    | (refine ite_c (fun _ => ?_) (fun _ => ?_))
    | (intro _ e1; subst e1)
    | (with_reducible refine s_62 (by assumption) (fun _ _ _ => ?_))
    | (with_reducible refine s_64 (by assumption) (fun _ _ _ => ?_))
    | (with_reducible refine w_123 (fun _ _ => ?_) (fun _ => ?_))
    | (with_reducible refine w_124 (fun _ _ => ?_) (fun _ => ?_))
    | (with_reducible refine s_129 hr (fun _ _ _ _ _ _ _ _ _ _ _ _ => ?_) ?_)
    | (with_reducible refine s_130 hr (fun _ _ _ _ _ _ _ _ => ?_) ?_)
    | (with_reducible refine w_250 (fun _ => ?_) (fun _ => ?_))
    | (with_reducible refine w_251 (fun _ => ?_) (fun _ => ?_))
    | (exfalso; omega)
    | (exact absurd trivial (by assumption))
    | ((with_reducible refine h _ _ ?_) <;> (first | ((repeat (with_reducible first | assumption | exact EQ.rf _ | (refine EQ.up ?_ (by assumption)) | (refine EQ.cp ?_ (by assumption)) | (refine EQ.tr ?_ (by assumption)))); done) | omega | decide | (rw [wr_id ⟨by omega, by omega⟩]; omega)))
theorem s_68 (hr : RI r) (h : ∀ v g', EQ g g' → Q v g' r) : Ce sc (d + 1) 68 [(2, 0)] g r Q := by
  have k0 : okr 218 0 8 := okd (by decide +kernel)
  have k1 : okr 218 1 5 := okd (by decide +kernel)
  refine c_68 ?_
  repeat' first
    | (with_reducible refine ite_01 ?_)
    | (with_reducible refine ite_00 ?_)
    | (with_reducible refine And.intro ?_ ?_; · first | assumption | decide | (exact AR.i (by assumption) (by omega) (by omega)) | (exact AR.a (by assumption) (by decide) (by decide)) | (exact AR.k (by assumption)) | omega | (have := cmp_gt.mp (by assumption : 0 < cmpL _ 0); omega))
    | (simp only [r_0_0 hr])
    | (refine ite_c (fun _ => ?_) (fun _ => ?_))
    | (intro _ e1; subst e1)
    | (exfalso; omega)
    | (exact absurd trivial (by assumption))
    | ((with_reducible refine h _ _ ?_) <;> (first | ((repeat (with_reducible first | assumption | exact EQ.rf _ | (refine EQ.up ?_ (by assumption)) | (refine EQ.cp ?_ (by assumption)) | (refine EQ.tr ?_ (by assumption)))); done) | omega | decide | (rw [wr_id ⟨by omega, by omega⟩]; omega)))
theorem s_81 (hr : RI r) (h : ∀ v g', EQ g g' → Q v g' r) : Ce sc (d + 3) 81 [(2, 0), (0, l1)] g r Q := by
  have k0 : okr 218 0 8 := okd (by decide +kernel)
  have b23 := br_23 hr
  have k23 := b23.1
  have q23 := b23.2.1
  have ar24 : AR 24 11 40 := ar_of (by decide +kernel) (by decide +kernel) (by decide +kernel)
  have nr24 := ar24.2.2
  refine c_81 ?_
  repeat' first
    | (with_reducible refine ite_01 ?_)
    | (with_reducible refine ite_00 ?_)
    | (with_reducible refine And.intro ?_ ?_; · first | assumption | decide | (exact AR.i (by assumption) (by omega) (by omega)) | (exact AR.a (by assumption) (by decide) (by decide)) | (exact AR.k (by assumption)) | omega | (have := cmp_gt.mp (by assumption : 0 < cmpL _ 0); omega))
    | (simp only [r_0_4 hr, r_23_4 hr])
    | (refine ite_c (fun _ => ?_) (fun _ => ?_))
    | (intro _ e1; subst e1)
    | (with_reducible refine w_127 (fun _ _ => ?_) (fun _ => ?_))
    | (exfalso; omega)
    | (exact absurd trivial (by assumption))
    | ((with_reducible refine h _ _ ?_) <;> (first | ((repeat (with_reducible first | assumption | exact EQ.rf _ | (refine EQ.up ?_ (by assumption)) | (refine EQ.cp ?_ (by assumption)) | (refine EQ.tr ?_ (by assumption)))); done) | omega | decide | (rw [wr_id ⟨by omega, by omega⟩]; omega)))
theorem s_83 (hr : RI r) (h : ∀ v g', EQ g g' → Q v g' r) : Ce sc (d + 3) 83 [(2, 0), (0, l1)] g r Q := by
  have k0 : okr 218 0 8 := okd (by decide +kernel)
  have b23 := br_23 hr
  have k23 := b23.1
  have q23 := b23.2.1
  have ar24 : AR 24 11 40 := ar_of (by decide +kernel) (by decide +kernel) (by decide +kernel)
  have nr24 := ar24.2.2
  refine c_83 ?_
  repeat' first
    | (with_reducible refine ite_01 ?_)
    | (with_reducible refine ite_00 ?_)
    | (with_reducible refine And.intro ?_ ?_; · first | assumption | decide | (exact AR.i (by assumption) (by omega) (by omega)) | (exact AR.a (by assumption) (by decide) (by decide)) | (exact AR.k (by assumption)) | omega | (have := cmp_gt.mp (by assumption : 0 < cmpL _ 0); omega))
    | (simp only [r_0_4 hr, r_23_4 hr])
    | (refine ite_c (fun _ => ?_) (fun _ => ?_))
    | (intro _ e1; subst e1)
    | (with_reducible refine s_3 (by assumption) (by assumption) (fun _ _ _ => ?_))
    | (with_reducible refine w_127 (fun _ _ => ?_) (fun _ => ?_))
    | (with_reducible refine s_133 hr (by decide) (by decide) (fun _ _ _ => ?_))
    | (with_reducible refine w_250 (fun _ => ?_) (fun _ => ?_))
    | (exfalso; omega)
    | (exact absurd trivial (by assumption))
    | ((with_reducible refine h _ _ ?_) <;> (first | ((repeat (with_reducible first | assumption | exact EQ.rf _ | (refine EQ.up ?_ (by assumption)) | (refine EQ.cp ?_ (by assumption)) | (refine EQ.tr ?_ (by assumption)))); done) | omega | decide | (rw [wr_id ⟨by omega, by omega⟩]; omega)))
theorem s_85 (hr : RI r) (h : ∀ v g', EQ g g' → Q v g' r) : Ce sc (d + 3) 85 [(2, 0), (0, l1), (0, l2)] g r Q := by
  have k0 : okr 218 0 8 := okd (by decide +kernel)
  have b23 := br_23 hr
  have k23 := b23.1
  have q23 := b23.2.1
  have ar28 : AR 28 12 6 := ar_of (by decide +kernel) (by decide +kernel) (by decide +kernel)
  have nr28 := ar28.2.2
  have ar29 : AR 29 11 6 := ar_of (by decide +kernel) (by decide +kernel) (by decide +kernel)
  have nr29 := ar29.2.2
  have ar30 : AR 30 11 6 := ar_of (by decide +kernel) (by decide +kernel) (by decide +kernel)
  have nr30 := ar30.2.2
  refine c_85 ?_
  repeat' first
    | (with_reducible refine ite_01 ?_)
    | (with_reducible refine ite_00 ?_)
    | (with_reducible refine And.intro ?_ ?_; · first | assumption | decide | (exact AR.i (by assumption) (by omega) (by omega)) | (exact AR.a (by assumption) (by decide) (by decide)) | (exact AR.k (by assumption)) | omega | (have := cmp_gt.mp (by assumption : 0 < cmpL _ 0); omega))
    | (simp only [r_0_4 hr, r_23_8 hr, r_23_9 hr, r_23_10 hr])
    | (refine ite_c (fun _ => ?_) (fun _ => ?_))
    | (intro _ e1; subst e1)
    | (with_reducible refine s_129 hr (fun _ _ _ _ _ _ _ _ _ _ _ _ => ?_) ?_)
    | (exfalso; omega)
    | (exact absurd trivial (by assumption))
    | ((with_reducible refine h _ _ ?_) <;> (first | ((repeat (with_reducible first | assumption | exact EQ.rf _ | (refine EQ.up ?_ (by assumption)) | (refine EQ.cp ?_ (by assumption)) | (refine EQ.tr ?_ (by assumption)))); done) | omega | decide | (rw [wr_id ⟨by omega, by omega⟩]; omega)))
theorem s_86 (hr : RI r) (h : ∀ v g', EQ g g' → Q v g' r) : Ce sc (d + 2) 86 [(2, 0), (0, l1)] g r Q := by
  have k0 : okr 218 0 8 := okd (by decide +kernel)
  have b23 := br_23 hr
  have k23 := b23.1
  have q23 := b23.2.1
  have ar26 : AR 26 11 6 := ar_of (by decide +kernel) (by decide +kernel) (by decide +kernel)
  have nr26 := ar26.2.2
  have ar27 : AR 27 11 6 := ar_of (by decide +kernel) (by decide +kernel) (by decide +kernel)
  have nr27 := ar27.2.2
  refine c_86 ?_
  repeat' first
    | (with_reducible refine ite_01 ?_)
    | (with_reducible refine ite_00 ?_)
    | (with_reducible refine And.intro ?_ ?_; · first | assumption | decide | (exact AR.i (by assumption) (by omega) (by omega)) | (exact AR.a (by assumption) (by decide) (by decide)) | (exact AR.k (by assumption)) | omega | (have := cmp_gt.mp (by assumption : 0 < cmpL _ 0); omega))
    | (simp only [r_0_4 hr, r_23_6 hr, r_23_7 hr])
    | (refine ite_c (fun _ => ?_) (fun _ => ?_))
    | (intro _ e1; subst e1)
    | (with_reducible refine s_135 (by assumption) (by decide) (fun _ => ?_))
    | (exfalso; omega)
    | (exact absurd trivial (by assumption))
    | ((with_reducible refine h _ _ ?_) <;> (first | ((repeat (with_reducible first | assumption | exact EQ.rf _ | (refine EQ.up ?_ (by assumption)) | (refine EQ.cp ?_ (by assumption)) | (refine EQ.tr ?_ (by assumption)))); done) | omega | decide | (rw [wr_id ⟨by omega, by omega⟩]; omega)))
theorem s_84 (hr : RI r) (h : ∀ v g', EQ g g' → Q v g' r) : Ce sc (d + 4) 84 [(2, 0), (0, l1)] g r Q := by
  have k0 : okr 218 0 8 := okd (by decide +kernel)
  have b23 := br_23 hr
  have k23 := b23.1
  have q23 := b23.2.1
  refine c_84 ?_
  repeat' first
    | (with_reducible refine ite_01 ?_)
    | (with_reducible refine ite_00 ?_)
    | (with_reducible refine And.intro ?_ ?_; · first | assumption | decide | (exact AR.i (by assumption) (by omega) (by omega)) | (exact AR.a (by assumption) (by decide) (by decide)) | (exact AR.k (by assumption)) | omega | (have := cmp_gt.mp (by assumption : 0 < cmpL _ 0); omega))
    | (simp only [r_0_4 hr])
    | (refine ite_c (fun _ => ?_) (fun _ => ?_))
    | (intro _ e1; subst e1)
    | (with_reducible refine w_123 (fun _ _ => ?_) (fun _ => ?_))
    | (with_reducible refine s_134 hr (by decide) (by decide) (fun _ _ => ?_))
    | (exfalso; omega)
    | (exact absurd trivial (by assumption))
    | ((with_reducible refine h _ _ ?_) <;> (first | ((repeat (with_reducible first | assumption | exact EQ.rf _ | (refine EQ.up ?_ (by assumption)) | (refine EQ.cp ?_ (by assumption)) | (refine EQ.tr ?_ (by assumption)))); done) | omega | decide | (rw [wr_id ⟨by omega, by omega⟩]; omega)))
theorem s_80 (hr : RI r) (h : ∀ v g', EQ g g' → Q v g' r) : Ce sc (d + 4) 80 [(2, 0), (0, l1), (0, l2), (0, l3)] g r Q := by
  have k0 : okr 218 0 8 := okd (by decide +kernel)
  have b23 := br_23 hr
  have k23 := b23.1
  have q23 := b23.2.1
  have ar24 : AR 24 11 40 := ar_of (by decide +kernel) (by decide +kernel) (by decide +kernel)
  have nr24 := ar24.2.2
  have ar25 : AR 25 11 40 := ar_of (by decide +kernel) (by decide +kernel) (by decide +kernel)
  have nr25 := ar25.2.2
  refine c_80 ?_
  repeat' first
    | (with_reducible refine ite_01 ?_)
    | (with_reducible refine ite_00 ?_)
    | (with_reducible refine And.intro ?_ ?_; · first | assumption | decide | (exact AR.i (by assumption) (by omega) (by omega)) | (exact AR.a (by assumption) (by decide) (by decide)) | (exact AR.k (by assumption)) | omega | (have := cmp_gt.mp (by assumption : 0 < cmpL _ 0); omega))
    | (simp only [r_0_4 hr, r_23_4 hr, r_23_5 hr])
    | (refine ite_c (fun _ => ?_) (fun _ => ?_))
    | (intro _ e1; subst e1)
    | (with_reducible refine w_124 (fun _ _ => ?_) (fun _ => ?_))
    | (with_reducible refine w_127 (fun _ _ => ?_) (fun _ => ?_))
    | (with_reducible refine s_134 hr (by decide) (by decide) (fun _ _ => ?_))
    | (exfalso; omega)
    | (exact absurd trivial (by assumption))
    | ((with_reducible refine h _ _ ?_) <;> (first | ((repeat (with_reducible first | assumption | exact EQ.rf _ | (refine EQ.up ?_ (by assumption)) | (refine EQ.cp ?_ (by assumption)) | (refine EQ.tr ?_ (by assumption)))); done) | omega | decide | (rw [wr_id ⟨by omega, by omega⟩]; omega)))
theorem s_82 (hr : RI r) (h : ∀ v g', EQ g g' → Q v g' r) : Ce sc (d + 8) 82 [(2, 0), (0, l1)] g r Q := by
  have k0 : okr 218 0 8 := okd (by decide +kernel)
  have hM := mr_of hr
  have b23 := br_23 hr
  have k23 := b23.1
  have q23 := b23.2.1
  have p46 := pl_46 hr
  have hl : l1 ≤ 96 ∨ ¬ l1 ≤ 96 := by omega
  have loop : l1 ≤ 96 → ∀ l2 : Int, -2147483648 ≤ l2 → 0 ≤ l2 → ∀ g1, EQ g g1 → WQ sc (d + 7) 82 Q 46 [(2, 0), (0, l1), (0, l2)] [] g1 r := by
    intro hl
    refine upS 1 l1 (by decide) (by omega) fun l2 _ ih h0 g1 e0 => ?_
    refine b_82_46 ?_
    repeat' first
      | (with_reducible refine ite_01 ?_)
      | (with_reducible refine ite_00 ?_)
      | (with_reducible refine And.intro ?_ ?_; · first | assumption | decide | (exact AR.i (by assumption) (by omega) (by omega)) | (exact AR.a (by assumption) (by decide) (by decide)) | (exact AR.k (by assumption)) | omega | (have := cmp_gt.mp (by assumption : 0 < cmpL _ 0); omega))
      | (simp only [r_0_1 hr, r_0_4 hr, r_0_8 hr])
      | (refine ite_c (fun _ => ?_) (fun _ => ?_))
      | (intro _ e1; subst e1)
      | (with_reducible refine s_5 (by assumption) (by assumption) (by assumption) (fun _ _ _ => ?_))
      | (with_reducible refine w_123 (fun _ _ => ?_) (fun _ => ?_))
      | (with_reducible refine s_131 hr (fun _ => ?_))
      | (with_reducible refine s_133 hr (by decide) (by decide) (fun _ _ _ => ?_))
      | (exfalso; omega)
      | (exact absurd trivial (by assumption))
      | ((with_reducible refine ih ?_ ?_ _ ?_) <;> (first | ((repeat (with_reducible first | assumption | exact EQ.rf _ | (refine EQ.up ?_ (by assumption)) | (refine EQ.cp ?_ (by assumption)) | (refine EQ.tr ?_ (by assumption)))); done) | omega | decide | (rw [wr_id ⟨by omega, by omega⟩]; omega)))
      | ((with_reducible refine h _ _ ?_) <;> (first | ((repeat (with_reducible first | assumption | exact EQ.rf _ | (refine EQ.up ?_ (by assumption)) | (refine EQ.cp ?_ (by assumption)) | (refine EQ.tr ?_ (by assumption)))); done) | omega | decide | (rw [wr_id ⟨by omega, by omega⟩]; omega)))
  refine c_82 ?_
  repeat' first
    | (with_reducible refine ite_01 ?_)
    | (with_reducible refine ite_00 ?_)
    | (with_reducible refine And.intro ?_ ?_; · first | assumption | decide | (exact AR.i (by assumption) (by omega) (by omega)) | (exact AR.a (by assumption) (by decide) (by decide)) | (exact AR.k (by assumption)) | omega | (have := cmp_gt.mp (by assumption : 0 < cmpL _ 0); omega))
    | (simp only [r_0_1 hr, r_0_4 hr, r_0_8 hr])
    | (refine ite_c (fun _ => ?_) (fun _ => ?_))
    | (intro _ e1; subst e1)
    | (with_reducible refine s_5 (by assumption) (by assumption) (by assumption) (fun _ _ _ => ?_))
    | (with_reducible refine w_123 (fun _ _ => ?_) (fun _ => ?_))
    | (with_reducible refine s_131 hr (fun _ => ?_))
    | (with_reducible refine s_133 hr (by decide) (by decide) (fun _ _ _ => ?_))
    | (exfalso; omega)
    | (exact absurd trivial (by assumption))
    | ((with_reducible refine loop ?_ _ ?_ ?_ _ ?_) <;> (first | ((repeat (with_reducible first | assumption | exact EQ.rf _ | (refine EQ.up ?_ (by assumption)) | (refine EQ.cp ?_ (by assumption)) | (refine EQ.tr ?_ (by assumption)))); done) | omega | decide | (rw [wr_id ⟨by omega, by omega⟩]; omega)))
    | ((with_reducible refine h _ _ ?_) <;> (first | ((repeat (with_reducible first | assumption | exact EQ.rf _ | (refine EQ.up ?_ (by assumption)) | (refine EQ.cp ?_ (by assumption)) | (refine EQ.tr ?_ (by assumption)))); done) | omega | decide | (rw [wr_id ⟨by omega, by omega⟩]; omega)))
theorem s_95 (hr : RI r) (h : ∀ v g', EQ g g' → Q v g' r) : Ce sc (d + 8) 95 [(2, 0), (0, l1), (0, l2), (0, l3)] g r Q := by
  have k0 : okr 218 0 8 := okd (by decide +kernel)
  have hM := mr_of hr
  have b23 := br_23 hr
  have k23 := b23.1
  have q23 := b23.2.1
  have ar28 : AR 28 12 6 := ar_of (by decide +kernel) (by decide +kernel) (by decide +kernel)
  have nr28 := ar28.2.2
  have b34 := br_34 hr
  have k34 := b34.1
  have q34 := b34.2.1
  have ar39 : AR 39 12 6 := ar_of (by decide +kernel) (by decide +kernel) (by decide +kernel)
  have nr39 := ar39.2.2
  have p48 := pl_48 hr
  have k48 := p48.1
  have ar49 : AR 49 11 6 := ar_of (by decide +kernel) (by decide +kernel) (by decide +kernel)
  have nr49 := ar49.2.2
  have ar50 : AR 50 12 192 := ar_of (by decide +kernel) (by decide +kernel) (by decide +kernel)
  have mr50 := ar50.2.1
  have nr50 := ar50.2.2
  have loopc : ∀ l5 : Int, -2147483648 ≤ l5 → 0 ≤ l5 → ∀ (l4 : Int) g1, EQ g g1 → WQ sc (d + 7) 95 Q 113 [(2, 0), (9, 0), (9, 0), (0, l3), (0, l4), (0, l5), (9, 0)] [] g1 r := by
    refine upS 1 6 (by decide) (by first | decide | omega) fun l5 _ ih h0 l4 g1 e0 => ?_
    refine b_95_113 ?_
    repeat' first
      | (with_reducible refine ite_01 ?_)
      | (with_reducible refine ite_00 ?_)
      | (with_reducible refine And.intro ?_ ?_; · first | assumption | decide | (exact AR.i (by assumption) (by omega) (by omega)) | (exact AR.a (by assumption) (by decide) (by decide)) | (exact AR.k (by assumption)) | omega | (have := cmp_gt.mp (by assumption : 0 < cmpL _ 0); omega))
      | (simp only [r_0_1 hr, r_0_4 hr, r_0_5 hr, r_0_9 hr, r_0_10 hr, r_23_8 hr, r_34_8 hr, r_48_0 hr, n_50, wr191])
      | (refine ite_c (fun _ => ?_) (fun _ => ?_))
      | (intro _ e1; subst e1)
      | (with_reducible refine s_1 (by assumption) (by assumption) (fun _ _ _ => ?_))
      | (with_reducible refine s_5 (by assumption) (by assumption) (by assumption) (fun _ _ _ => ?_))
      | (with_reducible refine s_28 (by assumption) (fun _ _ _ => ?_))
      | (with_reducible refine s_94 (fun _ => ?_))
      | (with_reducible refine w_123 (fun _ _ => ?_) (fun _ => ?_))
      | (with_reducible refine s_129 hr (fun _ _ _ _ _ _ _ _ _ _ _ _ => ?_) ?_)
      | (exfalso; omega)
      | (exact absurd trivial (by assumption))
      | ((with_reducible refine ih ?_ ?_ _ _ ?_) <;> (first | ((repeat (with_reducible first | assumption | exact EQ.rf _ | (refine EQ.up ?_ (by assumption)) | (refine EQ.cp ?_ (by assumption)) | (refine EQ.tr ?_ (by assumption)))); done) | omega | decide | (rw [wr_id ⟨by omega, by omega⟩]; omega)))
      | ((with_reducible refine h _ _ ?_) <;> (first | ((repeat (with_reducible first | assumption | exact EQ.rf _ | (refine EQ.up ?_ (by assumption)) | (refine EQ.cp ?_ (by assumption)) | (refine EQ.tr ?_ (by assumption)))); done) | omega | decide | (rw [wr_id ⟨by omega, by omega⟩]; omega)))
  have loopb : ∀ l5 : Int, -2147483648 ≤ l5 → 0 ≤ l5 → ∀ g1, EQ g g1 → WQ sc (d + 7) 95 Q 79 [(2, 0), (9, 0), (9, 0), (0, l3), (9, 0), (0, l5), (9, 0)] [] g1 r := by
    refine upS 1 24 (by decide) (by first | decide | omega) fun l5 _ ih h0 g1 e0 => ?_
    refine b_95_79 ?_
    repeat' first
      | (with_reducible refine ite_01 ?_)
      | (with_reducible refine ite_00 ?_)
      | (with_reducible refine And.intro ?_ ?_; · first | assumption | decide | (exact AR.i (by assumption) (by omega) (by omega)) | (exact AR.a (by assumption) (by decide) (by decide)) | (exact AR.k (by assumption)) | omega | (have := cmp_gt.mp (by assumption : 0 < cmpL _ 0); omega))
      | (simp only [r_0_1 hr, r_0_4 hr, r_0_5 hr, r_0_9 hr, r_0_10 hr, r_23_8 hr, r_34_8 hr, r_48_0 hr, n_50, wr191])
      | (refine ite_c (fun _ => ?_) (fun _ => ?_))
      | (intro _ e1; subst e1)
      | (with_reducible refine s_1 (by assumption) (by assumption) (fun _ _ _ => ?_))
      | (with_reducible refine s_5 (by assumption) (by assumption) (by assumption) (fun _ _ _ => ?_))
      | (with_reducible refine s_28 (by assumption) (fun _ _ _ => ?_))
      | (with_reducible refine s_94 (fun _ => ?_))
      | (with_reducible refine w_123 (fun _ _ => ?_) (fun _ => ?_))
      | (with_reducible refine s_129 hr (fun _ _ _ _ _ _ _ _ _ _ _ _ => ?_) ?_)
      | (exfalso; omega)
      | (exact absurd trivial (by assumption))
      | ((with_reducible refine ih ?_ ?_ _ ?_) <;> (first | ((repeat (with_reducible first | assumption | exact EQ.rf _ | (refine EQ.up ?_ (by assumption)) | (refine EQ.cp ?_ (by assumption)) | (refine EQ.tr ?_ (by assumption)))); done) | omega | decide | (rw [wr_id ⟨by omega, by omega⟩]; omega)))
      | ((with_reducible refine loopc _ ?_ ?_ _ _ ?_) <;> (first | ((repeat (with_reducible first | assumption | exact EQ.rf _ | (refine EQ.up ?_ (by assumption)) | (refine EQ.cp ?_ (by assumption)) | (refine EQ.tr ?_ (by assumption)))); done) | omega | decide | (rw [wr_id ⟨by omega, by omega⟩]; omega)))
      | ((with_reducible refine h _ _ ?_) <;> (first | ((repeat (with_reducible first | assumption | exact EQ.rf _ | (refine EQ.up ?_ (by assumption)) | (refine EQ.cp ?_ (by assumption)) | (refine EQ.tr ?_ (by assumption)))); done) | omega | decide | (rw [wr_id ⟨by omega, by omega⟩]; omega)))
  have loopa : ∀ l5 : Int, -2147483648 ≤ l5 → 0 ≤ l5 → ∀ (l4 : Int) g1, EQ g g1 → WQ sc (d + 7) 95 Q 15 [(2, 0), (9, 0), (9, 0), (0, l3), (0, l4), (0, l5), (9, 0)] [] g1 r := by
    refine upS 1 6 (by decide) (by first | decide | omega) fun l5 _ ih h0 l4 g1 e0 => ?_
    refine b_95_15 ?_
    repeat' first
      | (with_reducible refine ite_01 ?_)
      | (with_reducible refine ite_00 ?_)
      | (with_reducible refine And.intro ?_ ?_; · first | assumption | decide | (exact AR.i (by assumption) (by omega) (by omega)) | (exact AR.a (by assumption) (by decide) (by decide)) | (exact AR.k (by assumption)) | omega | (have := cmp_gt.mp (by assumption : 0 < cmpL _ 0); omega))
      | (simp only [r_0_1 hr, r_0_4 hr, r_0_5 hr, r_0_9 hr, r_0_10 hr, r_23_8 hr, r_34_8 hr, r_48_0 hr, n_50, wr191])
      | (refine ite_c (fun _ => ?_) (fun _ => ?_))
      | (intro _ e1; subst e1)
      | (with_reducible refine s_1 (by assumption) (by assumption) (fun _ _ _ => ?_))
      | (with_reducible refine s_5 (by assumption) (by assumption) (by assumption) (fun _ _ _ => ?_))
      | (with_reducible refine s_28 (by assumption) (fun _ _ _ => ?_))
      | (with_reducible refine s_94 (fun _ => ?_))
      | (with_reducible refine w_123 (fun _ _ => ?_) (fun _ => ?_))
      | (with_reducible refine s_129 hr (fun _ _ _ _ _ _ _ _ _ _ _ _ => ?_) ?_)
      | (exfalso; omega)
      | (exact absurd trivial (by assumption))
      | ((with_reducible refine ih ?_ ?_ _ _ ?_) <;> (first | ((repeat (with_reducible first | assumption | exact EQ.rf _ | (refine EQ.up ?_ (by assumption)) | (refine EQ.cp ?_ (by assumption)) | (refine EQ.tr ?_ (by assumption)))); done) | omega | decide | (rw [wr_id ⟨by omega, by omega⟩]; omega)))
      | ((with_reducible refine loopb _ ?_ ?_ _ ?_) <;> (first | ((repeat (with_reducible first | assumption | exact EQ.rf _ | (refine EQ.up ?_ (by assumption)) | (refine EQ.cp ?_ (by assumption)) | (refine EQ.tr ?_ (by assumption)))); done) | omega | decide | (rw [wr_id ⟨by omega, by omega⟩]; omega)))
      | ((with_reducible refine h _ _ ?_) <;> (first | ((repeat (with_reducible first | assumption | exact EQ.rf _ | (refine EQ.up ?_ (by assumption)) | (refine EQ.cp ?_ (by assumption)) | (refine EQ.tr ?_ (by assumption)))); done) | omega | decide | (rw [wr_id ⟨by omega, by omega⟩]; omega)))
  refine c_95 ?_
  repeat' first
    | (with_reducible refine ite_01 ?_)
    | (with_reducible refine ite_00 ?_)
    | (with_reducible refine And.intro ?_ ?_; · first | assumption | decide | (exact AR.i (by assumption) (by omega) (by omega)) | (exact AR.a (by assumption) (by decide) (by decide)) | (exact AR.k (by assumption)) | omega | (have := cmp_gt.mp (by assumption : 0 < cmpL _ 0); omega))
    | (simp only [r_0_1 hr, r_0_4 hr, r_0_5 hr, r_0_9 hr, r_0_10 hr, r_23_8 hr, r_34_8 hr, r_48_0 hr, n_50, wr191])
    | (refine ite_c (fun _ => ?_) (fun _ => ?_))
    | (intro _ e1; subst e1)
    | (with_reducible refine s_1 (by assumption) (by assumption) (fun _ _ _ => ?_))
    | (with_reducible refine s_5 (by assumption) (by assumption) (by assumption) (fun _ _ _ => ?_))
    | (with_reducible refine s_28 (by assumption) (fun _ _ _ => ?_))
    | (with_reducible refine s_94 (fun _ => ?_))
    | (with_reducible refine w_123 (fun _ _ => ?_) (fun _ => ?_))
    | (with_reducible refine s_129 hr (fun _ _ _ _ _ _ _ _ _ _ _ _ => ?_) ?_)
    | (exfalso; omega)
    | (exact absurd trivial (by assumption))
    | ((with_reducible refine loopa _ ?_ ?_ _ _ ?_) <;> (first | ((repeat (with_reducible first | assumption | exact EQ.rf _ | (refine EQ.up ?_ (by assumption)) | (refine EQ.cp ?_ (by assumption)) | (refine EQ.tr ?_ (by assumption)))); done) | omega | decide | (rw [wr_id ⟨by omega, by omega⟩]; omega)))
    | ((with_reducible refine h _ _ ?_) <;> (first | ((repeat (with_reducible first | assumption | exact EQ.rf _ | (refine EQ.up ?_ (by assumption)) | (refine EQ.cp ?_ (by assumption)) | (refine EQ.tr ?_ (by assumption)))); done) | omega | decide | (rw [wr_id ⟨by omega, by omega⟩]; omega)))
theorem s_96 (hr : RI r) (h : ∀ v, Q v g r) : Ce sc (d + 2) 96 [(2, 0), (0, l1), (0, l2)] g r Q := by
  have k0 : okr 218 0 8 := okd (by decide +kernel)
  have ar50 : AR 50 12 192 := ar_of (by decide +kernel) (by decide +kernel) (by decide +kernel)
  have mr50 := ar50.2.1
  have nr50 := ar50.2.2
  refine c_96 ?_
  repeat' first
    | (with_reducible refine ite_01 ?_)
    | (with_reducible refine ite_00 ?_)
    | (with_reducible refine And.intro ?_ ?_; · first | assumption | decide | (exact AR.i (by assumption) (by omega) (by omega)) | (exact AR.a (by assumption) (by decide) (by decide)) | (exact AR.k (by assumption)) | omega | (have := cmp_gt.mp (by assumption : 0 < cmpL _ 0); omega))
    | (simp only [r_0_10 hr, n_50, wr191])
    | (refine ite_c (fun _ => ?_) (fun _ => ?_))
    | (intro _ e1; subst e1)
    | (with_reducible refine w_123 (fun _ _ => ?_) (fun _ => ?_))
    | (exfalso; omega)
    | (exact absurd trivial (by assumption))
    | ((with_reducible refine h _))
theorem s_97 (hr : RI r) (h1 : Q 1 g r) (h0 : Q 0 g r) : Ce sc (d + 5) 97 [(2, 0), (0, l1)] g r Q := by
  have k0 : okr 218 0 8 := okd (by decide +kernel)
  have outer : ∀ l2 : Int, l2 ≤ 3 → ∀ l3 : Int, -2147483648 ≤ l3 → WQ sc (d + 4) 97 Q 7 [(2, 0), (0, l1), (0, l2), (0, l3), (9, 0), (9, 0), (9, 0)] [] g r := by
    intro l2 hl
    refine upW l2 (by omega) fun l3 _ ih => ?_
    have inner : l3 < l2 → ∀ l6 : Int, -2147483648 ≤ l6 → ∀ (l4 l5 : Int), WQ sc (d + 4) 97 Q 33 [(2, 0), (0, l1), (0, l2), (0, l3), (0, l4), (0, l5), (0, l6)] [] g r := by
      intro hlt
      refine upW 4 (by decide) fun l6 _ ih2 l4 l5 => ?_
      refine b_97_33 ?_
      repeat' first
        | (with_reducible refine ite_01 ?_)
        | (with_reducible refine ite_00 ?_)
        | (with_reducible refine And.intro ?_ ?_; · first | assumption | decide | (exact AR.i (by assumption) (by omega) (by omega)) | (exact AR.a (by assumption) (by decide) (by decide)) | (exact AR.k (by assumption)) | omega | (have := cmp_gt.mp (by assumption : 0 < cmpL _ 0); omega))
        | (refine ite_c (fun _ => ?_) (fun _ => ?_))
        | (intro _ e1; subst e1)
        | (with_reducible refine s_91 hr (fun _ _ => ?_))
        | (with_reducible refine s_93 (fun _ _ => ?_))
        | (with_reducible refine s_94 (fun _ => ?_))
        | (with_reducible refine s_96 hr (fun _ => ?_))
        | (exfalso; omega)
        | (exact absurd trivial (by assumption))
        | ((with_reducible refine ih2 ?_ _ _) <;> (first | ((repeat (with_reducible first | assumption | exact EQ.rf _ | (refine EQ.up ?_ (by assumption)) | (refine EQ.cp ?_ (by assumption)) | (refine EQ.tr ?_ (by assumption)))); done) | omega | decide | (rw [wr_id ⟨by omega, by omega⟩]; omega)))
        | ((with_reducible refine ih hlt))
        | ((first | exact h1 | exact h0))
    refine b_97_7 ?_
    repeat' first
      | (with_reducible refine ite_01 ?_)
      | (with_reducible refine ite_00 ?_)
      | (with_reducible refine And.intro ?_ ?_; · first | assumption | decide | (exact AR.i (by assumption) (by omega) (by omega)) | (exact AR.a (by assumption) (by decide) (by decide)) | (exact AR.k (by assumption)) | omega | (have := cmp_gt.mp (by assumption : 0 < cmpL _ 0); omega))
      | (refine ite_c (fun _ => ?_) (fun _ => ?_))
      | (intro _ e1; subst e1)
      | (with_reducible refine s_91 hr (fun _ _ => ?_))
      | (with_reducible refine s_93 (fun _ _ => ?_))
      | (with_reducible refine s_94 (fun _ => ?_))
      | (with_reducible refine s_96 hr (fun _ => ?_))
      | (exfalso; omega)
      | (exact absurd trivial (by assumption))
      | ((with_reducible refine inner ?_ _ ?_ _ _) <;> (first | ((repeat (with_reducible first | assumption | exact EQ.rf _ | (refine EQ.up ?_ (by assumption)) | (refine EQ.cp ?_ (by assumption)) | (refine EQ.tr ?_ (by assumption)))); done) | omega | decide | (rw [wr_id ⟨by omega, by omega⟩]; omega)))
      | ((first | exact h1 | exact h0))
  refine c_97 ?_
  repeat' first
    | (with_reducible refine ite_01 ?_)
    | (with_reducible refine ite_00 ?_)
    | (with_reducible refine And.intro ?_ ?_; · first | assumption | decide | (exact AR.i (by assumption) (by omega) (by omega)) | (exact AR.a (by assumption) (by decide) (by decide)) | (exact AR.k (by assumption)) | omega | (have := cmp_gt.mp (by assumption : 0 < cmpL _ 0); omega))
    | (refine ite_c (fun _ => ?_) (fun _ => ?_))
    | (intro _ e1; subst e1)
    | (with_reducible refine s_91 hr (fun _ _ => ?_))
    | (with_reducible refine s_93 (fun _ _ => ?_))
    | (with_reducible refine s_94 (fun _ => ?_))
    | (with_reducible refine s_96 hr (fun _ => ?_))
    | (exfalso; omega)
    | (exact absurd trivial (by assumption))
    | ((with_reducible refine outer _ ?_ _ ?_) <;> (first | ((repeat (with_reducible first | assumption | exact EQ.rf _ | (refine EQ.up ?_ (by assumption)) | (refine EQ.cp ?_ (by assumption)) | (refine EQ.tr ?_ (by assumption)))); done) | omega | decide | (rw [wr_id ⟨by omega, by omega⟩]; omega)))
    | ((first | exact h1 | exact h0))
theorem s_87 (hr : RI r) (h : ∀ v g', EQ g g' → Q v g' r) : Ce sc (d + 9) 87 [(2, 0), (0, l1), (0, l2), (0, l3), (0, l4)] g r Q := by
  have k0 : okr 218 0 8 := okd (by decide +kernel)
  refine c_87 ?_
  repeat' first
    | (with_reducible refine ite_01 ?_)
    | (with_reducible refine ite_00 ?_)
    | (with_reducible refine And.intro ?_ ?_; · first | assumption | decide | (exact AR.i (by assumption) (by omega) (by omega)) | (exact AR.a (by assumption) (by decide) (by decide)) | (exact AR.k (by assumption)) | omega | (have := cmp_gt.mp (by assumption : 0 < cmpL _ 0); omega))
    | (refine ite_c (fun _ => ?_) (fun _ => ?_))
    | (intro _ e1; subst e1)
    | (with_reducible refine s_90 hr ?_ ?_)
    | (with_reducible refine s_91 hr (fun _ _ => ?_))
    | (with_reducible refine s_92 hr ?_ ?_)
    | (with_reducible refine s_95 hr (fun _ _ _ => ?_))
    | (with_reducible refine s_96 hr (fun _ => ?_))
    | (with_reducible refine w_123 (fun _ _ => ?_) (fun _ => ?_))
    | (exfalso; omega)
    | (exact absurd trivial (by assumption))
    | ((with_reducible refine h _ _ ?_) <;> (first | ((repeat (with_reducible first | assumption | exact EQ.rf _ | (refine EQ.up ?_ (by assumption)) | (refine EQ.cp ?_ (by assumption)) | (refine EQ.tr ?_ (by assumption)))); done) | omega | decide | (rw [wr_id ⟨by omega, by omega⟩]; omega)))
theorem s_88 (hr : RI r) (h : ∀ v g', EQ g g' → Q v g' r) : Ce sc (d + 9) 88 [(2, 0), (0, l1), (0, l2), (0, l3)] g r Q := by
  have k0 : okr 218 0 8 := okd (by decide +kernel)
  have loopb : ∀ l5 : Int, -2147483648 ≤ l5 → 0 ≤ l5 → ∀ (l4 : Int) g1, EQ g g1 → WQ sc (d + 8) 88 Q 55 [(2, 0), (9, 0), (9, 0), (0, l3), (0, l4), (0, l5)] [] g1 r := by
    refine upS 1 64 (by decide) (by first | decide | omega) fun l5 _ ih h0 l4 g1 e0 => ?_
    refine b_88_55 ?_
    repeat' first
      | (with_reducible refine ite_01 ?_)
      | (with_reducible refine ite_00 ?_)
      | (with_reducible refine And.intro ?_ ?_; · first | assumption | decide | (exact AR.i (by assumption) (by omega) (by omega)) | (exact AR.a (by assumption) (by decide) (by decide)) | (exact AR.k (by assumption)) | omega | (have := cmp_gt.mp (by assumption : 0 < cmpL _ 0); omega))
      | (refine ite_c (fun _ => ?_) (fun _ => ?_))
      | (intro _ e1; subst e1)
      | (with_reducible refine s_90 hr ?_ ?_)
      | (with_reducible refine s_92 hr ?_ ?_)
      | (with_reducible refine s_95 hr (fun _ _ _ => ?_))
      | (with_reducible refine s_97 hr ?_ ?_)
      | (exfalso; omega)
      | (exact absurd trivial (by assumption))
      | ((with_reducible refine ih ?_ ?_ _ _ ?_) <;> (first | ((repeat (with_reducible first | assumption | exact EQ.rf _ | (refine EQ.up ?_ (by assumption)) | (refine EQ.cp ?_ (by assumption)) | (refine EQ.tr ?_ (by assumption)))); done) | omega | decide | (rw [wr_id ⟨by omega, by omega⟩]; omega)))
      | ((with_reducible refine h _ _ ?_) <;> (first | ((repeat (with_reducible first | assumption | exact EQ.rf _ | (refine EQ.up ?_ (by assumption)) | (refine EQ.cp ?_ (by assumption)) | (refine EQ.tr ?_ (by assumption)))); done) | omega | decide | (rw [wr_id ⟨by omega, by omega⟩]; omega)))
  have loopa : ∀ l4 : Int, -2147483648 ≤ l4 → 0 ≤ l4 → ∀ g1, EQ g g1 → WQ sc (d + 8) 88 Q 19 [(2, 0), (0, l1), (0, l2), (0, l3), (0, l4), (9, 0)] [] g1 r := by
    refine upS 1 64 (by decide) (by first | decide | omega) fun l4 _ ih h0 g1 e0 => ?_
    refine b_88_19 ?_
    repeat' first
      | (with_reducible refine ite_01 ?_)
      | (with_reducible refine ite_00 ?_)
      | (with_reducible refine And.intro ?_ ?_; · first | assumption | decide | (exact AR.i (by assumption) (by omega) (by omega)) | (exact AR.a (by assumption) (by decide) (by decide)) | (exact AR.k (by assumption)) | omega | (have := cmp_gt.mp (by assumption : 0 < cmpL _ 0); omega))
      | (refine ite_c (fun _ => ?_) (fun _ => ?_))
      | (intro _ e1; subst e1)
      | (with_reducible refine s_90 hr ?_ ?_)
      | (with_reducible refine s_92 hr ?_ ?_)
      | (with_reducible refine s_95 hr (fun _ _ _ => ?_))
      | (with_reducible refine s_97 hr ?_ ?_)
      | (exfalso; omega)
      | (exact absurd trivial (by assumption))
      | ((with_reducible refine ih ?_ ?_ _ ?_) <;> (first | ((repeat (with_reducible first | assumption | exact EQ.rf _ | (refine EQ.up ?_ (by assumption)) | (refine EQ.cp ?_ (by assumption)) | (refine EQ.tr ?_ (by assumption)))); done) | omega | decide | (rw [wr_id ⟨by omega, by omega⟩]; omega)))
      | ((with_reducible refine loopb _ ?_ ?_ _ _ ?_) <;> (first | ((repeat (with_reducible first | assumption | exact EQ.rf _ | (refine EQ.up ?_ (by assumption)) | (refine EQ.cp ?_ (by assumption)) | (refine EQ.tr ?_ (by assumption)))); done) | omega | decide | (rw [wr_id ⟨by omega, by omega⟩]; omega)))
      | ((with_reducible refine h _ _ ?_) <;> (first | ((repeat (with_reducible first | assumption | exact EQ.rf _ | (refine EQ.up ?_ (by assumption)) | (refine EQ.cp ?_ (by assumption)) | (refine EQ.tr ?_ (by assumption)))); done) | omega | decide | (rw [wr_id ⟨by omega, by omega⟩]; omega)))
  refine c_88 ?_
  repeat' first
    | (with_reducible refine ite_01 ?_)
    | (with_reducible refine ite_00 ?_)
    | (with_reducible refine And.intro ?_ ?_; · first | assumption | decide | (exact AR.i (by assumption) (by omega) (by omega)) | (exact AR.a (by assumption) (by decide) (by decide)) | (exact AR.k (by assumption)) | omega | (have := cmp_gt.mp (by assumption : 0 < cmpL _ 0); omega))
    | (refine ite_c (fun _ => ?_) (fun _ => ?_))
    | (intro _ e1; subst e1)
    | (with_reducible refine s_90 hr ?_ ?_)
    | (with_reducible refine s_92 hr ?_ ?_)
    | (with_reducible refine s_95 hr (fun _ _ _ => ?_))
    | (with_reducible refine s_97 hr ?_ ?_)
    | (exfalso; omega)
    | (exact absurd trivial (by assumption))
    | ((with_reducible refine loopa _ ?_ ?_ _ ?_) <;> (first | ((repeat (with_reducible first | assumption | exact EQ.rf _ | (refine EQ.up ?_ (by assumption)) | (refine EQ.cp ?_ (by assumption)) | (refine EQ.tr ?_ (by assumption)))); done) | omega | decide | (rw [wr_id ⟨by omega, by omega⟩]; omega)))
    | ((with_reducible refine h _ _ ?_) <;> (first | ((repeat (with_reducible first | assumption | exact EQ.rf _ | (refine EQ.up ?_ (by assumption)) | (refine EQ.cp ?_ (by assumption)) | (refine EQ.tr ?_ (by assumption)))); done) | omega | decide | (rw [wr_id ⟨by omega, by omega⟩]; omega)))
theorem s_89 (hr : RI r) (h : ∀ v g', EQ g g' → Q v g' r) : Ce sc (d + 9) 89 [(2, 0), (0, l1), (0, l2), (0, l3)] g r Q := by
  have k0 : okr 218 0 8 := okd (by decide +kernel)
  have outer : ∀ l4 : Int, l4 ≤ 3 → ∀ l5 : Int, -2147483648 ≤ l5 → 0 ≤ l5 → ∀ g1, EQ g g1 → WQ sc (d + 8) 89 Q 31 [(2, 0), (0, l1), (0, l2), (0, l3), (0, l4), (0, l5), (9, 0), (9, 0)] [] g1 r := by
    intro l4 hl
    refine upS 1 64 (by decide) (by decide) fun l5 _ ih h5 g1 e0 => ?_
    have inner : l5 < 64 → ∀ l7 : Int, -2147483648 ≤ l7 → 0 ≤ l7 → ∀ (l6 : Int) g2, EQ g g2 → WQ sc (d + 8) 89 Q 64 [(2, 0), (0, l1), (0, l2), (0, l3), (0, l4), (0, l5), (0, l6), (0, l7)] [] g2 r := by
      intro hlt
      refine upS 1 l4 (by decide) (by omega) fun l7 _ ih2 h7 l6 g2 e2 => ?_
      refine b_89_64 ?_
      repeat' first
        | (with_reducible refine ite_01 ?_)
        | (with_reducible refine ite_00 ?_)
        | (with_reducible refine And.intro ?_ ?_; · first | assumption | decide | (exact AR.i (by assumption) (by omega) (by omega)) | (exact AR.a (by assumption) (by decide) (by decide)) | (exact AR.k (by assumption)) | omega | (have := cmp_gt.mp (by assumption : 0 < cmpL _ 0); omega))
        | (refine ite_c (fun _ => ?_) (fun _ => ?_))
        | (intro _ e1; subst e1)
        | (with_reducible refine s_90 hr ?_ ?_)
        | (with_reducible refine s_91 hr (fun _ _ => ?_))
        | (with_reducible refine s_92 hr ?_ ?_)
        | (with_reducible refine s_95 hr (fun _ _ _ => ?_))
        | (with_reducible refine s_96 hr (fun _ => ?_))
        | (with_reducible refine w_123 (fun _ _ => ?_) (fun _ => ?_))
        | (exfalso; omega)
        | (exact absurd trivial (by assumption))
        | ((with_reducible refine ih2 ?_ ?_ _ _ ?_) <;> (first | ((repeat (with_reducible first | assumption | exact EQ.rf _ | (refine EQ.up ?_ (by assumption)) | (refine EQ.cp ?_ (by assumption)) | (refine EQ.tr ?_ (by assumption)))); done) | omega | decide | (rw [wr_id ⟨by omega, by omega⟩]; omega)))
        | ((with_reducible refine ih hlt ?_ _ ?_) <;> (first | ((repeat (with_reducible first | assumption | exact EQ.rf _ | (refine EQ.up ?_ (by assumption)) | (refine EQ.cp ?_ (by assumption)) | (refine EQ.tr ?_ (by assumption)))); done) | omega | decide | (rw [wr_id ⟨by omega, by omega⟩]; omega)))
        | ((with_reducible refine h _ _ ?_) <;> (first | ((repeat (with_reducible first | assumption | exact EQ.rf _ | (refine EQ.up ?_ (by assumption)) | (refine EQ.cp ?_ (by assumption)) | (refine EQ.tr ?_ (by assumption)))); done) | omega | decide | (rw [wr_id ⟨by omega, by omega⟩]; omega)))
    refine b_89_31 ?_
    repeat' first
      | (with_reducible refine ite_01 ?_)
      | (with_reducible refine ite_00 ?_)
      | (with_reducible refine And.intro ?_ ?_; · first | assumption | decide | (exact AR.i (by assumption) (by omega) (by omega)) | (exact AR.a (by assumption) (by decide) (by decide)) | (exact AR.k (by assumption)) | omega | (have := cmp_gt.mp (by assumption : 0 < cmpL _ 0); omega))
      | (refine ite_c (fun _ => ?_) (fun _ => ?_))
      | (intro _ e1; subst e1)
      | (with_reducible refine s_90 hr ?_ ?_)
      | (with_reducible refine s_91 hr (fun _ _ => ?_))
      | (with_reducible refine s_92 hr ?_ ?_)
      | (with_reducible refine s_95 hr (fun _ _ _ => ?_))
      | (with_reducible refine s_96 hr (fun _ => ?_))
      | (with_reducible refine w_123 (fun _ _ => ?_) (fun _ => ?_))
      | (exfalso; omega)
      | (exact absurd trivial (by assumption))
      | ((with_reducible refine inner ?_ _ ?_ ?_ _ _ ?_) <;> (first | ((repeat (with_reducible first | assumption | exact EQ.rf _ | (refine EQ.up ?_ (by assumption)) | (refine EQ.cp ?_ (by assumption)) | (refine EQ.tr ?_ (by assumption)))); done) | omega | decide | (rw [wr_id ⟨by omega, by omega⟩]; omega)))
      | ((with_reducible refine ih ?_ ?_ _ ?_) <;> (first | ((repeat (with_reducible first | assumption | exact EQ.rf _ | (refine EQ.up ?_ (by assumption)) | (refine EQ.cp ?_ (by assumption)) | (refine EQ.tr ?_ (by assumption)))); done) | omega | decide | (rw [wr_id ⟨by omega, by omega⟩]; omega)))
      | ((with_reducible refine h _ _ ?_) <;> (first | ((repeat (with_reducible first | assumption | exact EQ.rf _ | (refine EQ.up ?_ (by assumption)) | (refine EQ.cp ?_ (by assumption)) | (refine EQ.tr ?_ (by assumption)))); done) | omega | decide | (rw [wr_id ⟨by omega, by omega⟩]; omega)))
  refine c_89 ?_
  repeat' first
    | (with_reducible refine ite_01 ?_)
    | (with_reducible refine ite_00 ?_)
    | (with_reducible refine And.intro ?_ ?_; · first | assumption | decide | (exact AR.i (by assumption) (by omega) (by omega)) | (exact AR.a (by assumption) (by decide) (by decide)) | (exact AR.k (by assumption)) | omega | (have := cmp_gt.mp (by assumption : 0 < cmpL _ 0); omega))
    | (refine ite_c (fun _ => ?_) (fun _ => ?_))
    | (intro _ e1; subst e1)
    | (with_reducible refine s_90 hr ?_ ?_)
    | (with_reducible refine s_91 hr (fun _ _ => ?_))
    | (with_reducible refine s_92 hr ?_ ?_)
    | (with_reducible refine s_95 hr (fun _ _ _ => ?_))
    | (with_reducible refine s_96 hr (fun _ => ?_))
    | (with_reducible refine w_123 (fun _ _ => ?_) (fun _ => ?_))
    | (exfalso; omega)
    | (exact absurd trivial (by assumption))
    | ((with_reducible refine outer _ ?_ _ ?_ ?_ _ ?_) <;> (first | ((repeat (with_reducible first | assumption | exact EQ.rf _ | (refine EQ.up ?_ (by assumption)) | (refine EQ.cp ?_ (by assumption)) | (refine EQ.tr ?_ (by assumption)))); done) | omega | decide | (rw [wr_id ⟨by omega, by omega⟩]; omega)))
    | ((with_reducible refine h _ _ ?_) <;> (first | ((repeat (with_reducible first | assumption | exact EQ.rf _ | (refine EQ.up ?_ (by assumption)) | (refine EQ.cp ?_ (by assumption)) | (refine EQ.tr ?_ (by assumption)))); done) | omega | decide | (rw [wr_id ⟨by omega, by omega⟩]; omega)))
theorem s_98 (hr : RI r) (h : ∀ v g', EQ g g' → Q v g' r) : Ce sc (d + 4) 98 [(2, 0), (0, l1), (0, l2)] g r Q := by
  have k0 : okr 218 0 8 := okd (by decide +kernel)
  have ar51 : AR 51 11 6 := ar_of (by decide +kernel) (by decide +kernel) (by decide +kernel)
  have mr51 := ar51.2.1
  have nr51 := ar51.2.2
  refine c_98 ?_
  repeat' first
    | (with_reducible refine ite_01 ?_)
    | (with_reducible refine ite_00 ?_)
    | (with_reducible refine And.intro ?_ ?_; · first | assumption | decide | (exact AR.i (by assumption) (by omega) (by omega)) | (exact AR.a (by assumption) (by decide) (by decide)) | (exact AR.k (by assumption)) | omega | (have := cmp_gt.mp (by assumption : 0 < cmpL _ 0); omega))
    | (simp only [r_0_11 hr])
    | (refine ite_c (fun _ => ?_) (fun _ => ?_))
    | (intro _ e1; subst e1)
    | (with_reducible refine w_123 (fun _ _ => ?_) (fun _ => ?_))
    | (with_reducible refine s_129 hr (fun _ _ _ _ _ _ _ _ _ _ _ _ => ?_) ?_)
    | (with_reducible refine s_134 hr (by decide) (by decide) (fun _ _ => ?_))
    | (exfalso; omega)
    | (exact absurd trivial (by assumption))
    | ((with_reducible refine h _ _ ?_) <;> (first | ((repeat (with_reducible first | assumption | exact EQ.rf _ | (refine EQ.up ?_ (by assumption)) | (refine EQ.cp ?_ (by assumption)) | (refine EQ.tr ?_ (by assumption)))); done) | omega | decide | (rw [wr_id ⟨by omega, by omega⟩]; omega)))
theorem s_102 (h : ∀ v, Q v g r) : Ce sc (d + 1) 102 [(1, l0), (1, l2)] g r Q := by
  have loop : l2 ≠ 0 → ∀ l8 : Int, -2147483648 ≤ l8 → ∀ l4 l6 : Int, WQ sc d 102 Q 21 [(9, 0), (9, 0), (1, l2), (8, 0), (1, l4), (8, 0), (1, l6), (8, 0), (0, l8)] [] g r := by
    intro hz
    exact upW 6 (by decide) fun l8 _ ih l4 l6 => b_102_21 (ite_c (fun hi => ⟨hz, hz, ih hi _ _⟩) (fun _ => h _))
  refine c_102 (ite_c (fun q => ?_) (fun _ => h _))
  have := cmp_gt.mp q
  exact ⟨by omega, by omega, loop (by omega) 0 (by decide) _ _⟩
theorem s_101 (hr : RI r) (hc : CI g) (h : ∀ v g', EQ g g' → Q v g' r) : Ce sc (d + 3) 101 [(2, 0), (0, l1)] g r Q := by
  have k0 : okr 218 0 8 := okd (by decide +kernel)
  have ar51 : AR 51 11 6 := ar_of (by decide +kernel) (by decide +kernel) (by decide +kernel)
  have mr51 := ar51.2.1
  have nr51 := ar51.2.2
  have k52 : okr 218 52 3 := okd (by decide +kernel)
  have pr52 := pr_52 hr
  have loop : ∀ l4 : Int, -2147483648 ≤ l4 → 0 ≤ l4 → ∀ (l2 : Int) g1, EQ g g1 → WQ sc (d + 2) 101 Q 28 [(2, 0), (0, l1), (1, l2), (8, 0), (0, l4), (9, 0), (9, 0), (9, 0)] [] g1 r := by
    refine upS 1 30 (by decide) (by decide) fun l4 _ ih h0 l2 g1 e0 => ?_
    obtain ⟨⟨c1, c2⟩, ⟨c3, c4⟩, ⟨c5, c6⟩, ⟨c7, c8⟩, ⟨c9, c10⟩, c11, c12⟩ := hc.eq e0
    have mid : l4 < 30 → ∀ (l2 l6 t0 : Int), WQ sc (d + 2) 101 Q 102 [(2, 0), (0, l1), (1, l2), (8, 0), (0, l4), (9, 0), (0, l6), (9, 0)] [(0, t0)] g1 r := by
      intro hlt l2 l6 t0
      refine b_101_102 ?_
      repeat' first
        | (with_reducible refine ite_01 ?_)
        | (with_reducible refine ite_00 ?_)
        | (with_reducible refine And.intro ?_ ?_; · first | assumption | decide | (exact AR.i (by assumption) (by omega) (by omega)) | (exact AR.a (by assumption) (by decide) (by decide)) | (exact AR.k (by assumption)) | omega | (have := cmp_gt.mp (by assumption : 0 < cmpL _ 0); omega))
        | (simp only [r_0_11 hr, r_0_12 hr])
        | (refine ite_c (fun _ => ?_) (fun _ => ?_))
        | (intro _ e1; subst e1)
        | (with_reducible refine s_25 (by assumption) (fun _ => ?_))
        | (with_reducible refine s_26 (by assumption) (fun _ => ?_))
        | (with_reducible refine w_123 (fun _ _ => ?_) (fun _ => ?_))
        | (with_reducible refine s_129 hr (fun _ _ _ _ _ _ _ _ _ _ _ _ => ?_) ?_)
        | (exfalso; omega)
        | (exact absurd trivial (by assumption))
        | ((with_reducible refine ih hlt ?_ _ _ ?_) <;> (first | ((repeat (with_reducible first | assumption | exact EQ.rf _ | (refine EQ.up ?_ (by assumption)) | (refine EQ.cp ?_ (by assumption)) | (refine EQ.tr ?_ (by assumption)))); done) | omega | decide | (rw [wr_id ⟨by omega, by omega⟩]; omega)))
        | ((with_reducible refine h _ _ ?_) <;> (first | ((repeat (with_reducible first | assumption | exact EQ.rf _ | (refine EQ.up ?_ (by assumption)) | (refine EQ.cp ?_ (by assumption)) | (refine EQ.tr ?_ (by assumption)))); done) | omega | decide | (rw [wr_id ⟨by omega, by omega⟩]; omega)))
    refine b_101_28 ?_
    repeat' first
      | (with_reducible refine ite_01 ?_)
      | (with_reducible refine ite_00 ?_)
      | (with_reducible refine And.intro ?_ ?_; · first | assumption | decide | (exact AR.i (by assumption) (by omega) (by omega)) | (exact AR.a (by assumption) (by decide) (by decide)) | (exact AR.k (by assumption)) | omega | (have := cmp_gt.mp (by assumption : 0 < cmpL _ 0); omega))
      | (simp only [r_0_11 hr, r_0_12 hr])
      | (refine ite_c (fun _ => ?_) (fun _ => ?_))
      | (intro _ e1; subst e1)
      | (with_reducible refine s_25 (by assumption) (fun _ => ?_))
      | (with_reducible refine s_26 (by assumption) (fun _ => ?_))
      | (with_reducible refine w_123 (fun _ _ => ?_) (fun _ => ?_))
      | (with_reducible refine s_129 hr (fun _ _ _ _ _ _ _ _ _ _ _ _ => ?_) ?_)
      | (exfalso; omega)
      | (exact absurd trivial (by assumption))
      | ((with_reducible refine mid ?_ _ _ _) <;> (first | ((repeat (with_reducible first | assumption | exact EQ.rf _ | (refine EQ.up ?_ (by assumption)) | (refine EQ.cp ?_ (by assumption)) | (refine EQ.tr ?_ (by assumption)))); done) | omega | decide | (rw [wr_id ⟨by omega, by omega⟩]; omega)))
      | ((with_reducible refine ih ?_ ?_ _ _ ?_) <;> (first | ((repeat (with_reducible first | assumption | exact EQ.rf _ | (refine EQ.up ?_ (by assumption)) | (refine EQ.cp ?_ (by assumption)) | (refine EQ.tr ?_ (by assumption)))); done) | omega | decide | (rw [wr_id ⟨by omega, by omega⟩]; omega)))
      | ((with_reducible refine h _ _ ?_) <;> (first | ((repeat (with_reducible first | assumption | exact EQ.rf _ | (refine EQ.up ?_ (by assumption)) | (refine EQ.cp ?_ (by assumption)) | (refine EQ.tr ?_ (by assumption)))); done) | omega | decide | (rw [wr_id ⟨by omega, by omega⟩]; omega)))
  refine c_101 ?_
  repeat' first
    | (with_reducible refine ite_01 ?_)
    | (with_reducible refine ite_00 ?_)
    | (with_reducible refine And.intro ?_ ?_; · first | assumption | decide | (exact AR.i (by assumption) (by omega) (by omega)) | (exact AR.a (by assumption) (by decide) (by decide)) | (exact AR.k (by assumption)) | omega | (have := cmp_gt.mp (by assumption : 0 < cmpL _ 0); omega))
    | (simp only [r_0_11 hr, r_0_12 hr])
    | (refine ite_c (fun _ => ?_) (fun _ => ?_))
    | (intro _ e1; subst e1)
    | (with_reducible refine s_25 (by assumption) (fun _ => ?_))
    | (with_reducible refine s_26 (by assumption) (fun _ => ?_))
    | (with_reducible refine w_123 (fun _ _ => ?_) (fun _ => ?_))
    | (with_reducible refine s_129 hr (fun _ _ _ _ _ _ _ _ _ _ _ _ => ?_) ?_)
    | (exfalso; omega)
    | (exact absurd trivial (by assumption))
    | ((with_reducible refine loop _ ?_ ?_ _ _ ?_) <;> (first | ((repeat (with_reducible first | assumption | exact EQ.rf _ | (refine EQ.up ?_ (by assumption)) | (refine EQ.cp ?_ (by assumption)) | (refine EQ.tr ?_ (by assumption)))); done) | omega | decide | (rw [wr_id ⟨by omega, by omega⟩]; omega)))
    | ((with_reducible refine h _ _ ?_) <;> (first | ((repeat (with_reducible first | assumption | exact EQ.rf _ | (refine EQ.up ?_ (by assumption)) | (refine EQ.cp ?_ (by assumption)) | (refine EQ.tr ?_ (by assumption)))); done) | omega | decide | (rw [wr_id ⟨by omega, by omega⟩]; omega)))
theorem s_100 (hr : RI r) (hc : CI g) (h : ∀ v g', EQ g g' → Q v g' r) : Ce sc (d + 4) 100 [(2, 0), (0, l1)] g r Q := by
  have k0 : okr 218 0 8 := okd (by decide +kernel)
  have loop : ∀ l4 : Int, -2147483648 ≤ l4 → 0 ≤ l4 → ∀ (l2 : Int) g1, EQ g g1 → WQ sc (d + 3) 100 Q 15 [(2, 0), (0, l1), (1, l2), (8, 0), (0, l4)] [] g1 r := by
    refine upS 1 6 (by decide) (by first | decide | omega) fun l4 _ ih h0 l2 g1 e0 => ?_
    refine b_100_15 ?_
    repeat' first
      | (with_reducible refine ite_01 ?_)
      | (with_reducible refine ite_00 ?_)
      | (with_reducible refine And.intro ?_ ?_; · first | assumption | decide | (exact AR.i (by assumption) (by omega) (by omega)) | (exact AR.a (by assumption) (by decide) (by decide)) | (exact AR.k (by assumption)) | omega | (have := cmp_gt.mp (by assumption : 0 < cmpL _ 0); omega))
      | (refine ite_c (fun _ => ?_) (fun _ => ?_))
      | (intro _ e1; subst e1)
      | (with_reducible refine s_101 hr (CI.eq hc (by (repeat (with_reducible first | assumption | exact EQ.rf _ | (refine EQ.up ?_ (by assumption)) | (refine EQ.cp ?_ (by assumption)) | (refine EQ.tr ?_ (by assumption)))))) (fun _ _ _ => ?_))
      | (with_reducible refine s_102 (fun _ => ?_))
      | (with_reducible refine s_129 hr (fun _ _ _ _ _ _ _ _ _ _ _ _ => ?_) ?_)
      | (exfalso; omega)
      | (exact absurd trivial (by assumption))
      | ((with_reducible refine ih ?_ ?_ _ _ ?_) <;> (first | ((repeat (with_reducible first | assumption | exact EQ.rf _ | (refine EQ.up ?_ (by assumption)) | (refine EQ.cp ?_ (by assumption)) | (refine EQ.tr ?_ (by assumption)))); done) | omega | decide | (rw [wr_id ⟨by omega, by omega⟩]; omega)))
      | ((with_reducible refine h _ _ ?_) <;> (first | ((repeat (with_reducible first | assumption | exact EQ.rf _ | (refine EQ.up ?_ (by assumption)) | (refine EQ.cp ?_ (by assumption)) | (refine EQ.tr ?_ (by assumption)))); done) | omega | decide | (rw [wr_id ⟨by omega, by omega⟩]; omega)))
  refine c_100 ?_
  repeat' first
    | (with_reducible refine ite_01 ?_)
    | (with_reducible refine ite_00 ?_)
    | (with_reducible refine And.intro ?_ ?_; · first | assumption | decide | (exact AR.i (by assumption) (by omega) (by omega)) | (exact AR.a (by assumption) (by decide) (by decide)) | (exact AR.k (by assumption)) | omega | (have := cmp_gt.mp (by assumption : 0 < cmpL _ 0); omega))
    | (refine ite_c (fun _ => ?_) (fun _ => ?_))
    | (intro _ e1; subst e1)
    | (with_reducible refine s_101 hr (CI.eq hc (by (repeat (with_reducible first | assumption | exact EQ.rf _ | (refine EQ.up ?_ (by assumption)) | (refine EQ.cp ?_ (by assumption)) | (refine EQ.tr ?_ (by assumption)))))) (fun _ _ _ => ?_))
    | (with_reducible refine s_102 (fun _ => ?_))
    | (with_reducible refine s_129 hr (fun _ _ _ _ _ _ _ _ _ _ _ _ => ?_) ?_)
    | (exfalso; omega)
    | (exact absurd trivial (by assumption))
    | ((with_reducible refine loop _ ?_ ?_ _ _ ?_) <;> (first | ((repeat (with_reducible first | assumption | exact EQ.rf _ | (refine EQ.up ?_ (by assumption)) | (refine EQ.cp ?_ (by assumption)) | (refine EQ.tr ?_ (by assumption)))); done) | omega | decide | (rw [wr_id ⟨by omega, by omega⟩]; omega)))
    | ((with_reducible refine h _ _ ?_) <;> (first | ((repeat (with_reducible first | assumption | exact EQ.rf _ | (refine EQ.up ?_ (by assumption)) | (refine EQ.cp ?_ (by assumption)) | (refine EQ.tr ?_ (by assumption)))); done) | omega | decide | (rw [wr_id ⟨by omega, by omega⟩]; omega)))
theorem s_103 (hr : RI r) (h : ∀ v g', EQ g g' → Q v g' r) : Ce sc (d + 3) 103 [(2, 0), (0, l1), (0, l2), (0, l3)] g r Q := by
  have k0 : okr 218 0 8 := okd (by decide +kernel)
  have loop : ∀ l9 : Int, -2147483648 ≤ l9 → 0 ≤ l9 → ∀ (l4 l5 l6 l7 l8 : Int), WQ sc (d + 2) 103 Q 85 [(2, 0), (0, l1), (9, 0), (9, 0), (0, l4), (0, l5), (0, l6), (0, l7), (0, l8), (0, l9), (9, 0)] [] g r := by
    refine upS 1 6 (by decide) (by decide) fun l9 _ ih h0 l4 l5 l6 l7 l8 => ?_
    refine b_103_85 ?_
    repeat' first
      | (with_reducible refine ite_01 ?_)
      | (with_reducible refine ite_00 ?_)
      | (with_reducible refine And.intro ?_ ?_; · first | assumption | decide | (exact AR.i (by assumption) (by omega) (by omega)) | (exact AR.a (by assumption) (by decide) (by decide)) | (exact AR.k (by assumption)) | omega | (have := cmp_gt.mp (by assumption : 0 < cmpL _ 0); omega))
      | (refine ite_c (fun _ => ?_) (fun _ => ?_))
      | (intro _ e1; subst e1)
      | (with_reducible refine w_123 (fun _ _ => ?_) (fun _ => ?_))
      | (with_reducible refine s_129 hr (fun _ _ _ _ _ _ _ _ _ _ _ _ => ?_) ?_)
      | (exfalso; omega)
      | (exact absurd trivial (by assumption))
      | ((with_reducible refine ih ?_ ?_ _ _ _ _ _) <;> (first | ((repeat (with_reducible first | assumption | exact EQ.rf _ | (refine EQ.up ?_ (by assumption)) | (refine EQ.cp ?_ (by assumption)) | (refine EQ.tr ?_ (by assumption)))); done) | omega | decide | (rw [wr_id ⟨by omega, by omega⟩]; omega)))
      | ((with_reducible refine h _ _ ?_) <;> (first | ((repeat (with_reducible first | assumption | exact EQ.rf _ | (refine EQ.up ?_ (by assumption)) | (refine EQ.cp ?_ (by assumption)) | (refine EQ.tr ?_ (by assumption)))); done) | omega | decide | (rw [wr_id ⟨by omega, by omega⟩]; omega)))
  refine c_103 ?_
  repeat' first
    | (with_reducible refine ite_01 ?_)
    | (with_reducible refine ite_00 ?_)
    | (with_reducible refine And.intro ?_ ?_; · first | assumption | decide | (exact AR.i (by assumption) (by omega) (by omega)) | (exact AR.a (by assumption) (by decide) (by decide)) | (exact AR.k (by assumption)) | omega | (have := cmp_gt.mp (by assumption : 0 < cmpL _ 0); omega))
    | (refine ite_c (fun _ => ?_) (fun _ => ?_))
    | (intro _ e1; subst e1)
    | (with_reducible refine w_123 (fun _ _ => ?_) (fun _ => ?_))
    | (with_reducible refine s_129 hr (fun _ _ _ _ _ _ _ _ _ _ _ _ => ?_) ?_)
    | (exfalso; omega)
    | (exact absurd trivial (by assumption))
    | ((with_reducible refine loop _ ?_ ?_ _ _ _ _ _) <;> (first | ((repeat (with_reducible first | assumption | exact EQ.rf _ | (refine EQ.up ?_ (by assumption)) | (refine EQ.cp ?_ (by assumption)) | (refine EQ.tr ?_ (by assumption)))); done) | omega | decide | (rw [wr_id ⟨by omega, by omega⟩]; omega)))
    | ((with_reducible refine h _ _ ?_) <;> (first | ((repeat (with_reducible first | assumption | exact EQ.rf _ | (refine EQ.up ?_ (by assumption)) | (refine EQ.cp ?_ (by assumption)) | (refine EQ.tr ?_ (by assumption)))); done) | omega | decide | (rw [wr_id ⟨by omega, by omega⟩]; omega)))
theorem s_108 (hr : RI r) (h : ∀ v g', EQ g g' → Q v g' r) : Ce sc (d + 7) 108 [(2, 0), (0, l1), (0, l2), (0, l3), (0, l4), (0, l5)] g r Q := by
  have k0 : okr 218 0 8 := okd (by decide +kernel)
  have end1 : ∀ (l4 l5 l6 l8 l9 : Int), okr 218 l6 2 → WH r (r l6 1) → WQ sc (d + 6) 108 Q 151 [(9, 0), (9, 0), (9, 0), (9, 0), (0, l4), (0, l5), (2, l6), (9, 0), (0, l8), (0, l9), (9, 0)] [] g r := by
    intro l4 l5 l6 l8 l9 k6 hw
    have kw := hw.1
    refine b_108_151 ?_
    repeat' first
      | (with_reducible refine ite_01 ?_)
      | (with_reducible refine ite_00 ?_)
      | (with_reducible refine And.intro ?_ ?_; · first | assumption | decide | (exact AR.i (by assumption) (by omega) (by omega)) | (exact AR.a (by assumption) (by decide) (by decide)) | (exact AR.k (by assumption)) | omega | (have := cmp_gt.mp (by assumption : 0 < cmpL _ 0); omega))
      | (refine ite_c (fun _ => ?_) (fun _ => ?_))
      | (intro _ e1; subst e1)
      | (with_reducible refine s_63 (by assumption) (fun _ _ _ => ?_))
      | (with_reducible refine w_123 (fun _ _ => ?_) (fun _ => ?_))
      | (with_reducible refine w_124 (fun _ _ => ?_) (fun _ => ?_))
      | (with_reducible refine s_129 hr (fun _ _ _ _ _ _ _ _ _ _ _ _ => ?_) ?_)
      | (with_reducible refine w_250 (fun _ => ?_) (fun _ => ?_))
      | (exfalso; omega)
      | (exact absurd trivial (by assumption))
      | ((with_reducible refine h _ _ ?_) <;> (first | ((repeat (with_reducible first | assumption | exact EQ.rf _ | (refine EQ.up ?_ (by assumption)) | (refine EQ.cp ?_ (by assumption)) | (refine EQ.tr ?_ (by assumption)))); done) | omega | decide | (rw [wr_id ⟨by omega, by omega⟩]; omega)))
  have loopb : ∀ l10 : Int, -2147483648 ≤ l10 → ∀ (l4 l5 l6 l7 l8 l9 : Int), okr 218 l6 2 → WH r (r l6 1) → WQ sc (d + 6) 108 Q 103 [(9, 0), (9, 0), (9, 0), (9, 0), (0, l4), (0, l5), (2, l6), (0, l7), (0, l8), (0, l9), (0, l10)] [] g r := by
    refine upW 24 (by decide) fun l10 _ ih l4 l5 l6 l7 l8 l9 k6 hw => ?_
    refine b_108_103 ?_
    repeat' first
      | (with_reducible refine ite_01 ?_)
      | (with_reducible refine ite_00 ?_)
      | (with_reducible refine And.intro ?_ ?_; · first | assumption | decide | (exact AR.i (by assumption) (by omega) (by omega)) | (exact AR.a (by assumption) (by decide) (by decide)) | (exact AR.k (by assumption)) | omega | (have := cmp_gt.mp (by assumption : 0 < cmpL _ 0); omega))
      | (refine ite_c (fun _ => ?_) (fun _ => ?_))
      | (intro _ e1; subst e1)
      | (with_reducible refine s_63 (by assumption) (fun _ _ _ => ?_))
      | (with_reducible refine w_123 (fun _ _ => ?_) (fun _ => ?_))
      | (with_reducible refine w_124 (fun _ _ => ?_) (fun _ => ?_))
      | (with_reducible refine s_129 hr (fun _ _ _ _ _ _ _ _ _ _ _ _ => ?_) ?_)
      | (with_reducible refine w_250 (fun _ => ?_) (fun _ => ?_))
      | (exfalso; omega)
      | (exact absurd trivial (by assumption))
      | ((with_reducible refine ih ?_ _ _ _ _ _ _ k6 hw) <;> (first | ((repeat (with_reducible first | assumption | exact EQ.rf _ | (refine EQ.up ?_ (by assumption)) | (refine EQ.cp ?_ (by assumption)) | (refine EQ.tr ?_ (by assumption)))); done) | omega | decide | (rw [wr_id ⟨by omega, by omega⟩]; omega)))
      | ((with_reducible refine end1 _ _ _ _ _ k6 hw))
      | ((with_reducible refine h _ _ ?_) <;> (first | ((repeat (with_reducible first | assumption | exact EQ.rf _ | (refine EQ.up ?_ (by assumption)) | (refine EQ.cp ?_ (by assumption)) | (refine EQ.tr ?_ (by assumption)))); done) | omega | decide | (rw [wr_id ⟨by omega, by omega⟩]; omega)))
  have loopa : ∀ l3 : Int, l3 ≤ 23 → -2147483648 ≤ l3 → ∀ l9 : Int, -2147483648 ≤ l9 → ∀ (l4 l5 l6 l7 l8 : Int), okr 218 l6 2 → WH r (r l6 1) → WQ sc (d + 6) 108 Q 70 [(9, 0), (9, 0), (9, 0), (0, l3), (0, l4), (0, l5), (2, l6), (0, l7), (0, l8), (0, l9), (9, 0)] [] g r := by
    intro l3 hl hl2
    refine upW l3 (by omega) fun l9 _ ih l4 l5 l6 l7 l8 k6 hw => ?_
    refine b_108_70 ?_
    repeat' first
      | (with_reducible refine ite_01 ?_)
      | (with_reducible refine ite_00 ?_)
      | (with_reducible refine And.intro ?_ ?_; · first | assumption | decide | (exact AR.i (by assumption) (by omega) (by omega)) | (exact AR.a (by assumption) (by decide) (by decide)) | (exact AR.k (by assumption)) | omega | (have := cmp_gt.mp (by assumption : 0 < cmpL _ 0); omega))
      | (refine ite_c (fun _ => ?_) (fun _ => ?_))
      | (intro _ e1; subst e1)
      | (with_reducible refine s_63 (by assumption) (fun _ _ _ => ?_))
      | (with_reducible refine w_123 (fun _ _ => ?_) (fun _ => ?_))
      | (with_reducible refine w_124 (fun _ _ => ?_) (fun _ => ?_))
      | (with_reducible refine s_129 hr (fun _ _ _ _ _ _ _ _ _ _ _ _ => ?_) ?_)
      | (with_reducible refine w_250 (fun _ => ?_) (fun _ => ?_))
      | (exfalso; omega)
      | (exact absurd trivial (by assumption))
      | ((with_reducible refine ih ?_ _ _ _ _ _ k6 hw) <;> (first | ((repeat (with_reducible first | assumption | exact EQ.rf _ | (refine EQ.up ?_ (by assumption)) | (refine EQ.cp ?_ (by assumption)) | (refine EQ.tr ?_ (by assumption)))); done) | omega | decide | (rw [wr_id ⟨by omega, by omega⟩]; omega)))
      | ((with_reducible refine loopb _ ?_ _ _ _ _ _ _ k6 hw) <;> (first | ((repeat (with_reducible first | assumption | exact EQ.rf _ | (refine EQ.up ?_ (by assumption)) | (refine EQ.cp ?_ (by assumption)) | (refine EQ.tr ?_ (by assumption)))); done) | omega | decide | (rw [wr_id ⟨by omega, by omega⟩]; omega)))
      | ((with_reducible refine h _ _ ?_) <;> (first | ((repeat (with_reducible first | assumption | exact EQ.rf _ | (refine EQ.up ?_ (by assumption)) | (refine EQ.cp ?_ (by assumption)) | (refine EQ.tr ?_ (by assumption)))); done) | omega | decide | (rw [wr_id ⟨by omega, by omega⟩]; omega)))
  refine c_108 ?_
  repeat' first
    | (with_reducible refine ite_01 ?_)
    | (with_reducible refine ite_00 ?_)
    | (with_reducible refine And.intro ?_ ?_; · first | assumption | decide | (exact AR.i (by assumption) (by omega) (by omega)) | (exact AR.a (by assumption) (by decide) (by decide)) | (exact AR.k (by assumption)) | omega | (have := cmp_gt.mp (by assumption : 0 < cmpL _ 0); omega))
    | (refine ite_c (fun _ => ?_) (fun _ => ?_))
    | (intro _ e1; subst e1)
    | (with_reducible refine s_63 (by assumption) (fun _ _ _ => ?_))
    | (with_reducible refine w_123 (fun _ _ => ?_) (fun _ => ?_))
    | (with_reducible refine w_124 (fun _ _ => ?_) (fun _ => ?_))
    | (with_reducible refine s_129 hr (fun _ _ _ _ _ _ _ _ _ _ _ _ => ?_) ?_)
    | (with_reducible refine w_250 (fun _ => ?_) (fun _ => ?_))
    | (exfalso; omega)
    | (exact absurd trivial (by assumption))
    | ((with_reducible refine loopa _ ?_ ?_ _ ?_ _ _ _ _ _ ?_ ?_) <;> (first | ((repeat (with_reducible first | assumption | exact EQ.rf _ | (refine EQ.up ?_ (by assumption)) | (refine EQ.cp ?_ (by assumption)) | (refine EQ.tr ?_ (by assumption)))); done) | omega | decide | (rw [wr_id ⟨by omega, by omega⟩]; omega)))
    | ((with_reducible refine h _ _ ?_) <;> (first | ((repeat (with_reducible first | assumption | exact EQ.rf _ | (refine EQ.up ?_ (by assumption)) | (refine EQ.cp ?_ (by assumption)) | (refine EQ.tr ?_ (by assumption)))); done) | omega | decide | (rw [wr_id ⟨by omega, by omega⟩]; omega)))
theorem s_110 (hr : RI r) (hl3 : l3 < 2147483648) (h : ∀ v g', EQ g g' → Q v g' r) : Ce sc (d + 3) 110 [(2, 0), (0, l1), (0, l2), (0, l3), (0, l4)] g r Q := by
  have k0 : okr 218 0 8 := okd (by decide +kernel)
  have loop : ∀ l3 : Int, l3 < 2147483648 → ∀ l9 : Int, -2147483648 ≤ l9 → ∀ (l2 l4 l5 l6 l7 : Int), okr 218 l5 2 → okr 218 (r l5 1) 7 → l6 ≠ 0 → WQ sc (d + 2) 110 Q 90 [(9, 0), (9, 0), (0, l2), (0, l3), (0, l4), (2, l5), (0, l6), (1, l7), (8, 0), (0, l9), (9, 0)] [] g r := by
    intro l3 hl
    refine upW l3 hl fun l9 _ ih l2 l4 l5 l6 l7 k5 kw hz => ?_
    refine b_110_90 ?_
    repeat' first
      | (with_reducible refine ite_01 ?_)
      | (with_reducible refine ite_00 ?_)
      | (with_reducible refine And.intro ?_ ?_; · first | assumption | decide | (exact AR.i (by assumption) (by omega) (by omega)) | (exact AR.a (by assumption) (by decide) (by decide)) | (exact AR.k (by assumption)) | omega | (have := cmp_gt.mp (by assumption : 0 < cmpL _ 0); omega))
      | (refine ite_c (fun _ => ?_) (fun _ => ?_))
      | (intro _ e1; subst e1)
      | (with_reducible refine s_17 (fun _ => ?_))
      | (with_reducible refine w_123 (fun _ _ => ?_) (fun _ => ?_))
      | (with_reducible refine s_129 hr (fun _ _ _ _ _ _ _ _ _ _ _ _ => ?_) ?_)
      | (exfalso; omega)
      | (exact absurd trivial (by assumption))
      | ((with_reducible refine ih ?_ _ _ _ _ _ k5 kw hz) <;> (first | ((repeat (with_reducible first | assumption | exact EQ.rf _ | (refine EQ.up ?_ (by assumption)) | (refine EQ.cp ?_ (by assumption)) | (refine EQ.tr ?_ (by assumption)))); done) | omega | decide | (rw [wr_id ⟨by omega, by omega⟩]; omega)))
      | ((with_reducible refine h _ _ ?_) <;> (first | ((repeat (with_reducible first | assumption | exact EQ.rf _ | (refine EQ.up ?_ (by assumption)) | (refine EQ.cp ?_ (by assumption)) | (refine EQ.tr ?_ (by assumption)))); done) | omega | decide | (rw [wr_id ⟨by omega, by omega⟩]; omega)))
  refine c_110 ?_
  repeat' first
    | (with_reducible refine ite_01 ?_)
    | (with_reducible refine ite_00 ?_)
    | (with_reducible refine And.intro ?_ ?_; · first | assumption | decide | (exact AR.i (by assumption) (by omega) (by omega)) | (exact AR.a (by assumption) (by decide) (by decide)) | (exact AR.k (by assumption)) | omega | (have := cmp_gt.mp (by assumption : 0 < cmpL _ 0); omega))
    | (refine ite_c (fun _ => ?_) (fun _ => ?_))
    | (intro _ e1; subst e1)
    | (with_reducible refine s_17 (fun _ => ?_))
    | (with_reducible refine w_123 (fun _ _ => ?_) (fun _ => ?_))
    | (with_reducible refine s_129 hr (fun _ _ _ _ _ _ _ _ _ _ _ _ => ?_) ?_)
    | (exfalso; omega)
    | (exact absurd trivial (by assumption))
    | ((with_reducible refine loop _ ?_ _ ?_ _ _ _ _ _ ?_ ?_ ?_) <;> (first | ((repeat (with_reducible first | assumption | exact EQ.rf _ | (refine EQ.up ?_ (by assumption)) | (refine EQ.cp ?_ (by assumption)) | (refine EQ.tr ?_ (by assumption)))); done) | omega | decide | (rw [wr_id ⟨by omega, by omega⟩]; omega)))
    | ((with_reducible refine h _ _ ?_) <;> (first | ((repeat (with_reducible first | assumption | exact EQ.rf _ | (refine EQ.up ?_ (by assumption)) | (refine EQ.cp ?_ (by assumption)) | (refine EQ.tr ?_ (by assumption)))); done) | omega | decide | (rw [wr_id ⟨by omega, by omega⟩]; omega)))
theorem s_113 (hr : RI r) (h : ∀ v, Q v g r) : Ce sc (d + 1) 113 [(2, 0), (0, l1)] g r Q := by
  have k0 : okr 218 0 8 := okd (by decide +kernel)
  have ar61 : AR 61 12 9 := ar_of (by decide +kernel) (by decide +kernel) (by decide +kernel)
  have mr61 := ar61.2.1
  have nr61 := ar61.2.2
  have loop : ∀ l4 : Int, -2147483648 ≤ l4 → 0 ≤ l4 → ∀ l2 : Int, WQ sc d 113 Q 5 [(2, 0), (0, l1), (1, l2), (8, 0), (0, l4)] [] g r := by
    refine upS 1 9 (by decide) (by decide) fun l4 _ ih h0 l2 => ?_
    refine b_113_5 ?_
    repeat' first
      | (with_reducible refine ite_01 ?_)
      | (with_reducible refine ite_00 ?_)
      | (with_reducible refine And.intro ?_ ?_; · first | assumption | decide | (exact AR.i (by assumption) (by omega) (by omega)) | (exact AR.a (by assumption) (by decide) (by decide)) | (exact AR.k (by assumption)) | omega | (have := cmp_gt.mp (by assumption : 0 < cmpL _ 0); omega))
      | (simp only [r_0_15 hr])
      | (refine ite_c (fun _ => ?_) (fun _ => ?_))
      | (intro _ e1; subst e1)
      | (exfalso; omega)
      | (exact absurd trivial (by assumption))
      | ((with_reducible refine ih ?_ ?_ _) <;> (first | ((repeat (with_reducible first | assumption | exact EQ.rf _ | (refine EQ.up ?_ (by assumption)) | (refine EQ.cp ?_ (by assumption)) | (refine EQ.tr ?_ (by assumption)))); done) | omega | decide | (rw [wr_id ⟨by omega, by omega⟩]; omega)))
      | ((with_reducible refine h _))
  exact c_113 (loop 0 (by decide) (by decide) _)
theorem s_114 (hr : RI r) (hc : CI g) (h : ∀ v, Q v g r) : Ce sc (d + 2) 114 [(2, 0), (0, l1)] g r Q := by
  have k0 : okr 218 0 8 := okd (by decide +kernel)
  have k58 : okr 218 58 3 := okd (by decide +kernel)
  have pr58 := pr_58 hr
  obtain ⟨⟨c1, c2⟩, ⟨c3, c4⟩, ⟨c5, c6⟩, ⟨c7, c8⟩, ⟨c9, c10⟩, c11, c12⟩ := hc
  have loop : ∀ l3 : Int, -2147483648 ≤ l3 → 0 ≤ l3 → ∀ l2 : Int, WQ sc (d + 1) 114 Q 4 [(2, 0), (0, l1), (0, l2), (0, l3)] [] g r := by
    refine upS 1 9 (by decide) (by decide) fun l3 _ ih h0 l2 => ?_
    refine b_114_4 ?_
    repeat' first
      | (with_reducible refine ite_01 ?_)
      | (with_reducible refine ite_00 ?_)
      | (with_reducible refine And.intro ?_ ?_; · first | assumption | decide | (exact AR.i (by assumption) (by omega) (by omega)) | (exact AR.a (by assumption) (by decide) (by decide)) | (exact AR.k (by assumption)) | omega | (have := cmp_gt.mp (by assumption : 0 < cmpL _ 0); omega))
      | (simp only [r_0_14 hr])
      | (refine ite_c (fun _ => ?_) (fun _ => ?_))
      | (intro _ e1; subst e1)
      | (with_reducible refine s_26 (by assumption) (fun _ => ?_))
      | (exfalso; omega)
      | (exact absurd trivial (by assumption))
      | ((with_reducible refine ih ?_ ?_ _) <;> (first | ((repeat (with_reducible first | assumption | exact EQ.rf _ | (refine EQ.up ?_ (by assumption)) | (refine EQ.cp ?_ (by assumption)) | (refine EQ.tr ?_ (by assumption)))); done) | omega | decide | (rw [wr_id ⟨by omega, by omega⟩]; omega)))
      | ((with_reducible refine h _))
  exact c_114 (loop 0 (by decide) (by decide) _)
theorem s_112 (hr : RI r) (hc : CI g) (h : ∀ v g', EQ g g' → Q v g' r) : Ce sc (d + 7) 112 [(2, 0), (0, l1), (0, l2), (0, l3), (0, l4)] g r Q := by
  have k0 : okr 218 0 8 := okd (by decide +kernel)
  have h18 := wh_18 hr
  have k18 := h18.1
  have k58 : okr 218 58 3 := okd (by decide +kernel)
  have pr58 := pr_58 hr
  have ar61 : AR 61 12 9 := ar_of (by decide +kernel) (by decide +kernel) (by decide +kernel)
  have mr61 := ar61.2.1
  have nr61 := ar61.2.2
  have loopb : ∀ l9 : Int, -2147483648 ≤ l9 → 0 ≤ l9 → ∀ (l3 l4 l6 l7 : Int) g1, EQ g g1 → WQ sc (d + 6) 112 Q 122 [(2, 0), (9, 0), (9, 0), (0, l3), (0, l4), (9, 0), (0, l6), (1, l7), (8, 0), (0, l9), (9, 0), (9, 0)] [] g1 r := by
    refine upS 1 512 (by decide) (by decide) fun l9 _ ih h0 l3 l4 l6 l7 g1 e0 => ?_
    obtain ⟨⟨c1, c2⟩, ⟨c3, c4⟩, ⟨c5, c6⟩, ⟨c7, c8⟩, ⟨c9, c10⟩, c11, c12⟩ := hc.eq e0
    have c13 := shl9 c9 c10
    refine b_112_122 ?_
    repeat' first
      | (with_reducible refine ite_01 ?_)
      | (with_reducible refine ite_00 ?_)
      | (with_reducible refine And.intro ?_ ?_; · first | assumption | decide | (exact AR.i (by assumption) (by omega) (by omega)) | (exact AR.a (by assumption) (by decide) (by decide)) | (exact AR.k (by assumption)) | omega | (have := cmp_gt.mp (by assumption : 0 < cmpL _ 0); omega))
      | (simp only [r_0_3 hr, r_0_14 hr, r_0_15 hr])
      | (refine ite_c (fun _ => ?_) (fun _ => ?_))
      | (intro _ e1; subst e1)
      | (with_reducible refine s_25 (by assumption) (fun _ => ?_))
      | (with_reducible refine s_56 (by assumption) (by assumption) (fun _ _ _ => ?_))
      | (with_reducible refine s_63 (by assumption) (fun _ _ _ => ?_))
      | (with_reducible refine s_113 hr (fun _ => ?_))
      | (with_reducible refine s_114 hr (CI.eq hc (by (repeat (with_reducible first | assumption | exact EQ.rf _ | (refine EQ.up ?_ (by assumption)) | (refine EQ.cp ?_ (by assumption)) | (refine EQ.tr ?_ (by assumption)))))) (fun _ => ?_))
      | (with_reducible refine w_123 (fun _ _ => ?_) (fun _ => ?_))
      | (with_reducible refine w_124 (fun _ _ => ?_) (fun _ => ?_))
      | (with_reducible refine s_130 hr (fun _ _ _ _ _ _ _ _ => ?_) ?_)
      | (exfalso; omega)
      | (exact absurd trivial (by assumption))
      | ((with_reducible refine ih ?_ ?_ _ _ _ _ _ ?_) <;> (first | ((repeat (with_reducible first | assumption | exact EQ.rf _ | (refine EQ.up ?_ (by assumption)) | (refine EQ.cp ?_ (by assumption)) | (refine EQ.tr ?_ (by assumption)))); done) | omega | decide | (rw [wr_id ⟨by omega, by omega⟩]; omega)))
      | ((with_reducible refine h _ _ ?_) <;> (first | ((repeat (with_reducible first | assumption | exact EQ.rf _ | (refine EQ.up ?_ (by assumption)) | (refine EQ.cp ?_ (by assumption)) | (refine EQ.tr ?_ (by assumption)))); done) | omega | decide | (rw [wr_id ⟨by omega, by omega⟩]; omega)))
  have loopa : ∀ l6 : Int, -2147483648 ≤ l6 → 0 ≤ l6 → ∀ (l2 l3 l4 l5 : Int) g1, okr 218 l5 7 → EQ g g1 → WQ sc (d + 6) 112 Q 47 [(2, 0), (9, 0), (0, l2), (0, l3), (0, l4), (2, l5), (0, l6), (9, 0), (9, 0), (9, 0), (9, 0), (9, 0)] [] g1 r := by
    refine upS 1 9 (by decide) (by decide) fun l6 _ ih h0 l2 l3 l4 l5 g1 k5 e0 => ?_
    obtain ⟨⟨c1, c2⟩, ⟨c3, c4⟩, ⟨c5, c6⟩, ⟨c7, c8⟩, ⟨c9, c10⟩, c11, c12⟩ := hc.eq e0
    refine b_112_47 ?_
    repeat' first
      | (with_reducible refine ite_01 ?_)
      | (with_reducible refine ite_00 ?_)
      | (with_reducible refine And.intro ?_ ?_; · first | assumption | decide | (exact AR.i (by assumption) (by omega) (by omega)) | (exact AR.a (by assumption) (by decide) (by decide)) | (exact AR.k (by assumption)) | omega | (have := cmp_gt.mp (by assumption : 0 < cmpL _ 0); omega))
      | (simp only [r_0_3 hr, r_0_14 hr, r_0_15 hr])
      | (refine ite_c (fun _ => ?_) (fun _ => ?_))
      | (intro _ e1; subst e1)
      | (with_reducible refine s_25 (by assumption) (fun _ => ?_))
      | (with_reducible refine s_56 (by assumption) (by assumption) (fun _ _ _ => ?_))
      | (with_reducible refine s_63 (by assumption) (fun _ _ _ => ?_))
      | (with_reducible refine s_113 hr (fun _ => ?_))
      | (with_reducible refine s_114 hr (CI.eq hc (by (repeat (with_reducible first | assumption | exact EQ.rf _ | (refine EQ.up ?_ (by assumption)) | (refine EQ.cp ?_ (by assumption)) | (refine EQ.tr ?_ (by assumption)))))) (fun _ => ?_))
      | (with_reducible refine w_123 (fun _ _ => ?_) (fun _ => ?_))
      | (with_reducible refine w_124 (fun _ _ => ?_) (fun _ => ?_))
      | (with_reducible refine s_130 hr (fun _ _ _ _ _ _ _ _ => ?_) ?_)
      | (exfalso; omega)
      | (exact absurd trivial (by assumption))
      | ((with_reducible refine ih ?_ ?_ _ _ _ _ _ k5 ?_) <;> (first | ((repeat (with_reducible first | assumption | exact EQ.rf _ | (refine EQ.up ?_ (by assumption)) | (refine EQ.cp ?_ (by assumption)) | (refine EQ.tr ?_ (by assumption)))); done) | omega | decide | (rw [wr_id ⟨by omega, by omega⟩]; omega)))
      | ((with_reducible refine loopb _ ?_ ?_ _ _ _ _ _ ?_) <;> (first | ((repeat (with_reducible first | assumption | exact EQ.rf _ | (refine EQ.up ?_ (by assumption)) | (refine EQ.cp ?_ (by assumption)) | (refine EQ.tr ?_ (by assumption)))); done) | omega | decide | (rw [wr_id ⟨by omega, by omega⟩]; omega)))
      | ((with_reducible refine h _ _ ?_) <;> (first | ((repeat (with_reducible first | assumption | exact EQ.rf _ | (refine EQ.up ?_ (by assumption)) | (refine EQ.cp ?_ (by assumption)) | (refine EQ.tr ?_ (by assumption)))); done) | omega | decide | (rw [wr_id ⟨by omega, by omega⟩]; omega)))
  refine c_112 ?_
  repeat' first
    | (with_reducible refine ite_01 ?_)
    | (with_reducible refine ite_00 ?_)
    | (with_reducible refine And.intro ?_ ?_; · first | assumption | decide | (exact AR.i (by assumption) (by omega) (by omega)) | (exact AR.a (by assumption) (by decide) (by decide)) | (exact AR.k (by assumption)) | omega | (have := cmp_gt.mp (by assumption : 0 < cmpL _ 0); omega))
    | (simp only [r_0_3 hr, r_0_14 hr, r_0_15 hr])
    | (refine ite_c (fun _ => ?_) (fun _ => ?_))
    | (intro _ e1; subst e1)
    | (with_reducible refine s_25 (by assumption) (fun _ => ?_))
    | (with_reducible refine s_56 (by assumption) (by assumption) (fun _ _ _ => ?_))
    | (with_reducible refine s_63 (by assumption) (fun _ _ _ => ?_))
    | (with_reducible refine s_113 hr (fun _ => ?_))
    | (with_reducible refine s_114 hr (CI.eq hc (by (repeat (with_reducible first | assumption | exact EQ.rf _ | (refine EQ.up ?_ (by assumption)) | (refine EQ.cp ?_ (by assumption)) | (refine EQ.tr ?_ (by assumption)))))) (fun _ => ?_))
    | (with_reducible refine w_123 (fun _ _ => ?_) (fun _ => ?_))
    | (with_reducible refine w_124 (fun _ _ => ?_) (fun _ => ?_))
    | (with_reducible refine s_130 hr (fun _ _ _ _ _ _ _ _ => ?_) ?_)
    | (exfalso; omega)
    | (exact absurd trivial (by assumption))
    | ((with_reducible refine loopa _ ?_ ?_ _ _ _ _ _ ?_ ?_) <;> (first | ((repeat (with_reducible first | assumption | exact EQ.rf _ | (refine EQ.up ?_ (by assumption)) | (refine EQ.cp ?_ (by assumption)) | (refine EQ.tr ?_ (by assumption)))); done) | omega | decide | (rw [wr_id ⟨by omega, by omega⟩]; omega)))
    | ((with_reducible refine h _ _ ?_) <;> (first | ((repeat (with_reducible first | assumption | exact EQ.rf _ | (refine EQ.up ?_ (by assumption)) | (refine EQ.cp ?_ (by assumption)) | (refine EQ.tr ?_ (by assumption)))); done) | omega | decide | (rw [wr_id ⟨by omega, by omega⟩]; omega)))
theorem s_115 (hr : RI r) (h : ∀ v g', EQ g g' → Q v g' r) : Ce sc (d + 8) 115 [(2, 0), (0, l1), (0, l2)] g r Q := by
  have k0 : okr 218 0 8 := okd (by decide +kernel)
  have hM := mr_of hr
  have b23 := br_23 hr
  have k23 := b23.1
  have q23 := b23.2.1
  have b34 := br_34 hr
  have k34 := b34.1
  have q34 := b34.2.1
  have ar43 : AR 43 11 6 := ar_of (by decide +kernel) (by decide +kernel) (by decide +kernel)
  have nr43 := ar43.2.2
  have p46 := pl_46 hr
  have hx0 : (0 ≤ l1 ∧ l1 < 6) ∨ ¬ (0 ≤ l1 ∧ l1 < 6) := by omega
  have outer : 0 ≤ l1 → l1 < 6 → ∀ l7 : Int, -2147483648 ≤ l7 → 0 ≤ l7 → ∀ (l2 l3 l4 l5 l6 : Int) g1, EQ g g1 → WQ sc (d + 7) 115 Q 51 [(2, 0), (0, l1), (0, l2), (0, l3), (0, l4), (0, l5), (0, l6), (0, l7)] [] g1 r := by
    intro m0 m6
    refine upS 1 24 (by decide) (by decide) fun l7 _ ih h0 l2 l3 l4 l5 l6 g1 e0 => ?_
    have mid : l7 < 24 → ∀ (l2 l3 l4 l5 l6 : Int) g2, EQ g g2 → WQ sc (d + 7) 115 Q 100 [(2, 0), (0, l1), (0, l2), (0, l3), (0, l4), (0, l5), (0, l6), (0, l7)] [] g2 r := by
      intro hlt l2 l3 l4 l5 l6 g2 e2
      exact b_115_100 (ite_c (fun _ => ih hlt (by rw [wr_id ⟨by omega, by omega⟩]; omega) _ _ _ _ _ _ e2) (fun _ => ih hlt (by rw [wr_id ⟨by omega, by omega⟩]; omega) _ _ _ _ _ _ e2))
    refine b_115_51 ?_
    repeat' first
      | (with_reducible refine ite_01 ?_)
      | (with_reducible refine ite_00 ?_)
      | (with_reducible refine And.intro ?_ ?_; · first | assumption | decide | (exact AR.i (by assumption) (by omega) (by omega)) | (exact AR.a (by assumption) (by decide) (by decide)) | (exact AR.k (by assumption)) | omega | (have := cmp_gt.mp (by assumption : 0 < cmpL _ 0); omega))
      | (simp only [r_0_1 hr, r_0_4 hr, r_0_5 hr, r_0_8 hr, r_34_12 hr])
      | (refine ite_c (fun _ => ?_) (fun _ => ?_))
      | (intro _ e1; subst e1)
      | (with_reducible refine s_1 (by assumption) (by assumption) (fun _ _ _ => ?_))
      | (with_reducible refine s_5 (by assumption) (by assumption) (by assumption) (fun _ _ _ => ?_))
      | (with_reducible refine w_123 (fun _ _ => ?_) (fun _ => ?_))
      | (with_reducible refine s_128 hr ?_ ?_)
      | (with_reducible refine s_129 hr (fun _ _ _ _ _ _ _ _ _ _ _ _ => ?_) ?_)
      | (exfalso; omega)
      | (exact absurd trivial (by assumption))
      | ((with_reducible refine mid ?_ _ _ _ _ _ _ ?_) <;> (first | ((repeat (with_reducible first | assumption | exact EQ.rf _ | (refine EQ.up ?_ (by assumption)) | (refine EQ.cp ?_ (by assumption)) | (refine EQ.tr ?_ (by assumption)))); done) | omega | decide | (rw [wr_id ⟨by omega, by omega⟩]; omega)))
      | ((with_reducible refine h _ _ ?_) <;> (first | ((repeat (with_reducible first | assumption | exact EQ.rf _ | (refine EQ.up ?_ (by assumption)) | (refine EQ.cp ?_ (by assumption)) | (refine EQ.tr ?_ (by assumption)))); done) | omega | decide | (rw [wr_id ⟨by omega, by omega⟩]; omega)))
  refine c_115 ?_
  repeat' first
    | (with_reducible refine ite_01 ?_)
    | (with_reducible refine ite_00 ?_)
    | (with_reducible refine And.intro ?_ ?_; · first | assumption | decide | (exact AR.i (by assumption) (by omega) (by omega)) | (exact AR.a (by assumption) (by decide) (by decide)) | (exact AR.k (by assumption)) | omega | (have := cmp_gt.mp (by assumption : 0 < cmpL _ 0); omega))
    | (simp only [r_0_1 hr, r_0_4 hr, r_0_5 hr, r_0_8 hr, r_34_12 hr])
    | (refine ite_c (fun _ => ?_) (fun _ => ?_))
    | (intro _ e1; subst e1)
    | (with_reducible refine s_1 (by assumption) (by assumption) (fun _ _ _ => ?_))
    | (with_reducible refine s_5 (by assumption) (by assumption) (by assumption) (fun _ _ _ => ?_))
    | (with_reducible refine w_123 (fun _ _ => ?_) (fun _ => ?_))
    | (with_reducible refine s_128 hr ?_ ?_)
    | (with_reducible refine s_129 hr (fun _ _ _ _ _ _ _ _ _ _ _ _ => ?_) ?_)
    | (exfalso; omega)
    | (exact absurd trivial (by assumption))
    | ((with_reducible refine outer ?_ ?_ _ ?_ ?_ _ _ _ _ _ _ ?_) <;> (first | ((repeat (with_reducible first | assumption | exact EQ.rf _ | (refine EQ.up ?_ (by assumption)) | (refine EQ.cp ?_ (by assumption)) | (refine EQ.tr ?_ (by assumption)))); done) | omega | decide | (rw [wr_id ⟨by omega, by omega⟩]; omega)))
    | ((with_reducible refine h _ _ ?_) <;> (first | ((repeat (with_reducible first | assumption | exact EQ.rf _ | (refine EQ.up ?_ (by assumption)) | (refine EQ.cp ?_ (by assumption)) | (refine EQ.tr ?_ (by assumption)))); done) | omega | decide | (rw [wr_id ⟨by omega, by omega⟩]; omega)))
theorem s_116 (hr : RI r) (h : ∀ v g', EQ g g' → Q v g' r) : Ce sc (d + 8) 116 [(2, 0), (0, l1)] g r Q := by
  have k0 : okr 218 0 8 := okd (by decide +kernel)
  have hM := mr_of hr
  have b23 := br_23 hr
  have k23 := b23.1
  have q23 := b23.2.1
  have b34 := br_34 hr
  have k34 := b34.1
  have q34 := b34.2.1
  have ar42 : AR 42 11 6 := ar_of (by decide +kernel) (by decide +kernel) (by decide +kernel)
  have nr42 := ar42.2.2
  have p46 := pl_46 hr
  have outer : 0 ≤ l1 → l1 < 6 → ∀ l2 : Int, -2147483648 ≤ l2 → 0 ≤ l2 → ∀ g1, EQ g g1 → WQ sc (d + 7) 116 Q 30 [(2, 0), (0, l1), (0, l2)] [] g1 r := by
    intro m0 m6
    refine upS 1 24 (by decide) (by decide) fun l2 _ ih h0 g1 e0 => ?_
    refine b_116_30 ?_
    repeat' first
      | (with_reducible refine ite_01 ?_)
      | (with_reducible refine ite_00 ?_)
      | (with_reducible refine And.intro ?_ ?_; · first | assumption | decide | (exact AR.i (by assumption) (by omega) (by omega)) | (exact AR.a (by assumption) (by decide) (by decide)) | (exact AR.k (by assumption)) | omega | (have := cmp_gt.mp (by assumption : 0 < cmpL _ 0); omega))
      | (simp only [r_0_1 hr, r_0_4 hr, r_0_5 hr, r_0_8 hr, r_34_11 hr])
      | (refine ite_c (fun _ => ?_) (fun _ => ?_))
      | (intro _ e1; subst e1)
      | (with_reducible refine s_1 (by assumption) (by assumption) (fun _ _ _ => ?_))
      | (with_reducible refine s_5 (by assumption) (by assumption) (by assumption) (fun _ _ _ => ?_))
      | (with_reducible refine s_128 hr ?_ ?_)
      | (with_reducible refine s_129 hr (fun _ _ _ _ _ _ _ _ _ _ _ _ => ?_) ?_)
      | (exfalso; omega)
      | (exact absurd trivial (by assumption))
      | ((with_reducible refine ih ?_ ?_ _ ?_) <;> (first | ((repeat (with_reducible first | assumption | exact EQ.rf _ | (refine EQ.up ?_ (by assumption)) | (refine EQ.cp ?_ (by assumption)) | (refine EQ.tr ?_ (by assumption)))); done) | omega | decide | (rw [wr_id ⟨by omega, by omega⟩]; omega)))
      | ((with_reducible refine h _ _ ?_) <;> (first | ((repeat (with_reducible first | assumption | exact EQ.rf _ | (refine EQ.up ?_ (by assumption)) | (refine EQ.cp ?_ (by assumption)) | (refine EQ.tr ?_ (by assumption)))); done) | omega | decide | (rw [wr_id ⟨by omega, by omega⟩]; omega)))
  refine c_116 ?_
  repeat' first
    | (with_reducible refine ite_01 ?_)
    | (with_reducible refine ite_00 ?_)
    | (with_reducible refine And.intro ?_ ?_; · first | assumption | decide | (exact AR.i (by assumption) (by omega) (by omega)) | (exact AR.a (by assumption) (by decide) (by decide)) | (exact AR.k (by assumption)) | omega | (have := cmp_gt.mp (by assumption : 0 < cmpL _ 0); omega))
    | (simp only [r_0_1 hr, r_0_4 hr, r_0_5 hr, r_0_8 hr, r_34_11 hr])
    | (refine ite_c (fun _ => ?_) (fun _ => ?_))
    | (intro _ e1; subst e1)
    | (with_reducible refine s_1 (by assumption) (by assumption) (fun _ _ _ => ?_))
    | (with_reducible refine s_5 (by assumption) (by assumption) (by assumption) (fun _ _ _ => ?_))
    | (with_reducible refine s_128 hr ?_ ?_)
    | (with_reducible refine s_129 hr (fun _ _ _ _ _ _ _ _ _ _ _ _ => ?_) ?_)
    | (exfalso; omega)
    | (exact absurd trivial (by assumption))
    | ((with_reducible refine outer ?_ ?_ _ ?_ ?_ _ ?_) <;> (first | ((repeat (with_reducible first | assumption | exact EQ.rf _ | (refine EQ.up ?_ (by assumption)) | (refine EQ.cp ?_ (by assumption)) | (refine EQ.tr ?_ (by assumption)))); done) | omega | decide | (rw [wr_id ⟨by omega, by omega⟩]; omega)))
    | ((with_reducible refine h _ _ ?_) <;> (first | ((repeat (with_reducible first | assumption | exact EQ.rf _ | (refine EQ.up ?_ (by assumption)) | (refine EQ.cp ?_ (by assumption)) | (refine EQ.tr ?_ (by assumption)))); done) | omega | decide | (rw [wr_id ⟨by omega, by omega⟩]; omega)))
theorem s_118 (hr : RI r) (hc : CI g) (h : ∀ v g', EQ g g' → Q v g' r) : Ce sc (d + 8) 118 [(2, 0), (0, l1), (0, l2)] g r Q := by
  have k0 : okr 218 0 8 := okd (by decide +kernel)
  have hM := mr_of hr
  have b23 := br_23 hr
  have k23 := b23.1
  have q23 := b23.2.1
  have ar28 : AR 28 12 6 := ar_of (by decide +kernel) (by decide +kernel) (by decide +kernel)
  have nr28 := ar28.2.2
  have b34 := br_34 hr
  have k34 := b34.1
  have q34 := b34.2.1
  have ar39 : AR 39 12 6 := ar_of (by decide +kernel) (by decide +kernel) (by decide +kernel)
  have nr39 := ar39.2.2
  have p48 := pl_48 hr
  have k48 := p48.1
  have ar49 : AR 49 11 6 := ar_of (by decide +kernel) (by decide +kernel) (by decide +kernel)
  have nr49 := ar49.2.2
  have k62 : okr 218 62 3 := okd (by decide +kernel)
  have pr62 := pr_62 hr
  have outer : 0 ≤ l1 → l1 < 6 → ∀ l6 : Int, -2147483648 ≤ l6 → 0 ≤ l6 → ∀ (l3 l5 : Int) g1, EQ g g1 → WQ sc (d + 7) 118 Q 67 [(2, 0), (0, l1), (9, 0), (1, l3), (8, 0), (0, l5), (0, l6), (9, 0), (9, 0), (9, 0)] [] g1 r := by
    intro m0 m6
    refine upS 1 25 (by decide) (by decide) fun l6 _ ih h6 l3 l5 g1 e0 => ?_
    have inner : l6 < 25 → ∀ l9 : Int, -2147483648 ≤ l9 → 0 ≤ l9 → ∀ (l3 l5 l7 : Int) g2, EQ g g2 → WQ sc (d + 7) 118 Q 113 [(2, 0), (0, l1), (9, 0), (1, l3), (8, 0), (0, l5), (0, l6), (1, l7), (8, 0), (0, l9)] [] g2 r := by
      intro hlt
      refine upS 1 8 (by decide) (by decide) fun l9 _ ih2 h9 l3 l5 l7 g2 e2 => ?_
      obtain ⟨⟨c1, c2⟩, ⟨c3, c4⟩, ⟨c5, c6⟩, ⟨c7, c8⟩, ⟨c9, c10⟩, c11, c12⟩ := hc.eq e2
      refine b_118_113 ?_
      repeat' first
        | (with_reducible refine ite_01 ?_)
        | (with_reducible refine ite_00 ?_)
        | (with_reducible refine And.intro ?_ ?_; · first | assumption | decide | (exact AR.i (by assumption) (by omega) (by omega)) | (exact AR.a (by assumption) (by decide) (by decide)) | (exact AR.k (by assumption)) | omega | (have := cmp_gt.mp (by assumption : 0 < cmpL _ 0); omega))
        | (simp only [r_0_1 hr, r_0_4 hr, r_0_5 hr, r_0_9 hr, r_0_16 hr, r_23_8 hr, r_34_8 hr, r_48_0 hr])
        | (refine ite_c (fun _ => ?_) (fun _ => ?_))
        | (intro _ e1; subst e1)
        | (with_reducible refine s_1 (by assumption) (by assumption) (fun _ _ _ => ?_))
        | (with_reducible refine s_5 (by assumption) (by assumption) (by assumption) (fun _ _ _ => ?_))
        | (with_reducible refine s_25 (by assumption) (fun _ => ?_))
        | (with_reducible refine s_26 (by assumption) (fun _ => ?_))
        | (with_reducible refine s_28 (by assumption) (fun _ _ _ => ?_))
        | (with_reducible refine w_123 (fun _ _ => ?_) (fun _ => ?_))
        | (with_reducible refine s_128 hr ?_ ?_)
        | (with_reducible refine s_129 hr (fun _ _ _ _ _ _ _ _ _ _ _ _ => ?_) ?_)
        | (exfalso; omega)
        | (exact absurd trivial (by assumption))
        | ((with_reducible refine ih2 ?_ ?_ _ _ _ _ ?_) <;> (first | ((repeat (with_reducible first | assumption | exact EQ.rf _ | (refine EQ.up ?_ (by assumption)) | (refine EQ.cp ?_ (by assumption)) | (refine EQ.tr ?_ (by assumption)))); done) | omega | decide | (rw [wr_id ⟨by omega, by omega⟩]; omega)))
        | ((with_reducible refine ih hlt ?_ _ _ _ ?_) <;> (first | ((repeat (with_reducible first | assumption | exact EQ.rf _ | (refine EQ.up ?_ (by assumption)) | (refine EQ.cp ?_ (by assumption)) | (refine EQ.tr ?_ (by assumption)))); done) | omega | decide | (rw [wr_id ⟨by omega, by omega⟩]; omega)))
        | ((with_reducible refine h _ _ ?_) <;> (first | ((repeat (with_reducible first | assumption | exact EQ.rf _ | (refine EQ.up ?_ (by assumption)) | (refine EQ.cp ?_ (by assumption)) | (refine EQ.tr ?_ (by assumption)))); done) | omega | decide | (rw [wr_id ⟨by omega, by omega⟩]; omega)))
    refine b_118_67 ?_
    repeat' first
      | (with_reducible refine ite_01 ?_)
      | (with_reducible refine ite_00 ?_)
      | (with_reducible refine And.intro ?_ ?_; · first | assumption | decide | (exact AR.i (by assumption) (by omega) (by omega)) | (exact AR.a (by assumption) (by decide) (by decide)) | (exact AR.k (by assumption)) | omega | (have := cmp_gt.mp (by assumption : 0 < cmpL _ 0); omega))
      | (simp only [r_0_1 hr, r_0_4 hr, r_0_5 hr, r_0_9 hr, r_0_16 hr, r_23_8 hr, r_34_8 hr, r_48_0 hr])
      | (refine ite_c (fun _ => ?_) (fun _ => ?_))
      | (intro _ e1; subst e1)
      | (with_reducible refine s_1 (by assumption) (by assumption) (fun _ _ _ => ?_))
      | (with_reducible refine s_5 (by assumption) (by assumption) (by assumption) (fun _ _ _ => ?_))
      | (with_reducible refine s_25 (by assumption) (fun _ => ?_))
      | (with_reducible refine s_26 (by assumption) (fun _ => ?_))
      | (with_reducible refine s_28 (by assumption) (fun _ _ _ => ?_))
      | (with_reducible refine w_123 (fun _ _ => ?_) (fun _ => ?_))
      | (with_reducible refine s_128 hr ?_ ?_)
      | (with_reducible refine s_129 hr (fun _ _ _ _ _ _ _ _ _ _ _ _ => ?_) ?_)
      | (exfalso; omega)
      | (exact absurd trivial (by assumption))
      | ((with_reducible refine inner ?_ _ ?_ ?_ _ _ _ _ ?_) <;> (first | ((repeat (with_reducible first | assumption | exact EQ.rf _ | (refine EQ.up ?_ (by assumption)) | (refine EQ.cp ?_ (by assumption)) | (refine EQ.tr ?_ (by assumption)))); done) | omega | decide | (rw [wr_id ⟨by omega, by omega⟩]; omega)))
      | ((with_reducible refine h _ _ ?_) <;> (first | ((repeat (with_reducible first | assumption | exact EQ.rf _ | (refine EQ.up ?_ (by assumption)) | (refine EQ.cp ?_ (by assumption)) | (refine EQ.tr ?_ (by assumption)))); done) | omega | decide | (rw [wr_id ⟨by omega, by omega⟩]; omega)))
  refine c_118 ?_
  repeat' first
    | (with_reducible refine ite_01 ?_)
    | (with_reducible refine ite_00 ?_)
    | (with_reducible refine And.intro ?_ ?_; · first | assumption | decide | (exact AR.i (by assumption) (by omega) (by omega)) | (exact AR.a (by assumption) (by decide) (by decide)) | (exact AR.k (by assumption)) | omega | (have := cmp_gt.mp (by assumption : 0 < cmpL _ 0); omega))
    | (simp only [r_0_1 hr, r_0_4 hr, r_0_5 hr, r_0_9 hr, r_0_16 hr, r_23_8 hr, r_34_8 hr, r_48_0 hr])
    | (refine ite_c (fun _ => ?_) (fun _ => ?_))
    | (intro _ e1; subst e1)
    | (with_reducible refine s_1 (by assumption) (by assumption) (fun _ _ _ => ?_))
    | (with_reducible refine s_5 (by assumption) (by assumption) (by assumption) (fun _ _ _ => ?_))
    | (with_reducible refine s_25 (by assumption) (fun _ => ?_))
    | (with_reducible refine s_26 (by assumption) (fun _ => ?_))
    | (with_reducible refine s_28 (by assumption) (fun _ _ _ => ?_))
    | (with_reducible refine w_123 (fun _ _ => ?_) (fun _ => ?_))
    | (with_reducible refine s_128 hr ?_ ?_)
    | (with_reducible refine s_129 hr (fun _ _ _ _ _ _ _ _ _ _ _ _ => ?_) ?_)
    | (exfalso; omega)
    | (exact absurd trivial (by assumption))
    | ((with_reducible refine outer ?_ ?_ _ ?_ ?_ _ _ _ ?_) <;> (first | ((repeat (with_reducible first | assumption | exact EQ.rf _ | (refine EQ.up ?_ (by assumption)) | (refine EQ.cp ?_ (by assumption)) | (refine EQ.tr ?_ (by assumption)))); done) | omega | decide | (rw [wr_id ⟨by omega, by omega⟩]; omega)))
    | ((with_reducible refine h _ _ ?_) <;> (first | ((repeat (with_reducible first | assumption | exact EQ.rf _ | (refine EQ.up ?_ (by assumption)) | (refine EQ.cp ?_ (by assumption)) | (refine EQ.tr ?_ (by assumption)))); done) | omega | decide | (rw [wr_id ⟨by omega, by omega⟩]; omega)))
theorem s_119 (hr : RI r) (h : ∀ v g', EQ g g' → Q v g' r) : Ce sc (d + 7) 119 [(2, 0), (0, l1), (0, l2), (0, l3)] g r Q := by
  have k0 : okr 218 0 8 := okd (by decide +kernel)
  have b23 := br_23 hr
  have k23 := b23.1
  have q23 := b23.2.1
  have ar24 : AR 24 11 40 := ar_of (by decide +kernel) (by decide +kernel) (by decide +kernel)
  have nr24 := ar24.2.2
  have ar25 : AR 25 11 40 := ar_of (by decide +kernel) (by decide +kernel) (by decide +kernel)
  have nr25 := ar25.2.2
  have outer : ∀ l6 : Int, -2147483648 ≤ l6 → 0 ≤ l6 → ∀ (l2 l3 l4 l5 : Int) g1, okr 218 l4 2 → WH r (r l4 1) → EQ g g1 → WQ sc (d + 6) 119 Q 25 [(2, 0), (9, 0), (0, l2), (0, l3), (2, l4), (0, l5), (0, l6), (9, 0), (9, 0)] [] g1 r := by
    refine upS 1 40 (by decide) (by decide) fun l6 _ ih h0 l2 l3 l4 l5 g1 k4 hw e0 => ?_
    have kw := hw.1
    refine b_119_25 ?_
    repeat' first
      | (with_reducible refine ite_01 ?_)
      | (with_reducible refine ite_00 ?_)
      | (with_reducible refine And.intro ?_ ?_; · first | assumption | decide | (exact AR.i (by assumption) (by omega) (by omega)) | (exact AR.a (by assumption) (by decide) (by decide)) | (exact AR.k (by assumption)) | omega | (have := cmp_gt.mp (by assumption : 0 < cmpL _ 0); omega))
      | (simp only [r_0_4 hr, r_23_4 hr, r_23_5 hr])
      | (refine ite_c (fun _ => ?_) (fun _ => ?_))
      | (intro _ e1; subst e1)
      | (with_reducible refine s_63 (by assumption) (fun _ _ _ => ?_))
      | (with_reducible refine s_129 hr (fun _ _ _ _ _ _ _ _ _ _ _ _ => ?_) ?_)
      | (exfalso; omega)
      | (exact absurd trivial (by assumption))
      | ((with_reducible refine ih ?_ ?_ _ _ _ _ _ k4 hw ?_) <;> (first | ((repeat (with_reducible first | assumption | exact EQ.rf _ | (refine EQ.up ?_ (by assumption)) | (refine EQ.cp ?_ (by assumption)) | (refine EQ.tr ?_ (by assumption)))); done) | omega | decide | (rw [wr_id ⟨by omega, by omega⟩]; omega)))
      | ((with_reducible refine h _ _ ?_) <;> (first | ((repeat (with_reducible first | assumption | exact EQ.rf _ | (refine EQ.up ?_ (by assumption)) | (refine EQ.cp ?_ (by assumption)) | (refine EQ.tr ?_ (by assumption)))); done) | omega | decide | (rw [wr_id ⟨by omega, by omega⟩]; omega)))
  refine c_119 ?_
  repeat' first
    | (with_reducible refine ite_01 ?_)
    | (with_reducible refine ite_00 ?_)
    | (with_reducible refine And.intro ?_ ?_; · first | assumption | decide | (exact AR.i (by assumption) (by omega) (by omega)) | (exact AR.a (by assumption) (by decide) (by decide)) | (exact AR.k (by assumption)) | omega | (have := cmp_gt.mp (by assumption : 0 < cmpL _ 0); omega))
    | (simp only [r_0_4 hr, r_23_4 hr, r_23_5 hr])
    | (refine ite_c (fun _ => ?_) (fun _ => ?_))
    | (intro _ e1; subst e1)
    | (with_reducible refine s_63 (by assumption) (fun _ _ _ => ?_))
    | (with_reducible refine s_129 hr (fun _ _ _ _ _ _ _ _ _ _ _ _ => ?_) ?_)
    | (exfalso; omega)
    | (exact absurd trivial (by assumption))
    | ((with_reducible refine outer _ ?_ ?_ _ _ _ _ _ ?_ ?_ ?_) <;> (first | ((repeat (with_reducible first | assumption | exact EQ.rf _ | (refine EQ.up ?_ (by assumption)) | (refine EQ.cp ?_ (by assumption)) | (refine EQ.tr ?_ (by assumption)))); done) | omega | decide | (rw [wr_id ⟨by omega, by omega⟩]; omega)))
    | ((with_reducible refine h _ _ ?_) <;> (first | ((repeat (with_reducible first | assumption | exact EQ.rf _ | (refine EQ.up ?_ (by assumption)) | (refine EQ.cp ?_ (by assumption)) | (refine EQ.tr ?_ (by assumption)))); done) | omega | decide | (rw [wr_id ⟨by omega, by omega⟩]; omega)))
theorem s_78 (hr : RI r) (k1 : okr 218 l1 7) (hl3 : l3 ≤ 40) (hl2 : -2147483648 ≤ l2) (h : ∀ v g', EQ g g' → Q v g' r) : Ce sc (d + 7) 78 [(2, 0), (2, l1), (0, l2), (0, l3), (0, l4), (1, l5)] g r Q := by
  have k0 : okr 218 0 8 := okd (by decide +kernel)
  have h18 := wh_18 hr
  have k18 := h18.1
  have outer : l3 ≤ 40 → ∀ l8 : Int, -2147483648 ≤ l8 → ∀ (l7 : Int) g1, EQ g g1 → WQ sc (d + 6) 78 Q 6 [(2, 0), (2, l1), (9, 0), (0, l3), (0, l4), (1, l5), (8, 0), (0, l7), (0, l8), (9, 0)] [] g1 r := by
    intro hl
    refine upS 1 41 (by decide) (by decide) fun l8 _ ih l7 g1 e0 => ?_
    have inner : l8 < 41 → ∀ l9 : Int, -2147483648 ≤ l9 → ∀ (l7 : Int) g2, EQ g g2 → WQ sc (d + 6) 78 Q 15 [(2, 0), (2, l1), (9, 0), (0, l3), (0, l4), (1, l5), (8, 0), (0, l7), (0, l8), (0, l9)] [] g2 r := by
      intro hlt
      refine upS 4 81 (by decide) (by decide) fun l9 _ ih2 l7 g2 e2 => ?_
      refine b_78_15 ?_
      repeat' first
        | (with_reducible refine ite_01 ?_)
        | (with_reducible refine ite_00 ?_)
        | (with_reducible refine And.intro ?_ ?_; · first | assumption | decide | (exact AR.i (by assumption) (by omega) (by omega)) | (exact AR.a (by assumption) (by decide) (by decide)) | (exact AR.k (by assumption)) | omega | (have := cmp_gt.mp (by assumption : 0 < cmpL _ 0); omega))
        | (simp only [r_0_3 hr])
        | (refine ite_c (fun _ => ?_) (fun _ => ?_))
        | (intro _ e1; subst e1)
        | (with_reducible refine s_56 (by assumption) (by assumption) (fun _ _ _ => ?_))
        | (with_reducible refine s_63 (by assumption) (fun _ _ _ => ?_))
        | (exfalso; omega)
        | (exact absurd trivial (by assumption))
        | ((with_reducible refine ih2 ?_ _ _ ?_) <;> (first | ((repeat (with_reducible first | assumption | exact EQ.rf _ | (refine EQ.up ?_ (by assumption)) | (refine EQ.cp ?_ (by assumption)) | (refine EQ.tr ?_ (by assumption)))); done) | omega | decide | (rw [wr_id ⟨by omega, by omega⟩]; omega)))
        | ((with_reducible refine ih hlt _ _ ?_) <;> (first | ((repeat (with_reducible first | assumption | exact EQ.rf _ | (refine EQ.up ?_ (by assumption)) | (refine EQ.cp ?_ (by assumption)) | (refine EQ.tr ?_ (by assumption)))); done) | omega | decide | (rw [wr_id ⟨by omega, by omega⟩]; omega)))
        | ((with_reducible refine h _ _ ?_) <;> (first | ((repeat (with_reducible first | assumption | exact EQ.rf _ | (refine EQ.up ?_ (by assumption)) | (refine EQ.cp ?_ (by assumption)) | (refine EQ.tr ?_ (by assumption)))); done) | omega | decide | (rw [wr_id ⟨by omega, by omega⟩]; omega)))
    refine b_78_6 ?_
    repeat' first
      | (with_reducible refine ite_01 ?_)
      | (with_reducible refine ite_00 ?_)
      | (with_reducible refine And.intro ?_ ?_; · first | assumption | decide | (exact AR.i (by assumption) (by omega) (by omega)) | (exact AR.a (by assumption) (by decide) (by decide)) | (exact AR.k (by assumption)) | omega | (have := cmp_gt.mp (by assumption : 0 < cmpL _ 0); omega))
      | (simp only [r_0_3 hr])
      | (refine ite_c (fun _ => ?_) (fun _ => ?_))
      | (intro _ e1; subst e1)
      | (with_reducible refine s_56 (by assumption) (by assumption) (fun _ _ _ => ?_))
      | (with_reducible refine s_63 (by assumption) (fun _ _ _ => ?_))
      | (exfalso; omega)
      | (exact absurd trivial (by assumption))
      | ((with_reducible refine inner ?_ _ ?_ _ _ ?_) <;> (first | ((repeat (with_reducible first | assumption | exact EQ.rf _ | (refine EQ.up ?_ (by assumption)) | (refine EQ.cp ?_ (by assumption)) | (refine EQ.tr ?_ (by assumption)))); done) | omega | decide | (rw [wr_id ⟨by omega, by omega⟩]; omega)))
      | ((with_reducible refine h _ _ ?_) <;> (first | ((repeat (with_reducible first | assumption | exact EQ.rf _ | (refine EQ.up ?_ (by assumption)) | (refine EQ.cp ?_ (by assumption)) | (refine EQ.tr ?_ (by assumption)))); done) | omega | decide | (rw [wr_id ⟨by omega, by omega⟩]; omega)))
  exact c_78 (outer hl3 _ hl2 _ _ (EQ.rf g))
theorem s_77 (hr : RI r) (h : ∀ v g', EQ g g' → Q v g' r) : Ce sc (d + 8) 77 [(2, 0), (0, l1), (0, l2), (0, l3), (0, l4), (0, l5)] g r Q := by
  have k0 : okr 218 0 8 := okd (by decide +kernel)
  have h18 := wh_18 hr
  have k18 := h18.1
  have outer : l3 ≤ 40 → 2 ≤ l2 → ∀ l15 : Int, -2147483648 ≤ l15 → ∀ (l6 l7 l8 l9 l10 l11 l13 : Int) g1, okr 218 l6 2 → okr 218 (r l6 1) 7 → EQ g g1 → WQ sc (d + 7) 77 Q 91 [(2, 0), (9, 0), (0, l2), (0, l3), (9, 0), (0, l5), (2, l6), (0, l7), (0, l8), (0, l9), (0, l10), (1, l11), (8, 0), (1, l13), (8, 0), (0, l15), (9, 0), (9, 0), (9, 0), (9, 0), (9, 0)] [] g1 r := by
    intro hl hl2
    refine upS 1 41 (by decide) (by decide) fun l15 _ ih l6 l7 l8 l9 l10 l11 l13 g1 k6 kw e0 => ?_
    have inner : l15 < 41 → ∀ l16 : Int, -2147483648 ≤ l16 → ∀ (l9 l10 l11 l13 : Int) g2, EQ g g2 → WQ sc (d + 7) 77 Q 100 [(2, 0), (9, 0), (0, l2), (0, l3), (9, 0), (0, l5), (2, l6), (0, l7), (0, l8), (0, l9), (0, l10), (1, l11), (8, 0), (1, l13), (8, 0), (0, l15), (0, l16), (9, 0), (9, 0), (9, 0), (9, 0)] [] g2 r := by
      intro hlt
      refine upS 4 81 (by decide) (by decide) fun l16 _ ih2 l9 l10 l11 l13 g2 e2 => ?_
      refine b_77_100 ?_
      repeat' first
        | (with_reducible refine ite_01 ?_)
        | (with_reducible refine ite_00 ?_)
        | (with_reducible refine And.intro ?_ ?_; · first | assumption | decide | (exact AR.i (by assumption) (by omega) (by omega)) | (exact AR.a (by assumption) (by decide) (by decide)) | (exact AR.k (by assumption)) | omega | (have := cmp_gt.mp (by assumption : 0 < cmpL _ 0); omega))
        | (simp only [r_0_3 hr])
        | (refine ite_c (fun _ => ?_) (fun _ => ?_))
        | (intro _ e1; subst e1)
        | (with_reducible refine s_56 (by assumption) (by assumption) (fun _ _ _ => ?_))
        | (with_reducible refine s_63 (by assumption) (fun _ _ _ => ?_))
        | (with_reducible refine s_78 hr (by assumption) (by omega) (by omega) (fun _ _ _ => ?_))
        | (with_reducible refine w_123 (fun _ _ => ?_) (fun _ => ?_))
        | (with_reducible refine s_129 hr (fun _ _ _ _ _ _ _ _ _ _ _ _ => ?_) ?_)
        | (exfalso; omega)
        | (exact absurd trivial (by assumption))
        | ((with_reducible refine ih2 ?_ _ _ _ _ _ ?_) <;> (first | ((repeat (with_reducible first | assumption | exact EQ.rf _ | (refine EQ.up ?_ (by assumption)) | (refine EQ.cp ?_ (by assumption)) | (refine EQ.tr ?_ (by assumption)))); done) | omega | decide | (rw [wr_id ⟨by omega, by omega⟩]; omega)))
        | ((with_reducible refine ih hlt _ _ _ _ _ _ _ _ k6 kw ?_) <;> (first | ((repeat (with_reducible first | assumption | exact EQ.rf _ | (refine EQ.up ?_ (by assumption)) | (refine EQ.cp ?_ (by assumption)) | (refine EQ.tr ?_ (by assumption)))); done) | omega | decide | (rw [wr_id ⟨by omega, by omega⟩]; omega)))
        | ((with_reducible refine h _ _ ?_) <;> (first | ((repeat (with_reducible first | assumption | exact EQ.rf _ | (refine EQ.up ?_ (by assumption)) | (refine EQ.cp ?_ (by assumption)) | (refine EQ.tr ?_ (by assumption)))); done) | omega | decide | (rw [wr_id ⟨by omega, by omega⟩]; omega)))
    refine b_77_91 ?_
    repeat' first
      | (with_reducible refine ite_01 ?_)
      | (with_reducible refine ite_00 ?_)
      | (with_reducible refine And.intro ?_ ?_; · first | assumption | decide | (exact AR.i (by assumption) (by omega) (by omega)) | (exact AR.a (by assumption) (by decide) (by decide)) | (exact AR.k (by assumption)) | omega | (have := cmp_gt.mp (by assumption : 0 < cmpL _ 0); omega))
      | (simp only [r_0_3 hr])
      | (refine ite_c (fun _ => ?_) (fun _ => ?_))
      | (intro _ e1; subst e1)
      | (with_reducible refine s_56 (by assumption) (by assumption) (fun _ _ _ => ?_))
      | (with_reducible refine s_63 (by assumption) (fun _ _ _ => ?_))
      | (with_reducible refine s_78 hr (by assumption) (by omega) (by omega) (fun _ _ _ => ?_))
      | (with_reducible refine w_123 (fun _ _ => ?_) (fun _ => ?_))
      | (with_reducible refine s_129 hr (fun _ _ _ _ _ _ _ _ _ _ _ _ => ?_) ?_)
      | (exfalso; omega)
      | (exact absurd trivial (by assumption))
      | ((with_reducible refine inner ?_ _ ?_ _ _ _ _ _ ?_) <;> (first | ((repeat (with_reducible first | assumption | exact EQ.rf _ | (refine EQ.up ?_ (by assumption)) | (refine EQ.cp ?_ (by assumption)) | (refine EQ.tr ?_ (by assumption)))); done) | omega | decide | (rw [wr_id ⟨by omega, by omega⟩]; omega)))
      | ((with_reducible refine h _ _ ?_) <;> (first | ((repeat (with_reducible first | assumption | exact EQ.rf _ | (refine EQ.up ?_ (by assumption)) | (refine EQ.cp ?_ (by assumption)) | (refine EQ.tr ?_ (by assumption)))); done) | omega | decide | (rw [wr_id ⟨by omega, by omega⟩]; omega)))
  refine c_77 ?_
  repeat' first
    | (with_reducible refine ite_01 ?_)
    | (with_reducible refine ite_00 ?_)
    | (with_reducible refine And.intro ?_ ?_; · first | assumption | decide | (exact AR.i (by assumption) (by omega) (by omega)) | (exact AR.a (by assumption) (by decide) (by decide)) | (exact AR.k (by assumption)) | omega | (have := cmp_gt.mp (by assumption : 0 < cmpL _ 0); omega))
    | (simp only [r_0_3 hr])
    | (refine ite_c (fun _ => ?_) (fun _ => ?_))
    | (intro _ e1; subst e1)
    | (with_reducible refine s_56 (by assumption) (by assumption) (fun _ _ _ => ?_))
    | (with_reducible refine s_63 (by assumption) (fun _ _ _ => ?_))
    | (with_reducible refine s_78 hr (by assumption) (by omega) (by omega) (fun _ _ _ => ?_))
    | (with_reducible refine w_123 (fun _ _ => ?_) (fun _ => ?_))
    | (with_reducible refine s_129 hr (fun _ _ _ _ _ _ _ _ _ _ _ _ => ?_) ?_)
    | (exfalso; omega)
    | (exact absurd trivial (by assumption))
    | ((with_reducible refine outer ?_ ?_ _ ?_ _ _ _ _ _ _ _ _ ?_ ?_ ?_) <;> (first | ((repeat (with_reducible first | assumption | exact EQ.rf _ | (refine EQ.up ?_ (by assumption)) | (refine EQ.cp ?_ (by assumption)) | (refine EQ.tr ?_ (by assumption)))); done) | omega | decide | (rw [wr_id ⟨by omega, by omega⟩]; omega)))
    | ((with_reducible refine h _ _ ?_) <;> (first | ((repeat (with_reducible first | assumption | exact EQ.rf _ | (refine EQ.up ?_ (by assumption)) | (refine EQ.cp ?_ (by assumption)) | (refine EQ.tr ?_ (by assumption)))); done) | omega | decide | (rw [wr_id ⟨by omega, by omega⟩]; omega)))
theorem s_122 (hr : RI r) (h : ∀ v g', EQ g g' → Q v g' r) : Ce sc (d + 4) 122 [(2, 0), (0, l1)] g r Q := by
  have k0 : okr 218 0 8 := okd (by decide +kernel)
  have k1 : okr 218 1 5 := okd (by decide +kernel)
  have k52 : okr 218 52 3 := okd (by decide +kernel)
  have pr52 := pr_52 hr
  have k55 : okr 218 55 3 := okd (by decide +kernel)
  have pr55 := pr_55 hr
  have k58 : okr 218 58 3 := okd (by decide +kernel)
  have pr58 := pr_58 hr
  have k62 : okr 218 62 3 := okd (by decide +kernel)
  have pr62 := pr_62 hr
  have ar65 : AR 65 11 3 := ar_of (by decide +kernel) (by decide +kernel) (by decide +kernel)
  have mr65 := ar65.2.1
  have nr65 := ar65.2.2
  refine c_122 ?_
  repeat' first
    | (with_reducible refine ite_01 ?_)
    | (with_reducible refine ite_00 ?_)
    | (with_reducible refine And.intro ?_ ?_; · first | assumption | decide | (exact AR.i (by assumption) (by omega) (by omega)) | (exact AR.a (by assumption) (by decide) (by decide)) | (exact AR.k (by assumption)) | omega | (have := cmp_gt.mp (by assumption : 0 < cmpL _ 0); omega))
    | (simp only [r_0_0 hr, r_0_12 hr, r_0_13 hr, r_0_14 hr, r_0_16 hr, r_0_17 hr])
    | (refine ite_c (fun _ => ?_) (fun _ => ?_))
    | (intro _ e1; subst e1)
    | (with_reducible refine s_131 hr (fun _ => ?_))
    | (exfalso; omega)
    | (exact absurd trivial (by assumption))
    | ((with_reducible refine h _ _ ?_) <;> (first | ((repeat (with_reducible first | assumption | exact EQ.rf _ | (refine EQ.up ?_ (by assumption)) | (refine EQ.cp ?_ (by assumption)) | (refine EQ.tr ?_ (by assumption)))); done) | omega | decide | (rw [wr_id ⟨by omega, by omega⟩]; omega)))
end SFH
