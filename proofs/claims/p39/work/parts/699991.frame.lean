/-! frames of the calls that tell the days, and of some that ask; printed by a program (wip/gen/gen_frame3.py) -/
section SF3
variable {sc : SCR} {d : Nat} {Q : QJ} {g r : GH} {l0 l1 l2 l3 l4 l5 l6 l7 l8 l9 : Int}
theorem t_81 (hr : RI r) (h : ∀ v g', EQF F3 g g' → Q v g' r) : Ce sc (d + 3) 81 [(2, 0), (0, l1)] g r Q := by
  have k0 : okr 218 0 8 := okd (by decide +kernel)
  have b23 := brf_23 hr
  have k23 := b23.1
  have q23 := b23.2.1
  have ar24 : ARF F3 24 11 40 := AR.f (ar_of (by decide +kernel) (by decide +kernel) (by decide +kernel)) (fun z => z.2.1 (by omega))
  have nr24 := ar24.2.2
  refine c_81 ?_
  repeat' first
    | (with_reducible refine ite_01 ?_)
    | (with_reducible refine ite_00 ?_)
    | (with_reducible refine And.intro ?_ ?_; · first | assumption | decide | (exact ARF.i (by assumption) (by omega) (by omega)) | (exact ARF.a (by assumption) (by decide) (by decide)) | (exact ARF.k (by assumption)) | omega | (have := cmp_gt.mp (by assumption : 0 < cmpL _ 0); omega))
    | (simp only [r_0_4 hr, r_23_4 hr])
    | (refine ite_c (fun _ => ?_) (fun _ => ?_))
    | (intro _ e1; subst e1)
    | (with_reducible refine w_127 (fun _ _ => ?_) (fun _ => ?_))
    | (exfalso; omega)
    | (exact absurd trivial (by assumption))
    | ((with_reducible refine h _ _ ?_) <;> (first | ((repeat (with_reducible first | assumption | exact EQF.rf _ | (refine EQF.up ?_ (by assumption)) | (refine EQF.cp ?_ (by assumption)) | (refine EQF.tr ?_ (by assumption)))); done) | omega | decide | (rw [wr_id ⟨by omega, by omega⟩]; omega)))
theorem t_83 (hr : RI r) (h : ∀ v g', EQF F3 g g' → Q v g' r) : Ce sc (d + 3) 83 [(2, 0), (0, l1)] g r Q := by
  have k0 : okr 218 0 8 := okd (by decide +kernel)
  have b23 := brf_23 hr
  have k23 := b23.1
  have q23 := b23.2.1
  have ar24 : ARF F3 24 11 40 := AR.f (ar_of (by decide +kernel) (by decide +kernel) (by decide +kernel)) (fun z => z.2.1 (by omega))
  have nr24 := ar24.2.2
  refine c_83 ?_
  repeat' first
    | (with_reducible refine ite_01 ?_)
    | (with_reducible refine ite_00 ?_)
    | (with_reducible refine And.intro ?_ ?_; · first | assumption | decide | (exact ARF.i (by assumption) (by omega) (by omega)) | (exact ARF.a (by assumption) (by decide) (by decide)) | (exact ARF.k (by assumption)) | omega | (have := cmp_gt.mp (by assumption : 0 < cmpL _ 0); omega))
    | (simp only [r_0_4 hr, r_23_4 hr])
    | (refine ite_c (fun _ => ?_) (fun _ => ?_))
    | (intro _ e1; subst e1)
    | (with_reducible refine t_3 (F := F3) (by assumption) (by assumption) (fun _ _ _ => ?_))
    | (with_reducible refine w_127 (fun _ _ => ?_) (fun _ => ?_))
    | (with_reducible refine t_133 hr sq3 (by decide) (by decide) (fun _ _ _ => ?_))
    | (with_reducible refine w_250 (fun _ => ?_) (fun _ => ?_))
    | (exfalso; omega)
    | (exact absurd trivial (by assumption))
    | ((with_reducible refine h _ _ ?_) <;> (first | ((repeat (with_reducible first | assumption | exact EQF.rf _ | (refine EQF.up ?_ (by assumption)) | (refine EQF.cp ?_ (by assumption)) | (refine EQF.tr ?_ (by assumption)))); done) | omega | decide | (rw [wr_id ⟨by omega, by omega⟩]; omega)))
theorem t_85 (hr : RI r) (h : ∀ v g', EQF F3 g g' → Q v g' r) : Ce sc (d + 3) 85 [(2, 0), (0, l1), (0, l2)] g r Q := by
  have k0 : okr 218 0 8 := okd (by decide +kernel)
  have b23 := brf_23 hr
  have k23 := b23.1
  have q23 := b23.2.1
  have ar28 : ARF F3 28 12 6 := AR.f (ar_of (by decide +kernel) (by decide +kernel) (by decide +kernel)) (fun z => z.2.1 (by omega))
  have nr28 := ar28.2.2
  have ar29 : ARF F3 29 11 6 := AR.f (ar_of (by decide +kernel) (by decide +kernel) (by decide +kernel)) (fun z => z.2.1 (by omega))
  have nr29 := ar29.2.2
  have ar30 : ARF F3 30 11 6 := AR.f (ar_of (by decide +kernel) (by decide +kernel) (by decide +kernel)) (fun z => z.2.1 (by omega))
  have nr30 := ar30.2.2
  refine c_85 ?_
  repeat' first
    | (with_reducible refine ite_01 ?_)
    | (with_reducible refine ite_00 ?_)
    | (with_reducible refine And.intro ?_ ?_; · first | assumption | decide | (exact ARF.i (by assumption) (by omega) (by omega)) | (exact ARF.a (by assumption) (by decide) (by decide)) | (exact ARF.k (by assumption)) | omega | (have := cmp_gt.mp (by assumption : 0 < cmpL _ 0); omega))
    | (simp only [r_0_4 hr, r_23_8 hr, r_23_9 hr, r_23_10 hr])
    | (refine ite_c (fun _ => ?_) (fun _ => ?_))
    | (intro _ e1; subst e1)
    | (with_reducible refine t_129 hr sq3 (fun _ _ _ _ _ _ _ _ _ _ _ _ => ?_) ?_)
    | (exfalso; omega)
    | (exact absurd trivial (by assumption))
    | ((with_reducible refine h _ _ ?_) <;> (first | ((repeat (with_reducible first | assumption | exact EQF.rf _ | (refine EQF.up ?_ (by assumption)) | (refine EQF.cp ?_ (by assumption)) | (refine EQF.tr ?_ (by assumption)))); done) | omega | decide | (rw [wr_id ⟨by omega, by omega⟩]; omega)))
theorem t_86 (hr : RI r) (h : ∀ v g', EQF F3 g g' → Q v g' r) : Ce sc (d + 2) 86 [(2, 0), (0, l1)] g r Q := by
  have k0 : okr 218 0 8 := okd (by decide +kernel)
  have b23 := brf_23 hr
  have k23 := b23.1
  have q23 := b23.2.1
  have ar26 : ARF F3 26 11 6 := AR.f (ar_of (by decide +kernel) (by decide +kernel) (by decide +kernel)) (fun z => z.2.1 (by omega))
  have nr26 := ar26.2.2
  have ar27 : ARF F3 27 11 6 := AR.f (ar_of (by decide +kernel) (by decide +kernel) (by decide +kernel)) (fun z => z.2.1 (by omega))
  have nr27 := ar27.2.2
  have as26 : AR 26 11 6 := ar_of (by decide +kernel) (by decide +kernel) (by decide +kernel)
  have as27 : AR 27 11 6 := ar_of (by decide +kernel) (by decide +kernel) (by decide +kernel)
  refine c_86 ?_
  repeat' first
    | (with_reducible refine ite_01 ?_)
    | (with_reducible refine ite_00 ?_)
    | (with_reducible refine And.intro ?_ ?_; · first | assumption | decide | (exact ARF.i (by assumption) (by omega) (by omega)) | (exact ARF.a (by assumption) (by decide) (by decide)) | (exact ARF.k (by assumption)) | omega | (have := cmp_gt.mp (by assumption : 0 < cmpL _ 0); omega))
    | (simp only [r_0_4 hr, r_23_6 hr, r_23_7 hr])
    | (refine ite_c (fun _ => ?_) (fun _ => ?_))
    | (intro _ e1; subst e1)
    | (with_reducible refine s_135 (by assumption) (by decide) (fun _ => ?_))
    | (exfalso; omega)
    | (exact absurd trivial (by assumption))
    | ((with_reducible refine h _ _ ?_) <;> (first | ((repeat (with_reducible first | assumption | exact EQF.rf _ | (refine EQF.up ?_ (by assumption)) | (refine EQF.cp ?_ (by assumption)) | (refine EQF.tr ?_ (by assumption)))); done) | omega | decide | (rw [wr_id ⟨by omega, by omega⟩]; omega)))
theorem t_84 (hr : RI r) (h : ∀ v g', EQF F3 g g' → Q v g' r) : Ce sc (d + 4) 84 [(2, 0), (0, l1)] g r Q := by
  have k0 : okr 218 0 8 := okd (by decide +kernel)
  have b23 := brf_23 hr
  have k23 := b23.1
  have q23 := b23.2.1
  refine c_84 ?_
  repeat' first
    | (with_reducible refine ite_01 ?_)
    | (with_reducible refine ite_00 ?_)
    | (with_reducible refine And.intro ?_ ?_; · first | assumption | decide | (exact ARF.i (by assumption) (by omega) (by omega)) | (exact ARF.a (by assumption) (by decide) (by decide)) | (exact ARF.k (by assumption)) | omega | (have := cmp_gt.mp (by assumption : 0 < cmpL _ 0); omega))
    | (simp only [r_0_4 hr])
    | (refine ite_c (fun _ => ?_) (fun _ => ?_))
    | (intro _ e1; subst e1)
    | (with_reducible refine w_123 (fun _ _ => ?_) (fun _ => ?_))
    | (with_reducible refine t_134 hr sq3 (by decide) (by decide) (fun _ _ => ?_))
    | (exfalso; omega)
    | (exact absurd trivial (by assumption))
    | ((with_reducible refine h _ _ ?_) <;> (first | ((repeat (with_reducible first | assumption | exact EQF.rf _ | (refine EQF.up ?_ (by assumption)) | (refine EQF.cp ?_ (by assumption)) | (refine EQF.tr ?_ (by assumption)))); done) | omega | decide | (rw [wr_id ⟨by omega, by omega⟩]; omega)))
theorem t_80 (hr : RI r) (h : ∀ v g', EQF F3 g g' → Q v g' r) : Ce sc (d + 4) 80 [(2, 0), (0, l1), (0, l2), (0, l3)] g r Q := by
  have k0 : okr 218 0 8 := okd (by decide +kernel)
  have b23 := brf_23 hr
  have k23 := b23.1
  have q23 := b23.2.1
  have ar24 : ARF F3 24 11 40 := AR.f (ar_of (by decide +kernel) (by decide +kernel) (by decide +kernel)) (fun z => z.2.1 (by omega))
  have nr24 := ar24.2.2
  have ar25 : ARF F3 25 11 40 := AR.f (ar_of (by decide +kernel) (by decide +kernel) (by decide +kernel)) (fun z => z.2.1 (by omega))
  have nr25 := ar25.2.2
  refine c_80 ?_
  repeat' first
    | (with_reducible refine ite_01 ?_)
    | (with_reducible refine ite_00 ?_)
    | (with_reducible refine And.intro ?_ ?_; · first | assumption | decide | (exact ARF.i (by assumption) (by omega) (by omega)) | (exact ARF.a (by assumption) (by decide) (by decide)) | (exact ARF.k (by assumption)) | omega | (have := cmp_gt.mp (by assumption : 0 < cmpL _ 0); omega))
    | (simp only [r_0_4 hr, r_23_4 hr, r_23_5 hr])
    | (refine ite_c (fun _ => ?_) (fun _ => ?_))
    | (intro _ e1; subst e1)
    | (with_reducible refine w_124 (fun _ _ => ?_) (fun _ => ?_))
    | (with_reducible refine w_127 (fun _ _ => ?_) (fun _ => ?_))
    | (with_reducible refine t_134 hr sq3 (by decide) (by decide) (fun _ _ => ?_))
    | (exfalso; omega)
    | (exact absurd trivial (by assumption))
    | ((with_reducible refine h _ _ ?_) <;> (first | ((repeat (with_reducible first | assumption | exact EQF.rf _ | (refine EQF.up ?_ (by assumption)) | (refine EQF.cp ?_ (by assumption)) | (refine EQF.tr ?_ (by assumption)))); done) | omega | decide | (rw [wr_id ⟨by omega, by omega⟩]; omega)))
theorem t_122 (hr : RI r) (h : ∀ v g', EQF F3 g g' → Q v g' r) : Ce sc (d + 4) 122 [(2, 0), (0, l1)] g r Q := by
  have k0 : okr 218 0 8 := okd (by decide +kernel)
  have k1 : okr 218 1 5 := okd (by decide +kernel)
  have k52 : okr 218 52 3 := okd (by decide +kernel)
  have pr52 := pr_52 hr
  have k55 : okr 218 55 3 := okd (by decide +kernel)
  have pr55 := pr_55 hr
  have k58 : okr 218 58 3 := okd (by decide +kernel)
  have pr58 := pr_58 hr
  have k62 : okr 218 62 3 := okd (by decide +kernel)
  have pr62 := pr_62 hr
  have ar65 : ARF F3 65 11 3 := AR.f (ar_of (by decide +kernel) (by decide +kernel) (by decide +kernel)) (fun z => z.1 (by unfold SC; omega))
  have mr65 := ar65.2.1
  have nr65 := ar65.2.2
  refine c_122 ?_
  repeat' first
    | (with_reducible refine ite_01 ?_)
    | (with_reducible refine ite_00 ?_)
    | (with_reducible refine And.intro ?_ ?_; · first | assumption | decide | (exact ARF.i (by assumption) (by omega) (by omega)) | (exact ARF.a (by assumption) (by decide) (by decide)) | (exact ARF.k (by assumption)) | omega | (have := cmp_gt.mp (by assumption : 0 < cmpL _ 0); omega))
    | (simp only [r_0_0 hr, r_0_12 hr, r_0_13 hr, r_0_14 hr, r_0_16 hr, r_0_17 hr])
    | (refine ite_c (fun _ => ?_) (fun _ => ?_))
    | (intro _ e1; subst e1)
    | (with_reducible refine s_131 hr (fun _ => ?_))
    | (exfalso; omega)
    | (exact absurd trivial (by assumption))
    | ((with_reducible refine h _ _ ?_) <;> (first | ((repeat (with_reducible first | assumption | exact EQF.rf _ | (refine EQF.up ?_ (by assumption)) | (refine EQF.cp ?_ (by assumption)) | (refine EQF.tr ?_ (by assumption)))); done) | omega | decide | (rw [wr_id ⟨by omega, by omega⟩]; omega)))
end SF3
