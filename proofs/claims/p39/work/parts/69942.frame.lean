/-! the same of MillRow's own methods; printed by a program (wip/gen/gen_frame2.py) -/
/-- what calls that only ask may write -/
def SC (x : Int) : Prop := (9 ≤ x ∧ x ≤ 12) ∨ (17 ≤ x ∧ x ≤ 22) ∨ (34 ≤ x ∧ x ≤ 44) ∨ (48 ≤ x ∧ x ≤ 50) ∨ x = 61 ∨ x = 65 ∨ (68 ≤ x ∧ x ≤ 71) ∨ x = 76 ∨ (79 ≤ x ∧ x ≤ 82) ∨ x = 87 ∨ (90 ≤ x ∧ x ≤ 93) ∨ x = 98 ∨ (101 ≤ x ∧ x ≤ 104) ∨ x = 109 ∨ (112 ≤ x ∧ x ≤ 115) ∨ x = 120 ∨ (123 ≤ x ∧ x ≤ 126) ∨ x = 131
def SQ (F : Int → Prop) : Prop := ∀ x, SC x → ¬ F x
theorem bkf_of {F : Int → Prop} {r : GH} {m : Int} (hr : RI r) (hF : SQ F) (h : MO m) : BKF F r (m + 2) := by
  rcases h with rfl | rfl | rfl | rfl | rfl | rfl | rfl
  · have b := bk_9 hr
    refine ⟨b.1, hF 9 (by unfold SC; omega), b.2.2.1.f ?_, b.2.2.2.1.f ?_, b.2.2.2.2.f ?_⟩
    · rw [r_9_5 hr]; exact hF _ (by unfold SC; omega)
    · rw [r_9_6 hr]; exact hF _ (by unfold SC; omega)
    · rw [r_9_12 hr]; exact hF _ (by unfold SC; omega)
  · have b := bk_68 hr
    refine ⟨b.1, hF 68 (by unfold SC; omega), b.2.2.1.f ?_, b.2.2.2.1.f ?_, b.2.2.2.2.f ?_⟩
    · rw [r_68_5 hr]; exact hF _ (by unfold SC; omega)
    · rw [r_68_6 hr]; exact hF _ (by unfold SC; omega)
    · rw [r_68_12 hr]; exact hF _ (by unfold SC; omega)
  · have b := bk_79 hr
    refine ⟨b.1, hF 79 (by unfold SC; omega), b.2.2.1.f ?_, b.2.2.2.1.f ?_, b.2.2.2.2.f ?_⟩
    · rw [r_79_5 hr]; exact hF _ (by unfold SC; omega)
    · rw [r_79_6 hr]; exact hF _ (by unfold SC; omega)
    · rw [r_79_12 hr]; exact hF _ (by unfold SC; omega)
  · have b := bk_90 hr
    refine ⟨b.1, hF 90 (by unfold SC; omega), b.2.2.1.f ?_, b.2.2.2.1.f ?_, b.2.2.2.2.f ?_⟩
    · rw [r_90_5 hr]; exact hF _ (by unfold SC; omega)
    · rw [r_90_6 hr]; exact hF _ (by unfold SC; omega)
    · rw [r_90_12 hr]; exact hF _ (by unfold SC; omega)
  · have b := bk_101 hr
    refine ⟨b.1, hF 101 (by unfold SC; omega), b.2.2.1.f ?_, b.2.2.2.1.f ?_, b.2.2.2.2.f ?_⟩
    · rw [r_101_5 hr]; exact hF _ (by unfold SC; omega)
    · rw [r_101_6 hr]; exact hF _ (by unfold SC; omega)
    · rw [r_101_12 hr]; exact hF _ (by unfold SC; omega)
  · have b := bk_112 hr
    refine ⟨b.1, hF 112 (by unfold SC; omega), b.2.2.1.f ?_, b.2.2.2.1.f ?_, b.2.2.2.2.f ?_⟩
    · rw [r_112_5 hr]; exact hF _ (by unfold SC; omega)
    · rw [r_112_6 hr]; exact hF _ (by unfold SC; omega)
    · rw [r_112_12 hr]; exact hF _ (by unfold SC; omega)
  · have b := bk_123 hr
    refine ⟨b.1, hF 123 (by unfold SC; omega), b.2.2.1.f ?_, b.2.2.2.1.f ?_, b.2.2.2.2.f ?_⟩
    · rw [r_123_5 hr]; exact hF _ (by unfold SC; omega)
    · rw [r_123_6 hr]; exact hF _ (by unfold SC; omega)
    · rw [r_123_12 hr]; exact hF _ (by unfold SC; omega)
theorem mo_w9 {r : GH} {m : Int} (hr : RI r) (h : MO m) : r (m + 1) 9 = m + 2 := by
  rcases h with rfl | rfl | rfl | rfl | rfl | rfl | rfl
  · exact r_8_9 hr
  · exact r_67_9 hr
  · exact r_78_9 hr
  · exact r_89_9 hr
  · exact r_100_9 hr
  · exact r_111_9 hr
  · exact r_122_9 hr
theorem mlf_of {F : Int → Prop} {r : GH} {m : Int} (hr : RI r) (hF : SQ F) (h : MO m) : MLF F r m := by
  have l := ml_of hr h
  have u := l.2.2.2
  refine ⟨l.1, trivial, ⟨l.2.2.1.1, trivial, ?_⟩, u.1, u.2.1.fz, u.2.2.1.fz, u.2.2.2.1.fz, u.2.2.2.2.1.f ?_, trivial⟩
  · rw [mo_1 hr h, mo_w9 hr h]; exact bkf_of hr hF h
  · rw [mo_4 hr h]
    rcases h with rfl | rfl | rfl | rfl | rfl | rfl | rfl
    · rw [show (7 : Int) + 6 = 13 by decide, r_13_5 hr]; exact hF _ (by unfold SC; omega)
    · rw [show (66 : Int) + 6 = 72 by decide, r_72_5 hr]; exact hF _ (by unfold SC; omega)
    · rw [show (77 : Int) + 6 = 83 by decide, r_83_5 hr]; exact hF _ (by unfold SC; omega)
    · rw [show (88 : Int) + 6 = 94 by decide, r_94_5 hr]; exact hF _ (by unfold SC; omega)
    · rw [show (99 : Int) + 6 = 105 by decide, r_105_5 hr]; exact hF _ (by unfold SC; omega)
    · rw [show (110 : Int) + 6 = 116 by decide, r_116_5 hr]; exact hF _ (by unfold SC; omega)
    · rw [show (121 : Int) + 6 = 127 by decide, r_127_5 hr]; exact hF _ (by unfold SC; omega)
theorem mrf_of {F : Int → Prop} {r : GH} (hr : RI r) (hF : SQ F) : MRF F r := ⟨a_6.mpr trivial, n_6, fun j h0 h1 => ⟨Or.inl (i_6.mpr ⟨h0, h1⟩), hr.2.1 j h0 h1, mlf_of hr hF (hr.2.1 j h0 h1)⟩⟩
theorem whf_18 {F : Int → Prop} {r : GH} (hr : RI r) (hF : SQ F) : WHF F r 18 := by
  have w := wh_18 hr
  have b := w.2.2
  rw [r_18_9 hr] at b
  refine ⟨w.1, trivial, ?_⟩
  rw [r_18_9 hr]
  refine ⟨b.1, hF 19 (by unfold SC; omega), b.2.2.1.f ?_, b.2.2.2.1.f ?_, b.2.2.2.2.f ?_⟩
  · rw [r_19_5 hr]; exact hF _ (by unfold SC; omega)
  · rw [r_19_6 hr]; exact hF _ (by unfold SC; omega)
  · rw [r_19_12 hr]; exact hF _ (by unfold SC; omega)
theorem BR.fz {r : GH} {b : Int} (h : BR r b) : BRF FZ r b := by
  obtain ⟨a, _, b4, b5, b6, b7, b8, b9, b10, b11, b12, b13⟩ := h
  exact ⟨a, fun z => z, b4.fz, b5.fz, b6.fz, b7.fz, b8.fz, b9.fz, b10.fz, b11.fz, b12.fz, b13.fz⟩
theorem PL.fz {r : GH} {b : Int} (h : PL r b) : PLF FZ r b := ⟨h.1, fun z => z, h.2.2.fz⟩
theorem brf_34 {F : Int → Prop} {r : GH} (hr : RI r) (hF : SQ F) : BRF F r 34 := by
  obtain ⟨a, _, b4, b5, b6, b7, b8, b9, b10, b11, b12, b13⟩ := br_34 hr
  refine ⟨a, hF 34 (by unfold SC; omega), b4.f ?_, b5.f ?_, b6.f ?_, b7.f ?_, b8.f ?_, b9.f ?_, b10.f ?_, b11.f ?_, b12.f ?_, b13.f ?_⟩
  · rw [r_34_4 hr]; exact hF _ (by unfold SC; omega)
  · rw [r_34_5 hr]; exact hF _ (by unfold SC; omega)
  · rw [r_34_6 hr]; exact hF _ (by unfold SC; omega)
  · rw [r_34_7 hr]; exact hF _ (by unfold SC; omega)
  · rw [r_34_8 hr]; exact hF _ (by unfold SC; omega)
  · rw [r_34_9 hr]; exact hF _ (by unfold SC; omega)
  · rw [r_34_10 hr]; exact hF _ (by unfold SC; omega)
  · rw [r_34_11 hr]; exact hF _ (by unfold SC; omega)
  · rw [r_34_12 hr]; exact hF _ (by unfold SC; omega)
  · rw [r_34_13 hr]; exact hF _ (by unfold SC; omega)
theorem plf_48 {F : Int → Prop} {r : GH} (hr : RI r) (hF : SQ F) : PLF F r 48 := by
  have p := pl_48 hr
  refine ⟨p.1, hF 48 (by unfold SC; omega), p.2.2.f ?_⟩
  rw [r_48_0 hr]; exact hF _ (by unfold SC; omega)
def CQ (F : Int → Prop) : Prop := F 0 ∧ F 1 ∧ F 52 ∧ F 55 ∧ F 58 ∧ F 62
theorem CI.eqf {F : Int → Prop} {g g' : GH} (hC : CQ F) (h : CI g) (e : EQF F g g') : CI g' := by
  obtain ⟨a, b, c, x, y, z⟩ := hC
  unfold CI
  rw [e 1 b 1, e 0 a 7, e 52 c 2, e 55 x 2, e 58 y 2, e 62 z 2]
  exact h
section SFR
variable {F : Int → Prop} {sc : SCR} {d : Nat} {Q : QJ} {g r : GH} {l0 l1 l2 l3 l4 l5 l6 l7 l8 l9 : Int}
theorem t_129 (hr : RI r) (hF : SQ F) (h1 : ∀ m, m ≠ -1 → 0 ≤ l1 → l1 < 6 → okr 218 m 2 → True → WHF F r (r m 1) → okr 218 (r m 1) 7 → RUF F r (r m 4) → okr 218 (r m 4) 6 → BKF F r (r (r m 1) 9) → okr 218 (r (r m 1) 9) 1 → Q m g r) (h0 : Q (-1) g r) : Ce sc (d + 2) 129 [(2, 0), (0, l1)] g r Q :=
  w_129 hr (fun t => by
    have hm := hr.2.1 l1 t.1 t.2.1
    have hl := mlf_of hr hF hm
    exact h1 _ (mo_ne hm) t.1 t.2.1 hl.1 hl.2.1 hl.2.2.1 hl.2.2.1.1 hl.2.2.2 hl.2.2.2.1 hl.2.2.1.2.2 hl.2.2.1.2.2.1) (fun _ => h0)
theorem t_130 (hr : RI r) (hF : SQ F) (h1 : ∀ x, x ≠ -1 → 0 ≤ l1 → l1 < 6 → WHF F r x → okr 218 x 7 → BKF F r (r x 9) → okr 218 (r x 9) 1 → Q x g r) (h0 : Q (-1) g r) : Ce sc (d + 3) 130 [(2, 0), (0, l1)] g r Q :=
  w_130 hr (fun t _ => by
    have hm := hr.2.1 l1 t.1 t.2.1
    have hl := mlf_of hr hF hm
    rw [← mo_1 hr hm]
    refine h1 _ ?_ t.1 t.2.1 hl.2.2.1 hl.2.2.1.1 hl.2.2.1.2.2 hl.2.2.1.2.2.1
    rw [mo_1 hr hm]; unfold MO at hm; omega) (fun _ => h0)
theorem t_3 (k : okr 218 l0 0) (hn : NFF F l0) (h : ∀ v g', EQF F g g' → Q v g' r) : Ce sc (d + 1) 3 [(2, l0)] g r Q :=
  c_3 ⟨k, k, fun g1 e1 => ⟨k, by decide, ite_c (fun _ => h _ _ (by rw [e1]; exact (EQF.rf g).up hn)) (fun _ => ite_c (fun _ => h _ _ (by rw [e1]; exact (EQF.rf g).up hn)) (fun _ => h _ _ (by rw [e1]; exact (EQF.rf g).up hn)))⟩⟩
theorem t_133 (hr : RI r) (hF : SQ F) (h0 : 0 ≤ l1) (h2 : l1 ≤ 2) (h : ∀ v g', EQF F g g' → Q v g' r) : Ce sc (d + 2) 133 [(2, 0), (0, l1)] g r Q := w_133 hr h0 h2 (h _ _ ((EQF.rf g).up (hF _ (by unfold SC; omega))))
theorem t_134 (hr : RI r) (hF : SQ F) (h0 : 0 ≤ l1) (h2 : l1 ≤ 2) (h : ∀ g', EQF F g g' → Q 0 g' r) : Ce sc (d + 3) 134 [(2, 0), (0, l1)] g r Q := w_134 hr h0 h2 (h _ ((EQF.rf g).up (hF _ (by unfold SC; omega))))
theorem t_69 (hr : RI r) (hF : SQ F) (h : ∀ v g', EQF F g g' → Q v g' r) : Ce sc (d + 4) 69 [(2, 0), (0, l1), (0, l2)] g r Q := by
  have k0 : okr 218 0 8 := okd (by decide +kernel)
  have b23 := (br_23 hr).fz
  have k23 := b23.1
  have q23 := b23.2.1
  have ar26 : ARF FZ 26 11 6 := AR.fz (ar_of (by decide +kernel) (by decide +kernel) (by decide +kernel))
  have nr26 := ar26.2.2
  have ar27 : ARF FZ 27 11 6 := AR.fz (ar_of (by decide +kernel) (by decide +kernel) (by decide +kernel))
  have nr27 := ar27.2.2
  refine c_69 ?_
  repeat' first
    | (with_reducible refine ite_01 ?_)
    | (with_reducible refine ite_00 ?_)
    | (with_reducible refine And.intro ?_ ?_; · first | assumption | decide | (exact ARF.i (by assumption) (by omega) (by omega)) | (exact ARF.a (by assumption) (by decide) (by decide)) | (exact ARF.k (by assumption)) | omega | (have := cmp_gt.mp (by assumption : 0 < cmpL _ 0); omega))
    | (simp only [r_0_4 hr, r_23_6 hr, r_23_7 hr])
    | (refine ite_c (fun _ => ?_) (fun _ => ?_))
    | (intro _ e1; subst e1)
    | (with_reducible refine t_12 (by assumption) (fun _ _ _ => ?_))
    | (with_reducible refine s_22 (by assumption) (fun _ => ?_))
    | (with_reducible refine t_129 hr hF (fun _ _ _ _ _ _ _ _ _ _ _ _ => ?_) ?_)
    | (exfalso; omega)
    | (exact absurd trivial (by assumption))
    | ((with_reducible refine h _ _ ?_) <;> (first | ((repeat (with_reducible first | assumption | exact EQF.rf _ | (refine EQF.up ?_ (by assumption)) | (refine EQF.cp ?_ (by assumption)) | (refine EQF.tr ?_ (by assumption)))); done) | omega | decide | (rw [wr_id ⟨by omega, by omega⟩]; omega)))
theorem t_71 (hr : RI r) (hF : SQ F) (h : ∀ v g', EQF F g g' → Q v g' r) : Ce sc (d + 4) 71 [(2, 0), (0, l1), (0, l2), (0, l3), (0, l4)] g r Q := by
  have k0 : okr 218 0 8 := okd (by decide +kernel)
  refine c_71 ?_
  repeat' first
    | (with_reducible refine ite_01 ?_)
    | (with_reducible refine ite_00 ?_)
    | (with_reducible refine And.intro ?_ ?_; · first | assumption | decide | (exact ARF.i (by assumption) (by omega) (by omega)) | (exact ARF.a (by assumption) (by decide) (by decide)) | (exact ARF.k (by assumption)) | omega | (have := cmp_gt.mp (by assumption : 0 < cmpL _ 0); omega))
    | (refine ite_c (fun _ => ?_) (fun _ => ?_))
    | (intro _ e1; subst e1)
    | (with_reducible refine t_13 (by assumption) (fun _ _ _ => ?_))
    | (with_reducible refine t_14 (by assumption) (fun _ => ?_))
    | (with_reducible refine t_15 (by assumption) (fun _ _ _ => ?_))
    | (with_reducible refine t_16 (by assumption) (fun _ _ _ => ?_))
    | (with_reducible refine w_123 (fun _ _ => ?_) (fun _ => ?_))
    | (with_reducible refine w_124 (fun _ _ => ?_) (fun _ => ?_))
    | (with_reducible refine w_125 (fun _ _ => ?_) (fun _ => ?_))
    | (with_reducible refine t_130 hr hF (fun _ _ _ _ _ _ _ _ => ?_) ?_)
    | (exfalso; omega)
    | (exact absurd trivial (by assumption))
    | ((with_reducible refine h _ _ ?_) <;> (first | ((repeat (with_reducible first | assumption | exact EQF.rf _ | (refine EQF.up ?_ (by assumption)) | (refine EQF.cp ?_ (by assumption)) | (refine EQF.tr ?_ (by assumption)))); done) | omega | decide | (rw [wr_id ⟨by omega, by omega⟩]; omega)))
theorem t_72 (hr : RI r) (hF : SQ F) (h : ∀ v g', EQF F g g' → Q v g' r) : Ce sc (d + 4) 72 [(2, 0), (0, l1), (0, l2), (0, l3)] g r Q := by
  have k0 : okr 218 0 8 := okd (by decide +kernel)
  refine c_72 ?_
  repeat' first
    | (with_reducible refine ite_01 ?_)
    | (with_reducible refine ite_00 ?_)
    | (with_reducible refine And.intro ?_ ?_; · first | assumption | decide | (exact ARF.i (by assumption) (by omega) (by omega)) | (exact ARF.a (by assumption) (by decide) (by decide)) | (exact ARF.k (by assumption)) | omega | (have := cmp_gt.mp (by assumption : 0 < cmpL _ 0); omega))
    | (refine ite_c (fun _ => ?_) (fun _ => ?_))
    | (intro _ e1; subst e1)
    | (with_reducible refine t_10 (by assumption) (fun _ _ _ => ?_))
    | (with_reducible refine t_11 (by assumption) (fun _ => ?_))
    | (with_reducible refine w_123 (fun _ _ => ?_) (fun _ => ?_))
    | (with_reducible refine w_125 (fun _ _ => ?_) (fun _ => ?_))
    | (with_reducible refine t_130 hr hF (fun _ _ _ _ _ _ _ _ => ?_) ?_)
    | (exfalso; omega)
    | (exact absurd trivial (by assumption))
    | ((with_reducible refine h _ _ ?_) <;> (first | ((repeat (with_reducible first | assumption | exact EQF.rf _ | (refine EQF.up ?_ (by assumption)) | (refine EQF.cp ?_ (by assumption)) | (refine EQF.tr ?_ (by assumption)))); done) | omega | decide | (rw [wr_id ⟨by omega, by omega⟩]; omega)))
theorem t_73 (hr : RI r) (hF : SQ F) (h : ∀ v g', EQF F g g' → Q v g' r) : Ce sc (d + 5) 73 [(2, 0), (0, l1), (0, l2), (0, l3), (0, l4)] g r Q := by
  have k0 : okr 218 0 8 := okd (by decide +kernel)
  refine c_73 ?_
  repeat' first
    | (with_reducible refine ite_01 ?_)
    | (with_reducible refine ite_00 ?_)
    | (with_reducible refine And.intro ?_ ?_; · first | assumption | decide | (exact ARF.i (by assumption) (by omega) (by omega)) | (exact ARF.a (by assumption) (by decide) (by decide)) | (exact ARF.k (by assumption)) | omega | (have := cmp_gt.mp (by assumption : 0 < cmpL _ 0); omega))
    | (refine ite_c (fun _ => ?_) (fun _ => ?_))
    | (intro _ e1; subst e1)
    | (with_reducible refine s_58 (by assumption) ?_ ?_)
    | (with_reducible refine t_59 (by assumption) (fun _ _ _ => ?_))
    | (with_reducible refine w_124 (fun _ _ => ?_) (fun _ => ?_))
    | (with_reducible refine w_125 (fun _ _ => ?_) (fun _ => ?_))
    | (with_reducible refine t_129 hr hF (fun _ _ _ _ _ _ _ _ _ _ _ _ => ?_) ?_)
    | (exfalso; omega)
    | (exact absurd trivial (by assumption))
    | ((with_reducible refine h _ _ ?_) <;> (first | ((repeat (with_reducible first | assumption | exact EQF.rf _ | (refine EQF.up ?_ (by assumption)) | (refine EQF.cp ?_ (by assumption)) | (refine EQF.tr ?_ (by assumption)))); done) | omega | decide | (rw [wr_id ⟨by omega, by omega⟩]; omega)))
theorem t_74 (hr : RI r) (hF : SQ F) (h : ∀ v g', EQF F g g' → Q v g' r) : Ce sc (d + 6) 74 [(2, 0), (0, l1), (0, l2), (0, l3), (0, l4), (0, l5)] g r Q := by
  have k0 : okr 218 0 8 := okd (by decide +kernel)
  refine c_74 ?_
  repeat' first
    | (with_reducible refine ite_01 ?_)
    | (with_reducible refine ite_00 ?_)
    | (with_reducible refine And.intro ?_ ?_; · first | assumption | decide | (exact ARF.i (by assumption) (by omega) (by omega)) | (exact ARF.a (by assumption) (by decide) (by decide)) | (exact ARF.k (by assumption)) | omega | (have := cmp_gt.mp (by assumption : 0 < cmpL _ 0); omega))
    | (refine ite_c (fun _ => ?_) (fun _ => ?_))
    | (intro _ e1; subst e1)
    | (with_reducible refine s_58 (by assumption) ?_ ?_)
    | (with_reducible refine t_62 (by assumption) (fun _ _ _ => ?_))
    | (with_reducible refine w_124 (fun _ _ => ?_) (fun _ => ?_))
    | (with_reducible refine w_125 (fun _ _ => ?_) (fun _ => ?_))
    | (with_reducible refine w_126 (fun _ _ => ?_) (fun _ => ?_))
    | (with_reducible refine t_129 hr hF (fun _ _ _ _ _ _ _ _ _ _ _ _ => ?_) ?_)
    | (exfalso; omega)
    | (exact absurd trivial (by assumption))
    | ((with_reducible refine h _ _ ?_) <;> (first | ((repeat (with_reducible first | assumption | exact EQF.rf _ | (refine EQF.up ?_ (by assumption)) | (refine EQF.cp ?_ (by assumption)) | (refine EQF.tr ?_ (by assumption)))); done) | omega | decide | (rw [wr_id ⟨by omega, by omega⟩]; omega)))
theorem t_75 (hr : RI r) (hF : SQ F) (h : ∀ v g', EQF F g g' → Q v g' r) : Ce sc (d + 7) 75 [(2, 0), (0, l1), (0, l2), (0, l3), (0, l4), (0, l5)] g r Q := by
  have k0 : okr 218 0 8 := okd (by decide +kernel)
  refine c_75 ?_
  repeat' first
    | (with_reducible refine ite_01 ?_)
    | (with_reducible refine ite_00 ?_)
    | (with_reducible refine And.intro ?_ ?_; · first | assumption | decide | (exact ARF.i (by assumption) (by omega) (by omega)) | (exact ARF.a (by assumption) (by decide) (by decide)) | (exact ARF.k (by assumption)) | omega | (have := cmp_gt.mp (by assumption : 0 < cmpL _ 0); omega))
    | (refine ite_c (fun _ => ?_) (fun _ => ?_))
    | (intro _ e1; subst e1)
    | (with_reducible refine s_58 (by assumption) ?_ ?_)
    | (with_reducible refine t_62 (by assumption) (fun _ _ _ => ?_))
    | (with_reducible refine t_64 (by assumption) (fun _ _ _ => ?_))
    | (with_reducible refine w_123 (fun _ _ => ?_) (fun _ => ?_))
    | (with_reducible refine w_124 (fun _ _ => ?_) (fun _ => ?_))
    | (with_reducible refine w_126 (fun _ _ => ?_) (fun _ => ?_))
    | (with_reducible refine t_129 hr hF (fun _ _ _ _ _ _ _ _ _ _ _ _ => ?_) ?_)
    | (exfalso; omega)
    | (exact absurd trivial (by assumption))
    | ((with_reducible refine h _ _ ?_) <;> (first | ((repeat (with_reducible first | assumption | exact EQF.rf _ | (refine EQF.up ?_ (by assumption)) | (refine EQF.cp ?_ (by assumption)) | (refine EQF.tr ?_ (by assumption)))); done) | omega | decide | (rw [wr_id ⟨by omega, by omega⟩]; omega)))
theorem t_76 (hr : RI r) (hF : SQ F) (h : ∀ v g', EQF F g g' → Q v g' r) : Ce sc (d + 7) 76 [(2, 0), (0, l1), (0, l2), (0, l3)] g r Q := by
  have k0 : okr 218 0 8 := okd (by decide +kernel)
  refine c_76 ?_
  repeat' first
    | (with_reducible refine ite_01 ?_)
    | (with_reducible refine ite_00 ?_)
    | (with_reducible refine And.intro ?_ ?_; · first | assumption | decide | (exact ARF.i (by assumption) (by omega) (by omega)) | (exact ARF.a (by assumption) (by decide) (by decide)) | (exact ARF.k (by assumption)) | omega | (have := cmp_gt.mp (by assumption : 0 < cmpL _ 0); omega) | (exact parts_ne (by assumption) (by assumption) (by assumption) (by assumption)))
    | (refine ite_c (fun _ => ?_) (fun _ => ?_))
    | (intro _ e1; subst e1)
    | (with_reducible refine t_63 (by assumption) (fun _ _ _ => ?_))
    | (with_reducible refine w_123 (fun _ _ => ?_) (fun _ => ?_))
    | (with_reducible refine t_129 hr hF (fun _ _ _ _ _ _ _ _ _ _ _ _ => ?_) ?_)
    | (exfalso; omega)
    | (exact absurd trivial (by assumption))
    | ((with_reducible refine h _ _ ?_) <;> (first | ((repeat (with_reducible first | assumption | exact EQF.rf _ | (refine EQF.up ?_ (by assumption)) | (refine EQF.cp ?_ (by assumption)) | (refine EQF.tr ?_ (by assumption)))); done) | omega | decide | (rw [wr_id ⟨by omega, by omega⟩]; omega)))
theorem t_79 (hr : RI r) (hF : SQ F) (h : ∀ v g', EQF F g g' → Q v g' r) : Ce sc (d + 7) 79 [(2, 0), (0, l1), (0, l2), (0, l3), (0, l4)] g r Q := by
  have k0 : okr 218 0 8 := okd (by decide +kernel)
  have x18 : NFF F 18 := hF 18 (by unfold SC; omega)
  have h18 := whf_18 hr hF
  have k18 := h18.1
  refine c_79 ?_
  repeat' first
    | (with_reducible refine ite_01 ?_)
    | (with_reducible refine ite_00 ?_)
    | (with_reducible refine And.intro ?_ ?_; · first | assumption | decide | (exact ARF.i (by assumption) (by omega) (by omega)) | (exact ARF.a (by assumption) (by decide) (by decide)) | (exact ARF.k (by assumption)) | omega | (have := cmp_gt.mp (by assumption : 0 < cmpL _ 0); omega))
    | (simp only [r_0_3 hr])
    | (refine ite_c (fun _ => ?_) (fun _ => ?_))
    | (intro _ e1; subst e1)
    | (with_reducible refine t_57 (by assumption) (by assumption) (by assumption) (fun _ _ _ => ?_))
    | (with_reducible refine t_59 (by assumption) (fun _ _ _ => ?_))
    | (with_reducible refine w_123 (fun _ _ => ?_) (fun _ => ?_))
    | (with_reducible refine w_124 (fun _ _ => ?_) (fun _ => ?_))
    | (with_reducible refine t_130 hr hF (fun _ _ _ _ _ _ _ _ => ?_) ?_)
    | (with_reducible refine w_250 (fun _ => ?_) (fun _ => ?_))
    | (exfalso; omega)
    | (exact absurd trivial (by assumption))
    | ((with_reducible refine h _ _ ?_) <;> (first | ((repeat (with_reducible first | assumption | exact EQF.rf _ | (refine EQF.up ?_ (by assumption)) | (refine EQF.cp ?_ (by assumption)) | (refine EQF.tr ?_ (by assumption)))); done) | omega | decide | (rw [wr_id ⟨by omega, by omega⟩]; omega)))
theorem t_107 (hr : RI r) (hF : SQ F) (h : ∀ v g', EQF F g g' → Q v g' r) : Ce sc (d + 4) 107 [(2, 0), (0, l1), (0, l2), (0, l3), (0, l4)] g r Q := by
  have k0 : okr 218 0 8 := okd (by decide +kernel)
  refine c_107 ?_
  repeat' first
    | (with_reducible refine ite_01 ?_)
    | (with_reducible refine ite_00 ?_)
    | (with_reducible refine And.intro ?_ ?_; · first | assumption | decide | (exact ARF.i (by assumption) (by omega) (by omega)) | (exact ARF.a (by assumption) (by decide) (by decide)) | (exact ARF.k (by assumption)) | omega | (have := cmp_gt.mp (by assumption : 0 < cmpL _ 0); omega))
    | (refine ite_c (fun _ => ?_) (fun _ => ?_))
    | (intro _ e1; subst e1)
    | (with_reducible refine t_13 (by assumption) (fun _ _ _ => ?_))
    | (with_reducible refine t_14 (by assumption) (fun _ => ?_))
    | (with_reducible refine w_124 (fun _ _ => ?_) (fun _ => ?_))
    | (with_reducible refine w_125 (fun _ _ => ?_) (fun _ => ?_))
    | (with_reducible refine t_130 hr hF (fun _ _ _ _ _ _ _ _ => ?_) ?_)
    | (exfalso; omega)
    | (exact absurd trivial (by assumption))
    | ((with_reducible refine h _ _ ?_) <;> (first | ((repeat (with_reducible first | assumption | exact EQF.rf _ | (refine EQF.up ?_ (by assumption)) | (refine EQF.cp ?_ (by assumption)) | (refine EQF.tr ?_ (by assumption)))); done) | omega | decide | (rw [wr_id ⟨by omega, by omega⟩]; omega)))
theorem t_109 (hr : RI r) (hF : SQ F) (h : ∀ v g', EQF F g g' → Q v g' r) : Ce sc (d + 7) 109 [(2, 0), (0, l1), (0, l2), (0, l3), (0, l4)] g r Q := by
  have k0 : okr 218 0 8 := okd (by decide +kernel)
  refine c_109 ?_
  repeat' first
    | (with_reducible refine ite_01 ?_)
    | (with_reducible refine ite_00 ?_)
    | (with_reducible refine And.intro ?_ ?_; · first | assumption | decide | (exact ARF.i (by assumption) (by omega) (by omega)) | (exact ARF.a (by assumption) (by decide) (by decide)) | (exact ARF.k (by assumption)) | omega | (have := cmp_gt.mp (by assumption : 0 < cmpL _ 0); omega))
    | (refine ite_c (fun _ => ?_) (fun _ => ?_))
    | (intro _ e1; subst e1)
    | (with_reducible refine t_62 (by assumption) (fun _ _ _ => ?_))
    | (with_reducible refine t_64 (by assumption) (fun _ _ _ => ?_))
    | (with_reducible refine w_123 (fun _ _ => ?_) (fun _ => ?_))
    | (with_reducible refine w_124 (fun _ _ => ?_) (fun _ => ?_))
    | (with_reducible refine t_129 hr hF (fun _ _ _ _ _ _ _ _ _ _ _ _ => ?_) ?_)
    | (with_reducible refine t_130 hr hF (fun _ _ _ _ _ _ _ _ => ?_) ?_)
    | (with_reducible refine w_250 (fun _ => ?_) (fun _ => ?_))
    | (with_reducible refine w_251 (fun _ => ?_) (fun _ => ?_))
    | (exfalso; omega)
    | (exact absurd trivial (by assumption))
    | ((with_reducible refine h _ _ ?_) <;> (first | ((repeat (with_reducible first | assumption | exact EQF.rf _ | (refine EQF.up ?_ (by assumption)) | (refine EQF.cp ?_ (by assumption)) | (refine EQF.tr ?_ (by assumption)))); done) | omega | decide | (rw [wr_id ⟨by omega, by omega⟩]; omega)))
theorem t_82 (hr : RI r) (hF : SQ F) (hB : BRF F r 23) (h : ∀ v g', EQF F g g' → Q v g' r) : Ce sc (d + 8) 82 [(2, 0), (0, l1)] g r Q := by
  have k0 : okr 218 0 8 := okd (by decide +kernel)
  have hM := mrf_of hr hF
  have b23 := hB
  have k23 := b23.1
  have q23 := b23.2.1
  have p46 := (pl_46 hr).fz
  have hl : l1 ≤ 96 ∨ ¬ l1 ≤ 96 := by omega
  have loop : l1 ≤ 96 → ∀ l2 : Int, -2147483648 ≤ l2 → 0 ≤ l2 → ∀ g1, EQF F g g1 → WQ sc (d + 7) 82 Q 46 [(2, 0), (0, l1), (0, l2)] [] g1 r := by
    intro hl
    refine upS 1 l1 (by decide) (by omega) fun l2 _ ih h0 g1 e0 => ?_
    refine b_82_46 ?_
    repeat' first
      | (with_reducible refine ite_01 ?_)
      | (with_reducible refine ite_00 ?_)
      | (with_reducible refine And.intro ?_ ?_; · first | assumption | decide | (exact ARF.i (by assumption) (by omega) (by omega)) | (exact ARF.a (by assumption) (by decide) (by decide)) | (exact ARF.k (by assumption)) | omega | (have := cmp_gt.mp (by assumption : 0 < cmpL _ 0); omega))
      | (simp only [r_0_1 hr, r_0_4 hr, r_0_8 hr])
      | (refine ite_c (fun _ => ?_) (fun _ => ?_))
      | (intro _ e1; subst e1)
      | (with_reducible refine t_5 (by assumption) (by assumption) (by assumption) (fun _ _ _ => ?_))
      | (with_reducible refine w_123 (fun _ _ => ?_) (fun _ => ?_))
      | (with_reducible refine s_131 hr (fun _ => ?_))
      | (with_reducible refine t_133 hr hF (by decide) (by decide) (fun _ _ _ => ?_))
      | (exfalso; omega)
      | (exact absurd trivial (by assumption))
      | ((with_reducible refine ih ?_ ?_ _ ?_) <;> (first | ((repeat (with_reducible first | assumption | exact EQF.rf _ | (refine EQF.up ?_ (by assumption)) | (refine EQF.cp ?_ (by assumption)) | (refine EQF.tr ?_ (by assumption)))); done) | omega | decide | (rw [wr_id ⟨by omega, by omega⟩]; omega)))
      | ((with_reducible refine h _ _ ?_) <;> (first | ((repeat (with_reducible first | assumption | exact EQF.rf _ | (refine EQF.up ?_ (by assumption)) | (refine EQF.cp ?_ (by assumption)) | (refine EQF.tr ?_ (by assumption)))); done) | omega | decide | (rw [wr_id ⟨by omega, by omega⟩]; omega)))
  refine c_82 ?_
  repeat' first
    | (with_reducible refine ite_01 ?_)
    | (with_reducible refine ite_00 ?_)
    | (with_reducible refine And.intro ?_ ?_; · first | assumption | decide | (exact ARF.i (by assumption) (by omega) (by omega)) | (exact ARF.a (by assumption) (by decide) (by decide)) | (exact ARF.k (by assumption)) | omega | (have := cmp_gt.mp (by assumption : 0 < cmpL _ 0); omega))
    | (simp only [r_0_1 hr, r_0_4 hr, r_0_8 hr])
    | (refine ite_c (fun _ => ?_) (fun _ => ?_))
    | (intro _ e1; subst e1)
    | (with_reducible refine t_5 (by assumption) (by assumption) (by assumption) (fun _ _ _ => ?_))
    | (with_reducible refine w_123 (fun _ _ => ?_) (fun _ => ?_))
    | (with_reducible refine s_131 hr (fun _ => ?_))
    | (with_reducible refine t_133 hr hF (by decide) (by decide) (fun _ _ _ => ?_))
    | (exfalso; omega)
    | (exact absurd trivial (by assumption))
    | ((with_reducible refine loop ?_ _ ?_ ?_ _ ?_) <;> (first | ((repeat (with_reducible first | assumption | exact EQF.rf _ | (refine EQF.up ?_ (by assumption)) | (refine EQF.cp ?_ (by assumption)) | (refine EQF.tr ?_ (by assumption)))); done) | omega | decide | (rw [wr_id ⟨by omega, by omega⟩]; omega)))
    | ((with_reducible refine h _ _ ?_) <;> (first | ((repeat (with_reducible first | assumption | exact EQF.rf _ | (refine EQF.up ?_ (by assumption)) | (refine EQF.cp ?_ (by assumption)) | (refine EQF.tr ?_ (by assumption)))); done) | omega | decide | (rw [wr_id ⟨by omega, by omega⟩]; omega)))
theorem t_95 (hr : RI r) (hF : SQ F) (h : ∀ v g', EQF F g g' → Q v g' r) : Ce sc (d + 8) 95 [(2, 0), (0, l1), (0, l2), (0, l3)] g r Q := by
  have k0 : okr 218 0 8 := okd (by decide +kernel)
  have hM := mrf_of hr hF
  have b23 := (br_23 hr).fz
  have k23 := b23.1
  have q23 := b23.2.1
  have ar28 : ARF FZ 28 12 6 := AR.fz (ar_of (by decide +kernel) (by decide +kernel) (by decide +kernel))
  have nr28 := ar28.2.2
  have b34 := brf_34 hr hF
  have k34 := b34.1
  have q34 := b34.2.1
  have ar39 : ARF F 39 12 6 := AR.f (ar_of (by decide +kernel) (by decide +kernel) (by decide +kernel)) (hF _ (by unfold SC; omega))
  have nr39 := ar39.2.2
  have p48z := (pl_48 hr).fz
  have p48 := plf_48 hr hF
  have k48 := p48.1
  have ar49 : ARF F 49 11 6 := AR.f (ar_of (by decide +kernel) (by decide +kernel) (by decide +kernel)) (hF _ (by unfold SC; omega))
  have nr49 := ar49.2.2
  have ar50 : ARF F 50 12 192 := AR.f (ar_of (by decide +kernel) (by decide +kernel) (by decide +kernel)) (hF _ (by unfold SC; omega))
  have mr50 := ar50.2.1
  have nr50 := ar50.2.2
  have loopc : ∀ l5 : Int, -2147483648 ≤ l5 → 0 ≤ l5 → ∀ (l4 : Int) g1, EQF F g g1 → WQ sc (d + 7) 95 Q 113 [(2, 0), (9, 0), (9, 0), (0, l3), (0, l4), (0, l5), (9, 0)] [] g1 r := by
    refine upS 1 6 (by decide) (by first | decide | omega) fun l5 _ ih h0 l4 g1 e0 => ?_
    refine b_95_113 ?_
    repeat' first
      | (with_reducible refine ite_01 ?_)
      | (with_reducible refine ite_00 ?_)
      | (with_reducible refine And.intro ?_ ?_; · first | assumption | decide | (exact ARF.i (by assumption) (by omega) (by omega)) | (exact ARF.a (by assumption) (by decide) (by decide)) | (exact ARF.k (by assumption)) | omega | (have := cmp_gt.mp (by assumption : 0 < cmpL _ 0); omega))
      | (simp only [r_0_1 hr, r_0_4 hr, r_0_5 hr, r_0_9 hr, r_0_10 hr, r_23_8 hr, r_34_8 hr, r_48_0 hr, n_50, wr191])
      | (refine ite_c (fun _ => ?_) (fun _ => ?_))
      | (intro _ e1; subst e1)
      | (with_reducible refine t_1 (by assumption) (by assumption) (fun _ _ _ => ?_))
      | (with_reducible refine t_5 (by assumption) (by assumption) (by assumption) (fun _ _ _ => ?_))
      | (with_reducible refine t_28 (by assumption) (fun _ _ _ => ?_))
      | (with_reducible refine s_94 (fun _ => ?_))
      | (with_reducible refine w_123 (fun _ _ => ?_) (fun _ => ?_))
      | (with_reducible refine t_129 hr hF (fun _ _ _ _ _ _ _ _ _ _ _ _ => ?_) ?_)
      | (exfalso; omega)
      | (exact absurd trivial (by assumption))
      | ((with_reducible refine ih ?_ ?_ _ _ ?_) <;> (first | ((repeat (with_reducible first | assumption | exact EQF.rf _ | (refine EQF.up ?_ (by assumption)) | (refine EQF.cp ?_ (by assumption)) | (refine EQF.tr ?_ (by assumption)))); done) | omega | decide | (rw [wr_id ⟨by omega, by omega⟩]; omega)))
      | ((with_reducible refine h _ _ ?_) <;> (first | ((repeat (with_reducible first | assumption | exact EQF.rf _ | (refine EQF.up ?_ (by assumption)) | (refine EQF.cp ?_ (by assumption)) | (refine EQF.tr ?_ (by assumption)))); done) | omega | decide | (rw [wr_id ⟨by omega, by omega⟩]; omega)))
  have loopb : ∀ l5 : Int, -2147483648 ≤ l5 → 0 ≤ l5 → ∀ g1, EQF F g g1 → WQ sc (d + 7) 95 Q 79 [(2, 0), (9, 0), (9, 0), (0, l3), (9, 0), (0, l5), (9, 0)] [] g1 r := by
    refine upS 1 24 (by decide) (by first | decide | omega) fun l5 _ ih h0 g1 e0 => ?_
    refine b_95_79 ?_
    repeat' first
      | (with_reducible refine ite_01 ?_)
      | (with_reducible refine ite_00 ?_)
      | (with_reducible refine And.intro ?_ ?_; · first | assumption | decide | (exact ARF.i (by assumption) (by omega) (by omega)) | (exact ARF.a (by assumption) (by decide) (by decide)) | (exact ARF.k (by assumption)) | omega | (have := cmp_gt.mp (by assumption : 0 < cmpL _ 0); omega))
      | (simp only [r_0_1 hr, r_0_4 hr, r_0_5 hr, r_0_9 hr, r_0_10 hr, r_23_8 hr, r_34_8 hr, r_48_0 hr, n_50, wr191])
      | (refine ite_c (fun _ => ?_) (fun _ => ?_))
      | (intro _ e1; subst e1)
      | (with_reducible refine t_1 (by assumption) (by assumption) (fun _ _ _ => ?_))
      | (with_reducible refine t_5 (by assumption) (by assumption) (by assumption) (fun _ _ _ => ?_))
      | (with_reducible refine t_28 (by assumption) (fun _ _ _ => ?_))
      | (with_reducible refine s_94 (fun _ => ?_))
      | (with_reducible refine w_123 (fun _ _ => ?_) (fun _ => ?_))
      | (with_reducible refine t_129 hr hF (fun _ _ _ _ _ _ _ _ _ _ _ _ => ?_) ?_)
      | (exfalso; omega)
      | (exact absurd trivial (by assumption))
      | ((with_reducible refine ih ?_ ?_ _ ?_) <;> (first | ((repeat (with_reducible first | assumption | exact EQF.rf _ | (refine EQF.up ?_ (by assumption)) | (refine EQF.cp ?_ (by assumption)) | (refine EQF.tr ?_ (by assumption)))); done) | omega | decide | (rw [wr_id ⟨by omega, by omega⟩]; omega)))
      | ((with_reducible refine loopc _ ?_ ?_ _ _ ?_) <;> (first | ((repeat (with_reducible first | assumption | exact EQF.rf _ | (refine EQF.up ?_ (by assumption)) | (refine EQF.cp ?_ (by assumption)) | (refine EQF.tr ?_ (by assumption)))); done) | omega | decide | (rw [wr_id ⟨by omega, by omega⟩]; omega)))
      | ((with_reducible refine h _ _ ?_) <;> (first | ((repeat (with_reducible first | assumption | exact EQF.rf _ | (refine EQF.up ?_ (by assumption)) | (refine EQF.cp ?_ (by assumption)) | (refine EQF.tr ?_ (by assumption)))); done) | omega | decide | (rw [wr_id ⟨by omega, by omega⟩]; omega)))
  have loopa : ∀ l5 : Int, -2147483648 ≤ l5 → 0 ≤ l5 → ∀ (l4 : Int) g1, EQF F g g1 → WQ sc (d + 7) 95 Q 15 [(2, 0), (9, 0), (9, 0), (0, l3), (0, l4), (0, l5), (9, 0)] [] g1 r := by
    refine upS 1 6 (by decide) (by first | decide | omega) fun l5 _ ih h0 l4 g1 e0 => ?_
    refine b_95_15 ?_
    repeat' first
      | (with_reducible refine ite_01 ?_)
      | (with_reducible refine ite_00 ?_)
      | (with_reducible refine And.intro ?_ ?_; · first | assumption | decide | (exact ARF.i (by assumption) (by omega) (by omega)) | (exact ARF.a (by assumption) (by decide) (by decide)) | (exact ARF.k (by assumption)) | omega | (have := cmp_gt.mp (by assumption : 0 < cmpL _ 0); omega))
      | (simp only [r_0_1 hr, r_0_4 hr, r_0_5 hr, r_0_9 hr, r_0_10 hr, r_23_8 hr, r_34_8 hr, r_48_0 hr, n_50, wr191])
      | (refine ite_c (fun _ => ?_) (fun _ => ?_))
      | (intro _ e1; subst e1)
      | (with_reducible refine t_1 (by assumption) (by assumption) (fun _ _ _ => ?_))
      | (with_reducible refine t_5 (by assumption) (by assumption) (by assumption) (fun _ _ _ => ?_))
      | (with_reducible refine t_28 (by assumption) (fun _ _ _ => ?_))
      | (with_reducible refine s_94 (fun _ => ?_))
      | (with_reducible refine w_123 (fun _ _ => ?_) (fun _ => ?_))
      | (with_reducible refine t_129 hr hF (fun _ _ _ _ _ _ _ _ _ _ _ _ => ?_) ?_)
      | (exfalso; omega)
      | (exact absurd trivial (by assumption))
      | ((with_reducible refine ih ?_ ?_ _ _ ?_) <;> (first | ((repeat (with_reducible first | assumption | exact EQF.rf _ | (refine EQF.up ?_ (by assumption)) | (refine EQF.cp ?_ (by assumption)) | (refine EQF.tr ?_ (by assumption)))); done) | omega | decide | (rw [wr_id ⟨by omega, by omega⟩]; omega)))
      | ((with_reducible refine loopb _ ?_ ?_ _ ?_) <;> (first | ((repeat (with_reducible first | assumption | exact EQF.rf _ | (refine EQF.up ?_ (by assumption)) | (refine EQF.cp ?_ (by assumption)) | (refine EQF.tr ?_ (by assumption)))); done) | omega | decide | (rw [wr_id ⟨by omega, by omega⟩]; omega)))
      | ((with_reducible refine h _ _ ?_) <;> (first | ((repeat (with_reducible first | assumption | exact EQF.rf _ | (refine EQF.up ?_ (by assumption)) | (refine EQF.cp ?_ (by assumption)) | (refine EQF.tr ?_ (by assumption)))); done) | omega | decide | (rw [wr_id ⟨by omega, by omega⟩]; omega)))
  refine c_95 ?_
  repeat' first
    | (with_reducible refine ite_01 ?_)
    | (with_reducible refine ite_00 ?_)
    | (with_reducible refine And.intro ?_ ?_; · first | assumption | decide | (exact ARF.i (by assumption) (by omega) (by omega)) | (exact ARF.a (by assumption) (by decide) (by decide)) | (exact ARF.k (by assumption)) | omega | (have := cmp_gt.mp (by assumption : 0 < cmpL _ 0); omega))
    | (simp only [r_0_1 hr, r_0_4 hr, r_0_5 hr, r_0_9 hr, r_0_10 hr, r_23_8 hr, r_34_8 hr, r_48_0 hr, n_50, wr191])
    | (refine ite_c (fun _ => ?_) (fun _ => ?_))
    | (intro _ e1; subst e1)
    | (with_reducible refine t_1 (by assumption) (by assumption) (fun _ _ _ => ?_))
    | (with_reducible refine t_5 (by assumption) (by assumption) (by assumption) (fun _ _ _ => ?_))
    | (with_reducible refine t_28 (by assumption) (fun _ _ _ => ?_))
    | (with_reducible refine s_94 (fun _ => ?_))
    | (with_reducible refine w_123 (fun _ _ => ?_) (fun _ => ?_))
    | (with_reducible refine t_129 hr hF (fun _ _ _ _ _ _ _ _ _ _ _ _ => ?_) ?_)
    | (exfalso; omega)
    | (exact absurd trivial (by assumption))
    | ((with_reducible refine loopa _ ?_ ?_ _ _ ?_) <;> (first | ((repeat (with_reducible first | assumption | exact EQF.rf _ | (refine EQF.up ?_ (by assumption)) | (refine EQF.cp ?_ (by assumption)) | (refine EQF.tr ?_ (by assumption)))); done) | omega | decide | (rw [wr_id ⟨by omega, by omega⟩]; omega)))
    | ((with_reducible refine h _ _ ?_) <;> (first | ((repeat (with_reducible first | assumption | exact EQF.rf _ | (refine EQF.up ?_ (by assumption)) | (refine EQF.cp ?_ (by assumption)) | (refine EQF.tr ?_ (by assumption)))); done) | omega | decide | (rw [wr_id ⟨by omega, by omega⟩]; omega)))
theorem t_87 (hr : RI r) (hF : SQ F) (h : ∀ v g', EQF F g g' → Q v g' r) : Ce sc (d + 9) 87 [(2, 0), (0, l1), (0, l2), (0, l3), (0, l4)] g r Q := by
  have k0 : okr 218 0 8 := okd (by decide +kernel)
  refine c_87 ?_
  repeat' first
    | (with_reducible refine ite_01 ?_)
    | (with_reducible refine ite_00 ?_)
    | (with_reducible refine And.intro ?_ ?_; · first | assumption | decide | (exact ARF.i (by assumption) (by omega) (by omega)) | (exact ARF.a (by assumption) (by decide) (by decide)) | (exact ARF.k (by assumption)) | omega | (have := cmp_gt.mp (by assumption : 0 < cmpL _ 0); omega))
    | (refine ite_c (fun _ => ?_) (fun _ => ?_))
    | (intro _ e1; subst e1)
    | (with_reducible refine s_90 hr ?_ ?_)
    | (with_reducible refine s_91 hr (fun _ _ => ?_))
    | (with_reducible refine s_92 hr ?_ ?_)
    | (with_reducible refine t_95 hr hF (fun _ _ _ => ?_))
    | (with_reducible refine s_96 hr (fun _ => ?_))
    | (with_reducible refine w_123 (fun _ _ => ?_) (fun _ => ?_))
    | (exfalso; omega)
    | (exact absurd trivial (by assumption))
    | ((with_reducible refine h _ _ ?_) <;> (first | ((repeat (with_reducible first | assumption | exact EQF.rf _ | (refine EQF.up ?_ (by assumption)) | (refine EQF.cp ?_ (by assumption)) | (refine EQF.tr ?_ (by assumption)))); done) | omega | decide | (rw [wr_id ⟨by omega, by omega⟩]; omega)))
theorem t_88 (hr : RI r) (hF : SQ F) (h : ∀ v g', EQF F g g' → Q v g' r) : Ce sc (d + 9) 88 [(2, 0), (0, l1), (0, l2), (0, l3)] g r Q := by
  have k0 : okr 218 0 8 := okd (by decide +kernel)
  have loopb : ∀ l5 : Int, -2147483648 ≤ l5 → 0 ≤ l5 → ∀ (l4 : Int) g1, EQF F g g1 → WQ sc (d + 8) 88 Q 55 [(2, 0), (9, 0), (9, 0), (0, l3), (0, l4), (0, l5)] [] g1 r := by
    refine upS 1 64 (by decide) (by first | decide | omega) fun l5 _ ih h0 l4 g1 e0 => ?_
    refine b_88_55 ?_
    repeat' first
      | (with_reducible refine ite_01 ?_)
      | (with_reducible refine ite_00 ?_)
      | (with_reducible refine And.intro ?_ ?_; · first | assumption | decide | (exact ARF.i (by assumption) (by omega) (by omega)) | (exact ARF.a (by assumption) (by decide) (by decide)) | (exact ARF.k (by assumption)) | omega | (have := cmp_gt.mp (by assumption : 0 < cmpL _ 0); omega))
      | (refine ite_c (fun _ => ?_) (fun _ => ?_))
      | (intro _ e1; subst e1)
      | (with_reducible refine s_90 hr ?_ ?_)
      | (with_reducible refine s_92 hr ?_ ?_)
      | (with_reducible refine t_95 hr hF (fun _ _ _ => ?_))
      | (with_reducible refine s_97 hr ?_ ?_)
      | (exfalso; omega)
      | (exact absurd trivial (by assumption))
      | ((with_reducible refine ih ?_ ?_ _ _ ?_) <;> (first | ((repeat (with_reducible first | assumption | exact EQF.rf _ | (refine EQF.up ?_ (by assumption)) | (refine EQF.cp ?_ (by assumption)) | (refine EQF.tr ?_ (by assumption)))); done) | omega | decide | (rw [wr_id ⟨by omega, by omega⟩]; omega)))
      | ((with_reducible refine h _ _ ?_) <;> (first | ((repeat (with_reducible first | assumption | exact EQF.rf _ | (refine EQF.up ?_ (by assumption)) | (refine EQF.cp ?_ (by assumption)) | (refine EQF.tr ?_ (by assumption)))); done) | omega | decide | (rw [wr_id ⟨by omega, by omega⟩]; omega)))
  have loopa : ∀ l4 : Int, -2147483648 ≤ l4 → 0 ≤ l4 → ∀ g1, EQF F g g1 → WQ sc (d + 8) 88 Q 19 [(2, 0), (0, l1), (0, l2), (0, l3), (0, l4), (9, 0)] [] g1 r := by
    refine upS 1 64 (by decide) (by first | decide | omega) fun l4 _ ih h0 g1 e0 => ?_
    refine b_88_19 ?_
    repeat' first
      | (with_reducible refine ite_01 ?_)
      | (with_reducible refine ite_00 ?_)
      | (with_reducible refine And.intro ?_ ?_; · first | assumption | decide | (exact ARF.i (by assumption) (by omega) (by omega)) | (exact ARF.a (by assumption) (by decide) (by decide)) | (exact ARF.k (by assumption)) | omega | (have := cmp_gt.mp (by assumption : 0 < cmpL _ 0); omega))
      | (refine ite_c (fun _ => ?_) (fun _ => ?_))
      | (intro _ e1; subst e1)
      | (with_reducible refine s_90 hr ?_ ?_)
      | (with_reducible refine s_92 hr ?_ ?_)
      | (with_reducible refine t_95 hr hF (fun _ _ _ => ?_))
      | (with_reducible refine s_97 hr ?_ ?_)
      | (exfalso; omega)
      | (exact absurd trivial (by assumption))
      | ((with_reducible refine ih ?_ ?_ _ ?_) <;> (first | ((repeat (with_reducible first | assumption | exact EQF.rf _ | (refine EQF.up ?_ (by assumption)) | (refine EQF.cp ?_ (by assumption)) | (refine EQF.tr ?_ (by assumption)))); done) | omega | decide | (rw [wr_id ⟨by omega, by omega⟩]; omega)))
      | ((with_reducible refine loopb _ ?_ ?_ _ _ ?_) <;> (first | ((repeat (with_reducible first | assumption | exact EQF.rf _ | (refine EQF.up ?_ (by assumption)) | (refine EQF.cp ?_ (by assumption)) | (refine EQF.tr ?_ (by assumption)))); done) | omega | decide | (rw [wr_id ⟨by omega, by omega⟩]; omega)))
      | ((with_reducible refine h _ _ ?_) <;> (first | ((repeat (with_reducible first | assumption | exact EQF.rf _ | (refine EQF.up ?_ (by assumption)) | (refine EQF.cp ?_ (by assumption)) | (refine EQF.tr ?_ (by assumption)))); done) | omega | decide | (rw [wr_id ⟨by omega, by omega⟩]; omega)))
  refine c_88 ?_
  repeat' first
    | (with_reducible refine ite_01 ?_)
    | (with_reducible refine ite_00 ?_)
    | (with_reducible refine And.intro ?_ ?_; · first | assumption | decide | (exact ARF.i (by assumption) (by omega) (by omega)) | (exact ARF.a (by assumption) (by decide) (by decide)) | (exact ARF.k (by assumption)) | omega | (have := cmp_gt.mp (by assumption : 0 < cmpL _ 0); omega))
    | (refine ite_c (fun _ => ?_) (fun _ => ?_))
    | (intro _ e1; subst e1)
    | (with_reducible refine s_90 hr ?_ ?_)
    | (with_reducible refine s_92 hr ?_ ?_)
    | (with_reducible refine t_95 hr hF (fun _ _ _ => ?_))
    | (with_reducible refine s_97 hr ?_ ?_)
    | (exfalso; omega)
    | (exact absurd trivial (by assumption))
    | ((with_reducible refine loopa _ ?_ ?_ _ ?_) <;> (first | ((repeat (with_reducible first | assumption | exact EQF.rf _ | (refine EQF.up ?_ (by assumption)) | (refine EQF.cp ?_ (by assumption)) | (refine EQF.tr ?_ (by assumption)))); done) | omega | decide | (rw [wr_id ⟨by omega, by omega⟩]; omega)))
    | ((with_reducible refine h _ _ ?_) <;> (first | ((repeat (with_reducible first | assumption | exact EQF.rf _ | (refine EQF.up ?_ (by assumption)) | (refine EQF.cp ?_ (by assumption)) | (refine EQF.tr ?_ (by assumption)))); done) | omega | decide | (rw [wr_id ⟨by omega, by omega⟩]; omega)))
theorem t_89 (hr : RI r) (hF : SQ F) (h : ∀ v g', EQF F g g' → Q v g' r) : Ce sc (d + 9) 89 [(2, 0), (0, l1), (0, l2), (0, l3)] g r Q := by
  have k0 : okr 218 0 8 := okd (by decide +kernel)
  have outer : ∀ l4 : Int, l4 ≤ 3 → ∀ l5 : Int, -2147483648 ≤ l5 → 0 ≤ l5 → ∀ g1, EQF F g g1 → WQ sc (d + 8) 89 Q 31 [(2, 0), (0, l1), (0, l2), (0, l3), (0, l4), (0, l5), (9, 0), (9, 0)] [] g1 r := by
    intro l4 hl
    refine upS 1 64 (by decide) (by decide) fun l5 _ ih h5 g1 e0 => ?_
    have inner : l5 < 64 → ∀ l7 : Int, -2147483648 ≤ l7 → 0 ≤ l7 → ∀ (l6 : Int) g2, EQF F g g2 → WQ sc (d + 8) 89 Q 64 [(2, 0), (0, l1), (0, l2), (0, l3), (0, l4), (0, l5), (0, l6), (0, l7)] [] g2 r := by
      intro hlt
      refine upS 1 l4 (by decide) (by omega) fun l7 _ ih2 h7 l6 g2 e2 => ?_
      refine b_89_64 ?_
      repeat' first
        | (with_reducible refine ite_01 ?_)
        | (with_reducible refine ite_00 ?_)
        | (with_reducible refine And.intro ?_ ?_; · first | assumption | decide | (exact ARF.i (by assumption) (by omega) (by omega)) | (exact ARF.a (by assumption) (by decide) (by decide)) | (exact ARF.k (by assumption)) | omega | (have := cmp_gt.mp (by assumption : 0 < cmpL _ 0); omega))
        | (refine ite_c (fun _ => ?_) (fun _ => ?_))
        | (intro _ e1; subst e1)
        | (with_reducible refine s_90 hr ?_ ?_)
        | (with_reducible refine s_91 hr (fun _ _ => ?_))
        | (with_reducible refine s_92 hr ?_ ?_)
        | (with_reducible refine t_95 hr hF (fun _ _ _ => ?_))
        | (with_reducible refine s_96 hr (fun _ => ?_))
        | (with_reducible refine w_123 (fun _ _ => ?_) (fun _ => ?_))
        | (exfalso; omega)
        | (exact absurd trivial (by assumption))
        | ((with_reducible refine ih2 ?_ ?_ _ _ ?_) <;> (first | ((repeat (with_reducible first | assumption | exact EQF.rf _ | (refine EQF.up ?_ (by assumption)) | (refine EQF.cp ?_ (by assumption)) | (refine EQF.tr ?_ (by assumption)))); done) | omega | decide | (rw [wr_id ⟨by omega, by omega⟩]; omega)))
        | ((with_reducible refine ih hlt ?_ _ ?_) <;> (first | ((repeat (with_reducible first | assumption | exact EQF.rf _ | (refine EQF.up ?_ (by assumption)) | (refine EQF.cp ?_ (by assumption)) | (refine EQF.tr ?_ (by assumption)))); done) | omega | decide | (rw [wr_id ⟨by omega, by omega⟩]; omega)))
        | ((with_reducible refine h _ _ ?_) <;> (first | ((repeat (with_reducible first | assumption | exact EQF.rf _ | (refine EQF.up ?_ (by assumption)) | (refine EQF.cp ?_ (by assumption)) | (refine EQF.tr ?_ (by assumption)))); done) | omega | decide | (rw [wr_id ⟨by omega, by omega⟩]; omega)))
    refine b_89_31 ?_
    repeat' first
      | (with_reducible refine ite_01 ?_)
      | (with_reducible refine ite_00 ?_)
      | (with_reducible refine And.intro ?_ ?_; · first | assumption | decide | (exact ARF.i (by assumption) (by omega) (by omega)) | (exact ARF.a (by assumption) (by decide) (by decide)) | (exact ARF.k (by assumption)) | omega | (have := cmp_gt.mp (by assumption : 0 < cmpL _ 0); omega))
      | (refine ite_c (fun _ => ?_) (fun _ => ?_))
      | (intro _ e1; subst e1)
      | (with_reducible refine s_90 hr ?_ ?_)
      | (with_reducible refine s_91 hr (fun _ _ => ?_))
      | (with_reducible refine s_92 hr ?_ ?_)
      | (with_reducible refine t_95 hr hF (fun _ _ _ => ?_))
      | (with_reducible refine s_96 hr (fun _ => ?_))
      | (with_reducible refine w_123 (fun _ _ => ?_) (fun _ => ?_))
      | (exfalso; omega)
      | (exact absurd trivial (by assumption))
      | ((with_reducible refine inner ?_ _ ?_ ?_ _ _ ?_) <;> (first | ((repeat (with_reducible first | assumption | exact EQF.rf _ | (refine EQF.up ?_ (by assumption)) | (refine EQF.cp ?_ (by assumption)) | (refine EQF.tr ?_ (by assumption)))); done) | omega | decide | (rw [wr_id ⟨by omega, by omega⟩]; omega)))
      | ((with_reducible refine ih ?_ ?_ _ ?_) <;> (first | ((repeat (with_reducible first | assumption | exact EQF.rf _ | (refine EQF.up ?_ (by assumption)) | (refine EQF.cp ?_ (by assumption)) | (refine EQF.tr ?_ (by assumption)))); done) | omega | decide | (rw [wr_id ⟨by omega, by omega⟩]; omega)))
      | ((with_reducible refine h _ _ ?_) <;> (first | ((repeat (with_reducible first | assumption | exact EQF.rf _ | (refine EQF.up ?_ (by assumption)) | (refine EQF.cp ?_ (by assumption)) | (refine EQF.tr ?_ (by assumption)))); done) | omega | decide | (rw [wr_id ⟨by omega, by omega⟩]; omega)))
  refine c_89 ?_
  repeat' first
    | (with_reducible refine ite_01 ?_)
    | (with_reducible refine ite_00 ?_)
    | (with_reducible refine And.intro ?_ ?_; · first | assumption | decide | (exact ARF.i (by assumption) (by omega) (by omega)) | (exact ARF.a (by assumption) (by decide) (by decide)) | (exact ARF.k (by assumption)) | omega | (have := cmp_gt.mp (by assumption : 0 < cmpL _ 0); omega))
    | (refine ite_c (fun _ => ?_) (fun _ => ?_))
    | (intro _ e1; subst e1)
    | (with_reducible refine s_90 hr ?_ ?_)
    | (with_reducible refine s_91 hr (fun _ _ => ?_))
    | (with_reducible refine s_92 hr ?_ ?_)
    | (with_reducible refine t_95 hr hF (fun _ _ _ => ?_))
    | (with_reducible refine s_96 hr (fun _ => ?_))
    | (with_reducible refine w_123 (fun _ _ => ?_) (fun _ => ?_))
    | (exfalso; omega)
    | (exact absurd trivial (by assumption))
    | ((with_reducible refine outer _ ?_ _ ?_ ?_ _ ?_) <;> (first | ((repeat (with_reducible first | assumption | exact EQF.rf _ | (refine EQF.up ?_ (by assumption)) | (refine EQF.cp ?_ (by assumption)) | (refine EQF.tr ?_ (by assumption)))); done) | omega | decide | (rw [wr_id ⟨by omega, by omega⟩]; omega)))
    | ((with_reducible refine h _ _ ?_) <;> (first | ((repeat (with_reducible first | assumption | exact EQF.rf _ | (refine EQF.up ?_ (by assumption)) | (refine EQF.cp ?_ (by assumption)) | (refine EQF.tr ?_ (by assumption)))); done) | omega | decide | (rw [wr_id ⟨by omega, by omega⟩]; omega)))
theorem t_101 (hr : RI r) (hF : SQ F) (hC : CQ F) (hc : CI g) (h : ∀ v g', EQF F g g' → Q v g' r) : Ce sc (d + 3) 101 [(2, 0), (0, l1)] g r Q := by
  have k0 : okr 218 0 8 := okd (by decide +kernel)
  have ar51 : ARF FZ 51 11 6 := AR.fz (ar_of (by decide +kernel) (by decide +kernel) (by decide +kernel))
  have mr51 := ar51.2.1
  have nr51 := ar51.2.2
  have k52 : okr 218 52 3 := okd (by decide +kernel)
  have pr52 := pr_52 hr
  have loop : ∀ l4 : Int, -2147483648 ≤ l4 → 0 ≤ l4 → ∀ (l2 : Int) g1, EQF F g g1 → WQ sc (d + 2) 101 Q 28 [(2, 0), (0, l1), (1, l2), (8, 0), (0, l4), (9, 0), (9, 0), (9, 0)] [] g1 r := by
    refine upS 1 30 (by decide) (by decide) fun l4 _ ih h0 l2 g1 e0 => ?_
    obtain ⟨⟨c1, c2⟩, ⟨c3, c4⟩, ⟨c5, c6⟩, ⟨c7, c8⟩, ⟨c9, c10⟩, c11, c12⟩ := hc.eqf hC e0
    have mid : l4 < 30 → ∀ (l2 l6 t0 : Int), WQ sc (d + 2) 101 Q 102 [(2, 0), (0, l1), (1, l2), (8, 0), (0, l4), (9, 0), (0, l6), (9, 0)] [(0, t0)] g1 r := by
      intro hlt l2 l6 t0
      refine b_101_102 ?_
      repeat' first
        | (with_reducible refine ite_01 ?_)
        | (with_reducible refine ite_00 ?_)
        | (with_reducible refine And.intro ?_ ?_; · first | assumption | decide | (exact ARF.i (by assumption) (by omega) (by omega)) | (exact ARF.a (by assumption) (by decide) (by decide)) | (exact ARF.k (by assumption)) | omega | (have := cmp_gt.mp (by assumption : 0 < cmpL _ 0); omega))
        | (simp only [r_0_11 hr, r_0_12 hr])
        | (refine ite_c (fun _ => ?_) (fun _ => ?_))
        | (intro _ e1; subst e1)
        | (with_reducible refine s_25 (by assumption) (fun _ => ?_))
        | (with_reducible refine s_26 (by assumption) (fun _ => ?_))
        | (with_reducible refine w_123 (fun _ _ => ?_) (fun _ => ?_))
        | (with_reducible refine t_129 hr hF (fun _ _ _ _ _ _ _ _ _ _ _ _ => ?_) ?_)
        | (exfalso; omega)
        | (exact absurd trivial (by assumption))
        | ((with_reducible refine ih hlt ?_ _ _ ?_) <;> (first | ((repeat (with_reducible first | assumption | exact EQF.rf _ | (refine EQF.up ?_ (by assumption)) | (refine EQF.cp ?_ (by assumption)) | (refine EQF.tr ?_ (by assumption)))); done) | omega | decide | (rw [wr_id ⟨by omega, by omega⟩]; omega)))
        | ((with_reducible refine h _ _ ?_) <;> (first | ((repeat (with_reducible first | assumption | exact EQF.rf _ | (refine EQF.up ?_ (by assumption)) | (refine EQF.cp ?_ (by assumption)) | (refine EQF.tr ?_ (by assumption)))); done) | omega | decide | (rw [wr_id ⟨by omega, by omega⟩]; omega)))
    refine b_101_28 ?_
    repeat' first
      | (with_reducible refine ite_01 ?_)
      | (with_reducible refine ite_00 ?_)
      | (with_reducible refine And.intro ?_ ?_; · first | assumption | decide | (exact ARF.i (by assumption) (by omega) (by omega)) | (exact ARF.a (by assumption) (by decide) (by decide)) | (exact ARF.k (by assumption)) | omega | (have := cmp_gt.mp (by assumption : 0 < cmpL _ 0); omega))
      | (simp only [r_0_11 hr, r_0_12 hr])
      | (refine ite_c (fun _ => ?_) (fun _ => ?_))
      | (intro _ e1; subst e1)
      | (with_reducible refine s_25 (by assumption) (fun _ => ?_))
      | (with_reducible refine s_26 (by assumption) (fun _ => ?_))
      | (with_reducible refine w_123 (fun _ _ => ?_) (fun _ => ?_))
      | (with_reducible refine t_129 hr hF (fun _ _ _ _ _ _ _ _ _ _ _ _ => ?_) ?_)
      | (exfalso; omega)
      | (exact absurd trivial (by assumption))
      | ((with_reducible refine mid ?_ _ _ _) <;> (first | ((repeat (with_reducible first | assumption | exact EQF.rf _ | (refine EQF.up ?_ (by assumption)) | (refine EQF.cp ?_ (by assumption)) | (refine EQF.tr ?_ (by assumption)))); done) | omega | decide | (rw [wr_id ⟨by omega, by omega⟩]; omega)))
      | ((with_reducible refine ih ?_ ?_ _ _ ?_) <;> (first | ((repeat (with_reducible first | assumption | exact EQF.rf _ | (refine EQF.up ?_ (by assumption)) | (refine EQF.cp ?_ (by assumption)) | (refine EQF.tr ?_ (by assumption)))); done) | omega | decide | (rw [wr_id ⟨by omega, by omega⟩]; omega)))
      | ((with_reducible refine h _ _ ?_) <;> (first | ((repeat (with_reducible first | assumption | exact EQF.rf _ | (refine EQF.up ?_ (by assumption)) | (refine EQF.cp ?_ (by assumption)) | (refine EQF.tr ?_ (by assumption)))); done) | omega | decide | (rw [wr_id ⟨by omega, by omega⟩]; omega)))
  refine c_101 ?_
  repeat' first
    | (with_reducible refine ite_01 ?_)
    | (with_reducible refine ite_00 ?_)
    | (with_reducible refine And.intro ?_ ?_; · first | assumption | decide | (exact ARF.i (by assumption) (by omega) (by omega)) | (exact ARF.a (by assumption) (by decide) (by decide)) | (exact ARF.k (by assumption)) | omega | (have := cmp_gt.mp (by assumption : 0 < cmpL _ 0); omega))
    | (simp only [r_0_11 hr, r_0_12 hr])
    | (refine ite_c (fun _ => ?_) (fun _ => ?_))
    | (intro _ e1; subst e1)
    | (with_reducible refine s_25 (by assumption) (fun _ => ?_))
    | (with_reducible refine s_26 (by assumption) (fun _ => ?_))
    | (with_reducible refine w_123 (fun _ _ => ?_) (fun _ => ?_))
    | (with_reducible refine t_129 hr hF (fun _ _ _ _ _ _ _ _ _ _ _ _ => ?_) ?_)
    | (exfalso; omega)
    | (exact absurd trivial (by assumption))
    | ((with_reducible refine loop _ ?_ ?_ _ _ ?_) <;> (first | ((repeat (with_reducible first | assumption | exact EQF.rf _ | (refine EQF.up ?_ (by assumption)) | (refine EQF.cp ?_ (by assumption)) | (refine EQF.tr ?_ (by assumption)))); done) | omega | decide | (rw [wr_id ⟨by omega, by omega⟩]; omega)))
    | ((with_reducible refine h _ _ ?_) <;> (first | ((repeat (with_reducible first | assumption | exact EQF.rf _ | (refine EQF.up ?_ (by assumption)) | (refine EQF.cp ?_ (by assumption)) | (refine EQF.tr ?_ (by assumption)))); done) | omega | decide | (rw [wr_id ⟨by omega, by omega⟩]; omega)))
theorem t_100 (hr : RI r) (hF : SQ F) (hC : CQ F) (hc : CI g) (h : ∀ v g', EQF F g g' → Q v g' r) : Ce sc (d + 4) 100 [(2, 0), (0, l1)] g r Q := by
  have k0 : okr 218 0 8 := okd (by decide +kernel)
  have loop : ∀ l4 : Int, -2147483648 ≤ l4 → 0 ≤ l4 → ∀ (l2 : Int) g1, EQF F g g1 → WQ sc (d + 3) 100 Q 15 [(2, 0), (0, l1), (1, l2), (8, 0), (0, l4)] [] g1 r := by
    refine upS 1 6 (by decide) (by first | decide | omega) fun l4 _ ih h0 l2 g1 e0 => ?_
    refine b_100_15 ?_
    repeat' first
      | (with_reducible refine ite_01 ?_)
      | (with_reducible refine ite_00 ?_)
      | (with_reducible refine And.intro ?_ ?_; · first | assumption | decide | (exact ARF.i (by assumption) (by omega) (by omega)) | (exact ARF.a (by assumption) (by decide) (by decide)) | (exact ARF.k (by assumption)) | omega | (have := cmp_gt.mp (by assumption : 0 < cmpL _ 0); omega))
      | (refine ite_c (fun _ => ?_) (fun _ => ?_))
      | (intro _ e1; subst e1)
      | (with_reducible refine t_101 hr hF hC (CI.eqf hC hc (by (repeat (with_reducible first | assumption | exact EQF.rf _ | (refine EQF.up ?_ (by assumption)) | (refine EQF.cp ?_ (by assumption)) | (refine EQF.tr ?_ (by assumption)))))) (fun _ _ _ => ?_))
      | (with_reducible refine s_102 (fun _ => ?_))
      | (with_reducible refine t_129 hr hF (fun _ _ _ _ _ _ _ _ _ _ _ _ => ?_) ?_)
      | (exfalso; omega)
      | (exact absurd trivial (by assumption))
      | ((with_reducible refine ih ?_ ?_ _ _ ?_) <;> (first | ((repeat (with_reducible first | assumption | exact EQF.rf _ | (refine EQF.up ?_ (by assumption)) | (refine EQF.cp ?_ (by assumption)) | (refine EQF.tr ?_ (by assumption)))); done) | omega | decide | (rw [wr_id ⟨by omega, by omega⟩]; omega)))
      | ((with_reducible refine h _ _ ?_) <;> (first | ((repeat (with_reducible first | assumption | exact EQF.rf _ | (refine EQF.up ?_ (by assumption)) | (refine EQF.cp ?_ (by assumption)) | (refine EQF.tr ?_ (by assumption)))); done) | omega | decide | (rw [wr_id ⟨by omega, by omega⟩]; omega)))
  refine c_100 ?_
  repeat' first
    | (with_reducible refine ite_01 ?_)
    | (with_reducible refine ite_00 ?_)
    | (with_reducible refine And.intro ?_ ?_; · first | assumption | decide | (exact ARF.i (by assumption) (by omega) (by omega)) | (exact ARF.a (by assumption) (by decide) (by decide)) | (exact ARF.k (by assumption)) | omega | (have := cmp_gt.mp (by assumption : 0 < cmpL _ 0); omega))
    | (refine ite_c (fun _ => ?_) (fun _ => ?_))
    | (intro _ e1; subst e1)
    | (with_reducible refine t_101 hr hF hC (CI.eqf hC hc (by (repeat (with_reducible first | assumption | exact EQF.rf _ | (refine EQF.up ?_ (by assumption)) | (refine EQF.cp ?_ (by assumption)) | (refine EQF.tr ?_ (by assumption)))))) (fun _ _ _ => ?_))
    | (with_reducible refine s_102 (fun _ => ?_))
    | (with_reducible refine t_129 hr hF (fun _ _ _ _ _ _ _ _ _ _ _ _ => ?_) ?_)
    | (exfalso; omega)
    | (exact absurd trivial (by assumption))
    | ((with_reducible refine loop _ ?_ ?_ _ _ ?_) <;> (first | ((repeat (with_reducible first | assumption | exact EQF.rf _ | (refine EQF.up ?_ (by assumption)) | (refine EQF.cp ?_ (by assumption)) | (refine EQF.tr ?_ (by assumption)))); done) | omega | decide | (rw [wr_id ⟨by omega, by omega⟩]; omega)))
    | ((with_reducible refine h _ _ ?_) <;> (first | ((repeat (with_reducible first | assumption | exact EQF.rf _ | (refine EQF.up ?_ (by assumption)) | (refine EQF.cp ?_ (by assumption)) | (refine EQF.tr ?_ (by assumption)))); done) | omega | decide | (rw [wr_id ⟨by omega, by omega⟩]; omega)))
theorem t_103 (hr : RI r) (hF : SQ F) (h : ∀ v g', EQF F g g' → Q v g' r) : Ce sc (d + 3) 103 [(2, 0), (0, l1), (0, l2), (0, l3)] g r Q := by
  have k0 : okr 218 0 8 := okd (by decide +kernel)
  have loop : ∀ l9 : Int, -2147483648 ≤ l9 → 0 ≤ l9 → ∀ (l4 l5 l6 l7 l8 : Int), WQ sc (d + 2) 103 Q 85 [(2, 0), (0, l1), (9, 0), (9, 0), (0, l4), (0, l5), (0, l6), (0, l7), (0, l8), (0, l9), (9, 0)] [] g r := by
    refine upS 1 6 (by decide) (by decide) fun l9 _ ih h0 l4 l5 l6 l7 l8 => ?_
    refine b_103_85 ?_
    repeat' first
      | (with_reducible refine ite_01 ?_)
      | (with_reducible refine ite_00 ?_)
      | (with_reducible refine And.intro ?_ ?_; · first | assumption | decide | (exact ARF.i (by assumption) (by omega) (by omega)) | (exact ARF.a (by assumption) (by decide) (by decide)) | (exact ARF.k (by assumption)) | omega | (have := cmp_gt.mp (by assumption : 0 < cmpL _ 0); omega))
      | (refine ite_c (fun _ => ?_) (fun _ => ?_))
      | (intro _ e1; subst e1)
      | (with_reducible refine w_123 (fun _ _ => ?_) (fun _ => ?_))
      | (with_reducible refine t_129 hr hF (fun _ _ _ _ _ _ _ _ _ _ _ _ => ?_) ?_)
      | (exfalso; omega)
      | (exact absurd trivial (by assumption))
      | ((with_reducible refine ih ?_ ?_ _ _ _ _ _) <;> (first | ((repeat (with_reducible first | assumption | exact EQF.rf _ | (refine EQF.up ?_ (by assumption)) | (refine EQF.cp ?_ (by assumption)) | (refine EQF.tr ?_ (by assumption)))); done) | omega | decide | (rw [wr_id ⟨by omega, by omega⟩]; omega)))
      | ((with_reducible refine h _ _ ?_) <;> (first | ((repeat (with_reducible first | assumption | exact EQF.rf _ | (refine EQF.up ?_ (by assumption)) | (refine EQF.cp ?_ (by assumption)) | (refine EQF.tr ?_ (by assumption)))); done) | omega | decide | (rw [wr_id ⟨by omega, by omega⟩]; omega)))
  refine c_103 ?_
  repeat' first
    | (with_reducible refine ite_01 ?_)
    | (with_reducible refine ite_00 ?_)
    | (with_reducible refine And.intro ?_ ?_; · first | assumption | decide | (exact ARF.i (by assumption) (by omega) (by omega)) | (exact ARF.a (by assumption) (by decide) (by decide)) | (exact ARF.k (by assumption)) | omega | (have := cmp_gt.mp (by assumption : 0 < cmpL _ 0); omega))
    | (refine ite_c (fun _ => ?_) (fun _ => ?_))
    | (intro _ e1; subst e1)
    | (with_reducible refine w_123 (fun _ _ => ?_) (fun _ => ?_))
    | (with_reducible refine t_129 hr hF (fun _ _ _ _ _ _ _ _ _ _ _ _ => ?_) ?_)
    | (exfalso; omega)
    | (exact absurd trivial (by assumption))
    | ((with_reducible refine loop _ ?_ ?_ _ _ _ _ _) <;> (first | ((repeat (with_reducible first | assumption | exact EQF.rf _ | (refine EQF.up ?_ (by assumption)) | (refine EQF.cp ?_ (by assumption)) | (refine EQF.tr ?_ (by assumption)))); done) | omega | decide | (rw [wr_id ⟨by omega, by omega⟩]; omega)))
    | ((with_reducible refine h _ _ ?_) <;> (first | ((repeat (with_reducible first | assumption | exact EQF.rf _ | (refine EQF.up ?_ (by assumption)) | (refine EQF.cp ?_ (by assumption)) | (refine EQF.tr ?_ (by assumption)))); done) | omega | decide | (rw [wr_id ⟨by omega, by omega⟩]; omega)))
theorem t_108 (hr : RI r) (hF : SQ F) (h : ∀ v g', EQF F g g' → Q v g' r) : Ce sc (d + 7) 108 [(2, 0), (0, l1), (0, l2), (0, l3), (0, l4), (0, l5)] g r Q := by
  have k0 : okr 218 0 8 := okd (by decide +kernel)
  have end1 : ∀ (l4 l5 l6 l8 l9 : Int), okr 218 l6 2 → WHF F r (r l6 1) → WQ sc (d + 6) 108 Q 151 [(9, 0), (9, 0), (9, 0), (9, 0), (0, l4), (0, l5), (2, l6), (9, 0), (0, l8), (0, l9), (9, 0)] [] g r := by
    intro l4 l5 l6 l8 l9 k6 hw
    have kw := hw.1
    refine b_108_151 ?_
    repeat' first
      | (with_reducible refine ite_01 ?_)
      | (with_reducible refine ite_00 ?_)
      | (with_reducible refine And.intro ?_ ?_; · first | assumption | decide | (exact ARF.i (by assumption) (by omega) (by omega)) | (exact ARF.a (by assumption) (by decide) (by decide)) | (exact ARF.k (by assumption)) | omega | (have := cmp_gt.mp (by assumption : 0 < cmpL _ 0); omega))
      | (refine ite_c (fun _ => ?_) (fun _ => ?_))
      | (intro _ e1; subst e1)
      | (with_reducible refine t_63 (by assumption) (fun _ _ _ => ?_))
      | (with_reducible refine w_123 (fun _ _ => ?_) (fun _ => ?_))
      | (with_reducible refine w_124 (fun _ _ => ?_) (fun _ => ?_))
      | (with_reducible refine t_129 hr hF (fun _ _ _ _ _ _ _ _ _ _ _ _ => ?_) ?_)
      | (with_reducible refine w_250 (fun _ => ?_) (fun _ => ?_))
      | (exfalso; omega)
      | (exact absurd trivial (by assumption))
      | ((with_reducible refine h _ _ ?_) <;> (first | ((repeat (with_reducible first | assumption | exact EQF.rf _ | (refine EQF.up ?_ (by assumption)) | (refine EQF.cp ?_ (by assumption)) | (refine EQF.tr ?_ (by assumption)))); done) | omega | decide | (rw [wr_id ⟨by omega, by omega⟩]; omega)))
  have loopb : ∀ l10 : Int, -2147483648 ≤ l10 → ∀ (l4 l5 l6 l7 l8 l9 : Int), okr 218 l6 2 → WHF F r (r l6 1) → WQ sc (d + 6) 108 Q 103 [(9, 0), (9, 0), (9, 0), (9, 0), (0, l4), (0, l5), (2, l6), (0, l7), (0, l8), (0, l9), (0, l10)] [] g r := by
    refine upW 24 (by decide) fun l10 _ ih l4 l5 l6 l7 l8 l9 k6 hw => ?_
    refine b_108_103 ?_
    repeat' first
      | (with_reducible refine ite_01 ?_)
      | (with_reducible refine ite_00 ?_)
      | (with_reducible refine And.intro ?_ ?_; · first | assumption | decide | (exact ARF.i (by assumption) (by omega) (by omega)) | (exact ARF.a (by assumption) (by decide) (by decide)) | (exact ARF.k (by assumption)) | omega | (have := cmp_gt.mp (by assumption : 0 < cmpL _ 0); omega))
      | (refine ite_c (fun _ => ?_) (fun _ => ?_))
      | (intro _ e1; subst e1)
      | (with_reducible refine t_63 (by assumption) (fun _ _ _ => ?_))
      | (with_reducible refine w_123 (fun _ _ => ?_) (fun _ => ?_))
      | (with_reducible refine w_124 (fun _ _ => ?_) (fun _ => ?_))
      | (with_reducible refine t_129 hr hF (fun _ _ _ _ _ _ _ _ _ _ _ _ => ?_) ?_)
      | (with_reducible refine w_250 (fun _ => ?_) (fun _ => ?_))
      | (exfalso; omega)
      | (exact absurd trivial (by assumption))
      | ((with_reducible refine ih ?_ _ _ _ _ _ _ k6 hw) <;> (first | ((repeat (with_reducible first | assumption | exact EQF.rf _ | (refine EQF.up ?_ (by assumption)) | (refine EQF.cp ?_ (by assumption)) | (refine EQF.tr ?_ (by assumption)))); done) | omega | decide | (rw [wr_id ⟨by omega, by omega⟩]; omega)))
      | ((with_reducible refine end1 _ _ _ _ _ k6 hw))
      | ((with_reducible refine h _ _ ?_) <;> (first | ((repeat (with_reducible first | assumption | exact EQF.rf _ | (refine EQF.up ?_ (by assumption)) | (refine EQF.cp ?_ (by assumption)) | (refine EQF.tr ?_ (by assumption)))); done) | omega | decide | (rw [wr_id ⟨by omega, by omega⟩]; omega)))
  have loopa : ∀ l3 : Int, l3 ≤ 23 → -2147483648 ≤ l3 → ∀ l9 : Int, -2147483648 ≤ l9 → ∀ (l4 l5 l6 l7 l8 : Int), okr 218 l6 2 → WHF F r (r l6 1) → WQ sc (d + 6) 108 Q 70 [(9, 0), (9, 0), (9, 0), (0, l3), (0, l4), (0, l5), (2, l6), (0, l7), (0, l8), (0, l9), (9, 0)] [] g r := by
    intro l3 hl hl2
    refine upW l3 (by omega) fun l9 _ ih l4 l5 l6 l7 l8 k6 hw => ?_
    refine b_108_70 ?_
    repeat' first
      | (with_reducible refine ite_01 ?_)
      | (with_reducible refine ite_00 ?_)
      | (with_reducible refine And.intro ?_ ?_; · first | assumption | decide | (exact ARF.i (by assumption) (by omega) (by omega)) | (exact ARF.a (by assumption) (by decide) (by decide)) | (exact ARF.k (by assumption)) | omega | (have := cmp_gt.mp (by assumption : 0 < cmpL _ 0); omega))
      | (refine ite_c (fun _ => ?_) (fun _ => ?_))
      | (intro _ e1; subst e1)
      | (with_reducible refine t_63 (by assumption) (fun _ _ _ => ?_))
      | (with_reducible refine w_123 (fun _ _ => ?_) (fun _ => ?_))
      | (with_reducible refine w_124 (fun _ _ => ?_) (fun _ => ?_))
      | (with_reducible refine t_129 hr hF (fun _ _ _ _ _ _ _ _ _ _ _ _ => ?_) ?_)
      | (with_reducible refine w_250 (fun _ => ?_) (fun _ => ?_))
      | (exfalso; omega)
      | (exact absurd trivial (by assumption))
      | ((with_reducible refine ih ?_ _ _ _ _ _ k6 hw) <;> (first | ((repeat (with_reducible first | assumption | exact EQF.rf _ | (refine EQF.up ?_ (by assumption)) | (refine EQF.cp ?_ (by assumption)) | (refine EQF.tr ?_ (by assumption)))); done) | omega | decide | (rw [wr_id ⟨by omega, by omega⟩]; omega)))
      | ((with_reducible refine loopb _ ?_ _ _ _ _ _ _ k6 hw) <;> (first | ((repeat (with_reducible first | assumption | exact EQF.rf _ | (refine EQF.up ?_ (by assumption)) | (refine EQF.cp ?_ (by assumption)) | (refine EQF.tr ?_ (by assumption)))); done) | omega | decide | (rw [wr_id ⟨by omega, by omega⟩]; omega)))
      | ((with_reducible refine h _ _ ?_) <;> (first | ((repeat (with_reducible first | assumption | exact EQF.rf _ | (refine EQF.up ?_ (by assumption)) | (refine EQF.cp ?_ (by assumption)) | (refine EQF.tr ?_ (by assumption)))); done) | omega | decide | (rw [wr_id ⟨by omega, by omega⟩]; omega)))
  refine c_108 ?_
  repeat' first
    | (with_reducible refine ite_01 ?_)
    | (with_reducible refine ite_00 ?_)
    | (with_reducible refine And.intro ?_ ?_; · first | assumption | decide | (exact ARF.i (by assumption) (by omega) (by omega)) | (exact ARF.a (by assumption) (by decide) (by decide)) | (exact ARF.k (by assumption)) | omega | (have := cmp_gt.mp (by assumption : 0 < cmpL _ 0); omega))
    | (refine ite_c (fun _ => ?_) (fun _ => ?_))
    | (intro _ e1; subst e1)
    | (with_reducible refine t_63 (by assumption) (fun _ _ _ => ?_))
    | (with_reducible refine w_123 (fun _ _ => ?_) (fun _ => ?_))
    | (with_reducible refine w_124 (fun _ _ => ?_) (fun _ => ?_))
    | (with_reducible refine t_129 hr hF (fun _ _ _ _ _ _ _ _ _ _ _ _ => ?_) ?_)
    | (with_reducible refine w_250 (fun _ => ?_) (fun _ => ?_))
    | (exfalso; omega)
    | (exact absurd trivial (by assumption))
    | ((with_reducible refine loopa _ ?_ ?_ _ ?_ _ _ _ _ _ ?_ ?_) <;> (first | ((repeat (with_reducible first | assumption | exact EQF.rf _ | (refine EQF.up ?_ (by assumption)) | (refine EQF.cp ?_ (by assumption)) | (refine EQF.tr ?_ (by assumption)))); done) | omega | decide | (rw [wr_id ⟨by omega, by omega⟩]; omega)))
    | ((with_reducible refine h _ _ ?_) <;> (first | ((repeat (with_reducible first | assumption | exact EQF.rf _ | (refine EQF.up ?_ (by assumption)) | (refine EQF.cp ?_ (by assumption)) | (refine EQF.tr ?_ (by assumption)))); done) | omega | decide | (rw [wr_id ⟨by omega, by omega⟩]; omega)))
theorem t_110 (hr : RI r) (hF : SQ F) (hl3 : l3 < 2147483648) (h : ∀ v g', EQF F g g' → Q v g' r) : Ce sc (d + 3) 110 [(2, 0), (0, l1), (0, l2), (0, l3), (0, l4)] g r Q := by
  have k0 : okr 218 0 8 := okd (by decide +kernel)
  have loop : ∀ l3 : Int, l3 < 2147483648 → ∀ l9 : Int, -2147483648 ≤ l9 → ∀ (l2 l4 l5 l6 l7 : Int), okr 218 l5 2 → okr 218 (r l5 1) 7 → l6 ≠ 0 → WQ sc (d + 2) 110 Q 90 [(9, 0), (9, 0), (0, l2), (0, l3), (0, l4), (2, l5), (0, l6), (1, l7), (8, 0), (0, l9), (9, 0)] [] g r := by
    intro l3 hl
    refine upW l3 hl fun l9 _ ih l2 l4 l5 l6 l7 k5 kw hz => ?_
    refine b_110_90 ?_
    repeat' first
      | (with_reducible refine ite_01 ?_)
      | (with_reducible refine ite_00 ?_)
      | (with_reducible refine And.intro ?_ ?_; · first | assumption | decide | (exact ARF.i (by assumption) (by omega) (by omega)) | (exact ARF.a (by assumption) (by decide) (by decide)) | (exact ARF.k (by assumption)) | omega | (have := cmp_gt.mp (by assumption : 0 < cmpL _ 0); omega))
      | (refine ite_c (fun _ => ?_) (fun _ => ?_))
      | (intro _ e1; subst e1)
      | (with_reducible refine s_17 (fun _ => ?_))
      | (with_reducible refine w_123 (fun _ _ => ?_) (fun _ => ?_))
      | (with_reducible refine t_129 hr hF (fun _ _ _ _ _ _ _ _ _ _ _ _ => ?_) ?_)
      | (exfalso; omega)
      | (exact absurd trivial (by assumption))
      | ((with_reducible refine ih ?_ _ _ _ _ _ k5 kw hz) <;> (first | ((repeat (with_reducible first | assumption | exact EQF.rf _ | (refine EQF.up ?_ (by assumption)) | (refine EQF.cp ?_ (by assumption)) | (refine EQF.tr ?_ (by assumption)))); done) | omega | decide | (rw [wr_id ⟨by omega, by omega⟩]; omega)))
      | ((with_reducible refine h _ _ ?_) <;> (first | ((repeat (with_reducible first | assumption | exact EQF.rf _ | (refine EQF.up ?_ (by assumption)) | (refine EQF.cp ?_ (by assumption)) | (refine EQF.tr ?_ (by assumption)))); done) | omega | decide | (rw [wr_id ⟨by omega, by omega⟩]; omega)))
  refine c_110 ?_
  repeat' first
    | (with_reducible refine ite_01 ?_)
    | (with_reducible refine ite_00 ?_)
    | (with_reducible refine And.intro ?_ ?_; · first | assumption | decide | (exact ARF.i (by assumption) (by omega) (by omega)) | (exact ARF.a (by assumption) (by decide) (by decide)) | (exact ARF.k (by assumption)) | omega | (have := cmp_gt.mp (by assumption : 0 < cmpL _ 0); omega))
    | (refine ite_c (fun _ => ?_) (fun _ => ?_))
    | (intro _ e1; subst e1)
    | (with_reducible refine s_17 (fun _ => ?_))
    | (with_reducible refine w_123 (fun _ _ => ?_) (fun _ => ?_))
    | (with_reducible refine t_129 hr hF (fun _ _ _ _ _ _ _ _ _ _ _ _ => ?_) ?_)
    | (exfalso; omega)
    | (exact absurd trivial (by assumption))
    | ((with_reducible refine loop _ ?_ _ ?_ _ _ _ _ _ ?_ ?_ ?_) <;> (first | ((repeat (with_reducible first | assumption | exact EQF.rf _ | (refine EQF.up ?_ (by assumption)) | (refine EQF.cp ?_ (by assumption)) | (refine EQF.tr ?_ (by assumption)))); done) | omega | decide | (rw [wr_id ⟨by omega, by omega⟩]; omega)))
    | ((with_reducible refine h _ _ ?_) <;> (first | ((repeat (with_reducible first | assumption | exact EQF.rf _ | (refine EQF.up ?_ (by assumption)) | (refine EQF.cp ?_ (by assumption)) | (refine EQF.tr ?_ (by assumption)))); done) | omega | decide | (rw [wr_id ⟨by omega, by omega⟩]; omega)))
theorem t_112 (hr : RI r) (hF : SQ F) (hC : CQ F) (hc : CI g) (h : ∀ v g', EQF F g g' → Q v g' r) : Ce sc (d + 7) 112 [(2, 0), (0, l1), (0, l2), (0, l3), (0, l4)] g r Q := by
  have k0 : okr 218 0 8 := okd (by decide +kernel)
  have x18 : NFF F 18 := hF 18 (by unfold SC; omega)
  have h18 := whf_18 hr hF
  have k18 := h18.1
  have k58 : okr 218 58 3 := okd (by decide +kernel)
  have pr58 := pr_58 hr
  have ar61 : ARF F 61 12 9 := AR.f (ar_of (by decide +kernel) (by decide +kernel) (by decide +kernel)) (hF _ (by unfold SC; omega))
  have mr61 := ar61.2.1
  have nr61 := ar61.2.2
  have loopb : ∀ l9 : Int, -2147483648 ≤ l9 → 0 ≤ l9 → ∀ (l3 l4 l6 l7 : Int) g1, EQF F g g1 → WQ sc (d + 6) 112 Q 122 [(2, 0), (9, 0), (9, 0), (0, l3), (0, l4), (9, 0), (0, l6), (1, l7), (8, 0), (0, l9), (9, 0), (9, 0)] [] g1 r := by
    refine upS 1 512 (by decide) (by decide) fun l9 _ ih h0 l3 l4 l6 l7 g1 e0 => ?_
    obtain ⟨⟨c1, c2⟩, ⟨c3, c4⟩, ⟨c5, c6⟩, ⟨c7, c8⟩, ⟨c9, c10⟩, c11, c12⟩ := hc.eqf hC e0
    have c13 := shl9 c9 c10
    refine b_112_122 ?_
    repeat' first
      | (with_reducible refine ite_01 ?_)
      | (with_reducible refine ite_00 ?_)
      | (with_reducible refine And.intro ?_ ?_; · first | assumption | decide | (exact ARF.i (by assumption) (by omega) (by omega)) | (exact ARF.a (by assumption) (by decide) (by decide)) | (exact ARF.k (by assumption)) | omega | (have := cmp_gt.mp (by assumption : 0 < cmpL _ 0); omega))
      | (simp only [r_0_3 hr, r_0_14 hr, r_0_15 hr])
      | (refine ite_c (fun _ => ?_) (fun _ => ?_))
      | (intro _ e1; subst e1)
      | (with_reducible refine s_25 (by assumption) (fun _ => ?_))
      | (with_reducible refine t_56 (by assumption) (by assumption) (by assumption) (fun _ _ _ => ?_))
      | (with_reducible refine t_63 (by assumption) (fun _ _ _ => ?_))
      | (with_reducible refine s_113 hr (fun _ => ?_))
      | (with_reducible refine s_114 hr (CI.eqf hC hc (by (repeat (with_reducible first | assumption | exact EQF.rf _ | (refine EQF.up ?_ (by assumption)) | (refine EQF.cp ?_ (by assumption)) | (refine EQF.tr ?_ (by assumption)))))) (fun _ => ?_))
      | (with_reducible refine w_123 (fun _ _ => ?_) (fun _ => ?_))
      | (with_reducible refine w_124 (fun _ _ => ?_) (fun _ => ?_))
      | (with_reducible refine t_130 hr hF (fun _ _ _ _ _ _ _ _ => ?_) ?_)
      | (exfalso; omega)
      | (exact absurd trivial (by assumption))
      | ((with_reducible refine ih ?_ ?_ _ _ _ _ _ ?_) <;> (first | ((repeat (with_reducible first | assumption | exact EQF.rf _ | (refine EQF.up ?_ (by assumption)) | (refine EQF.cp ?_ (by assumption)) | (refine EQF.tr ?_ (by assumption)))); done) | omega | decide | (rw [wr_id ⟨by omega, by omega⟩]; omega)))
      | ((with_reducible refine h _ _ ?_) <;> (first | ((repeat (with_reducible first | assumption | exact EQF.rf _ | (refine EQF.up ?_ (by assumption)) | (refine EQF.cp ?_ (by assumption)) | (refine EQF.tr ?_ (by assumption)))); done) | omega | decide | (rw [wr_id ⟨by omega, by omega⟩]; omega)))
  have loopa : ∀ l6 : Int, -2147483648 ≤ l6 → 0 ≤ l6 → ∀ (l2 l3 l4 l5 : Int) g1, okr 218 l5 7 → EQF F g g1 → WQ sc (d + 6) 112 Q 47 [(2, 0), (9, 0), (0, l2), (0, l3), (0, l4), (2, l5), (0, l6), (9, 0), (9, 0), (9, 0), (9, 0), (9, 0)] [] g1 r := by
    refine upS 1 9 (by decide) (by decide) fun l6 _ ih h0 l2 l3 l4 l5 g1 k5 e0 => ?_
    obtain ⟨⟨c1, c2⟩, ⟨c3, c4⟩, ⟨c5, c6⟩, ⟨c7, c8⟩, ⟨c9, c10⟩, c11, c12⟩ := hc.eqf hC e0
    refine b_112_47 ?_
    repeat' first
      | (with_reducible refine ite_01 ?_)
      | (with_reducible refine ite_00 ?_)
      | (with_reducible refine And.intro ?_ ?_; · first | assumption | decide | (exact ARF.i (by assumption) (by omega) (by omega)) | (exact ARF.a (by assumption) (by decide) (by decide)) | (exact ARF.k (by assumption)) | omega | (have := cmp_gt.mp (by assumption : 0 < cmpL _ 0); omega))
      | (simp only [r_0_3 hr, r_0_14 hr, r_0_15 hr])
      | (refine ite_c (fun _ => ?_) (fun _ => ?_))
      | (intro _ e1; subst e1)
      | (with_reducible refine s_25 (by assumption) (fun _ => ?_))
      | (with_reducible refine t_56 (by assumption) (by assumption) (by assumption) (fun _ _ _ => ?_))
      | (with_reducible refine t_63 (by assumption) (fun _ _ _ => ?_))
      | (with_reducible refine s_113 hr (fun _ => ?_))
      | (with_reducible refine s_114 hr (CI.eqf hC hc (by (repeat (with_reducible first | assumption | exact EQF.rf _ | (refine EQF.up ?_ (by assumption)) | (refine EQF.cp ?_ (by assumption)) | (refine EQF.tr ?_ (by assumption)))))) (fun _ => ?_))
      | (with_reducible refine w_123 (fun _ _ => ?_) (fun _ => ?_))
      | (with_reducible refine w_124 (fun _ _ => ?_) (fun _ => ?_))
      | (with_reducible refine t_130 hr hF (fun _ _ _ _ _ _ _ _ => ?_) ?_)
      | (exfalso; omega)
      | (exact absurd trivial (by assumption))
      | ((with_reducible refine ih ?_ ?_ _ _ _ _ _ k5 ?_) <;> (first | ((repeat (with_reducible first | assumption | exact EQF.rf _ | (refine EQF.up ?_ (by assumption)) | (refine EQF.cp ?_ (by assumption)) | (refine EQF.tr ?_ (by assumption)))); done) | omega | decide | (rw [wr_id ⟨by omega, by omega⟩]; omega)))
      | ((with_reducible refine loopb _ ?_ ?_ _ _ _ _ _ ?_) <;> (first | ((repeat (with_reducible first | assumption | exact EQF.rf _ | (refine EQF.up ?_ (by assumption)) | (refine EQF.cp ?_ (by assumption)) | (refine EQF.tr ?_ (by assumption)))); done) | omega | decide | (rw [wr_id ⟨by omega, by omega⟩]; omega)))
      | ((with_reducible refine h _ _ ?_) <;> (first | ((repeat (with_reducible first | assumption | exact EQF.rf _ | (refine EQF.up ?_ (by assumption)) | (refine EQF.cp ?_ (by assumption)) | (refine EQF.tr ?_ (by assumption)))); done) | omega | decide | (rw [wr_id ⟨by omega, by omega⟩]; omega)))
  refine c_112 ?_
  repeat' first
    | (with_reducible refine ite_01 ?_)
    | (with_reducible refine ite_00 ?_)
    | (with_reducible refine And.intro ?_ ?_; · first | assumption | decide | (exact ARF.i (by assumption) (by omega) (by omega)) | (exact ARF.a (by assumption) (by decide) (by decide)) | (exact ARF.k (by assumption)) | omega | (have := cmp_gt.mp (by assumption : 0 < cmpL _ 0); omega))
    | (simp only [r_0_3 hr, r_0_14 hr, r_0_15 hr])
    | (refine ite_c (fun _ => ?_) (fun _ => ?_))
    | (intro _ e1; subst e1)
    | (with_reducible refine s_25 (by assumption) (fun _ => ?_))
    | (with_reducible refine t_56 (by assumption) (by assumption) (by assumption) (fun _ _ _ => ?_))
    | (with_reducible refine t_63 (by assumption) (fun _ _ _ => ?_))
    | (with_reducible refine s_113 hr (fun _ => ?_))
    | (with_reducible refine s_114 hr (CI.eqf hC hc (by (repeat (with_reducible first | assumption | exact EQF.rf _ | (refine EQF.up ?_ (by assumption)) | (refine EQF.cp ?_ (by assumption)) | (refine EQF.tr ?_ (by assumption)))))) (fun _ => ?_))
    | (with_reducible refine w_123 (fun _ _ => ?_) (fun _ => ?_))
    | (with_reducible refine w_124 (fun _ _ => ?_) (fun _ => ?_))
    | (with_reducible refine t_130 hr hF (fun _ _ _ _ _ _ _ _ => ?_) ?_)
    | (exfalso; omega)
    | (exact absurd trivial (by assumption))
    | ((with_reducible refine loopa _ ?_ ?_ _ _ _ _ _ ?_ ?_) <;> (first | ((repeat (with_reducible first | assumption | exact EQF.rf _ | (refine EQF.up ?_ (by assumption)) | (refine EQF.cp ?_ (by assumption)) | (refine EQF.tr ?_ (by assumption)))); done) | omega | decide | (rw [wr_id ⟨by omega, by omega⟩]; omega)))
    | ((with_reducible refine h _ _ ?_) <;> (first | ((repeat (with_reducible first | assumption | exact EQF.rf _ | (refine EQF.up ?_ (by assumption)) | (refine EQF.cp ?_ (by assumption)) | (refine EQF.tr ?_ (by assumption)))); done) | omega | decide | (rw [wr_id ⟨by omega, by omega⟩]; omega)))
theorem t_115 (hr : RI r) (hF : SQ F) (h : ∀ v g', EQF F g g' → Q v g' r) : Ce sc (d + 8) 115 [(2, 0), (0, l1), (0, l2)] g r Q := by
  have k0 : okr 218 0 8 := okd (by decide +kernel)
  have hM := mrf_of hr hF
  have b23 := (br_23 hr).fz
  have k23 := b23.1
  have q23 := b23.2.1
  have b34 := brf_34 hr hF
  have k34 := b34.1
  have q34 := b34.2.1
  have ar43 : ARF F 43 11 6 := AR.f (ar_of (by decide +kernel) (by decide +kernel) (by decide +kernel)) (hF _ (by unfold SC; omega))
  have nr43 := ar43.2.2
  have p46 := (pl_46 hr).fz
  have hx0 : (0 ≤ l1 ∧ l1 < 6) ∨ ¬ (0 ≤ l1 ∧ l1 < 6) := by omega
  have outer : 0 ≤ l1 → l1 < 6 → ∀ l7 : Int, -2147483648 ≤ l7 → 0 ≤ l7 → ∀ (l2 l3 l4 l5 l6 : Int) g1, EQF F g g1 → WQ sc (d + 7) 115 Q 51 [(2, 0), (0, l1), (0, l2), (0, l3), (0, l4), (0, l5), (0, l6), (0, l7)] [] g1 r := by
    intro m0 m6
    refine upS 1 24 (by decide) (by decide) fun l7 _ ih h0 l2 l3 l4 l5 l6 g1 e0 => ?_
    have mid : l7 < 24 → ∀ (l2 l3 l4 l5 l6 : Int) g2, EQF F g g2 → WQ sc (d + 7) 115 Q 100 [(2, 0), (0, l1), (0, l2), (0, l3), (0, l4), (0, l5), (0, l6), (0, l7)] [] g2 r := by
      intro hlt l2 l3 l4 l5 l6 g2 e2
      exact b_115_100 (ite_c (fun _ => ih hlt (by rw [wr_id ⟨by omega, by omega⟩]; omega) _ _ _ _ _ _ e2) (fun _ => ih hlt (by rw [wr_id ⟨by omega, by omega⟩]; omega) _ _ _ _ _ _ e2))
    refine b_115_51 ?_
    repeat' first
      | (with_reducible refine ite_01 ?_)
      | (with_reducible refine ite_00 ?_)
      | (with_reducible refine And.intro ?_ ?_; · first | assumption | decide | (exact ARF.i (by assumption) (by omega) (by omega)) | (exact ARF.a (by assumption) (by decide) (by decide)) | (exact ARF.k (by assumption)) | omega | (have := cmp_gt.mp (by assumption : 0 < cmpL _ 0); omega))
      | (simp only [r_0_1 hr, r_0_4 hr, r_0_5 hr, r_0_8 hr, r_34_12 hr])
      | (refine ite_c (fun _ => ?_) (fun _ => ?_))
      | (intro _ e1; subst e1)
      | (with_reducible refine t_1 (by assumption) (by assumption) (fun _ _ _ => ?_))
      | (with_reducible refine t_5 (by assumption) (by assumption) (by assumption) (fun _ _ _ => ?_))
      | (with_reducible refine w_123 (fun _ _ => ?_) (fun _ => ?_))
      | (with_reducible refine s_128 hr ?_ ?_)
      | (with_reducible refine t_129 hr hF (fun _ _ _ _ _ _ _ _ _ _ _ _ => ?_) ?_)
      | (exfalso; omega)
      | (exact absurd trivial (by assumption))
      | ((with_reducible refine mid ?_ _ _ _ _ _ _ ?_) <;> (first | ((repeat (with_reducible first | assumption | exact EQF.rf _ | (refine EQF.up ?_ (by assumption)) | (refine EQF.cp ?_ (by assumption)) | (refine EQF.tr ?_ (by assumption)))); done) | omega | decide | (rw [wr_id ⟨by omega, by omega⟩]; omega)))
      | ((with_reducible refine h _ _ ?_) <;> (first | ((repeat (with_reducible first | assumption | exact EQF.rf _ | (refine EQF.up ?_ (by assumption)) | (refine EQF.cp ?_ (by assumption)) | (refine EQF.tr ?_ (by assumption)))); done) | omega | decide | (rw [wr_id ⟨by omega, by omega⟩]; omega)))
  refine c_115 ?_
  repeat' first
    | (with_reducible refine ite_01 ?_)
    | (with_reducible refine ite_00 ?_)
    | (with_reducible refine And.intro ?_ ?_; · first | assumption | decide | (exact ARF.i (by assumption) (by omega) (by omega)) | (exact ARF.a (by assumption) (by decide) (by decide)) | (exact ARF.k (by assumption)) | omega | (have := cmp_gt.mp (by assumption : 0 < cmpL _ 0); omega))
    | (simp only [r_0_1 hr, r_0_4 hr, r_0_5 hr, r_0_8 hr, r_34_12 hr])
    | (refine ite_c (fun _ => ?_) (fun _ => ?_))
    | (intro _ e1; subst e1)
    | (with_reducible refine t_1 (by assumption) (by assumption) (fun _ _ _ => ?_))
    | (with_reducible refine t_5 (by assumption) (by assumption) (by assumption) (fun _ _ _ => ?_))
    | (with_reducible refine w_123 (fun _ _ => ?_) (fun _ => ?_))
    | (with_reducible refine s_128 hr ?_ ?_)
    | (with_reducible refine t_129 hr hF (fun _ _ _ _ _ _ _ _ _ _ _ _ => ?_) ?_)
    | (exfalso; omega)
    | (exact absurd trivial (by assumption))
    | ((with_reducible refine outer ?_ ?_ _ ?_ ?_ _ _ _ _ _ _ ?_) <;> (first | ((repeat (with_reducible first | assumption | exact EQF.rf _ | (refine EQF.up ?_ (by assumption)) | (refine EQF.cp ?_ (by assumption)) | (refine EQF.tr ?_ (by assumption)))); done) | omega | decide | (rw [wr_id ⟨by omega, by omega⟩]; omega)))
    | ((with_reducible refine h _ _ ?_) <;> (first | ((repeat (with_reducible first | assumption | exact EQF.rf _ | (refine EQF.up ?_ (by assumption)) | (refine EQF.cp ?_ (by assumption)) | (refine EQF.tr ?_ (by assumption)))); done) | omega | decide | (rw [wr_id ⟨by omega, by omega⟩]; omega)))
theorem t_116 (hr : RI r) (hF : SQ F) (h : ∀ v g', EQF F g g' → Q v g' r) : Ce sc (d + 8) 116 [(2, 0), (0, l1)] g r Q := by
  have k0 : okr 218 0 8 := okd (by decide +kernel)
  have hM := mrf_of hr hF
  have b23 := (br_23 hr).fz
  have k23 := b23.1
  have q23 := b23.2.1
  have b34 := brf_34 hr hF
  have k34 := b34.1
  have q34 := b34.2.1
  have ar42 : ARF F 42 11 6 := AR.f (ar_of (by decide +kernel) (by decide +kernel) (by decide +kernel)) (hF _ (by unfold SC; omega))
  have nr42 := ar42.2.2
  have p46 := (pl_46 hr).fz
  have outer : 0 ≤ l1 → l1 < 6 → ∀ l2 : Int, -2147483648 ≤ l2 → 0 ≤ l2 → ∀ g1, EQF F g g1 → WQ sc (d + 7) 116 Q 30 [(2, 0), (0, l1), (0, l2)] [] g1 r := by
    intro m0 m6
    refine upS 1 24 (by decide) (by decide) fun l2 _ ih h0 g1 e0 => ?_
    refine b_116_30 ?_
    repeat' first
      | (with_reducible refine ite_01 ?_)
      | (with_reducible refine ite_00 ?_)
      | (with_reducible refine And.intro ?_ ?_; · first | assumption | decide | (exact ARF.i (by assumption) (by omega) (by omega)) | (exact ARF.a (by assumption) (by decide) (by decide)) | (exact ARF.k (by assumption)) | omega | (have := cmp_gt.mp (by assumption : 0 < cmpL _ 0); omega))
      | (simp only [r_0_1 hr, r_0_4 hr, r_0_5 hr, r_0_8 hr, r_34_11 hr])
      | (refine ite_c (fun _ => ?_) (fun _ => ?_))
      | (intro _ e1; subst e1)
      | (with_reducible refine t_1 (by assumption) (by assumption) (fun _ _ _ => ?_))
      | (with_reducible refine t_5 (by assumption) (by assumption) (by assumption) (fun _ _ _ => ?_))
      | (with_reducible refine s_128 hr ?_ ?_)
      | (with_reducible refine t_129 hr hF (fun _ _ _ _ _ _ _ _ _ _ _ _ => ?_) ?_)
      | (exfalso; omega)
      | (exact absurd trivial (by assumption))
      | ((with_reducible refine ih ?_ ?_ _ ?_) <;> (first | ((repeat (with_reducible first | assumption | exact EQF.rf _ | (refine EQF.up ?_ (by assumption)) | (refine EQF.cp ?_ (by assumption)) | (refine EQF.tr ?_ (by assumption)))); done) | omega | decide | (rw [wr_id ⟨by omega, by omega⟩]; omega)))
      | ((with_reducible refine h _ _ ?_) <;> (first | ((repeat (with_reducible first | assumption | exact EQF.rf _ | (refine EQF.up ?_ (by assumption)) | (refine EQF.cp ?_ (by assumption)) | (refine EQF.tr ?_ (by assumption)))); done) | omega | decide | (rw [wr_id ⟨by omega, by omega⟩]; omega)))
  refine c_116 ?_
  repeat' first
    | (with_reducible refine ite_01 ?_)
    | (with_reducible refine ite_00 ?_)
    | (with_reducible refine And.intro ?_ ?_; · first | assumption | decide | (exact ARF.i (by assumption) (by omega) (by omega)) | (exact ARF.a (by assumption) (by decide) (by decide)) | (exact ARF.k (by assumption)) | omega | (have := cmp_gt.mp (by assumption : 0 < cmpL _ 0); omega))
    | (simp only [r_0_1 hr, r_0_4 hr, r_0_5 hr, r_0_8 hr, r_34_11 hr])
    | (refine ite_c (fun _ => ?_) (fun _ => ?_))
    | (intro _ e1; subst e1)
    | (with_reducible refine t_1 (by assumption) (by assumption) (fun _ _ _ => ?_))
    | (with_reducible refine t_5 (by assumption) (by assumption) (by assumption) (fun _ _ _ => ?_))
    | (with_reducible refine s_128 hr ?_ ?_)
    | (with_reducible refine t_129 hr hF (fun _ _ _ _ _ _ _ _ _ _ _ _ => ?_) ?_)
    | (exfalso; omega)
    | (exact absurd trivial (by assumption))
    | ((with_reducible refine outer ?_ ?_ _ ?_ ?_ _ ?_) <;> (first | ((repeat (with_reducible first | assumption | exact EQF.rf _ | (refine EQF.up ?_ (by assumption)) | (refine EQF.cp ?_ (by assumption)) | (refine EQF.tr ?_ (by assumption)))); done) | omega | decide | (rw [wr_id ⟨by omega, by omega⟩]; omega)))
    | ((with_reducible refine h _ _ ?_) <;> (first | ((repeat (with_reducible first | assumption | exact EQF.rf _ | (refine EQF.up ?_ (by assumption)) | (refine EQF.cp ?_ (by assumption)) | (refine EQF.tr ?_ (by assumption)))); done) | omega | decide | (rw [wr_id ⟨by omega, by omega⟩]; omega)))
theorem t_118 (hr : RI r) (hF : SQ F) (hC : CQ F) (hc : CI g) (h : ∀ v g', EQF F g g' → Q v g' r) : Ce sc (d + 8) 118 [(2, 0), (0, l1), (0, l2)] g r Q := by
  have k0 : okr 218 0 8 := okd (by decide +kernel)
  have hM := mrf_of hr hF
  have b23 := (br_23 hr).fz
  have k23 := b23.1
  have q23 := b23.2.1
  have ar28 : ARF FZ 28 12 6 := AR.fz (ar_of (by decide +kernel) (by decide +kernel) (by decide +kernel))
  have nr28 := ar28.2.2
  have b34 := brf_34 hr hF
  have k34 := b34.1
  have q34 := b34.2.1
  have ar39 : ARF F 39 12 6 := AR.f (ar_of (by decide +kernel) (by decide +kernel) (by decide +kernel)) (hF _ (by unfold SC; omega))
  have nr39 := ar39.2.2
  have p48z := (pl_48 hr).fz
  have p48 := plf_48 hr hF
  have k48 := p48.1
  have ar49 : ARF F 49 11 6 := AR.f (ar_of (by decide +kernel) (by decide +kernel) (by decide +kernel)) (hF _ (by unfold SC; omega))
  have nr49 := ar49.2.2
  have k62 : okr 218 62 3 := okd (by decide +kernel)
  have pr62 := pr_62 hr
  have outer : 0 ≤ l1 → l1 < 6 → ∀ l6 : Int, -2147483648 ≤ l6 → 0 ≤ l6 → ∀ (l3 l5 : Int) g1, EQF F g g1 → WQ sc (d + 7) 118 Q 67 [(2, 0), (0, l1), (9, 0), (1, l3), (8, 0), (0, l5), (0, l6), (9, 0), (9, 0), (9, 0)] [] g1 r := by
    intro m0 m6
    refine upS 1 25 (by decide) (by decide) fun l6 _ ih h6 l3 l5 g1 e0 => ?_
    have inner : l6 < 25 → ∀ l9 : Int, -2147483648 ≤ l9 → 0 ≤ l9 → ∀ (l3 l5 l7 : Int) g2, EQF F g g2 → WQ sc (d + 7) 118 Q 113 [(2, 0), (0, l1), (9, 0), (1, l3), (8, 0), (0, l5), (0, l6), (1, l7), (8, 0), (0, l9)] [] g2 r := by
      intro hlt
      refine upS 1 8 (by decide) (by decide) fun l9 _ ih2 h9 l3 l5 l7 g2 e2 => ?_
      obtain ⟨⟨c1, c2⟩, ⟨c3, c4⟩, ⟨c5, c6⟩, ⟨c7, c8⟩, ⟨c9, c10⟩, c11, c12⟩ := hc.eqf hC e2
      refine b_118_113 ?_
      repeat' first
        | (with_reducible refine ite_01 ?_)
        | (with_reducible refine ite_00 ?_)
        | (with_reducible refine And.intro ?_ ?_; · first | assumption | decide | (exact ARF.i (by assumption) (by omega) (by omega)) | (exact ARF.a (by assumption) (by decide) (by decide)) | (exact ARF.k (by assumption)) | omega | (have := cmp_gt.mp (by assumption : 0 < cmpL _ 0); omega))
        | (simp only [r_0_1 hr, r_0_4 hr, r_0_5 hr, r_0_9 hr, r_0_16 hr, r_23_8 hr, r_34_8 hr, r_48_0 hr])
        | (refine ite_c (fun _ => ?_) (fun _ => ?_))
        | (intro _ e1; subst e1)
        | (with_reducible refine t_1 (by assumption) (by assumption) (fun _ _ _ => ?_))
        | (with_reducible refine t_5 (by assumption) (by assumption) (by assumption) (fun _ _ _ => ?_))
        | (with_reducible refine s_25 (by assumption) (fun _ => ?_))
        | (with_reducible refine s_26 (by assumption) (fun _ => ?_))
        | (with_reducible refine t_28 (by assumption) (fun _ _ _ => ?_))
        | (with_reducible refine w_123 (fun _ _ => ?_) (fun _ => ?_))
        | (with_reducible refine s_128 hr ?_ ?_)
        | (with_reducible refine t_129 hr hF (fun _ _ _ _ _ _ _ _ _ _ _ _ => ?_) ?_)
        | (exfalso; omega)
        | (exact absurd trivial (by assumption))
        | ((with_reducible refine ih2 ?_ ?_ _ _ _ _ ?_) <;> (first | ((repeat (with_reducible first | assumption | exact EQF.rf _ | (refine EQF.up ?_ (by assumption)) | (refine EQF.cp ?_ (by assumption)) | (refine EQF.tr ?_ (by assumption)))); done) | omega | decide | (rw [wr_id ⟨by omega, by omega⟩]; omega)))
        | ((with_reducible refine ih hlt ?_ _ _ _ ?_) <;> (first | ((repeat (with_reducible first | assumption | exact EQF.rf _ | (refine EQF.up ?_ (by assumption)) | (refine EQF.cp ?_ (by assumption)) | (refine EQF.tr ?_ (by assumption)))); done) | omega | decide | (rw [wr_id ⟨by omega, by omega⟩]; omega)))
        | ((with_reducible refine h _ _ ?_) <;> (first | ((repeat (with_reducible first | assumption | exact EQF.rf _ | (refine EQF.up ?_ (by assumption)) | (refine EQF.cp ?_ (by assumption)) | (refine EQF.tr ?_ (by assumption)))); done) | omega | decide | (rw [wr_id ⟨by omega, by omega⟩]; omega)))
    refine b_118_67 ?_
    repeat' first
      | (with_reducible refine ite_01 ?_)
      | (with_reducible refine ite_00 ?_)
      | (with_reducible refine And.intro ?_ ?_; · first | assumption | decide | (exact ARF.i (by assumption) (by omega) (by omega)) | (exact ARF.a (by assumption) (by decide) (by decide)) | (exact ARF.k (by assumption)) | omega | (have := cmp_gt.mp (by assumption : 0 < cmpL _ 0); omega))
      | (simp only [r_0_1 hr, r_0_4 hr, r_0_5 hr, r_0_9 hr, r_0_16 hr, r_23_8 hr, r_34_8 hr, r_48_0 hr])
      | (refine ite_c (fun _ => ?_) (fun _ => ?_))
      | (intro _ e1; subst e1)
      | (with_reducible refine t_1 (by assumption) (by assumption) (fun _ _ _ => ?_))
      | (with_reducible refine t_5 (by assumption) (by assumption) (by assumption) (fun _ _ _ => ?_))
      | (with_reducible refine s_25 (by assumption) (fun _ => ?_))
      | (with_reducible refine s_26 (by assumption) (fun _ => ?_))
      | (with_reducible refine t_28 (by assumption) (fun _ _ _ => ?_))
      | (with_reducible refine w_123 (fun _ _ => ?_) (fun _ => ?_))
      | (with_reducible refine s_128 hr ?_ ?_)
      | (with_reducible refine t_129 hr hF (fun _ _ _ _ _ _ _ _ _ _ _ _ => ?_) ?_)
      | (exfalso; omega)
      | (exact absurd trivial (by assumption))
      | ((with_reducible refine inner ?_ _ ?_ ?_ _ _ _ _ ?_) <;> (first | ((repeat (with_reducible first | assumption | exact EQF.rf _ | (refine EQF.up ?_ (by assumption)) | (refine EQF.cp ?_ (by assumption)) | (refine EQF.tr ?_ (by assumption)))); done) | omega | decide | (rw [wr_id ⟨by omega, by omega⟩]; omega)))
      | ((with_reducible refine h _ _ ?_) <;> (first | ((repeat (with_reducible first | assumption | exact EQF.rf _ | (refine EQF.up ?_ (by assumption)) | (refine EQF.cp ?_ (by assumption)) | (refine EQF.tr ?_ (by assumption)))); done) | omega | decide | (rw [wr_id ⟨by omega, by omega⟩]; omega)))
  refine c_118 ?_
  repeat' first
    | (with_reducible refine ite_01 ?_)
    | (with_reducible refine ite_00 ?_)
    | (with_reducible refine And.intro ?_ ?_; · first | assumption | decide | (exact ARF.i (by assumption) (by omega) (by omega)) | (exact ARF.a (by assumption) (by decide) (by decide)) | (exact ARF.k (by assumption)) | omega | (have := cmp_gt.mp (by assumption : 0 < cmpL _ 0); omega))
    | (simp only [r_0_1 hr, r_0_4 hr, r_0_5 hr, r_0_9 hr, r_0_16 hr, r_23_8 hr, r_34_8 hr, r_48_0 hr])
    | (refine ite_c (fun _ => ?_) (fun _ => ?_))
    | (intro _ e1; subst e1)
    | (with_reducible refine t_1 (by assumption) (by assumption) (fun _ _ _ => ?_))
    | (with_reducible refine t_5 (by assumption) (by assumption) (by assumption) (fun _ _ _ => ?_))
    | (with_reducible refine s_25 (by assumption) (fun _ => ?_))
    | (with_reducible refine s_26 (by assumption) (fun _ => ?_))
    | (with_reducible refine t_28 (by assumption) (fun _ _ _ => ?_))
    | (with_reducible refine w_123 (fun _ _ => ?_) (fun _ => ?_))
    | (with_reducible refine s_128 hr ?_ ?_)
    | (with_reducible refine t_129 hr hF (fun _ _ _ _ _ _ _ _ _ _ _ _ => ?_) ?_)
    | (exfalso; omega)
    | (exact absurd trivial (by assumption))
    | ((with_reducible refine outer ?_ ?_ _ ?_ ?_ _ _ _ ?_) <;> (first | ((repeat (with_reducible first | assumption | exact EQF.rf _ | (refine EQF.up ?_ (by assumption)) | (refine EQF.cp ?_ (by assumption)) | (refine EQF.tr ?_ (by assumption)))); done) | omega | decide | (rw [wr_id ⟨by omega, by omega⟩]; omega)))
    | ((with_reducible refine h _ _ ?_) <;> (first | ((repeat (with_reducible first | assumption | exact EQF.rf _ | (refine EQF.up ?_ (by assumption)) | (refine EQF.cp ?_ (by assumption)) | (refine EQF.tr ?_ (by assumption)))); done) | omega | decide | (rw [wr_id ⟨by omega, by omega⟩]; omega)))
theorem t_119 (hr : RI r) (hF : SQ F) (h : ∀ v g', EQF F g g' → Q v g' r) : Ce sc (d + 7) 119 [(2, 0), (0, l1), (0, l2), (0, l3)] g r Q := by
  have k0 : okr 218 0 8 := okd (by decide +kernel)
  have b23 := (br_23 hr).fz
  have k23 := b23.1
  have q23 := b23.2.1
  have ar24 : ARF FZ 24 11 40 := AR.fz (ar_of (by decide +kernel) (by decide +kernel) (by decide +kernel))
  have nr24 := ar24.2.2
  have ar25 : ARF FZ 25 11 40 := AR.fz (ar_of (by decide +kernel) (by decide +kernel) (by decide +kernel))
  have nr25 := ar25.2.2
  have outer : ∀ l6 : Int, -2147483648 ≤ l6 → 0 ≤ l6 → ∀ (l2 l3 l4 l5 : Int) g1, okr 218 l4 2 → WHF F r (r l4 1) → EQF F g g1 → WQ sc (d + 6) 119 Q 25 [(2, 0), (9, 0), (0, l2), (0, l3), (2, l4), (0, l5), (0, l6), (9, 0), (9, 0)] [] g1 r := by
    refine upS 1 40 (by decide) (by decide) fun l6 _ ih h0 l2 l3 l4 l5 g1 k4 hw e0 => ?_
    have kw := hw.1
    refine b_119_25 ?_
    repeat' first
      | (with_reducible refine ite_01 ?_)
      | (with_reducible refine ite_00 ?_)
      | (with_reducible refine And.intro ?_ ?_; · first | assumption | decide | (exact ARF.i (by assumption) (by omega) (by omega)) | (exact ARF.a (by assumption) (by decide) (by decide)) | (exact ARF.k (by assumption)) | omega | (have := cmp_gt.mp (by assumption : 0 < cmpL _ 0); omega))
      | (simp only [r_0_4 hr, r_23_4 hr, r_23_5 hr])
      | (refine ite_c (fun _ => ?_) (fun _ => ?_))
      | (intro _ e1; subst e1)
      | (with_reducible refine t_63 (by assumption) (fun _ _ _ => ?_))
      | (with_reducible refine t_129 hr hF (fun _ _ _ _ _ _ _ _ _ _ _ _ => ?_) ?_)
      | (exfalso; omega)
      | (exact absurd trivial (by assumption))
      | ((with_reducible refine ih ?_ ?_ _ _ _ _ _ k4 hw ?_) <;> (first | ((repeat (with_reducible first | assumption | exact EQF.rf _ | (refine EQF.up ?_ (by assumption)) | (refine EQF.cp ?_ (by assumption)) | (refine EQF.tr ?_ (by assumption)))); done) | omega | decide | (rw [wr_id ⟨by omega, by omega⟩]; omega)))
      | ((with_reducible refine h _ _ ?_) <;> (first | ((repeat (with_reducible first | assumption | exact EQF.rf _ | (refine EQF.up ?_ (by assumption)) | (refine EQF.cp ?_ (by assumption)) | (refine EQF.tr ?_ (by assumption)))); done) | omega | decide | (rw [wr_id ⟨by omega, by omega⟩]; omega)))
  refine c_119 ?_
  repeat' first
    | (with_reducible refine ite_01 ?_)
    | (with_reducible refine ite_00 ?_)
    | (with_reducible refine And.intro ?_ ?_; · first | assumption | decide | (exact ARF.i (by assumption) (by omega) (by omega)) | (exact ARF.a (by assumption) (by decide) (by decide)) | (exact ARF.k (by assumption)) | omega | (have := cmp_gt.mp (by assumption : 0 < cmpL _ 0); omega))
    | (simp only [r_0_4 hr, r_23_4 hr, r_23_5 hr])
    | (refine ite_c (fun _ => ?_) (fun _ => ?_))
    | (intro _ e1; subst e1)
    | (with_reducible refine t_63 (by assumption) (fun _ _ _ => ?_))
    | (with_reducible refine t_129 hr hF (fun _ _ _ _ _ _ _ _ _ _ _ _ => ?_) ?_)
    | (exfalso; omega)
    | (exact absurd trivial (by assumption))
    | ((with_reducible refine outer _ ?_ ?_ _ _ _ _ _ ?_ ?_ ?_) <;> (first | ((repeat (with_reducible first | assumption | exact EQF.rf _ | (refine EQF.up ?_ (by assumption)) | (refine EQF.cp ?_ (by assumption)) | (refine EQF.tr ?_ (by assumption)))); done) | omega | decide | (rw [wr_id ⟨by omega, by omega⟩]; omega)))
    | ((with_reducible refine h _ _ ?_) <;> (first | ((repeat (with_reducible first | assumption | exact EQF.rf _ | (refine EQF.up ?_ (by assumption)) | (refine EQF.cp ?_ (by assumption)) | (refine EQF.tr ?_ (by assumption)))); done) | omega | decide | (rw [wr_id ⟨by omega, by omega⟩]; omega)))
theorem t_78 (hr : RI r) (hF : SQ F) (k1 : okr 218 l1 7) (hl3 : l3 ≤ 40) (hl2 : -2147483648 ≤ l2) (h : ∀ v g', EQF F g g' → Q v g' r) : Ce sc (d + 7) 78 [(2, 0), (2, l1), (0, l2), (0, l3), (0, l4), (1, l5)] g r Q := by
  have k0 : okr 218 0 8 := okd (by decide +kernel)
  have x18 : NFF F 18 := hF 18 (by unfold SC; omega)
  have h18 := whf_18 hr hF
  have k18 := h18.1
  have outer : l3 ≤ 40 → ∀ l8 : Int, -2147483648 ≤ l8 → ∀ (l7 : Int) g1, EQF F g g1 → WQ sc (d + 6) 78 Q 6 [(2, 0), (2, l1), (9, 0), (0, l3), (0, l4), (1, l5), (8, 0), (0, l7), (0, l8), (9, 0)] [] g1 r := by
    intro hl
    refine upS 1 41 (by decide) (by decide) fun l8 _ ih l7 g1 e0 => ?_
    have inner : l8 < 41 → ∀ l9 : Int, -2147483648 ≤ l9 → ∀ (l7 : Int) g2, EQF F g g2 → WQ sc (d + 6) 78 Q 15 [(2, 0), (2, l1), (9, 0), (0, l3), (0, l4), (1, l5), (8, 0), (0, l7), (0, l8), (0, l9)] [] g2 r := by
      intro hlt
      refine upS 4 81 (by decide) (by decide) fun l9 _ ih2 l7 g2 e2 => ?_
      refine b_78_15 ?_
      repeat' first
        | (with_reducible refine ite_01 ?_)
        | (with_reducible refine ite_00 ?_)
        | (with_reducible refine And.intro ?_ ?_; · first | assumption | decide | (exact ARF.i (by assumption) (by omega) (by omega)) | (exact ARF.a (by assumption) (by decide) (by decide)) | (exact ARF.k (by assumption)) | omega | (have := cmp_gt.mp (by assumption : 0 < cmpL _ 0); omega))
        | (simp only [r_0_3 hr])
        | (refine ite_c (fun _ => ?_) (fun _ => ?_))
        | (intro _ e1; subst e1)
        | (with_reducible refine t_56 (by assumption) (by assumption) (by assumption) (fun _ _ _ => ?_))
        | (with_reducible refine t_63 (by assumption) (fun _ _ _ => ?_))
        | (exfalso; omega)
        | (exact absurd trivial (by assumption))
        | ((with_reducible refine ih2 ?_ _ _ ?_) <;> (first | ((repeat (with_reducible first | assumption | exact EQF.rf _ | (refine EQF.up ?_ (by assumption)) | (refine EQF.cp ?_ (by assumption)) | (refine EQF.tr ?_ (by assumption)))); done) | omega | decide | (rw [wr_id ⟨by omega, by omega⟩]; omega)))
        | ((with_reducible refine ih hlt _ _ ?_) <;> (first | ((repeat (with_reducible first | assumption | exact EQF.rf _ | (refine EQF.up ?_ (by assumption)) | (refine EQF.cp ?_ (by assumption)) | (refine EQF.tr ?_ (by assumption)))); done) | omega | decide | (rw [wr_id ⟨by omega, by omega⟩]; omega)))
        | ((with_reducible refine h _ _ ?_) <;> (first | ((repeat (with_reducible first | assumption | exact EQF.rf _ | (refine EQF.up ?_ (by assumption)) | (refine EQF.cp ?_ (by assumption)) | (refine EQF.tr ?_ (by assumption)))); done) | omega | decide | (rw [wr_id ⟨by omega, by omega⟩]; omega)))
    refine b_78_6 ?_
    repeat' first
      | (with_reducible refine ite_01 ?_)
      | (with_reducible refine ite_00 ?_)
      | (with_reducible refine And.intro ?_ ?_; · first | assumption | decide | (exact ARF.i (by assumption) (by omega) (by omega)) | (exact ARF.a (by assumption) (by decide) (by decide)) | (exact ARF.k (by assumption)) | omega | (have := cmp_gt.mp (by assumption : 0 < cmpL _ 0); omega))
      | (simp only [r_0_3 hr])
      | (refine ite_c (fun _ => ?_) (fun _ => ?_))
      | (intro _ e1; subst e1)
      | (with_reducible refine t_56 (by assumption) (by assumption) (by assumption) (fun _ _ _ => ?_))
      | (with_reducible refine t_63 (by assumption) (fun _ _ _ => ?_))
      | (exfalso; omega)
      | (exact absurd trivial (by assumption))
      | ((with_reducible refine inner ?_ _ ?_ _ _ ?_) <;> (first | ((repeat (with_reducible first | assumption | exact EQF.rf _ | (refine EQF.up ?_ (by assumption)) | (refine EQF.cp ?_ (by assumption)) | (refine EQF.tr ?_ (by assumption)))); done) | omega | decide | (rw [wr_id ⟨by omega, by omega⟩]; omega)))
      | ((with_reducible refine h _ _ ?_) <;> (first | ((repeat (with_reducible first | assumption | exact EQF.rf _ | (refine EQF.up ?_ (by assumption)) | (refine EQF.cp ?_ (by assumption)) | (refine EQF.tr ?_ (by assumption)))); done) | omega | decide | (rw [wr_id ⟨by omega, by omega⟩]; omega)))
  exact c_78 (outer hl3 _ hl2 _ _ (EQF.rf g))
theorem t_77 (hr : RI r) (hF : SQ F) (h : ∀ v g', EQF F g g' → Q v g' r) : Ce sc (d + 8) 77 [(2, 0), (0, l1), (0, l2), (0, l3), (0, l4), (0, l5)] g r Q := by
  have k0 : okr 218 0 8 := okd (by decide +kernel)
  have x18 : NFF F 18 := hF 18 (by unfold SC; omega)
  have h18 := whf_18 hr hF
  have k18 := h18.1
  have outer : l3 ≤ 40 → 2 ≤ l2 → ∀ l15 : Int, -2147483648 ≤ l15 → ∀ (l6 l7 l8 l9 l10 l11 l13 : Int) g1, okr 218 l6 2 → okr 218 (r l6 1) 7 → EQF F g g1 → WQ sc (d + 7) 77 Q 91 [(2, 0), (9, 0), (0, l2), (0, l3), (9, 0), (0, l5), (2, l6), (0, l7), (0, l8), (0, l9), (0, l10), (1, l11), (8, 0), (1, l13), (8, 0), (0, l15), (9, 0), (9, 0), (9, 0), (9, 0), (9, 0)] [] g1 r := by
    intro hl hl2
    refine upS 1 41 (by decide) (by decide) fun l15 _ ih l6 l7 l8 l9 l10 l11 l13 g1 k6 kw e0 => ?_
    have inner : l15 < 41 → ∀ l16 : Int, -2147483648 ≤ l16 → ∀ (l9 l10 l11 l13 : Int) g2, EQF F g g2 → WQ sc (d + 7) 77 Q 100 [(2, 0), (9, 0), (0, l2), (0, l3), (9, 0), (0, l5), (2, l6), (0, l7), (0, l8), (0, l9), (0, l10), (1, l11), (8, 0), (1, l13), (8, 0), (0, l15), (0, l16), (9, 0), (9, 0), (9, 0), (9, 0)] [] g2 r := by
      intro hlt
      refine upS 4 81 (by decide) (by decide) fun l16 _ ih2 l9 l10 l11 l13 g2 e2 => ?_
      refine b_77_100 ?_
      repeat' first
        | (with_reducible refine ite_01 ?_)
        | (with_reducible refine ite_00 ?_)
        | (with_reducible refine And.intro ?_ ?_; · first | assumption | decide | (exact ARF.i (by assumption) (by omega) (by omega)) | (exact ARF.a (by assumption) (by decide) (by decide)) | (exact ARF.k (by assumption)) | omega | (have := cmp_gt.mp (by assumption : 0 < cmpL _ 0); omega))
        | (simp only [r_0_3 hr])
        | (refine ite_c (fun _ => ?_) (fun _ => ?_))
        | (intro _ e1; subst e1)
        | (with_reducible refine t_56 (by assumption) (by assumption) (by assumption) (fun _ _ _ => ?_))
        | (with_reducible refine t_63 (by assumption) (fun _ _ _ => ?_))
        | (with_reducible refine t_78 hr hF (by assumption) (by omega) (by omega) (fun _ _ _ => ?_))
        | (with_reducible refine w_123 (fun _ _ => ?_) (fun _ => ?_))
        | (with_reducible refine t_129 hr hF (fun _ _ _ _ _ _ _ _ _ _ _ _ => ?_) ?_)
        | (exfalso; omega)
        | (exact absurd trivial (by assumption))
        | ((with_reducible refine ih2 ?_ _ _ _ _ _ ?_) <;> (first | ((repeat (with_reducible first | assumption | exact EQF.rf _ | (refine EQF.up ?_ (by assumption)) | (refine EQF.cp ?_ (by assumption)) | (refine EQF.tr ?_ (by assumption)))); done) | omega | decide | (rw [wr_id ⟨by omega, by omega⟩]; omega)))
        | ((with_reducible refine ih hlt _ _ _ _ _ _ _ _ k6 kw ?_) <;> (first | ((repeat (with_reducible first | assumption | exact EQF.rf _ | (refine EQF.up ?_ (by assumption)) | (refine EQF.cp ?_ (by assumption)) | (refine EQF.tr ?_ (by assumption)))); done) | omega | decide | (rw [wr_id ⟨by omega, by omega⟩]; omega)))
        | ((with_reducible refine h _ _ ?_) <;> (first | ((repeat (with_reducible first | assumption | exact EQF.rf _ | (refine EQF.up ?_ (by assumption)) | (refine EQF.cp ?_ (by assumption)) | (refine EQF.tr ?_ (by assumption)))); done) | omega | decide | (rw [wr_id ⟨by omega, by omega⟩]; omega)))
    refine b_77_91 ?_
    repeat' first
      | (with_reducible refine ite_01 ?_)
      | (with_reducible refine ite_00 ?_)
      | (with_reducible refine And.intro ?_ ?_; · first | assumption | decide | (exact ARF.i (by assumption) (by omega) (by omega)) | (exact ARF.a (by assumption) (by decide) (by decide)) | (exact ARF.k (by assumption)) | omega | (have := cmp_gt.mp (by assumption : 0 < cmpL _ 0); omega))
      | (simp only [r_0_3 hr])
      | (refine ite_c (fun _ => ?_) (fun _ => ?_))
      | (intro _ e1; subst e1)
      | (with_reducible refine t_56 (by assumption) (by assumption) (by assumption) (fun _ _ _ => ?_))
      | (with_reducible refine t_63 (by assumption) (fun _ _ _ => ?_))
      | (with_reducible refine t_78 hr hF (by assumption) (by omega) (by omega) (fun _ _ _ => ?_))
      | (with_reducible refine w_123 (fun _ _ => ?_) (fun _ => ?_))
      | (with_reducible refine t_129 hr hF (fun _ _ _ _ _ _ _ _ _ _ _ _ => ?_) ?_)
      | (exfalso; omega)
      | (exact absurd trivial (by assumption))
      | ((with_reducible refine inner ?_ _ ?_ _ _ _ _ _ ?_) <;> (first | ((repeat (with_reducible first | assumption | exact EQF.rf _ | (refine EQF.up ?_ (by assumption)) | (refine EQF.cp ?_ (by assumption)) | (refine EQF.tr ?_ (by assumption)))); done) | omega | decide | (rw [wr_id ⟨by omega, by omega⟩]; omega)))
      | ((with_reducible refine h _ _ ?_) <;> (first | ((repeat (with_reducible first | assumption | exact EQF.rf _ | (refine EQF.up ?_ (by assumption)) | (refine EQF.cp ?_ (by assumption)) | (refine EQF.tr ?_ (by assumption)))); done) | omega | decide | (rw [wr_id ⟨by omega, by omega⟩]; omega)))
  refine c_77 ?_
  repeat' first
    | (with_reducible refine ite_01 ?_)
    | (with_reducible refine ite_00 ?_)
    | (with_reducible refine And.intro ?_ ?_; · first | assumption | decide | (exact ARF.i (by assumption) (by omega) (by omega)) | (exact ARF.a (by assumption) (by decide) (by decide)) | (exact ARF.k (by assumption)) | omega | (have := cmp_gt.mp (by assumption : 0 < cmpL _ 0); omega))
    | (simp only [r_0_3 hr])
    | (refine ite_c (fun _ => ?_) (fun _ => ?_))
    | (intro _ e1; subst e1)
    | (with_reducible refine t_56 (by assumption) (by assumption) (by assumption) (fun _ _ _ => ?_))
    | (with_reducible refine t_63 (by assumption) (fun _ _ _ => ?_))
    | (with_reducible refine t_78 hr hF (by assumption) (by omega) (by omega) (fun _ _ _ => ?_))
    | (with_reducible refine w_123 (fun _ _ => ?_) (fun _ => ?_))
    | (with_reducible refine t_129 hr hF (fun _ _ _ _ _ _ _ _ _ _ _ _ => ?_) ?_)
    | (exfalso; omega)
    | (exact absurd trivial (by assumption))
    | ((with_reducible refine outer ?_ ?_ _ ?_ _ _ _ _ _ _ _ _ ?_ ?_ ?_) <;> (first | ((repeat (with_reducible first | assumption | exact EQF.rf _ | (refine EQF.up ?_ (by assumption)) | (refine EQF.cp ?_ (by assumption)) | (refine EQF.tr ?_ (by assumption)))); done) | omega | decide | (rw [wr_id ⟨by omega, by omega⟩]; omega)))
    | ((with_reducible refine h _ _ ?_) <;> (first | ((repeat (with_reducible first | assumption | exact EQF.rf _ | (refine EQF.up ?_ (by assumption)) | (refine EQF.cp ?_ (by assumption)) | (refine EQF.tr ?_ (by assumption)))); done) | omega | decide | (rw [wr_id ⟨by omega, by omega⟩]; omega)))
end SFR
