/-! the calls that tell leave the mills' buckets alone -/
theorem f4_3 {g g' : GH} (e : EQF F4 g g') : EQF F3 g g' := fun i hi j => e i (Or.inl hi) j
theorem nf4_b (x : Int) (h : (23 ≤ x ∧ x ≤ 33) ∨ (132 ≤ x ∧ x ≤ 164) ∨ x = 65) : ¬ F4 x := fun z => by
  unfold F4 F3 SC BO at z
  omega
section OB4
variable {sc : SCR} {d : Nat} {Q : QJ} {g r : GH} {l0 l1 l2 l3 l4 l5 l6 l7 l8 l9 p a b n : Int}
theorem r4_134 (hr : RI r) (h0 : 0 ≤ l1) (h2 : l1 ≤ 2) (h : ∀ g', EQF F4 g g' → Q 0 g' r) : Ce sc (d + 3) 134 [(2, 0), (0, l1)] g r Q := w_134 hr h0 h2 (h _ ((EQF.rf g).up (nf4_b _ (by decide))))
theorem r4_133n (hr : RI r) (h0 : 0 ≤ l1) (h2 : l1 ≤ 2) (h : ∀ g', EQF F4 g g' → Q (-1) g' r) : Ce sc (d + 2) 133 [(2, 0), (0, l1)] g r Q := w_133 hr h0 h2 (h _ ((EQF.rf g).up (nf4_b _ (by decide))))
theorem brf4_132 (hr : RI r) : BRF F4 r 132 := by
  obtain ⟨a, _, b4, b5, b6, b7, b8, b9, b10, b11, b12, b13⟩ := br_132 hr
  refine ⟨a, nf4_b _ (by decide), b4.f ?_, b5.f ?_, b6.f ?_, b7.f ?_, b8.f ?_, b9.f ?_, b10.f ?_, b11.f ?_, b12.f ?_, b13.f ?_⟩
  · rw [r_132_4 hr]; exact nf4_b _ (by decide)
  · rw [r_132_5 hr]; exact nf4_b _ (by decide)
  · rw [r_132_6 hr]; exact nf4_b _ (by decide)
  · rw [r_132_7 hr]; exact nf4_b _ (by decide)
  · rw [r_132_8 hr]; exact nf4_b _ (by decide)
  · rw [r_132_9 hr]; exact nf4_b _ (by decide)
  · rw [r_132_10 hr]; exact nf4_b _ (by decide)
  · rw [r_132_11 hr]; exact nf4_b _ (by decide)
  · rw [r_132_12 hr]; exact nf4_b _ (by decide)
  · rw [r_132_13 hr]; exact nf4_b _ (by decide)
theorem brf4_143 (hr : RI r) : BRF F4 r 143 := by
  obtain ⟨a, _, b4, b5, b6, b7, b8, b9, b10, b11, b12, b13⟩ := br_143 hr
  refine ⟨a, nf4_b _ (by decide), b4.f ?_, b5.f ?_, b6.f ?_, b7.f ?_, b8.f ?_, b9.f ?_, b10.f ?_, b11.f ?_, b12.f ?_, b13.f ?_⟩
  · rw [r_143_4 hr]; exact nf4_b _ (by decide)
  · rw [r_143_5 hr]; exact nf4_b _ (by decide)
  · rw [r_143_6 hr]; exact nf4_b _ (by decide)
  · rw [r_143_7 hr]; exact nf4_b _ (by decide)
  · rw [r_143_8 hr]; exact nf4_b _ (by decide)
  · rw [r_143_9 hr]; exact nf4_b _ (by decide)
  · rw [r_143_10 hr]; exact nf4_b _ (by decide)
  · rw [r_143_11 hr]; exact nf4_b _ (by decide)
  · rw [r_143_12 hr]; exact nf4_b _ (by decide)
  · rw [r_143_13 hr]; exact nf4_b _ (by decide)
theorem brf4_154 (hr : RI r) : BRF F4 r 154 := by
  obtain ⟨a, _, b4, b5, b6, b7, b8, b9, b10, b11, b12, b13⟩ := br_154 hr
  refine ⟨a, nf4_b _ (by decide), b4.f ?_, b5.f ?_, b6.f ?_, b7.f ?_, b8.f ?_, b9.f ?_, b10.f ?_, b11.f ?_, b12.f ?_, b13.f ?_⟩
  · rw [r_154_4 hr]; exact nf4_b _ (by decide)
  · rw [r_154_5 hr]; exact nf4_b _ (by decide)
  · rw [r_154_6 hr]; exact nf4_b _ (by decide)
  · rw [r_154_7 hr]; exact nf4_b _ (by decide)
  · rw [r_154_8 hr]; exact nf4_b _ (by decide)
  · rw [r_154_9 hr]; exact nf4_b _ (by decide)
  · rw [r_154_10 hr]; exact nf4_b _ (by decide)
  · rw [r_154_11 hr]; exact nf4_b _ (by decide)
  · rw [r_154_12 hr]; exact nf4_b _ (by decide)
  · rw [r_154_13 hr]; exact nf4_b _ (by decide)
theorem imf4_of {j : Int} (hr : RI r) (h0 : 0 ≤ j) (h1 : j < 3) : BRF F4 r (r 45 j) := by
  have e : j = 0 ∨ j = 1 ∨ j = 2 := by omega
  rcases e with rfl | rfl | rfl
  · rw [r_45_0 hr]; exact brf4_132 hr
  · rw [r_45_1 hr]; exact brf4_143 hr
  · rw [r_45_2 hr]; exact brf4_154 hr
def KBV (i _j : Int) : Prop := BO i
def KEB (g g' : GH) : Prop := ∀ i j, KBV i j → g' i j = g i j
theorem KEB.rf (g : GH) : KEB g g := fun _ _ _ => rfl
theorem KEB.tr {a b c : GH} (h : KEB a b) (k : KEB b c) : KEB a c := fun i j z => (k i j z).trans (h i j z)
theorem EQF.kb {g g' : GH} (e : EQF F4 g g') : KEB g g' := fun i j h => e i (Or.inr h) j
theorem up_kb {g : GH} {i j v : Int} (h : ¬ KBV i j) : KEB g (up g i j v) := fun a b z => up_o (fun q => h (by rw [← q.1]; exact z))
theorem u_81 (hr : RI r) (h : ∀ v g', EQF F4 g g' → Q v g' r) : Ce sc (d + 3) 81 [(2, 0), (0, l1)] g r Q := by
  have k0 : okr 218 0 8 := okd (by decide +kernel)
  have b23 := brf4_23 hr
  have k23 := b23.1
  have q23 := b23.2.1
  have ar24 : ARF F4 24 11 40 := AR.f (ar_of (by decide +kernel) (by decide +kernel) (by decide +kernel)) (nf4_b _ (by decide))
  have nr24 := ar24.2.2
  refine c_81 ?_
  repeat' first
    | (with_reducible refine ite_01 ?_)
    | (with_reducible refine ite_00 ?_)
    | (with_reducible refine And.intro ?_ ?_; · first | assumption | decide | (exact ARF.i (by assumption) (by omega) (by omega)) | (exact ARF.a (by assumption) (by decide) (by decide)) | (exact ARF.k (by assumption)) | omega | (have := cmp_gt.mp (by assumption : 0 < cmpL _ 0); omega))
    | (simp only [r_0_4 hr, r_23_4 hr])
    | (refine ite_c (fun _ => ?_) (fun _ => ?_))
    | (intro _ e1; subst e1)
    | (with_reducible refine w_127 (fun _ _ => ?_) (fun _ => ?_))
    | (exfalso; omega)
    | (exact absurd trivial (by assumption))
    | ((with_reducible refine h _ _ ?_) <;> (first | ((repeat (with_reducible first | assumption | exact EQF.rf _ | (refine EQF.up ?_ (by assumption)) | (refine EQF.cp ?_ (by assumption)) | (refine EQF.tr ?_ (by assumption)))); done) | omega | decide | (rw [wr_id ⟨by omega, by omega⟩]; omega)))
theorem u_83 (hr : RI r) (h : ∀ v g', EQF F4 g g' → Q v g' r) : Ce sc (d + 3) 83 [(2, 0), (0, l1)] g r Q := by
  have k0 : okr 218 0 8 := okd (by decide +kernel)
  have b23 := brf4_23 hr
  have k23 := b23.1
  have q23 := b23.2.1
  have ar24 : ARF F4 24 11 40 := AR.f (ar_of (by decide +kernel) (by decide +kernel) (by decide +kernel)) (nf4_b _ (by decide))
  have nr24 := ar24.2.2
  refine c_83 ?_
  repeat' first
    | (with_reducible refine ite_01 ?_)
    | (with_reducible refine ite_00 ?_)
    | (with_reducible refine And.intro ?_ ?_; · first | assumption | decide | (exact ARF.i (by assumption) (by omega) (by omega)) | (exact ARF.a (by assumption) (by decide) (by decide)) | (exact ARF.k (by assumption)) | omega | (have := cmp_gt.mp (by assumption : 0 < cmpL _ 0); omega))
    | (simp only [r_0_4 hr, r_23_4 hr])
    | (refine ite_c (fun _ => ?_) (fun _ => ?_))
    | (intro _ e1; subst e1)
    | (with_reducible refine t_3 (F := F4) (by assumption) (by assumption) (fun _ _ _ => ?_))
    | (with_reducible refine w_127 (fun _ _ => ?_) (fun _ => ?_))
    | (with_reducible refine r4_133 hr (by decide) (by decide) (fun _ _ _ => ?_))
    | (with_reducible refine w_250 (fun _ => ?_) (fun _ => ?_))
    | (exfalso; omega)
    | (exact absurd trivial (by assumption))
    | ((with_reducible refine h _ _ ?_) <;> (first | ((repeat (with_reducible first | assumption | exact EQF.rf _ | (refine EQF.up ?_ (by assumption)) | (refine EQF.cp ?_ (by assumption)) | (refine EQF.tr ?_ (by assumption)))); done) | omega | decide | (rw [wr_id ⟨by omega, by omega⟩]; omega)))
theorem u_85 (hr : RI r) (h : ∀ v g', EQF F4 g g' → Q v g' r) : Ce sc (d + 3) 85 [(2, 0), (0, l1), (0, l2)] g r Q := by
  have k0 : okr 218 0 8 := okd (by decide +kernel)
  have b23 := brf4_23 hr
  have k23 := b23.1
  have q23 := b23.2.1
  have ar28 : ARF F4 28 12 6 := AR.f (ar_of (by decide +kernel) (by decide +kernel) (by decide +kernel)) (nf4_b _ (by decide))
  have nr28 := ar28.2.2
  have ar29 : ARF F4 29 11 6 := AR.f (ar_of (by decide +kernel) (by decide +kernel) (by decide +kernel)) (nf4_b _ (by decide))
  have nr29 := ar29.2.2
  have ar30 : ARF F4 30 11 6 := AR.f (ar_of (by decide +kernel) (by decide +kernel) (by decide +kernel)) (nf4_b _ (by decide))
  have nr30 := ar30.2.2
  refine c_85 ?_
  repeat' first
    | (with_reducible refine ite_01 ?_)
    | (with_reducible refine ite_00 ?_)
    | (with_reducible refine And.intro ?_ ?_; · first | assumption | decide | (exact ARF.i (by assumption) (by omega) (by omega)) | (exact ARF.a (by assumption) (by decide) (by decide)) | (exact ARF.k (by assumption)) | omega | (have := cmp_gt.mp (by assumption : 0 < cmpL _ 0); omega))
    | (simp only [r_0_4 hr, r_23_8 hr, r_23_9 hr, r_23_10 hr])
    | (refine ite_c (fun _ => ?_) (fun _ => ?_))
    | (intro _ e1; subst e1)
    | (with_reducible refine t_129 (F := FZ) hr sqz (fun _ _ _ _ _ _ _ _ _ _ _ _ => ?_) ?_)
    | (exfalso; omega)
    | (exact absurd trivial (by assumption))
    | ((with_reducible refine h _ _ ?_) <;> (first | ((repeat (with_reducible first | assumption | exact EQF.rf _ | (refine EQF.up ?_ (by assumption)) | (refine EQF.cp ?_ (by assumption)) | (refine EQF.tr ?_ (by assumption)))); done) | omega | decide | (rw [wr_id ⟨by omega, by omega⟩]; omega)))
theorem u_86 (hr : RI r) (h : ∀ v g', EQF F4 g g' → Q v g' r) : Ce sc (d + 2) 86 [(2, 0), (0, l1)] g r Q := by
  have k0 : okr 218 0 8 := okd (by decide +kernel)
  have b23 := brf4_23 hr
  have k23 := b23.1
  have q23 := b23.2.1
  have ar26 : ARF F4 26 11 6 := AR.f (ar_of (by decide +kernel) (by decide +kernel) (by decide +kernel)) (nf4_b _ (by decide))
  have nr26 := ar26.2.2
  have ar27 : ARF F4 27 11 6 := AR.f (ar_of (by decide +kernel) (by decide +kernel) (by decide +kernel)) (nf4_b _ (by decide))
  have nr27 := ar27.2.2
  have as26 : AR 26 11 6 := ar_of (by decide +kernel) (by decide +kernel) (by decide +kernel)
  have as27 : AR 27 11 6 := ar_of (by decide +kernel) (by decide +kernel) (by decide +kernel)
  refine c_86 ?_
  repeat' first
    | (with_reducible refine ite_01 ?_)
    | (with_reducible refine ite_00 ?_)
    | (with_reducible refine And.intro ?_ ?_; · first | assumption | decide | (exact ARF.i (by assumption) (by omega) (by omega)) | (exact ARF.a (by assumption) (by decide) (by decide)) | (exact ARF.k (by assumption)) | omega | (have := cmp_gt.mp (by assumption : 0 < cmpL _ 0); omega))
    | (simp only [r_0_4 hr, r_23_6 hr, r_23_7 hr])
    | (refine ite_c (fun _ => ?_) (fun _ => ?_))
    | (intro _ e1; subst e1)
    | (with_reducible refine s_135 (by assumption) (by decide) (fun _ => ?_))
    | (exfalso; omega)
    | (exact absurd trivial (by assumption))
    | ((with_reducible refine h _ _ ?_) <;> (first | ((repeat (with_reducible first | assumption | exact EQF.rf _ | (refine EQF.up ?_ (by assumption)) | (refine EQF.cp ?_ (by assumption)) | (refine EQF.tr ?_ (by assumption)))); done) | omega | decide | (rw [wr_id ⟨by omega, by omega⟩]; omega)))
theorem u_84 (hr : RI r) (h : ∀ v g', EQF F4 g g' → Q v g' r) : Ce sc (d + 4) 84 [(2, 0), (0, l1)] g r Q := by
  have k0 : okr 218 0 8 := okd (by decide +kernel)
  have b23 := brf4_23 hr
  have k23 := b23.1
  have q23 := b23.2.1
  refine c_84 ?_
  repeat' first
    | (with_reducible refine ite_01 ?_)
    | (with_reducible refine ite_00 ?_)
    | (with_reducible refine And.intro ?_ ?_; · first | assumption | decide | (exact ARF.i (by assumption) (by omega) (by omega)) | (exact ARF.a (by assumption) (by decide) (by decide)) | (exact ARF.k (by assumption)) | omega | (have := cmp_gt.mp (by assumption : 0 < cmpL _ 0); omega))
    | (simp only [r_0_4 hr])
    | (refine ite_c (fun _ => ?_) (fun _ => ?_))
    | (intro _ e1; subst e1)
    | (with_reducible refine w_123 (fun _ _ => ?_) (fun _ => ?_))
    | (with_reducible refine r4_134 hr (by decide) (by decide) (fun _ _ => ?_))
    | (exfalso; omega)
    | (exact absurd trivial (by assumption))
    | ((with_reducible refine h _ _ ?_) <;> (first | ((repeat (with_reducible first | assumption | exact EQF.rf _ | (refine EQF.up ?_ (by assumption)) | (refine EQF.cp ?_ (by assumption)) | (refine EQF.tr ?_ (by assumption)))); done) | omega | decide | (rw [wr_id ⟨by omega, by omega⟩]; omega)))
theorem u_80 (hr : RI r) (h : ∀ v g', EQF F4 g g' → Q v g' r) : Ce sc (d + 4) 80 [(2, 0), (0, l1), (0, l2), (0, l3)] g r Q := by
  have k0 : okr 218 0 8 := okd (by decide +kernel)
  have b23 := brf4_23 hr
  have k23 := b23.1
  have q23 := b23.2.1
  have ar24 : ARF F4 24 11 40 := AR.f (ar_of (by decide +kernel) (by decide +kernel) (by decide +kernel)) (nf4_b _ (by decide))
  have nr24 := ar24.2.2
  have ar25 : ARF F4 25 11 40 := AR.f (ar_of (by decide +kernel) (by decide +kernel) (by decide +kernel)) (nf4_b _ (by decide))
  have nr25 := ar25.2.2
  refine c_80 ?_
  repeat' first
    | (with_reducible refine ite_01 ?_)
    | (with_reducible refine ite_00 ?_)
    | (with_reducible refine And.intro ?_ ?_; · first | assumption | decide | (exact ARF.i (by assumption) (by omega) (by omega)) | (exact ARF.a (by assumption) (by decide) (by decide)) | (exact ARF.k (by assumption)) | omega | (have := cmp_gt.mp (by assumption : 0 < cmpL _ 0); omega))
    | (simp only [r_0_4 hr, r_23_4 hr, r_23_5 hr])
    | (refine ite_c (fun _ => ?_) (fun _ => ?_))
    | (intro _ e1; subst e1)
    | (with_reducible refine w_124 (fun _ _ => ?_) (fun _ => ?_))
    | (with_reducible refine w_127 (fun _ _ => ?_) (fun _ => ?_))
    | (with_reducible refine r4_134 hr (by decide) (by decide) (fun _ _ => ?_))
    | (exfalso; omega)
    | (exact absurd trivial (by assumption))
    | ((with_reducible refine h _ _ ?_) <;> (first | ((repeat (with_reducible first | assumption | exact EQF.rf _ | (refine EQF.up ?_ (by assumption)) | (refine EQF.cp ?_ (by assumption)) | (refine EQF.tr ?_ (by assumption)))); done) | omega | decide | (rw [wr_id ⟨by omega, by omega⟩]; omega)))
theorem u_122 (hr : RI r) (h : ∀ v g', EQF F4 g g' → Q v g' r) : Ce sc (d + 4) 122 [(2, 0), (0, l1)] g r Q := by
  have k0 : okr 218 0 8 := okd (by decide +kernel)
  have k1 : okr 218 1 5 := okd (by decide +kernel)
  have k52 : okr 218 52 3 := okd (by decide +kernel)
  have pr52 := pr_52 hr
  have k55 : okr 218 55 3 := okd (by decide +kernel)
  have pr55 := pr_55 hr
  have k58 : okr 218 58 3 := okd (by decide +kernel)
  have pr58 := pr_58 hr
  have k62 : okr 218 62 3 := okd (by decide +kernel)
  have pr62 := pr_62 hr
  have ar65 : ARF F4 65 11 3 := AR.f (ar_of (by decide +kernel) (by decide +kernel) (by decide +kernel)) (nf4_b _ (by decide))
  have mr65 := ar65.2.1
  have nr65 := ar65.2.2
  refine c_122 ?_
  repeat' first
    | (with_reducible refine ite_01 ?_)
    | (with_reducible refine ite_00 ?_)
    | (with_reducible refine And.intro ?_ ?_; · first | assumption | decide | (exact ARF.i (by assumption) (by omega) (by omega)) | (exact ARF.a (by assumption) (by decide) (by decide)) | (exact ARF.k (by assumption)) | omega | (have := cmp_gt.mp (by assumption : 0 < cmpL _ 0); omega))
    | (simp only [r_0_0 hr, r_0_12 hr, r_0_13 hr, r_0_14 hr, r_0_16 hr, r_0_17 hr])
    | (refine ite_c (fun _ => ?_) (fun _ => ?_))
    | (intro _ e1; subst e1)
    | (with_reducible refine s_131 hr (fun _ => ?_))
    | (exfalso; omega)
    | (exact absurd trivial (by assumption))
    | ((with_reducible refine h _ _ ?_) <;> (first | ((repeat (with_reducible first | assumption | exact EQF.rf _ | (refine EQF.up ?_ (by assumption)) | (refine EQF.cp ?_ (by assumption)) | (refine EQF.tr ?_ (by assumption)))); done) | omega | decide | (rw [wr_id ⟨by omega, by omega⟩]; omega)))
theorem u_98 (hr : RI r) (h1 : TD g r l1 ∧ 0 ≤ l2 ∧ l2 ≤ 99 → Q 1 (up g 51 l1 l2) r) (h0 : ¬ (TD g r l1 ∧ 0 ≤ l2 ∧ l2 ≤ 99) → ∀ g', EQF F4 g g' → Q 0 g' r) : Ce sc (d + 4) 98 [(2, 0), (0, l1), (0, l2)] g r Q := by
  have k0 : okr 218 0 8 := okd (by decide +kernel)
  refine c_98 ⟨k0, w_129 hr (fun t => ?_) (fun t => ?_)⟩
  · rw [if_neg (mo_ne (hr.2.1 l1 t.1 t.2.1))]
    refine w_123 (fun q1 q2 => ?_) (fun q => ?_)
    · rw [if_neg (by decide), r_0_11 hr]
      exact ⟨k0, i_51.mpr ⟨t.1, t.2.1⟩, fun g3 e3 => ⟨Or.inr rfl, by rw [e3]; exact h1 ⟨t, q1, q2⟩⟩⟩
    · rw [if_pos rfl]
      exact ⟨k0, r4_134 hr (by decide) (by decide) (fun g' e => ⟨Or.inl rfl, h0 (fun z => q z.2) _ e⟩)⟩
  · rw [if_pos rfl]
    exact ⟨k0, r4_134 hr (by decide) (by decide) (fun g' e => ⟨Or.inl rfl, h0 (fun z => t z.1) _ e⟩)⟩
theorem u_132f (hr : RI r) (k : okr 218 p 3) (e0 : r p 0 = a) (e1 : r p 1 = b) (A : AL a 11 n) (B : AL b 11 n) (na : p ≠ a) (nb : p ≠ b) (hn : n < 100) (c0 : 0 ≤ g p 2) (h1 : g p 2 < n → Q (g p 2 + 1) (up (up (up g a (g p 2) l2) b (g p 2) l3) p 2 (g p 2 + 1)) r) (h0 : ¬ g p 2 < n → ∀ g', EQF F4 g g' → Q (-1) g' r) : Ce sc (d + 3) 132 [(2, 0), (2, p), (0, l2), (0, l3)] g r Q := by
  have k0 : okr 218 0 8 := okd (by decide +kernel)
  refine c_132 ⟨k, w_24 k e0 e1 A B na nb hn c0 (fun q => ?_) (fun q => ?_)⟩
  · rw [if_neg (by decide)]
    refine ⟨k, ?_⟩
    rw [up_s]
    exact h1 q
  · rw [if_pos rfl]
    exact ⟨k0, r4_133n hr (by decide) (by decide) (h0 q)⟩
theorem u_99 (hr : RI r) (hc : 0 ≤ g 52 2) (h1 : (TD g r l1 ∧ 0 ≤ l2 ∧ l2 ≤ 100) ∧ g 52 2 < 30 → Q (g 52 2 + 1) (up (up (up g 53 (g 52 2) l1) 54 (g 52 2) l2) 52 2 (g 52 2 + 1)) r) (h0 : ¬ ((TD g r l1 ∧ 0 ≤ l2 ∧ l2 ≤ 100) ∧ g 52 2 < 30) → ∀ g', EQF F4 g g' → Q (-1) g' r) : Ce sc (d + 4) 99 [(2, 0), (0, l1), (0, l2)] g r Q := by
  have k0 : okr 218 0 8 := okd (by decide +kernel)
  have k52 : okr 218 52 3 := okd (by decide +kernel)
  have A : AL 53 11 30 := ⟨okd (by decide +kernel), n_53⟩
  have B : AL 54 11 30 := ⟨okd (by decide +kernel), n_54⟩
  refine c_99 ⟨k0, w_129 hr (fun t => ?_) (fun t => ?_)⟩
  · rw [if_neg (mo_ne (hr.2.1 l1 t.1 t.2.1))]
    refine w_123 (fun q1 q2 => ?_) (fun q => ?_)
    · rw [if_neg (by decide), r_0_12 hr]
      exact ⟨k0, k0, u_132f hr k52 (r_52_0 hr) (r_52_1 hr) A B (by decide) (by decide) (by decide) hc (fun q => h1 ⟨⟨t, q1, q2⟩, q⟩) (fun q => h0 (fun z => q z.2))⟩
    · rw [if_pos rfl]; exact ⟨k0, r4_133n hr (by decide) (by decide) (h0 (fun z => q z.1.2))⟩
  · rw [if_pos rfl]; exact ⟨k0, r4_133n hr (by decide) (by decide) (h0 (fun z => t z.1.1))⟩
def KRB (g r : GH) : QJ := fun _ g1 r1 => r1 = r ∧ KEB g g1
def CEB (g g' : GH) : Prop := KEB g g' ∧ ∀ i j, 165 ≤ i → g' i j = g i j
def KCB (g r : GH) : QJ := fun _ g1 r1 => r1 = r ∧ CEB g g1
theorem CEB.rf (g : GH) : CEB g g := ⟨KEB.rf g, fun _ _ _ => rfl⟩
theorem CEB.tr {a b c : GH} (h : CEB a b) (k : CEB b c) : CEB a c := ⟨h.1.tr k.1, fun i j z => (k.2 i j z).trans (h.2 i j z)⟩
theorem EQF.cb {g g' : GH} (e : EQF F4 g g') : CEB g g' := ⟨e.kb, fun i j z => e i (Or.inl (fp_f3 (Or.inl z))) j⟩
theorem up_cb {g : GH} {i j v : Int} (l : i < 165) (h : ¬ KBV i j) : CEB g (up g i j v) := ⟨up_kb h, fun a b z => up_i (by omega)⟩
theorem nkb (i j : Int) (h : 55 ≤ i ∧ i ≤ 64) : ¬ KBV i j := by unfold KBV BO; omega
theorem nkb0 (j : Int) : ¬ KBV 0 j := by unfold KBV BO; omega
theorem kb_104 (hr : RI r) (hc : 0 ≤ g 55 2) : Ce sc (d + 4) 104 [(2, 0), (0, l1)] g r (KCB g r) := by
  have k0 : okr 218 0 8 := okd (by decide +kernel)
  have k55 : okr 218 55 3 := okd (by decide +kernel)
  have A : AL 56 11 24 := ⟨okd (by decide +kernel), n_56⟩
  have B : AL 57 11 24 := ⟨okd (by decide +kernel), n_57⟩
  refine c_104 (w_123 (fun q1 q2 => ?_) (fun q => ?_))
  · rw [if_neg (by decide), r_0_13 hr]
    exact ⟨k0, k0, u_132f hr k55 (r_55_0 hr) (r_55_1 hr) A B (by decide) (by decide) (by decide) hc (fun q => ⟨rfl, ((up_cb (by decide) (nkb _ _ (by decide))).tr (up_cb (by decide) (nkb _ _ (by decide)))).tr (up_cb (by decide) (nkb _ _ (by decide)))⟩) (fun q g' e => ⟨rfl, e.cb⟩)⟩
  · rw [if_pos rfl]; exact ⟨k0, r4_133n hr (by decide) (by decide) (fun g' e => ⟨rfl, e.cb⟩)⟩
theorem kb_105 (hr : RI r) (hc : 0 ≤ g 55 2 ∧ g 55 2 ≤ 24) : Ce sc (d + 2) 105 [(2, 0)] g r (KCB g r) := w_105 hr hc (fun _ => ⟨rfl, up_cb (by decide) (nkb _ _ (by decide))⟩) (fun _ => ⟨rfl, CEB.rf g⟩)
theorem kb_111 (hr : RI r) (hc : 0 ≤ g 58 2) : Ce sc (d + 4) 111 [(2, 0), (0, l1), (0, l2)] g r (KCB g r) := by
  have k0 : okr 218 0 8 := okd (by decide +kernel)
  have k58 : okr 218 58 3 := okd (by decide +kernel)
  have A : AL 59 11 9 := ⟨okd (by decide +kernel), n_59⟩
  have B : AL 60 11 9 := ⟨okd (by decide +kernel), n_60⟩
  refine c_111 (w_123 (fun q1 q2 => ?_) (fun q => ?_))
  · rw [if_neg (by decide)]
    refine w_123 (fun q3 q4 => ?_) (fun q => ?_)
    · rw [if_neg (by decide), r_0_14 hr]
      exact ⟨k0, k0, u_132f hr k58 (r_58_0 hr) (r_58_1 hr) A B (by decide) (by decide) (by decide) hc (fun q => ⟨rfl, ((up_cb (by decide) (nkb _ _ (by decide))).tr (up_cb (by decide) (nkb _ _ (by decide)))).tr (up_cb (by decide) (nkb _ _ (by decide)))⟩) (fun q g' e => ⟨rfl, e.cb⟩)⟩
    · rw [if_pos rfl]; exact ⟨k0, r4_133n hr (by decide) (by decide) (fun g' e => ⟨rfl, e.cb⟩)⟩
  · rw [if_pos rfl]; exact ⟨k0, r4_133n hr (by decide) (by decide) (fun g' e => ⟨rfl, e.cb⟩)⟩
theorem kb_117 (hr : RI r) (hc : 0 ≤ g 62 2) : Ce sc (d + 4) 117 [(2, 0), (0, l1), (0, l2)] g r (KCB g r) := by
  have k0 : okr 218 0 8 := okd (by decide +kernel)
  have k62 : okr 218 62 3 := okd (by decide +kernel)
  have A : AL 63 11 8 := ⟨okd (by decide +kernel), n_63⟩
  have B : AL 64 11 8 := ⟨okd (by decide +kernel), n_64⟩
  refine c_117 (w_123 (fun q1 q2 => ?_) (fun q => ?_))
  · rw [if_neg (by decide)]
    refine w_123 (fun q3 q4 => ?_) (fun q => ?_)
    · rw [if_neg (by decide), r_0_16 hr]
      exact ⟨k0, k0, u_132f hr k62 (r_62_0 hr) (r_62_1 hr) A B (by decide) (by decide) (by decide) hc (fun q => ⟨rfl, ((up_cb (by decide) (nkb _ _ (by decide))).tr (up_cb (by decide) (nkb _ _ (by decide)))).tr (up_cb (by decide) (nkb _ _ (by decide)))⟩) (fun q g' e => ⟨rfl, e.cb⟩)⟩
    · rw [if_pos rfl]; exact ⟨k0, r4_133n hr (by decide) (by decide) (fun g' e => ⟨rfl, e.cb⟩)⟩
  · rw [if_pos rfl]; exact ⟨k0, r4_133n hr (by decide) (by decide) (fun g' e => ⟨rfl, e.cb⟩)⟩
theorem kb_120 (hr : RI r) (hc : 0 ≤ g 0 7 ∧ g 0 7 ≤ 3) : Ce sc (d + 4) 120 [(2, 0)] g r (KCB g r) := by
  have k0 : okr 218 0 8 := okd (by decide +kernel)
  have no : Ce sc (d + 3) 133 [(2, 0), (0, 1)] g r (fun v2 g2 r2 => KCB g r v2 g2 r2) := r4_133n hr (by decide) (by decide) (fun g' e => ⟨rfl, e.cb⟩)
  refine c_120 ⟨k0, ite_c (fun q => ?_) (fun _ => ⟨k0, no⟩)⟩
  rw [r_0_6 hr, r_0_4 hr]
  have hi := im_of hr hc.1 q
  have hI : okI 218 45 14 (g 0 7) ∨ okI 218 45 15 (g 0 7) := by
    first | exact Or.inr (i_45.mpr ⟨hc.1, q⟩) | exact Or.inl (i_45.mpr ⟨hc.1, q⟩)
  rw [if_neg hi.2.2]
  refine ⟨k0, k0, hI, k0, k0, hI, k0, hi.2.1, t_1 (imf4_of hr hc.1 q) (br_23 hr).fz (fun v g' e => ⟨k0, k0, fun g2 E2 => ⟨k0, rfl, ?_⟩⟩)⟩
  rw [E2]; exact e.cb.tr (up_cb (by decide) (nkb0 _))
theorem u_121 (hr : RI r) (h : ∀ v g', (v = 0 ∨ v = 1) → EQF F4 g g' → Q v g' r) : Ce sc (d + 4) 121 [(2, 0), (0, l1)] g r Q := by
  have k0 : okr 218 0 8 := okd (by decide +kernel)
  have no : Ce sc (d + 3) 134 [(2, 0), (0, 0)] g r (fun v2 g2 r2 => (v2 = 0 ∨ v2 = 1) ∧ Q v2 g2 r2) := r4_134 hr (by decide) (by decide) (fun g' e => ⟨Or.inl rfl, h _ _ (Or.inl rfl) e⟩)
  refine c_121 ⟨k0, w_123 (fun q1 q2 => ?_) (fun _ => ?_)⟩
  · rw [if_neg (by decide)]
    refine w_123 (fun q3 q4 => ?_) (fun _ => ?_)
    · rw [if_neg (by decide), r_0_6 hr, r_0_4 hr]
      have hi := im_of hr q3 (by omega)
      have hI : okI 218 45 14 l1 ∨ okI 218 45 15 l1 := by
        first | exact Or.inr (i_45.mpr ⟨q3, by omega⟩) | exact Or.inl (i_45.mpr ⟨q3, by omega⟩)
      exact ⟨k0, k0, hI, (brf4_23 hr).1, t_1 (brf4_23 hr) hi.1.fz (fun v g' e => ⟨Or.inr rfl, h _ _ (Or.inr rfl) e⟩)⟩
    · rw [if_pos rfl]; exact ⟨k0, no⟩
  · rw [if_pos rfl]; exact ⟨k0, no⟩
end OB4
