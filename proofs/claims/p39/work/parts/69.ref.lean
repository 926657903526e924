/-! the reference's plain methods come to their end, whatever their numbers; printed by a program (wip/gen/gen_m1.py) -/
/-- what stands between the calls of the reference, and is asked -/
def MV (i j : Int) : Prop := i < 165 ∨ i = 167 ∨ (i = 165 ∧ (j = 24 ∨ j = 48 ∨ j = 61 ∨ j = 64 ∨ j = 66 ∨ j = 70)) ∨ (168 ≤ i ∧ i ≤ 180 ∧ j < 6) ∨ (182 ≤ i ∧ i ≤ 188) ∨ i = 209 ∨ i = 211 ∨ i = 189 ∨ (i = 165 ∧ j = 25) ∨ i = 181 ∨ i = 210
def MW (i j : Int) : Prop := ¬ MV i j
/-- the rows of booleans and the hours gone -/
def MB (g : GH) : Prop := (∀ k, g 168 k = 0 ∨ g 168 k = 1) ∧ (∀ k, g 198 k = 0 ∨ g 198 k = 1) ∧ (∀ k, g 204 k = 0 ∨ g 204 k = 1) ∧ (∀ s, 0 ≤ s → s < 4 → 0 ≤ g 197 s ∧ g 197 s ≤ 960) ∧ ∀ k, rL (g 207 k)
def ME (g g' : GH) : Prop := (∀ i j, MV i j → g' i j = g i j) ∧ (MB g → MB g')
theorem ME.rf (g : GH) : ME g g := ⟨fun _ _ _ => rfl, fun h => h⟩
theorem ME.tr {a b c : GH} (h1 : ME a b) (h2 : ME b c) : ME a c := ⟨fun i j h => (h2.1 i j h).trans (h1.1 i j h), fun h => h2.2 (h1.2 h)⟩
theorem ME.u {a b : GH} {x j v : Int} (h : ME a b) (hx : MW x j) (hb : x ≠ 168 ∧ x ≠ 197 ∧ x ≠ 198 ∧ x ≠ 204 ∧ x ≠ 207) : ME a (up b x j v) := by
  refine ⟨fun i k hi => ?_, fun q => ?_⟩
  · have : ¬ (i = x ∧ k = j) := fun q => hx (by rw [← q.1, ← q.2]; exact hi)
    rw [up_o this]; exact h.1 i k hi
  · have q2 := h.2 q
    unfold MB at q2 ⊢
    simp only [up_i (f := b) (i := x) (j := j) (v := v) hb.1.symm, up_i (f := b) (i := x) (j := j) (v := v) hb.2.1.symm, up_i (f := b) (i := x) (j := j) (v := v) hb.2.2.1.symm, up_i (f := b) (i := x) (j := j) (v := v) hb.2.2.2.1.symm, up_i (f := b) (i := x) (j := j) (v := v) hb.2.2.2.2.symm]
    exact q2
theorem ME.ub {a b : GH} {x j v : Int} (h : ME a b) (hx : MW x j) (hb : x = 168 ∨ x = 198 ∨ x = 204) (hv : v = 0 ∨ v = 1) : ME a (up b x j v) := by
  refine ⟨fun i k hi => ?_, fun q => ?_⟩
  · have : ¬ (i = x ∧ k = j) := fun q => hx (by rw [← q.1, ← q.2]; exact hi)
    rw [up_o this]; exact h.1 i k hi
  · obtain ⟨q1, q2, q3, q4, q5⟩ := h.2 q
    have key : ∀ y k, (b y k = 0 ∨ b y k = 1) → (up b x j v y k = 0 ∨ up b x j v y k = 1) := fun y k hh => by
      by_cases z : y = x ∧ k = j
      · rw [z.1, z.2, up_s]; exact hv
      · rw [up_o z]; exact hh
    refine ⟨fun k => key _ _ (q1 k), fun k => key _ _ (q2 k), fun k => key _ _ (q3 k), fun s s0 s1 => ?_, fun k => ?_⟩
    · rw [up_i (by omega)]; exact q4 s s0 s1
    · rw [up_i (by omega)]; exact q5 k
theorem ME.u7 {a b : GH} {j v : Int} (h : ME a b) (hv : (0 ≤ v ∧ v ≤ 960) ∨ 4 ≤ j) : ME a (up b 197 j v) := by
  refine ⟨fun i k hi => ?_, fun q => ?_⟩
  · have : ¬ (i = 197 ∧ k = j) := fun q => by unfold MV at hi; omega
    rw [up_o this]; exact h.1 i k hi
  · obtain ⟨q1, q2, q3, q4, q5⟩ := h.2 q
    refine ⟨fun k => by rw [up_i (by decide)]; exact q1 k, fun k => by rw [up_i (by decide)]; exact q2 k, fun k => by rw [up_i (by decide)]; exact q3 k, fun s s0 s1 => ?_, fun k => by rw [up_i (by decide)]; exact q5 k⟩
    by_cases z : s = j
    · rw [z, up_s]; omega
    · rw [up_j z]; exact q4 s s0 s1
theorem ME.ur {a b : GH} {j v : Int} (h : ME a b) (hv : rL v) : ME a (up b 207 j v) := by
  refine ⟨fun i k hi => ?_, fun q => ?_⟩
  · have : ¬ (i = 207 ∧ k = j) := fun q => by unfold MV at hi; omega
    rw [up_o this]; exact h.1 i k hi
  · obtain ⟨q1, q2, q3, q4, q5⟩ := h.2 q
    refine ⟨fun k => by rw [up_i (by decide)]; exact q1 k, fun k => by rw [up_i (by decide)]; exact q2 k, fun k => by rw [up_i (by decide)]; exact q3 k, fun s s0 s1 => by rw [up_i (by decide)]; exact q4 s s0 s1, fun k => ?_⟩
    by_cases z : k = j
    · rw [z, up_s]; exact hv
    · rw [up_j z]; exact q5 k
theorem mw_of {x j : Int} (h : decide (x < 165 ∨ x = 167 ∨ (x = 165 ∧ (j = 24 ∨ j = 48 ∨ j = 61 ∨ j = 64 ∨ j = 66 ∨ j = 70)) ∨ (168 ≤ x ∧ x ≤ 180 ∧ j < 6) ∨ (182 ≤ x ∧ x ≤ 188) ∨ x = 209 ∨ x = 211 ∨ x = 189 ∨ (x = 165 ∧ j = 25) ∨ x = 181 ∨ x = 210) = false) : MW x j := (of_decide_eq_false h : ¬ (x < 165 ∨ x = 167 ∨ (x = 165 ∧ (j = 24 ∨ j = 48 ∨ j = 61 ∨ j = 64 ∨ j = 66 ∨ j = 70)) ∨ (168 ≤ x ∧ x ≤ 180 ∧ j < 6) ∨ (182 ≤ x ∧ x ≤ 188) ∨ x = 209 ∨ x = 211 ∨ x = 189 ∨ (x = 165 ∧ j = 25) ∨ x = 181 ∨ x = 210))
/-- a mill (told, or the one that is tried) whose numbers stay in their bounds -/
def GM (g : GH) (m : Int) : Prop := 0 ≤ m ∧ m ≤ 6 ∧ 4 ≤ g 171 m ∧ g 171 m ≤ 80 ∧ 0 ≤ g 174 m ∧ g 174 m ≤ 90 ∧ 1 ≤ g 177 m ∧ g 177 m ≤ 300
theorem turn_ne {a b : Int} (h1 : 1 ≤ a) (h2 : a ≤ 300) (h3 : 4 ≤ b) (h4 : b ≤ 80) : wr (a * b) ≠ 0 := by
  have e1 : 1 * 4 ≤ a * b := Int.mul_le_mul h1 h3 (by decide) (by omega)
  have e2 : a * b ≤ 300 * 80 := Int.mul_le_mul h2 h4 (by omega) (by decide)
  rw [wr_id ⟨by omega, by omega⟩]
  omega
/-- the place of bucket k on the wheel -/
def plcV (g : GH) (m k : Int) : Int := wr (g 174 m + wr ((wr (360 * k)).tdiv (g 171 m)))
theorem plcV_e {g : GH} {m k : Int} (hg : GM g m) (h0 : 0 ≤ k) (h1 : k ≤ 100) : plcV g m k = g 174 m + 360 * k / g 171 m ∧ 0 ≤ 360 * k / g 171 m ∧ 360 * k / g 171 m ≤ 36000 := by
  obtain ⟨m0, m6, b0, b1, d0, d1, p0, p1⟩ := hg
  have e0 : (360 * k).tdiv (g 171 m) = 360 * k / g 171 m := Int.tdiv_eq_ediv_of_nonneg (by omega)
  have e1 : 0 ≤ 360 * k / g 171 m := Int.ediv_nonneg (by omega) (by omega)
  have e2 : 360 * k / g 171 m ≤ 360 * k := Int.ediv_le_self _ (by omega)
  unfold plcV
  rw [wr_id (x := 360 * k) ⟨by omega, by omega⟩, e0, wr_id (x := 360 * k / g 171 m) ⟨by omega, by omega⟩, wr_id ⟨by omega, by omega⟩]
  exact ⟨rfl, e1, by omega⟩
theorem plcV_0 {g : GH} {m k : Int} (hg : GM g m) (h0 : 0 ≤ k) (h1 : k ≤ 100) : 0 ≤ plcV g m k := by
  have := plcV_e hg h0 h1
  have := hg.2.2.2.2.1
  omega
theorem plcV_40 {g : GH} {m k : Int} (hg : GM g m) (h0 : 40 ≤ k) (h1 : k ≤ 100) : 180 ≤ plcV g m k := by
  have e := plcV_e hg (by omega) h1
  obtain ⟨m0, m6, b0, b1, d0, d1, p0, p1⟩ := hg
  have : 180 ≤ 360 * k / g 171 m := Int.le_ediv_of_mul_le (by omega) (by
    have : 180 * g 171 m ≤ 180 * 80 := by omega
    omega)
  omega
section MPL
variable {sc : SCR} {d : Nat} {Q : QJ} {g r : GH} {l0 l1 l2 l3 l4 l5 l6 l7 l8 l9 l10 : Int}
theorem s_138 (hr : RI r) (h0 : 0 ≤ l1) (h2 : l1 ≤ 2) (h : ∀ g', ME g g' → Q (-1) g' r) : Ce sc (d + 1) 138 [(2, 165), (0, l1)] g r Q := w_138 hr h0 h2 (h _ ((ME.rf g).u (by unfold MW MV; omega) (by decide)))
theorem s_139 (hr : RI r) (h : ∀ g', ME g g' → Q 0 g' r) : Ce sc (d + 1) 139 [(2, 165)] g r Q := w_139 hr (h _ ((ME.rf g).u (by unfold MW MV; omega) (by decide)))
theorem s_164 (hr : RI r) (hg : GM g l1) (h : ∀ v, Q v g r) : Ce sc (d + 1) 164 [(2, 165), (0, l1)] g r Q := by
  have k9 : okr 218 165 9 := okd (by decide +kernel)
  have hg0 := hg
  obtain ⟨m0, m6, b0, b1, d0, d1, p0, p1⟩ := hg
  refine c_164 ?_
  repeat' first
    | (with_reducible refine ite_01 ?_)
    | (with_reducible refine ite_00 ?_)
    | (with_reducible refine And.intro ?_ ?_; · first | assumption | decide | (exact AR.i (by assumption) (by omega) (by omega)) | (exact AR.a (by assumption) (by decide) (by decide)) | (exact AR.k (by assumption)) | omega | (have := cmp_gt.mp (by assumption : 0 < cmpL _ 0); omega) | (exact i_169.mpr ⟨by omega, by omega⟩) | (exact i_170.mpr ⟨by omega, by omega⟩) | (exact i_171.mpr ⟨by omega, by omega⟩) | (exact i_172.mpr ⟨by omega, by omega⟩))
    | (simp only [r_165_3 hr, r_165_4 hr, r_165_5 hr, r_165_6 hr])
    | (refine ite_c (fun _ => ?_) (fun _ => ?_))
    | (intro _ e1; subst e1)
    | (exfalso; omega)
    | (exact absurd trivial (by assumption))
    | ((with_reducible refine h _))
theorem s_165 (hr : RI r) (hg : GM g l1) (t1 : 1 ≤ l3) (t2 : l3 ≤ 300) (h : ∀ v, Q v g r) : Ce sc (d + 1) 165 [(2, 165), (0, l1), (0, l2), (0, l3)] g r Q := by
  have k9 : okr 218 165 9 := okd (by decide +kernel)
  have hg0 := hg
  obtain ⟨m0, m6, b0, b1, d0, d1, p0, p1⟩ := hg
  refine c_165 ?_
  repeat' first
    | (with_reducible refine ite_01 ?_)
    | (with_reducible refine ite_00 ?_)
    | (with_reducible refine And.intro ?_ ?_; · first | assumption | decide | (exact AR.i (by assumption) (by omega) (by omega)) | (exact AR.a (by assumption) (by decide) (by decide)) | (exact AR.k (by assumption)) | omega | (have := cmp_gt.mp (by assumption : 0 < cmpL _ 0); omega) | (exact i_171.mpr ⟨by omega, by omega⟩) | (exact turn_ne (by omega) (by omega) (by omega) (by omega)))
    | (simp only [r_165_5 hr])
    | (refine ite_c (fun _ => ?_) (fun _ => ?_))
    | (intro _ e1; subst e1)
    | (exfalso; omega)
    | (exact absurd trivial (by assumption))
    | ((with_reducible refine h _))
theorem s_166 (hr : RI r) (hg : GM g l1) (h : ∀ v, Q v g r) : Ce sc (d + 1) 166 [(2, 165), (0, l1), (0, l2)] g r Q := by
  have k9 : okr 218 165 9 := okd (by decide +kernel)
  have hg0 := hg
  obtain ⟨m0, m6, b0, b1, d0, d1, p0, p1⟩ := hg
  have e : ∀ t0 : Int, WQ sc d 166 Q 38 [(2, 165), (0, l1), (0, l2), (9, 0)] [(0, t0)] g r := by
    intro t0
    refine b_166_38 ?_
    repeat' first
      | (with_reducible refine ite_01 ?_)
      | (with_reducible refine ite_00 ?_)
      | (with_reducible refine And.intro ?_ ?_; · first | assumption | decide | (exact AR.i (by assumption) (by omega) (by omega)) | (exact AR.a (by assumption) (by decide) (by decide)) | (exact AR.k (by assumption)) | omega | (have := cmp_gt.mp (by assumption : 0 < cmpL _ 0); omega) | (exact i_169.mpr ⟨by omega, by omega⟩) | (exact i_171.mpr ⟨by omega, by omega⟩))
      | (simp only [r_165_3 hr, r_165_5 hr])
      | (refine ite_c (fun _ => ?_) (fun _ => ?_))
      | (intro _ e1; subst e1)
      | (exfalso; omega)
      | (exact absurd trivial (by assumption))
      | ((with_reducible refine h _))
  refine c_166 ?_
  repeat' first
    | (with_reducible refine ite_01 ?_)
    | (with_reducible refine ite_00 ?_)
    | (with_reducible refine And.intro ?_ ?_; · first | assumption | decide | (exact AR.i (by assumption) (by omega) (by omega)) | (exact AR.a (by assumption) (by decide) (by decide)) | (exact AR.k (by assumption)) | omega | (have := cmp_gt.mp (by assumption : 0 < cmpL _ 0); omega) | (exact i_169.mpr ⟨by omega, by omega⟩) | (exact i_171.mpr ⟨by omega, by omega⟩))
    | (simp only [r_165_3 hr, r_165_5 hr])
    | (refine ite_c (fun _ => ?_) (fun _ => ?_))
    | (intro _ e1; subst e1)
    | (exfalso; omega)
    | (exact absurd trivial (by assumption))
    | ((with_reducible refine e _))
theorem s_167 (hr : RI r) (hg : GM g l1) (t1 : 1 ≤ l3) (t2 : l3 ≤ 300) (h : ∀ v, Q v g r) : Ce sc (d + 2) 167 [(2, 165), (0, l1), (0, l2), (0, l3)] g r Q := by
  have k9 : okr 218 165 9 := okd (by decide +kernel)
  have hg0 := hg
  obtain ⟨m0, m6, b0, b1, d0, d1, p0, p1⟩ := hg
  refine c_167 ?_
  repeat' first
    | (with_reducible refine ite_01 ?_)
    | (with_reducible refine ite_00 ?_)
    | (with_reducible refine And.intro ?_ ?_; · first | assumption | decide | (exact AR.i (by assumption) (by omega) (by omega)) | (exact AR.a (by assumption) (by decide) (by decide)) | (exact AR.k (by assumption)) | omega | (have := cmp_gt.mp (by assumption : 0 < cmpL _ 0); omega))
    | (refine ite_c (fun _ => ?_) (fun _ => ?_))
    | (intro _ e1; subst e1)
    | (with_reducible refine s_165 hr (by assumption) (by omega) (by omega) (fun _ => ?_))
    | (with_reducible refine s_166 hr (by assumption) (fun _ => ?_))
    | (exfalso; omega)
    | (exact absurd trivial (by assumption))
    | ((with_reducible refine h _))
theorem s_168 (hr : RI r) (hg : GM g l1) (h : ∀ v, Q v g r) : Ce sc (d + 1) 168 [(2, 165), (0, l1), (0, l2)] g r Q := by
  have k9 : okr 218 165 9 := okd (by decide +kernel)
  have hg0 := hg
  obtain ⟨m0, m6, b0, b1, d0, d1, p0, p1⟩ := hg
  refine c_168 ?_
  repeat' first
    | (with_reducible refine ite_01 ?_)
    | (with_reducible refine ite_00 ?_)
    | (with_reducible refine And.intro ?_ ?_; · first | assumption | decide | (exact AR.i (by assumption) (by omega) (by omega)) | (exact AR.a (by assumption) (by decide) (by decide)) | (exact AR.k (by assumption)) | omega | (have := cmp_gt.mp (by assumption : 0 < cmpL _ 0); omega) | (exact i_169.mpr ⟨by omega, by omega⟩))
    | (simp only [r_165_3 hr])
    | (refine ite_c (fun _ => ?_) (fun _ => ?_))
    | (intro _ e1; subst e1)
    | (exfalso; omega)
    | (exact absurd trivial (by assumption))
    | ((with_reducible refine h _))
theorem s_169 (hr : RI r) (hg : GM g l1) (h : ∀ v, Q v g r) : Ce sc (d + 2) 169 [(2, 165), (0, l1), (0, l2), (0, l3)] g r Q := by
  have k9 : okr 218 165 9 := okd (by decide +kernel)
  have hg0 := hg
  obtain ⟨m0, m6, b0, b1, d0, d1, p0, p1⟩ := hg
  refine c_169 ?_
  repeat' first
    | (with_reducible refine ite_01 ?_)
    | (with_reducible refine ite_00 ?_)
    | (with_reducible refine And.intro ?_ ?_; · first | assumption | decide | (exact AR.i (by assumption) (by omega) (by omega)) | (exact AR.a (by assumption) (by decide) (by decide)) | (exact AR.k (by assumption)) | omega | (have := cmp_gt.mp (by assumption : 0 < cmpL _ 0); omega) | (exact i_173.mpr ⟨by omega, by omega⟩))
    | (simp only [r_165_7 hr])
    | (refine ite_c (fun _ => ?_) (fun _ => ?_))
    | (intro _ e1; subst e1)
    | (with_reducible refine s_164 hr (by assumption) (fun _ => ?_))
    | (with_reducible refine s_168 hr (by assumption) (fun _ => ?_))
    | (exfalso; omega)
    | (exact absurd trivial (by assumption))
    | ((with_reducible refine h _))
theorem s_170 (hr : RI r) (hg : GM g l1) (h : Q (plcV g l1 l2) g r) : Ce sc (d + 1) 170 [(2, 165), (0, l1), (0, l2)] g r Q := by
  have k9 : okr 218 165 9 := okd (by decide +kernel)
  have hg0 := hg
  obtain ⟨m0, m6, b0, b1, d0, d1, p0, p1⟩ := hg
  refine c_170 ?_
  repeat' first
    | (with_reducible refine ite_01 ?_)
    | (with_reducible refine ite_00 ?_)
    | (with_reducible refine And.intro ?_ ?_; · first | assumption | decide | (exact AR.i (by assumption) (by omega) (by omega)) | (exact AR.a (by assumption) (by decide) (by decide)) | (exact AR.k (by assumption)) | omega | (have := cmp_gt.mp (by assumption : 0 < cmpL _ 0); omega) | (exact i_171.mpr ⟨by omega, by omega⟩) | (exact i_174.mpr ⟨by omega, by omega⟩))
    | (simp only [r_165_5 hr, r_165_8 hr])
    | (refine ite_c (fun _ => ?_) (fun _ => ?_))
    | (intro _ e1; subst e1)
    | (exfalso; omega)
    | (exact absurd trivial (by assumption))
    | ((first | exact h))
theorem s_171 (hr : RI r) (hg : GM g l1) (h : ∀ p, 0 ≤ p → p ≤ 40 → (∀ k, 0 ≤ k → k < p → plcV g l1 k < 180) → Q p g r) : Ce sc (d + 2) 171 [(2, 165), (0, l1)] g r Q := by
  have loop : ∀ l2 : Int, -2147483648 ≤ l2 → 0 ≤ l2 → l2 ≤ 40 → (∀ k, 0 ≤ k → k < l2 → plcV g l1 k < 180) → WQ sc (d + 1) 171 Q 2 [(2, 165), (0, l1), (0, l2)] [] g r := by
    refine upW 41 (by decide) fun l2 _ ih h0 h40 hk => ?_
    refine b_171_2 ⟨okd (by decide +kernel), s_170 hr hg (ite_c (fun q => ?_) (fun _ => h _ h0 h40 hk))⟩
    have : l2 < 40 := by
      by_cases z : l2 < 40
      · exact z
      · have := plcV_40 hg (k := l2) (by omega) (by omega)
        omega
    have hw : wr (l2 + 1) = l2 + 1 := wr_id ⟨by omega, by omega⟩
    rw [hw] at ih ⊢
    refine ih (by omega) (by omega) (by omega) (fun k k0 k1 => ?_)
    by_cases z : k = l2
    · rw [z]; exact q
    · exact hk k k0 (by omega)
  exact c_171 (loop 0 (by decide) (by decide) (by decide) (fun k k0 k1 => absurd k1 (by omega)))
theorem s_172 (hr : RI r) (hg : GM g l1) (t1 : 1 ≤ l3) (t2 : l3 ≤ 300) (t3 : l4 ≤ 99) (h : ∀ v, Q v g r) : Ce sc (d + 3) 172 [(2, 165), (0, l1), (0, l2), (0, l3), (0, l4)] g r Q := by
  have k9 : okr 218 165 9 := okd (by decide +kernel)
  have hg0 := hg
  obtain ⟨m0, m6, b0, b1, d0, d1, p0, p1⟩ := hg
  have loop : ∀ l6 : Int, -2147483648 ≤ l6 → 0 ≤ l6 → ∀ l5 : Int, WQ sc (d + 2) 172 Q 12 [(2, 165), (0, l1), (9, 0), (0, l3), (0, l4), (0, l5), (0, l6), (9, 0)] [] g r := by
    refine upW 100 (by decide) fun l6 _ ih h0 l5 => ?_
    refine b_172_12 ?_
    repeat' first
      | (with_reducible refine ite_01 ?_)
      | (with_reducible refine ite_00 ?_)
      | (with_reducible refine And.intro ?_ ?_; · first | assumption | decide | (exact AR.i (by assumption) (by omega) (by omega)) | (exact AR.a (by assumption) (by decide) (by decide)) | (exact AR.k (by assumption)) | omega | (have := cmp_gt.mp (by assumption : 0 < cmpL _ 0); omega))
      | (refine ite_c (fun _ => ?_) (fun _ => ?_))
      | (intro _ e1; subst e1)
      | (with_reducible refine s_167 hr (by assumption) (by omega) (by omega) (fun _ => ?_))
      | (with_reducible refine s_169 hr (by assumption) (fun _ => ?_))
      | (with_reducible refine s_170 hr (by assumption) ?_)
      | (exfalso; omega)
      | (exact absurd trivial (by assumption))
      | ((with_reducible refine ih ?_ ?_ _) <;> (first | ((repeat (with_reducible first | assumption | exact ME.rf _ | (refine ME.u ?_ (mw_of (by decide +kernel)) (by decide)) | (refine ME.u ?_ (by unfold MW; omega) (by decide)) | (refine ME.tr ?_ (by assumption)))); done) | omega | decide | (rw [wr_id ⟨by omega, by omega⟩]; omega)))
      | ((with_reducible refine h _))
  refine c_172 ?_
  repeat' first
    | (with_reducible refine ite_01 ?_)
    | (with_reducible refine ite_00 ?_)
    | (with_reducible refine And.intro ?_ ?_; · first | assumption | decide | (exact AR.i (by assumption) (by omega) (by omega)) | (exact AR.a (by assumption) (by decide) (by decide)) | (exact AR.k (by assumption)) | omega | (have := cmp_gt.mp (by assumption : 0 < cmpL _ 0); omega))
    | (refine ite_c (fun _ => ?_) (fun _ => ?_))
    | (intro _ e1; subst e1)
    | (with_reducible refine s_167 hr (by assumption) (by omega) (by omega) (fun _ => ?_))
    | (with_reducible refine s_169 hr (by assumption) (fun _ => ?_))
    | (with_reducible refine s_170 hr (by assumption) ?_)
    | (exfalso; omega)
    | (exact absurd trivial (by assumption))
    | ((with_reducible refine loop _ ?_ ?_ _) <;> (first | ((repeat (with_reducible first | assumption | exact ME.rf _ | (refine ME.u ?_ (mw_of (by decide +kernel)) (by decide)) | (refine ME.u ?_ (by unfold MW; omega) (by decide)) | (refine ME.tr ?_ (by assumption)))); done) | omega | decide | (rw [wr_id ⟨by omega, by omega⟩]; omega)))
theorem s_173 (hr : RI r) (hg : GM g l1) (t1 : 1 ≤ l3) (t2 : l3 ≤ 300) (h : ∀ v, Q v g r) : Ce sc (d + 3) 173 [(2, 165), (0, l1), (0, l2), (0, l3), (0, l4)] g r Q := by
  have k9 : okr 218 165 9 := okd (by decide +kernel)
  have hg0 := hg
  obtain ⟨m0, m6, b0, b1, d0, d1, p0, p1⟩ := hg
  have loop : ∀ p : Int, 0 ≤ p → p ≤ 40 → (∀ k, 0 ≤ k → k < p → plcV g l1 k < 180) → ∀ l9 : Int, -2147483648 ≤ l9 → 0 ≤ l9 → ∀ l5 l8 : Int, WQ sc (d + 2) 173 Q 22 [(2, 165), (0, l1), (9, 0), (0, l3), (0, l4), (1, l5), (8, 0), (0, p), (0, l8), (0, l9), (9, 0), (9, 0)] [] g r := by
    intro p u0 u1 hp
    refine upW 40 (by decide) fun l9 _ ih h0 l5 l8 => ?_
    have mid : l9 < p → ∀ l10 t0 : Int, 0 ≤ l10 → l10 < 180 → WQ sc (d + 2) 173 Q 62 [(2, 165), (0, l1), (9, 0), (0, l3), (0, l4), (1, l5), (8, 0), (0, p), (9, 0), (0, l9), (0, l10), (9, 0)] [(0, t0)] g r := by
      intro h9 l10 t0 x0 x1
      have hw : wr (l9 + 1) = l9 + 1 := wr_id ⟨by omega, by omega⟩
      rw [hw] at ih
      refine b_173_62 ?_
      rw [hw]
      have hz : l9 + 1 < p → 0 ≤ plcV g l1 (l9 + 1) ∧ plcV g l1 (l9 + 1) ≤ 180 := fun z => ⟨plcV_0 hg0 (by omega) (by omega), by have := hp (l9 + 1) (by omega) z; omega⟩
      refine ite_c (fun _ => w_162 (by omega) (by omega) (ite_c (fun z => ⟨k9, s_170 hr hg0 (w_162 (hz z).1 (hz z).2 (ih (by omega) (by omega) _ _))⟩) (fun _ => w_162 (by decide) (by decide) (ih (by omega) (by omega) _ _)))) (fun _ => w_161 (by omega) (by omega) (ih (by omega) (by omega) _ _))
    refine b_173_22 (ite_c (fun q => ⟨k9, s_170 hr hg0 ⟨k9, s_169 hr hg0 (fun v => ite_c (fun _ => mid q _ _ (plcV_0 hg0 h0 (by omega)) (hp _ h0 q)) (fun _ => mid q _ _ (plcV_0 hg0 h0 (by omega)) (hp _ h0 q)))⟩⟩) (fun _ => h _))
  exact c_173 ⟨k9, s_171 hr hg0 (fun p u0 u1 hp => ⟨k9, s_167 hr hg0 t1 t2 (fun v => loop p u0 u1 hp 0 (by decide) (by decide) _ _)⟩)⟩
theorem s_174 (hr : RI r) (hg : GM g l1) (t1 : 1 ≤ l3) (t2 : l3 ≤ 300) (h : ∀ v, Q v g r) : Ce sc (d + 4) 174 [(2, 165), (0, l1), (0, l2), (0, l3)] g r Q := by
  have k9 : okr 218 165 9 := okd (by decide +kernel)
  have hg0 := hg
  obtain ⟨m0, m6, b0, b1, d0, d1, p0, p1⟩ := hg
  refine c_174 ?_
  repeat' first
    | (with_reducible refine ite_01 ?_)
    | (with_reducible refine ite_00 ?_)
    | (with_reducible refine And.intro ?_ ?_; · first | assumption | decide | (exact AR.i (by assumption) (by omega) (by omega)) | (exact AR.a (by assumption) (by decide) (by decide)) | (exact AR.k (by assumption)) | omega | (have := cmp_gt.mp (by assumption : 0 < cmpL _ 0); omega) | (exact i_169.mpr ⟨by omega, by omega⟩))
    | (simp only [r_165_3 hr])
    | (refine ite_c (fun _ => ?_) (fun _ => ?_))
    | (intro _ e1; subst e1)
    | (with_reducible refine s_173 hr (by assumption) (by omega) (by omega) (fun _ => ?_))
    | (exfalso; omega)
    | (exact absurd trivial (by assumption))
    | ((with_reducible refine h _))
theorem s_175 (hl : l0 ≤ 4608000) (h : ∀ v, 0 ≤ v → v ≤ 2200 → Q v g r) : Ce sc (d + 1) 175 [(0, l0)] g r Q := by
  have loop : ∀ l1 : Int, -2147483648 ≤ l1 → 0 ≤ l1 → l1 ≤ 2200 → WQ sc d 175 Q 2 [(0, l0), (0, l1)] [] g r := by
    refine upW 2200 (by decide) fun l1 _ ih h0 h22 => ?_
    have hw : wr (l1 + 1) = l1 + 1 := wr_id ⟨by omega, by omega⟩
    refine b_175_2 ?_
    rw [hw] at ih ⊢
    refine ite_c (fun _ => h _ h0 h22) (fun q => ?_)
    by_cases z : l1 < 2200
    · exact ih z (by omega) (by omega)
    · exfalso
      apply q
      have e : l1 = 2200 := by omega
      rw [e, show wr ((2200 + 1) * (2200 + 1)) = 4844401 by decide]
      omega
  exact c_175 (loop 0 (by decide) (by decide) (by decide))
theorem s_176 (hr : RI r) (hg : GM g l1) (t1 : 1 ≤ l3) (t2 : l3 ≤ 300) (t3 : 0 ≤ l4) (t4 : l4 ≤ 240) (h : ∀ v, Q v g r) : Ce sc (d + 5) 176 [(2, 165), (0, l1), (0, l2), (0, l3), (0, l4)] g r Q := by
  have k9 : okr 218 165 9 := okd (by decide +kernel)
  have hg0 := hg
  obtain ⟨m0, m6, b0, b1, d0, d1, p0, p1⟩ := hg
  have hh : wr (19200 * l4) ≤ 4608000 := by rw [wr_id ⟨by omega, by omega⟩]; omega
  refine c_176 ?_
  repeat' first
    | (with_reducible refine ite_01 ?_)
    | (with_reducible refine ite_00 ?_)
    | (with_reducible refine And.intro ?_ ?_; · first | assumption | decide | (exact AR.i (by assumption) (by omega) (by omega)) | (exact AR.a (by assumption) (by decide) (by decide)) | (exact AR.k (by assumption)) | omega | (have := cmp_gt.mp (by assumption : 0 < cmpL _ 0); omega) | (exact Or.inr (i_168.mpr ⟨by omega, by omega⟩)) | (exact i_168.mpr ⟨by omega, by omega⟩) | (exact i_169.mpr ⟨by omega, by omega⟩) | (exact i_171.mpr ⟨by omega, by omega⟩))
    | (simp only [r_165_2 hr, r_165_3 hr, r_165_5 hr])
    | (refine ite_c (fun _ => ?_) (fun _ => ?_))
    | (intro _ e1; subst e1)
    | (with_reducible refine s_174 hr (by assumption) (by omega) (by omega) (fun _ => ?_))
    | (with_reducible refine s_175 (by omega) (fun _ _ _ => ?_))
    | (exfalso; omega)
    | (exact absurd trivial (by assumption))
    | ((with_reducible refine h _))
theorem s_177 (hr : RI r) (hg : GM g l1) (t1 : 1 ≤ l3) (t2 : l3 ≤ 300) (t3 : 0 ≤ l4) (t4 : l4 ≤ 240) (h : ∀ v, Q v g r) : Ce sc (d + 6) 177 [(2, 165), (0, l1), (0, l2), (0, l3), (0, l4), (0, l5)] g r Q := by
  have k9 : okr 218 165 9 := okd (by decide +kernel)
  have hg0 := hg
  obtain ⟨m0, m6, b0, b1, d0, d1, p0, p1⟩ := hg
  refine c_177 ?_
  repeat' first
    | (with_reducible refine ite_01 ?_)
    | (with_reducible refine ite_00 ?_)
    | (with_reducible refine And.intro ?_ ?_; · first | assumption | decide | (exact AR.i (by assumption) (by omega) (by omega)) | (exact AR.a (by assumption) (by decide) (by decide)) | (exact AR.k (by assumption)) | omega | (have := cmp_gt.mp (by assumption : 0 < cmpL _ 0); omega) | (exact i_170.mpr ⟨by omega, by omega⟩) | (exact i_178.mpr ⟨by omega, by omega⟩))
    | (simp only [r_165_4 hr, r_165_12 hr])
    | (refine ite_c (fun _ => ?_) (fun _ => ?_))
    | (intro _ e1; subst e1)
    | (with_reducible refine s_176 hr (by assumption) (by omega) (by omega) (by omega) (by omega) (fun _ => ?_))
    | (exfalso; omega)
    | (exact absurd trivial (by assumption))
    | ((with_reducible refine h _))
theorem s_177L (hr : RI r) (hg : GM g l1) (t1 : 1 ≤ l3) (t2 : l3 ≤ 300) (t3 : 0 ≤ l4) (t4 : l4 ≤ 240) (h : ∀ v, rL v → Q v g r) : Ce sc (d + 6) 177 [(2, 165), (0, l1), (0, l2), (0, l3), (0, l4), (0, l5)] g r Q := by
  have k9 : okr 218 165 9 := okd (by decide +kernel)
  have hg0 := hg
  obtain ⟨m0, m6, b0, b1, d0, d1, p0, p1⟩ := hg
  refine c_177 ?_
  repeat' first
    | (with_reducible refine ite_01 ?_)
    | (with_reducible refine ite_00 ?_)
    | (with_reducible refine And.intro ?_ ?_; · first | assumption | decide | (exact AR.i (by assumption) (by omega) (by omega)) | (exact AR.a (by assumption) (by decide) (by decide)) | (exact AR.k (by assumption)) | omega | (have := cmp_gt.mp (by assumption : 0 < cmpL _ 0); omega) | (exact i_170.mpr ⟨by omega, by omega⟩) | (exact i_178.mpr ⟨by omega, by omega⟩))
    | (simp only [r_165_4 hr, r_165_12 hr])
    | (refine ite_c (fun _ => ?_) (fun _ => ?_))
    | (intro _ e1; subst e1)
    | (with_reducible refine s_176 hr (by assumption) (by omega) (by omega) (by omega) (by omega) (fun _ => ?_))
    | (exfalso; omega)
    | (exact absurd trivial (by assumption))
    | ((first | ((with_reducible refine h _ ?_); exact wL_rng _) | ((with_reducible refine h _ ?_); exact rL0)))
end MPL
