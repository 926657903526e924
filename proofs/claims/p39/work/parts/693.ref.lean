/-! the reference's methods without hours, last; printed by a program (wip/gen/gen_m4.py) -/
section MPO
variable {sc : SCR} {d : Nat} {Q : QJ} {g r : GH} {l0 l1 l2 l3 l4 l5 l6 l7 l8 l9 l10 l11 l12 l13 l14 l15 l16 t0 : Int}
theorem s_191 (hr : RI r) (hi : MI g) (h : ∀ v g', ME g g' → Q v g' r) : Ce sc (d + 6) 191 [(2, 165), (0, l1), (0, l2), (0, l3), (0, l4)] g r Q := by
  have k9 : okr 218 165 9 := okd (by decide +kernel)
  have tail : ∀ g5, ME g g5 → GM g5 6 → 0 ≤ l1 → l1 < 6 → 1 ≤ g 177 l1 → g 177 l1 ≤ 300 → okr 218 165 9 ∧ okI 218 169 11 6 ∧ okI 218 169 11 6 ∧ ∀ g6, g6 = up g5 169 6 (wr ((g5 169 6) * l2)) → okr 218 165 9 ∧ okI 218 170 11 6 ∧ okI 218 170 11 6 ∧ ∀ g7, g7 = up g6 170 6 (wr ((g6 170 6) * l2)) → okr 218 165 9 ∧ okI 218 172 11 6 ∧ okI 218 172 11 6 ∧ ∀ g8, g8 = up g7 172 6 (wr ((g7 172 6) * l2)) → (if 0 < (cmpL (wL ((wL ((wL (l2 * l2)) * l2)) * l3)) 99999) then okr 218 165 9 ∧ okI 218 177 11 l1 ∧ okr 218 165 9 ∧ Ce sc (d + 5) 176 [(2, 165), (0, 6), (0, 99999), (0, g8 177 l1), (0, 0)] g8 r fun v6 g9 r6 => Q v6 g9 r6 else okr 218 165 9 ∧ okI 218 177 11 l1 ∧ okr 218 165 9 ∧ Ce sc (d + 5) 176 [(2, 165), (0, 6), (0, wr (wL ((wL ((wL (l2 * l2)) * l2)) * l3))), (0, g8 177 l1), (0, 0)] g8 r fun v6 g9 r6 => Q v6 g9 r6) := by
    intro g5 e5 h5 m0 m6 p0 p1
    refine ⟨k9, i_169.mpr ⟨by decide, by decide⟩, i_169.mpr ⟨by decide, by decide⟩, fun g6 e6 => ⟨k9, i_170.mpr ⟨by decide, by decide⟩, i_170.mpr ⟨by decide, by decide⟩, fun g7 e7 => ⟨k9, i_172.mpr ⟨by decide, by decide⟩, i_172.mpr ⟨by decide, by decide⟩, fun g8 e8 => ?_⟩⟩⟩
    have e0 : ME g g8 := by
      rw [e8, e7, e6]
      exact ((e5.u (mw_of (by decide +kernel)) (by decide)).u (mw_of (by decide +kernel)) (by decide)).u (mw_of (by decide +kernel)) (by decide)
    have hp : g8 177 l1 = g 177 l1 := e0.1 177 l1 (by unfold MV; omega)
    have h8 : GM g8 6 := by
      unfold GM at h5 ⊢
      rw [e8, up_i (by decide), up_i (by decide), up_i (by decide), e7, up_i (by decide), up_i (by decide), up_i (by decide), e6, up_i (by decide), up_i (by decide), up_i (by decide)]
      exact h5
    rw [hp]
    exact ite_c (fun _ => ⟨k9, i_177.mpr ⟨m0, by omega⟩, k9, s_176 hr h8 p0 p1 (by decide) (by decide) (fun v => h _ _ e0)⟩) (fun _ => ⟨k9, i_177.mpr ⟨m0, by omega⟩, k9, s_176 hr h8 p0 p1 (by decide) (by decide) (fun v => h _ _ e0)⟩)
  refine c_191 ?_
  repeat' first
    | (with_reducible refine ite_01 ?_)
    | (with_reducible refine ite_00 ?_)
    | (with_reducible refine And.intro ?_ ?_; · first | assumption | decide | (exact AR.i (by assumption) (by omega) (by omega)) | (exact AR.a (by assumption) (by decide) (by decide)) | (exact AR.k (by assumption)) | omega | (have := cmp_gt.mp (by assumption : 0 < cmpL _ 0); omega) | (exact i_169.mpr ⟨by omega, by omega⟩) | (exact i_170.mpr ⟨by omega, by omega⟩) | (exact i_172.mpr ⟨by omega, by omega⟩) | (exact i_177.mpr ⟨by omega, by omega⟩))
    | (simp only [r_165_3 hr, r_165_4 hr, r_165_6 hr, r_165_11 hr])
    | (refine ite_c (fun _ => ?_) (fun _ => ?_))
    | (intro _ e1; subst e1)
    | (with_reducible refine w_137 (fun _ _ => ?_) (fun _ => ?_))
    | (with_reducible refine s_176 hr (by assumption) (by omega) (by omega) (by decide) (by decide) (fun _ => ?_))
    | (with_reducible refine w_178 (fun _ _ => ?_) (fun _ => ?_))
    | (with_reducible refine s_179 hr hi (fun _ _ _ _ _ _ _ _ _ => ?_) ?_)
    | (exfalso; omega)
    | (exact absurd trivial (by assumption))
    | ((first | ((with_reducible refine s_141 hr hi (by assumption) (fun _ g5 e5 h5 => ?_)); rw [r_165_3 hr, r_165_4 hr, r_165_6 hr, r_165_11 hr]; exact tail g5 e5 h5 (by omega) (by omega) (by omega) (by omega))))
    | ((first | ((with_reducible refine h _ _ ?_); ((repeat (with_reducible first | assumption | exact ME.rf _ | (refine ME.u ?_ (mw_of (by decide +kernel)) (by decide)) | (refine ME.ub ?_ (mw_of (by decide +kernel)) (by decide) (by first | decide | assumption)) | (refine ME.u ?_ (by unfold MW MV; omega) (by decide)) | (refine ME.ub ?_ (by unfold MW MV; omega) (by decide) (by first | decide | assumption)) | (refine ME.tr ?_ (by assumption)))); done))))
theorem s_192 (hr : RI r) (hb : MB g) (a0 : 0 ≤ l1) (a3 : l1 ≤ 3) (b0 : 0 ≤ l2) (b4 : l2 ≤ 4) (h : ∀ v g', ME g g' → Q v g' r) : Ce sc (d + 1) 192 [(2, 165), (0, l1), (0, l2)] g r Q := by
  have k9 : okr 218 165 9 := okd (by decide +kernel)
  have w4 : ∀ a b : Int, 0 ≤ a → a ≤ 4 → 0 ≤ b → b < 40 → wr (wr (40 * a) + b) = 40 * a + b := fun a b x y z t => by rw [wr_id (x := 40 * a) ⟨by omega, by omega⟩, wr_id ⟨by omega, by omega⟩]
  have w6 : ∀ a b : Int, 0 ≤ a → a ≤ 4 → 0 ≤ b → b < 6 → wr (wr (6 * a) + b) = 6 * a + b := fun a b x y z t => by rw [wr_id (x := 6 * a) ⟨by omega, by omega⟩, wr_id ⟨by omega, by omega⟩]
  have two : ∀ l3 : Int, -2147483648 ≤ l3 → 0 ≤ l3 → ∀ g1, ME g g1 → WQ sc d 192 Q 60 [(2, 165), (0, l1), (0, l2), (0, l3)] [] g1 r := by
    refine upW 6 (by decide) fun l3 _ ih h0 g1 e0 => ?_
    refine b_192_60 ?_
    rw [r_165_38 hr, r_165_39 hr, r_165_44 hr, r_165_40 hr, r_165_41 hr, r_165_45 hr, r_165_46 hr, r_165_42 hr]
    refine ite_c (fun q => ?_) (fun q => ?_)
    · rw [w6 l1 l3 a0 (by omega) h0 q, w6 l2 l3 b0 b4 h0 q]
      refine ⟨k9, k9, i_193.mpr ⟨by omega, by omega⟩, i_193.mpr ⟨by omega, by omega⟩, fun g2 e2 => ⟨k9, k9, i_194.mpr ⟨by omega, by omega⟩, i_194.mpr ⟨by omega, by omega⟩, fun g3 e3 => ⟨k9, k9, i_199.mpr ⟨by omega, by omega⟩, i_199.mpr ⟨by omega, by omega⟩, fun g4 e4 => ⟨k9, k9, i_195.mpr ⟨by omega, by omega⟩, i_195.mpr ⟨by omega, by omega⟩, fun g5 e5 => ⟨k9, k9, i_196.mpr ⟨by omega, by omega⟩, i_196.mpr ⟨by omega, by omega⟩, fun g6 e6 => ih q (by rw [wr_id ⟨by omega, by omega⟩]; omega) _ ?_⟩⟩⟩⟩⟩
      rw [e6, e5, e4, e3, e2]
      exact ((((e0.u (by unfold MW MV; omega) (by decide)).u (by unfold MW MV; omega) (by decide)).u (by unfold MW MV; omega) (by decide)).u (by unfold MW MV; omega) (by decide)).u (by unfold MW MV; omega) (by decide)
    · refine ⟨k9, k9, i_200.mpr ⟨by omega, by omega⟩, i_200.mpr ⟨by omega, by omega⟩, fun g2 e2 => ⟨k9, k9, i_201.mpr ⟨by omega, by omega⟩, i_201.mpr ⟨by omega, by omega⟩, fun g3 e3 => ⟨k9, k9, i_197.mpr ⟨by omega, by omega⟩, i_197.mpr ⟨by omega, by omega⟩, fun g4 e4 => h _ _ ?_⟩⟩⟩
      have e03 : ME g g3 := by
        rw [e3, e2]
        exact (e0.u (by unfold MW MV; omega) (by decide)).u (by unfold MW MV; omega) (by decide)
      rw [e4]
      exact e03.u7 (Or.inl (mb_197 hb e03 a0 (by omega)))
  have one : ∀ l3 : Int, -2147483648 ≤ l3 → 0 ≤ l3 → ∀ g1, ME g g1 → WQ sc d 192 Q 2 [(2, 165), (0, l1), (0, l2), (0, l3)] [] g1 r := by
    refine upW 40 (by decide) fun l3 _ ih h0 g1 e0 => ?_
    refine b_192_2 ?_
    rw [r_165_37 hr, r_165_43 hr]
    refine ite_c (fun q => ?_) (fun q => two 0 (by decide) (by decide) _ e0)
    rw [w4 l1 l3 a0 (by omega) h0 q, w4 l2 l3 b0 b4 h0 q]
    refine ⟨k9, k9, i_192.mpr ⟨by omega, by omega⟩, i_192.mpr ⟨by omega, by omega⟩, fun g2 e2 => ⟨k9, k9, Or.inr (i_198.mpr ⟨by omega, by omega⟩), Or.inr ⟨i_198.mpr ⟨by omega, by omega⟩, ?_⟩, fun g3 e3 => ih q (by rw [wr_id ⟨by omega, by omega⟩]; omega) _ ?_⟩⟩
    all_goals
      have e02 : ME g g2 := by
        rw [e2]
        exact e0.u (by unfold MW MV; omega) (by decide)
    · exact mb_198 hb e02 _
    · rw [e3]
      exact e02.ub (by unfold MW MV; omega) (by decide) (mb_198 hb e02 _)
  exact c_192 (one 0 (by decide) (by decide) g (ME.rf g))
theorem s_244 (hr : RI r) (hi : MI g) (h : ∀ v g', MI g' → RK g g' → Q v g' r) : Ce sc (d + 2) 244 [(2, 165)] g r Q := by
  have k9 : okr 218 165 9 := okd (by decide +kernel)
  have c := hi.1.2.1
  refine c_244 ⟨k9, ite_c (fun _ => ⟨k9, s_138 hr (by decide) (by decide) (fun g' e => h _ _ (hi.me e) e.rk)⟩) (fun q => ?_)⟩
  refine ⟨k9, k9, fun g1 e1 => ?_⟩
  rw [wr_id ⟨by omega, by omega⟩] at e1
  have e0 : MX g g1 := by rw [e1]; exact (MX.rf g).u (by omega) (by decide)
  have h1 : MI g1 := mi_num hi e0.1 e0.2 (by rw [e1]; exact mn_up hi.1 (by omega))
  have f1 : g1 165 48 = g 165 48 + 1 := by rw [e1, up_s]
  have rk1 : RK g g1 := by
    rw [e1]
    exact ⟨fun i j hi => up_o (by omega), up_j (by decide), up_j (by decide), up_j (by decide), up_j (by decide), fun j => up_i (by decide)⟩
  rw [f1]
  refine ⟨k9, k9, s_192 hr h1.2.1 (by decide) (by decide) (by omega) (by omega) (fun v g2 e2 => ?_)⟩
  have f2 : g2 165 48 = g 165 48 + 1 := (e2.1 165 48 (by unfold MV; omega)).trans f1
  rw [f2, r_165_47 hr]
  refine ⟨k9, k9, k9, i_202.mpr ⟨by omega, by omega⟩, fun g3 e3 => ⟨k9, h _ _ ?_ ?_⟩⟩
  all_goals have e23 : ME g1 g3 := by rw [e3]; exact e2.u (by unfold MW MV; omega) (by decide)
  · exact h1.me e23
  · have k := e23.rk
    exact ⟨fun i j hi => (k.1 i j hi).trans (rk1.1 i j hi), k.2.1.trans rk1.2.1, k.2.2.1.trans rk1.2.2.1, k.2.2.2.1.trans rk1.2.2.2.1, k.2.2.2.2.1.trans rk1.2.2.2.2.1, fun j => (k.2.2.2.2.2 j).trans (rk1.2.2.2.2.2 j)⟩
theorem s_245 (hr : RI r) (hi : MI g) (h : ∀ v g', (v = 0 ∨ v = 1) → ME g g' → Q v g' r) : Ce sc (d + 2) 245 [(2, 165), (0, l1)] g r Q := by
  have k9 : okr 218 165 9 := okd (by decide +kernel)
  have c := hi.1.2.1
  have hw : wr (g 165 48 - 1) = g 165 48 - 1 := wr_id ⟨by omega, by omega⟩
  refine c_245 ?_
  rw [hw]
  refine ⟨k9, w_137 (fun q1 q2 => ?_) (fun _ => ?_)⟩
  · rw [if_neg (by decide)]
    have hw1 : wr (l1 + 1) = l1 + 1 := wr_id ⟨by omega, by omega⟩
    rw [hw1]
    refine ⟨k9, s_192 hr hi.2.1 (by omega) (by omega) (by decide) (by decide) (fun v g2 e2 => ?_)⟩
    rw [r_165_47 hr]
    exact ⟨k9, i_202.mpr ⟨by omega, by omega⟩, k9, fun g3 e3 => ⟨Or.inr rfl, h _ _ (Or.inr rfl) (by rw [e3]; exact e2.u (by unfold MW MV; omega) (by decide))⟩⟩
  · rw [if_pos rfl]
    exact ⟨k9, s_139 hr (fun g' e => ⟨Or.inl rfl, h _ _ (Or.inl rfl) e⟩)⟩
theorem s_246 (hr : RI r) (hi : MI g) (h : ∀ v, Q v g r) : Ce sc (d + 2) 246 [(2, 165), (0, l1)] g r Q := by
  have k9 : okr 218 165 9 := okd (by decide +kernel)
  refine c_246 ?_
  repeat' first
    | (with_reducible refine ite_01 ?_)
    | (with_reducible refine ite_00 ?_)
    | (with_reducible refine And.intro ?_ ?_; · first | assumption | decide | (exact AR.i (by assumption) (by omega) (by omega)) | (exact AR.a (by assumption) (by decide) (by decide)) | (exact AR.k (by assumption)) | omega | (have := cmp_gt.mp (by assumption : 0 < cmpL _ 0); omega) | (exact i_166.mpr ⟨by omega, by omega⟩) | (exact i_166.mpr (by rw [(by assumption : l1 = 3)]; decide)) | (exact i_166.mpr (by rw [(by assumption : l1 = 4)]; decide)) | (exact i_166.mpr (by rw [(by assumption : l1 = 5)]; decide)))
    | (simp only [r_165_0 hr])
    | (with_reducible refine ⟨by decide, ?_⟩)
    | (refine ite_c (fun _ => ?_) (fun _ => ?_))
    | (intro _ e1; subst e1)
    | (with_reducible refine s_206 hr ?_)
    | (exfalso; omega)
    | (exact absurd trivial (by assumption))
    | ((with_reducible refine h _))
theorem s_160 (hr : RI r) (h : ∀ v, Q v g r) : Ce sc (d + 1) 160 [(2, 165)] g r Q := by
  have k9 : okr 218 165 9 := okd (by decide +kernel)
  refine c_160 ?_
  repeat' first
    | (with_reducible refine ite_01 ?_)
    | (with_reducible refine ite_00 ?_)
    | (with_reducible refine And.intro ?_ ?_; · first | assumption | decide | (exact AR.i (by assumption) (by omega) (by omega)) | (exact AR.a (by assumption) (by decide) (by decide)) | (exact AR.k (by assumption)) | omega | (have := cmp_gt.mp (by assumption : 0 < cmpL _ 0); omega))
    | (refine ite_c (fun _ => ?_) (fun _ => ?_))
    | (intro _ e1; subst e1)
    | (exfalso; omega)
    | (exact absurd trivial (by assumption))
    | ((with_reducible refine h _))
theorem s_233 (hr : RI r) (hi : MI g) (h : ∀ v, Q v g r) : Ce sc (d + 7) 233 [(2, 165), (0, l1), (0, l2), (0, l3), (0, l4), (0, l5)] g r Q := by
  have k9 : okr 218 165 9 := okd (by decide +kernel)
  have e164 : GM g l1 → 1 ≤ g 177 l1 → g 177 l1 ≤ 300 → ∀ l6 l7 : Int, WQ sc (d + 6) 233 Q 164 [(2, 165), (0, l1), (9, 0), (9, 0), (0, l4), (0, l5), (0, l6), (0, l7), (9, 0), (9, 0)] [] g r := by
    intro hg p0 p1 l6 l7
    have m0 := hg.1
    have m6 := hg.2.1
    refine b_233_164 ?_
    repeat' first
      | (with_reducible refine ite_01 ?_)
      | (with_reducible refine ite_00 ?_)
      | (with_reducible refine And.intro ?_ ?_; · first | assumption | decide | (exact AR.i (by assumption) (by omega) (by omega)) | (exact AR.a (by assumption) (by decide) (by decide)) | (exact AR.k (by assumption)) | omega | (have := cmp_gt.mp (by assumption : 0 < cmpL _ 0); omega) | (exact i_175.mpr ⟨by omega, by omega⟩) | (exact i_177.mpr ⟨by omega, by omega⟩))
      | (simp only [r_165_9 hr, r_165_11 hr])
      | (refine ite_c (fun _ => ?_) (fun _ => ?_))
      | (intro _ e1; subst e1)
      | (with_reducible refine w_137 (fun _ _ => ?_) (fun _ => ?_))
      | (with_reducible refine s_140 hr hi (fun _ _ _ _ _ _ _ _ _ => ?_) ?_)
      | (with_reducible refine s_177 hr (by assumption) (by omega) (by omega) (by omega) (by omega) (fun _ => ?_))
      | (with_reducible refine w_178 (fun _ _ => ?_) (fun _ => ?_))
      | (exfalso; omega)
      | (exact absurd trivial (by assumption))
      | ((with_reducible refine h _))
  have loop : GM g l1 → 1 ≤ g 177 l1 → g 177 l1 ≤ 300 → ∀ l9 : Int, -2147483648 ≤ l9 → ∀ l6 l7 l8 : Int, WQ sc (d + 6) 233 Q 69 [(2, 165), (0, l1), (0, l2), (0, l3), (0, l4), (0, l5), (0, l6), (0, l7), (0, l8), (0, l9)] [] g r := by
    intro hg p0 p1
    have m0 := hg.1
    have m6 := hg.2.1
    refine upW 24 (by decide) fun l9 _ ih l6 l7 l8 => ?_
    have e115 : l9 < 24 → ∀ (t0 l7 l8 : Int), WQ sc (d + 6) 233 Q 115 [(2, 165), (0, l1), (0, l2), (0, l3), (0, l4), (0, l5), (9, 0), (0, l7), (0, l8), (0, l9)] [(0, t0)] g r := by
      intro q t0 l7 l8
      exact b_233_115 (ite_c (fun _ => ih q _ _ _) (fun _ => ite_c (fun _ => ih q _ _ _) (fun _ => ih q _ _ _)))
    refine b_233_69 ?_
    repeat' first
      | (with_reducible refine ite_01 ?_)
      | (with_reducible refine ite_00 ?_)
      | (with_reducible refine And.intro ?_ ?_; · first | assumption | decide | (exact AR.i (by assumption) (by omega) (by omega)) | (exact AR.a (by assumption) (by decide) (by decide)) | (exact AR.k (by assumption)) | omega | (have := cmp_gt.mp (by assumption : 0 < cmpL _ 0); omega) | (exact i_175.mpr ⟨by omega, by omega⟩) | (exact i_177.mpr ⟨by omega, by omega⟩))
      | (simp only [r_165_9 hr, r_165_11 hr])
      | (refine ite_c (fun _ => ?_) (fun _ => ?_))
      | (intro _ e1; subst e1)
      | (with_reducible refine w_137 (fun _ _ => ?_) (fun _ => ?_))
      | (with_reducible refine s_140 hr hi (fun _ _ _ _ _ _ _ _ _ => ?_) ?_)
      | (with_reducible refine s_177 hr (by assumption) (by omega) (by omega) (by omega) (by omega) (fun _ => ?_))
      | (with_reducible refine w_178 (fun _ _ => ?_) (fun _ => ?_))
      | (exfalso; omega)
      | (exact absurd trivial (by assumption))
      | ((with_reducible refine e115 ?_ _ _ _) <;> (first | ((repeat (with_reducible first | assumption | exact ME.rf _ | (refine ME.u ?_ (mw_of (by decide +kernel)) (by decide)) | (refine ME.ub ?_ (mw_of (by decide +kernel)) (by decide) (by first | decide | assumption)) | (refine ME.u ?_ (by unfold MW MV; omega) (by decide)) | (refine ME.ub ?_ (by unfold MW MV; omega) (by decide) (by first | decide | assumption)) | (refine ME.tr ?_ (by assumption)))); done) | omega | decide | (rw [wr_id ⟨by omega, by omega⟩]; omega)))
      | ((with_reducible refine e164 hg p0 p1 _ _))
      | ((with_reducible refine h _))
  refine c_233 ?_
  repeat' first
    | (with_reducible refine ite_01 ?_)
    | (with_reducible refine ite_00 ?_)
    | (with_reducible refine And.intro ?_ ?_; · first | assumption | decide | (exact AR.i (by assumption) (by omega) (by omega)) | (exact AR.a (by assumption) (by decide) (by decide)) | (exact AR.k (by assumption)) | omega | (have := cmp_gt.mp (by assumption : 0 < cmpL _ 0); omega) | (exact i_175.mpr ⟨by omega, by omega⟩) | (exact i_177.mpr ⟨by omega, by omega⟩))
    | (simp only [r_165_9 hr, r_165_11 hr])
    | (refine ite_c (fun _ => ?_) (fun _ => ?_))
    | (intro _ e1; subst e1)
    | (with_reducible refine w_137 (fun _ _ => ?_) (fun _ => ?_))
    | (with_reducible refine s_140 hr hi (fun _ _ _ _ _ _ _ _ _ => ?_) ?_)
    | (with_reducible refine s_177 hr (by assumption) (by omega) (by omega) (by omega) (by omega) (fun _ => ?_))
    | (with_reducible refine w_178 (fun _ _ => ?_) (fun _ => ?_))
    | (exfalso; omega)
    | (exact absurd trivial (by assumption))
    | ((with_reducible refine loop ?_ ?_ ?_ _ ?_ _ _ _) <;> (first | ((repeat (with_reducible first | assumption | exact ME.rf _ | (refine ME.u ?_ (mw_of (by decide +kernel)) (by decide)) | (refine ME.ub ?_ (mw_of (by decide +kernel)) (by decide) (by first | decide | assumption)) | (refine ME.u ?_ (by unfold MW MV; omega) (by decide)) | (refine ME.ub ?_ (by unfold MW MV; omega) (by decide) (by first | decide | assumption)) | (refine ME.tr ?_ (by assumption)))); done) | omega | decide | (rw [wr_id ⟨by omega, by omega⟩]; omega)))
    | ((with_reducible refine h _))
theorem bal_b {k b : Int} (h0 : 0 ≤ k) (h4 : 4 ≤ b) (h8 : b ≤ 80) : 0 ≤ wr ((wr (360 * (k.tmod b))).tdiv b) ∧ wr ((wr (360 * (k.tmod b))).tdiv b) < 360 := by
  have e : k.tmod b = k % b := Int.tmod_eq_emod_of_nonneg h0
  have a0 : 0 ≤ k % b := Int.emod_nonneg _ (by omega)
  have a1 : k % b < b := Int.emod_lt_of_pos _ (by omega)
  rw [e, wr_id (x := 360 * (k % b)) ⟨by omega, by omega⟩, Int.tdiv_eq_ediv_of_nonneg (by omega)]
  have b0 : 0 ≤ 360 * (k % b) / b := Int.ediv_nonneg (by omega) (by omega)
  have b1 : 360 * (k % b) / b < 360 := Int.ediv_lt_of_lt_mul (by omega) (by omega)
  rw [wr_id ⟨by omega, by omega⟩]
  exact ⟨b0, b1⟩
theorem s_235 (hr : RI r) (hi : MI g) (h : ∀ v, Q v g r) : Ce sc (d + 2) 235 [(2, 165), (0, l1), (0, l2), (0, l3), (0, l4)] g r Q := by
  have k9 : okr 218 165 9 := okd (by decide +kernel)
  have loop : GM g l1 → 4 ≤ g 171 l1 → g 171 l1 ≤ 80 → 0 ≤ l2 → wr (l2 + l3) ≤ 200 → ∀ l7 : Int, -2147483648 ≤ l7 → 0 ≤ l7 → ∀ l5 : Int, WQ sc (d + 1) 235 Q 65 [(2, 165), (0, l1), (0, l2), (0, l3), (0, l4), (1, l5), (8, 0), (0, l7), (9, 0)] [] g r := by
    intro hg b4 b8 z0 z1
    have m0 := hg.1
    have m6 := hg.2.1
    refine upW 200 (by decide) fun l7 _ ih h0 l5 => ?_
    obtain ⟨y0, y1⟩ := bal_b h0 b4 b8
    refine b_235_65 ?_
    rw [r_165_5 hr, r_165_3 hr]
    refine ite_c (fun q => ?_) (fun q => ?_)
    · have hi' := i_171.mpr ⟨m0, (show l1 < 8 by omega)⟩
      have hne : g 171 l1 ≠ 0 := by omega
      refine ⟨k9, hi', hne, k9, hi', hne, ite_c (fun x => ?_) (fun x => ?_)⟩
      · rw [wr_id (x := _ - 180) ⟨by omega, by omega⟩]
        exact w_161 (by omega) (by omega) (ih (by omega) (by rw [wr_id ⟨by omega, by omega⟩]; omega) _)
      · exact w_161 (by omega) (by omega) (ih (by omega) (by rw [wr_id ⟨by omega, by omega⟩]; omega) _)
    · exact ⟨k9, i_169.mpr ⟨m0, by omega⟩, by decide, h _⟩
  refine c_235 ?_
  refine ⟨k9, s_140 hr hi (fun m0 m6 _ hg _ _ b4 b8 _ => ?_) ?_⟩
  · rw [if_neg (by decide), r_165_5 hr, wr_id (x := g 171 l1 - 1) ⟨by omega, by omega⟩]
    refine ⟨k9, i_171.mpr ⟨m0, by omega⟩, w_137 (fun q1 q2 => ?_) (fun _ => ?_)⟩
    · rw [if_neg (by decide), r_165_5 hr]
      refine ⟨k9, i_171.mpr ⟨m0, by omega⟩, w_137 (fun q3 q4 => ?_) (fun _ => ?_)⟩
      · rw [if_neg (by decide)]
        refine w_137 (fun _ _ => ?_) (fun _ => ?_)
        · rw [if_neg (by decide)]
          exact loop hg b4 b8 q1 (by rw [wr_id ⟨by omega, by omega⟩]; omega) l2 (by omega) q1 _
        · rw [if_pos rfl]; exact h _
      · rw [if_pos rfl]; exact h _
    · rw [if_pos rfl]; exact h _
  · rw [if_pos rfl]; exact h _
theorem s_237 (hr : RI r) (hi : MI g) (h : ∀ v g', ME g g' → Q v g' r) : Ce sc (d + 8) 237 [(2, 165), (0, l1), (0, l2), (0, l3), (0, l4)] g r Q := by
  have k9 : okr 218 165 9 := okd (by decide +kernel)
  have in3 : ∀ g1, ME g g1 → 0 ≤ g1 165 66 → g1 165 66 ≤ 9 → ∀ (l5 l6 l8 l9 : Int), (∀ (l5 l6 l8 : Int), WQ sc (d + 7) 237 Q 106 [(2, 165), (9, 0), (9, 0), (0, l3), (0, l4), (0, l5), (1, l6), (8, 0), (0, l8), (0, wr (l9 + 1)), (9, 0), (9, 0), (9, 0), (9, 0)] [] g1 r) → ∀ l13 : Int, -2147483648 ≤ l13 → 0 ≤ l13 → ∀ (l10 l12 : Int), WQ sc (d + 7) 237 Q 126 [(2, 165), (9, 0), (9, 0), (0, l3), (0, l4), (0, l5), (1, l6), (8, 0), (0, l8), (0, l9), (1, l10), (8, 0), (0, l12), (0, l13)] [] g1 r := by
    intro g1 e0 f0 f9 l5 l6 l8 l9 nx
    refine upW 9 (by decide) fun l13 _ ih h0 l10 l12 => ?_
    refine b_237_126 ?_
    repeat' first
      | (with_reducible refine ite_01 ?_)
      | (with_reducible refine ite_00 ?_)
      | (with_reducible refine And.intro ?_ ?_; · first | assumption | decide | (exact AR.i (by assumption) (by omega) (by omega)) | (exact AR.a (by assumption) (by decide) (by decide)) | (exact AR.k (by assumption)) | omega | (have := cmp_gt.mp (by assumption : 0 < cmpL _ 0); omega) | (exact i_171.mpr ⟨by omega, by omega⟩) | (exact i_212.mpr ⟨by omega, by omega⟩) | (exact i_213.mpr ⟨by omega, by omega⟩) | (exact i_214.mpr ⟨by omega, by omega⟩))
      | (simp only [r_165_5 hr, r_165_67 hr, r_165_68 hr, r_165_69 hr])
      | (refine ite_c (fun _ => ?_) (fun _ => ?_))
      | (intro _ e1; subst e1)
      | (with_reducible refine w_137 (fun _ _ => ?_) (fun _ => ?_))
      | (with_reducible refine w_178 (fun _ _ => ?_) (fun _ => ?_))
      | (with_reducible refine s_179 hr hi (fun _ _ _ _ _ _ _ _ _ => ?_) ?_)
      | (exfalso; omega)
      | (exact absurd trivial (by assumption))
      | ((with_reducible refine ih ?_ ?_ _ _) <;> (first | ((repeat (with_reducible first | assumption | exact ME.rf _ | (refine ME.u ?_ (mw_of (by decide +kernel)) (by decide)) | (refine ME.ub ?_ (mw_of (by decide +kernel)) (by decide) (by first | decide | assumption)) | (refine ME.u ?_ (by unfold MW MV; omega) (by decide)) | (refine ME.ub ?_ (by unfold MW MV; omega) (by decide) (by first | decide | assumption)) | (refine ME.tr ?_ (by assumption)))); done) | omega | decide | (rw [wr_id ⟨by omega, by omega⟩]; omega)))
      | ((with_reducible refine nx _ _ _))
      | ((first | ((with_reducible refine h _ _ ?_); ((repeat (with_reducible first | assumption | exact ME.rf _ | (refine ME.u ?_ (mw_of (by decide +kernel)) (by decide)) | (refine ME.ub ?_ (mw_of (by decide +kernel)) (by decide) (by first | decide | assumption)) | (refine ME.u ?_ (by unfold MW MV; omega) (by decide)) | (refine ME.ub ?_ (by unfold MW MV; omega) (by decide) (by first | decide | assumption)) | (refine ME.tr ?_ (by assumption)))); done))))
  have out3 : ∀ g1, ME g g1 → 0 ≤ g1 165 66 → g1 165 66 ≤ 9 → ∀ l9 : Int, -2147483648 ≤ l9 → ∀ (l5 l6 l8 : Int), WQ sc (d + 7) 237 Q 106 [(2, 165), (9, 0), (9, 0), (0, l3), (0, l4), (0, l5), (1, l6), (8, 0), (0, l8), (0, l9), (9, 0), (9, 0), (9, 0), (9, 0)] [] g1 r := by
    intro g1 e0 f0 f9
    have hs := shl9 f0 f9
    refine upW 512 (by decide) fun l9 _ ih l5 l6 l8 => ?_
    exact b_237_106 ⟨k9, ite_c (fun q => in3 g1 e0 f0 f9 _ _ _ _ (fun a b c => ih (by omega) a b c) 0 (by decide) (by decide) _ _) (fun _ => ite_c (fun _ => h _ _ e0) (fun _ => ite_c (fun _ => h _ _ e0) (fun _ => h _ _ e0)))⟩
  have fill : 0 ≤ l1 → l1 < 6 → 4 ≤ g 171 l1 → g 171 l1 ≤ 80 → ∀ l5 : Int, -2147483648 ≤ l5 → 0 ≤ l5 → ∀ g1, ME g g1 → GT g1 → WQ sc (d + 7) 237 Q 54 [(2, 165), (0, l1), (0, l2), (0, l3), (0, l4), (0, l5), (9, 0), (9, 0), (9, 0), (9, 0), (9, 0), (9, 0), (9, 0), (9, 0)] [] g1 r := by
    intro m0 m6 b4 b8
    refine upW 9 (by decide) fun l5 _ ih h0 g1 e0 ht => ?_
    have f := hi.1.2.2.2.2.1
    have f6 : g1 165 66 = g 165 66 := e0.1 165 66 (by unfold MV; omega)
    have f5 : g1 171 l1 = g 171 l1 := e0.1 171 l1 (by unfold MV; omega)
    refine b_237_54 ?_
    rw [r_165_67 hr, r_165_5 hr, r_165_69 hr, f5]
    refine ⟨k9, ite_c (fun q => ?_) (fun q => ?_)⟩
    · refine ⟨k9, k9, i_212.mpr ⟨h0, by omega⟩, k9, i_171.mpr ⟨m0, by omega⟩, k9, s_189 hr ht b4 b8 (fun v g2 e2 h2 => ⟨i_214.mpr ⟨h0, by omega⟩, fun g3 e3 => ih (by omega) (by rw [wr_id ⟨by omega, by omega⟩]; omega) _ ?_ ?_⟩)⟩
      · rw [e3]; exact (e0.tr e2).u (by unfold MW MV; omega) (by decide)
      · unfold GT at h2 ⊢
        rw [e3, up_i (by decide), up_i (by decide)]; exact h2
    · exact out3 g1 e0 (by omega) (by omega) 1 (by decide) _ _ _
  refine c_237 ?_
  repeat' first
    | (with_reducible refine ite_01 ?_)
    | (with_reducible refine ite_00 ?_)
    | (with_reducible refine And.intro ?_ ?_; · first | assumption | decide | (exact AR.i (by assumption) (by omega) (by omega)) | (exact AR.a (by assumption) (by decide) (by decide)) | (exact AR.k (by assumption)) | omega | (have := cmp_gt.mp (by assumption : 0 < cmpL _ 0); omega) | (exact i_171.mpr ⟨by omega, by omega⟩) | (exact i_212.mpr ⟨by omega, by omega⟩) | (exact i_213.mpr ⟨by omega, by omega⟩) | (exact i_214.mpr ⟨by omega, by omega⟩))
    | (simp only [r_165_5 hr, r_165_67 hr, r_165_68 hr, r_165_69 hr])
    | (refine ite_c (fun _ => ?_) (fun _ => ?_))
    | (intro _ e1; subst e1)
    | (with_reducible refine w_137 (fun _ _ => ?_) (fun _ => ?_))
    | (with_reducible refine w_178 (fun _ _ => ?_) (fun _ => ?_))
    | (with_reducible refine s_179 hr hi (fun _ _ _ _ _ _ _ _ _ => ?_) ?_)
    | (exfalso; omega)
    | (exact absurd trivial (by assumption))
    | ((first | ((with_reducible refine s_141 hr hi (by assumption) (fun _ g5 e5 h5 => ?_)); exact fill (by omega) (by omega) (by omega) (by omega) 0 (by decide) (by decide) g5 e5 (gt_of h5))))
    | ((first | ((with_reducible refine h _ _ ?_); ((repeat (with_reducible first | assumption | exact ME.rf _ | (refine ME.u ?_ (mw_of (by decide +kernel)) (by decide)) | (refine ME.ub ?_ (mw_of (by decide +kernel)) (by decide) (by first | decide | assumption)) | (refine ME.u ?_ (by unfold MW MV; omega) (by decide)) | (refine ME.ub ?_ (by unfold MW MV; omega) (by decide) (by first | decide | assumption)) | (refine ME.tr ?_ (by assumption)))); done))))
theorem s_243 (hr : RI r) (hi : MI g) (h : ∀ v, Q v g r) : Ce sc (d + 7) 243 [(2, 165), (0, l1), (0, l2), (0, l3)] g r Q := by
  have k9 : okr 218 165 9 := okd (by decide +kernel)
  have loop : GM g l1 → 1 ≤ g 177 l1 → g 177 l1 ≤ 300 → ∀ l5 : Int, -2147483648 ≤ l5 → 0 ≤ l5 → ∀ l4 : Int, WQ sc (d + 6) 243 Q 25 [(2, 165), (0, l1), (0, l2), (0, l3), (0, l4), (0, l5), (9, 0), (9, 0)] [] g r := by
    intro hg p0 p1
    have m0 := hg.1
    have m6 := hg.2.1
    refine upW 40 (by decide) fun l5 _ ih h0 l4 => ?_
    refine b_243_25 ?_
    repeat' first
      | (with_reducible refine ite_01 ?_)
      | (with_reducible refine ite_00 ?_)
      | (with_reducible refine And.intro ?_ ?_; · first | assumption | decide | (exact AR.i (by assumption) (by omega) (by omega)) | (exact AR.a (by assumption) (by decide) (by decide)) | (exact AR.k (by assumption)) | omega | (have := cmp_gt.mp (by assumption : 0 < cmpL _ 0); omega) | (exact i_177.mpr ⟨by omega, by omega⟩) | (exact i_192.mpr ⟨by omega, by omega⟩) | (exact Or.inr (i_198.mpr ⟨by omega, by omega⟩)) | (exact i_198.mpr ⟨by omega, by omega⟩))
      | (simp only [r_165_11 hr, r_165_37 hr, r_165_43 hr])
      | (refine ite_c (fun _ => ?_) (fun _ => ?_))
      | (intro _ e1; subst e1)
      | (with_reducible refine s_140 hr hi (fun _ _ _ _ _ _ _ _ _ => ?_) ?_)
      | (with_reducible refine s_177 hr (by assumption) (by omega) (by omega) (by decide) (by decide) (fun _ => ?_))
      | (exfalso; omega)
      | (exact absurd trivial (by assumption))
      | ((with_reducible refine ih ?_ ?_ _) <;> (first | ((repeat (with_reducible first | assumption | exact ME.rf _ | (refine ME.u ?_ (mw_of (by decide +kernel)) (by decide)) | (refine ME.ub ?_ (mw_of (by decide +kernel)) (by decide) (by first | decide | assumption)) | (refine ME.u ?_ (by unfold MW MV; omega) (by decide)) | (refine ME.ub ?_ (by unfold MW MV; omega) (by decide) (by first | decide | assumption)) | (refine ME.tr ?_ (by assumption)))); done) | omega | decide | (rw [wr_id ⟨by omega, by omega⟩]; omega)))
      | ((with_reducible refine h _))
  refine c_243 ?_
  repeat' first
    | (with_reducible refine ite_01 ?_)
    | (with_reducible refine ite_00 ?_)
    | (with_reducible refine And.intro ?_ ?_; · first | assumption | decide | (exact AR.i (by assumption) (by omega) (by omega)) | (exact AR.a (by assumption) (by decide) (by decide)) | (exact AR.k (by assumption)) | omega | (have := cmp_gt.mp (by assumption : 0 < cmpL _ 0); omega) | (exact i_177.mpr ⟨by omega, by omega⟩) | (exact i_192.mpr ⟨by omega, by omega⟩) | (exact Or.inr (i_198.mpr ⟨by omega, by omega⟩)) | (exact i_198.mpr ⟨by omega, by omega⟩))
    | (simp only [r_165_11 hr, r_165_37 hr, r_165_43 hr])
    | (refine ite_c (fun _ => ?_) (fun _ => ?_))
    | (intro _ e1; subst e1)
    | (with_reducible refine s_140 hr hi (fun _ _ _ _ _ _ _ _ _ => ?_) ?_)
    | (with_reducible refine s_177 hr (by assumption) (by omega) (by omega) (by decide) (by decide) (fun _ => ?_))
    | (exfalso; omega)
    | (exact absurd trivial (by assumption))
    | ((with_reducible refine loop ?_ ?_ ?_ _ ?_ ?_ _) <;> (first | ((repeat (with_reducible first | assumption | exact ME.rf _ | (refine ME.u ?_ (mw_of (by decide +kernel)) (by decide)) | (refine ME.ub ?_ (mw_of (by decide +kernel)) (by decide) (by first | decide | assumption)) | (refine ME.u ?_ (by unfold MW MV; omega) (by decide)) | (refine ME.ub ?_ (by unfold MW MV; omega) (by decide) (by first | decide | assumption)) | (refine ME.tr ?_ (by assumption)))); done) | omega | decide | (rw [wr_id ⟨by omega, by omega⟩]; omega)))
    | ((with_reducible refine h _))
end MPO
