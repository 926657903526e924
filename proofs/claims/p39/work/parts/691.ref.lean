/-! the reference's methods without hours come to their end; printed by a program (wip/gen/gen_m2.py) -/
/-- steps a to b of a gate's condition keep their pile -/
def PGF (g : GH) (a b : Int) : Prop := ∃ ht : Int → Int, ht a = 0 ∧ ∀ k, a ≤ k → k < b → 0 ≤ ht k ∧ ht k ≤ 190 ∧ ((g 185 k = 0 ∧ 0 ≤ g 186 k ∧ g 186 k ≤ 4 ∧ ht (k + 1) = ht k + 1) ∨ (g 185 k = 1 ∧ 1 ≤ ht k ∧ ht (k + 1) = ht k) ∨ (g 185 k ≠ 0 ∧ g 185 k ≠ 1 ∧ 2 ≤ ht k ∧ ht (k + 1) = ht k - 1))
/-- a told mill of the reference -/
def MT (g : GH) (m : Int) : Prop := GM g m ∧ 1 ≤ g 175 m ∧ (0 ≤ g 179 m ∧ g 179 m ≤ 30) ∧ ∀ q, 30 * m ≤ q → q < 30 * m + g 179 m → 350 * m ≤ g 183 q ∧ g 184 q ≤ 350 * m + 350 ∧ PGF g (g 183 q) (g 184 q)
def MN (g : GH) : Prop := (0 ≤ g 165 24 ∧ g 165 24 ≤ 700) ∧ (0 ≤ g 165 48 ∧ g 165 48 ≤ 3) ∧ (0 ≤ g 165 61 ∧ g 165 61 ≤ 30) ∧ (0 ≤ g 165 64 ∧ g 165 64 ≤ 24) ∧ (0 ≤ g 165 66 ∧ g 165 66 ≤ 9) ∧ (0 ≤ g 165 70 ∧ g 165 70 ≤ 8) ∧ ∀ k, 0 ≤ g 209 k ∧ g 209 k ≤ 5
def MTS (g : GH) : Prop := ∀ m, 0 ≤ m → m < 6 → g 167 m ≠ 0 → MT g m
def MI (g : GH) : Prop := MN g ∧ MB g ∧ MTS g
theorem gm_eq {g g' : GH} {m : Int} (h6 : m < 6) (e : ∀ i j, MV i j → g' i j = g i j) (h : GM g m) : GM g' m := by
  unfold GM at h ⊢
  rw [e 171 m (by unfold MV; omega), e 174 m (by unfold MV; omega), e 177 m (by unfold MV; omega)]
  exact h
theorem MT.eq {g g' : GH} {m : Int} (h6 : m < 6) (e : ∀ i j, MV i j → g' i j = g i j) (h : MT g m) : MT g' m := by
  obtain ⟨h1, h2, h3, h4⟩ := h
  have e9 := e 179 m (by unfold MV; omega)
  refine ⟨gm_eq h6 e h1, by rw [e 175 m (by unfold MV; omega)]; exact h2, by rw [e9]; exact h3, fun q q0 q1 => ?_⟩
  rw [e9] at q1
  obtain ⟨a1, a2, ht, a3, a4⟩ := h4 q q0 q1
  rw [e 183 q (by unfold MV; omega), e 184 q (by unfold MV; omega)]
  refine ⟨a1, a2, ht, a3, fun k k0 k1 => ?_⟩
  rw [e 185 k (by unfold MV; omega), e 186 k (by unfold MV; omega)]
  exact a4 k k0 k1
theorem MI.me {g g' : GH} (h : MI g) (e : ME g g') : MI g' := by
  obtain ⟨h1, h2, h3⟩ := h
  refine ⟨?_, e.2 h2, fun m m0 m6 mt => ?_⟩
  · unfold MN at h1 ⊢
    have e9 : ∀ k, g' 209 k = g 209 k := fun k => e.1 209 k (by unfold MV; omega)
    rw [e.1 165 24 (by unfold MV; omega), e.1 165 48 (by unfold MV; omega), e.1 165 61 (by unfold MV; omega), e.1 165 64 (by unfold MV; omega), e.1 165 66 (by unfold MV; omega), e.1 165 70 (by unfold MV; omega)]
    refine ⟨h1.1, h1.2.1, h1.2.2.1, h1.2.2.2.1, h1.2.2.2.2.1, h1.2.2.2.2.2.1, fun k => ?_⟩
    rw [e9]; exact h1.2.2.2.2.2.2 k
  · rw [e.1 167 m (by unfold MV; omega)] at mt
    exact MT.eq m6 e.1 (h3 m m0 m6 mt)
/-- the mill that is tried -/
def GT (g : GH) : Prop := 0 ≤ g 174 6 ∧ g 174 6 ≤ 90 ∧ 1 ≤ g 177 6 ∧ g 177 6 ≤ 300
theorem gt_of {g : GH} (h : GM g 6) : GT g := ⟨h.2.2.2.2.1, h.2.2.2.2.2.1, h.2.2.2.2.2.2.1, h.2.2.2.2.2.2.2⟩
/-- how many mills are told -/
def tolP (g : GH) : Nat → Int
  | 0 => 0
  | n + 1 => tolP g n + (if g 167 n = 0 then 0 else 1)
section MPM
variable {sc : SCR} {d : Nat} {Q : QJ} {g r : GH} {l0 l1 l2 l3 l4 l5 l6 l7 l8 l9 l10 l11 l12 l13 l14 l15 l16 : Int}
theorem s_140 (hr : RI r) (hi : MI g) (h1 : 0 ≤ l1 → l1 < 6 → g 167 l1 ≠ 0 → GM g l1 → 1 ≤ g 177 l1 → g 177 l1 ≤ 300 → 4 ≤ g 171 l1 → g 171 l1 ≤ 80 → 1 ≤ g 175 l1 → Q 1 g r) (h0 : Q 0 g r) : Ce sc (d + 1) 140 [(2, 165), (0, l1)] g r Q :=
  w_140 hr (fun t => by
    have hm := hi.2.2 l1 t.1 t.2.1 t.2.2
    have hg := hm.1
    exact h1 t.1 t.2.1 t.2.2 hg hg.2.2.2.2.2.2.1 hg.2.2.2.2.2.2.2 hg.2.2.1 hg.2.2.2.1 hm.2.1) (fun _ => h0)
theorem s_179 (hr : RI r) (hi : MI g) (h1 : 0 ≤ l1 → l1 < 6 → g 167 l1 ≠ 0 → GM g l1 → 1 ≤ g 177 l1 → g 177 l1 ≤ 300 → 4 ≤ g 171 l1 → g 171 l1 ≤ 80 → 1 ≤ g 175 l1 → Q 1 g r) (h0 : Q 0 g r) : Ce sc (d + 2) 179 [(2, 165), (0, l1)] g r Q :=
  w_179 hr (fun t _ => by
    have hm := hi.2.2 l1 t.1 t.2.1 t.2.2
    have hg := hm.1
    exact h1 t.1 t.2.1 t.2.2 hg hg.2.2.2.2.2.2.1 hg.2.2.2.2.2.2.2 hg.2.2.1 hg.2.2.2.1 hm.2.1) (fun _ => h0)
theorem cmp_ne {x : Int} (h : ¬ cmpL x 0 = 0) : x ≠ 0 := fun q => h (cmp_eq.mpr q)
theorem plc_m {p : Int} (h0 : 0 ≤ p) (h1 : p ≤ 40) : wr (p - 1) ≤ 99 := by
  rw [wr_id ⟨by omega, by omega⟩]
  omega
theorem plc_b {a p : Int} (hb : a ≤ wr (99 + p)) (h0 : 0 ≤ p) (h1 : p ≤ 40) (ha : 100 ≤ a) : wr (a - 100) ≤ 99 := by
  rw [wr_id ⟨by omega, by omega⟩] at hb
  rw [wr_id ⟨by omega, by omega⟩]
  omega
theorem s_180 (hr : RI r) (hi : MI g) (h : ∀ v, Q v g r) : Ce sc (d + 5) 180 [(2, 165), (0, l1), (0, l2), (0, l3), (0, l4)] g r Q := by
  have k9 : okr 218 165 9 := okd (by decide +kernel)
  refine c_180 ?_
  repeat' first
    | (with_reducible refine ite_01 ?_)
    | (with_reducible refine ite_00 ?_)
    | (with_reducible refine And.intro ?_ ?_; · first | assumption | decide | (exact AR.i (by assumption) (by omega) (by omega)) | (exact AR.a (by assumption) (by decide) (by decide)) | (exact AR.k (by assumption)) | omega | (have := cmp_gt.mp (by assumption : 0 < cmpL _ 0); omega) | (exact i_169.mpr ⟨by omega, by omega⟩))
    | (simp only [r_165_3 hr])
    | (with_reducible refine ⟨by decide, ?_⟩)
    | (refine ite_c (fun _ => ?_) (fun _ => ?_))
    | (intro _ e1; subst e1)
    | (with_reducible refine w_137 (fun _ _ => ?_) (fun _ => ?_))
    | (with_reducible refine s_165 hr (by assumption) (by omega) (by omega) (fun _ => ?_))
    | (with_reducible refine s_166 hr (by assumption) (fun _ => ?_))
    | (with_reducible refine s_167 hr (by assumption) (by omega) (by omega) (fun _ => ?_))
    | (with_reducible refine s_168 hr (by assumption) (fun _ => ?_))
    | (with_reducible refine s_171 hr (by assumption) (fun _ _ _ _ => ?_))
    | (with_reducible refine s_172 hr (by assumption) (by omega) (by omega) (by first | omega | exact plc_m (by assumption) (by assumption) | exact plc_b (by assumption) (by assumption) (by assumption) (by assumption)) (fun _ => ?_))
    | (with_reducible refine s_173 hr (by assumption) (by omega) (by omega) (fun _ => ?_))
    | (with_reducible refine s_174 hr (by assumption) (by omega) (by omega) (fun _ => ?_))
    | (with_reducible refine w_178 (fun _ _ => ?_) (fun _ => ?_))
    | (with_reducible refine s_179 hr hi (fun _ _ _ _ _ _ _ _ _ => ?_) ?_)
    | (exfalso; omega)
    | (exact absurd trivial (by assumption))
    | ((with_reducible refine h _))
theorem s_181 (hr : RI r) (hi : MI g) (h : ∀ v, Q v g r) : Ce sc (d + 3) 181 [(2, 165), (0, l1), (0, l2), (0, l3)] g r Q := by
  have k9 : okr 218 165 9 := okd (by decide +kernel)
  refine c_181 ?_
  repeat' first
    | (with_reducible refine ite_01 ?_)
    | (with_reducible refine ite_00 ?_)
    | (with_reducible refine And.intro ?_ ?_; · first | assumption | decide | (exact AR.i (by assumption) (by omega) (by omega)) | (exact AR.a (by assumption) (by decide) (by decide)) | (exact AR.k (by assumption)) | omega | (have := cmp_gt.mp (by assumption : 0 < cmpL _ 0); omega))
    | (refine ite_c (fun _ => ?_) (fun _ => ?_))
    | (intro _ e1; subst e1)
    | (with_reducible refine w_137 (fun _ _ => ?_) (fun _ => ?_))
    | (with_reducible refine s_169 hr (by assumption) (fun _ => ?_))
    | (with_reducible refine s_179 hr hi (fun _ _ _ _ _ _ _ _ _ => ?_) ?_)
    | (exfalso; omega)
    | (exact absurd trivial (by assumption))
    | ((with_reducible refine h _))
theorem s_182 (hr : RI r) (hi : MI g) (h1 : 0 ≤ l1 → l1 < 6 → GM g l1 → 0 ≤ l2 → l2 ≤ 99999 → 1 ≤ l3 → l3 ≤ 300 → 0 ≤ l4 → l4 ≤ 240 → Q 1 g r) (h0 : Q 0 g r) : Ce sc (d + 2) 182 [(2, 165), (0, l1), (0, l2), (0, l3), (0, l4)] g r Q := by
  have k9 : okr 218 165 9 := okd (by decide +kernel)
  refine c_182 ?_
  repeat' first
    | (with_reducible refine ite_01 ?_)
    | (with_reducible refine ite_00 ?_)
    | (with_reducible refine And.intro ?_ ?_; · first | assumption | decide | (exact AR.i (by assumption) (by omega) (by omega)) | (exact AR.a (by assumption) (by decide) (by decide)) | (exact AR.k (by assumption)) | omega | (have := cmp_gt.mp (by assumption : 0 < cmpL _ 0); omega))
    | (refine ite_c (fun _ => ?_) (fun _ => ?_))
    | (intro _ e1; subst e1)
    | (with_reducible refine w_137 (fun _ _ => ?_) (fun _ => ?_))
    | (with_reducible refine s_140 hr hi (fun _ _ _ _ _ _ _ _ _ => ?_) ?_)
    | (with_reducible refine w_178 (fun _ _ => ?_) (fun _ => ?_))
    | (exfalso; omega)
    | (exact absurd trivial (by assumption))
    | ((first | ((with_reducible refine h1 ?_ ?_ ?_ ?_ ?_ ?_ ?_ ?_ ?_) <;> (first | assumption | omega)) | (with_reducible exact h0)))
theorem s_183 (hr : RI r) (hi : MI g) (h : ∀ v, Q v g r) : Ce sc (d + 6) 183 [(2, 165), (0, l1), (0, l2), (0, l3), (0, l4)] g r Q := by
  have k9 : okr 218 165 9 := okd (by decide +kernel)
  refine c_183 ?_
  repeat' first
    | (with_reducible refine ite_01 ?_)
    | (with_reducible refine ite_00 ?_)
    | (with_reducible refine And.intro ?_ ?_; · first | assumption | decide | (exact AR.i (by assumption) (by omega) (by omega)) | (exact AR.a (by assumption) (by decide) (by decide)) | (exact AR.k (by assumption)) | omega | (have := cmp_gt.mp (by assumption : 0 < cmpL _ 0); omega))
    | (refine ite_c (fun _ => ?_) (fun _ => ?_))
    | (intro _ e1; subst e1)
    | (with_reducible refine s_176 hr (by assumption) (by omega) (by omega) (by omega) (by omega) (fun _ => ?_))
    | (with_reducible refine s_182 hr hi (fun _ _ _ _ _ _ _ _ _ => ?_) ?_)
    | (exfalso; omega)
    | (exact absurd trivial (by assumption))
    | ((with_reducible refine h _))
theorem s_184 (hr : RI r) (hi : MI g) (h : ∀ v, Q v g r) : Ce sc (d + 7) 184 [(2, 165), (0, l1), (0, l2), (0, l3), (0, l4), (0, l5)] g r Q := by
  have k9 : okr 218 165 9 := okd (by decide +kernel)
  refine c_184 ?_
  repeat' first
    | (with_reducible refine ite_01 ?_)
    | (with_reducible refine ite_00 ?_)
    | (with_reducible refine And.intro ?_ ?_; · first | assumption | decide | (exact AR.i (by assumption) (by omega) (by omega)) | (exact AR.a (by assumption) (by decide) (by decide)) | (exact AR.k (by assumption)) | omega | (have := cmp_gt.mp (by assumption : 0 < cmpL _ 0); omega))
    | (refine ite_c (fun _ => ?_) (fun _ => ?_))
    | (intro _ e1; subst e1)
    | (with_reducible refine w_137 (fun _ _ => ?_) (fun _ => ?_))
    | (with_reducible refine s_177 hr (by assumption) (by omega) (by omega) (by omega) (by omega) (fun _ => ?_))
    | (with_reducible refine s_182 hr hi (fun _ _ _ _ _ _ _ _ _ => ?_) ?_)
    | (exfalso; omega)
    | (exact absurd trivial (by assumption))
    | ((with_reducible refine h _))
theorem s_185 (hr : RI r) (hg : GM g l1) (t3 : 0 ≤ l3) (t4 : l3 ≤ 240) (h : ∀ v, 1 ≤ v → v ≤ 300 → Q v g r) : Ce sc (d + 7) 185 [(2, 165), (0, l1), (0, l2), (0, l3), (0, l4)] g r Q := by
  have k9 : okr 218 165 9 := okd (by decide +kernel)
  have loop : ∀ l6 : Int, -2147483648 ≤ l6 → 1 ≤ l6 → ∀ l5 : Int, 1 ≤ l5 → l5 ≤ 300 → WQ sc (d + 6) 185 Q 6 [(2, 165), (0, l1), (0, l2), (0, l3), (0, l4), (0, l5), (0, l6)] [] g r := by
    refine upW 301 (by decide) fun l6 _ ih h6 l5 h5 h53 => ?_
    refine b_185_6 (ite_c (fun _ => h _ h5 h53) (fun q => ⟨k9, s_177 hr hg (by omega) (by omega) (by omega) (by omega) (fun v1 => ⟨k9, s_177 hr hg (by omega) (by omega) (by omega) (by omega) (fun v2 => ?_)⟩)⟩))
    have hw : wr (l6 + 1) = l6 + 1 := wr_id ⟨by omega, by omega⟩
    rw [hw] at ih ⊢
    exact ite_c (fun _ => ih (by omega) (by omega) _ (by omega) (by omega)) (fun _ => ih (by omega) (by omega) _ (by omega) (by omega))
  exact c_185 (loop 2 (by decide) (by decide) 1 (by decide) (by decide))
theorem s_186 (hr : RI r) (hi : MI g) (h : ∀ v, Q v g r) : Ce sc (d + 8) 186 [(2, 165), (0, l1), (0, l2), (0, l3), (0, l4), (0, l5)] g r Q := by
  have k9 : okr 218 165 9 := okd (by decide +kernel)
  refine c_186 ?_
  repeat' first
    | (with_reducible refine ite_01 ?_)
    | (with_reducible refine ite_00 ?_)
    | (with_reducible refine And.intro ?_ ?_; · first | assumption | decide | (exact AR.i (by assumption) (by omega) (by omega)) | (exact AR.a (by assumption) (by decide) (by decide)) | (exact AR.k (by assumption)) | omega | (have := cmp_gt.mp (by assumption : 0 < cmpL _ 0); omega))
    | (refine ite_c (fun _ => ?_) (fun _ => ?_))
    | (intro _ e1; subst e1)
    | (with_reducible refine w_137 (fun _ _ => ?_) (fun _ => ?_))
    | (with_reducible refine s_177 hr (by assumption) (by omega) (by omega) (by omega) (by omega) (fun _ => ?_))
    | (with_reducible refine s_182 hr hi (fun _ _ _ _ _ _ _ _ _ => ?_) ?_)
    | (with_reducible refine s_185 hr (by assumption) (by omega) (by omega) (fun _ _ _ => ?_))
    | (exfalso; omega)
    | (exact absurd trivial (by assumption))
    | ((with_reducible refine h _))
theorem s_187 (hr : RI r) (hg : GM g l1) (h : ∀ v, Q v g r) : Ce sc (d + 3) 187 [(2, 165), (0, l1)] g r Q := by
  have k9 : okr 218 165 9 := okd (by decide +kernel)
  have hg0 := hg
  obtain ⟨m0, m6, b0, b1, d0, d1, p0, p1⟩ := hg
  have loop : ∀ l2 : Int, -2147483648 ≤ l2 → 0 ≤ l2 → WQ sc (d + 2) 187 Q 2 [(2, 165), (0, l1), (0, l2)] [] g r := by
    refine upW 180 (by decide) fun l2 _ ih h0 => ?_
    refine b_187_2 ?_
    repeat' first
      | (with_reducible refine ite_01 ?_)
      | (with_reducible refine ite_00 ?_)
      | (with_reducible refine And.intro ?_ ?_; · first | assumption | decide | (exact AR.i (by assumption) (by omega) (by omega)) | (exact AR.a (by assumption) (by decide) (by decide)) | (exact AR.k (by assumption)) | omega | (have := cmp_gt.mp (by assumption : 0 < cmpL _ 0); omega) | (exact i_177.mpr ⟨by omega, by omega⟩))
      | (simp only [r_165_11 hr])
      | (refine ite_c (fun _ => ?_) (fun _ => ?_))
      | (intro _ e1; subst e1)
      | (with_reducible refine s_169 hr (by assumption) (fun _ => ?_))
      | (exfalso; omega)
      | (exact absurd trivial (by assumption))
      | ((with_reducible refine ih ?_ ?_) <;> (first | ((repeat (with_reducible first | assumption | exact ME.rf _ | (refine ME.u ?_ (mw_of (by decide +kernel)) (by decide)) | (refine ME.ub ?_ (mw_of (by decide +kernel)) (by decide) (by first | decide | assumption)) | (refine ME.u ?_ (by unfold MW MV; omega) (by decide)) | (refine ME.ub ?_ (by unfold MW MV; omega) (by decide) (by first | decide | assumption)) | (refine ME.tr ?_ (by assumption)))); done) | omega | decide | (rw [wr_id ⟨by omega, by omega⟩]; omega)))
      | ((with_reducible refine h _))
  exact c_187 (loop 0 (by decide) (by decide))
theorem parts_ne' {a b : Int} (h1 : 1 ≤ a) (h2 : a ≤ 99999) (h3 : 1 ≤ b) (h4 : b ≤ 99) : wL (wL (60 * a) * b) ≠ 0 := parts_ne h1 h2 h3 h4
theorem s_188 (hr : RI r) (hi : MI g) (h : ∀ v, Q v g r) : Ce sc (d + 7) 188 [(2, 165), (0, l1), (0, l2), (0, l3)] g r Q := by
  have k9 : okr 218 165 9 := okd (by decide +kernel)
  refine c_188 ?_
  repeat' first
    | (with_reducible refine ite_01 ?_)
    | (with_reducible refine ite_00 ?_)
    | (with_reducible refine And.intro ?_ ?_; · first | assumption | decide | (exact AR.i (by assumption) (by omega) (by omega)) | (exact AR.a (by assumption) (by decide) (by decide)) | (exact AR.k (by assumption)) | omega | (have := cmp_gt.mp (by assumption : 0 < cmpL _ 0); omega) | (exact i_177.mpr ⟨by omega, by omega⟩) | (exact parts_ne (by omega) (by omega) (by omega) (by omega)))
    | (simp only [r_165_11 hr])
    | (refine ite_c (fun _ => ?_) (fun _ => ?_))
    | (intro _ e1; subst e1)
    | (with_reducible refine w_137 (fun _ _ => ?_) (fun _ => ?_))
    | (with_reducible refine s_140 hr hi (fun _ _ _ _ _ _ _ _ _ => ?_) ?_)
    | (with_reducible refine s_177 hr (by assumption) (by omega) (by omega) (by omega) (by omega) (fun _ => ?_))
    | (exfalso; omega)
    | (exact absurd trivial (by assumption))
    | ((with_reducible refine h _))
theorem s_141 (hr : RI r) (hi : MI g) (hg : GM g l1) (h : ∀ v g', ME g g' → GM g' 6 → Q v g' r) : Ce sc (d + 1) 141 [(2, 165), (0, l1), (0, 6)] g r Q := by
  have k9 : okr 218 165 9 := okd (by decide +kernel)
  have hg0 := hg
  obtain ⟨m0, m6, b0, b1, d0, d1, p0, p1⟩ := hg
  have hb := hi.2.1.1 l1
  refine c_141 ?_
  repeat' first
    | (with_reducible refine ite_01 ?_)
    | (with_reducible refine ite_00 ?_)
    | (with_reducible refine And.intro ?_ ?_; · first | assumption | decide | (exact AR.i (by assumption) (by omega) (by omega)) | (exact AR.a (by assumption) (by decide) (by decide)) | (exact AR.k (by assumption)) | omega | (have := cmp_gt.mp (by assumption : 0 < cmpL _ 0); omega) | (exact Or.inr (i_168.mpr ⟨by omega, by omega⟩)) | (exact i_168.mpr ⟨by omega, by omega⟩) | (exact i_169.mpr ⟨by omega, by omega⟩) | (exact i_170.mpr ⟨by omega, by omega⟩) | (exact i_171.mpr ⟨by omega, by omega⟩) | (exact i_172.mpr ⟨by omega, by omega⟩) | (exact i_173.mpr ⟨by omega, by omega⟩) | (exact i_174.mpr ⟨by omega, by omega⟩) | (exact i_175.mpr ⟨by omega, by omega⟩) | (exact i_176.mpr ⟨by omega, by omega⟩) | (exact i_177.mpr ⟨by omega, by omega⟩) | (exact i_178.mpr ⟨by omega, by omega⟩) | (exact Or.inr ⟨i_168.mpr ⟨by omega, by omega⟩, hb⟩))
    | (simp only [r_165_2 hr, r_165_3 hr, r_165_4 hr, r_165_5 hr, r_165_6 hr, r_165_7 hr, r_165_8 hr, r_165_9 hr, r_165_10 hr, r_165_11 hr, r_165_12 hr])
    | (refine ite_c (fun _ => ?_) (fun _ => ?_))
    | (intro _ e1; subst e1)
    | (exfalso; omega)
    | (exact absurd trivial (by assumption))
    | ((first | (with_reducible refine h _ _ ?_ ?_)))
  all_goals first | ((repeat (with_reducible first | assumption | exact ME.rf _ | (refine ME.u ?_ (mw_of (by decide +kernel)) (by decide)) | (refine ME.ub ?_ (mw_of (by decide +kernel)) (by decide) (by first | decide | assumption)) | (refine ME.u ?_ (by unfold MW MV; omega) (by decide)) | (refine ME.ub ?_ (by unfold MW MV; omega) (by decide) (by first | decide | assumption)) | (refine ME.tr ?_ (by assumption)))); done) | skip
  unfold GM
  simp only [up_s, up_i (show (171 : Int) ≠ 178 by decide), up_i (show (171 : Int) ≠ 177 by decide), up_i (show (171 : Int) ≠ 176 by decide), up_i (show (171 : Int) ≠ 175 by decide), up_i (show (171 : Int) ≠ 174 by decide), up_i (show (171 : Int) ≠ 173 by decide), up_i (show (171 : Int) ≠ 172 by decide), up_i (show (171 : Int) ≠ 170 by decide), up_i (show (171 : Int) ≠ 169 by decide), up_i (show (171 : Int) ≠ 168 by decide), up_i (show (174 : Int) ≠ 178 by decide), up_i (show (174 : Int) ≠ 177 by decide), up_i (show (174 : Int) ≠ 176 by decide), up_i (show (174 : Int) ≠ 175 by decide), up_i (show (174 : Int) ≠ 173 by decide), up_i (show (174 : Int) ≠ 172 by decide), up_i (show (174 : Int) ≠ 171 by decide), up_i (show (174 : Int) ≠ 170 by decide), up_i (show (174 : Int) ≠ 169 by decide), up_i (show (174 : Int) ≠ 168 by decide), up_i (show (177 : Int) ≠ 178 by decide), up_i (show (177 : Int) ≠ 176 by decide), up_i (show (177 : Int) ≠ 175 by decide), up_i (show (177 : Int) ≠ 174 by decide), up_i (show (177 : Int) ≠ 173 by decide), up_i (show (177 : Int) ≠ 172 by decide), up_i (show (177 : Int) ≠ 171 by decide), up_i (show (177 : Int) ≠ 170 by decide), up_i (show (177 : Int) ≠ 169 by decide), up_i (show (177 : Int) ≠ 168 by decide)]
  exact ⟨by decide, by decide, b0, b1, d0, d1, p0, p1⟩
theorem s_189 (hr : RI r) (ht : GT g) (t1 : 4 ≤ l2) (t2 : l2 ≤ 80) (h : ∀ v g', ME g g' → GT g' → Q v g' r) : Ce sc (d + 7) 189 [(2, 165), (0, l1), (0, l2), (0, l3)] g r Q := by
  have k9 : okr 218 165 9 := okd (by decide +kernel)
  obtain ⟨d0, d1, p0, p1⟩ := ht
  refine c_189 ⟨k9, ?_⟩
  rw [r_165_2 hr, r_165_3 hr, r_165_5 hr, r_165_11 hr]
  refine ⟨i_169.mpr ⟨by decide, by decide⟩, fun g1 e1 => ⟨k9, i_171.mpr ⟨by decide, by decide⟩, fun g2 e2 => ⟨k9, Or.inr ⟨i_168.mpr ⟨by decide, by decide⟩, Or.inr rfl⟩, fun g3 e3 => ⟨k9, i_177.mpr ⟨by decide, by decide⟩, ?_⟩⟩⟩⟩
  have f4 : g3 174 6 = g 174 6 := by rw [e3, up_i (by decide), e2, up_i (by decide), e1, up_i (by decide)]
  have f7 : g3 177 6 = g 177 6 := by rw [e3, up_i (by decide), e2, up_i (by decide), e1, up_i (by decide)]
  have f1 : g3 171 6 = l2 := by rw [e3, up_i (by decide), e2, up_s]
  have hg : GM g3 6 := ⟨by decide, by decide, by omega, by omega, by omega, by omega, by omega, by omega⟩
  refine ⟨k9, s_177 hr hg ?_ ?_ ?_ ?_ (fun v => h _ _ ?_ ⟨by omega, by omega, by omega, by omega⟩)⟩
  all_goals first | omega | skip
  rw [e3, e2, e1]
  exact (((ME.rf g).u (mw_of (by decide +kernel)) (by decide)).u (mw_of (by decide +kernel)) (by decide)).ub (mw_of (by decide +kernel)) (by decide) (Or.inr rfl)
theorem s_190 (hr : RI r) (hi : MI g) (h : ∀ v g', ME g g' → Q v g' r) : Ce sc (d + 8) 190 [(2, 165), (0, l1), (0, l2), (0, l3), (0, l4), (0, l5)] g r Q := by
  have k9 : okr 218 165 9 := okd (by decide +kernel)
  have in4 : ∀ (l3 l6 l12 l15 : Int) , (∀ (l14 : Int) g1, ME g g1 → GT g1 → WQ sc (d + 7) 190 Q 209 [(2, 165), (9, 0), (9, 0), (0, l3), (9, 0), (9, 0), (0, l6), (9, 0), (9, 0), (9, 0), (9, 0), (9, 0), (1, l12), (8, 0), (0, l14), (0, wr (l15 + 1)), (9, 0)] [] g1 r) → ∀ l16 : Int, -2147483648 ≤ l16 → 4 ≤ l16 → ∀ (l14 : Int) g1, ME g g1 → GT g1 → WQ sc (d + 7) 190 Q 218 [(2, 165), (9, 0), (9, 0), (0, l3), (9, 0), (9, 0), (0, l6), (9, 0), (9, 0), (9, 0), (9, 0), (9, 0), (1, l12), (8, 0), (0, l14), (0, l15), (0, l16)] [] g1 r := by
    intro l3 l6 l12 l15 nx
    refine upS 4 81 (by decide) (by decide) fun l16 _ ih h4 l14 g1 e0 ht => ?_
    refine b_190_218 (ite_c (fun _ => nx _ _ e0 ht) (fun _ => ⟨k9, s_189 hr ht (by omega) (by omega) (fun v g2 e2 h2 => ?_)⟩))
    have hw : wr (l16 + 4) = l16 + 4 := wr_id ⟨by omega, by omega⟩
    rw [hw] at ih ⊢
    exact ite_c (fun _ => ih (by omega) (by omega) _ _ (e0.tr e2) h2) (fun _ => ih (by omega) (by omega) _ _ (e0.tr e2) h2)
  have out4 : ∀ (l3 l6 l12 : Int), l3 ≤ 40 → ∀ l15 : Int, -2147483648 ≤ l15 → ∀ (l14 : Int) g1, ME g g1 → GT g1 → WQ sc (d + 7) 190 Q 209 [(2, 165), (9, 0), (9, 0), (0, l3), (9, 0), (9, 0), (0, l6), (9, 0), (9, 0), (9, 0), (9, 0), (9, 0), (1, l12), (8, 0), (0, l14), (0, l15), (9, 0)] [] g1 r := by
    intro l3 l6 l12 h40
    refine upW 41 (by decide) fun l15 _ ih l14 g1 e0 ht => ?_
    exact b_190_209 (ite_c (fun _ => h _ _ e0) (fun _ => in4 l3 l6 l12 l15 (fun l14 g1 e1 ht => ih (by omega) _ _ e1 ht) 4 (by decide) (by decide) _ _ e0 ht))
  have in2 : ∀ (l2 l3 l5 l6 l7 l12 : Int), (∀ (l8 l9 l10 : Int) g1, 4 ≤ l9 → l9 ≤ 80 → ME g g1 → GT g1 → WQ sc (d + 7) 190 Q 93 [(2, 165), (9, 0), (0, l2), (0, l3), (9, 0), (0, l5), (0, l6), (0, l7), (0, l8), (0, l9), (1, l10), (8, 0), (0, wr (l12 + 1)), (9, 0), (9, 0), (9, 0), (9, 0)] [] g1 r) → ∀ l13 : Int, -2147483648 ≤ l13 → 4 ≤ l13 → ∀ (l8 l9 l10 : Int) g1, ((l8 < 0 ∧ l13 = 4) ∨ (4 ≤ l9 ∧ l9 ≤ 80)) → ME g g1 → GT g1 → WQ sc (d + 7) 190 Q 102 [(2, 165), (9, 0), (0, l2), (0, l3), (9, 0), (0, l5), (0, l6), (0, l7), (0, l8), (0, l9), (1, l10), (8, 0), (0, l12), (0, l13), (9, 0), (9, 0), (9, 0)] [] g1 r := by
    intro l2 l3 l5 l6 l7 l12 nx
    refine upS 4 81 (by decide) (by decide) fun l13 _ ih h4 l8 l9 l10 g1 hh e0 ht => ?_
    refine b_190_102 (ite_c (fun _ => nx _ _ _ _ (by omega) (by omega) e0 ht) (fun _ => ⟨k9, s_189 hr ht (by omega) (by omega) (fun v g2 e2 h2 => ⟨k9, s_189 hr h2 (by omega) (by omega) (fun v' g3 e3 h3 => ?_)⟩)⟩))
    have hw : wr (l13 + 4) = l13 + 4 := wr_id ⟨by omega, by omega⟩
    rw [hw] at ih ⊢
    exact ite_c (fun _ => ih (by omega) (by omega) _ _ _ _ (by omega) ((e0.tr e2).tr e3) h3) (fun _ => ite_c (fun _ => ih (by omega) (by omega) _ _ _ _ (by omega) ((e0.tr e2).tr e3) h3) (fun _ => ih (by omega) (by omega) _ _ _ _ (by omega) ((e0.tr e2).tr e3) h3))
  have out2 : ∀ (l2 l3 l5 l6 l7 : Int), l3 ≤ 40 → 2 ≤ l2 → ∀ l12 : Int, -2147483648 ≤ l12 → ∀ (l8 l9 l10 : Int) g1, ((l8 < 0 ∧ l12 ≤ l3) ∨ (4 ≤ l9 ∧ l9 ≤ 80)) → ME g g1 → GT g1 → WQ sc (d + 7) 190 Q 93 [(2, 165), (9, 0), (0, l2), (0, l3), (9, 0), (0, l5), (0, l6), (0, l7), (0, l8), (0, l9), (1, l10), (8, 0), (0, l12), (9, 0), (9, 0), (9, 0), (9, 0)] [] g1 r := by
    intro l2 l3 l5 l6 l7 h40 h2
    refine upW 41 (by decide) fun l12 _ ih l8 l9 l10 g1 hh e0 ht => ?_
    refine b_190_93 (ite_c (fun _ => ite_c (fun _ => ite_c (fun _ => h _ _ e0) (fun _ => h _ _ e0)) (fun _ => ⟨k9, s_189 hr ht (by omega) (by omega) (fun v g2 e2 h2 => out4 l3 l6 v h40 l2 (by omega) _ _ (e0.tr e2) h2)⟩)) (fun _ => in2 l2 l3 l5 l6 l7 l12 (fun l8 l9 l10 g1 a1 a2 e1 ht => ih (by omega) _ _ _ _ (Or.inr ⟨a1, a2⟩) e1 ht) 4 (by decide) (by decide) _ _ _ _ (by omega) e0 ht))
  refine c_190 ⟨k9, s_140 hr hi (fun m0 m6 _ hg _ _ _ _ _ => ?_) ?_⟩
  · rw [if_neg (by decide)]
    refine ite_c (fun _ => h _ _ (ME.rf g)) (fun _ => ite_c (fun _ => h _ _ (ME.rf g)) (fun _ => ite_c (fun _ => h _ _ (ME.rf g)) (fun _ => w_137 (fun _ _ => ?_) (fun _ => ?_))))
    · rw [if_neg (by decide)]
      refine w_137 (fun _ _ => ?_) (fun _ => ?_)
      · rw [if_neg (by decide)]
        exact ⟨by decide, by decide, k9, s_141 hr hi hg (fun v g1 e1 h6 => out2 l2 l3 l5 _ _ (by omega) (by omega) l2 (by omega) _ _ _ _ (Or.inl ⟨by decide, by omega⟩) e1 (gt_of h6))⟩
      · rw [if_pos rfl]; exact h _ _ (ME.rf g)
    · rw [if_pos rfl]; exact h _ _ (ME.rf g)
  · rw [if_pos rfl]; exact h _ _ (ME.rf g)
theorem tolP_b (g : GH) : ∀ n : Nat, 0 ≤ tolP g n ∧ tolP g n ≤ n := by
  intro n
  induction n with
  | zero => exact ⟨Int.le_refl 0, Int.le_refl 0⟩
  | succ n ih =>
    have e : tolP g (n + 1) = tolP g n + (if g 167 n = 0 then 0 else 1) := rfl
    rw [e]
    have hc : ((n + 1 : Nat) : Int) = (n : Int) + 1 := by omega
    rw [hc]
    split <;> omega
theorem s_206 (hr : RI r) (h : Q (tolP g 6) g r) : Ce sc (d + 1) 206 [(2, 165)] g r Q := by
  have k9 : okr 218 165 9 := okd (by decide +kernel)
  have loop : ∀ l2 : Int, -2147483648 ≤ l2 → 0 ≤ l2 → l2 ≤ 6 → WQ sc d 206 Q 4 [(2, 165), (0, tolP g l2.toNat), (0, l2)] [] g r := by
    refine upW 6 (by decide) fun l2 _ ih h0 h6 => ?_
    have hw : wr (l2 + 1) = l2 + 1 := wr_id ⟨by omega, by omega⟩
    have b := tolP_b g l2.toNat
    have hw1 : wr (tolP g l2.toNat + 1) = tolP g l2.toNat + 1 := wr_id ⟨by omega, by omega⟩
    have hw0 : wr (tolP g l2.toNat + 0) = tolP g l2.toNat := by rw [wr_id ⟨by omega, by omega⟩]; omega
    have e : tolP g (l2 + 1).toNat = tolP g l2.toNat + (if g 167 l2 = 0 then 0 else 1) := by
      have e1 : (l2 + 1).toNat = l2.toNat + 1 := by omega
      have e2 : ((l2.toNat : Nat) : Int) = l2 := by omega
      rw [e1]
      show tolP g l2.toNat + (if g 167 (l2.toNat : Int) = 0 then 0 else 1) = _
      rw [e2]
    refine b_206_4 ?_
    rw [hw] at ih ⊢
    rw [hw1, hw0, r_165_1 hr]
    refine ite_c (fun q => ⟨k9, Or.inr (i_167.mpr ⟨h0, by omega⟩), ite_c (fun z => ?_) (fun z => ?_)⟩) (fun _ => ?_)
    · have := ih q (by omega) (by omega)
      rw [e, if_pos z, Int.add_zero] at this
      exact this
    · have := ih q (by omega) (by omega)
      rw [e, if_neg z] at this
      exact this
    · have : l2 = 6 := by omega
      rw [this]; exact h
  exact c_206 (loop 0 (by decide) (by decide) (by decide))
theorem s_208 (hr : RI r) (hi : MI g) (h : ∀ v, Q v g r) : Ce sc (d + 2) 208 [(2, 165), (0, l1), (0, l2)] g r Q := by
  have k9 : okr 218 165 9 := okd (by decide +kernel)
  refine c_208 ?_
  repeat' first
    | (with_reducible refine ite_01 ?_)
    | (with_reducible refine ite_00 ?_)
    | (with_reducible refine And.intro ?_ ?_; · first | assumption | decide | (exact AR.i (by assumption) (by omega) (by omega)) | (exact AR.a (by assumption) (by decide) (by decide)) | (exact AR.k (by assumption)) | omega | (have := cmp_gt.mp (by assumption : 0 < cmpL _ 0); omega) | (exact i_195.mpr ⟨by omega, by omega⟩) | (exact i_196.mpr ⟨by omega, by omega⟩) | (exact i_199.mpr ⟨by omega, by omega⟩))
    | (simp only [r_165_40 hr, r_165_41 hr, r_165_44 hr])
    | (refine ite_c (fun _ => ?_) (fun _ => ?_))
    | (intro _ e1; subst e1)
    | (with_reducible refine s_140 hr hi (fun _ _ _ _ _ _ _ _ _ => ?_) ?_)
    | (exfalso; omega)
    | (exact absurd trivial (by assumption))
    | ((with_reducible refine h _))
theorem s_209 (hr : RI r) (h : ∀ v, Q v g r) : Ce sc (d + 1) 209 [(2, 165), (0, l1)] g r Q := by
  have k9 : okr 218 165 9 := okd (by decide +kernel)
  have loop : ∀ l6 : Int, -2147483648 ≤ l6 → 0 ≤ l6 → ∀ (l2 l4 : Int), WQ sc d 209 Q 8 [(2, 165), (0, l1), (1, l2), (8, 0), (1, l4), (8, 0), (0, l6)] [] g r := by
    refine upW 6 (by decide) fun l6 _ ih h0 l2 l4 => ?_
    refine b_209_8 ?_
    repeat' first
      | (with_reducible refine ite_01 ?_)
      | (with_reducible refine ite_00 ?_)
      | (with_reducible refine And.intro ?_ ?_; · first | assumption | decide | (exact AR.i (by assumption) (by omega) (by omega)) | (exact AR.a (by assumption) (by decide) (by decide)) | (exact AR.k (by assumption)) | omega | (have := cmp_gt.mp (by assumption : 0 < cmpL _ 0); omega) | (exact i_193.mpr ⟨by omega, by omega⟩) | (exact i_194.mpr ⟨by omega, by omega⟩) | (exact i_197.mpr ⟨by omega, by omega⟩) | (exact i_200.mpr ⟨by omega, by omega⟩) | (exact i_201.mpr ⟨by omega, by omega⟩))
      | (simp only [r_165_38 hr, r_165_39 hr, r_165_42 hr, r_165_45 hr, r_165_46 hr])
      | (with_reducible refine ⟨by decide, ?_⟩)
      | (refine ite_c (fun _ => ?_) (fun _ => ?_))
      | (intro _ e1; subst e1)
      | (exfalso; omega)
      | (exact absurd trivial (by assumption))
      | ((with_reducible refine ih ?_ ?_ _ _) <;> (first | ((repeat (with_reducible first | assumption | exact ME.rf _ | (refine ME.u ?_ (mw_of (by decide +kernel)) (by decide)) | (refine ME.ub ?_ (mw_of (by decide +kernel)) (by decide) (by first | decide | assumption)) | (refine ME.u ?_ (by unfold MW MV; omega) (by decide)) | (refine ME.ub ?_ (by unfold MW MV; omega) (by decide) (by first | decide | assumption)) | (refine ME.tr ?_ (by assumption)))); done) | omega | decide | (rw [wr_id ⟨by omega, by omega⟩]; omega)))
      | ((with_reducible refine h _))
  refine c_209 ?_
  repeat' first
    | (with_reducible refine ite_01 ?_)
    | (with_reducible refine ite_00 ?_)
    | (with_reducible refine And.intro ?_ ?_; · first | assumption | decide | (exact AR.i (by assumption) (by omega) (by omega)) | (exact AR.a (by assumption) (by decide) (by decide)) | (exact AR.k (by assumption)) | omega | (have := cmp_gt.mp (by assumption : 0 < cmpL _ 0); omega) | (exact i_193.mpr ⟨by omega, by omega⟩) | (exact i_194.mpr ⟨by omega, by omega⟩) | (exact i_197.mpr ⟨by omega, by omega⟩) | (exact i_200.mpr ⟨by omega, by omega⟩) | (exact i_201.mpr ⟨by omega, by omega⟩))
    | (simp only [r_165_38 hr, r_165_39 hr, r_165_42 hr, r_165_45 hr, r_165_46 hr])
    | (with_reducible refine ⟨by decide, ?_⟩)
    | (refine ite_c (fun _ => ?_) (fun _ => ?_))
    | (intro _ e1; subst e1)
    | (exfalso; omega)
    | (exact absurd trivial (by assumption))
    | ((with_reducible refine loop _ ?_ ?_ _ _) <;> (first | ((repeat (with_reducible first | assumption | exact ME.rf _ | (refine ME.u ?_ (mw_of (by decide +kernel)) (by decide)) | (refine ME.ub ?_ (mw_of (by decide +kernel)) (by decide) (by first | decide | assumption)) | (refine ME.u ?_ (by unfold MW MV; omega) (by decide)) | (refine ME.ub ?_ (by unfold MW MV; omega) (by decide) (by first | decide | assumption)) | (refine ME.tr ?_ (by assumption)))); done) | omega | decide | (rw [wr_id ⟨by omega, by omega⟩]; omega)))
    | ((with_reducible refine h _))
theorem s_198 (hr : RI r) (a0 : 0 ≤ l1) (a4 : l1 ≤ 4) (b6 : l2 < 6) (hb : 0 ≤ l2 → 1 ≤ g 175 l2) (h : ∀ v, Q v g r) : Ce sc (d + 1) 198 [(2, 165), (0, l1), (0, l2)] g r Q := by
  have k9 : okr 218 165 9 := okd (by decide +kernel)
  refine c_198 (ite_c (fun _ => h _) (fun q => ?_))
  have hb := hb (by omega)
  rw [wr_id (x := 6 * l1) ⟨by omega, by omega⟩, wr_id (x := 6 * l1 + l2) ⟨by omega, by omega⟩, r_165_38 hr, r_165_9 hr]
  exact ⟨k9, i_193.mpr ⟨by omega, by omega⟩, k9, i_175.mpr ⟨by omega, by omega⟩, by omega, h _⟩
theorem s_197 (hr : RI r) (a0 : 0 ≤ l1) (a6 : l1 < 6) (h : ∀ v, (v = -1 ∨ (l1 < v ∧ v < 6 ∧ g 167 v ≠ 0)) → Q v g r) : Ce sc (d + 1) 197 [(2, 165), (0, l1)] g r Q := by
  have k9 : okr 218 165 9 := okd (by decide +kernel)
  have loop : ∀ l2 : Int, -2147483648 ≤ l2 → l1 < l2 → WQ sc d 197 Q 4 [(2, 165), (9, 0), (0, l2)] [] g r := by
    refine upW 6 (by decide) fun l2 _ ih h0 => ?_
    refine b_197_4 ?_
    rw [r_165_1 hr]
    refine ite_c (fun q => ⟨k9, Or.inr (i_167.mpr ⟨by omega, by omega⟩), ite_c (fun _ => ih q (by rw [wr_id ⟨by omega, by omega⟩]; omega)) (fun z => h _ (Or.inr ⟨h0, q, z⟩))⟩) (fun _ => h _ (Or.inl rfl))
  have hw : wr (l1 + 1) = l1 + 1 := wr_id ⟨by omega, by omega⟩
  refine c_197 ?_
  rw [hw]
  exact loop _ (by omega) (by omega)
theorem s_210 (hr : RI r) (hi : MI g) (h : ∀ v, Q v g r) : Ce sc (d + 4) 210 [(2, 165), (0, l1), (0, l2)] g r Q := by
  have k9 : okr 218 165 9 := okd (by decide +kernel)
  refine c_210 ?_
  repeat' first
    | (with_reducible refine ite_01 ?_)
    | (with_reducible refine ite_00 ?_)
    | (with_reducible refine And.intro ?_ ?_; · first | assumption | decide | (exact AR.i (by assumption) (by omega) (by omega)) | (exact AR.a (by assumption) (by decide) (by decide)) | (exact AR.k (by assumption)) | omega | (have := cmp_gt.mp (by assumption : 0 < cmpL _ 0); omega) | (exact Or.inr (i_168.mpr ⟨by omega, by omega⟩)) | (exact i_168.mpr ⟨by omega, by omega⟩) | (exact i_169.mpr ⟨by omega, by omega⟩) | (exact i_170.mpr ⟨by omega, by omega⟩) | (exact i_171.mpr ⟨by omega, by omega⟩) | (exact i_172.mpr ⟨by omega, by omega⟩) | (exact i_173.mpr ⟨by omega, by omega⟩) | (exact i_174.mpr ⟨by omega, by omega⟩) | (exact i_175.mpr ⟨by omega, by omega⟩) | (exact i_176.mpr ⟨by omega, by omega⟩) | (exact i_177.mpr ⟨by omega, by omega⟩) | (exact i_178.mpr ⟨by omega, by omega⟩) | (exact i_179.mpr ⟨by omega, by omega⟩) | (exact i_193.mpr ⟨by omega, by omega⟩) | (exact i_194.mpr ⟨by omega, by omega⟩))
    | (simp only [r_165_2 hr, r_165_3 hr, r_165_4 hr, r_165_5 hr, r_165_6 hr, r_165_7 hr, r_165_8 hr, r_165_9 hr, r_165_10 hr, r_165_11 hr, r_165_12 hr, r_165_13 hr, r_165_38 hr, r_165_39 hr])
    | (with_reducible refine ⟨by decide, ?_⟩)
    | (refine ite_c (fun _ => ?_) (fun _ => ?_))
    | (intro _ e1; subst e1)
    | (with_reducible refine s_140 hr hi (fun _ _ _ _ _ _ _ _ _ => ?_) ?_)
    | (with_reducible refine s_164 hr (by assumption) (fun _ => ?_))
    | (with_reducible refine s_187 hr (by assumption) (fun _ => ?_))
    | (with_reducible refine s_198 hr (by omega) (by omega) (by omega) (fun _ => by omega) (fun _ => ?_))
    | (exfalso; omega)
    | (exact absurd trivial (by assumption))
    | ((with_reducible refine h _))
theorem s_211 (hr : RI r) (hi : MI g) (h1 : 0 ≤ g 197 0 → g 197 0 ≤ 936 → Q 1 g r) (h0 : Q 0 g r) : Ce sc (d + 2) 211 [(2, 165)] g r Q := by
  have k9 : okr 218 165 9 := okd (by decide +kernel)
  have b := hi.2.1.2.2.2.1 0 (by decide) (by decide)
  refine c_211 ⟨k9, s_206 hr (ite_c (fun _ => ⟨k9, ?_⟩) (fun _ => ⟨Or.inl rfl, h0⟩))⟩
  rw [r_165_42 hr, wr_id ⟨by omega, by omega⟩]
  exact ⟨i_197.mpr ⟨by decide, by decide⟩, ite_c (fun _ => ⟨Or.inl rfl, h0⟩) (fun _ => ⟨Or.inr rfl, h1 b.1 (by omega)⟩)⟩
theorem s_212 (hr : RI r) (h : ∀ v, Q v g r) : Ce sc (d + 1) 212 [(2, 165)] g r Q := by
  have k9 : okr 218 165 9 := okd (by decide +kernel)
  have loop : ∀ l3 : Int, -2147483648 ≤ l3 → 0 ≤ l3 → ∀ (l1 l2 : Int), WQ sc d 212 Q 6 [(2, 165), (0, l1), (0, l2), (0, l3)] [] g r := by
    refine upW 6 (by decide) fun l3 _ ih h0 l1 l2 => ?_
    refine b_212_6 ?_
    repeat' first
      | (with_reducible refine ite_01 ?_)
      | (with_reducible refine ite_00 ?_)
      | (with_reducible refine And.intro ?_ ?_; · first | assumption | decide | (exact AR.i (by assumption) (by omega) (by omega)) | (exact AR.a (by assumption) (by decide) (by decide)) | (exact AR.k (by assumption)) | omega | (have := cmp_gt.mp (by assumption : 0 < cmpL _ 0); omega) | (exact Or.inr (i_167.mpr ⟨by omega, by omega⟩)) | (exact i_167.mpr ⟨by omega, by omega⟩))
      | (simp only [r_165_1 hr])
      | (refine ite_c (fun _ => ?_) (fun _ => ?_))
      | (intro _ e1; subst e1)
      | (exfalso; omega)
      | (exact absurd trivial (by assumption))
      | ((with_reducible refine ih ?_ ?_ _ _) <;> (first | ((repeat (with_reducible first | assumption | exact ME.rf _ | (refine ME.u ?_ (mw_of (by decide +kernel)) (by decide)) | (refine ME.ub ?_ (mw_of (by decide +kernel)) (by decide) (by first | decide | assumption)) | (refine ME.u ?_ (by unfold MW MV; omega) (by decide)) | (refine ME.ub ?_ (by unfold MW MV; omega) (by decide) (by first | decide | assumption)) | (refine ME.tr ?_ (by assumption)))); done) | omega | decide | (rw [wr_id ⟨by omega, by omega⟩]; omega)))
      | ((with_reducible refine h _))
  refine c_212 ?_
  repeat' first
    | (with_reducible refine ite_01 ?_)
    | (with_reducible refine ite_00 ?_)
    | (with_reducible refine And.intro ?_ ?_; · first | assumption | decide | (exact AR.i (by assumption) (by omega) (by omega)) | (exact AR.a (by assumption) (by decide) (by decide)) | (exact AR.k (by assumption)) | omega | (have := cmp_gt.mp (by assumption : 0 < cmpL _ 0); omega) | (exact Or.inr (i_167.mpr ⟨by omega, by omega⟩)) | (exact i_167.mpr ⟨by omega, by omega⟩))
    | (simp only [r_165_1 hr])
    | (refine ite_c (fun _ => ?_) (fun _ => ?_))
    | (intro _ e1; subst e1)
    | (exfalso; omega)
    | (exact absurd trivial (by assumption))
    | ((with_reducible refine loop _ ?_ ?_ _ _) <;> (first | ((repeat (with_reducible first | assumption | exact ME.rf _ | (refine ME.u ?_ (mw_of (by decide +kernel)) (by decide)) | (refine ME.ub ?_ (mw_of (by decide +kernel)) (by decide) (by first | decide | assumption)) | (refine ME.u ?_ (by unfold MW MV; omega) (by decide)) | (refine ME.ub ?_ (by unfold MW MV; omega) (by decide) (by first | decide | assumption)) | (refine ME.tr ?_ (by assumption)))); done) | omega | decide | (rw [wr_id ⟨by omega, by omega⟩]; omega)))
    | ((with_reducible refine h _))
theorem s_213 (hr : RI r) (h : Q (if tolP g 6 < 3 then tolP g 6 else 3) g r) : Ce sc (d + 2) 213 [(2, 165)] g r Q := by
  have k9 : okr 218 165 9 := okd (by decide +kernel)
  refine c_213 ⟨k9, s_206 hr (ite_c (fun q => ⟨k9, s_206 hr ?_⟩) (fun q => ?_))⟩
  · rw [if_pos q] at h; exact h
  · rw [if_neg q] at h; exact h
/-- guilt of the model -/
theorem w_222 (hr : RI r) (h1 : TM g l1 ∧ 0 ≤ l2 ∧ l2 ≤ 99 → Q 1 (up g 181 l1 l2) r) (h0 : ¬ (TM g l1 ∧ 0 ≤ l2 ∧ l2 ≤ 99) → ∀ g', ME g g' → Q 0 g' r) : Ce sc (d + 2) 222 [(2, 165), (0, l1), (0, l2)] g r Q := by
  have k9 : okr 218 165 9 := okd (by decide +kernel)
  refine c_222 ⟨k9, w_140 hr (fun t => ?_) (fun t => ?_)⟩
  · rw [if_neg (by decide)]
    refine w_137 (fun q1 q2 => ?_) (fun q => ?_)
    · rw [if_neg (by decide), r_165_15 hr]
      exact ⟨k9, i_181.mpr ⟨t.1, t.2.1⟩, fun g3 e3 => ⟨Or.inr rfl, by rw [e3]; exact h1 ⟨t, q1, q2⟩⟩⟩
    · rw [if_pos rfl]
      exact ⟨k9, s_139 hr (fun g' e => ⟨Or.inl rfl, h0 (fun z => q z.2) _ e⟩)⟩
  · rw [if_pos rfl]
    exact ⟨k9, s_139 hr (fun g' e => ⟨Or.inl rfl, h0 (fun z => t z.1) _ e⟩)⟩
theorem s_224 (hr : RI r) (hi : MI g) (a0 : 0 ≤ l1) (a6 : l1 < 6) (h : ∀ v, Q v g r) : Ce sc (d + 1) 224 [(2, 165), (0, l1)] g r Q := by
  have k9 : okr 218 165 9 := okd (by decide +kernel)
  have c := hi.1.2.2.1
  have s9 := hi.1.2.2.2.2.2.2
  have loop : ∀ l4 : Int, -2147483648 ≤ l4 → 0 ≤ l4 → ∀ l2 : Int, WQ sc d 224 Q 15 [(2, 165), (0, l1), (1, l2), (8, 0), (0, l4)] [] g r := by
    refine upW 30 (by decide) fun l4 _ ih h0 l2 => ?_
    have e52 : l4 < 30 → ∀ t1 t0 : Int, WQ sc d 224 Q 52 [(2, 165), (0, l1), (9, 0), (9, 0), (0, l4)] [(0, t1), (1, t0)] g r := by
      intro q t1 t0
      refine b_224_52 ?_
      repeat' first
        | (with_reducible refine ite_01 ?_)
        | (with_reducible refine ite_00 ?_)
        | (with_reducible refine And.intro ?_ ?_; · first | assumption | decide | (exact AR.i (by assumption) (by omega) (by omega)) | (exact AR.a (by assumption) (by decide) (by decide)) | (exact AR.k (by assumption)) | omega | (have := cmp_gt.mp (by assumption : 0 < cmpL _ 0); omega) | (exact i_176.mpr ⟨by omega, by omega⟩) | (exact i_181.mpr ⟨by omega, by omega⟩) | (exact i_209.mpr ⟨by omega, by omega⟩) | (exact i_210.mpr ⟨by omega, by omega⟩))
        | (simp only [r_165_10 hr, r_165_15 hr, r_165_62 hr, r_165_63 hr])
        | (refine ite_c (fun _ => ?_) (fun _ => ?_))
        | (intro _ e1; subst e1)
        | (exfalso; omega)
        | (exact absurd trivial (by assumption))
        | ((with_reducible refine ih q ?_ _) <;> (first | ((repeat (with_reducible first | assumption | exact ME.rf _ | (refine ME.u ?_ (mw_of (by decide +kernel)) (by decide)) | (refine ME.ub ?_ (mw_of (by decide +kernel)) (by decide) (by first | decide | assumption)) | (refine ME.u ?_ (by unfold MW MV; omega) (by decide)) | (refine ME.ub ?_ (by unfold MW MV; omega) (by decide) (by first | decide | assumption)) | (refine ME.tr ?_ (by assumption)))); done) | omega | decide | (rw [wr_id ⟨by omega, by omega⟩]; omega)))
        | ((with_reducible refine h _))
    have z9 := s9 l4
    refine b_224_15 ?_
    repeat' first
      | (with_reducible refine ite_01 ?_)
      | (with_reducible refine ite_00 ?_)
      | (with_reducible refine And.intro ?_ ?_; · first | assumption | decide | (exact AR.i (by assumption) (by omega) (by omega)) | (exact AR.a (by assumption) (by decide) (by decide)) | (exact AR.k (by assumption)) | omega | (have := cmp_gt.mp (by assumption : 0 < cmpL _ 0); omega) | (exact i_176.mpr ⟨by omega, by omega⟩) | (exact i_181.mpr ⟨by omega, by omega⟩) | (exact i_209.mpr ⟨by omega, by omega⟩) | (exact i_210.mpr ⟨by omega, by omega⟩))
      | (simp only [r_165_10 hr, r_165_15 hr, r_165_62 hr, r_165_63 hr])
      | (refine ite_c (fun _ => ?_) (fun _ => ?_))
      | (intro _ e1; subst e1)
      | (exfalso; omega)
      | (exact absurd trivial (by assumption))
      | ((with_reducible refine e52 ?_ _ _) <;> (first | ((repeat (with_reducible first | assumption | exact ME.rf _ | (refine ME.u ?_ (mw_of (by decide +kernel)) (by decide)) | (refine ME.ub ?_ (mw_of (by decide +kernel)) (by decide) (by first | decide | assumption)) | (refine ME.u ?_ (by unfold MW MV; omega) (by decide)) | (refine ME.ub ?_ (by unfold MW MV; omega) (by decide) (by first | decide | assumption)) | (refine ME.tr ?_ (by assumption)))); done) | omega | decide | (rw [wr_id ⟨by omega, by omega⟩]; omega)))
      | ((with_reducible refine h _))
  refine c_224 ?_
  repeat' first
    | (with_reducible refine ite_01 ?_)
    | (with_reducible refine ite_00 ?_)
    | (with_reducible refine And.intro ?_ ?_; · first | assumption | decide | (exact AR.i (by assumption) (by omega) (by omega)) | (exact AR.a (by assumption) (by decide) (by decide)) | (exact AR.k (by assumption)) | omega | (have := cmp_gt.mp (by assumption : 0 < cmpL _ 0); omega) | (exact i_176.mpr ⟨by omega, by omega⟩) | (exact i_181.mpr ⟨by omega, by omega⟩) | (exact i_209.mpr ⟨by omega, by omega⟩) | (exact i_210.mpr ⟨by omega, by omega⟩))
    | (simp only [r_165_10 hr, r_165_15 hr, r_165_62 hr, r_165_63 hr])
    | (refine ite_c (fun _ => ?_) (fun _ => ?_))
    | (intro _ e1; subst e1)
    | (exfalso; omega)
    | (exact absurd trivial (by assumption))
    | ((with_reducible refine loop _ ?_ ?_ _) <;> (first | ((repeat (with_reducible first | assumption | exact ME.rf _ | (refine ME.u ?_ (mw_of (by decide +kernel)) (by decide)) | (refine ME.ub ?_ (mw_of (by decide +kernel)) (by decide) (by first | decide | assumption)) | (refine ME.u ?_ (by unfold MW MV; omega) (by decide)) | (refine ME.ub ?_ (by unfold MW MV; omega) (by decide) (by first | decide | assumption)) | (refine ME.tr ?_ (by assumption)))); done) | omega | decide | (rw [wr_id ⟨by omega, by omega⟩]; omega)))
    | ((with_reducible refine h _))
theorem s_225 (hl : l2 ≠ 0) (h : ∀ v, Q v g r) : Ce sc (d + 1) 225 [(1, l0), (1, l2)] g r Q := by
  have loop : ∀ l8 : Int, -2147483648 ≤ l8 → ∀ l4 l6 : Int, WQ sc d 225 Q 13 [(9, 0), (9, 0), (1, l2), (8, 0), (1, l4), (8, 0), (1, l6), (8, 0), (0, l8)] [] g r := by
    refine upW 6 (by decide) fun l8 _ ih l4 l6 => ?_
    exact b_225_13 (ite_c (fun q => ⟨hl, hl, ih q _ _⟩) (fun _ => h _))
  exact c_225 ⟨hl, hl, loop 0 (by decide) _ _⟩
theorem s_226 (hr : RI r) (hi : MI g) (a0 : 0 ≤ l1) (a6 : l1 < 6) (h : ∀ v, Q v g r) : Ce sc (d + 2) 226 [(2, 165), (0, l1)] g r Q := by
  have k9 : okr 218 165 9 := okd (by decide +kernel)
  have loop : ∀ l4 : Int, -2147483648 ≤ l4 → 0 ≤ l4 → ∀ (l2 : Int), WQ sc (d + 1) 226 Q 15 [(2, 165), (0, l1), (1, l2), (8, 0), (0, l4)] [] g r := by
    refine upW 6 (by decide) fun l4 _ ih h0 l2 => ?_
    refine b_226_15 ?_
    repeat' first
      | (with_reducible refine ite_01 ?_)
      | (with_reducible refine ite_00 ?_)
      | (with_reducible refine And.intro ?_ ?_; · first | assumption | decide | (exact AR.i (by assumption) (by omega) (by omega)) | (exact AR.a (by assumption) (by decide) (by decide)) | (exact AR.k (by assumption)) | omega | (have := cmp_gt.mp (by assumption : 0 < cmpL _ 0); omega) | (exact Or.inr (i_167.mpr ⟨by omega, by omega⟩)) | (exact i_167.mpr ⟨by omega, by omega⟩))
      | (simp only [r_165_1 hr])
      | (refine ite_c (fun _ => ?_) (fun _ => ?_))
      | (intro _ e1; subst e1)
      | (with_reducible refine s_140 hr hi (fun _ _ _ _ _ _ _ _ _ => ?_) ?_)
      | (with_reducible refine s_224 hr hi (by omega) (by omega) (fun _ => ?_))
      | (with_reducible refine s_225 (cmp_ne (by assumption)) (fun _ => ?_))
      | (exfalso; omega)
      | (exact absurd trivial (by assumption))
      | ((with_reducible refine ih ?_ ?_ _) <;> (first | ((repeat (with_reducible first | assumption | exact ME.rf _ | (refine ME.u ?_ (mw_of (by decide +kernel)) (by decide)) | (refine ME.ub ?_ (mw_of (by decide +kernel)) (by decide) (by first | decide | assumption)) | (refine ME.u ?_ (by unfold MW MV; omega) (by decide)) | (refine ME.ub ?_ (by unfold MW MV; omega) (by decide) (by first | decide | assumption)) | (refine ME.tr ?_ (by assumption)))); done) | omega | decide | (rw [wr_id ⟨by omega, by omega⟩]; omega)))
      | ((with_reducible refine h _))
  refine c_226 ?_
  repeat' first
    | (with_reducible refine ite_01 ?_)
    | (with_reducible refine ite_00 ?_)
    | (with_reducible refine And.intro ?_ ?_; · first | assumption | decide | (exact AR.i (by assumption) (by omega) (by omega)) | (exact AR.a (by assumption) (by decide) (by decide)) | (exact AR.k (by assumption)) | omega | (have := cmp_gt.mp (by assumption : 0 < cmpL _ 0); omega) | (exact Or.inr (i_167.mpr ⟨by omega, by omega⟩)) | (exact i_167.mpr ⟨by omega, by omega⟩))
    | (simp only [r_165_1 hr])
    | (refine ite_c (fun _ => ?_) (fun _ => ?_))
    | (intro _ e1; subst e1)
    | (with_reducible refine s_140 hr hi (fun _ _ _ _ _ _ _ _ _ => ?_) ?_)
    | (with_reducible refine s_224 hr hi (by omega) (by omega) (fun _ => ?_))
    | (with_reducible refine s_225 (cmp_ne (by assumption)) (fun _ => ?_))
    | (exfalso; omega)
    | (exact absurd trivial (by assumption))
    | ((with_reducible refine loop _ ?_ ?_ _) <;> (first | ((repeat (with_reducible first | assumption | exact ME.rf _ | (refine ME.u ?_ (mw_of (by decide +kernel)) (by decide)) | (refine ME.ub ?_ (mw_of (by decide +kernel)) (by decide) (by first | decide | assumption)) | (refine ME.u ?_ (by unfold MW MV; omega) (by decide)) | (refine ME.ub ?_ (by unfold MW MV; omega) (by decide) (by first | decide | assumption)) | (refine ME.tr ?_ (by assumption)))); done) | omega | decide | (rw [wr_id ⟨by omega, by omega⟩]; omega)))
    | ((with_reducible refine h _))
theorem s_227 (hr : RI r) (hi : MI g) (h : ∀ v, Q v g r) : Ce sc (d + 2) 227 [(2, 165), (0, l1), (0, l2), (0, l3)] g r Q := by
  have k9 : okr 218 165 9 := okd (by decide +kernel)
  have loop : ∀ l6 : Int, -2147483648 ≤ l6 → 0 ≤ l6 → ∀ (l5 : Int), WQ sc (d + 1) 227 Q 113 [(2, 165), (0, l1), (0, l2), (0, l3), (9, 0), (0, l5), (0, l6)] [] g r := by
    refine upW 6 (by decide) fun l6 _ ih h0 l5 => ?_
    refine b_227_113 ?_
    repeat' first
      | (with_reducible refine ite_01 ?_)
      | (with_reducible refine ite_00 ?_)
      | (with_reducible refine And.intro ?_ ?_; · first | assumption | decide | (exact AR.i (by assumption) (by omega) (by omega)) | (exact AR.a (by assumption) (by decide) (by decide)) | (exact AR.k (by assumption)) | omega | (have := cmp_gt.mp (by assumption : 0 < cmpL _ 0); omega) | (exact Or.inr (i_167.mpr ⟨by omega, by omega⟩)) | (exact i_167.mpr ⟨by omega, by omega⟩) | (exact i_169.mpr ⟨by omega, by omega⟩) | (exact i_170.mpr ⟨by omega, by omega⟩) | (exact i_177.mpr ⟨by omega, by omega⟩))
      | (simp only [r_165_1 hr, r_165_3 hr, r_165_4 hr, r_165_11 hr])
      | (refine ite_c (fun _ => ?_) (fun _ => ?_))
      | (intro _ e1; subst e1)
      | (with_reducible refine w_137 (fun _ _ => ?_) (fun _ => ?_))
      | (exfalso; omega)
      | (exact absurd trivial (by assumption))
      | ((with_reducible refine ih ?_ ?_ _) <;> (first | ((repeat (with_reducible first | assumption | exact ME.rf _ | (refine ME.u ?_ (mw_of (by decide +kernel)) (by decide)) | (refine ME.ub ?_ (mw_of (by decide +kernel)) (by decide) (by first | decide | assumption)) | (refine ME.u ?_ (by unfold MW MV; omega) (by decide)) | (refine ME.ub ?_ (by unfold MW MV; omega) (by decide) (by first | decide | assumption)) | (refine ME.tr ?_ (by assumption)))); done) | omega | decide | (rw [wr_id ⟨by omega, by omega⟩]; omega)))
      | ((with_reducible refine h _))
  refine c_227 ?_
  repeat' first
    | (with_reducible refine ite_01 ?_)
    | (with_reducible refine ite_00 ?_)
    | (with_reducible refine And.intro ?_ ?_; · first | assumption | decide | (exact AR.i (by assumption) (by omega) (by omega)) | (exact AR.a (by assumption) (by decide) (by decide)) | (exact AR.k (by assumption)) | omega | (have := cmp_gt.mp (by assumption : 0 < cmpL _ 0); omega) | (exact Or.inr (i_167.mpr ⟨by omega, by omega⟩)) | (exact i_167.mpr ⟨by omega, by omega⟩) | (exact i_169.mpr ⟨by omega, by omega⟩) | (exact i_170.mpr ⟨by omega, by omega⟩) | (exact i_177.mpr ⟨by omega, by omega⟩))
    | (simp only [r_165_1 hr, r_165_3 hr, r_165_4 hr, r_165_11 hr])
    | (refine ite_c (fun _ => ?_) (fun _ => ?_))
    | (intro _ e1; subst e1)
    | (with_reducible refine w_137 (fun _ _ => ?_) (fun _ => ?_))
    | (exfalso; omega)
    | (exact absurd trivial (by assumption))
    | ((with_reducible refine loop _ ?_ ?_ _) <;> (first | ((repeat (with_reducible first | assumption | exact ME.rf _ | (refine ME.u ?_ (mw_of (by decide +kernel)) (by decide)) | (refine ME.ub ?_ (mw_of (by decide +kernel)) (by decide) (by first | decide | assumption)) | (refine ME.u ?_ (by unfold MW MV; omega) (by decide)) | (refine ME.ub ?_ (by unfold MW MV; omega) (by decide) (by first | decide | assumption)) | (refine ME.tr ?_ (by assumption)))); done) | omega | decide | (rw [wr_id ⟨by omega, by omega⟩]; omega)))
    | ((with_reducible refine h _))
theorem s_232 (hr : RI r) (hi : MI g) (h : ∀ v, Q v g r) : Ce sc (d + 4) 232 [(2, 165), (0, l1), (0, l2), (0, l3), (0, l4)] g r Q := by
  have k9 : okr 218 165 9 := okd (by decide +kernel)
  refine c_232 ?_
  repeat' first
    | (with_reducible refine ite_01 ?_)
    | (with_reducible refine ite_00 ?_)
    | (with_reducible refine And.intro ?_ ?_; · first | assumption | decide | (exact AR.i (by assumption) (by omega) (by omega)) | (exact AR.a (by assumption) (by decide) (by decide)) | (exact AR.k (by assumption)) | omega | (have := cmp_gt.mp (by assumption : 0 < cmpL _ 0); omega))
    | (refine ite_c (fun _ => ?_) (fun _ => ?_))
    | (intro _ e1; subst e1)
    | (with_reducible refine w_137 (fun _ _ => ?_) (fun _ => ?_))
    | (with_reducible refine s_165 hr (by assumption) (by omega) (by omega) (fun _ => ?_))
    | (with_reducible refine s_167 hr (by assumption) (by omega) (by omega) (fun _ => ?_))
    | (with_reducible refine s_171 hr (by assumption) (fun _ _ _ _ => ?_))
    | (with_reducible refine s_172 hr (by assumption) (by omega) (by omega) (by first | omega | exact plc_m (by assumption) (by assumption) | exact plc_b (by assumption) (by assumption) (by assumption) (by assumption)) (fun _ => ?_))
    | (with_reducible refine w_178 (fun _ _ => ?_) (fun _ => ?_))
    | (with_reducible refine s_179 hr hi (fun _ _ _ _ _ _ _ _ _ => ?_) ?_)
    | (exfalso; omega)
    | (exact absurd trivial (by assumption))
    | ((with_reducible refine h _))
theorem s_234 (hr : RI r) (hi : MI g) (h : ∀ v, Q v g r) : Ce sc (d + 8) 234 [(2, 165), (0, l1), (0, l2), (0, l3), (0, l4)] g r Q := by
  have k9 : okr 218 165 9 := okd (by decide +kernel)
  have e69 : ∀ t0 : Int, 0 ≤ t0 → t0 ≤ 240 → GM g l1 → GM g l2 → WQ sc (d + 7) 234 Q 69 [(2, 165), (0, l1), (0, l2), (0, l3), (9, 0), (9, 0), (9, 0), (9, 0), (9, 0), (9, 0), (9, 0), (9, 0)] [(0, t0)] g r := by
    intro t0 x0 x1 g1 g2
    refine b_234_69 ?_
    repeat' first
      | (with_reducible refine ite_01 ?_)
      | (with_reducible refine ite_00 ?_)
      | (with_reducible refine And.intro ?_ ?_; · first | assumption | decide | (exact AR.i (by assumption) (by omega) (by omega)) | (exact AR.a (by assumption) (by decide) (by decide)) | (exact AR.k (by assumption)) | omega | (have := cmp_gt.mp (by assumption : 0 < cmpL _ 0); omega) | (exact Or.inr (i_168.mpr ⟨by omega, by omega⟩)) | (exact i_168.mpr ⟨by omega, by omega⟩) | (exact cmp_ne (by assumption)))
      | (simp only [r_165_2 hr])
      | (refine ite_c (fun _ => ?_) (fun _ => ?_))
      | (intro _ e1; subst e1)
      | (with_reducible refine w_137 (fun _ _ => ?_) (fun _ => ?_))
      | (with_reducible refine s_140 hr hi (fun _ _ _ _ _ _ _ _ _ => ?_) ?_)
      | (with_reducible refine s_177 hr (by assumption) (by omega) (by omega) (by omega) (by omega) (fun _ => ?_))
      | (with_reducible refine w_178 (fun _ _ => ?_) (fun _ => ?_))
      | (with_reducible refine s_179 hr hi (fun _ _ _ _ _ _ _ _ _ => ?_) ?_)
      | (with_reducible refine s_185 hr (by assumption) (by omega) (by omega) (fun _ _ _ => ?_))
      | (exfalso; omega)
      | (exact absurd trivial (by assumption))
      | ((with_reducible refine h _))
  refine c_234 ?_
  repeat' first
    | (with_reducible refine ite_01 ?_)
    | (with_reducible refine ite_00 ?_)
    | (with_reducible refine And.intro ?_ ?_; · first | assumption | decide | (exact AR.i (by assumption) (by omega) (by omega)) | (exact AR.a (by assumption) (by decide) (by decide)) | (exact AR.k (by assumption)) | omega | (have := cmp_gt.mp (by assumption : 0 < cmpL _ 0); omega) | (exact Or.inr (i_168.mpr ⟨by omega, by omega⟩)) | (exact i_168.mpr ⟨by omega, by omega⟩))
    | (simp only [r_165_2 hr])
    | (refine ite_c (fun _ => ?_) (fun _ => ?_))
    | (intro _ e1; subst e1)
    | (with_reducible refine w_137 (fun _ _ => ?_) (fun _ => ?_))
    | (with_reducible refine s_140 hr hi (fun _ _ _ _ _ _ _ _ _ => ?_) ?_)
    | (with_reducible refine s_177 hr (by assumption) (by omega) (by omega) (by omega) (by omega) (fun _ => ?_))
    | (with_reducible refine w_178 (fun _ _ => ?_) (fun _ => ?_))
    | (with_reducible refine s_179 hr hi (fun _ _ _ _ _ _ _ _ _ => ?_) ?_)
    | (with_reducible refine s_185 hr (by assumption) (by omega) (by omega) (fun _ _ _ => ?_))
    | (exfalso; omega)
    | (exact absurd trivial (by assumption))
    | ((with_reducible refine e69 _ ?_ ?_ ?_ ?_) <;> (first | ((repeat (with_reducible first | assumption | exact ME.rf _ | (refine ME.u ?_ (mw_of (by decide +kernel)) (by decide)) | (refine ME.ub ?_ (mw_of (by decide +kernel)) (by decide) (by first | decide | assumption)) | (refine ME.u ?_ (by unfold MW MV; omega) (by decide)) | (refine ME.ub ?_ (by unfold MW MV; omega) (by decide) (by first | decide | assumption)) | (refine ME.tr ?_ (by assumption)))); done) | omega | decide | (rw [wr_id ⟨by omega, by omega⟩]; omega)))
    | ((with_reducible refine e69 _ ?_ ?_ ?_ ?_) <;> (first | ((repeat (with_reducible first | assumption | exact ME.rf _ | (refine ME.u ?_ (mw_of (by decide +kernel)) (by decide)) | (refine ME.ub ?_ (mw_of (by decide +kernel)) (by decide) (by first | decide | assumption)) | (refine ME.u ?_ (by unfold MW MV; omega) (by decide)) | (refine ME.ub ?_ (by unfold MW MV; omega) (by decide) (by first | decide | assumption)) | (refine ME.tr ?_ (by assumption)))); done) | omega | decide | (rw [wr_id ⟨by omega, by omega⟩]; omega)))
    | ((with_reducible refine h _))
end MPM
