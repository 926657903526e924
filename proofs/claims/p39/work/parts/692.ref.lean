/-! the reference's methods without hours, second half; printed by a program (wip/gen/gen_m3.py) -/
theorem mb_198 {a b : GH} (hb : MB a) (e : ME a b) (k : Int) : b 198 k = 0 ∨ b 198 k = 1 := (e.2 hb).2.1 k
theorem mb_197 {a b : GH} (hb : MB a) (e : ME a b) {s : Int} (h0 : 0 ≤ s) (h1 : s < 4) : 0 ≤ b 197 s ∧ b 197 s ≤ 960 := (e.2 hb).2.2.2.1 s h0 h1
/-- what the comparison speaks of -/
def RK (g g' : GH) : Prop := (∀ i j, i < 165 ∨ i = 189 ∨ (i = 165 ∧ j = 25) → g' i j = g i j) ∧ g' 165 24 = g 165 24 ∧ g' 165 64 = g 165 64 ∧ g' 165 66 = g 165 66 ∧ g' 165 70 = g 165 70 ∧ ∀ j, g' 211 j = g 211 j
theorem ME.rk {g g' : GH} (h : ME g g') : RK g g' := ⟨fun i j hi => h.1 i j (by unfold MV; omega), h.1 165 24 (by unfold MV; omega), h.1 165 64 (by unfold MV; omega), h.1 165 66 (by unfold MV; omega), h.1 165 70 (by unfold MV; omega), fun j => h.1 211 j (by unfold MV; omega)⟩
/-- numbers that only MN asks for -/
theorem mi_num {g g' : GH} (h : MI g) (e : ∀ i j, MV i j → ¬ (i = 165) → (i ≠ 209 ∧ i ≠ 189 ∧ i ≠ 181 ∧ i ≠ 210) → i ≠ 211 → g' i j = g i j) (hb : MB g → MB g') (hn : MN g') : MI g' := by
  obtain ⟨h1, h2, h3⟩ := h
  refine ⟨hn, hb h2, fun m m0 m6 mt => ?_⟩
  rw [e 167 m (by unfold MV; omega) (by decide) (by decide) (by decide)] at mt
  obtain ⟨a1, a2, a3, a4⟩ := h3 m m0 m6 mt
  have e9 := e 179 m (by unfold MV; omega) (by decide) (by decide) (by decide)
  refine ⟨?_, by rw [e 175 m (by unfold MV; omega) (by decide) (by decide) (by decide)]; exact a2, by rw [e9]; exact a3, fun q q0 q1 => ?_⟩
  · unfold GM at a1 ⊢
    rw [e 171 m (by unfold MV; omega) (by decide) (by decide) (by decide), e 174 m (by unfold MV; omega) (by decide) (by decide) (by decide), e 177 m (by unfold MV; omega) (by decide) (by decide) (by decide)]
    exact a1
  · rw [e9] at q1
    obtain ⟨b1, b2, ht, b3, b4⟩ := a4 q q0 q1
    rw [e 183 q (by unfold MV; omega) (by decide) (by decide) (by decide), e 184 q (by unfold MV; omega) (by decide) (by decide) (by decide)]
    refine ⟨b1, b2, ht, b3, fun k k0 k1 => ?_⟩
    rw [e 185 k (by unfold MV; omega) (by decide) (by decide) (by decide), e 186 k (by unfold MV; omega) (by decide) (by decide) (by decide)]
    exact b4 k k0 k1
/-- but the numbers of the object itself, the mills seen and the loads -/
def MX (g g' : GH) : Prop := (∀ i j, MV i j → ¬ (i = 165) → (i ≠ 209 ∧ i ≠ 189 ∧ i ≠ 181 ∧ i ≠ 210) → i ≠ 211 → g' i j = g i j) ∧ (MB g → MB g')
theorem MX.rf (g : GH) : MX g g := ⟨fun _ _ _ _ _ _ => rfl, fun h => h⟩
theorem MX.u {a b : GH} {x j v : Int} (h : MX a b) (hx : MW x j ∨ x = 165 ∨ x = 209 ∨ x = 211 ∨ x = 189 ∨ x = 181 ∨ x = 210) (hb : x ≠ 168 ∧ x ≠ 197 ∧ x ≠ 198 ∧ x ≠ 204 ∧ x ≠ 207) : MX a (up b x j v) := by
  refine ⟨fun i k hi y z w => ?_, fun q => ?_⟩
  · have : ¬ (i = x ∧ k = j) := fun q => by
      rcases hx with e | e | e | e | e | e | e
      · exact e (by rw [← q.1, ← q.2]; exact hi)
      · exact y (q.1.trans e)
      · exact z.1 (q.1.trans e)
      · exact w (q.1.trans e)
      · exact z.2.1 (q.1.trans e)
      · exact z.2.2.1 (q.1.trans e)
      · exact z.2.2.2 (q.1.trans e)
    rw [up_o this]; exact h.1 i k hi y z w
  · have q2 := h.2 q
    unfold MB at q2 ⊢
    simp only [up_i (f := b) (i := x) (j := j) (v := v) hb.1.symm, up_i (f := b) (i := x) (j := j) (v := v) hb.2.1.symm, up_i (f := b) (i := x) (j := j) (v := v) hb.2.2.1.symm, up_i (f := b) (i := x) (j := j) (v := v) hb.2.2.2.1.symm, up_i (f := b) (i := x) (j := j) (v := v) hb.2.2.2.2.symm]
    exact q2
theorem MX.e {a b c : GH} (h : MX a b) (e : ME b c) : MX a c := ⟨fun i j hi y z w => (e.1 i j hi).trans (h.1 i j hi y z w), fun q => e.2 (h.2 q)⟩
section MPN
variable {sc : SCR} {d : Nat} {Q : QJ} {g r : GH} {l0 l1 l2 l3 l4 l5 l6 l7 l8 l9 l10 l11 l12 l13 l14 l15 l16 : Int}
theorem s_193 (hr : RI r) (hi : MI g) (h3 : l3 = 0 ∨ l3 = 1) (h : ∀ v g', (v = 0 ∨ v = 1) → ME g g' → Q v g' r) : Ce sc (d + 2) 193 [(2, 165), (0, l1), (0, l2), (0, l3)] g r Q := by
  have k9 : okr 218 165 9 := okd (by decide +kernel)
  refine c_193 ?_
  repeat' first
    | (with_reducible refine ite_01 ?_)
    | (with_reducible refine ite_00 ?_)
    | (with_reducible refine And.intro ?_ ?_; · first | assumption | decide | (exact AR.i (by assumption) (by omega) (by omega)) | (exact AR.a (by assumption) (by decide) (by decide)) | (exact AR.k (by assumption)) | omega | (have := cmp_gt.mp (by assumption : 0 < cmpL _ 0); omega) | (exact i_192.mpr ⟨by omega, by omega⟩) | (exact Or.inr (i_198.mpr ⟨by omega, by omega⟩)) | (exact i_198.mpr ⟨by omega, by omega⟩) | (exact Or.inr ⟨i_198.mpr ⟨by omega, by omega⟩, h3⟩))
    | (simp only [r_165_37 hr, r_165_43 hr])
    | (refine ite_c (fun _ => ?_) (fun _ => ?_))
    | (intro _ e1; subst e1)
    | (with_reducible refine w_137 (fun _ _ => ?_) (fun _ => ?_))
    | (with_reducible refine s_139 hr (fun _ _ => ?_))
    | (with_reducible refine w_178 (fun _ _ => ?_) (fun _ => ?_))
    | (exfalso; omega)
    | (exact absurd trivial (by assumption))
    | ((first | ((with_reducible refine h _ _ (Or.inl rfl) ?_); ((repeat (with_reducible first | assumption | exact ME.rf _ | (refine ME.u ?_ (mw_of (by decide +kernel)) (by decide)) | (refine ME.ub ?_ (mw_of (by decide +kernel)) (by decide) (by first | decide | assumption)) | (refine ME.u ?_ (by unfold MW MV; omega) (by decide)) | (refine ME.ub ?_ (by unfold MW MV; omega) (by decide) (by first | decide | assumption)) | (refine ME.tr ?_ (by assumption)))); done)) | ((with_reducible refine h _ _ (Or.inr rfl) ?_); ((repeat (with_reducible first | assumption | exact ME.rf _ | (refine ME.u ?_ (mw_of (by decide +kernel)) (by decide)) | (refine ME.ub ?_ (mw_of (by decide +kernel)) (by decide) (by first | decide | assumption)) | (refine ME.u ?_ (by unfold MW MV; omega) (by decide)) | (refine ME.ub ?_ (by unfold MW MV; omega) (by decide) (by first | decide | assumption)) | (refine ME.tr ?_ (by assumption)))); done))))
theorem s_194 (hr : RI r) (hi : MI g) (h : ∀ v, Q v g r) : Ce sc (d + 2) 194 [(2, 165), (0, l1)] g r Q := by
  have k9 : okr 218 165 9 := okd (by decide +kernel)
  refine c_194 ?_
  repeat' first
    | (with_reducible refine ite_01 ?_)
    | (with_reducible refine ite_00 ?_)
    | (with_reducible refine And.intro ?_ ?_; · first | assumption | decide | (exact AR.i (by assumption) (by omega) (by omega)) | (exact AR.a (by assumption) (by decide) (by decide)) | (exact AR.k (by assumption)) | omega | (have := cmp_gt.mp (by assumption : 0 < cmpL _ 0); omega) | (exact i_192.mpr ⟨by omega, by omega⟩))
    | (simp only [r_165_37 hr])
    | (refine ite_c (fun _ => ?_) (fun _ => ?_))
    | (intro _ e1; subst e1)
    | (with_reducible refine w_137 (fun _ _ => ?_) (fun _ => ?_))
    | (exfalso; omega)
    | (exact absurd trivial (by assumption))
    | ((with_reducible refine h _))
theorem s_195 (hr : RI r) (hi : MI g) (h : ∀ v g', ME g g' → Q v g' r) : Ce sc (d + 2) 195 [(2, 165), (0, l1)] g r Q := by
  have k9 : okr 218 165 9 := okd (by decide +kernel)
  have e74 : ∀ (t1 t0 : Int) g1, 0 ≤ l1 → l1 ≤ 39 → ME g g1 → WQ sc (d + 1) 195 Q 74 [(2, 165), (0, l1), (9, 0), (9, 0)] [(0, t1), (0, t0)] g1 r := by
    intro t1 t0 g1 x0 x1 e0
    refine b_195_74 ?_
    repeat' first
      | (with_reducible refine ite_01 ?_)
      | (with_reducible refine ite_00 ?_)
      | (with_reducible refine And.intro ?_ ?_; · first | assumption | decide | (exact AR.i (by assumption) (by omega) (by omega)) | (exact AR.a (by assumption) (by decide) (by decide)) | (exact AR.k (by assumption)) | omega | (have := cmp_gt.mp (by assumption : 0 < cmpL _ 0); omega) | (exact i_192.mpr ⟨by omega, by omega⟩))
      | (simp only [r_165_37 hr])
      | (refine ite_c (fun _ => ?_) (fun _ => ?_))
      | (intro _ e1; subst e1)
      | (with_reducible refine w_137 (fun _ _ => ?_) (fun _ => ?_))
      | (with_reducible refine s_138 hr (by decide) (by decide) (fun _ _ => ?_))
      | (exfalso; omega)
      | (exact absurd trivial (by assumption))
      | ((first | ((with_reducible refine h _ _ ?_); ((repeat (with_reducible first | assumption | exact ME.rf _ | (refine ME.u ?_ (mw_of (by decide +kernel)) (by decide)) | (refine ME.ub ?_ (mw_of (by decide +kernel)) (by decide) (by first | decide | assumption)) | (refine ME.u ?_ (by unfold MW MV; omega) (by decide)) | (refine ME.ub ?_ (by unfold MW MV; omega) (by decide) (by first | decide | assumption)) | (refine ME.tr ?_ (by assumption)))); done))))
  refine c_195 ?_
  repeat' first
    | (with_reducible refine ite_01 ?_)
    | (with_reducible refine ite_00 ?_)
    | (with_reducible refine And.intro ?_ ?_; · first | assumption | decide | (exact AR.i (by assumption) (by omega) (by omega)) | (exact AR.a (by assumption) (by decide) (by decide)) | (exact AR.k (by assumption)) | omega | (have := cmp_gt.mp (by assumption : 0 < cmpL _ 0); omega) | (exact i_192.mpr ⟨by omega, by omega⟩))
    | (simp only [r_165_37 hr])
    | (refine ite_c (fun _ => ?_) (fun _ => ?_))
    | (intro _ e1; subst e1)
    | (with_reducible refine w_137 (fun _ _ => ?_) (fun _ => ?_))
    | (with_reducible refine s_138 hr (by decide) (by decide) (fun _ _ => ?_))
    | (exfalso; omega)
    | (exact absurd trivial (by assumption))
    | ((with_reducible refine e74 _ _ _ ?_ ?_ ?_) <;> (first | ((repeat (with_reducible first | assumption | exact ME.rf _ | (refine ME.u ?_ (mw_of (by decide +kernel)) (by decide)) | (refine ME.ub ?_ (mw_of (by decide +kernel)) (by decide) (by first | decide | assumption)) | (refine ME.u ?_ (by unfold MW MV; omega) (by decide)) | (refine ME.ub ?_ (by unfold MW MV; omega) (by decide) (by first | decide | assumption)) | (refine ME.tr ?_ (by assumption)))); done) | omega | decide | (rw [wr_id ⟨by omega, by omega⟩]; omega)))
    | ((first | ((with_reducible refine h _ _ ?_); ((repeat (with_reducible first | assumption | exact ME.rf _ | (refine ME.u ?_ (mw_of (by decide +kernel)) (by decide)) | (refine ME.ub ?_ (mw_of (by decide +kernel)) (by decide) (by first | decide | assumption)) | (refine ME.u ?_ (by unfold MW MV; omega) (by decide)) | (refine ME.ub ?_ (by unfold MW MV; omega) (by decide) (by first | decide | assumption)) | (refine ME.tr ?_ (by assumption)))); done))))
theorem s_196 (hr : RI r) (hi : MI g) (h : ∀ v g', (v = 0 ∨ v = 1) → ME g g' → Q v g' r) : Ce sc (d + 2) 196 [(2, 165), (0, l1)] g r Q := by
  have k9 : okr 218 165 9 := okd (by decide +kernel)
  refine c_196 ?_
  repeat' first
    | (with_reducible refine ite_01 ?_)
    | (with_reducible refine ite_00 ?_)
    | (with_reducible refine And.intro ?_ ?_; · first | assumption | decide | (exact AR.i (by assumption) (by omega) (by omega)) | (exact AR.a (by assumption) (by decide) (by decide)) | (exact AR.k (by assumption)) | omega | (have := cmp_gt.mp (by assumption : 0 < cmpL _ 0); omega))
    | (refine ite_c (fun _ => ?_) (fun _ => ?_))
    | (intro _ e1; subst e1)
    | (with_reducible refine w_137 (fun _ _ => ?_) (fun _ => ?_))
    | (with_reducible refine s_139 hr (fun _ _ => ?_))
    | (exfalso; omega)
    | (exact absurd trivial (by assumption))
    | ((first | ((with_reducible refine h _ _ (Or.inl rfl) ?_); ((repeat (with_reducible first | assumption | exact ME.rf _ | (refine ME.u ?_ (mw_of (by decide +kernel)) (by decide)) | (refine ME.ub ?_ (mw_of (by decide +kernel)) (by decide) (by first | decide | assumption)) | (refine ME.u ?_ (by unfold MW MV; omega) (by decide)) | (refine ME.ub ?_ (by unfold MW MV; omega) (by decide) (by first | decide | assumption)) | (refine ME.tr ?_ (by assumption)))); done)) | ((with_reducible refine h _ _ (Or.inr rfl) ?_); ((repeat (with_reducible first | assumption | exact ME.rf _ | (refine ME.u ?_ (mw_of (by decide +kernel)) (by decide)) | (refine ME.ub ?_ (mw_of (by decide +kernel)) (by decide) (by first | decide | assumption)) | (refine ME.u ?_ (by unfold MW MV; omega) (by decide)) | (refine ME.ub ?_ (by unfold MW MV; omega) (by decide) (by first | decide | assumption)) | (refine ME.tr ?_ (by assumption)))); done))))
theorem s_223 (hr : RI r) (hi : MI g) (h : ∀ v g', MI g' → RK g g' → Q v g' r) : Ce sc (d + 2) 223 [(2, 165), (0, l1), (0, l2)] g r Q := by
  have k9 : okr 218 165 9 := okd (by decide +kernel)
  have c := hi.1.2.2.1
  have no : ∀ w, 0 ≤ w → w ≤ 2 → Ce sc (d + 1) 138 [(2, 165), (0, w)] g r (fun v2 g2 r2 => Q v2 g2 r2) := fun w w0 w2 => s_138 hr w0 w2 (fun g' e => h _ _ (hi.me e) e.rk)
  refine c_223 ⟨k9, s_140 hr hi (fun m0 m6 _ _ _ _ _ _ _ => ?_) ?_⟩
  · rw [if_neg (by decide)]
    refine w_137 (fun _ _ => ?_) (fun _ => ?_)
    · rw [if_neg (by decide), r_165_62 hr, r_165_63 hr]
      refine ⟨k9, ite_c (fun _ => ⟨k9, no 1 (by decide) (by decide)⟩) (fun q => ⟨k9, k9, i_209.mpr ⟨by omega, by omega⟩, fun g1 e1 => ⟨k9, k9, ?_, fun g2 e2 => ⟨k9, k9, fun g3 e3 => ⟨k9, h _ _ ?_ ?_⟩⟩⟩⟩)⟩
      · rw [e1, up_i (by decide)]; exact i_210.mpr ⟨by omega, by omega⟩
      · have n3 : ∀ j, g3 165 j = if j = 61 then g 165 61 + 1 else g 165 j := fun j => by
          rw [e3]
          by_cases z : j = 61
          · rw [z, up_s, e2, up_i (by decide), e1, up_i (by decide), wr_id ⟨by omega, by omega⟩, if_pos rfl]
          · rw [up_j z, e2, up_i (by decide), e1, up_i (by decide), if_neg z]
        have n9 : ∀ k, 0 ≤ g3 209 k ∧ g3 209 k ≤ 5 := fun k => by
          rw [e3, up_i (by decide), e2, up_i (by decide), e1]
          by_cases z : k = g 165 61
          · rw [z, up_s]; omega
          · rw [up_j z]; exact hi.1.2.2.2.2.2.2 k
        have e0 : MX g g3 := by
          rw [e3, e2, e1]
          exact (((MX.rf g).u (by omega) (by decide)).u (by omega) (by decide)).u (by omega) (by decide)
        refine mi_num hi e0.1 e0.2 ?_
        have hn := hi.1
        unfold MN at hn ⊢
        rw [n3, n3, n3, n3, n3, n3, if_neg (by decide), if_neg (by decide), if_pos rfl, if_neg (by decide), if_neg (by decide), if_neg (by decide)]
        exact ⟨hn.1, hn.2.1, ⟨by omega, by omega⟩, hn.2.2.2.1, hn.2.2.2.2.1, hn.2.2.2.2.2.1, n9⟩
      · have key : ∀ i j, i ≠ 209 → i ≠ 210 → ¬ (i = 165 ∧ j = 61) → g3 i j = g i j := fun i j a b c' => by
          rw [e3, up_o c', e2, up_i b, e1, up_i a]
        exact ⟨fun i j hi => key i j (by omega) (by omega) (by omega), key _ _ (by decide) (by decide) (by decide), key _ _ (by decide) (by decide) (by decide), key _ _ (by decide) (by decide) (by decide), key _ _ (by decide) (by decide) (by decide), fun j => key _ _ (by decide) (by decide) (by omega)⟩
    · rw [if_pos rfl]; exact ⟨k9, no 0 (by decide) (by decide)⟩
  · rw [if_pos rfl]; exact ⟨k9, no 0 (by decide) (by decide)⟩
/-- the numbers of the object after one of them has got one more -/
theorem mn_up {g : GH} {k v : Int} (hn : MN g) (h : (k = 24 → 0 ≤ v ∧ v ≤ 700) ∧ (k = 48 → 0 ≤ v ∧ v ≤ 3) ∧ (k = 61 → 0 ≤ v ∧ v ≤ 30) ∧ (k = 64 → 0 ≤ v ∧ v ≤ 24) ∧ (k = 66 → 0 ≤ v ∧ v ≤ 9) ∧ (k = 70 → 0 ≤ v ∧ v ≤ 8)) : MN (up g 165 k v) := by
  unfold MN at hn ⊢
  have key : ∀ j lo hi, (lo ≤ g 165 j ∧ g 165 j ≤ hi) → (k = j → lo ≤ v ∧ v ≤ hi) → lo ≤ up g 165 k v 165 j ∧ up g 165 k v 165 j ≤ hi := fun j lo hi a b => by
    by_cases z : k = j
    · rw [z, up_s]; exact b z
    · rw [up_j (fun q => z q.symm)]; exact a
  obtain ⟨a1, a2, a3, a4, a5, a6, a7⟩ := hn
  obtain ⟨b1, b2, b3, b4, b5, b6⟩ := h
  refine ⟨key _ _ _ a1 b1, key _ _ _ a2 b2, key _ _ _ a3 b3, key _ _ _ a4 b4, key _ _ _ a5 b5, key _ _ _ a6 b6, fun q => ?_⟩
  rw [up_i (by decide)]; exact a7 q
theorem mn_eq {g g' : GH} (hn : MN g) (e : ∀ i j, i = 165 ∨ i = 209 → g' i j = g i j) : MN g' := by
  unfold MN at hn ⊢
  have e9 : ∀ k, g' 209 k = g 209 k := fun k => e 209 k (Or.inr rfl)
  rw [e 165 24 (Or.inl rfl), e 165 48 (Or.inl rfl), e 165 61 (Or.inl rfl), e 165 64 (Or.inl rfl), e 165 66 (Or.inl rfl), e 165 70 (Or.inl rfl)]
  refine ⟨hn.1, hn.2.1, hn.2.2.1, hn.2.2.2.1, hn.2.2.2.2.1, hn.2.2.2.2.2.1, fun k => ?_⟩
  rw [e9]; exact hn.2.2.2.2.2.2 k
theorem s_228 (hr : RI r) (hi : MI g) (h1 : 0 ≤ l1 ∧ l1 ≤ 9999 ∧ g 165 64 < 24 → MI (up (up g 211 (g 165 64) l1) 165 64 (g 165 64 + 1)) → Q (g 165 64 + 1) (up (up g 211 (g 165 64) l1) 165 64 (g 165 64 + 1)) r) (h0 : ¬ (0 ≤ l1 ∧ l1 ≤ 9999 ∧ g 165 64 < 24) → ∀ g', ME g g' → Q (-1) g' r) : Ce sc (d + 2) 228 [(2, 165), (0, l1)] g r Q := by
  have k9 : okr 218 165 9 := okd (by decide +kernel)
  have c := hi.1.2.2.2.1
  refine c_228 (w_137 (fun q1 q2 => ?_) (fun q => ?_))
  · rw [if_neg (by decide), r_165_65 hr]
    refine ⟨k9, ite_c (fun q => ⟨k9, s_138 hr (by decide) (by decide) (h0 (fun z => by omega))⟩) (fun q => ⟨k9, k9, i_211.mpr ⟨by omega, by omega⟩, fun g1 e1 => ⟨k9, k9, fun g2 e2 => ⟨k9, ?_⟩⟩⟩)⟩
    have f1 : g1 165 64 = g 165 64 := by rw [e1, up_i (by decide)]
    have e0 : MX g (up (up g 211 (g 165 64) l1) 165 64 (g 165 64 + 1)) := ((MX.rf g).u (by omega) (by decide)).u (by omega) (by decide)
    have hh := h1 ⟨q1, q2, by omega⟩ (mi_num hi e0.1 e0.2 (mn_up (mn_eq hi.1 (fun i j z => by rw [up_i (by omega)])) (by omega)))
    rw [e2, up_s, f1, e1, wr_id ⟨by omega, by omega⟩]
    exact hh
  · rw [if_pos rfl]; exact ⟨k9, s_138 hr (by decide) (by decide) (h0 (fun z => q ⟨z.1, z.2.1⟩))⟩
theorem w_229 (hr : RI r) (hi : MI g) (h1 : 0 < g 165 64 → MI (up g 165 64 0) → Q (rimV (fun j => g 211 j) (g 165 64).toNat) (up g 165 64 0) r) (h0 : g 165 64 = 0 → Q (-1) g r) : Ce sc (d + 1) 229 [(2, 165)] g r Q := by
  have k9 : okr 218 165 9 := okd (by decide +kernel)
  obtain ⟨c0, c1⟩ := hi.1.2.2.2.1
  have e0 : MX g (up g 165 64 0) := (MX.rf g).u (by omega) (by decide)
  have hm : MI (up g 165 64 0) := mi_num hi e0.1 e0.2 (mn_up hi.1 (by omega))
  have two : ∀ (m : Nat) (i l2 l3 l4 l5 : Int), i + m = g 165 64 → 0 ≤ i → (Q (rend (fun j => g 211 j) l2 m l3 l4 l5 i) (up g 165 64 0) r) → WQ sc d 229 Q 54 [(2, 165), (9, 0), (0, l2), (0, l3), (0, l4), (0, l5), (0, i)] [] g r := by
    intro m
    induction m with
    | zero =>
      intro i l2 l3 l4 l5 e hi hq
      refine b_229_54 ⟨k9, ite_c (fun q => absurd q (by omega)) (fun _ => ⟨k9, fun g1 E1 => ?_⟩)⟩
      rw [E1]; exact hq
    | succ m ih =>
      intro i l2 l3 l4 l5 e hi hq
      refine b_229_54 ?_
      rw [r_165_65 hr]
      have hq2 : Q (rend (fun j => g 211 j) l2 m (wr (l3 + wr (l2 - g 211 i))) (if wr (l3 + wr (l2 - g 211 i)) < l4 then wr (l3 + wr (l2 - g 211 i)) else l4) (if l5 < wr (l3 + wr (l2 - g 211 i)) then wr (l3 + wr (l2 - g 211 i)) else l5) (i + 1)) (up g 165 64 0) r := hq
      have hw : wr (i + 1) = i + 1 := wr_id ⟨by omega, by omega⟩
      rw [hw]
      refine ⟨k9, ite_c (fun q => ⟨k9, i_211.mpr ⟨hi, by omega⟩, ?_⟩) (fun q => absurd (by omega) q)⟩
      refine ite_c (fun t => ?_) (fun t => ?_)
      · rw [if_pos t] at hq2
        refine ite_c (fun s => ?_) (fun s => ?_)
        · rw [if_pos s] at hq2; exact ih _ _ _ _ _ (by omega) (by omega) hq2
        · rw [if_neg s] at hq2; exact ih _ _ _ _ _ (by omega) (by omega) hq2
      · rw [if_neg t] at hq2
        refine ite_c (fun s => ?_) (fun s => ?_)
        · rw [if_pos s] at hq2; exact ih _ _ _ _ _ (by omega) (by omega) hq2
        · rw [if_neg s] at hq2; exact ih _ _ _ _ _ (by omega) (by omega) hq2
  have one : 0 < g 165 64 → ∀ (m : Nat) (i l1 : Int), i + m = g 165 64 → 0 ≤ i → (rsum (fun j => g 211 j) m l1 i = rsum (fun j => g 211 j) (g 165 64).toNat 0 0) → WQ sc d 229 Q 13 [(2, 165), (0, l1), (0, i), (9, 0), (9, 0), (9, 0), (9, 0)] [] g r := by
    intro hp m
    induction m with
    | zero =>
      intro i l1 e hi hs
      refine b_229_13 ⟨k9, ite_c (fun q => absurd q (by omega)) (fun _ => ⟨k9, by omega, ?_⟩)⟩
      have hs2 : l1 = rsum (fun j => g 211 j) (g 165 64).toNat 0 0 := hs
      refine two (g 165 64).toNat 0 _ _ _ _ (by omega) (by decide) ?_
      have hq := h1 hp hm
      unfold rimV at hq
      rw [show (((g 165 64).toNat : Nat) : Int) = g 165 64 by omega, ← hs2] at hq
      exact hq
    | succ m ih =>
      intro i l1 e hi hs
      refine b_229_13 ?_
      have hw : wr (i + 1) = i + 1 := wr_id ⟨by omega, by omega⟩
      rw [hw, r_165_65 hr]
      exact ⟨k9, ite_c (fun q => ⟨k9, i_211.mpr ⟨hi, by omega⟩, ih _ _ (by omega) (by omega) hs⟩) (fun q => absurd (by omega) q)⟩
  exact c_229 ⟨k9, ite_c (fun q => h0 q) (fun q => one (by omega) (g 165 64).toNat 0 0 (by omega) (by decide) rfl)⟩
theorem s_236 (hr : RI r) (hi : MI g) (h1 : (2 ≤ l1 ∧ l1 ≤ 40 ∧ 1 ≤ l2 ∧ l2 ≤ 9999) ∧ g 165 66 < 9 → ∀ g', MI g' → (∀ i j, i < 165 ∨ i = 189 ∨ (i = 165 ∧ j = 25) → g' i j = g i j) → g' 165 24 = g 165 24 → g' 165 64 = g 165 64 → (∀ j, g' 211 j = g 211 j) → (∀ j, j = 66 ∨ j = 70 → g' 165 j = if j = 66 then g 165 66 + 1 else g 165 j) → Q (g 165 66 + 1) g' r) (h0 : ¬ ((2 ≤ l1 ∧ l1 ≤ 40 ∧ 1 ≤ l2 ∧ l2 ≤ 9999) ∧ g 165 66 < 9) → ∀ g', ME g g' → Q (-1) g' r) : Ce sc (d + 2) 236 [(2, 165), (0, l1), (0, l2)] g r Q := by
  have k9 : okr 218 165 9 := okd (by decide +kernel)
  have c := hi.1.2.2.2.2.1
  refine c_236 (w_137 (fun q1 q2 => ?_) (fun q => ?_))
  · rw [if_neg (by decide)]
    refine w_137 (fun q3 q4 => ?_) (fun q => ?_)
    · rw [if_neg (by decide), r_165_67 hr, r_165_68 hr]
      refine ⟨k9, ite_c (fun q => ⟨k9, s_138 hr (by decide) (by decide) (h0 (fun z => by omega))⟩) (fun q => ⟨k9, k9, i_212.mpr ⟨by omega, by omega⟩, fun g1 e1 => ⟨k9, k9, ?_, fun g2 e2 => ⟨k9, k9, fun g3 e3 => ⟨k9, ?_⟩⟩⟩⟩)⟩
      · rw [e1, up_i (by decide)]; exact i_213.mpr ⟨by omega, by omega⟩
      · have f1 : g1 165 66 = g 165 66 := by rw [e1, up_i (by decide)]
        have f2 : g2 165 66 = g 165 66 := by rw [e2, up_i (by decide), f1]
        have e3' : g3 = up g2 165 66 (g 165 66 + 1) := by rw [e3, f2, wr_id ⟨by omega, by omega⟩]
        have e0 : MX g g3 := by
          rw [e3', e2, e1]
          exact (((MX.rf g).u (Or.inl (by unfold MW MV; omega)) (by decide)).u (Or.inl (by unfold MW MV; omega)) (by decide)).u (by omega) (by decide)
        have key : ∀ i j, i ≠ 212 → i ≠ 213 → ¬ (i = 165 ∧ j = 66) → g3 i j = g i j := fun i j a b c' => by
          rw [e3', up_o c', e2, up_i b, e1, up_i a]
        have hv : g3 165 66 = g 165 66 + 1 := by rw [e3', up_s]
        rw [hv]
        refine h1 ⟨⟨q1, q2, q3, q4⟩, by omega⟩ g3 (mi_num hi e0.1 e0.2 ?_) (fun i j z => key i j (by omega) (by omega) (by omega)) (key _ _ (by decide) (by decide) (by decide)) (key _ _ (by decide) (by decide) (by decide)) (fun j => key _ _ (by decide) (by decide) (by omega)) (fun j _ => ?_)
        · rw [e3']
          exact mn_up (mn_eq hi.1 (fun i j z => by rw [e2, up_i (by omega), e1, up_i (by omega)])) (by omega)
        · by_cases z : j = 66
          · rw [z, hv, if_pos rfl]
          · rw [if_neg z]; exact key _ _ (by decide) (by decide) (by omega)
    · rw [if_pos rfl]; exact ⟨k9, s_138 hr (by decide) (by decide) (h0 (fun z => q ⟨z.1.2.2.1, z.1.2.2.2⟩))⟩
  · rw [if_pos rfl]; exact ⟨k9, s_138 hr (by decide) (by decide) (h0 (fun z => q ⟨z.1.1, z.1.2.1⟩))⟩
theorem s_240 (hr : RI r) (hi : MI g) (h1 : (1 ≤ l1 ∧ l1 ≤ 24 ∧ 1 ≤ l2 ∧ l2 ≤ 999999999) ∧ g 165 70 < 8 → ∀ g', MI g' → (∀ i j, i < 165 ∨ i = 189 ∨ (i = 165 ∧ j = 25) → g' i j = g i j) → g' 165 24 = g 165 24 → g' 165 64 = g 165 64 → (∀ j, g' 211 j = g 211 j) → (∀ j, j = 66 ∨ j = 70 → g' 165 j = if j = 70 then g 165 70 + 1 else g 165 j) → Q (g 165 70 + 1) g' r) (h0 : ¬ ((1 ≤ l1 ∧ l1 ≤ 24 ∧ 1 ≤ l2 ∧ l2 ≤ 999999999) ∧ g 165 70 < 8) → ∀ g', ME g g' → Q (-1) g' r) : Ce sc (d + 2) 240 [(2, 165), (0, l1), (0, l2)] g r Q := by
  have k9 : okr 218 165 9 := okd (by decide +kernel)
  have c := hi.1.2.2.2.2.2.1
  refine c_240 (w_137 (fun q1 q2 => ?_) (fun q => ?_))
  · rw [if_neg (by decide)]
    refine w_137 (fun q3 q4 => ?_) (fun q => ?_)
    · rw [if_neg (by decide), r_165_71 hr, r_165_72 hr]
      refine ⟨k9, ite_c (fun q => ⟨k9, s_138 hr (by decide) (by decide) (h0 (fun z => by omega))⟩) (fun q => ⟨k9, k9, i_215.mpr ⟨by omega, by omega⟩, fun g1 e1 => ⟨k9, k9, ?_, fun g2 e2 => ⟨k9, k9, fun g3 e3 => ⟨k9, ?_⟩⟩⟩⟩)⟩
      · rw [e1, up_i (by decide)]; exact i_216.mpr ⟨by omega, by omega⟩
      · have f1 : g1 165 70 = g 165 70 := by rw [e1, up_i (by decide)]
        have f2 : g2 165 70 = g 165 70 := by rw [e2, up_i (by decide), f1]
        have e3' : g3 = up g2 165 70 (g 165 70 + 1) := by rw [e3, f2, wr_id ⟨by omega, by omega⟩]
        have e0 : MX g g3 := by
          rw [e3', e2, e1]
          exact (((MX.rf g).u (Or.inl (by unfold MW MV; omega)) (by decide)).u (Or.inl (by unfold MW MV; omega)) (by decide)).u (by omega) (by decide)
        have key : ∀ i j, i ≠ 215 → i ≠ 216 → ¬ (i = 165 ∧ j = 70) → g3 i j = g i j := fun i j a b c' => by
          rw [e3', up_o c', e2, up_i b, e1, up_i a]
        have hv : g3 165 70 = g 165 70 + 1 := by rw [e3', up_s]
        rw [hv]
        refine h1 ⟨⟨q1, q2, q3, q4⟩, by omega⟩ g3 (mi_num hi e0.1 e0.2 ?_) (fun i j z => key i j (by omega) (by omega) (by omega)) (key _ _ (by decide) (by decide) (by decide)) (key _ _ (by decide) (by decide) (by decide)) (fun j => key _ _ (by decide) (by decide) (by omega)) (fun j _ => ?_)
        · rw [e3']
          exact mn_up (mn_eq hi.1 (fun i j z => by rw [e2, up_i (by omega), e1, up_i (by omega)])) (by omega)
        · by_cases z : j = 70
          · rw [z, hv, if_pos rfl]
          · rw [if_neg z]; exact key _ _ (by decide) (by decide) (by omega)
    · rw [if_pos rfl]; exact ⟨k9, s_138 hr (by decide) (by decide) (h0 (fun z => q ⟨z.1.2.2.1, z.1.2.2.2⟩))⟩
  · rw [if_pos rfl]; exact ⟨k9, s_138 hr (by decide) (by decide) (h0 (fun z => q ⟨z.1.1, z.1.2.1⟩))⟩
end MPN
