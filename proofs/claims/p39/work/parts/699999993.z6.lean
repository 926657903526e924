/-! the reference's asking calls leave the brook and its images alone; printed by a program (wip/gen/gen_z6.py) -/
def MV6 (i j : Int) : Prop := MV i j ∨ MZV i j ∨ i = 212 ∨ i = 213 ∨ i = 215 ∨ i = 216 ∨ i = 166
def MW6 (i j : Int) : Prop := ¬ MV6 i j
def MFZ (g g' : GH) : Prop := (∀ i j, MV6 i j → g' i j = g i j) ∧ (MB g → MB g')
theorem MFZ.rf (g : GH) : MFZ g g := ⟨fun _ _ _ => rfl, fun h => h⟩
theorem MFZ.tr {a b c : GH} (h1 : MFZ a b) (h2 : MFZ b c) : MFZ a c := ⟨fun i j h => (h2.1 i j h).trans (h1.1 i j h), fun h => h2.2 (h1.2 h)⟩
theorem MFZ.u {a b : GH} {x j v : Int} (h : MFZ a b) (hx : MW6 x j) (hb : x ≠ 168 ∧ x ≠ 197 ∧ x ≠ 198 ∧ x ≠ 204 ∧ x ≠ 207) : MFZ a (up b x j v) := by
  refine ⟨fun i k hi => ?_, fun q => ?_⟩
  · have : ¬ (i = x ∧ k = j) := fun q => hx (by rw [← q.1, ← q.2]; exact hi)
    rw [up_o this]; exact h.1 i k hi
  · have q2 := h.2 q
    unfold MB at q2 ⊢
    simp only [up_i (f := b) (i := x) (j := j) (v := v) hb.1.symm, up_i (f := b) (i := x) (j := j) (v := v) hb.2.1.symm, up_i (f := b) (i := x) (j := j) (v := v) hb.2.2.1.symm, up_i (f := b) (i := x) (j := j) (v := v) hb.2.2.2.1.symm, up_i (f := b) (i := x) (j := j) (v := v) hb.2.2.2.2.symm]
    exact q2
theorem MFZ.ub {a b : GH} {x j v : Int} (h : MFZ a b) (hx : MW6 x j) (hb : x = 168 ∨ x = 198 ∨ x = 204) (hv : v = 0 ∨ v = 1) : MFZ a (up b x j v) := by
  refine ⟨fun i k hi => ?_, fun q => ?_⟩
  · have : ¬ (i = x ∧ k = j) := fun q => hx (by rw [← q.1, ← q.2]; exact hi)
    rw [up_o this]; exact h.1 i k hi
  · obtain ⟨q1, q2, q3, q4, q5⟩ := h.2 q
    have key : ∀ y k, (b y k = 0 ∨ b y k = 1) → (up b x j v y k = 0 ∨ up b x j v y k = 1) := fun y k hh => by
      by_cases z : y = x ∧ k = j
      · rw [z.1, z.2, up_s]; exact hv
      · rw [up_o z]; exact hh
    refine ⟨fun k => key _ _ (q1 k), fun k => key _ _ (q2 k), fun k => key _ _ (q3 k), fun s s0 s1 => ?_, fun k => ?_⟩
    · rw [up_i (by omega)]; exact q4 s s0 s1
    · rw [up_i (by omega)]; exact q5 k
theorem MFZ.u7 {a b : GH} {j v : Int} (h : MFZ a b) (hv : 4 ≤ j) : MFZ a (up b 197 j v) := by
  refine ⟨fun i k hi => ?_, fun q => ?_⟩
  · have : ¬ (i = 197 ∧ k = j) := fun q => by unfold MV6 MV MZV at hi; omega
    rw [up_o this]; exact h.1 i k hi
  · obtain ⟨q1, q2, q3, q4, q5⟩ := h.2 q
    refine ⟨fun k => by rw [up_i (by decide)]; exact q1 k, fun k => by rw [up_i (by decide)]; exact q2 k, fun k => by rw [up_i (by decide)]; exact q3 k, fun s s0 s1 => ?_, fun k => by rw [up_i (by decide)]; exact q5 k⟩
    by_cases z : s = j
    · rw [z, up_s]; omega
    · rw [up_j z]; exact q4 s s0 s1
theorem MFZ.ur {a b : GH} {j v : Int} (h : MFZ a b) (hv : rL v) : MFZ a (up b 207 j v) := by
  refine ⟨fun i k hi => ?_, fun q => ?_⟩
  · have : ¬ (i = 207 ∧ k = j) := fun q => by unfold MV6 MV MZV at hi; omega
    rw [up_o this]; exact h.1 i k hi
  · obtain ⟨q1, q2, q3, q4, q5⟩ := h.2 q
    refine ⟨fun k => by rw [up_i (by decide)]; exact q1 k, fun k => by rw [up_i (by decide)]; exact q2 k, fun k => by rw [up_i (by decide)]; exact q3 k, fun s s0 s1 => by rw [up_i (by decide)]; exact q4 s s0 s1, fun k => ?_⟩
    by_cases z : k = j
    · rw [z, up_s]; exact hv
    · rw [up_j z]; exact q5 k
theorem MFZ.me {g g' : GH} (h : MFZ g g') : ME g g' := ⟨fun i j z => h.1 i j (Or.inl z), h.2⟩
theorem MFZ.z {g g' : GH} (h : MFZ g g') : Z6 g g' := ⟨fun i j z => h.1 i j (Or.inl (Or.inl (by unfold CZV at z; omega))), fun i j z => h.1 i j (Or.inr (Or.inl z))⟩
/-- falls and orders told stay too (for a later invariant) -/
theorem MFZ.f {g g' : GH} (h : MFZ g g') {i : Int} (hi : i = 212 ∨ i = 213 ∨ i = 215 ∨ i = 216 ∨ i = 166) (j : Int) : g' i j = g i j := h.1 i j (Or.inr (Or.inr hi))
def MHF (g g' : GH) : Prop := MFZ g g' ∧ (∀ j, g' 165 j = g 165 j) ∧ ∀ j, g' 197 j = g 197 j
theorem MHF.rf (g : GH) : MHF g g := ⟨MFZ.rf g, fun _ => rfl, fun _ => rfl⟩
theorem MHF.tr {a b c : GH} (h1 : MHF a b) (h2 : MHF b c) : MHF a c := ⟨h1.1.tr h2.1, fun j => (h2.2.1 j).trans (h1.2.1 j), fun j => (h2.2.2 j).trans (h1.2.2 j)⟩
theorem MHF.u {a b : GH} {x j v : Int} (h : MHF a b) (hx : MW6 x j) (hb : x ≠ 168 ∧ x ≠ 197 ∧ x ≠ 198 ∧ x ≠ 204 ∧ x ≠ 207 ∧ x ≠ 165) : MHF a (up b x j v) := ⟨h.1.u hx ⟨hb.1, hb.2.1, hb.2.2.1, hb.2.2.2.1, hb.2.2.2.2.1⟩, fun k => by rw [up_i hb.2.2.2.2.2.symm]; exact h.2.1 k, fun k => by rw [up_i hb.2.1.symm]; exact h.2.2 k⟩
theorem MHF.ub {a b : GH} {j v : Int} (h : MHF a b) (hv : v = 0 ∨ v = 1) : MHF a (up b 204 j v) := ⟨h.1.ub (by unfold MW6 MV6 MV MZV; omega) (by decide) hv, fun k => by rw [up_i (by decide)]; exact h.2.1 k, fun k => by rw [up_i (by decide)]; exact h.2.2 k⟩
theorem MHF.ur {a b : GH} {j v : Int} (h : MHF a b) (hv : rL v) : MHF a (up b 207 j v) := ⟨h.1.ur hv, fun k => by rw [up_i (by decide)]; exact h.2.1 k, fun k => by rw [up_i (by decide)]; exact h.2.2 k⟩
theorem MHF.u8 {a b : GH} {j v : Int} (h : MHF a b) (hj : 160 ≤ j) (hv : v = 0 ∨ v = 1) : MHF a (up b 198 j v) := ⟨h.1.ub (by unfold MW6 MV6 MV MZV; omega) (by decide) hv, fun k => by rw [up_i (by decide)]; exact h.2.1 k, fun k => by rw [up_i (by decide)]; exact h.2.2 k⟩
def M4F (g g' : GH) : Prop := MFZ g g' ∧ ∀ j, j ≠ 4 → g' 197 j = g 197 j
theorem M4F.rf (g : GH) : M4F g g := ⟨MFZ.rf g, fun _ _ => rfl⟩
theorem M4F.tr {a b c : GH} (h1 : M4F a b) (h2 : M4F b c) : M4F a c := ⟨h1.1.tr h2.1, fun j z => (h2.2 j z).trans (h1.2 j z)⟩
theorem M4F.u {a b : GH} {x j v : Int} (h : M4F a b) (hx : MW6 x j) (hb : x ≠ 168 ∧ x ≠ 197 ∧ x ≠ 198 ∧ x ≠ 204 ∧ x ≠ 207) : M4F a (up b x j v) := ⟨h.1.u hx hb, fun k z => by rw [up_i hb.2.1.symm]; exact h.2 k z⟩
section ZF6
variable {sc : SCR} {d : Nat} {Q : QJ} {g r : GH} {l0 l1 l2 l3 l4 l5 l6 l7 l8 l9 l10 l11 l12 l13 l14 l15 l16 t0 : Int}
theorem y_141 (hr : RI r) (hi : MI g) (hg : GM g l1) (h : ∀ v g', MFZ g g' → GM g' 6 → Q v g' r) : Ce sc (d + 1) 141 [(2, 165), (0, l1), (0, 6)] g r Q := by
  have k9 : okr 218 165 9 := okd (by decide +kernel)
  have hg0 := hg
  obtain ⟨m0, m6, b0, b1, d0, d1, p0, p1⟩ := hg
  have hb := hi.2.1.1 l1
  refine c_141 ?_
  repeat' first
    | (with_reducible refine ite_01 ?_)
    | (with_reducible refine ite_00 ?_)
    | (with_reducible refine And.intro ?_ ?_; · first | assumption | decide | (exact AR.i (by assumption) (by omega) (by omega)) | (exact AR.a (by assumption) (by decide) (by decide)) | (exact AR.k (by assumption)) | omega | (have := cmp_gt.mp (by assumption : 0 < cmpL _ 0); omega) | (exact Or.inr (i_168.mpr ⟨by omega, by omega⟩)) | (exact i_168.mpr ⟨by omega, by omega⟩) | (exact i_169.mpr ⟨by omega, by omega⟩) | (exact i_170.mpr ⟨by omega, by omega⟩) | (exact i_171.mpr ⟨by omega, by omega⟩) | (exact i_172.mpr ⟨by omega, by omega⟩) | (exact i_173.mpr ⟨by omega, by omega⟩) | (exact i_174.mpr ⟨by omega, by omega⟩) | (exact i_175.mpr ⟨by omega, by omega⟩) | (exact i_176.mpr ⟨by omega, by omega⟩) | (exact i_177.mpr ⟨by omega, by omega⟩) | (exact i_178.mpr ⟨by omega, by omega⟩) | (exact Or.inr ⟨i_168.mpr ⟨by omega, by omega⟩, hb⟩))
    | (simp only [r_165_2 hr, r_165_3 hr, r_165_4 hr, r_165_5 hr, r_165_6 hr, r_165_7 hr, r_165_8 hr, r_165_9 hr, r_165_10 hr, r_165_11 hr, r_165_12 hr])
    | (refine ite_c (fun _ => ?_) (fun _ => ?_))
    | (intro _ e1; subst e1)
    | (exfalso; omega)
    | (exact absurd trivial (by assumption))
    | ((first | (with_reducible refine h _ _ ?_ ?_)))
  all_goals first | ((repeat (with_reducible first | assumption | exact MFZ.rf _ | (refine MFZ.u ?_ (by unfold MW6 MV6 MV MZV; omega) (by decide)) | (refine MFZ.ub ?_ (by unfold MW6 MV6 MV MZV; omega) (by decide) (by first | decide | assumption)) | (refine MFZ.u ?_ (by unfold MW6 MV6 MV MZV; omega) (by decide)) | (refine MFZ.ub ?_ (by unfold MW6 MV6 MV MZV; omega) (by decide) (by first | decide | assumption)) | (refine MFZ.tr ?_ (by assumption)))); done) | skip
  unfold GM
  simp only [up_s, up_i (show (171 : Int) ≠ 178 by decide), up_i (show (171 : Int) ≠ 177 by decide), up_i (show (171 : Int) ≠ 176 by decide), up_i (show (171 : Int) ≠ 175 by decide), up_i (show (171 : Int) ≠ 174 by decide), up_i (show (171 : Int) ≠ 173 by decide), up_i (show (171 : Int) ≠ 172 by decide), up_i (show (171 : Int) ≠ 170 by decide), up_i (show (171 : Int) ≠ 169 by decide), up_i (show (171 : Int) ≠ 168 by decide), up_i (show (174 : Int) ≠ 178 by decide), up_i (show (174 : Int) ≠ 177 by decide), up_i (show (174 : Int) ≠ 176 by decide), up_i (show (174 : Int) ≠ 175 by decide), up_i (show (174 : Int) ≠ 173 by decide), up_i (show (174 : Int) ≠ 172 by decide), up_i (show (174 : Int) ≠ 171 by decide), up_i (show (174 : Int) ≠ 170 by decide), up_i (show (174 : Int) ≠ 169 by decide), up_i (show (174 : Int) ≠ 168 by decide), up_i (show (177 : Int) ≠ 178 by decide), up_i (show (177 : Int) ≠ 176 by decide), up_i (show (177 : Int) ≠ 175 by decide), up_i (show (177 : Int) ≠ 174 by decide), up_i (show (177 : Int) ≠ 173 by decide), up_i (show (177 : Int) ≠ 172 by decide), up_i (show (177 : Int) ≠ 171 by decide), up_i (show (177 : Int) ≠ 170 by decide), up_i (show (177 : Int) ≠ 169 by decide), up_i (show (177 : Int) ≠ 168 by decide)]
  exact ⟨by decide, by decide, b0, b1, d0, d1, p0, p1⟩
theorem y_189 (hr : RI r) (ht : GT g) (t1 : 4 ≤ l2) (t2 : l2 ≤ 80) (h : ∀ v g', MFZ g g' → GT g' → Q v g' r) : Ce sc (d + 7) 189 [(2, 165), (0, l1), (0, l2), (0, l3)] g r Q := by
  have k9 : okr 218 165 9 := okd (by decide +kernel)
  obtain ⟨d0, d1, p0, p1⟩ := ht
  refine c_189 ⟨k9, ?_⟩
  rw [r_165_2 hr, r_165_3 hr, r_165_5 hr, r_165_11 hr]
  refine ⟨i_169.mpr ⟨by decide, by decide⟩, fun g1 e1 => ⟨k9, i_171.mpr ⟨by decide, by decide⟩, fun g2 e2 => ⟨k9, Or.inr ⟨i_168.mpr ⟨by decide, by decide⟩, Or.inr rfl⟩, fun g3 e3 => ⟨k9, i_177.mpr ⟨by decide, by decide⟩, ?_⟩⟩⟩⟩
  have f4 : g3 174 6 = g 174 6 := by rw [e3, up_i (by decide), e2, up_i (by decide), e1, up_i (by decide)]
  have f7 : g3 177 6 = g 177 6 := by rw [e3, up_i (by decide), e2, up_i (by decide), e1, up_i (by decide)]
  have f1 : g3 171 6 = l2 := by rw [e3, up_i (by decide), e2, up_s]
  have hg : GM g3 6 := ⟨by decide, by decide, by omega, by omega, by omega, by omega, by omega, by omega⟩
  refine ⟨k9, s_177 hr hg ?_ ?_ ?_ ?_ (fun v => h _ _ ?_ ⟨by omega, by omega, by omega, by omega⟩)⟩
  all_goals first | omega | skip
  rw [e3, e2, e1]
  exact (((MFZ.rf g).u (by unfold MW6 MV6 MV MZV; omega) (by decide)).u (by unfold MW6 MV6 MV MZV; omega) (by decide)).ub (by unfold MW6 MV6 MV MZV; omega) (by decide) (Or.inr rfl)
theorem y_190 (hr : RI r) (hi : MI g) (h : ∀ v g', MFZ g g' → Q v g' r) : Ce sc (d + 8) 190 [(2, 165), (0, l1), (0, l2), (0, l3), (0, l4), (0, l5)] g r Q := by
  have k9 : okr 218 165 9 := okd (by decide +kernel)
  have in4 : ∀ (l3 l6 l12 l15 : Int) , (∀ (l14 : Int) g1, MFZ g g1 → GT g1 → WQ sc (d + 7) 190 Q 209 [(2, 165), (9, 0), (9, 0), (0, l3), (9, 0), (9, 0), (0, l6), (9, 0), (9, 0), (9, 0), (9, 0), (9, 0), (1, l12), (8, 0), (0, l14), (0, wr (l15 + 1)), (9, 0)] [] g1 r) → ∀ l16 : Int, -2147483648 ≤ l16 → 4 ≤ l16 → ∀ (l14 : Int) g1, MFZ g g1 → GT g1 → WQ sc (d + 7) 190 Q 218 [(2, 165), (9, 0), (9, 0), (0, l3), (9, 0), (9, 0), (0, l6), (9, 0), (9, 0), (9, 0), (9, 0), (9, 0), (1, l12), (8, 0), (0, l14), (0, l15), (0, l16)] [] g1 r := by
    intro l3 l6 l12 l15 nx
    refine upS 4 81 (by decide) (by decide) fun l16 _ ih h4 l14 g1 e0 ht => ?_
    refine b_190_218 (ite_c (fun _ => nx _ _ e0 ht) (fun _ => ⟨k9, y_189 hr ht (by omega) (by omega) (fun v g2 e2 h2 => ?_)⟩))
    have hw : wr (l16 + 4) = l16 + 4 := wr_id ⟨by omega, by omega⟩
    rw [hw] at ih ⊢
    exact ite_c (fun _ => ih (by omega) (by omega) _ _ (e0.tr e2) h2) (fun _ => ih (by omega) (by omega) _ _ (e0.tr e2) h2)
  have out4 : ∀ (l3 l6 l12 : Int), l3 ≤ 40 → ∀ l15 : Int, -2147483648 ≤ l15 → ∀ (l14 : Int) g1, MFZ g g1 → GT g1 → WQ sc (d + 7) 190 Q 209 [(2, 165), (9, 0), (9, 0), (0, l3), (9, 0), (9, 0), (0, l6), (9, 0), (9, 0), (9, 0), (9, 0), (9, 0), (1, l12), (8, 0), (0, l14), (0, l15), (9, 0)] [] g1 r := by
    intro l3 l6 l12 h40
    refine upW 41 (by decide) fun l15 _ ih l14 g1 e0 ht => ?_
    exact b_190_209 (ite_c (fun _ => h _ _ e0) (fun _ => in4 l3 l6 l12 l15 (fun l14 g1 e1 ht => ih (by omega) _ _ e1 ht) 4 (by decide) (by decide) _ _ e0 ht))
  have in2 : ∀ (l2 l3 l5 l6 l7 l12 : Int), (∀ (l8 l9 l10 : Int) g1, 4 ≤ l9 → l9 ≤ 80 → MFZ g g1 → GT g1 → WQ sc (d + 7) 190 Q 93 [(2, 165), (9, 0), (0, l2), (0, l3), (9, 0), (0, l5), (0, l6), (0, l7), (0, l8), (0, l9), (1, l10), (8, 0), (0, wr (l12 + 1)), (9, 0), (9, 0), (9, 0), (9, 0)] [] g1 r) → ∀ l13 : Int, -2147483648 ≤ l13 → 4 ≤ l13 → ∀ (l8 l9 l10 : Int) g1, ((l8 < 0 ∧ l13 = 4) ∨ (4 ≤ l9 ∧ l9 ≤ 80)) → MFZ g g1 → GT g1 → WQ sc (d + 7) 190 Q 102 [(2, 165), (9, 0), (0, l2), (0, l3), (9, 0), (0, l5), (0, l6), (0, l7), (0, l8), (0, l9), (1, l10), (8, 0), (0, l12), (0, l13), (9, 0), (9, 0), (9, 0)] [] g1 r := by
    intro l2 l3 l5 l6 l7 l12 nx
    refine upS 4 81 (by decide) (by decide) fun l13 _ ih h4 l8 l9 l10 g1 hh e0 ht => ?_
    refine b_190_102 (ite_c (fun _ => nx _ _ _ _ (by omega) (by omega) e0 ht) (fun _ => ⟨k9, y_189 hr ht (by omega) (by omega) (fun v g2 e2 h2 => ⟨k9, y_189 hr h2 (by omega) (by omega) (fun v' g3 e3 h3 => ?_)⟩)⟩))
    have hw : wr (l13 + 4) = l13 + 4 := wr_id ⟨by omega, by omega⟩
    rw [hw] at ih ⊢
    exact ite_c (fun _ => ih (by omega) (by omega) _ _ _ _ (by omega) ((e0.tr e2).tr e3) h3) (fun _ => ite_c (fun _ => ih (by omega) (by omega) _ _ _ _ (by omega) ((e0.tr e2).tr e3) h3) (fun _ => ih (by omega) (by omega) _ _ _ _ (by omega) ((e0.tr e2).tr e3) h3))
  have out2 : ∀ (l2 l3 l5 l6 l7 : Int), l3 ≤ 40 → 2 ≤ l2 → ∀ l12 : Int, -2147483648 ≤ l12 → ∀ (l8 l9 l10 : Int) g1, ((l8 < 0 ∧ l12 ≤ l3) ∨ (4 ≤ l9 ∧ l9 ≤ 80)) → MFZ g g1 → GT g1 → WQ sc (d + 7) 190 Q 93 [(2, 165), (9, 0), (0, l2), (0, l3), (9, 0), (0, l5), (0, l6), (0, l7), (0, l8), (0, l9), (1, l10), (8, 0), (0, l12), (9, 0), (9, 0), (9, 0), (9, 0)] [] g1 r := by
    intro l2 l3 l5 l6 l7 h40 h2
    refine upW 41 (by decide) fun l12 _ ih l8 l9 l10 g1 hh e0 ht => ?_
    refine b_190_93 (ite_c (fun _ => ite_c (fun _ => ite_c (fun _ => h _ _ e0) (fun _ => h _ _ e0)) (fun _ => ⟨k9, y_189 hr ht (by omega) (by omega) (fun v g2 e2 h2 => out4 l3 l6 v h40 l2 (by omega) _ _ (e0.tr e2) h2)⟩)) (fun _ => in2 l2 l3 l5 l6 l7 l12 (fun l8 l9 l10 g1 a1 a2 e1 ht => ih (by omega) _ _ _ _ (Or.inr ⟨a1, a2⟩) e1 ht) 4 (by decide) (by decide) _ _ _ _ (by omega) e0 ht))
  refine c_190 ⟨k9, s_140 hr hi (fun m0 m6 _ hg _ _ _ _ _ => ?_) ?_⟩
  · rw [if_neg (by decide)]
    refine ite_c (fun _ => h _ _ (MFZ.rf g)) (fun _ => ite_c (fun _ => h _ _ (MFZ.rf g)) (fun _ => ite_c (fun _ => h _ _ (MFZ.rf g)) (fun _ => w_137 (fun _ _ => ?_) (fun _ => ?_))))
    · rw [if_neg (by decide)]
      refine w_137 (fun _ _ => ?_) (fun _ => ?_)
      · rw [if_neg (by decide)]
        exact ⟨by decide, by decide, k9, y_141 hr hi hg (fun v g1 e1 h6 => out2 l2 l3 l5 _ _ (by omega) (by omega) l2 (by omega) _ _ _ _ (Or.inl ⟨by decide, by omega⟩) e1 (gt_of h6))⟩
      · rw [if_pos rfl]; exact h _ _ (MFZ.rf g)
    · rw [if_pos rfl]; exact h _ _ (MFZ.rf g)
  · rw [if_pos rfl]; exact h _ _ (MFZ.rf g)
theorem y_191 (hr : RI r) (hi : MI g) (h : ∀ v g', MFZ g g' → Q v g' r) : Ce sc (d + 6) 191 [(2, 165), (0, l1), (0, l2), (0, l3), (0, l4)] g r Q := by
  have k9 : okr 218 165 9 := okd (by decide +kernel)
  have tail : ∀ g5, MFZ g g5 → GM g5 6 → 0 ≤ l1 → l1 < 6 → 1 ≤ g 177 l1 → g 177 l1 ≤ 300 → okr 218 165 9 ∧ okI 218 169 11 6 ∧ okI 218 169 11 6 ∧ ∀ g6, g6 = up g5 169 6 (wr ((g5 169 6) * l2)) → okr 218 165 9 ∧ okI 218 170 11 6 ∧ okI 218 170 11 6 ∧ ∀ g7, g7 = up g6 170 6 (wr ((g6 170 6) * l2)) → okr 218 165 9 ∧ okI 218 172 11 6 ∧ okI 218 172 11 6 ∧ ∀ g8, g8 = up g7 172 6 (wr ((g7 172 6) * l2)) → (if 0 < (cmpL (wL ((wL ((wL (l2 * l2)) * l2)) * l3)) 99999) then okr 218 165 9 ∧ okI 218 177 11 l1 ∧ okr 218 165 9 ∧ Ce sc (d + 5) 176 [(2, 165), (0, 6), (0, 99999), (0, g8 177 l1), (0, 0)] g8 r fun v6 g9 r6 => Q v6 g9 r6 else okr 218 165 9 ∧ okI 218 177 11 l1 ∧ okr 218 165 9 ∧ Ce sc (d + 5) 176 [(2, 165), (0, 6), (0, wr (wL ((wL ((wL (l2 * l2)) * l2)) * l3))), (0, g8 177 l1), (0, 0)] g8 r fun v6 g9 r6 => Q v6 g9 r6) := by
    intro g5 e5 h5 m0 m6 p0 p1
    refine ⟨k9, i_169.mpr ⟨by decide, by decide⟩, i_169.mpr ⟨by decide, by decide⟩, fun g6 e6 => ⟨k9, i_170.mpr ⟨by decide, by decide⟩, i_170.mpr ⟨by decide, by decide⟩, fun g7 e7 => ⟨k9, i_172.mpr ⟨by decide, by decide⟩, i_172.mpr ⟨by decide, by decide⟩, fun g8 e8 => ?_⟩⟩⟩
    have e0 : MFZ g g8 := by
      rw [e8, e7, e6]
      exact ((e5.u (by unfold MW6 MV6 MV MZV; omega) (by decide)).u (by unfold MW6 MV6 MV MZV; omega) (by decide)).u (by unfold MW6 MV6 MV MZV; omega) (by decide)
    have hp : g8 177 l1 = g 177 l1 := e0.1 177 l1 (by unfold MV6 MV MZV; omega)
    have h8 : GM g8 6 := by
      unfold GM at h5 ⊢
      rw [e8, up_i (by decide), up_i (by decide), up_i (by decide), e7, up_i (by decide), up_i (by decide), up_i (by decide), e6, up_i (by decide), up_i (by decide), up_i (by decide)]
      exact h5
    rw [hp]
    exact ite_c (fun _ => ⟨k9, i_177.mpr ⟨m0, by omega⟩, k9, s_176 hr h8 p0 p1 (by decide) (by decide) (fun v => h _ _ e0)⟩) (fun _ => ⟨k9, i_177.mpr ⟨m0, by omega⟩, k9, s_176 hr h8 p0 p1 (by decide) (by decide) (fun v => h _ _ e0)⟩)
  refine c_191 ?_
  repeat' first
    | (with_reducible refine ite_01 ?_)
    | (with_reducible refine ite_00 ?_)
    | (with_reducible refine And.intro ?_ ?_; · first | assumption | decide | (exact AR.i (by assumption) (by omega) (by omega)) | (exact AR.a (by assumption) (by decide) (by decide)) | (exact AR.k (by assumption)) | omega | (have := cmp_gt.mp (by assumption : 0 < cmpL _ 0); omega) | (exact i_169.mpr ⟨by omega, by omega⟩) | (exact i_170.mpr ⟨by omega, by omega⟩) | (exact i_172.mpr ⟨by omega, by omega⟩) | (exact i_177.mpr ⟨by omega, by omega⟩))
    | (simp only [r_165_3 hr, r_165_4 hr, r_165_6 hr, r_165_11 hr])
    | (refine ite_c (fun _ => ?_) (fun _ => ?_))
    | (intro _ e1; subst e1)
    | (with_reducible refine w_137 (fun _ _ => ?_) (fun _ => ?_))
    | (with_reducible refine s_176 hr (by assumption) (by omega) (by omega) (by decide) (by decide) (fun _ => ?_))
    | (with_reducible refine w_178 (fun _ _ => ?_) (fun _ => ?_))
    | (with_reducible refine s_179 hr hi (fun _ _ _ _ _ _ _ _ _ => ?_) ?_)
    | (exfalso; omega)
    | (exact absurd trivial (by assumption))
    | ((first | ((with_reducible refine y_141 hr hi (by assumption) (fun _ g5 e5 h5 => ?_)); rw [r_165_3 hr, r_165_4 hr, r_165_6 hr, r_165_11 hr]; exact tail g5 e5 h5 (by omega) (by omega) (by omega) (by omega))))
    | ((first | ((with_reducible refine h _ _ ?_); ((repeat (with_reducible first | assumption | exact MFZ.rf _ | (refine MFZ.u ?_ (by unfold MW6 MV6 MV MZV; omega) (by decide)) | (refine MFZ.ub ?_ (by unfold MW6 MV6 MV MZV; omega) (by decide) (by first | decide | assumption)) | (refine MFZ.u ?_ (by unfold MW6 MV6 MV MZV; omega) (by decide)) | (refine MFZ.ub ?_ (by unfold MW6 MV6 MV MZV; omega) (by decide) (by first | decide | assumption)) | (refine MFZ.tr ?_ (by assumption)))); done))))
theorem y_192b (hr : RI r) (hb : MB g) (a0 : 0 ≤ l1) (a3 : l1 ≤ 3) (b0s : 4 ≤ l2) (b4 : l2 ≤ 4) (h : ∀ v g', MFZ g g' → g' 197 l2 = g 197 l1 → (∀ j, j ≠ l2 → g' 197 j = g 197 j) → Q v g' r) : Ce sc (d + 1) 192 [(2, 165), (0, l1), (0, l2)] g r Q := by
  have b0 : 0 ≤ l2 := by omega
  have k9 : okr 218 165 9 := okd (by decide +kernel)
  have w4 : ∀ a b : Int, 0 ≤ a → a ≤ 4 → 0 ≤ b → b < 40 → wr (wr (40 * a) + b) = 40 * a + b := fun a b x y z t => by rw [wr_id (x := 40 * a) ⟨by omega, by omega⟩, wr_id ⟨by omega, by omega⟩]
  have w6 : ∀ a b : Int, 0 ≤ a → a ≤ 4 → 0 ≤ b → b < 6 → wr (wr (6 * a) + b) = 6 * a + b := fun a b x y z t => by rw [wr_id (x := 6 * a) ⟨by omega, by omega⟩, wr_id ⟨by omega, by omega⟩]
  have two : ∀ l3 : Int, -2147483648 ≤ l3 → 0 ≤ l3 → ∀ g1, MHF g g1 → WQ sc d 192 Q 60 [(2, 165), (0, l1), (0, l2), (0, l3)] [] g1 r := by
    refine upW 6 (by decide) fun l3 _ ih h0 g1 e0 => ?_
    refine b_192_60 ?_
    rw [r_165_38 hr, r_165_39 hr, r_165_44 hr, r_165_40 hr, r_165_41 hr, r_165_45 hr, r_165_46 hr, r_165_42 hr]
    refine ite_c (fun q => ?_) (fun q => ?_)
    · rw [w6 l1 l3 a0 (by omega) h0 q, w6 l2 l3 b0 b4 h0 q]
      refine ⟨k9, k9, i_193.mpr ⟨by omega, by omega⟩, i_193.mpr ⟨by omega, by omega⟩, fun g2 e2 => ⟨k9, k9, i_194.mpr ⟨by omega, by omega⟩, i_194.mpr ⟨by omega, by omega⟩, fun g3 e3 => ⟨k9, k9, i_199.mpr ⟨by omega, by omega⟩, i_199.mpr ⟨by omega, by omega⟩, fun g4 e4 => ⟨k9, k9, i_195.mpr ⟨by omega, by omega⟩, i_195.mpr ⟨by omega, by omega⟩, fun g5 e5 => ⟨k9, k9, i_196.mpr ⟨by omega, by omega⟩, i_196.mpr ⟨by omega, by omega⟩, fun g6 e6 => ih q (by rw [wr_id ⟨by omega, by omega⟩]; omega) _ ?_⟩⟩⟩⟩⟩
      rw [e6, e5, e4, e3, e2]
      exact ((((e0.u (by unfold MW6 MV6 MV MZV; omega) (by decide)).u (by unfold MW6 MV6 MV MZV; omega) (by decide)).u (by unfold MW6 MV6 MV MZV; omega) (by decide)).u (by unfold MW6 MV6 MV MZV; omega) (by decide)).u (by unfold MW6 MV6 MV MZV; omega) (by decide)
    · refine ⟨k9, k9, i_200.mpr ⟨by omega, by omega⟩, i_200.mpr ⟨by omega, by omega⟩, fun g2 e2 => ⟨k9, k9, i_201.mpr ⟨by omega, by omega⟩, i_201.mpr ⟨by omega, by omega⟩, fun g3 e3 => ⟨k9, k9, i_197.mpr ⟨by omega, by omega⟩, i_197.mpr ⟨by omega, by omega⟩, fun g4 e4 => ?_⟩⟩⟩
      have e03 : MHF g g3 := by
        rw [e3, e2]
        exact (e0.u (by unfold MW6 MV6 MV MZV; omega) (by decide)).u (by unfold MW6 MV6 MV MZV; omega) (by decide)
      refine h _ _ ?_ (by rw [e4, up_s]; exact e03.2.2 _) (fun j z => by rw [e4, up_j z]; exact e03.2.2 j)
      rw [e4]
      exact e03.1.u7 b0s
  have one : ∀ l3 : Int, -2147483648 ≤ l3 → 0 ≤ l3 → ∀ g1, MHF g g1 → WQ sc d 192 Q 2 [(2, 165), (0, l1), (0, l2), (0, l3)] [] g1 r := by
    refine upW 40 (by decide) fun l3 _ ih h0 g1 e0 => ?_
    refine b_192_2 ?_
    rw [r_165_37 hr, r_165_43 hr]
    refine ite_c (fun q => ?_) (fun q => two 0 (by decide) (by decide) _ e0)
    rw [w4 l1 l3 a0 (by omega) h0 q, w4 l2 l3 b0 b4 h0 q]
    refine ⟨k9, k9, i_192.mpr ⟨by omega, by omega⟩, i_192.mpr ⟨by omega, by omega⟩, fun g2 e2 => ⟨k9, k9, Or.inr (i_198.mpr ⟨by omega, by omega⟩), Or.inr ⟨i_198.mpr ⟨by omega, by omega⟩, ?_⟩, fun g3 e3 => ih q (by rw [wr_id ⟨by omega, by omega⟩]; omega) _ ?_⟩⟩
    all_goals
      have e02 : MHF g g2 := by
        rw [e2]
        exact e0.u (by unfold MW6 MV6 MV MZV; omega) (by decide)
    · exact mb_198 hb e02.1.me _
    · rw [e3]
      exact e02.u8 (by omega) (mb_198 hb e02.1.me _)
  exact c_192 (one 0 (by decide) (by decide) g (MHF.rf g))
theorem y_199 (hr : RI r) (a0 : 0 ≤ l1) (a1 : l1 < 240) (x0 : 0 ≤ g 183 l1) (x1 : g 184 l1 ≤ 2800) (hp : PGF g (g 183 l1) (g 184 l1)) (h : ∀ v g', MHF g g' → Q v g' r) : Ce sc (d + 1) 199 [(2, 165), (0, l1)] g r Q := by
  have k9 : okr 218 165 9 := okd (by decide +kernel)
  obtain ⟨ht, hz, hp⟩ := hp
  have loop : ∀ l3 : Int, -2147483648 ≤ l3 → g 183 l1 ≤ l3 → ∀ l2 : Int, ((l3 ≤ g 184 l1 → l2 = ht l3) ∧ (g 184 l1 < l3 → l2 = 0)) → ∀ g1, MHF g g1 → WQ sc d 199 Q 9 [(2, 165), (0, l1), (0, l2), (0, l3), (9, 0)] [] g1 r := by
    refine upW (g 184 l1) (by omega) fun l3 _ ih h3 l2 e2 g1 e0 => ?_
    have f4 : g1 184 l1 = g 184 l1 := e0.1.1 184 l1 (by unfold MV6 MV MZV; omega)
    have f5 : g1 185 l3 = g 185 l3 := e0.1.1 185 l3 (by unfold MV6 MV MZV; omega)
    have f6 : g1 186 l3 = g 186 l3 := e0.1.1 186 l3 (by unfold MV6 MV MZV; omega)
    refine b_199_9 ?_
    rw [r_165_18 hr, f4]
    refine ⟨k9, i_184.mpr ⟨a0, a1⟩, ite_c (fun q => ?_) (fun q => ?_)⟩
    · obtain ⟨y0, y1, hc⟩ := hp l3 h3 q
      have e2' := e2.1 (by omega)
      have hw : wr (l3 + 1) = l3 + 1 := wr_id ⟨by omega, by omega⟩
      have hw2 : wr (l2 + 1) = l2 + 1 := wr_id ⟨by omega, by omega⟩
      have hw3 : wr (l2 - 1) = l2 - 1 := wr_id ⟨by omega, by omega⟩
      have hw4 : wr (l2 + (-1)) = l2 - 1 := wr_id ⟨by omega, by omega⟩
      have hw5 : wr (l2 - 1 - 1) = l2 - 1 - 1 := wr_id ⟨by omega, by omega⟩
      rw [hw] at ih
      simp only [hw, hw2, hw3, hw4, hw5, r_165_19 hr, r_165_20 hr, r_165_21 hr, r_165_22 hr, r_165_50 hr, r_165_51 hr]
      repeat' first
        | (with_reducible refine ite_01 ?_)
        | (with_reducible refine ite_00 ?_)
        | (with_reducible refine And.intro ?_ ?_; · first | assumption | decide | (exact AR.i (by assumption) (by omega) (by omega)) | (exact AR.a (by assumption) (by decide) (by decide)) | (exact AR.k (by assumption)) | omega | (have := cmp_gt.mp (by assumption : 0 < cmpL _ 0); omega) | (exact i_183.mpr ⟨by omega, by omega⟩) | (exact i_184.mpr ⟨by omega, by omega⟩) | (exact i_185.mpr ⟨by omega, by omega⟩) | (exact i_186.mpr ⟨by omega, by omega⟩) | (exact i_187.mpr ⟨by omega, by omega⟩) | (exact i_188.mpr ⟨by omega, by omega⟩) | (exact i_203.mpr ⟨by omega, by omega⟩) | (exact Or.inr (i_204.mpr ⟨by omega, by omega⟩)) | (exact i_204.mpr ⟨by omega, by omega⟩) | (exact Or.inr ⟨i_204.mpr ⟨by omega, by omega⟩, by decide⟩))
        | (simp only [r_165_17 hr, r_165_18 hr, r_165_19 hr, r_165_20 hr, r_165_21 hr, r_165_22 hr, r_165_50 hr, r_165_51 hr])
        | (refine ite_c (fun _ => ?_) (fun _ => ?_))
        | (intro _ e1; subst e1)
        | (exfalso; omega)
        | (exact absurd trivial (by assumption))
        | ((with_reducible refine ih ?_ ?_ _ ?_ _ ?_) <;> (first | ((repeat (with_reducible first | assumption | exact MHF.rf _ | (refine MHF.u ?_ (by unfold MW6 MV6 MV MZV; omega) (by decide)) | (refine MHF.ub ?_ (by first | decide | assumption)) | (refine MHF.u ?_ (by unfold MW6 MV6 MV MZV; omega) (by decide)) | (refine MHF.tr ?_ (by assumption)))); done) | omega | decide | (rw [wr_id ⟨by omega, by omega⟩]; omega)))
        | ((first | ((with_reducible refine h _ _ ?_); ((repeat (with_reducible first | assumption | exact MHF.rf _ | (refine MHF.u ?_ (by unfold MW6 MV6 MV MZV; omega) (by decide)) | (refine MHF.ub ?_ (by first | decide | assumption)) | (refine MHF.u ?_ (by unfold MW6 MV6 MV MZV; omega) (by decide)) | (refine MHF.tr ?_ (by assumption)))); done))))
    · have y : (g 184 l1 < l3 ∨ l3 = g 184 l1) := by omega
      have nn : ∀ v, (v = 0 ∨ v = 1) → Q v g1 r := fun v _ => h _ _ e0
      rw [r_165_51 hr]
      exact ite_c (fun _ => ⟨Or.inr rfl, h _ _ e0⟩) (fun _ => ⟨k9, Or.inr (i_204.mpr ⟨by decide, by decide⟩), ite_c (fun _ => ⟨Or.inl rfl, h _ _ e0⟩) (fun _ => ⟨Or.inr rfl, h _ _ e0⟩)⟩)
  refine c_199 ?_
  rw [r_165_17 hr]
  exact ⟨k9, i_183.mpr ⟨a0, a1⟩, loop _ (by omega) (Int.le_refl _) 0 ⟨fun _ => hz.symm, fun _ => rfl⟩ g (MHF.rf g)⟩
theorem y_200 (hr : RI r) (hi : MI g) (m0 : 0 ≤ l1) (m6 : l1 < 6) (mt : g 167 l1 ≠ 0) (h : ∀ v g', MHF g g' → Q v g' r) : Ce sc (d + 2) 200 [(2, 165), (0, l1)] g r Q := by
  have k9 : okr 218 165 9 := okd (by decide +kernel)
  have hm := hi.2.2 l1 m0 m6 mt
  have hw : wr (30 * l1) = 30 * l1 := wr_id ⟨by omega, by omega⟩
  have loop : ∀ l2 : Int, -2147483648 ≤ l2 → 30 * l1 ≤ l2 → ∀ g1, MHF g g1 → WQ sc (d + 1) 200 Q 5 [(2, 165), (0, l1), (0, l2)] [] g1 r := by
    refine upW (30 * l1 + 30) (by omega) fun l2 _ ih h2 g1 e0 => ?_
    have hm1 := MT.eq m6 e0.1.me.1 hm
    have hg := hm1.2.2.1
    refine b_200_5 ?_
    rw [r_165_13 hr, hw, wr_id (x := 30 * l1 + g1 179 l1) ⟨by omega, by omega⟩]
    refine ⟨k9, i_179.mpr ⟨m0, by omega⟩, ite_c (fun q => ⟨k9, ?_⟩) (fun _ => h _ _ e0)⟩
    obtain ⟨b1, b2, hp⟩ := hm1.2.2.2 l2 h2 q
    refine y_199 hr (by omega) (by omega) (by omega) (by omega) hp (fun v g2 e2 => ?_)
    rw [r_165_16 hr]
    exact ite_c (fun _ => ih (by omega) (by rw [wr_id ⟨by omega, by omega⟩]; omega) _ (e0.tr e2)) (fun _ => ⟨k9, i_182.mpr ⟨by omega, by omega⟩, h _ _ (e0.tr e2)⟩)
  refine c_200 ?_
  rw [hw]
  exact loop _ (by omega) (Int.le_refl _) g (MHF.rf g)
theorem y_201 (h : ∀ v g', MFZ g g' → (∀ j, g' 197 j = g 197 j) → Q v g' r) : Ce sc (d + 1) 201 [(2, 165)] g r Q := by
  have k9 : okr 218 165 9 := okd (by decide +kernel)
  refine c_201 ⟨k9, fun g1 e1 => ⟨k9, fun g2 e2 => h _ _ ?_ (fun j => by rw [e2, up_i (by decide), e1, up_i (by decide)])⟩⟩
  rw [e2, e1]
  exact ((MFZ.rf g).u (by unfold MW6 MV6 MV MZV; omega) (by decide)).u (by unfold MW6 MV6 MV MZV; omega) (by decide)
theorem y_203 (hr : RI r) (hi : MI g) (m0 : 0 ≤ l1) (m6 : l1 < 6) (mt : g 167 l1 ≠ 0) (h : ∀ v g', MHF g g' → Q v g' r) : Ce sc (d + 3) 203 [(2, 165), (0, l1), (0, l2)] g r Q := by
  have k9 : okr 218 165 9 := okd (by decide +kernel)
  refine c_203 ⟨k9, k9, y_200 hr hi m0 m6 mt (fun v g1 e1 => ?_)⟩
  rw [r_165_58 hr]
  refine ⟨i_206.mpr ⟨m0, m6⟩, fun g2 e2 => ?_⟩
  have e0 : MHF g g2 := by rw [e2]; exact e1.u (by unfold MW6 MV6 MV MZV; omega) (by decide)
  exact ⟨k9, ite_c (fun _ => ⟨k9, h _ _ e0⟩) (fun _ => ⟨k9, ite_c (fun _ => ⟨k9, i_206.mpr ⟨m0, m6⟩, h _ _ e0⟩) (fun _ => ⟨k9, k9, s_202 m0 m6 ⟨by decide, k9, ite_c (fun _ => ⟨k9, h _ _ e0⟩) (fun _ => h _ _ e0)⟩⟩)⟩)⟩
theorem y_204 (hr : RI r) (hi : MI g) (a0s : 4 ≤ l1) (a4 : l1 ≤ 4) (m0 : 0 ≤ l2) (m6 : l2 < 6) (mt : g 167 l2 ≠ 0) (z0 : 0 ≤ l3) (z9 : l3 < 960) (h : ∀ v g', MHF g g' → Q v g' r) : Ce sc (d + 7) 204 [(2, 165), (0, l1), (0, l2), (0, l3), (0, l4)] g r Q := by
  have a0 : 0 ≤ l1 := by omega
  have k9 : okr 218 165 9 := okd (by decide +kernel)
  have hg := (hi.2.2 l2 m0 m6 mt).1
  have hw6 : wr (6 * l1) = 6 * l1 := wr_id ⟨by omega, by omega⟩
  have hw40 : wr (40 * l1) = 40 * l1 := wr_id ⟨by omega, by omega⟩
  have hwx : wr (6 * l1 + l2) = 6 * l1 + l2 := wr_id ⟨by omega, by omega⟩
  have hd : wr (l3.tdiv 24) = l3 / 24 := by rw [Int.tdiv_eq_ediv_of_nonneg z0, wr_id ⟨by omega, by omega⟩]
  have hdx : wr (40 * l1 + l3 / 24) = 40 * l1 + l3 / 24 := wr_id ⟨by omega, by omega⟩
  have e321 : ∀ (l5 l9 l11 l12 t3 t2 : Int) g1, MHF g g1 → 24 ≤ l5 → l5 < 30 → WQ sc (d + 6) 204 Q 321 [(2, 165), (9, 0), (9, 0), (9, 0), (9, 0), (0, l5), (9, 0), (9, 0), (9, 0), (0, l9), (9, 0), (0, l11), (0, l12), (9, 0)] [(0, t3), (0, t2), (0, l5), (2, 195)] g1 r := by
    intro l5 l9 l11 l12 t3 t2 g1 e0 x0 x1
    refine b_204_321 ⟨i_195.mpr ⟨by omega, x1⟩, fun g2 e2 => ?_⟩
    have e02 : MHF g g2 := by rw [e2]; exact e0.u (by unfold MW6 MV6 MV MZV; omega) (by decide)
    rw [r_165_41 hr]
    refine ⟨k9, i_196.mpr ⟨by omega, x1⟩, ite_c (fun _ => ite_c (fun _ => ⟨i_196.mpr ⟨by omega, x1⟩, fun g3 e3 => h _ _ ?_⟩) (fun _ => ⟨i_196.mpr ⟨by omega, x1⟩, fun g3 e3 => h _ _ ?_⟩)) (fun _ => ⟨i_196.mpr ⟨by omega, x1⟩, fun g3 e3 => h _ _ ?_⟩)⟩
    all_goals (rw [e3]; exact e02.u (by unfold MW6 MV6 MV MZV; omega) (by decide))
  have e267 : ∀ (l5 l9 l11 l12 t4 : Int) g1, MHF g g1 → 24 ≤ l5 → l5 < 30 → WQ sc (d + 6) 204 Q 267 [(2, 165), (9, 0), (0, l2), (9, 0), (9, 0), (0, l5), (9, 0), (9, 0), (9, 0), (0, l9), (9, 0), (0, l11), (0, l12), (9, 0)] [(0, t4), (0, l2), (2, 165), (0, l2), (2, 207)] g1 r := by
    intro l5 l9 l11 l12 t4 g1 e0 x0 x1
    have hg1 : GM g1 l2 := gm_eq m6 e0.1.me.1 hg
    refine b_204_267 ?_
    rw [r_165_11 hr]
    refine ⟨k9, i_177.mpr ⟨m0, by omega⟩, k9, s_177L hr hg1 hg1.2.2.2.2.2.2.1 hg1.2.2.2.2.2.2.2 (by decide) (by decide) (fun v hv => ?_)⟩
    rw [r_165_44 hr, r_165_59 hr, r_165_40 hr]
    refine ⟨i_207.mpr ⟨m0, m6⟩, fun g2 e2 => ⟨k9, i_199.mpr ⟨by omega, x1⟩, k9, i_207.mpr ⟨m0, m6⟩, i_199.mpr ⟨by omega, x1⟩, fun g3 e3 => ?_⟩⟩
    have e03 : MHF g g3 := by
      rw [e3, e2]
      exact (e0.ur hv).u (by unfold MW6 MV6 MV MZV; omega) (by decide)
    exact ⟨k9, i_195.mpr ⟨by omega, x1⟩, k9, i_207.mpr ⟨m0, m6⟩, ite_c (fun _ => e321 _ _ _ _ _ _ _ e03 x0 x1) (fun _ => e321 _ _ _ _ _ _ _ e03 x0 x1)⟩
  have e232 : ∀ (l5 l9 l11 t0 : Int) g1, MHF g g1 → 24 ≤ l5 → l5 < 30 → WQ sc (d + 6) 204 Q 232 [(2, 165), (9, 0), (0, l2), (9, 0), (9, 0), (0, l5), (9, 0), (9, 0), (9, 0), (0, l9), (9, 0), (0, l11), (9, 0), (9, 0)] [(0, t0)] g1 r := by
    intro l5 l9 l11 t0 g1 e0 x0 x1
    refine b_204_232 ?_
    rw [r_165_59 hr]
    exact ⟨by decide, k9, ite_c (fun _ => e267 _ _ _ _ _ _ e0 x0 x1) (fun _ => e267 _ _ _ _ _ _ e0 x0 x1)⟩
  have e189 : ∀ (l5 l7 l8 l9 t0 : Int) g1, MHF g g1 → 24 ≤ l5 → l5 < 30 → WQ sc (d + 6) 204 Q 189 [(2, 165), (9, 0), (0, l2), (9, 0), (9, 0), (0, l5), (9, 0), (0, l7), (0, l8), (0, l9), (9, 0), (9, 0), (9, 0), (9, 0)] [(0, t0)] g1 r := by
    intro l5 l7 l8 l9 t0 g1 e0 x0 x1
    refine b_204_189 ?_
    rw [r_165_38 hr, r_165_10 hr]
    refine ⟨k9, i_193.mpr ⟨by omega, x1⟩, i_193.mpr ⟨by omega, x1⟩, fun g2 e2 => ?_⟩
    have e02 : MHF g g2 := by rw [e2]; exact e0.u (by unfold MW6 MV6 MV MZV; omega) (by decide)
    exact ite_c (fun _ => e232 _ _ _ _ _ e02 x0 x1) (fun _ => ⟨k9, i_176.mpr ⟨m0, by omega⟩, ite_c (fun _ => ⟨k9, i_176.mpr ⟨m0, by omega⟩, e232 _ _ _ _ _ e02 x0 x1⟩) (fun _ => e232 _ _ _ _ _ e02 x0 x1)⟩)
  have e84 : ∀ (l5 l7 l8 t0 : Int) g1, MHF g g1 → l5 = 6 * l1 + l2 → WQ sc (d + 6) 204 Q 84 [(2, 165), (0, l1), (0, l2), (0, l3), (9, 0), (0, l5), (0, l3 / 24), (0, l7), (0, l8), (9, 0), (9, 0), (9, 0), (9, 0), (9, 0)] [(0, t0)] g1 r := by
    intro l5 l7 l8 t0 g1 e0 e5
    have x0 : 24 ≤ l5 := by omega
    have x1 : l5 < 30 := by omega
    refine b_204_84 ?_
    rw [hw40, hdx, r_165_38 hr, r_165_50 hr]
    refine ⟨k9, i_193.mpr ⟨by omega, x1⟩, i_193.mpr ⟨by omega, x1⟩, fun g2 e2 => ⟨k9, by decide, i_203.mpr ⟨by decide, by decide⟩, fun g3 e3 => ⟨k9, k9, ?_⟩⟩⟩
    have e03 : MHF g g3 := by
      rw [e3, e2]
      exact (e0.u (by unfold MW6 MV6 MV MZV; omega) (by decide)).u (by unfold MW6 MV6 MV MZV; omega) (by decide)
    refine s_198 hr (by omega) (by omega) m6 (fun _ => rm_of hi e03.1.me m0 m6 mt) (fun v => ?_)
    rw [r_165_37 hr, r_165_50 hr]
    refine ⟨i_203.mpr ⟨by decide, by decide⟩, fun g4 e4 => ⟨k9, k9, i_192.mpr ⟨by omega, by omega⟩, i_203.mpr ⟨by decide, by decide⟩, fun g5 e5' => ⟨k9, i_203.mpr ⟨by decide, by decide⟩, fun g6 e6 => ⟨k9, i_203.mpr ⟨by decide, by decide⟩, fun g7 e7 => ⟨by decide, k9, ?_⟩⟩⟩⟩⟩
    have e07 : MHF g g7 := by
      rw [e7, e6, e5', e4]
      exact (((e03.u (by unfold MW6 MV6 MV MZV; omega) (by decide)).u (by unfold MW6 MV6 MV MZV; omega) (by decide)).u (by unfold MW6 MV6 MV MZV; omega) (by decide)).u (by unfold MW6 MV6 MV MZV; omega) (by decide)
    have mt7 : g7 167 l2 ≠ 0 := by rw [e07.1.1 167 l2 (by unfold MV6 MV MZV; omega)]; exact mt
    refine y_203 hr (hi.me e07.1.me) m0 m6 mt7 (fun v8 g8 e8 => ?_)
    rw [r_165_38 hr]
    exact ⟨k9, i_193.mpr ⟨by omega, x1⟩, ite_c (fun _ => e189 _ _ _ _ _ _ (e07.tr e8) x0 x1) (fun _ => ⟨k9, i_193.mpr ⟨by omega, x1⟩, e189 _ _ _ _ _ _ (e07.tr e8) x0 x1⟩)⟩
  refine c_204 ?_
  refine ⟨by decide, k9, s_197 hr m0 m6 (fun v1 h1 => ⟨k9, s_198 hr (by omega) (by omega) (by omega) (fun q => rm_of hi (ME.rf g) q (by omega) (by rcases h1 with e | e; omega; exact e.2.2)) (fun v2 => ?_)⟩)⟩
  rw [r_165_57 hr, r_165_38 hr, r_165_9 hr, hw6, hwx, hd]
  have x0 : 0 ≤ 6 * l1 + l2 := by omega
  have x1 : 6 * l1 + l2 < 30 := by omega
  refine ⟨k9, i_205.mpr ⟨m0, m6⟩, fun g3 e3 => ⟨k9, i_193.mpr ⟨by omega, x1⟩, i_193.mpr ⟨by omega, x1⟩, fun g4 e4 => ?_⟩⟩
  have e04 : MHF g g4 := by
    rw [e4, e3]
    exact ((MHF.rf g).u (by unfold MW6 MV6 MV MZV; omega) (by decide)).u (by unfold MW6 MV6 MV MZV; omega) (by decide)
  exact ⟨k9, i_193.mpr ⟨by omega, x1⟩, k9, i_175.mpr ⟨m0, by omega⟩, ite_c (fun _ => ⟨k9, i_193.mpr ⟨by omega, x1⟩, k9, i_175.mpr ⟨m0, by omega⟩, e84 _ _ _ _ _ e04 rfl⟩) (fun _ => e84 _ _ _ _ _ e04 rfl)⟩
theorem y_205 (hr : RI r) (hi : MI g) (a0s : 4 ≤ l1) (a4 : l1 ≤ 4) (z0 : 0 ≤ g 197 l1) (z9 : g 197 l1 < 960) (h : ∀ v g', MFZ g g' → (∀ j, g' 165 j = g 165 j) → g' 197 l1 = g 197 l1 + 1 → (∀ j, j ≠ l1 → g' 197 j = g 197 j) → Q v g' r) : Ce sc (d + 8) 205 [(2, 165), (0, l1)] g r Q := by
  have a0 : 0 ≤ l1 := by omega
  have k9 : okr 218 165 9 := okd (by decide +kernel)
  have hw6 : wr (6 * l1) = 6 * l1 := wr_id ⟨by omega, by omega⟩
  have hw40 : wr (40 * l1) = 40 * l1 := wr_id ⟨by omega, by omega⟩
  have hd : wr ((g 197 l1).tdiv 24) = g 197 l1 / 24 := by rw [Int.tdiv_eq_ediv_of_nonneg z0, wr_id ⟨by omega, by omega⟩]
  have hdx : wr (40 * l1 + g 197 l1 / 24) = 40 * l1 + g 197 l1 / 24 := wr_id ⟨by omega, by omega⟩
  have loop : ∀ l5 : Int, -2147483648 ≤ l5 → 0 ≤ l5 → ∀ (l4 : Int) g1, MHF g g1 → WQ sc (d + 7) 205 Q 66 [(2, 165), (0, l1), (0, g 197 l1), (9, 0), (0, l4), (0, l5), (9, 0), (9, 0)] [] g1 r := by
    refine upW 6 (by decide) fun l5 _ ih h0 l4 g1 e0 => ?_
    have e142 : l5 < 6 → ∀ (l4 l7 t2 t1 : Int) g2, MHF g g2 → 24 ≤ t1 → t1 < 30 → WQ sc (d + 7) 205 Q 142 [(2, 165), (0, l1), (0, g 197 l1), (9, 0), (0, l4), (0, l5), (9, 0), (0, l7)] [(0, t2), (0, t1), (2, 194)] g2 r := by
      intro q l4 l7 t2 t1 g2 e2 y0 y1
      refine b_205_142 ⟨i_194.mpr ⟨by omega, y1⟩, fun g3 e3 => ⟨k9, ?_⟩⟩
      have e03 : MHF g g3 := by rw [e3]; exact e2.u (by unfold MW6 MV6 MV MZV; omega) (by decide)
      refine s_197 hr h0 q (fun v _ => ?_)
      rw [r_165_46 hr]
      refine ite_c (fun _ => ⟨k9, i_201.mpr ⟨a0, by omega⟩, i_201.mpr ⟨a0, by omega⟩, fun g4 e4 => ih q (by rw [wr_id ⟨by omega, by omega⟩]; omega) _ _ ?_⟩) (fun _ => ih q (by rw [wr_id ⟨by omega, by omega⟩]; omega) _ _ e03)
      rw [e4]; exact e03.u (by unfold MW6 MV6 MV MZV; omega) (by decide)
    refine b_205_66 ?_
    rw [r_165_1 hr, r_165_39 hr, r_165_42 hr, hw6]
    refine ite_c (fun q => ⟨k9, Or.inr (i_167.mpr ⟨h0, by omega⟩), ite_c (fun _ => ih q (by rw [wr_id ⟨by omega, by omega⟩]; omega) _ _ e0) (fun mt => ?_)⟩) (fun q => ?_)
    · have hwx : wr (6 * l1 + l5) = 6 * l1 + l5 := wr_id ⟨by omega, by omega⟩
      rw [hwx]
      refine ⟨k9, i_194.mpr ⟨by omega, by omega⟩, k9, y_204 hr (hi.me e0.1.me) a0s a4 h0 q mt z0 z9 (fun v g2 e2 => ⟨k9, k9, s_197 hr h0 q (fun v2 _ => ?_)⟩)⟩
      rw [r_165_39 hr]
      exact ite_c (fun _ => e142 q _ _ _ _ _ (e0.tr e2) (by omega) (by omega)) (fun _ => e142 q _ _ _ _ _ (e0.tr e2) (by omega) (by omega))
    · refine ⟨k9, i_197.mpr ⟨a0, by omega⟩, i_197.mpr ⟨a0, by omega⟩, fun g2 e2 => ?_⟩
      rw [e0.2.2, wr_id ⟨by omega, by omega⟩] at e2
      refine h _ _ ?_ (fun j => by rw [e2, up_i (by decide)]; exact e0.2.1 j) (by rw [e2, up_s]) (fun j hj => by rw [e2, up_j hj]; exact e0.2.2 j)
      rw [e2]
      exact e0.1.u7 (by omega)
  refine c_205 ?_
  rw [r_165_42 hr, r_165_43 hr, r_165_37 hr, r_165_45 hr, hw40, hd, hdx]
  refine ⟨k9, i_197.mpr ⟨a0, by omega⟩, k9, by decide, Or.inr (i_198.mpr ⟨by omega, by omega⟩), ite_c (fun _ => ⟨k9, by decide, i_192.mpr ⟨by omega, by omega⟩, by decide, k9, i_200.mpr ⟨a0, by omega⟩, i_200.mpr ⟨a0, by omega⟩, fun g1 e1 => loop 0 (by decide) (by decide) _ _ ?_⟩) (fun _ => ⟨k9, i_200.mpr ⟨a0, by omega⟩, i_200.mpr ⟨a0, by omega⟩, fun g1 e1 => loop 0 (by decide) (by decide) _ _ ?_⟩)⟩
  all_goals (rw [e1]; exact (MHF.rf g).u (by unfold MW6 MV6 MV MZV; omega) (by decide))
theorem y_214 (hr : RI r) (hi : MI g) (b0 : 0 ≤ g 197 0) (b1 : g 197 0 ≤ 936) (w0 : 0 ≤ l3) (w6 : l3 < 64) (h : ∀ v g', M4F g g' → Q v g' r) : Ce sc (d + 9) 214 [(2, 165), (0, l1), (0, l2), (0, l3)] g r Q := by
  have k9 : okr 218 165 9 := okd (by decide +kernel)
  have hw3 : wr (3 * l3) = 3 * l3 := wr_id ⟨by omega, by omega⟩
  have day : ∀ s, SHF s → ∀ l4 : Int, -2147483648 ≤ l4 → 0 ≤ l4 → l4 ≤ 24 → ∀ g1, M4F g g1 → g1 165 52 = s → g1 197 4 = g 197 0 + l4 → WQ sc (d + 8) 214 Q 63 [(2, 165), (9, 0), (9, 0), (0, l3), (0, l4), (9, 0)] [] g1 r := by
    intro s hs
    refine upW 24 (by decide) fun l4 _ ih h0 h24 g1 e0 es e4 => ?_
    have inner : l4 < 24 → ∀ l5 : Int, -2147483648 ≤ l5 → 0 ≤ l5 → ∀ g2, M4F g g2 → g2 165 52 = s → g2 197 4 = g 197 0 + (l4 + 1) → WQ sc (d + 8) 214 Q 78 [(2, 165), (9, 0), (9, 0), (0, l3), (0, l4), (0, l5)] [] g2 r := by
      intro q
      have hw : wr (l4 + 1) = l4 + 1 := wr_id ⟨by omega, by omega⟩
      rw [hw] at ih
      refine upW 6 (by decide) fun l5 _ ih5 h5 g2 e2 es2 e42 => ?_
      have hwl : wr (l5 + 1) = wr (l5 + 1) := rfl
      refine b_214_78 ?_
      rw [hw, es2, hw3, r_165_60 hr]
      refine ite_c (fun q5 => ⟨k9, ite_c (fun hb => ⟨k9, k9, s_202 h5 q5 ?_⟩) (fun _ => ih5 q5 (by rw [wr_id ⟨by omega, by omega⟩]; omega) _ e2 es2 e42)⟩) (fun _ => ih q (by omega) (by omega) _ e2 es2 e42)
      have hp := pop_le hs h5 q5 hb
      rw [es2, wr_id (x := 3 * l3 + popm s l5.toNat) ⟨by omega, by omega⟩, r_165_59 hr]
      refine ⟨i_208.mpr ⟨by omega, by omega⟩, k9, i_207.mpr ⟨h5, q5⟩, i_208.mpr ⟨by omega, by omega⟩, fun g3 e3 => ih5 q5 (by rw [wr_id ⟨by omega, by omega⟩]; omega) _ ?_ ?_ ?_⟩
      · rw [e3]; exact e2.u (by unfold MW6 MV6 MV MZV; omega) (by decide)
      · rw [e3, up_i (by decide)]; exact es2
      · rw [e3, up_i (by decide)]; exact e42
    refine b_214_63 (ite_c (fun q => ⟨k9, y_205 hr (hi.me e0.1.me) (by decide) (by decide) (by omega) (by omega) (fun v g2 e2 f2 t2 j2 => inner q 0 (by decide) (by decide) g2 ⟨e0.1.tr e2, fun j z => (j2 j z).trans (e0.2 j z)⟩ ((f2 52).trans es) (by omega))⟩) (fun _ => h _ _ e0))
  have fill : ∀ s, SHF s → ∀ l4 : Int, -2147483648 ≤ l4 → 0 ≤ l4 → ∀ g1, M4F g g1 → g1 165 52 = s → g1 197 4 = g 197 0 → WQ sc (d + 8) 214 Q 36 [(2, 165), (9, 0), (9, 0), (0, l3), (0, l4), (9, 0)] [] g1 r := by
    intro s hs
    refine upW 3 (by decide) fun l4 _ ih h0 g1 e0 es e4 => ?_
    refine b_214_36 ?_
    rw [hw3, r_165_60 hr]
    refine ite_c (fun q => ?_) (fun _ => day s hs 0 (by decide) (by decide) (by decide) _ e0 es (by omega))
    rw [wr_id (x := 3 * l3 + l4) ⟨by omega, by omega⟩]
    refine ⟨k9, i_208.mpr ⟨by omega, by omega⟩, fun g2 e2 => ih q (by rw [wr_id ⟨by omega, by omega⟩]; omega) _ ?_ ?_ ?_⟩
    · rw [e2]; exact e0.u (by unfold MW6 MV6 MV MZV; omega) (by decide)
    · rw [e2, up_i (by decide)]; exact es
    · rw [e2, up_i (by decide)]; exact e4
  refine c_214 ⟨k9, y_192b hr hi.2.1 (by decide) (by decide) (by decide) (by decide) (fun v1 g1 e1 f1 j1 => ⟨k9, y_201 (fun v2 g2 e2 f2 => ⟨k9, s_212b hr (fun v3 hs => ⟨k9, fun g4 e4 => ⟨k9, fun g5 e5 => ⟨k9, fun g6 e6 => ⟨k9, fun g7 e7 => fill v3 hs 0 (by decide) (by decide) g7 ?_ ?_ ?_⟩⟩⟩⟩)⟩)⟩)⟩
  · rw [e7, e6, e5, e4]
    have e02 : M4F g g2 := ⟨e1.tr e2, fun j z => (f2 j).trans (j1 j z)⟩
    exact (((e02.u (by unfold MW6 MV6 MV MZV; omega) (by decide)).u (by unfold MW6 MV6 MV MZV; omega) (by decide)).u (by unfold MW6 MV6 MV MZV; omega) (by decide)).u (by unfold MW6 MV6 MV MZV; omega) (by decide)
  · rw [e7, up_j (by decide), e6, up_j (by decide), e5, up_j (by decide), e4, up_s]
  · rw [e7, up_i (by decide), e6, up_i (by decide), e5, up_i (by decide), e4, up_i (by decide), f2, f1]
theorem y_217 (hr : RI r) (hi : MI g) (h : ∀ v g', MFZ g g' → Q v g' r) : Ce sc (d + 10) 217 [(2, 165), (0, l1), (0, l2), (0, l3), (0, l4)] g r Q := by
  have k9 : okr 218 165 9 := okd (by decide +kernel)
  refine c_217 ⟨k9, s_216 hr hi (fun a b => ?_) ?_⟩
  · rw [if_neg (by decide)]
    refine ⟨k9, s_215 hr (fun w0 w6 => ?_) ?_⟩
    · rw [if_neg (by decide)]
      have hk := k3_b g
      refine ⟨k9, s_213 hr (w_137 (fun q0 q1 => ?_) (fun _ => ?_))⟩
      · rw [if_neg (by decide)]
        rw [wr_id (x := _ - 1) ⟨by omega, by omega⟩] at q1
        refine ⟨k9, y_214 hr hi a b w0 w6 (fun v g1 e1 => ?_)⟩
        rw [r_165_60 hr, wr_id (x := 3 * l3) ⟨by omega, by omega⟩, wr_id ⟨by omega, by omega⟩]
        exact ⟨k9, i_208.mpr ⟨by omega, by omega⟩, h _ _ e1.1⟩
      · rw [if_pos rfl]; exact h _ _ (MFZ.rf g)
    · rw [if_pos rfl]; exact h _ _ (MFZ.rf g)
  · rw [if_pos rfl]; exact h _ _ (MFZ.rf g)
theorem y_218 (hr : RI r) (hi : MI g) (b0 : 0 ≤ g 197 0) (b1 : g 197 0 ≤ 936) (h : ∀ v g', MFZ g g' → Q v g' r) : Ce sc (d + 10) 218 [(2, 165), (0, l1), (0, l2)] g r Q := by
  have k9 : okr 218 165 9 := okd (by decide +kernel)
  have loop : ∀ l3 : Int, -2147483648 ≤ l3 → 0 ≤ l3 → ∀ g1, M4F g g1 → WQ sc (d + 9) 218 Q 2 [(2, 165), (0, l1), (0, l2), (0, l3)] [] g1 r := by
    refine upW 64 (by decide) fun l3 _ ih h0 g1 e0 => ?_
    have f0 := e0.2 0 (by decide)
    refine b_218_2 (ite_c (fun q => ⟨k9, s_215 hr (fun _ _ => ?_) ?_⟩) (fun _ => h _ _ e0.1))
    · rw [if_neg (by decide)]
      exact ⟨k9, y_214 hr (hi.me e0.1.me) (by omega) (by omega) h0 q (fun v g2 e2 => ih q (by rw [wr_id ⟨by omega, by omega⟩]; omega) _ (e0.tr e2))⟩
    · rw [if_pos rfl]; exact ih q (by rw [wr_id ⟨by omega, by omega⟩]; omega) _ e0
  exact c_218 (loop 0 (by decide) (by decide) g (M4F.rf g))
theorem y_220 (hr : RI r) (hi : MI g) (h : ∀ v g', MFZ g g' → Q v g' r) : Ce sc (d + 11) 220 [(2, 165), (0, l1), (0, l2), (0, l3)] g r Q := by
  have k9 : okr 218 165 9 := okd (by decide +kernel)
  have loop : ∀ l5 : Int, -2147483648 ≤ l5 → 0 ≤ l5 → ∀ (l4 : Int) g1, MFZ g g1 → WQ sc (d + 10) 220 Q 28 [(2, 165), (9, 0), (9, 0), (0, l3), (0, l4), (0, l5)] [] g1 r := by
    refine upW 64 (by decide) fun l5 _ ih h0 l4 g1 e0 => ?_
    refine b_220_28 (ite_c (fun q => ⟨k9, s_215 hr (fun _ _ => ?_) ?_⟩) (fun _ => ite_c (fun _ => h _ _ e0) (fun _ => h _ _ e0)))
    · rw [if_neg (by decide)]
      refine ⟨k9, s_219 hr h0 q ?_ ?_⟩
      · rw [if_neg (by decide)]
        exact ite_c (fun _ => h _ _ e0) (fun _ => ih q (by rw [wr_id ⟨by omega, by omega⟩]; omega) _ _ e0)
      · rw [if_pos rfl]; exact ih q (by rw [wr_id ⟨by omega, by omega⟩]; omega) _ _ e0
    · rw [if_pos rfl]; exact ih q (by rw [wr_id ⟨by omega, by omega⟩]; omega) _ _ e0
  refine c_220 ⟨k9, s_216 hr hi (fun a b => ?_) ?_⟩
  · rw [if_neg (by decide)]
    exact ite_c (fun _ => h _ _ (MFZ.rf g)) (fun _ => ⟨k9, y_218 hr hi a b (fun v g1 e1 => loop 0 (by decide) (by decide) _ _ e1)⟩)
  · rw [if_pos rfl]; exact h _ _ (MFZ.rf g)
theorem y_221 (hr : RI r) (hi : MI g) (h : ∀ v g', MFZ g g' → Q v g' r) : Ce sc (d + 11) 221 [(2, 165), (0, l1), (0, l2), (0, l3)] g r Q := by
  have k9 : okr 218 165 9 := okd (by decide +kernel)
  have loop : ∀ l4 : Int, -2147483648 ≤ l4 → 0 ≤ l4 → ∀ g1, MFZ g g1 → WQ sc (d + 10) 221 Q 32 [(2, 165), (9, 0), (9, 0), (0, l3), (0, l4), (9, 0), (9, 0)] [] g1 r := by
    refine upW 64 (by decide) fun l4 _ ih h0 g1 e0 => ?_
    have hk := k3_b g1
    have hw : wr (3 * l4) = 3 * l4 ∨ ¬ l4 < 64 := by
      by_cases z : l4 < 64
      · exact Or.inl (wr_id ⟨by omega, by omega⟩)
      · exact Or.inr z
    have inner : l4 < 64 → ∀ l6 : Int, -2147483648 ≤ l6 → 0 ≤ l6 → ∀ l5 : Int, WQ sc (d + 10) 221 Q 50 [(2, 165), (9, 0), (9, 0), (0, l3), (0, l4), (0, l5), (0, l6)] [] g1 r := by
      intro q
      have nx := ih q (by rw [wr_id ⟨by omega, by omega⟩]; omega)
      refine upW 3 (by decide) fun l6 _ ih6 h6 l5 => ?_
      refine b_221_50 ⟨k9, s_213 hr (ite_c (fun q6 => ite_c (fun _ => ite_c (fun _ => nx _ e0) (fun _ => h _ _ e0)) (fun _ => ?_)) (fun _ => ite_c (fun _ => nx _ e0) (fun _ => h _ _ e0)))⟩
      rw [r_165_60 hr, wr_id (x := 3 * l4) ⟨by omega, by omega⟩, wr_id (x := 3 * l4 + l6) ⟨by omega, by omega⟩]
      exact ⟨k9, i_208.mpr ⟨by omega, by omega⟩, ite_c (fun _ => ih6 (by omega) (by rw [wr_id ⟨by omega, by omega⟩]; omega) _) (fun _ => ih6 (by omega) (by rw [wr_id ⟨by omega, by omega⟩]; omega) _)⟩
    refine b_221_32 (ite_c (fun q => ⟨k9, s_215 hr (fun _ _ => inner q 0 (by decide) (by decide) _) (inner q 0 (by decide) (by decide) _)⟩) (fun _ => h _ _ e0))
  refine c_221 ⟨k9, s_216 hr hi (fun a b => ?_) ?_⟩
  · rw [if_neg (by decide)]
    refine w_137 (fun _ _ => ?_) (fun _ => ?_)
    · rw [if_neg (by decide)]
      exact ⟨k9, y_218 hr hi a b (fun v g1 e1 => loop 0 (by decide) (by decide) _ e1)⟩
    · rw [if_pos rfl]; exact h _ _ (MFZ.rf g)
  · rw [if_pos rfl]; exact h _ _ (MFZ.rf g)
theorem y_237 (hr : RI r) (hi : MI g) (h : ∀ v g', MFZ g g' → Q v g' r) : Ce sc (d + 8) 237 [(2, 165), (0, l1), (0, l2), (0, l3), (0, l4)] g r Q := by
  have k9 : okr 218 165 9 := okd (by decide +kernel)
  have in3 : ∀ g1, MFZ g g1 → 0 ≤ g1 165 66 → g1 165 66 ≤ 9 → ∀ (l5 l6 l8 l9 : Int), (∀ (l5 l6 l8 : Int), WQ sc (d + 7) 237 Q 106 [(2, 165), (9, 0), (9, 0), (0, l3), (0, l4), (0, l5), (1, l6), (8, 0), (0, l8), (0, wr (l9 + 1)), (9, 0), (9, 0), (9, 0), (9, 0)] [] g1 r) → ∀ l13 : Int, -2147483648 ≤ l13 → 0 ≤ l13 → ∀ (l10 l12 : Int), WQ sc (d + 7) 237 Q 126 [(2, 165), (9, 0), (9, 0), (0, l3), (0, l4), (0, l5), (1, l6), (8, 0), (0, l8), (0, l9), (1, l10), (8, 0), (0, l12), (0, l13)] [] g1 r := by
    intro g1 e0 f0 f9 l5 l6 l8 l9 nx
    refine upW 9 (by decide) fun l13 _ ih h0 l10 l12 => ?_
    refine b_237_126 ?_
    repeat' first
      | (with_reducible refine ite_01 ?_)
      | (with_reducible refine ite_00 ?_)
      | (with_reducible refine And.intro ?_ ?_; · first | assumption | decide | (exact AR.i (by assumption) (by omega) (by omega)) | (exact AR.a (by assumption) (by decide) (by decide)) | (exact AR.k (by assumption)) | omega | (have := cmp_gt.mp (by assumption : 0 < cmpL _ 0); omega) | (exact i_171.mpr ⟨by omega, by omega⟩) | (exact i_212.mpr ⟨by omega, by omega⟩) | (exact i_213.mpr ⟨by omega, by omega⟩) | (exact i_214.mpr ⟨by omega, by omega⟩))
      | (simp only [r_165_5 hr, r_165_67 hr, r_165_68 hr, r_165_69 hr])
      | (refine ite_c (fun _ => ?_) (fun _ => ?_))
      | (intro _ e1; subst e1)
      | (with_reducible refine w_137 (fun _ _ => ?_) (fun _ => ?_))
      | (with_reducible refine w_178 (fun _ _ => ?_) (fun _ => ?_))
      | (with_reducible refine s_179 hr hi (fun _ _ _ _ _ _ _ _ _ => ?_) ?_)
      | (exfalso; omega)
      | (exact absurd trivial (by assumption))
      | ((with_reducible refine ih ?_ ?_ _ _) <;> (first | ((repeat (with_reducible first | assumption | exact MFZ.rf _ | (refine MFZ.u ?_ (by unfold MW6 MV6 MV MZV; omega) (by decide)) | (refine MFZ.ub ?_ (by unfold MW6 MV6 MV MZV; omega) (by decide) (by first | decide | assumption)) | (refine MFZ.u ?_ (by unfold MW6 MV6 MV MZV; omega) (by decide)) | (refine MFZ.ub ?_ (by unfold MW6 MV6 MV MZV; omega) (by decide) (by first | decide | assumption)) | (refine MFZ.tr ?_ (by assumption)))); done) | omega | decide | (rw [wr_id ⟨by omega, by omega⟩]; omega)))
      | ((with_reducible refine nx _ _ _))
      | ((first | ((with_reducible refine h _ _ ?_); ((repeat (with_reducible first | assumption | exact MFZ.rf _ | (refine MFZ.u ?_ (by unfold MW6 MV6 MV MZV; omega) (by decide)) | (refine MFZ.ub ?_ (by unfold MW6 MV6 MV MZV; omega) (by decide) (by first | decide | assumption)) | (refine MFZ.u ?_ (by unfold MW6 MV6 MV MZV; omega) (by decide)) | (refine MFZ.ub ?_ (by unfold MW6 MV6 MV MZV; omega) (by decide) (by first | decide | assumption)) | (refine MFZ.tr ?_ (by assumption)))); done))))
  have out3 : ∀ g1, MFZ g g1 → 0 ≤ g1 165 66 → g1 165 66 ≤ 9 → ∀ l9 : Int, -2147483648 ≤ l9 → ∀ (l5 l6 l8 : Int), WQ sc (d + 7) 237 Q 106 [(2, 165), (9, 0), (9, 0), (0, l3), (0, l4), (0, l5), (1, l6), (8, 0), (0, l8), (0, l9), (9, 0), (9, 0), (9, 0), (9, 0)] [] g1 r := by
    intro g1 e0 f0 f9
    have hs := shl9 f0 f9
    refine upW 512 (by decide) fun l9 _ ih l5 l6 l8 => ?_
    exact b_237_106 ⟨k9, ite_c (fun q => in3 g1 e0 f0 f9 _ _ _ _ (fun a b c => ih (by omega) a b c) 0 (by decide) (by decide) _ _) (fun _ => ite_c (fun _ => h _ _ e0) (fun _ => ite_c (fun _ => h _ _ e0) (fun _ => h _ _ e0)))⟩
  have fill : 0 ≤ l1 → l1 < 6 → 4 ≤ g 171 l1 → g 171 l1 ≤ 80 → ∀ l5 : Int, -2147483648 ≤ l5 → 0 ≤ l5 → ∀ g1, MFZ g g1 → GT g1 → WQ sc (d + 7) 237 Q 54 [(2, 165), (0, l1), (0, l2), (0, l3), (0, l4), (0, l5), (9, 0), (9, 0), (9, 0), (9, 0), (9, 0), (9, 0), (9, 0), (9, 0)] [] g1 r := by
    intro m0 m6 b4 b8
    refine upW 9 (by decide) fun l5 _ ih h0 g1 e0 ht => ?_
    have f := hi.1.2.2.2.2.1
    have f6 : g1 165 66 = g 165 66 := e0.1 165 66 (by unfold MV6 MV MZV; omega)
    have f5 : g1 171 l1 = g 171 l1 := e0.1 171 l1 (by unfold MV6 MV MZV; omega)
    refine b_237_54 ?_
    rw [r_165_67 hr, r_165_5 hr, r_165_69 hr, f5]
    refine ⟨k9, ite_c (fun q => ?_) (fun q => ?_)⟩
    · refine ⟨k9, k9, i_212.mpr ⟨h0, by omega⟩, k9, i_171.mpr ⟨m0, by omega⟩, k9, y_189 hr ht b4 b8 (fun v g2 e2 h2 => ⟨i_214.mpr ⟨h0, by omega⟩, fun g3 e3 => ih (by omega) (by rw [wr_id ⟨by omega, by omega⟩]; omega) _ ?_ ?_⟩)⟩
      · rw [e3]; exact (e0.tr e2).u (by unfold MW6 MV6 MV MZV; omega) (by decide)
      · unfold GT at h2 ⊢
        rw [e3, up_i (by decide), up_i (by decide)]; exact h2
    · exact out3 g1 e0 (by omega) (by omega) 1 (by decide) _ _ _
  refine c_237 ?_
  repeat' first
    | (with_reducible refine ite_01 ?_)
    | (with_reducible refine ite_00 ?_)
    | (with_reducible refine And.intro ?_ ?_; · first | assumption | decide | (exact AR.i (by assumption) (by omega) (by omega)) | (exact AR.a (by assumption) (by decide) (by decide)) | (exact AR.k (by assumption)) | omega | (have := cmp_gt.mp (by assumption : 0 < cmpL _ 0); omega) | (exact i_171.mpr ⟨by omega, by omega⟩) | (exact i_212.mpr ⟨by omega, by omega⟩) | (exact i_213.mpr ⟨by omega, by omega⟩) | (exact i_214.mpr ⟨by omega, by omega⟩))
    | (simp only [r_165_5 hr, r_165_67 hr, r_165_68 hr, r_165_69 hr])
    | (refine ite_c (fun _ => ?_) (fun _ => ?_))
    | (intro _ e1; subst e1)
    | (with_reducible refine w_137 (fun _ _ => ?_) (fun _ => ?_))
    | (with_reducible refine w_178 (fun _ _ => ?_) (fun _ => ?_))
    | (with_reducible refine s_179 hr hi (fun _ _ _ _ _ _ _ _ _ => ?_) ?_)
    | (exfalso; omega)
    | (exact absurd trivial (by assumption))
    | ((first | ((with_reducible refine y_141 hr hi (by assumption) (fun _ g5 e5 h5 => ?_)); exact fill (by omega) (by omega) (by omega) (by omega) 0 (by decide) (by decide) g5 e5 (gt_of h5))))
    | ((first | ((with_reducible refine h _ _ ?_); ((repeat (with_reducible first | assumption | exact MFZ.rf _ | (refine MFZ.u ?_ (by unfold MW6 MV6 MV MZV; omega) (by decide)) | (refine MFZ.ub ?_ (by unfold MW6 MV6 MV MZV; omega) (by decide) (by first | decide | assumption)) | (refine MFZ.u ?_ (by unfold MW6 MV6 MV MZV; omega) (by decide)) | (refine MFZ.ub ?_ (by unfold MW6 MV6 MV MZV; omega) (by decide) (by first | decide | assumption)) | (refine MFZ.tr ?_ (by assumption)))); done))))
theorem y_238 (hr : RI r) (hi : MI g) (h : ∀ v g', MFZ g g' → Q v g' r) : Ce sc (d + 9) 238 [(2, 165), (0, l1), (0, l2)] g r Q := by
  have k9 : okr 218 165 9 := okd (by decide +kernel)
  have loop : 0 ≤ l1 → l1 < 6 → 0 ≤ g 197 0 → g 197 0 ≤ 936 → ∀ l7 : Int, -2147483648 ≤ l7 → 0 ≤ l7 → ∀ (l3 l4 l5 l6 : Int) g1, MFZ g g1 → g1 197 4 = g 197 0 + l7 → WQ sc (d + 8) 238 Q 51 [(2, 165), (0, l1), (0, l2), (0, l3), (0, l4), (0, l5), (0, l6), (0, l7)] [] g1 r := by
    intro m0 m6 b0 b1
    refine upW 24 (by decide) fun l7 _ ih h0 l3 l4 l5 l6 g1 e0 f4 => ?_
    have hw : l7 < 24 → wr (l7 + 1) = l7 + 1 := fun q => wr_id ⟨by omega, by omega⟩
    have e82 : l7 < 24 → ∀ (t0 l3 l4 : Int) g2, MFZ g g2 → g2 197 4 = g 197 0 + (l7 + 1) → WQ sc (d + 8) 238 Q 82 [(2, 165), (0, l1), (0, l2), (0, l3), (0, l4), (9, 0), (9, 0), (0, l7)] [(0, t0)] g2 r := by
      intro q t0 l3 l4 g2 e2 f2
      rw [hw q] at ih
      refine b_238_82 ?_
      rw [hw q, r_165_58 hr]
      exact ⟨k9, i_206.mpr ⟨m0, m6⟩, ite_c (fun _ => ih q (by omega) _ _ _ _ _ e2 f2) (fun _ => ih q (by omega) _ _ _ _ _ e2 f2)⟩
    refine b_238_51 (ite_c (fun q => ⟨k9, y_205 hr (hi.me e0.me) (by decide) (by decide) (by omega) (by omega) (fun v g2 e2 _ f2 _ => ?_)⟩) (fun _ => ite_c (fun _ => h _ _ e0) (fun _ => h _ _ e0)))
    rw [r_165_58 hr]
    exact ⟨k9, i_206.mpr ⟨m0, m6⟩, ite_c (fun _ => e82 q _ _ _ _ (e0.tr e2) (by omega)) (fun _ => e82 q _ _ _ _ (e0.tr e2) (by omega))⟩
  refine c_238 ⟨k9, s_140 hr hi (fun m0 m6 _ _ _ _ _ _ _ => ?_) ?_⟩
  · rw [if_neg (by decide)]
    refine ⟨k9, s_211 hr hi (fun b0 b1 => ?_) ?_⟩
    · rw [if_neg (by decide)]
      refine w_137 (fun _ _ => ?_) (fun _ => ?_)
      · rw [if_neg (by decide)]
        exact ⟨k9, y_192b hr hi.2.1 (by decide) (by decide) (by decide) (by decide) (fun v1 g1 e1 f1 _ => ⟨k9, y_201 (fun v2 g2 e2 f2 => loop m0 m6 b0 b1 0 (by decide) (by decide) _ _ _ _ _ (e1.tr e2) (by rw [f2, f1]; omega))⟩)⟩
      · rw [if_pos rfl]; exact h _ _ (MFZ.rf g)
    · rw [if_pos rfl]; exact h _ _ (MFZ.rf g)
  · rw [if_pos rfl]; exact h _ _ (MFZ.rf g)
theorem y_239 (hr : RI r) (hi : MI g) (h : ∀ v g', MFZ g g' → Q v g' r) : Ce sc (d + 9) 239 [(2, 165), (0, l1)] g r Q := by
  have k9 : okr 218 165 9 := okd (by decide +kernel)
  have loop : 0 ≤ l1 → l1 < 6 → 0 ≤ g 197 0 → g 197 0 ≤ 936 → ∀ l2 : Int, -2147483648 ≤ l2 → 0 ≤ l2 → ∀ g1, MFZ g g1 → g1 197 4 = g 197 0 + l2 → WQ sc (d + 8) 239 Q 29 [(2, 165), (0, l1), (0, l2)] [] g1 r := by
    intro m0 m6 b0 b1
    refine upW 24 (by decide) fun l2 _ ih h0 g1 e0 f4 => ?_
    refine b_239_29 (ite_c (fun q => ⟨k9, y_205 hr (hi.me e0.me) (by decide) (by decide) (by omega) (by omega) (fun v g2 e2 _ f2 _ => ?_)⟩) (fun _ => h _ _ e0))
    have hw : wr (l2 + 1) = l2 + 1 := wr_id ⟨by omega, by omega⟩
    rw [hw] at ih
    rw [hw, r_165_57 hr]
    exact ⟨k9, i_205.mpr ⟨m0, m6⟩, ite_c (fun _ => h _ _ (e0.tr e2)) (fun _ => ih q (by omega) _ (e0.tr e2) (by omega))⟩
  refine c_239 ⟨k9, s_140 hr hi (fun m0 m6 _ _ _ _ _ _ _ => ?_) ?_⟩
  · rw [if_neg (by decide)]
    refine ⟨k9, s_211 hr hi (fun b0 b1 => ?_) ?_⟩
    · rw [if_neg (by decide)]
      exact ⟨k9, y_192b hr hi.2.1 (by decide) (by decide) (by decide) (by decide) (fun v1 g1 e1 f1 _ => ⟨k9, y_201 (fun v2 g2 e2 f2 => loop m0 m6 b0 b1 0 (by decide) (by decide) _ (e1.tr e2) (by rw [f2, f1]; omega))⟩)⟩
    · rw [if_pos rfl]; exact h _ _ (MFZ.rf g)
  · rw [if_pos rfl]; exact h _ _ (MFZ.rf g)
theorem y_242 (hr : RI r) (hi : MI g) (h : ∀ v g', MFZ g g' → Q v g' r) : Ce sc (d + 9) 242 [(2, 165), (0, l1), (0, l2)] g r Q := by
  have k9 : okr 218 165 9 := okd (by decide +kernel)
  have c := hi.1.2.2.2.2.2.1
  have day : 0 ≤ l1 → l1 < 6 → 0 ≤ g 197 0 → g 197 0 ≤ 936 → ∀ l4 : Int, -2147483648 ≤ l4 → 1 ≤ l4 → ∀ (l3 : Int) g1, MFZ g g1 → g1 197 4 = g 197 0 + l4 - 1 → WQ sc (d + 8) 242 Q 83 [(2, 165), (0, l1), (9, 0), (0, l3), (0, l4), (9, 0), (9, 0), (9, 0), (9, 0), (9, 0)] [] g1 r := by
    intro m0 m6 b0 b1
    refine upW 25 (by decide) fun l4 _ ih h0 l3 g1 e0 f4 => ?_
    have w109 : l4 < 25 → ∀ (n : Nat) (l5 : Int), l5 ≤ n → rL l5 → ∀ (l3 l7 : Int) g2, MFZ g g2 → g2 197 4 = g 197 0 + l4 → (l7 = -1 ∨ (0 ≤ l7 ∧ l7 < 8 ∧ 0 < g2 217 l7)) → WQ sc (d + 8) 242 Q 109 [(2, 165), (0, l1), (9, 0), (0, l3), (0, l4), (1, l5), (8, 0), (0, l7), (9, 0), (9, 0)] [] g2 r := by
      intro q n
      have hw : wr (l4 + 1) = l4 + 1 := wr_id ⟨by omega, by omega⟩
      rw [hw] at ih
      induction n with
      | zero =>
        intro l5 hn _ l3 l7 g2 e2 f2 _
        refine b_242_109 ?_
        rw [hw]
        exact ite_c (fun p => absurd (cmp_gt.mp p) (by omega)) (fun _ => ih q (by omega) _ _ e2 (by omega))
      | succ n ihn =>
        intro l5 hn hr5 l3 l7 g2 e2 f2 h7
        have nx : 0 < l5 → ∀ (t0 l3 l7 : Int) g3, 0 < t0 → t0 ≤ l5 → MFZ g g3 → g3 197 4 = g 197 0 + l4 → (l7 = -1 ∨ (0 ≤ l7 ∧ l7 < 8 ∧ 0 < g3 217 l7)) → WQ sc (d + 8) 242 Q 109 [(2, 165), (0, l1), (9, 0), (0, l3), (0, l4), (1, wL (l5 - t0)), (8, 0), (0, l7), (9, 0), (9, 0)] [] g3 r := by
          intro p t0 l3 l7 g3 t1 t2 e3 f3 h73
          unfold rL at hr5
          rw [wL_id ⟨by omega, by omega⟩]
          exact ihn _ (by omega) ⟨by omega, by omega⟩ _ _ _ e3 f3 h73
        have e146 : 0 < l5 → 0 ≤ l7 → l7 < 8 → ∀ t0 : Int, 0 < t0 → t0 ≤ l5 → WQ sc (d + 8) 242 Q 146 [(2, 165), (0, l1), (9, 0), (0, l3), (0, l4), (1, l5), (8, 0), (0, l7), (9, 0), (9, 0)] [(1, t0)] g2 r := by
          intro p y0 y1 t0 t1 t2
          refine b_242_146 ?_
          rw [r_165_73 hr, r_165_71 hr]
          refine ⟨k9, i_217.mpr ⟨y0, y1⟩, i_217.mpr ⟨y0, y1⟩, fun g3 e3 => ?_⟩
          have e03 : MFZ g g3 := by rw [e3]; exact e2.u (by unfold MW6 MV6 MV MZV; omega) (by decide)
          have f3 : g3 197 4 = g 197 0 + l4 := by rw [e3, up_i (by decide)]; exact f2
          have f7 : g3 165 70 = g 165 70 := e03.1 165 70 (by unfold MV6 MV MZV; omega)
          exact ⟨k9, i_217.mpr ⟨y0, y1⟩, ite_c (fun _ => ⟨k9, i_215.mpr ⟨y0, y1⟩, ite_c (fun _ => ⟨k9, s_241 hr (by omega) (by omega) (fun v hv => nx p _ _ _ _ t1 t2 e03 f3 hv)⟩) (fun _ => ⟨k9, s_241 hr (by omega) (by omega) (fun v hv => nx p _ _ _ _ t1 t2 e03 f3 hv)⟩)⟩) (fun _ => ⟨k9, s_241 hr (by omega) (by omega) (fun v hv => nx p _ _ _ _ t1 t2 e03 f3 hv)⟩)⟩
        refine b_242_109 ?_
        rw [hw, r_165_73 hr]
        refine ite_c (fun p => ite_c (fun _ => ih q (by omega) _ _ e2 (by omega)) (fun y => ?_)) (fun _ => ih q (by omega) _ _ e2 (by omega))
        have p' := cmp_gt.mp p
        have hz : 0 ≤ l7 ∧ l7 < 8 ∧ 0 < g2 217 l7 := by
          rcases h7 with z | z
          · omega
          · exact z
        refine ⟨k9, i_217.mpr ⟨hz.1, hz.2.1⟩, ite_c (fun _ => e146 p' hz.1 hz.2.1 _ p' (Int.le_refl _)) (fun z => ⟨k9, i_217.mpr ⟨hz.1, hz.2.1⟩, e146 p' hz.1 hz.2.1 _ hz.2.2 ?_⟩)⟩
        have : ¬ l5 < g2 217 l7 := fun q => z (cmp_lt.mpr q)
        omega
    refine b_242_83 (ite_c (fun _ => h _ _ e0) (fun q => ⟨k9, y_205 hr (hi.me e0.me) (by decide) (by decide) (by omega) (by omega) (fun v g2 e2 _ f2 _ => ?_)⟩))
    have e02 := e0.tr e2
    have f7 : g2 165 70 = g 165 70 := e02.1 165 70 (by unfold MV6 MV MZV; omega)
    rw [r_165_59 hr]
    refine ⟨k9, i_207.mpr ⟨m0, m6⟩, k9, s_241 hr (by omega) (by omega) (fun v hv => w109 (by omega) (g2 207 l1).toNat _ (by omega) ((e02.2 hi.2.1).2.2.2.2 l1) _ _ _ e02 (by omega) hv)⟩
  have fill : 0 ≤ l1 → l1 < 6 → 0 ≤ g 197 0 → g 197 0 ≤ 936 → ∀ l3 : Int, -2147483648 ≤ l3 → 0 ≤ l3 → ∀ g1, MFZ g g1 → g1 197 4 = g 197 0 → WQ sc (d + 8) 242 Q 51 [(2, 165), (0, l1), (9, 0), (0, l3), (9, 0), (9, 0), (9, 0), (9, 0), (9, 0), (9, 0)] [] g1 r := by
    intro m0 m6 b0 b1
    refine upW 8 (by decide) fun l3 _ ih h0 g1 e0 f4 => ?_
    have f7 : g1 165 70 = g 165 70 := e0.1 165 70 (by unfold MV6 MV MZV; omega)
    refine b_242_51 ⟨k9, ?_⟩
    rw [r_165_72 hr, r_165_73 hr]
    refine ite_c (fun q => ⟨k9, k9, i_216.mpr ⟨h0, by omega⟩, i_217.mpr ⟨h0, by omega⟩, fun g2 e2 => ih (by omega) (by rw [wr_id ⟨by omega, by omega⟩]; omega) _ ?_ ?_⟩) (fun _ => day m0 m6 b0 b1 1 (by decide) (by decide) _ _ e0 (by omega))
    · rw [e2]; exact e0.u (by unfold MW6 MV6 MV MZV; omega) (by decide)
    · rw [e2, up_i (by decide)]; exact f4
  refine c_242 ⟨k9, s_140 hr hi (fun m0 m6 _ _ _ _ _ _ _ => ?_) ?_⟩
  · rw [if_neg (by decide)]
    refine ⟨k9, s_211 hr hi (fun b0 b1 => ?_) ?_⟩
    · rw [if_neg (by decide)]
      refine w_137 (fun _ _ => ?_) (fun _ => ?_)
      · rw [if_neg (by decide)]
        refine ⟨k9, y_192b hr hi.2.1 (by decide) (by decide) (by decide) (by decide) (fun v1 g1 e1 f1 _ => ⟨k9, y_201 (fun v2 g2 e2 f2 => ⟨k9, fun g3 e3 => ⟨k9, fun g4 e4 => fill m0 m6 b0 b1 0 (by decide) (by decide) _ ?_ ?_⟩⟩)⟩)⟩
        · rw [e4, e3]
          exact ((e1.tr e2).u (by unfold MW6 MV6 MV MZV; omega) (by decide)).u (by unfold MW6 MV6 MV MZV; omega) (by decide)
        · rw [e4, up_i (by decide), e3, up_i (by decide), f2, f1]
      · rw [if_pos rfl]; exact h _ _ (MFZ.rf g)
    · rw [if_pos rfl]; exact h _ _ (MFZ.rf g)
  · rw [if_pos rfl]; exact h _ _ (MFZ.rf g)
end ZF6
