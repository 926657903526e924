/-! the reference's call mill comes to its end -/
/-- the mill that is read, between its statements; e more gates than statements at most -/
def OW (e : Int) (g : GH) : Prop := (4 ≤ g 171 7 ∧ g 171 7 ≤ 80 ∧ 0 ≤ g 174 7 ∧ g 174 7 ≤ 90) ∧ (1 ≤ g 177 7 ∧ g 177 7 ≤ 300 ∧ 1 ≤ g 175 7) ∧ (0 ≤ g 179 7 ∧ g 179 7 ≤ g 180 7 + e ∧ 0 ≤ g 180 7 ∧ g 180 7 + e ≤ 30) ∧ (2450 ≤ g 165 31 ∧ 2 * (g 165 31 - 2450) ≤ g 165 28) ∧ ∀ q, 210 ≤ q → q < 210 + g 179 7 → 2450 ≤ g 183 q ∧ g 183 q ≤ g 184 q ∧ g 184 q ≤ g 165 31 ∧ PGF g (g 183 q) (g 184 q)
/-- nothing of the mill that is read has changed -/
theorem OW.eq {e : Int} {g g' : GH} (h : OW e g) (k : ∀ i j, (i = 165 ∧ j = 31) ∨ (169 ≤ i ∧ i ≤ 188) → g' i j = g i j) (f : g 165 28 ≤ g' 165 28) : OW e g' := by
  obtain ⟨h1, h2, h3, h4, h5⟩ := h
  unfold OW
  rw [k 171 7 (by omega), k 174 7 (by omega), k 177 7 (by omega), k 175 7 (by omega), k 179 7 (by omega), k 180 7 (by omega), k 165 31 (by omega)]
  refine ⟨h1, h2, h3, ⟨h4.1, by omega⟩, fun q q0 q1 => ?_⟩
  obtain ⟨a1, a2, a3, a4⟩ := h5 q q0 q1
  rw [k 183 q (by omega), k 184 q (by omega)]
  exact ⟨a1, a2, a3, a4.eq (fun j _ => ⟨k 185 j (by omega), k 186 j (by omega)⟩)⟩
theorem OW.rs {e : Int} {g g' : GH} (h : OW e g) (s : RS2 g g') : OW e g' := h.eq (fun i j hi => s.1 i j (by omega)) s.2.2.1
theorem OW.le {g : GH} (h : OW 0 g) (h30 : g 180 7 < 30) : OW 1 g := ⟨h.1, h.2.1, ⟨h.2.2.1.1, by have := h.2.2.1.2.1; omega, h.2.2.1.2.2.1, by omega⟩, h.2.2.2⟩
/-- a number of the mill that is read is set -/
theorem OW.u {e x v : Int} {g : GH} (h : OW e g) (hx : (x = 175 ∧ 1 ≤ v) ∨ (x = 177 ∧ 1 ≤ v ∧ v ≤ 300) ∨ x = 176 ∨ x = 178) : OW e (up g x 7 v) := by
  have k : ∀ i j, i ≠ x → up g x 7 v i j = g i j := fun i j hi => up_i hi
  obtain ⟨h1, h2, h3, h4, h5⟩ := h
  unfold OW
  rw [k 171 7 (by omega), k 174 7 (by omega), k 179 7 (by omega), k 180 7 (by omega), k 165 31 (by omega), k 165 28 (by omega)]
  refine ⟨h1, ?_, h3, h4, fun q q0 q1 => ?_⟩
  · rcases hx with ⟨rfl, z⟩ | ⟨rfl, z⟩ | rfl | rfl
    · rw [k 177 7 (by omega), up_s]; exact ⟨h2.1, h2.2.1, z⟩
    · rw [k 175 7 (by omega), up_s]; exact ⟨z.1, z.2, h2.2.2⟩
    · rw [k 177 7 (by omega), k 175 7 (by omega)]; exact h2
    · rw [k 177 7 (by omega), k 175 7 (by omega)]; exact h2
  · obtain ⟨a1, a2, a3, a4⟩ := h5 q q0 q1
    rw [k 183 q (by omega), k 184 q (by omega)]
    exact ⟨a1, a2, a3, a4.eq (fun j _ => ⟨k 185 j (by omega), k 186 j (by omega)⟩)⟩
theorem EXC.rw' {a : Int} {g g' : GH} (ha : 2450 ≤ a) (h : EXC a g g') (m : g 165 33 ≠ 0 → g' 165 33 ≠ 0) : RW g g' := ⟨fun i j p q r s t u => h.1 i j p q r (by omega), h.2.1, h.2.2.2.2.1, m, mb_eq (fun i j hi => h.1 i j (by omega) (by omega) (by omega) (by omega))⟩
section MPG
variable {sc : SCR} {d : Nat} {Q : QJ} {g r : GH} {l0 l1 l2 l3 l4 l5 l6 l7 l8 l9 l10 l11 l12 t0 : Int}
theorem s_158 (hr : RI r) (hv : RV g) (ow : g 165 33 = 0 → OW 1 g) (h : ∀ v g', RW g g' → (g' 165 33 = 0 → OW 0 g' ∧ g' 180 7 = g 180 7 + 1) → Q v g' r) : Ce sc (d + 3) 158 [(2, 165)] g r Q := by
  have k9 : okr 218 165 9 := okd (by decide +kernel)
  have er : g 165 33 ≠ 0 → Q 0 g r := fun z => h _ _ (RW.rf hv) (fun y => absurd y z)
  have good : g 165 33 = 0 → Ce sc (d + 2) 144 [(2, 165)] g r (fun v1 g1 r1 => okr 218 165 9 ∧ okI 218 (r1 165 14) 11 7 ∧ okI 218 (r1 165 14) 11 7 ∧ ∀ g2, g2 = up g1 (r1 165 14) 7 (wr ((g1 (r1 165 14) 7) + 1)) → Q 0 g2 r1) := by
    intro z
    refine x_144 hr hv (fun _ g1 o1 p1 rv1 s1 => ?_)
    rw [r_165_14 hr]
    refine ⟨k9, i_180.mpr ⟨by decide, by decide⟩, i_180.mpr ⟨by decide, by decide⟩, fun g2 e2 => h _ _ (by rw [e2]; exact s1.rw'.u7 (by omega)) (fun _ => ?_)⟩
    obtain ⟨h1, h2, h3, h4, h5⟩ := (ow z).rs s1
    rw [wr_id ⟨by omega, by omega⟩] at e2
    have k : ∀ i j, i ≠ 180 → g2 i j = g1 i j := fun i j hi => by rw [e2, up_i hi]
    have k8 : g2 180 7 = g1 180 7 + 1 := by rw [e2, up_s]
    refine ⟨?_, by rw [k8, s1.1 180 7 (by decide)]⟩
    unfold OW
    rw [k 171 7 (by omega), k 174 7 (by omega), k 177 7 (by omega), k 175 7 (by omega), k 179 7 (by omega), k8, k 165 31 (by omega), k 165 28 (by omega)]
    refine ⟨h1, h2, by omega, h4, fun q q0 q1 => ?_⟩
    obtain ⟨a1, a2, a3, a4⟩ := h5 q q0 q1
    rw [k 183 q (by omega), k 184 q (by omega)]
    exact ⟨a1, a2, a3, a4.eq (fun j _ => ⟨k 185 j (by omega), k 186 j (by omega)⟩)⟩
  refine c_158 ⟨k9, ite_c (fun z => ⟨k9, ite_c (fun _ => ⟨k9, ite_c (fun _ => ⟨k9, good z⟩) (fun y => er y)⟩) (fun _ => ⟨k9, s_145 hv (fun _ g1 s1 z1 _ => ⟨k9, ite_c (fun y => absurd y z1) (fun _ => h _ _ s1.rw' (fun y => absurd y z1))⟩)⟩)⟩) (fun z => ⟨k9, ite_c (fun y => absurd y z) (fun _ => er z)⟩)⟩
theorem s_156 (hr : RI r) (hv : RV g) (ow : OW 0 g) (h30 : g 180 7 < 30) (h : ∀ v g', RW g g' → (g' 165 33 = 0 → OW 1 g' ∧ g' 180 7 = g 180 7) → Q v g' r) : Ce sc (d + 7) 156 [(2, 165)] g r Q := by
  have k9 : okr 218 165 9 := okd (by decide +kernel)
  have h3 := ow.2.2.1
  have hw : wr (210 + g 179 7) = 210 + g 179 7 := wr_id ⟨by omega, by omega⟩
  have i2 : okI 218 182 11 (210 + g 179 7) := i_182.mpr ⟨by omega, by omega⟩
  have i3 : okI 218 183 11 (210 + g 179 7) := i_183.mpr ⟨by omega, by omega⟩
  have i4 : okI 218 184 11 (210 + g 179 7) := i_184.mpr ⟨by omega, by omega⟩
  have i7 : okI 218 179 11 7 := i_179.mpr ⟨by decide, by decide⟩
  refine c_156 ?_
  rw [r_165_13 hr, hw]
  refine ⟨k9, i7, k9, k9, s_149 hr hv (fun v1 g1 s1 _ => ?_)⟩
  rw [r_165_16 hr]
  refine ⟨i2, fun g2 e2 => ⟨k9, k9, ?_⟩⟩
  rw [r_165_17 hr]
  refine ⟨i3, fun g3 e3 => ⟨k9, ?_⟩⟩
  have r3 : RW g g3 := by rw [e3, e2]; exact (s1.rw'.ug (by omega)).ug (by omega)
  have n3 : ∀ i j, (i = 165 ∧ j = 31) ∨ (169 ≤ i ∧ i ≤ 188 ∧ i ≠ 182 ∧ i ≠ 183) ∨ (i = 183 ∧ j ≠ 210 + g 179 7) → g3 i j = g i j := fun i j hi => by
    rw [e3, up_o (by omega), e2, up_o (by omega)]
    exact s1.1 i j (by omega)
  have w2 : g2 165 31 = g 165 31 := by rw [e2, up_i (by decide)]; exact s1.1 165 31 (by decide)
  have f83 : g3 183 (210 + g 179 7) = g 165 31 := by rw [e3, up_s, w2]
  have w3 : g3 165 31 = g 165 31 := n3 165 31 (by omega)
  -- the end, whatever the condition was
  have fin : ∀ g5, RW g3 g5 → (∀ i j, (169 ≤ i ∧ i ≤ 184) ∨ (185 ≤ i ∧ i ≤ 188 ∧ j < g 165 31) → g5 i j = g3 i j) → g 165 31 ≤ g5 165 31 → (g5 165 33 = 0 → PGF g5 (g 165 31) (g5 165 31) ∧ 2 * (g5 165 31 - 2450) ≤ g5 165 28) → okr 218 165 9 ∧ okr 218 165 9 ∧ okI 218 184 11 (210 + g 179 7) ∧ ∀ g6, g6 = up g5 184 (210 + g 179 7) (g5 165 31) → okr 218 165 9 ∧ okI 218 179 11 7 ∧ okI 218 179 11 7 ∧ ∀ g7, g7 = up g6 179 7 (wr (g6 179 7 + 1)) → Q 0 g7 r := by
    intro g5 r5 n5 w5 p5
    refine ⟨k9, k9, i4, fun g6 e6 => ⟨k9, i7, i7, fun g7 e7 => ?_⟩⟩
    have f79 : g6 179 7 = g 179 7 := by rw [e6, up_i (by decide), n5 179 7 (by omega)]; exact n3 179 7 (by omega)
    rw [f79, wr_id ⟨by omega, by omega⟩] at e7
    have n7 : ∀ i j, ¬ (i = 179 ∧ j = 7) → ¬ (i = 184 ∧ j = 210 + g 179 7) → g7 i j = g5 i j := fun i j a b => by rw [e7, up_o a, e6, up_o b]
    refine h _ _ (by rw [e7, e6]; exact ((r3.tr r5).ug (by omega)).u7 (by omega)) (fun z => ?_)
    rw [n7 165 33 (by omega) (by omega)] at z
    obtain ⟨p1, p2⟩ := p5 z
    have old : ∀ i j, 169 ≤ i ∧ i ≤ 181 → ¬ (i = 179 ∧ j = 7) → g7 i j = g i j := fun i j a b => by
      rw [n7 i j b (by omega), n5 i j (by omega)]; exact n3 i j (by omega)
    have k79 : g7 179 7 = g 179 7 + 1 := by rw [e7, up_s]
    have w7 : g7 165 31 = g5 165 31 := n7 165 31 (by omega) (by omega)
    have k84 : g7 184 (210 + g 179 7) = g5 165 31 := by rw [e7, up_i (by decide), e6, up_s]
    refine ⟨?_, old 180 7 (by omega) (by omega)⟩
    obtain ⟨h1, h2, _, h4, h5⟩ := ow
    unfold OW
    rw [old 171 7 (by omega) (by omega), old 174 7 (by omega) (by omega), old 177 7 (by omega) (by omega), old 175 7 (by omega) (by omega), k79, old 180 7 (by omega) (by omega), w7, n7 165 28 (by omega) (by omega)]
    refine ⟨h1, h2, by omega, ⟨by omega, p2⟩, fun q q0 q1 => ?_⟩
    by_cases y : q = 210 + g 179 7
    · rw [y, k84, n7 183 _ (by omega) (by omega), n5 183 _ (by omega), f83]
      exact ⟨h4.1, w5, Int.le_refl _, p1.eq (fun j _ => ⟨n7 185 j (by omega) (by omega), n7 186 j (by omega) (by omega)⟩)⟩
    · obtain ⟨a1, a2, a3, a4⟩ := h5 q q0 (by omega)
      have e83 : g7 183 q = g 183 q := by rw [n7 183 q (by omega) (by omega), n5 183 q (by omega)]; exact n3 183 q (by omega)
      have e84 : g7 184 q = g 184 q := by rw [n7 184 q (by omega) (by omega), n5 184 q (by omega)]; exact n3 184 q (by omega)
      rw [e83, e84]
      refine ⟨a1, a2, by omega, a4.eq (fun j hj => ⟨?_, ?_⟩)⟩
      · rw [n7 185 j (by omega) (by omega), n5 185 j (by omega)]; exact n3 185 j (by omega)
      · rw [n7 186 j (by omega) (by omega), n5 186 j (by omega)]; exact n3 186 j (by omega)
  have wb := ow.2.2.2.1
  have f28 := r3.2.2.1
  refine s_147 hr r3.2.1 (by decide) (fun g4 z33 o4 s4 p4 => ?_) ?_
  · rw [if_neg (by decide)]
    have w4 : g4 165 31 = g 165 31 := by rw [s4.1 165 31 (by decide)]; exact w3
    refine ⟨k9, s_154 hr s4.2.1 (by omega) (by omega) (fun _ g5 ex => ?_)⟩
    rw [w4] at ex
    rw [r_165_18 hr, r_165_13 hr]
    have z4 : g4 165 33 = 0 := by rw [o4 165 33 (by decide)]; exact z33
    refine fin g5 (s4.rw'.tr (ex.rw' wb.1 (fun y => absurd z4 y))) (fun i j hi => ?_) ex.2.2.1 ex.2.2.2.2.2
    rw [ex.1 i j (by omega) (by omega) (by omega) (by omega)]
    exact s4.1 i j (by omega)
  · rw [if_pos rfl, r_165_18 hr, r_165_13 hr]
    refine fin g3 (RW.rf r3.2.1) (fun _ _ _ => rfl) (by omega) (fun _ => ?_)
    rw [w3]
    exact ⟨⟨fun _ => 0, rfl, fun k k0 k1 => absurd k1 (by omega)⟩, by omega⟩
theorem s_157 (hr : RI r) (hv : RV g) (nw : g 165 33 = 0) (ow : OW 0 g) (h : ∀ v g', RW g g' → (g' 165 33 = 0 → OW 1 g' ∧ g' 180 7 = g 180 7) → Q v g' r) : Ce sc (d + 8) 157 [(2, 165)] g r Q := by
  have k9 : okr 218 165 9 := okd (by decide +kernel)
  have er : ∀ {D : Nat}, Ce sc (D + 1) 145 [(2, 165)] g r (fun v1 g1 r1 => Q 0 g1 r1) := s_145 hv (fun _ g1 s1 z _ => h _ _ s1.rw' (fun y => absurd y z))
  refine c_157 ?_
  rw [r_165_14 hr]
  refine ⟨k9, i_180.mpr ⟨by decide, by decide⟩, ite_c (fun _ => ⟨k9, er⟩) (fun q => ⟨k9, ?_⟩)⟩
  have h30 : g 180 7 < 30 := by have := ow.2.2.1; omega
  have o1 := ow.le h30
  have num : ∀ g1, RS2 g g1 → ∀ (lo hi x : Int), 169 ≤ x ∧ x ≤ 180 → x ≠ 180 → (∀ v, lo ≤ v ∧ v ≤ hi → (x = 175 ∧ 1 ≤ v) ∨ (x = 177 ∧ 1 ≤ v ∧ v ≤ 300) ∨ x = 176 ∨ x = 178) → Ce sc (d + 7) 149 [(2, 165), (0, lo), (0, hi)] g1 r (fun v2 g2 r2 => okI 218 x 11 7 ∧ ∀ g3, g3 = up g2 x 7 v2 → Q 0 g3 r2) ∨ ¬ okI 218 x 11 7 := by
    intro g1 s1 lo hi x hx hx8 hb
    by_cases hI : okI 218 x 11 7
    · refine Or.inl (s_149 hr s1.2.1 (fun v2 g2 s2 b2 => ⟨hI, fun g3 e3 => h _ _ (by rw [e3]; exact (s1.tr s2).rw'.u7 hx) (fun z => ?_)⟩))
      rw [e3, up_i (by omega)] at z
      rw [e3]
      exact ⟨(o1.rs (s1.tr s2)).u (hb v2 (b2 z)), by rw [up_i (fun q => hx8 q.symm)]; exact (s1.tr s2).1 180 7 (by decide)⟩
    · exact Or.inr hI
  have i9 : ∀ x : Int, (x = 175 ∨ x = 176 ∨ x = 177 ∨ x = 178) → okI 218 x 11 7 := fun x hx => by
    rcases hx with rfl | rfl | rfl | rfl
    · exact i_175.mpr ⟨by decide, by decide⟩
    · exact i_176.mpr ⟨by decide, by decide⟩
    · exact i_177.mpr ⟨by decide, by decide⟩
    · exact i_178.mpr ⟨by decide, by decide⟩
  refine s_147 hr hv (by decide) (fun g1 _ _ s1 _ => ?_) ?_
  · rw [if_neg (by decide), r_165_9 hr]
    exact ⟨k9, k9, (num g1 s1 1 9999 175 (by decide) (by decide) (fun v b => Or.inl ⟨rfl, b.1⟩)).resolve_right (fun z => z (i9 175 (by decide)))⟩
  rw [if_pos rfl]
  refine ⟨k9, s_147 hr hv (by decide) (fun g1 _ _ s1 _ => ?_) ?_⟩
  · rw [if_neg (by decide), r_165_10 hr]
    exact ⟨k9, k9, (num g1 s1 0 100 176 (by decide) (by decide) (fun v b => Or.inr (Or.inr (Or.inl rfl)))).resolve_right (fun z => z (i9 176 (by decide)))⟩
  rw [if_pos rfl]
  refine ⟨k9, s_147 hr hv (by decide) (fun g1 _ _ s1 _ => ?_) ?_⟩
  · rw [if_neg (by decide), r_165_11 hr]
    exact ⟨k9, k9, (num g1 s1 1 300 177 (by decide) (by decide) (fun v b => Or.inr (Or.inl ⟨rfl, b.1, b.2⟩))).resolve_right (fun z => z (i9 177 (by decide)))⟩
  rw [if_pos rfl]
  refine ⟨k9, s_147 hr hv (by decide) (fun g1 _ _ s1 _ => ?_) ?_⟩
  · rw [if_neg (by decide), r_165_12 hr]
    exact ⟨k9, k9, (num g1 s1 0 9999 178 (by decide) (by decide) (fun v b => Or.inr (Or.inr (Or.inr rfl)))).resolve_right (fun z => z (i9 178 (by decide)))⟩
  rw [if_pos rfl]
  refine ⟨k9, s_147 hr hv (by decide) (fun g1 _ _ s1 _ => ?_) ?_⟩
  · rw [if_neg (by decide)]
    have h18 : g1 180 7 = g 180 7 := s1.1 180 7 (by decide)
    exact ⟨k9, s_156 hr s1.2.1 (ow.rs s1) (by omega) (fun _ g2 r2 o2 => h _ _ (s1.rw'.tr r2) (fun z => ⟨(o2 z).1, (o2 z).2.trans h18⟩))⟩
  · rw [if_pos rfl]; exact ⟨k9, er⟩
end MPG
theorem MT.pt {g g' : GH} {m : Int} (h : MT g m) (e1 : ∀ i, 168 ≤ i → i ≤ 180 → g' i m = g i m) (e2 : ∀ i j, 182 ≤ i → i ≤ 184 → 30 * m ≤ j → j < 30 * m + 30 → g' i j = g i j) (e3 : ∀ i j, 185 ≤ i → i ≤ 188 → 350 * m ≤ j → j < 350 * m + 350 → g' i j = g i j) : MT g' m := by
  obtain ⟨h1, h2, h3, h4⟩ := h
  have e9 := e1 179 (by decide) (by decide)
  refine ⟨?_, by rw [e1 175 (by decide) (by decide)]; exact h2, by rw [e9]; exact h3, fun q q0 q1 => ?_⟩
  · unfold GM at h1 ⊢
    rw [e1 171 (by decide) (by decide), e1 174 (by decide) (by decide), e1 177 (by decide) (by decide)]; exact h1
  · rw [e9] at q1
    obtain ⟨a1, a2, ht, a3, a4⟩ := h4 q q0 q1
    rw [e2 183 q (by decide) (by decide) q0 (by omega), e2 184 q (by decide) (by decide) q0 (by omega)]
    refine ⟨a1, a2, ht, a3, fun k k0 k1 => ?_⟩
    rw [e3 185 k (by decide) (by decide) (by omega) (by omega), e3 186 k (by decide) (by decide) (by omega) (by omega)]
    exact a4 k k0 k1
section MPK
variable {sc : SCR} {d : Nat} {Q : QJ} {g r : GH} {l0 l1 l2 l3 l4 l5 l6 l7 l8 l9 l10 l11 l12 t0 : Int}
theorem s_141m (hr : RI r) (hb : MB g) (m0 : 0 ≤ l1) (m6 : l1 < 6) (h : ∀ v g', (∀ i j, ¬ (168 ≤ i ∧ i ≤ 178 ∧ j = l1) → g' i j = g i j) → (∀ i, 168 ≤ i → i ≤ 178 → g' i l1 = g i 7) → Q v g' r) : Ce sc (d + 1) 141 [(2, 165), (0, 7), (0, l1)] g r Q := by
  have k9 : okr 218 165 9 := okd (by decide +kernel)
  refine c_141 ?_
  rw [r_165_2 hr, r_165_3 hr, r_165_4 hr, r_165_5 hr, r_165_6 hr, r_165_7 hr, r_165_8 hr, r_165_9 hr, r_165_10 hr, r_165_11 hr, r_165_12 hr]
  refine ⟨k9, k9, Or.inr (i_168.mpr ⟨by decide, by decide⟩), Or.inr ⟨i_168.mpr ⟨m0, by omega⟩, hb.1 7⟩, fun g1 e1 => ⟨k9, k9, i_169.mpr ⟨by decide, by decide⟩, i_169.mpr ⟨m0, by omega⟩, fun g2 e2 => ⟨k9, k9, i_170.mpr ⟨by decide, by decide⟩, i_170.mpr ⟨m0, by omega⟩, fun g3 e3 => ⟨k9, k9, i_171.mpr ⟨by decide, by decide⟩, i_171.mpr ⟨m0, by omega⟩, fun g4 e4 => ⟨k9, k9, i_172.mpr ⟨by decide, by decide⟩, i_172.mpr ⟨m0, by omega⟩, fun g5 e5 => ⟨k9, k9, i_173.mpr ⟨by decide, by decide⟩, i_173.mpr ⟨m0, by omega⟩, fun g6 e6 => ⟨k9, k9, i_174.mpr ⟨by decide, by decide⟩, i_174.mpr ⟨m0, by omega⟩, fun g7 e7 => ⟨k9, k9, i_175.mpr ⟨by decide, by decide⟩, i_175.mpr ⟨m0, by omega⟩, fun g8 e8 => ⟨k9, k9, i_176.mpr ⟨by decide, by decide⟩, i_176.mpr ⟨m0, by omega⟩, fun g9 e9 => ⟨k9, k9, i_177.mpr ⟨by decide, by decide⟩, i_177.mpr ⟨m0, by omega⟩, fun g10 e10 => ⟨k9, k9, i_178.mpr ⟨by decide, by decide⟩, i_178.mpr ⟨m0, by omega⟩, fun g11 e11 => h _ _ ?_ ?_⟩⟩⟩⟩⟩⟩⟩⟩⟩⟩⟩
  · intro i j hi
    rw [e11, up_o (by omega), e10, up_o (by omega), e9, up_o (by omega), e8, up_o (by omega), e7, up_o (by omega), e6, up_o (by omega), e5, up_o (by omega), e4, up_o (by omega), e3, up_o (by omega), e2, up_o (by omega), e1, up_o (by omega)]
  · have d1 : ∀ i j, i ≠ 168 → g1 i j = g i j := fun i j q => by rw [e1, up_i q]
    have d2 : ∀ i j, i ≠ 169 → g2 i j = g1 i j := fun i j q => by rw [e2, up_i q]
    have d3 : ∀ i j, i ≠ 170 → g3 i j = g2 i j := fun i j q => by rw [e3, up_i q]
    have d4 : ∀ i j, i ≠ 171 → g4 i j = g3 i j := fun i j q => by rw [e4, up_i q]
    have d5 : ∀ i j, i ≠ 172 → g5 i j = g4 i j := fun i j q => by rw [e5, up_i q]
    have d6 : ∀ i j, i ≠ 173 → g6 i j = g5 i j := fun i j q => by rw [e6, up_i q]
    have d7 : ∀ i j, i ≠ 174 → g7 i j = g6 i j := fun i j q => by rw [e7, up_i q]
    have d8 : ∀ i j, i ≠ 175 → g8 i j = g7 i j := fun i j q => by rw [e8, up_i q]
    have d9 : ∀ i j, i ≠ 176 → g9 i j = g8 i j := fun i j q => by rw [e9, up_i q]
    have d10 : ∀ i j, i ≠ 177 → g10 i j = g9 i j := fun i j q => by rw [e10, up_i q]
    have d11 : ∀ i j, i ≠ 178 → g11 i j = g10 i j := fun i j q => by rw [e11, up_i q]
    intro i h0 h1
    have hc : i = 168 ∨ i = 169 ∨ i = 170 ∨ i = 171 ∨ i = 172 ∨ i = 173 ∨ i = 174 ∨ i = 175 ∨ i = 176 ∨ i = 177 ∨ i = 178 := by omega
    rcases hc with rfl | rfl | rfl | rfl | rfl | rfl | rfl | rfl | rfl | rfl | rfl
    · rw [d11 _ _ (by decide), d10 _ _ (by decide), d9 _ _ (by decide), d8 _ _ (by decide), d7 _ _ (by decide), d6 _ _ (by decide), d5 _ _ (by decide), d4 _ _ (by decide), d3 _ _ (by decide), d2 _ _ (by decide), e1, up_s]
    · rw [d11 _ _ (by decide), d10 _ _ (by decide), d9 _ _ (by decide), d8 _ _ (by decide), d7 _ _ (by decide), d6 _ _ (by decide), d5 _ _ (by decide), d4 _ _ (by decide), d3 _ _ (by decide), e2, up_s, d1 _ _ (by decide)]
    · rw [d11 _ _ (by decide), d10 _ _ (by decide), d9 _ _ (by decide), d8 _ _ (by decide), d7 _ _ (by decide), d6 _ _ (by decide), d5 _ _ (by decide), d4 _ _ (by decide), e3, up_s, d2 _ _ (by decide), d1 _ _ (by decide)]
    · rw [d11 _ _ (by decide), d10 _ _ (by decide), d9 _ _ (by decide), d8 _ _ (by decide), d7 _ _ (by decide), d6 _ _ (by decide), d5 _ _ (by decide), e4, up_s, d3 _ _ (by decide), d2 _ _ (by decide), d1 _ _ (by decide)]
    · rw [d11 _ _ (by decide), d10 _ _ (by decide), d9 _ _ (by decide), d8 _ _ (by decide), d7 _ _ (by decide), d6 _ _ (by decide), e5, up_s, d4 _ _ (by decide), d3 _ _ (by decide), d2 _ _ (by decide), d1 _ _ (by decide)]
    · rw [d11 _ _ (by decide), d10 _ _ (by decide), d9 _ _ (by decide), d8 _ _ (by decide), d7 _ _ (by decide), e6, up_s, d5 _ _ (by decide), d4 _ _ (by decide), d3 _ _ (by decide), d2 _ _ (by decide), d1 _ _ (by decide)]
    · rw [d11 _ _ (by decide), d10 _ _ (by decide), d9 _ _ (by decide), d8 _ _ (by decide), e7, up_s, d6 _ _ (by decide), d5 _ _ (by decide), d4 _ _ (by decide), d3 _ _ (by decide), d2 _ _ (by decide), d1 _ _ (by decide)]
    · rw [d11 _ _ (by decide), d10 _ _ (by decide), d9 _ _ (by decide), e8, up_s, d7 _ _ (by decide), d6 _ _ (by decide), d5 _ _ (by decide), d4 _ _ (by decide), d3 _ _ (by decide), d2 _ _ (by decide), d1 _ _ (by decide)]
    · rw [d11 _ _ (by decide), d10 _ _ (by decide), e9, up_s, d8 _ _ (by decide), d7 _ _ (by decide), d6 _ _ (by decide), d5 _ _ (by decide), d4 _ _ (by decide), d3 _ _ (by decide), d2 _ _ (by decide), d1 _ _ (by decide)]
    · rw [d11 _ _ (by decide), e10, up_s, d9 _ _ (by decide), d8 _ _ (by decide), d7 _ _ (by decide), d6 _ _ (by decide), d5 _ _ (by decide), d4 _ _ (by decide), d3 _ _ (by decide), d2 _ _ (by decide), d1 _ _ (by decide)]
    · rw [e11, up_s, d10 _ _ (by decide), d9 _ _ (by decide), d8 _ _ (by decide), d7 _ _ (by decide), d6 _ _ (by decide), d5 _ _ (by decide), d4 _ _ (by decide), d3 _ _ (by decide), d2 _ _ (by decide), d1 _ _ (by decide)]
/-- the copying of a mill that was read without a fault; g0 is the state before the call -/
theorem s_159c {g0 : GH} (hr : RI r) (hi : MI g0) (rw0 : ∀ i j, ¬ (i = 165) → i ≠ 190 → i ≠ 191 → ¬ (168 ≤ i ∧ i ≤ 180 ∧ j = 7) → ¬ (182 ≤ i ∧ i ≤ 184 ∧ 210 ≤ j) → ¬ (185 ≤ i ∧ i ≤ 188 ∧ 2450 ≤ j) → g i j = g0 i j) (hn : MN g) (hb : MB g) (hv : RV g) (ow : OW 0 g) (z33 : g 165 33 = 0) (m0 : 0 ≤ l1) (m6 : l1 < 6) (h : ∀ v g', MI g' → (∀ i j, i < 165 → g' i j = g i j) → (∀ j, j ≠ 48 → g' 165 j = g 165 j) → (∀ j, g' 211 j = g 211 j) → Q v g' r) : WQ sc (d + 1) 159 Q 157 [(2, 165), (0, l1), (9, 0), (9, 0), (9, 0)] [] g r := by
  have k9 : okr 218 165 9 := okd (by decide +kernel)
  have fr : ∀ i j, ¬ (i = 165) → i ≠ 190 → i ≠ 191 → ¬ (168 ≤ i ∧ i ≤ 180 ∧ j = 7) → ¬ (182 ≤ i ∧ i ≤ 184 ∧ 210 ≤ j) → ¬ (185 ≤ i ∧ i ≤ 188 ∧ 2450 ≤ j) → g i j = g0 i j := by
    exact rw0
  have old : MTS g := fun m a0 a6 mt => by
    rw [fr 167 m (by decide) (by decide) (by decide) (by omega) (by omega) (by omega)] at mt
    exact (hi.2.2 m a0 a6 mt).pt (fun i x y => fr i m (by omega) (by omega) (by omega) (by omega) (by omega) (by omega)) (fun i j x y z w => fr i j (by omega) (by omega) (by omega) (by omega) (by omega) (by omega)) (fun i j x y z w => fr i j (by omega) (by omega) (by omega) (by omega) (by omega) (by omega))
  obtain ⟨o1, o2, o3, o4, o5⟩ := ow
  have w28 : g 165 31 ≤ 2800 := by
    have := hv.2.1
    have := hv.2.2.2.1
    have := hv.2.2.2.2.1
    omega
  have hB : wr (350 * wr (7 - l1)) = 350 * (7 - l1) := by rw [wr_id (x := 7 - l1) ⟨by omega, by omega⟩, wr_id ⟨by omega, by omega⟩]
  have h30 : wr (30 * l1) = 30 * l1 := wr_id ⟨by omega, by omega⟩
  refine b_159_157 ⟨k9, ite_c (fun _ => ⟨k9, s_141m hr hb m0 m6 (fun _ g1 n1 c1 => ⟨k9, ?_⟩)⟩) (fun z => absurd z33 z)⟩
  rw [r_165_1 hr, r_165_13 hr, r_165_14 hr, hB]
  refine ⟨Or.inr ⟨i_167.mpr ⟨m0, by omega⟩, Or.inr rfl⟩, fun g2 e2 => ⟨k9, k9, i_179.mpr ⟨by decide, by decide⟩, i_179.mpr ⟨m0, by omega⟩, fun g3 e3 => ⟨k9, k9, i_180.mpr ⟨by decide, by decide⟩, i_180.mpr ⟨m0, by omega⟩, fun G eG => ?_⟩⟩⟩
  have nG : ∀ i j, ¬ (168 ≤ i ∧ i ≤ 180 ∧ j = l1) → ¬ (i = 167 ∧ j = l1) → G i j = g i j := fun i j a b => by
    rw [eG, up_o (by omega), e3, up_o (by omega), e2, up_o (by omega)]; exact n1 i j (by omega)
  have tG : G 167 l1 = 1 := by rw [eG, up_i (by decide), e3, up_i (by decide), e2, up_s]
  have cG : ∀ i, 168 ≤ i → i ≤ 178 → G i l1 = g i 7 := fun i a b => by
    rw [eG, up_i (by omega), e3, up_i (by omega), e2, up_i (by omega)]; exact c1 i a b
  have g79 : G 179 l1 = g 179 7 := by
    rw [eG, up_i (by decide), e3, up_s, e2, up_i (by decide)]; exact n1 179 7 (by omega)
  -- the steps are copied last
  have steps : ∀ l4 : Int, -2147483648 ≤ l4 → 2450 ≤ l4 → l4 ≤ 2800 → ∀ H, (∀ i j, ¬ (182 ≤ i ∧ i ≤ 184 ∧ 30 * l1 ≤ j ∧ j < 30 * l1 + 30) → ¬ (185 ≤ i ∧ i ≤ 188 ∧ 350 * l1 ≤ j ∧ j < 350 * l1 + 350) → H i j = G i j) → (∀ k, 0 ≤ k → k < 30 → H 183 (30 * l1 + k) = wr (G 183 (210 + k) - 350 * (7 - l1)) ∧ H 184 (30 * l1 + k) = wr (G 184 (210 + k) - 350 * (7 - l1))) → (∀ k, 2450 ≤ k → k < l4 → H 185 (k - 350 * (7 - l1)) = G 185 k ∧ H 186 (k - 350 * (7 - l1)) = G 186 k) → WQ sc (d + 1) 159 Q 313 [(2, 165), (0, l1), (9, 0), (0, 350 * (7 - l1)), (0, l4)] [] H r := by
    refine upW 2800 (by decide) fun l4 _ ih h0 h28 H nH gH sH => ?_
    refine b_159_313 ?_
    rw [r_165_19 hr, r_165_20 hr, r_165_21 hr, r_165_22 hr, r_165_46 hr, r_165_38 hr, r_165_44 hr, r_165_40 hr, r_165_41 hr, r_165_14 hr]
    refine ite_c (fun q => ?_) (fun q => ?_)
    · have hx : wr (l4 - 350 * (7 - l1)) = l4 - 350 * (7 - l1) := wr_id ⟨by omega, by omega⟩
      have hw : wr (l4 + 1) = l4 + 1 := wr_id ⟨by omega, by omega⟩
      rw [hw] at ih
      rw [hx, hw]
      refine ⟨k9, k9, i_185.mpr ⟨by omega, by omega⟩, i_185.mpr ⟨by omega, by omega⟩, fun h1 a1 => ⟨k9, k9, i_186.mpr ⟨by omega, by omega⟩, i_186.mpr ⟨by omega, by omega⟩, fun h2 a2 => ⟨k9, k9, i_187.mpr ⟨by omega, by omega⟩, i_187.mpr ⟨by omega, by omega⟩, fun h3 a3 => ⟨k9, k9, i_188.mpr ⟨by omega, by omega⟩, i_188.mpr ⟨by omega, by omega⟩, fun h4 a4 => ih q (by omega) (by omega) h4 ?_ ?_ ?_⟩⟩⟩⟩
      · intro i j p1 p2
        rw [a4, up_o (by omega), a3, up_o (by omega), a2, up_o (by omega), a1, up_o (by omega)]
        exact nH i j p1 p2
      · intro k k0 k1
        rw [a4, up_i (by decide), up_i (by decide), a3, up_i (by decide), up_i (by decide), a2, up_i (by decide), up_i (by decide), a1, up_i (by decide), up_i (by decide)]
        exact gH k k0 k1
      · intro k k0 k1
        rw [a4, up_i (by decide), up_i (by decide), a3, up_i (by decide), up_i (by decide), a2, up_i (by decide)]
        by_cases z : k = l4
        · rw [z, up_s, a1, up_s, up_i (by decide)]
          exact ⟨nH 185 l4 (by omega) (by omega), nH 186 l4 (by omega) (by omega)⟩
        · rw [up_j (by omega), a1, up_j (by omega), up_i (by decide)]
          exact sH k k0 (by omega)
    · have e28 : l4 = 2800 := by omega
      subst e28
      refine ⟨k9, i_201.mpr ⟨by decide, by decide⟩, k9, i_193.mpr ⟨by omega, by omega⟩, i_201.mpr ⟨by decide, by decide⟩, fun h1 a1 => ⟨k9, i_193.mpr ⟨by omega, by omega⟩, fun h2 a2 => ⟨k9, i_199.mpr ⟨by omega, by omega⟩, fun h3 a3 => ⟨k9, i_195.mpr ⟨by omega, by omega⟩, fun h4 a4 => ⟨k9, i_196.mpr ⟨by omega, by omega⟩, fun h5 a5 => ⟨k9, fun h6 a6 => ⟨k9, i_180.mpr ⟨by omega, by omega⟩, ?_⟩⟩⟩⟩⟩⟩⟩
      have n6 : ∀ i j, ¬ (i = 165 ∧ j = 48) → i ≠ 193 → i ≠ 195 → i ≠ 196 → i ≠ 199 → i ≠ 201 → h6 i j = H i j := fun i j p a b c d e => by
        rw [a6, up_o p, a5, up_i c, a4, up_i b, a3, up_i d, a2, up_i a, a1, up_i e]
      have nn : ∀ i j, ¬ (i = 165 ∧ j = 48) → i ≠ 193 → i ≠ 195 → i ≠ 196 → i ≠ 199 → i ≠ 201 → ¬ (182 ≤ i ∧ i ≤ 184 ∧ 30 * l1 ≤ j ∧ j < 30 * l1 + 30) → ¬ (185 ≤ i ∧ i ≤ 188 ∧ 350 * l1 ≤ j ∧ j < 350 * l1 + 350) → ¬ (168 ≤ i ∧ i ≤ 180 ∧ j = l1) → ¬ (i = 167 ∧ j = l1) → h6 i j = g i j := fun i j p a b c d e s t u w => by
        rw [n6 i j p a b c d e, nH i j s t]; exact nG i j u w
      have z48 : h6 165 48 = 0 := by rw [a6, up_s]
      refine h _ _ ⟨?_, ?_, ?_⟩ (fun i j hlt => nn i j (by omega) (by omega) (by omega) (by omega) (by omega) (by omega) (by omega) (by omega) (by omega) (by omega)) (fun j hj => nn 165 j (by omega) (by omega) (by omega) (by omega) (by omega) (by omega) (by omega) (by omega) (by omega) (by omega)) (fun j => nn 211 j (by omega) (by omega) (by omega) (by omega) (by omega) (by omega) (by omega) (by omega) (by omega) (by omega))
      · have k5 : ∀ j, j ≠ 48 → h6 165 j = g 165 j := fun j hj => nn 165 j (by omega) (by omega) (by omega) (by omega) (by omega) (by omega) (by omega) (by omega) (by omega) (by omega)
        have k9' : ∀ j, h6 209 j = g 209 j := fun j => nn 209 j (by omega) (by omega) (by omega) (by omega) (by omega) (by omega) (by omega) (by omega) (by omega) (by omega)
        unfold MN at hn ⊢
        rw [k5 24 (by decide), z48, k5 61 (by decide), k5 64 (by decide), k5 66 (by decide), k5 70 (by decide)]
        refine ⟨hn.1, by decide, hn.2.2.1, hn.2.2.2.1, hn.2.2.2.2.1, hn.2.2.2.2.2.1, fun k => ?_⟩
        rw [k9']; exact hn.2.2.2.2.2.2 k
      · obtain ⟨q1, q2, q3, q4, q5⟩ := hb
        refine ⟨fun k => ?_, fun k => ?_, fun k => ?_, fun s s0 s1 => ?_, fun k => ?_⟩
        · rw [n6 168 k (by omega) (by decide) (by decide) (by decide) (by decide) (by decide), nH 168 k (by omega) (by omega)]
          by_cases z : k = l1
          · rw [z, cG 168 (by decide) (by decide)]; exact q1 7
          · rw [nG 168 k (by omega) (by omega)]; exact q1 k
        · rw [nn 198 k (by omega) (by omega) (by omega) (by omega) (by omega) (by omega) (by omega) (by omega) (by omega) (by omega)]; exact q2 k
        · rw [nn 204 k (by omega) (by omega) (by omega) (by omega) (by omega) (by omega) (by omega) (by omega) (by omega) (by omega)]; exact q3 k
        · rw [nn 197 s (by omega) (by omega) (by omega) (by omega) (by omega) (by omega) (by omega) (by omega) (by omega) (by omega)]; exact q4 s s0 s1
        · rw [nn 207 k (by omega) (by omega) (by omega) (by omega) (by omega) (by omega) (by omega) (by omega) (by omega) (by omega)]; exact q5 k
      · intro m a0 a6' mt
        by_cases z : m = l1
        · rw [z]
          have k7 : ∀ i, 168 ≤ i → i ≤ 178 → h6 i l1 = g i 7 := fun i x y => by
            rw [n6 i l1 (by omega) (by omega) (by omega) (by omega) (by omega) (by omega), nH i l1 (by omega) (by omega)]; exact cG i x y
          have k79 : h6 179 l1 = g 179 7 := by
            rw [n6 179 l1 (by omega) (by omega) (by omega) (by omega) (by omega) (by omega), nH 179 l1 (by omega) (by omega)]; exact g79
          refine ⟨?_, by rw [k7 175 (by decide) (by decide)]; exact o2.2.2, by rw [k79]; omega, fun q q0 q1 => ?_⟩
          · unfold GM
            rw [k7 171 (by decide) (by decide), k7 174 (by decide) (by decide), k7 177 (by decide) (by decide)]
            exact ⟨m0, by omega, o1.1, o1.2.1, o1.2.2.1, o1.2.2.2, o2.1, o2.2.1⟩
          · rw [k79] at q1
            obtain ⟨x1, x2⟩ := gH (q - 30 * l1) (by omega) (by omega)
            rw [show 30 * l1 + (q - 30 * l1) = q by omega] at x1 x2
            obtain ⟨b1, b2, b3, ht, b4, b5⟩ := o5 (210 + (q - 30 * l1)) (by omega) (by omega)
            have y1 : G 183 (210 + (q - 30 * l1)) = g 183 (210 + (q - 30 * l1)) := nG _ _ (by omega) (by omega)
            have y2 : G 184 (210 + (q - 30 * l1)) = g 184 (210 + (q - 30 * l1)) := nG _ _ (by omega) (by omega)
            rw [y1, wr_id ⟨by omega, by omega⟩] at x1
            rw [y2, wr_id ⟨by omega, by omega⟩] at x2
            rw [n6 183 q (by omega) (by omega) (by omega) (by omega) (by omega) (by omega), n6 184 q (by omega) (by omega) (by omega) (by omega) (by omega) (by omega), x1, x2]
            refine ⟨by omega, by omega, fun k => ht (k + 350 * (7 - l1)), ?_, fun k k0 k1 => ?_⟩
            · show ht (g 183 (210 + (q - 30 * l1)) - 350 * (7 - l1) + 350 * (7 - l1)) = 0
              rw [show g 183 (210 + (q - 30 * l1)) - 350 * (7 - l1) + 350 * (7 - l1) = g 183 (210 + (q - 30 * l1)) by omega]
              exact b4
            · obtain ⟨s1, s2⟩ := sH (k + 350 * (7 - l1)) (by omega) (by omega)
              rw [show k + 350 * (7 - l1) - 350 * (7 - l1) = k by omega] at s1 s2
              rw [nG 185 (k + 350 * (7 - l1)) (by omega) (by omega)] at s1
              rw [nG 186 (k + 350 * (7 - l1)) (by omega) (by omega)] at s2
              rw [n6 185 k (by omega) (by omega) (by omega) (by omega) (by omega) (by omega), n6 186 k (by omega) (by omega) (by omega) (by omega) (by omega) (by omega), s1, s2]
              have := b5 (k + 350 * (7 - l1)) (by omega) (by omega)
              show 0 ≤ ht (k + 350 * (7 - l1)) ∧ ht (k + 350 * (7 - l1)) ≤ 190 ∧ ((g 185 (k + 350 * (7 - l1)) = 0 ∧ 0 ≤ g 186 (k + 350 * (7 - l1)) ∧ g 186 (k + 350 * (7 - l1)) ≤ 4 ∧ ht (k + 1 + 350 * (7 - l1)) = ht (k + 350 * (7 - l1)) + 1) ∨ (g 185 (k + 350 * (7 - l1)) = 1 ∧ 1 ≤ ht (k + 350 * (7 - l1)) ∧ ht (k + 1 + 350 * (7 - l1)) = ht (k + 350 * (7 - l1))) ∨ (g 185 (k + 350 * (7 - l1)) ≠ 0 ∧ g 185 (k + 350 * (7 - l1)) ≠ 1 ∧ 2 ≤ ht (k + 350 * (7 - l1)) ∧ ht (k + 1 + 350 * (7 - l1)) = ht (k + 350 * (7 - l1)) - 1))
              rw [show k + 1 + 350 * (7 - l1) = k + 350 * (7 - l1) + 1 by omega]
              exact this
        · rw [nn 167 m (by omega) (by omega) (by omega) (by omega) (by omega) (by omega) (by omega) (by omega) (by omega) (by omega)] at mt
          exact (old m a0 a6' mt).pt (fun i x y => nn i m (by omega) (by omega) (by omega) (by omega) (by omega) (by omega) (by omega) (by omega) (by omega) (by omega)) (fun i j x y u w => nn i j (by omega) (by omega) (by omega) (by omega) (by omega) (by omega) (by omega) (by omega) (by omega) (by omega)) (fun i j x y u w => nn i j (by omega) (by omega) (by omega) (by omega) (by omega) (by omega) (by omega) (by omega) (by omega) (by omega))
  have gates : ∀ l4 : Int, -2147483648 ≤ l4 → 0 ≤ l4 → l4 ≤ 30 → ∀ H, (∀ i j, ¬ (182 ≤ i ∧ i ≤ 184 ∧ 30 * l1 ≤ j ∧ j < 30 * l1 + 30) → H i j = G i j) → (∀ k, 0 ≤ k → k < l4 → H 183 (30 * l1 + k) = wr (G 183 (210 + k) - 350 * (7 - l1)) ∧ H 184 (30 * l1 + k) = wr (G 184 (210 + k) - 350 * (7 - l1))) → WQ sc (d + 1) 159 Q 222 [(2, 165), (0, l1), (9, 0), (0, 350 * (7 - l1)), (0, l4)] [] H r := by
    refine upW 30 (by decide) fun l4 _ ih h0 hl H nH gH => ?_
    refine b_159_222 ?_
    rw [r_165_16 hr, r_165_17 hr, r_165_18 hr, h30]
    refine ite_c (fun q => ?_) (fun q => ?_)
    · have hx : wr (30 * l1 + l4) = 30 * l1 + l4 := wr_id ⟨by omega, by omega⟩
      have hy : wr (210 + l4) = 210 + l4 := wr_id ⟨by omega, by omega⟩
      have hw : wr (l4 + 1) = l4 + 1 := wr_id ⟨by omega, by omega⟩
      rw [hw] at ih
      rw [hx, hy, hw]
      refine ⟨k9, k9, i_182.mpr ⟨by omega, by omega⟩, i_182.mpr ⟨by omega, by omega⟩, fun h1 a1 => ⟨k9, k9, i_183.mpr ⟨by omega, by omega⟩, i_183.mpr ⟨by omega, by omega⟩, fun h2 a2 => ⟨k9, k9, i_184.mpr ⟨by omega, by omega⟩, i_184.mpr ⟨by omega, by omega⟩, fun h3 a3 => ih q (by omega) (by omega) h3 ?_ ?_⟩⟩⟩
      · intro i j p1
        rw [a3, up_o (by omega), a2, up_o (by omega), a1, up_o (by omega)]
        exact nH i j p1
      · intro k k0 k1
        by_cases z : k = l4
        · rw [z, a3, up_i (by decide), up_s, a2, up_s, up_i (by decide), a1, up_i (by decide), up_i (by decide), nH 183 (210 + l4) (by omega), nH 184 (210 + l4) (by omega)]
          exact ⟨rfl, rfl⟩
        · rw [a3, up_i (by decide), up_j (by omega), a2, up_j (by omega), up_i (by decide), a1, up_i (by decide), up_i (by decide)]
          exact gH k k0 (by omega)
    · exact steps 2450 (by decide) (by decide) (by decide) H (fun i j p1 _ => nH i j p1) (fun k k0 k1 => gH k k0 (by omega)) (fun k k0 k1 => absurd k1 (by omega))
  exact gates 0 (by decide) (by decide) (by decide) G (fun _ _ _ => rfl) (fun k k0 k1 => absurd k1 (by omega))
theorem s_159 (hr : RI r) (hi : MI g) (hbad : ¬ (0 ≤ l1 ∧ l1 ≤ 5 ∧ 0 ≤ l2 ∧ l2 ≤ g 165 24) → ∀ g', ME g g' → Q (-2) g' r) (hok : (0 ≤ l1 ∧ l1 ≤ 5 ∧ 0 ≤ l2 ∧ l2 ≤ g 165 24) → ∀ v g', MI g' → (∀ i j, i < 165 → g' i j = g i j) → g' 165 24 = 0 → (∀ j, j = 64 ∨ j = 66 ∨ j = 70 → g' 165 j = g 165 j) → (∀ j, g' 211 j = g 211 j) → Q v g' r) : Ce sc (d + 9) 159 [(2, 165), (0, l1), (0, l2)] g r Q := by
  have k9 : okr 218 165 9 := okd (by decide +kernel)
  have c24 := hi.1.1
  have bad : ¬ (0 ≤ l1 ∧ l1 ≤ 5 ∧ 0 ≤ l2 ∧ l2 ≤ g 165 24) → okr 218 165 9 ∧ okI 218 166 11 0 ∧ okI 218 166 11 0 ∧ ∀ g1, g1 = up g 166 0 (wr (g 166 0 + 1)) → Q (-2) g1 r := fun z => ⟨k9, i_166.mpr ⟨by decide, by decide⟩, i_166.mpr ⟨by decide, by decide⟩, fun g1 e1 => hbad z _ (by rw [e1]; exact (ME.rf g).u (by unfold MW MV; omega) (by decide))⟩
  refine c_159 ?_
  rw [r_165_0 hr]
  refine ite_c (fun z => bad (fun y => by omega)) (fun z0 => ⟨k9, ite_c (fun z => bad (fun y => by omega)) (fun z1 => w_137 (fun m0 m5 => ?_) (fun z => ?_))⟩)
  rotate_left 1
  · rw [if_pos rfl, r_165_0 hr]
    exact bad (fun y => z ⟨y.1, y.2.1⟩)
  rw [if_neg (by decide), r_165_13 hr, r_165_14 hr, r_165_9 hr, r_165_10 hr, r_165_11 hr, r_165_12 hr]
  have hh := hok ⟨m0, m5, by omega, by omega⟩
  refine ⟨k9, fun g2 e2 => ⟨k9, fun g3 e3 => ⟨k9, fun g4 e4 => ⟨k9, fun g5 e5 => ⟨k9, Or.inl rfl, fun g6 e6 => ⟨k9, fun g7 e7 => ⟨k9, i_179.mpr ⟨by decide, by decide⟩, fun g8 e8 => ⟨k9, i_180.mpr ⟨by decide, by decide⟩, fun g9 e9 => ⟨k9, i_175.mpr ⟨by decide, by decide⟩, fun g10 e10 => ⟨k9, i_176.mpr ⟨by decide, by decide⟩, fun g11 e11 => ⟨k9, i_177.mpr ⟨by decide, by decide⟩, fun g12 e12 => ⟨k9, i_178.mpr ⟨by decide, by decide⟩, fun g13 e13 => ⟨k9, ?_⟩⟩⟩⟩⟩⟩⟩⟩⟩⟩⟩⟩⟩
  have n7 : ∀ i j, i ≠ 165 → g7 i j = g i j := fun i j a => by
    rw [e7, up_i a, e6, up_i a, e5, up_i a, e4, up_i a, e3, up_i a, e2, up_i a]
  have n7' : ∀ j, j ≠ 24 → j ≠ 25 → j ≠ 26 → j ≠ 27 → j ≠ 31 → j ≠ 33 → g7 165 j = g 165 j := fun j a b c p q s => by
    rw [e7, up_j q, e6, up_j s, e5, up_j b, e4, up_j p, e3, up_j a, e2, up_j c]
  have n13 : ∀ i j, ¬ (175 ≤ i ∧ i ≤ 180 ∧ j = 7) → g13 i j = g7 i j := fun i j a => by
    rw [e13, up_o (by omega), e12, up_o (by omega), e11, up_o (by omega), e10, up_o (by omega), e9, up_o (by omega), e8, up_o (by omega)]
  have a26 : g13 165 26 = l2 := by rw [n13 _ _ (by omega), e7, up_j (by decide), e6, up_j (by decide), e5, up_j (by decide), e4, up_j (by decide), e3, up_j (by decide), e2, up_s]
  have a24 : g13 165 24 = 0 := by rw [n13 _ _ (by omega), e7, up_j (by decide), e6, up_j (by decide), e5, up_j (by decide), e4, up_j (by decide), e3, up_s]
  have a27 : g13 165 27 = 0 := by rw [n13 _ _ (by omega), e7, up_j (by decide), e6, up_j (by decide), e5, up_j (by decide), e4, up_s]
  have a31 : g13 165 31 = 2450 := by rw [n13 _ _ (by omega), e7, up_s]
  have a79 : g13 179 7 = 0 := by rw [e13, up_i (by decide), e12, up_i (by decide), e11, up_i (by decide), e10, up_i (by decide), e9, up_i (by decide), e8, up_s]
  have a80 : g13 180 7 = 0 := by rw [e13, up_i (by decide), e12, up_i (by decide), e11, up_i (by decide), e10, up_i (by decide), e9, up_s]
  have a75 : g13 175 7 = 100 := by rw [e13, up_i (by decide), e12, up_i (by decide), e11, up_i (by decide), e10, up_s]
  have a77 : g13 177 7 = 50 := by rw [e13, up_i (by decide), e12, up_s]
  refine s_144 hr (by omega) (by omega) (by omega) (by omega) (fun _ g14 o14 p14 rv14 => ⟨k9, ?_⟩)
  -- all that the reading leaves, seen from the state before the call
  have fr : ∀ g', RW g14 g' → (∀ i j, ¬ (i = 165) → i ≠ 190 → i ≠ 191 → ¬ (168 ≤ i ∧ i ≤ 180 ∧ j = 7) → ¬ (182 ≤ i ∧ i ≤ 184 ∧ 210 ≤ j) → ¬ (185 ≤ i ∧ i ≤ 188 ∧ 2450 ≤ j) → g' i j = g i j) := fun g' r1 i j a b c p q s => by
    rw [r1.1 i j (by omega) b c p q s, o14 i j (by omega), n13 i j (by omega)]
    exact n7 i j a
  have fr5 : ∀ g', RW g14 g' → (∀ j, ¬ ((24 ≤ j ∧ j ≤ 33) ∨ j = 36) → g' 165 j = g 165 j) := fun g' r1 j a => by
    rw [r1.1 165 j (by omega) (by omega) (by omega) (by omega) (by omega) (by omega), o14 165 j (by omega), n13 165 j (by omega)]
    exact n7' j (by omega) (by omega) (by omega) (by omega) (by omega) (by omega)
  have fr24 : ∀ g', RW g14 g' → g' 165 24 = 0 := fun g' r1 => by
    rw [r1.1 165 24 (by omega) (by omega) (by omega) (by omega) (by omega) (by omega), o14 165 24 (by omega)]; exact a24
  have mb14 : MB g14 := mb_eq (fun i j hi' => by rw [o14 i j (by omega), n13 i j (by omega)]; exact n7 i j (by omega)) hi.2.1
  have mn : ∀ g', RW g14 g' → MN g' := fun g' r1 => by
    have hn := hi.1
    have k5 := fr5 g' r1
    have k9' : ∀ k, g' 209 k = g 209 k := fun k => fr g' r1 209 k (by omega) (by omega) (by omega) (by omega) (by omega) (by omega)
    unfold MN at hn ⊢
    rw [fr24 g' r1, k5 48 (by omega), k5 61 (by omega), k5 64 (by omega), k5 66 (by omega), k5 70 (by omega)]
    refine ⟨by decide, hn.2.1, hn.2.2.1, hn.2.2.2.1, hn.2.2.2.2.1, hn.2.2.2.2.2.1, fun k => ?_⟩
    rw [k9']; exact hn.2.2.2.2.2.2 k
  have fin157 : ∀ g', RW g14 g' → (g' 165 33 = 0 → OW 0 g') → WQ sc (d + 8) 159 Q 157 [(2, 165), (0, l1), (9, 0), (9, 0), (9, 0)] [] g' r := by
    intro g' r1 ow
    by_cases z : g' 165 33 = 0
    · refine s_159c (d := d + 7) (g0 := g) hr hi (fr g' r1) (mn g' r1) (r1.2.2.2.2 mb14) r1.2.1 (ow z) z m0 (by omega) (fun v g2 h2 x1 x2 x3 => hh v g2 h2 (fun i j q => ?_) ?_ (fun j q => ?_) (fun j => ?_))
      · rw [x1 i j q]; exact fr g' r1 i j (by omega) (by omega) (by omega) (by omega) (by omega) (by omega)
      · rw [x2 24 (by decide)]; exact fr24 g' r1
      · rw [x2 j (by omega)]; exact fr5 g' r1 j (by omega)
      · rw [x3 j]; exact fr g' r1 211 j (by omega) (by omega) (by omega) (by omega) (by omega) (by omega)
    · refine b_159_157 ⟨k9, ite_c (fun y => absurd y z) (fun _ => ⟨k9, s_138 hr (by decide) (by decide) (fun g2 e2' => ?_)⟩)⟩
      have mi1 : MI g' := ⟨mn g' r1, r1.2.2.2.2 mb14, fun m a0 a6 mt => by
        rw [fr g' r1 167 m (by omega) (by omega) (by omega) (by omega) (by omega) (by omega)] at mt
        exact (hi.2.2 m a0 a6 mt).pt (fun i x y => fr g' r1 i m (by omega) (by omega) (by omega) (by omega) (by omega) (by omega)) (fun i j x y u w => fr g' r1 i j (by omega) (by omega) (by omega) (by omega) (by omega) (by omega)) (fun i j x y u w => fr g' r1 i j (by omega) (by omega) (by omega) (by omega) (by omega) (by omega))⟩
      have rk := e2'.rk
      refine hh _ g2 (mi1.me e2') (fun i j q => ?_) ?_ (fun j q => ?_) (fun j => ?_)
      · rw [rk.1 i j (Or.inl q)]; exact fr g' r1 i j (by omega) (by omega) (by omega) (by omega) (by omega) (by omega)
      · rw [rk.2.1]; exact fr24 g' r1
      · have : g2 165 j = g' 165 j := by
          rcases q with q | q | q
          · rw [q]; exact rk.2.2.1
          · rw [q]; exact rk.2.2.2.1
          · rw [q]; exact rk.2.2.2.2.1
        rw [this]; exact fr5 g' r1 j (by omega)
      · rw [rk.2.2.2.2.2 j]; exact fr g' r1 211 j (by omega) (by omega) (by omega) (by omega) (by omega) (by omega)
  have loop : ∀ i : Int, ∀ g', RW g14 g' → (g' 165 33 = 0 → OW 0 g' ∧ g' 180 7 = i) → WQ sc (d + 8) 159 Q 132 [(2, 165), (0, l1), (9, 0), (9, 0), (9, 0)] [] g' r := by
    refine upG 31 fun i ih g' r1 ow => ?_
    refine b_159_132 ⟨k9, ite_c (fun _ => fin157 g' r1 (fun z => (ow z).1)) (fun _ => ⟨k9, ite_c (fun z => ⟨k9, ?_⟩) (fun _ => fin157 g' r1 (fun z => (ow z).1))⟩)⟩
    obtain ⟨o1, o2⟩ := ow z
    have o3 := o1.2.2.1
    refine s_157 hr r1.2.1 z o1 (fun _ g2 r2 ow2 => ⟨k9, s_158 hr r2.2.1 (fun y => (ow2 y).1) (fun _ g3 r3 ow3 => ?_)⟩)
    refine ih (by omega) (i + 1) (by omega) g3 ((r1.tr r2).tr r3) (fun y => ⟨(ow3 y).1, ?_⟩)
    have z2 : g2 165 33 = 0 := by
      by_cases x : g2 165 33 = 0
      · exact x
      · exact absurd y (r3.2.2.2.1 x)
    have := (ow3 y).2
    have := (ow2 z2).2
    omega
  have b80 : g14 180 7 = 0 := by rw [o14 180 7 (by omega)]; exact a80
  have b79 : g14 179 7 = 0 := by rw [o14 179 7 (by omega)]; exact a79
  have b75 : g14 175 7 = 100 := by rw [o14 175 7 (by omega)]; exact a75
  have b77 : g14 177 7 = 50 := by rw [o14 177 7 (by omega)]; exact a77
  have b31 : g14 165 31 = 2450 := by rw [o14 165 31 (by omega)]; exact a31
  refine s_155 hr rv14 (fun _ g15 r15 k15 w15 b15 => ⟨k9, s_158 hr r15.2.1 (fun z => ?_) (fun _ g16 r16 ow16 => loop (g16 180 7) g16 (r15.tr r16) (fun z => ⟨(ow16 z).1, rfl⟩))⟩)
  have f28 := rv14.2.2.1
  have f28' := r15.2.2.1
  have bb := b15 z
  unfold OW
  rw [k15 177 (by decide), k15 175 (by decide), k15 179 (by decide), k15 180 (by decide), w15, b77, b75, b79, b80, b31]
  exact ⟨bb, by decide, by decide, ⟨by decide, by omega⟩, fun q q0 q1 => absurd q1 (by omega)⟩
end MPK
