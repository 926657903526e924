/-! the tape and the fault are the same on both sides, and stay so: feed and mill -/
def RT (g : GH) : Prop := (∀ p, 0 ≤ p → p < g 1 1 → g 2 p = i_and (g 189 p) 255) ∧ g 1 2 = g 165 25
def J2 (g r : GH) : Prop := J g r ∧ RT g
/-- neither side's tape nor fault has changed -/
def RTF (g g' : GH) : Prop := (∀ p, g' 2 p = g 2 p) ∧ (∀ p, g' 189 p = g 189 p) ∧ g' 1 1 = g 1 1 ∧ g' 1 2 = g 1 2 ∧ g' 165 25 = g 165 25
theorem RTF.rf (g : GH) : RTF g g := ⟨fun _ => rfl, fun _ => rfl, rfl, rfl, rfl⟩
theorem RTF.tr {a b c : GH} (h : RTF a b) (k : RTF b c) : RTF a c := ⟨fun p => (k.1 p).trans (h.1 p), fun p => (k.2.1 p).trans (h.2.1 p), k.2.2.1.trans h.2.2.1, k.2.2.2.1.trans h.2.2.2.1, k.2.2.2.2.trans h.2.2.2.2⟩
theorem RT.fr {g g' : GH} (h : RT g) (e : RTF g g') : RT g' := by
  obtain ⟨a, b, c, f, k⟩ := e
  refine ⟨fun p p0 p1 => ?_, by rw [f, k]; exact h.2⟩
  rw [c] at p1
  rw [a, b]; exact h.1 p p0 p1
theorem EQ.rt {g g' : GH} (e : EQ g g') : RTF g g' := ⟨fun p => e 2 (by unfold FP; omega) p, fun p => e 189 (by unfold FP; omega) p, e 1 (by unfold FP; omega) 1, e 1 (by unfold FP; omega) 2, e 165 (by unfold FP; omega) 25⟩
theorem ME.rt {g g' : GH} (e : ME g g') : RTF g g' := ⟨fun p => e.1 2 p (by unfold MV; omega), fun p => e.1 189 p (by unfold MV; omega), e.1 1 1 (by unfold MV; omega), e.1 1 2 (by unfold MV; omega), e.1 165 25 (by unfold MV; omega)⟩
theorem EX.rt {x : Int} {g g' : GH} (e : EX x g g') (hx : x ≠ 1 ∧ x ≠ 2 ∧ x < 165) : RTF g g' := ⟨fun p => e 2 (by unfold FP; omega) (by omega) p, fun p => e 189 (by unfold FP; omega) (by omega) p, e 1 (by unfold FP; omega) (by omega) 1, e 1 (by unfold FP; omega) (by omega) 2, e 165 (by unfold FP; omega) (by omega) 25⟩
theorem J2.eq {g g' r : GH} (h : J2 g r) (e : EQ g g') : J2 g' r := ⟨h.1.eq e, h.2.fr e.rt⟩
theorem J2.me {g g' r : GH} (h : J2 g r) (e : ME g g') : J2 g' r := ⟨h.1.me e, h.2.fr e.rt⟩
/-- byte k of five numbers -/
def BY (a b c e f k : Int) : Int := i_shr (if k < 4 then a else if k < 8 then b else if k < 12 then c else if k < 16 then e else f) (24 - 8 * (k % 4))
theorem ap1_2 {g : GH} {t v s p : Int} : ap1 g t v s 2 p = if p = t then i_and (i_shr v s) 255 else g 2 p := by
  unfold ap1
  rw [up_i (by decide)]
  by_cases z : p = t
  · rw [if_pos z, z, up_s]
  · rw [if_neg z, up_j z]
theorem ap4_in {g : GH} {t v k : Int} (h0 : 0 ≤ k) (h4 : k < 4) : ap4 g t v 2 (t + k) = i_and (i_shr v (24 - 8 * k)) 255 := by
  unfold ap4
  have : k = 0 ∨ k = 1 ∨ k = 2 ∨ k = 3 := by omega
  rcases this with rfl | rfl | rfl | rfl
  · rw [ap1_2, if_neg (by omega), ap1_2, if_neg (by omega), ap1_2, if_neg (by omega), ap1_2, if_pos (by omega)]; rfl
  · rw [ap1_2, if_neg (by omega), ap1_2, if_neg (by omega), ap1_2, if_pos (by omega)]; rfl
  · rw [ap1_2, if_neg (by omega), ap1_2, if_pos (by omega)]; rfl
  · rw [ap1_2, if_pos (by omega)]; rfl
theorem ap4_out {g : GH} {t v p : Int} (h : p < t ∨ t + 4 ≤ p) : ap4 g t v 2 p = g 2 p := by
  unfold ap4
  rw [ap1_2, if_neg (by omega), ap1_2, if_neg (by omega), ap1_2, if_neg (by omega), ap1_2, if_neg (by omega)]
theorem ap4_12 {g : GH} {t v : Int} : ap4 g t v 1 2 = g 1 2 := by
  unfold ap4 ap1
  rw [up_j (by decide), up_i (by decide), up_j (by decide), up_i (by decide), up_j (by decide), up_i (by decide), up_j (by decide), up_i (by decide)]
theorem ap20_in {g : GH} {t a b c e f k : Int} (h0 : 0 ≤ k) (h20 : k < 20) : ap20 g t a b c e f 2 (t + k) = i_and (BY a b c e f k) 255 := by
  unfold ap20 BY
  by_cases z4 : k < 4
  · rw [ap4_out (by omega), ap4_out (by omega), ap4_out (by omega), ap4_out (by omega), ap4_in h0 z4, if_pos z4, show k % 4 = k by omega]
  rw [if_neg z4]
  by_cases z8 : k < 8
  · rw [ap4_out (by omega), ap4_out (by omega), ap4_out (by omega), show t + k = t + 4 + (k - 4) by omega, ap4_in (by omega) (by omega), if_pos z8, show k % 4 = k - 4 by omega]
  rw [if_neg z8]
  by_cases z12 : k < 12
  · rw [ap4_out (by omega), ap4_out (by omega), show t + k = t + 4 + 4 + (k - 8) by omega, ap4_in (by omega) (by omega), if_pos z12, show k % 4 = k - 8 by omega]
  rw [if_neg z12]
  by_cases z16 : k < 16
  · rw [ap4_out (by omega), show t + k = t + 4 + 4 + 4 + (k - 12) by omega, ap4_in (by omega) (by omega), if_pos z16, show k % 4 = k - 12 by omega]
  · rw [if_neg z16, show t + k = t + 4 + 4 + 4 + 4 + (k - 16) by omega, ap4_in (by omega) (by omega), show k % 4 = k - 16 by omega]
theorem ap20_out {g : GH} {t a b c e f p : Int} (h : p < t) : ap20 g t a b c e f 2 p = g 2 p := by
  unfold ap20
  rw [ap4_out (by omega), ap4_out (by omega), ap4_out (by omega), ap4_out (by omega), ap4_out (by omega)]
section PRF
variable {sc : SCR} {d : Nat} {Q : QJ} {g r : GH} {l0 l1 l2 l3 l4 l5 : Int}
theorem fq_142 (hr : RI r) (c : 0 ≤ g 165 24 ∧ g 165 24 ≤ 700) (h1 : g 165 24 + 20 ≤ 700 → ∀ g', (∀ k, 0 ≤ k → k < 20 → g' 189 (g 165 24 + k) = i_b (BY l1 l2 l3 l4 l5 k)) → (∀ i j, ¬ (i = 165 ∧ j = 24) → ¬ (i = 189 ∧ g 165 24 ≤ j) → g' i j = g i j) → Q (g 165 24 + 20) g' r) (h0 : ¬ g 165 24 + 20 ≤ 700 → Q (-1) g r) : Ce sc (d + 1) 142 [(2, 165), (0, l1), (0, l2), (0, l3), (0, l4), (0, l5)] g r Q := by
  have k9 : okr 218 165 9 := okd (by decide +kernel)
  have loop : g 165 24 + 20 ≤ 700 → ∀ k : Int, 0 ≤ k → k ≤ 20 → ∀ g1, g1 165 24 = g 165 24 + k → (∀ q, 0 ≤ q → q < k → g1 189 (g 165 24 + q) = i_b (BY l1 l2 l3 l4 l5 q)) → (∀ i j, ¬ (i = 165 ∧ j = 24) → ¬ (i = 189 ∧ g 165 24 ≤ j) → g1 i j = g i j) → WQ sc d 142 Q 18 [(2, 165), (0, l1), (0, l2), (0, l3), (0, l4), (0, l5), (0, k), (9, 0)] [] g1 r := by
    intro big
    refine upG 20 fun k ih k0 k20 g1 e24 old fr => ?_
    have st : ∀ t0 : Int, k < 20 → t0 = (if k < 4 then l1 else if k < 8 then l2 else if k < 12 then l3 else if k < 16 then l4 else l5) → WQ sc d 142 Q 71 [(2, 165), (0, l1), (0, l2), (0, l3), (0, l4), (0, l5), (0, k), (9, 0)] [(0, t0)] g1 r := by
      intro t0 lt ht
      have tm : k.tmod 4 = k % 4 := Int.tmod_eq_emod_of_nonneg k0
      have w : wr (24 - wr (8 * (k.tmod 4))) = 24 - 8 * (k % 4) := by
        rw [tm, wr_id (x := 8 * (k % 4)) ⟨by omega, by omega⟩, wr_id ⟨by omega, by omega⟩]
      refine b_142_71 ?_
      rw [w, r_165_23 hr, e24]
      refine ⟨k9, k9, by decide, Or.inl ⟨i_189.mpr ⟨by omega, by omega⟩, ib_ib _⟩, fun g2 e2 => ⟨k9, k9, fun g3 e3 => ?_⟩⟩
      have f2 : g2 165 24 = g 165 24 + k := by rw [e2, up_i (by decide)]; exact e24
      rw [f2, wr_id ⟨by omega, by omega⟩] at e3
      rw [wr_id (x := k + 1) ⟨by omega, by omega⟩]
      refine ih lt (k + 1) (by omega) (by omega) (by omega) g3 (by rw [e3, up_s]; omega) (fun q q0 q1 => ?_) (fun i j a b => ?_)
      · rw [e3, up_i (by decide), e2]
        by_cases z : q = k
        · rw [z, up_s, ht]; rfl
        · rw [up_j (by omega)]; exact old q q0 (by omega)
      · rw [e3, up_o a, e2, up_o (by omega)]; exact fr i j a b
    refine b_142_18 (ite_c (fun lt => ite_c (fun z => st l1 lt (by rw [if_pos z])) (fun z4 => ite_c (fun z => st l2 lt (by rw [if_neg z4, if_pos z])) (fun z8 => ite_c (fun z => st l3 lt (by rw [if_neg z4, if_neg z8, if_pos z])) (fun z12 => ite_c (fun z => st l4 lt (by rw [if_neg z4, if_neg z8, if_neg z12, if_pos z])) (fun z16 => st l5 lt (by rw [if_neg z4, if_neg z8, if_neg z12, if_neg z16])))))) (fun nl => ⟨k9, ?_⟩))
    have : k = 20 := by omega
    subst this
    rw [e24]
    exact h1 big g1 old fr
  refine c_142 ⟨k9, ?_⟩
  rw [wr_id (x := g 165 24 + 20) ⟨by omega, by omega⟩]
  refine ite_c (fun q => h0 (by omega)) (fun q => loop (by omega) 0 (Int.le_refl 0) (by decide) g (by omega) (fun q a b => absurd b (by omega)) (fun _ _ _ _ => rfl))
theorem pp_66 (hJ : J2 g r) {A1 A2 A3 A4 A5 : Int} (D : Nat) : Ce sc (D + 2) 66 [(2, 0), (0, A1), (0, A2), (0, A3), (0, A4), (0, A5)] g r (fun v1 g1 r1 => Ce sc (D + 2) 142 [(2, 165), (0, A1), (0, A2), (0, A3), (0, A4), (0, A5)] g1 r1 fun v2 g2 r2 => v1 = v2 ∧ J2 g2 r2) := by
  obtain ⟨hr, hc, hn, hi, a1, _⟩ := hJ.1
  have cc := hc.1
  have fr1 : Ce sc (D + 2) 66 [(2, 0), (0, A1), (0, A2), (0, A3), (0, A4), (0, A5)] g r (fun _ g1 r1 => r1 = r ∧ ((g 1 1 + 20 ≤ 700 ∧ g1 = ap20 g (g 1 1) A1 A2 A3 A4 A5) ∨ (¬ g 1 1 + 20 ≤ 700 ∧ g1 = g))) := w_66 hr rfl hc.1.1 hc.1.2 (fun q => ⟨rfl, Or.inl ⟨q, rfl⟩⟩) (fun q => ⟨rfl, Or.inr ⟨q, rfl⟩⟩)
  refine Ce_mono (Ce_and (p_66 (Q := fun _ g r => J g r) hJ.1 D (fun _ _ j => j)) fr1) (fun v1 g1 r1 w => ?_)
  obtain ⟨hce, rfl, w⟩ := w
  have o : ∀ i j, i ≠ 1 → i ≠ 2 → ap20 g (g 1 1) A1 A2 A3 A4 A5 i j = g i j := fun i j x y => by
    unfold ap20
    rw [ap4_o x y, ap4_o x y, ap4_o x y, ap4_o x y, ap4_o x y]
  rcases w with ⟨big, e1⟩ | ⟨small, e1⟩
  · have f24 : g1 165 24 = g 165 24 := by rw [e1]; exact o _ _ (by decide) (by decide)
    have fr2 : Ce sc (D + 2) 142 [(2, 165), (0, A1), (0, A2), (0, A3), (0, A4), (0, A5)] g1 r1 (fun _ g2 _ => (∀ k, 0 ≤ k → k < 20 → g2 189 (g1 165 24 + k) = i_b (BY A1 A2 A3 A4 A5 k)) ∧ (∀ i j, ¬ (i = 165 ∧ j = 24) → ¬ (i = 189 ∧ g1 165 24 ≤ j) → g2 i j = g1 i j)) := fq_142 (d := D + 1) hr (by rw [f24, ← a1]; exact hc.1) (fun _ g2 x y => ⟨x, y⟩) (fun nb => absurd (by omega) nb)
    refine Ce_mono (Ce_and hce fr2) (fun v2 g2 r2 u => ?_)
    obtain ⟨⟨ve, j⟩, x, y⟩ := u
    have g11 : ap20 g (g 1 1) A1 A2 A3 A4 A5 1 1 = g 1 1 + 20 := by unfold ap20; rw [ap4_1]; omega
    refine ⟨ve, j, fun p p0 p1 => ?_, ?_⟩
    · rw [y 1 1 (by omega) (by omega), e1, g11] at p1
      rw [y 2 p (by omega) (by omega), e1]
      by_cases z : p < g 1 1
      · rw [ap20_out z, y 189 p (by omega) (by omega), e1, o 189 p (by decide) (by decide)]
        exact hJ.2.1 p p0 z
      · have xx := x (p - g 1 1) (by omega) (by omega)
        rw [f24, ← a1, show g 1 1 + (p - g 1 1) = p by omega] at xx
        have yy := ap20_in (g := g) (t := g 1 1) (a := A1) (b := A2) (c := A3) (e := A4) (f := A5) (k := p - g 1 1) (by omega) (by omega)
        rw [show g 1 1 + (p - g 1 1) = p by omega] at yy
        rw [xx, yy, i_and_255, i_and_255, i_b_256]
    · rw [y 1 2 (by omega) (by omega), y 165 25 (by omega) (by omega), e1, o 165 25 (by decide) (by decide)]
      have : ap20 g (g 1 1) A1 A2 A3 A4 A5 1 2 = g 1 2 := by unfold ap20; rw [ap4_12, ap4_12, ap4_12, ap4_12, ap4_12]
      rw [this]; exact hJ.2.2
  · have fr2 : Ce sc (D + 2) 142 [(2, 165), (0, A1), (0, A2), (0, A3), (0, A4), (0, A5)] g1 r1 (fun _ g2 _ => g2 = g1) := fq_142 (d := D + 1) hr (by rw [e1, ← a1]; exact hc.1) (fun big _ _ _ => absurd (by rw [e1] at big; omega) small) (fun _ => rfl)
    refine Ce_mono (Ce_and hce fr2) (fun v2 g2 r2 u => ?_)
    obtain ⟨⟨ve, j⟩, x⟩ := u
    refine ⟨ve, j, ?_⟩
    rw [x, e1]; exact hJ.2
/-- what the class's mill leaves, told by the machine -/
def C67 (l1 l2 : Int) (g : GH) (v1 : Int) (g1 r1 : GH) : Prop := RI r1 ∧ (∀ i j, 165 ≤ i → g1 i j = g i j) ∧ ((¬ (0 ≤ l1 ∧ l1 ≤ 5 ∧ 0 ≤ l2 ∧ l2 ≤ g 1 1) ∧ v1 = -2 ∧ RTF g g1) ∨ ((0 ≤ l1 ∧ l1 ≤ 5 ∧ 0 ≤ l2 ∧ l2 ≤ g 1 1) ∧ g1 1 1 = 0 ∧ ∃ m0 s' m' st', I0 m0 ∧ ((Rch (fun p => g 2 p) l2 (0, tk (fun p => g 2 p) l2 0, m0, []) (90, s', m', st') ∧ v1 = m' 0 12 ∧ g1 1 2 = -1) ∨ (Rch (fun p => g 2 p) l2 (0, tk (fun p => g 2 p) l2 0, m0, []) (91, s', m', st') ∧ v1 = -1 ∧ g1 1 2 = s'))))
theorem f_67 (hr : RI r) (ht : 0 ≤ g 1 1 ∧ g 1 1 ≤ 700) : Ce sc (d + 38) 67 [(2, 0), (0, l1), (0, l2)] g r (C67 l1 l2 g) := by
  have k0 : okr 218 0 8 := okd (by decide +kernel)
  have k1 : okr 218 1 5 := okd (by decide +kernel)
  have hm := hr.2.2.1
  have M7 : 7 ≤ r 0 2 ∧ r 0 2 ≤ 121 := by unfold MO at hm; omega
  have bad : ¬ (0 ≤ l1 ∧ l1 ≤ 5 ∧ 0 ≤ l2 ∧ l2 ≤ g 1 1) → C67 l1 l2 g (-2) (up g 65 0 (wr (g 65 0 + 1))) r := fun z => ⟨hr, fun i j hi => up_i (by omega), Or.inl ⟨z, rfl, fun p => up_i (by decide), fun p => up_i (by decide), up_i (by decide), up_i (by decide), up_i (by decide)⟩⟩
  refine c_67 (w_123 (fun q1 q2 => ?_) (fun q => ?_))
  · rw [if_neg (by decide), r_0_0 hr]
    refine ⟨k0, k1, w_123 (fun q3 q4 => ?_) (fun q => ?_)⟩
    · rw [if_neg (by decide), r_0_0 hr]
      have hv : 0 ≤ l1 ∧ l1 ≤ 5 ∧ 0 ≤ l2 ∧ l2 ≤ g 1 1 := ⟨q1, q2, q3, q4⟩
      refine ⟨k0, k0, k1, f_32 (T := fun p => g 2 p) hr hm (fun _ => rfl) q3 q4 ht.2 (fun g1 s' m' m0 i0 rc xi mc f11 f12 _ fm => ?_) (fun g1 s' m' st' m0 i0 rc f11 f12 fm => ?_)⟩
      · have xg : XG 90 m' := xi.2.2.2.2.2.2.1
        have v0 : 0 ≤ m' 0 12 := xg.2.1
        rw [if_neg (show ¬ m' 0 12 = -1 by omega), r_0_1 hr]
        have hI : okI 218 6 14 l1 := i_6.mpr ⟨q1, by omega⟩
        refine ⟨k0, Or.inl hI, k0, k0, Or.inl ⟨hI, mo_ok hm⟩, fun r4 E4 => ?_⟩
        rw [if_neg (mo_ne (hr.2.1 l1 q1 (by omega)))]
        refine ⟨k0, fun r5 E5 => ?_⟩
        have hr5 : RI r5 := by rw [E5, E4]; exact ri_swap hr q1 (by omega)
        rw [r_0_4 hr5]
        refine ⟨k0, (br_23 hr5).1, s_2 (br_23 hr5) (fun v' g2 e2 => ⟨k0, fun g3 E3 => ⟨hr5, fun i j hi => ?_, Or.inr ⟨hv, ?_, m0, s', m', [], i0, Or.inl ⟨rc, rfl, ?_⟩⟩⟩⟩)⟩
        · rw [E3, up_i (by omega), e2 i (Or.inl hi) j]; exact fm i j (by omega) (by omega) (by omega) (by omega) (by omega)
        · rw [E3, up_i (by decide), e2 1 (by unfold FP; omega) 1]; exact f11
        · rw [E3, up_i (by decide), e2 1 (by unfold FP; omega) 2]; exact f12
      · rw [if_pos rfl]
        refine ⟨k0, w_133 hr (by decide) (by decide) ⟨hr, fun i j hi => ?_, Or.inr ⟨hv, ?_, m0, s', m', st', i0, Or.inr ⟨rc, rfl, ?_⟩⟩⟩⟩
        · rw [up_i (by omega)]; exact fm i j (by omega) (by omega) (by omega) (by omega) (by omega)
        · rw [up_i (by decide)]; exact f11
        · rw [up_i (by decide)]; exact f12
    · rw [if_pos rfl]; exact ⟨k0, w_133 hr (by decide) (by decide) (bad (fun z => q ⟨z.2.2.1, z.2.2.2⟩))⟩
  · rw [if_pos rfl]; exact ⟨k0, w_133 hr (by decide) (by decide) (bad (fun z => q ⟨z.1, z.2.1⟩))⟩
def m00 : GH := fun i j => if i = 0 then (if j = 5 then 4 else if j = 6 then 10 else if j = 7 then 100 else if j = 8 then 100 else if j = 9 then 50 else 0) else 0
theorem i0_m00 : I0 m00 := ⟨rfl, rfl, rfl, rfl, rfl, rfl, rfl, rfl, rfl⟩
theorem pp_67 (hJ : J2 g r) {A1 A2 : Int} (D : Nat) : Ce sc (D + 38) 67 [(2, 0), (0, A1), (0, A2)] g r (fun v1 g1 r1 => Ce sc (D + 38) 159 [(2, 165), (0, A1), (0, A2)] g1 r1 fun v2 g2 r2 => v1 = v2 ∧ J2 g2 r2) := by
  obtain ⟨hr, hc, hn, hi, a1, _⟩ := hJ.1
  refine Ce_mono (Ce_and (p_67 (Q := fun _ g r => J g r) hJ.1 D (fun _ _ _ j => j)) (f_67 (d := D) hr hc.1)) (fun v1 g1 r1 w => ?_)
  obtain ⟨hce, hr1, hi1, w⟩ := w
  have mb1 : MB g1 := mb_eq (fun i j h => hi1 i j (by omega)) hi.2.1
  have c24 : g1 165 24 = g 1 1 := (hi1 165 24 (by decide)).trans a1.symm
  have cb : 0 ≤ g1 165 24 ∧ g1 165 24 ≤ 700 := by rw [c24]; exact hc.1
  rcases w with ⟨nv, ev, rf⟩ | ⟨hv, f11, m0, s', m', st', i0, w⟩
  · have fr2 : Ce sc (D + 38) 159 [(2, 165), (0, A1), (0, A2)] g1 r1 (fun v2 g2 _ => v2 = -2 ∧ RTF g1 g2) := f_159 (d := D + 29) (T := fun p => i_and (g1 189 p) 255) hr1 mb1 cb (fun _ _ _ => rfl) i0_m00 (fun _ => ⟨rfl, fun p => up_i (by decide), fun p => up_i (by decide), up_i (by decide), up_i (by decide), up_i (by decide)⟩) (fun z => absurd (by rw [c24] at z; exact z) nv) (fun z => absurd (by rw [c24] at z; exact z) nv)
    refine Ce_mono (Ce_and hce fr2) (fun v2 g2 r2 u => ?_)
    obtain ⟨j, e2, k⟩ := u
    exact ⟨by rw [ev, e2], j, hJ.2.fr (rf.tr k)⟩
  · have hT : ∀ p, 0 ≤ p → p < A2 → i_and (g1 189 p) 255 = (fun p => g 2 p) p := fun p p0 p1 => by
      rw [hi1 189 p (by decide)]; exact (hJ.2.1 p p0 (by omega)).symm
    have fr2 : Ce sc (D + 38) 159 [(2, 165), (0, A1), (0, A2)] g1 r1 (fun v2 g2 _ => v1 = v2 ∧ (∀ i j, i < 165 → g2 i j = g1 i j) ∧ g2 165 25 = g1 1 2) := by
      refine f_159 (d := D + 29) (T := fun p => g 2 p) hr1 mb1 cb hT i0 (fun z => absurd (by rw [c24]; exact hv) z) (fun _ g2 s2 m2 rc2 mt fq _ => ?_) (fun _ g2 s2 m2 st2 rc2 e25 _ _ fl => ?_)
      · rcases w with ⟨rc, ev, f12⟩ | ⟨rc, ev, f12⟩
        · have e := rc.un rc2 (Or.inl rfl) (Or.inl rfl)
          have em : m' = m2 := by injection e with _ e; injection e with _ e; injection e
          refine ⟨by rw [ev, em], fun i j hi => fq i j (by omega) (by omega) (by omega) (by omega) (by omega) (by omega) (by omega) (by omega) (by omega), ?_⟩
          rw [f12]; exact mt.2.2.2.2.2.2.2.2.2.2.1
        · have e := rc.un rc2 (Or.inr rfl) (Or.inl rfl)
          injection e with e _
          exact absurd e (by decide)
      · rcases w with ⟨rc, ev, f12⟩ | ⟨rc, ev, f12⟩
        · have e := rc.un rc2 (Or.inl rfl) (Or.inr rfl)
          injection e with e _
          exact absurd e (by decide)
        · have e := rc.un rc2 (Or.inr rfl) (Or.inr rfl)
          have es : s' = s2 := by injection e with _ e; injection e
          exact ⟨ev, fun i j hi => fl i j (by omega) (by omega) (by omega) (by omega) (by omega) (by omega) (by omega), by rw [e25, f12, es]⟩
    refine Ce_mono (Ce_and hce fr2) (fun v2 g2 r2 u => ?_)
    obtain ⟨j, ev, lo, e25⟩ := u
    refine ⟨ev, j, fun p p0 p1 => ?_, ?_⟩
    · rw [lo 1 1 (by decide), f11] at p1; omega
    · rw [lo 1 2 (by decide), e25]
end PRF
