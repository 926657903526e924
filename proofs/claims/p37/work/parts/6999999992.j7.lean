/-! J7: falls and orders told are the same on both sides; printed by a program (wip/gen/gen_j7.py) -/
def P7 (i : Int) : Prop := (58 ≤ i ∧ i ≤ 60) ∨ (62 ≤ i ∧ i ≤ 64) ∨ i = 212 ∨ i = 213 ∨ i = 215 ∨ i = 216
def PC7 (i : Int) : Prop := P7 i ∨ 165 ≤ i
def FAL (g : GH) : Prop := ∀ j, 0 ≤ j → j < g 58 2 → g 59 j = g 212 j ∧ g 60 j = g 213 j ∧ (2 ≤ g 212 j ∧ g 212 j ≤ 40) ∧ 1 ≤ g 213 j ∧ g 213 j ≤ 9999
def ORD (g : GH) : Prop := ∀ j, 0 ≤ j → j < g 62 2 → g 63 j = g 215 j ∧ g 64 j = g 216 j ∧ (1 ≤ g 215 j ∧ g 215 j ≤ 24) ∧ 1 ≤ g 216 j ∧ g 216 j ≤ 999999999
def J7 (g r : GH) : Prop := J6 g r ∧ FAL g ∧ ORD g
theorem pc_f3 {i : Int} (h : PC7 i) : F3 i := by
  unfold PC7 P7 at h
  unfold F3 SC
  omega
theorem pc_fn {i : Int} (h : PC7 i) : FN i := by
  unfold PC7 P7 at h
  unfold FN SC
  omega
theorem EQF.c3 {g g' : GH} (e : EQF F3 g g') : EQF PC7 g g' := fun i h j => e i (pc_f3 h) j
theorem EQF.c4 {g g' : GH} (e : EQF F4 g g') : EQF PC7 g g' := fun i h j => e i (Or.inl (pc_f3 h)) j
theorem EQF.cn {g g' : GH} (e : EQF FN g g') : EQF PC7 g g' := fun i h j => e i (pc_fn h) j
theorem EQF.p7 {g g' : GH} (e : EQF PC7 g g') : EQF P7 g g' := fun i h j => e i (Or.inl h) j
theorem MFZ.p7 {g g' : GH} (h : MFZ g g') : EQF P7 g g' := fun i hi j => by
  unfold P7 at hi
  exact h.1 i j (by unfold MV6 MV MZV; omega)
theorem up_7 {g : GH} {i j v : Int} (h : ¬ P7 i) : EQF P7 g (up g i j v) := (EQF.rf g).up h
theorem up_c7 {g : GH} {i j v : Int} (h : ¬ PC7 i) : EQF PC7 g (up g i j v) := (EQF.rf g).up h
theorem J7.y {g g' r r' : GH} (h : J7 g r) (j : J6 g' r') (e : EQF P7 g g') : J7 g' r' := by
  obtain ⟨_, a, b⟩ := h
  have z : ∀ i, (58 ≤ i ∧ i ≤ 60) ∨ (62 ≤ i ∧ i ≤ 64) ∨ i = 212 ∨ i = 213 ∨ i = 215 ∨ i = 216 → ∀ j, g' i j = g i j := fun i h => e i h
  refine ⟨j, fun q q0 q1 => ?_, fun q q0 q1 => ?_⟩
  · rw [z 58 (by omega) 2] at q1
    rw [z 59 (by omega) q, z 60 (by omega) q, z 212 (by omega) q, z 213 (by omega) q]
    exact a q q0 q1
  · rw [z 62 (by omega) 2] at q1
    rw [z 63 (by omega) q, z 64 (by omega) q, z 215 (by omega) q, z 216 (by omega) q]
    exact b q q0 q1
def KY7 (g : GH) : QJ := fun _ g1 _ => EQF P7 g g1
def KC7 (g : GH) : QJ := fun _ g1 r1 => RI r1 ∧ EQF PC7 g g1
section J7S
variable {sc : SCR} {d : Nat} {Q : QJ} {g r b : GH} {l0 l1 l2 l3 l4 l5 x s p a n : Int}
/-- a pair over J6, and what both calls leave of the falls and the orders -/
theorem p7 {ka kb D E : Nat} {as bs : List AV} (hJ : J7 g r) (t : Ce sc D ka as g r (fun v1 g1 r1 => Ce sc E kb bs g1 r1 fun v2 g2 r2 => v1 = v2 ∧ J6 g2 r2)) (c : Ce sc D ka as g r (KC7 g)) (m : ∀ g1 r1, RI r1 → MI g1 → (∀ i j, 165 ≤ i → g1 i j = g i j) → Ce sc E kb bs g1 r1 (KY7 g1)) : Ce sc D ka as g r (fun v1 g1 r1 => Ce sc E kb bs g1 r1 fun v2 g2 r2 => v1 = v2 ∧ J7 g2 r2) := by
  refine Ce_mono (Ce_and t c) (fun v1 g1 r1 w => ?_)
  obtain ⟨hce, hr1, e1⟩ := w
  have hi : ∀ i j, 165 ≤ i → g1 i j = g i j := fun i j h => e1 i (Or.inr h) j
  have mi : MI g1 := hJ.1.1.1.1.1.1.2.2.2.1.hi hi
  refine Ce_mono (Ce_and hce (m g1 r1 hr1 mi hi)) (fun v2 g2 r2 u => ?_)
  obtain ⟨⟨ev, j⟩, e2⟩ := u
  exact ⟨ev, hJ.y j (e1.p7.tr e2)⟩
/-- a call of the class that asks -/
theorem y7 {k : Nat} {as : List AV} {D : Nat} (hJ : J7 g r) (v : Ce sc D k as g r (fun _ g1 r1 => r1 = r ∧ J6 g1 r)) (t : Ce sc D k as g r (fun _ g1 r1 => r1 = r ∧ EQF FN g g1)) : Ce sc D k as g r (fun _ g1 r1 => r1 = r ∧ J7 g1 r) := Ce_mono (Ce_and v t) (fun _ _ _ w => ⟨w.1.1, hJ.y w.1.2 w.2.2.cn.p7⟩)
theorem y7c {k : Nat} {as : List AV} {D : Nat} (hJ : J7 g r) (v : Ce sc D k as g r (fun _ g1 r1 => r1 = r ∧ J6 g1 r)) (t : Ce sc D k as g r (fun _ g1 r1 => r1 = r ∧ EQF PC7 g g1)) : Ce sc D k as g r (fun _ g1 r1 => r1 = r ∧ J7 g1 r) := Ce_mono (Ce_and v t) (fun _ _ _ w => ⟨w.1.1, hJ.y w.1.2 w.2.2.p7⟩)
theorem J7.mf {g' : GH} (h : J7 g r) (e : MFZ g g') : J7 g' r := h.y (h.1.mf e) e.p7
/-! what the calls that tell leave of them -/
theorem ap20_c7 {t a b c e f : Int} : EQF PC7 g (ap20 g t a b c e f) := fun i hi j => by
  have x : i ≠ 1 := by unfold PC7 P7 at hi; omega
  have y : i ≠ 2 := by unfold PC7 P7 at hi; omega
  unfold ap20
  rw [ap4_o x y, ap4_o x y, ap4_o x y, ap4_o x y, ap4_o x y]
theorem c7_66 (hr : RI r) (hc : 0 ≤ g 1 1 ∧ g 1 1 ≤ 700) : Ce sc (d + 2) 66 [(2, 0), (0, l1), (0, l2), (0, l3), (0, l4), (0, l5)] g r (KC7 g) := w_66 hr rfl hc.1 hc.2 (fun _ => ⟨hr, ap20_c7⟩) (fun _ => ⟨hr, EQF.rf g⟩)
theorem c7_133 (hr : RI r) (h0 : 0 ≤ l1) (h2 : l1 ≤ 2) : Ce sc (d + 2) 133 [(2, 0), (0, l1)] g r (KC7 g) := w_133 hr h0 h2 ⟨hr, up_c7 (by unfold PC7 P7; omega)⟩
theorem c7_67 (hr : RI r) (ht : 0 ≤ g 1 1 ∧ g 1 1 ≤ 700) : Ce sc (d + 38) 67 [(2, 0), (0, l1), (0, l2)] g r (KC7 g) := by
  have k0 : okr 218 0 8 := okd (by decide +kernel)
  have k1 : okr 218 1 5 := okd (by decide +kernel)
  have hm := hr.2.2.1
  have hmo := hm
  unfold MO at hmo
  have far : ∀ i, PC7 i → ¬ (r 0 2 ≤ i ∧ i ≤ r 0 2 + 9) ∧ i ≠ 1 ∧ i ≠ 3 ∧ i ≠ 4 ∧ i ≠ 5 := fun i h => by
    unfold PC7 P7 at h
    omega
  refine c_67 (w_123 (fun q1 q2 => ?_) (fun q => ?_))
  · rw [if_neg (by decide), r_0_0 hr]
    refine ⟨k0, k1, w_123 (fun q3 q4 => ?_) (fun q => ?_)⟩
    · rw [if_neg (by decide), r_0_0 hr]
      refine ⟨k0, k0, k1, f_32 (T := fun p => g 2 p) hr hm (fun _ => rfl) q3 q4 ht.2 (fun g1 s' m' m0 i0 rc xi mc f11 f12 tt fm => ?_) (fun g1 s' m' st' m0 i0 rc f11 f12 fm => ?_)⟩
      · have xg : XG 90 m' := xi.2.2.2.2.2.2.1
        have v0 : 0 ≤ m' 0 12 := xg.2.1
        have fz : EQF PC7 g g1 := fun i h j => by
          obtain ⟨a, b, c, e, f⟩ := far i h
          exact fm i j b c e f a
        rw [if_neg (show ¬ m' 0 12 = -1 by omega), r_0_1 hr]
        have hI : okI 218 6 14 l1 := i_6.mpr ⟨q1, by omega⟩
        refine ⟨k0, Or.inl hI, k0, k0, Or.inl ⟨hI, mo_ok hm⟩, fun r4 E4 => ?_⟩
        rw [if_neg (mo_ne (hr.2.1 l1 q1 (by omega)))]
        refine ⟨k0, fun r5 E5 => ?_⟩
        have hr5 : RI r5 := by rw [E5, E4]; exact ri_swap hr q1 (by omega)
        rw [r_0_4 hr5]
        refine ⟨k0, (br_23 hr5).1, f_2 hr5 q1 (by omega) (fun g2 em fr => ⟨k0, fun g3 E3 => ⟨hr5, fun i h j => ?_⟩⟩)⟩
        have h' := h
        unfold PC7 P7 at h'
        rw [E3, up_i (by omega), fr i j (by omega)]; exact fz i h j
      · rw [if_pos rfl]
        refine ⟨k0, w_133 hr (by decide) (by decide) ⟨hr, fun i h j => ?_⟩⟩
        obtain ⟨a, b, c, e, f⟩ := far i h
        have h' := h
        unfold PC7 P7 at h'
        rw [up_i (by omega)]; exact fm i j b c e f a
    · rw [if_pos rfl]; exact ⟨k0, c7_133 hr (by decide) (by decide)⟩
  · rw [if_pos rfl]; exact ⟨k0, c7_133 hr (by decide) (by decide)⟩
theorem c7_98 (hr : RI r) : Ce sc (d + 4) 98 [(2, 0), (0, l1), (0, l2)] g r (KC7 g) := w_98 hr (fun _ => ⟨hr, up_c7 (by unfold PC7 P7; omega)⟩) (fun _ _ e => ⟨hr, e.c3⟩)
theorem c7_99 (hr : RI r) (hc : 0 ≤ g 52 2) : Ce sc (d + 4) 99 [(2, 0), (0, l1), (0, l2)] g r (KC7 g) := w_99 hr hc (fun _ => ⟨hr, ((up_c7 (by unfold PC7 P7; omega)).tr (up_c7 (by unfold PC7 P7; omega))).tr (up_c7 (by unfold PC7 P7; omega))⟩) (fun _ _ e => ⟨hr, e.c3⟩)
theorem c7_104 (hr : RI r) (hc : 0 ≤ g 55 2) : Ce sc (d + 4) 104 [(2, 0), (0, l1)] g r (KC7 g) := by
  have k0 : okr 218 0 8 := okd (by decide +kernel)
  have k55 : okr 218 55 3 := okd (by decide +kernel)
  have A : AL 56 11 24 := ⟨okd (by decide +kernel), n_56⟩
  have B : AL 57 11 24 := ⟨okd (by decide +kernel), n_57⟩
  refine c_104 (w_123 (fun q1 q2 => ?_) (fun q => ?_))
  · rw [if_neg (by decide), r_0_13 hr]
    exact ⟨k0, k0, w_132f hr k55 (r_55_0 hr) (r_55_1 hr) A B (by decide) (by decide) (by decide) hc (fun _ => ⟨hr, ((up_c7 (by unfold PC7 P7; omega)).tr (up_c7 (by unfold PC7 P7; omega))).tr (up_c7 (by unfold PC7 P7; omega))⟩) (fun _ _ e => ⟨hr, e.c3⟩)⟩
  · rw [if_pos rfl]; exact ⟨k0, c7_133 hr (by decide) (by decide)⟩
theorem c7_105 (hr : RI r) (hc : 0 ≤ g 55 2 ∧ g 55 2 ≤ 24) : Ce sc (d + 2) 105 [(2, 0)] g r (KC7 g) := w_105 hr hc (fun _ => ⟨hr, up_c7 (by unfold PC7 P7; omega)⟩) (fun _ => ⟨hr, EQF.rf g⟩)
theorem c7_120 (hr : RI r) (hc : 0 ≤ g 0 7 ∧ g 0 7 ≤ 3) : Ce sc (d + 4) 120 [(2, 0)] g r (KC7 g) := f_120 hr hc (fun q g' fr _ _ => ⟨hr, fun i h j => by
  unfold PC7 P7 at h
  exact fr i j (by omega) (by omega)⟩) (fun _ => ⟨hr, up_c7 (by unfold PC7 P7; omega)⟩)
theorem n7_142 (hr : RI r) (hi : MI g) : Ce sc (d + 1) 142 [(2, 165), (0, l1), (0, l2), (0, l3), (0, l4), (0, l5)] g r (KY7 g) := fq_142 hr hi.1.1 (fun _ g2 _ y => fun i h j => by
  unfold P7 at h
  exact y i j (by omega) (by omega)) (fun _ => EQF.rf g)
theorem n7_159 (hr : RI r) (hi : MI g) : Ce sc (d + 38) 159 [(2, 165), (0, l1), (0, l2)] g r (KY7 g) :=
  f_159 (d := d + 29) (T := fun p => i_and (g 189 p) 255) hr hi.2.1 hi.1.1 (fun _ _ _ => rfl) i0_m00 (fun _ => up_7 (by unfold P7; omega)) (fun _ g2 s2 m2 rc2 mt fq _ => fun i h j => by
    unfold P7 at h
    exact fq i j (by omega) (by omega) (by omega) (by omega) (by omega) (by omega) (by omega) (by omega) (by omega)) (fun _ g2 s2 m2 st2 rc2 _ _ _ fl => fun i h j => by
    unfold P7 at h
    exact fl i j (by omega) (by omega) (by omega) (by omega) (by omega) (by omega) (by omega))
theorem n7_138 (hr : RI r) (h0 : 0 ≤ l1) (h2 : l1 ≤ 2) : Ce sc (d + 1) 138 [(2, 165), (0, l1)] g r (KY7 g) := w_138 hr h0 h2 (up_7 (by unfold P7; omega))
theorem n7_222 (hr : RI r) : Ce sc (d + 2) 222 [(2, 165), (0, l1), (0, l2)] g r (KY7 g) := by
  have k9 : okr 218 165 9 := okd (by decide +kernel)
  refine c_222 ⟨k9, w_140 hr (fun t => ?_) (fun t => ?_)⟩
  · rw [if_neg (by decide)]
    refine w_137 (fun q1 q2 => ?_) (fun q => ?_)
    · rw [if_neg (by decide), r_165_15 hr]
      exact ⟨k9, i_181.mpr ⟨t.1, t.2.1⟩, fun g3 e3 => ⟨Or.inr rfl, by rw [e3]; exact up_7 (by unfold P7; omega)⟩⟩
    · rw [if_pos rfl]
      exact ⟨k9, w_139 hr ⟨Or.inl rfl, up_7 (by unfold P7; omega)⟩⟩
  · rw [if_pos rfl]
    exact ⟨k9, w_139 hr ⟨Or.inl rfl, up_7 (by unfold P7; omega)⟩⟩
theorem n7_223 (hr : RI r) (hi : MI g) : Ce sc (d + 2) 223 [(2, 165), (0, l1), (0, l2)] g r (KY7 g) := by
  have k9 : okr 218 165 9 := okd (by decide +kernel)
  have c := hi.1.2.2.1
  refine c_223 ⟨k9, w_140 hr (fun t => ?_) (fun t => ?_)⟩
  · rw [if_neg (by decide)]
    refine w_137 (fun q1 q2 => ?_) (fun q => ?_)
    · rw [if_neg (by decide), r_165_62 hr, r_165_63 hr]
      refine ⟨k9, ite_c (fun q => ⟨k9, n7_138 hr (by decide) (by decide)⟩) (fun q => ⟨k9, k9, i_209.mpr ⟨by omega, by omega⟩, fun g1 e1 => ⟨k9, k9, ?_, fun g2 e2 => ⟨k9, k9, fun g3 e3 => ⟨k9, ?_⟩⟩⟩⟩)⟩
      · rw [e1, up_i (by decide)]; exact i_210.mpr ⟨by omega, by omega⟩
      · rw [e3, e2, e1]
        exact ((up_7 (by unfold P7; omega)).tr (up_7 (by unfold P7; omega))).tr (up_7 (by unfold P7; omega))
    · rw [if_pos rfl]; exact ⟨k9, n7_138 hr (by decide) (by decide)⟩
  · rw [if_pos rfl]; exact ⟨k9, n7_138 hr (by decide) (by decide)⟩
theorem n7_228 (hr : RI r) (hi : MI g) : Ce sc (d + 2) 228 [(2, 165), (0, l1)] g r (KY7 g) := by
  have k9 : okr 218 165 9 := okd (by decide +kernel)
  have c := hi.1.2.2.2.1
  refine c_228 (w_137 (fun q1 q2 => ?_) (fun q => ?_))
  · rw [if_neg (by decide), r_165_65 hr]
    refine ⟨k9, ite_c (fun q => ⟨k9, n7_138 hr (by decide) (by decide)⟩) (fun q => ⟨k9, k9, i_211.mpr ⟨by omega, by omega⟩, fun g1 e1 => ⟨k9, k9, fun g2 e2 => ⟨k9, ?_⟩⟩⟩)⟩
    rw [e2, e1]
    exact (up_7 (by unfold P7; omega)).tr (up_7 (by unfold P7; omega))
  · rw [if_pos rfl]; exact ⟨k9, n7_138 hr (by decide) (by decide)⟩
theorem n7_229 (hr : RI r) (hi : MI g) : Ce sc (d + 1) 229 [(2, 165)] g r (KY7 g) := w_229 hr hi (fun _ _ => up_7 (by unfold P7; omega)) (fun _ => EQF.rf g)
theorem n7_244 (hr : RI r) (hi : MI g) : Ce sc (d + 2) 244 [(2, 165)] g r (KY7 g) := f_244 (d := d) hr hi (fun q g' fr _ _ _ => fun i h j => by
  unfold P7 at h
  exact fr i j (by omega) (by omega) (by omega) (by omega)) (fun _ => up_7 (by unfold P7; omega))
theorem n7_245 (hr : RI r) (hi : MI g) : Ce sc (d + 2) 245 [(2, 165), (0, l1)] g r (KY7 g) := f_245 (d := d) hr hi (fun q g' fr _ _ => fun i h j => by
  unfold P7 at h
  exact fr i j (by omega) (by omega) (by omega) (by omega)) (fun _ => up_7 (by unfold P7; omega))
theorem n7_207 {g1 r1 : GH} {A1 : Int} (hJ : J6 g r) (hr : RI r1) (hi1 : ∀ i j, 165 ≤ i → g1 i j = g i j) (D : Nat) : Ce sc (D + 10) 207 [(2, 165), (0, A1)] g1 r1 (KY7 g1) := by
  have k9 : okr 218 165 9 := okd (by decide +kernel)
  obtain ⟨mm, hp, hx, hc⟩ := par hJ.1
  obtain ⟨b, hb, cb, mb, zz⟩ := hJ.2.1
  have mb1 : MBR 0 g1 b := mb.fr (fun i j hi => hi1 i j (by omega))
  refine c_207 (w_137 (fun q1 q2 => ?_) (fun q => ?_))
  · rw [if_neg (by decide)]
    refine ⟨k9, s_206 (d := D + 8) hr (ite_c (fun z => ⟨k9, n7_138 (d := D + 8) hr (by decide) (by decide)⟩) (fun z => ⟨k9, ?_⟩))⟩
    have h9 := hb.1
    rw [r_165_42 hr, mb1.1.1, wr_id (x := b 0 0 + A1) ⟨by omega, by omega⟩]
    refine ⟨i_197.mpr ⟨by decide, by decide⟩, ite_c (fun y => ⟨k9, n7_138 (d := D + 8) hr (by decide) (by decide)⟩) (fun y => ⟨k9, f_201 (d := D + 8) (fun g3 a52 a56 fr => ?_)⟩)⟩
    refine f_207l (d := D) hr hp hx q2 A1.toNat 0 g3 b (Int.le_refl 0) (by omega) (fun i j hh => ?_) hb (by omega) (mb1.fr (fun i j hi => fr i j (by omega))) a52 a56 (fun g' f' m' => fun i h j => ?_)
    · rw [fr i j (by omega)]; exact hi1 i j (by omega)
    · unfold P7 at h
      rw [f' i j (by omega) (by omega) (by omega)]; exact fr i j (by omega)
  · rw [if_pos rfl]
    exact ⟨k9, n7_138 (d := D + 8) hr (by decide) (by decide)⟩
theorem x_66 (hJ : J7 g r) {A1 A2 A3 A4 A5 : Int} (D : Nat) : Ce sc (D + 2) 66 [(2, 0), (0, A1), (0, A2), (0, A3), (0, A4), (0, A5)] g r (fun v1 g1 r1 => Ce sc (D + 2) 142 [(2, 165), (0, A1), (0, A2), (0, A3), (0, A4), (0, A5)] g1 r1 fun v2 g2 r2 => v1 = v2 ∧ J7 g2 r2) := by
  have hj := hJ.1.1.1.1.1.1
  have hr := hj.1
  have hci := hj.2.1
  exact p7 hJ (uu_66 hJ.1 D) (c7_66 (d := D) hr hci.1) (fun g1 r1 hr1 mi hi => n7_142 (d := D + 1) hr1 mi)
theorem x_67 (hJ : J7 g r) {A1 A2 : Int} (D : Nat) : Ce sc (D + 38) 67 [(2, 0), (0, A1), (0, A2)] g r (fun v1 g1 r1 => Ce sc (D + 38) 159 [(2, 165), (0, A1), (0, A2)] g1 r1 fun v2 g2 r2 => v1 = v2 ∧ J7 g2 r2) := by
  have hj := hJ.1.1.1.1.1.1
  have hr := hj.1
  have hci := hj.2.1
  exact p7 hJ (uu_67 hJ.1 D) (c7_67 (d := D) hr hci.1) (fun g1 r1 hr1 mi hi => n7_159 (d := D) hr1 mi)
theorem x_80 (hJ : J7 g r) {A1 A2 A3 : Int} (h3 : A3 = 0 ∨ A3 = 1) (D : Nat) : Ce sc (D + 4) 80 [(2, 0), (0, A1), (0, A2), (0, A3)] g r (fun v1 g1 r1 => Ce sc (D + 4) 193 [(2, 165), (0, A1), (0, A2), (0, A3)] g1 r1 fun v2 g2 r2 => v1 = v2 ∧ J7 g2 r2) := by
  have hj := hJ.1.1.1.1.1.1
  have hr := hj.1
  have hci := hj.2.1
  exact p7 hJ (uu_80 hJ.1 h3 D) (u_80 (d := D) hr (fun _ _ e => ⟨hr, e.c4⟩)) (fun g1 r1 hr1 mi hi => f_193 (d := D + 2) hr1 h3 (fun _ => (up_7 (by unfold P7; omega)).tr (up_7 (by unfold P7; omega))) (fun _ => up_7 (by unfold P7; omega)))
theorem x_82 (hJ : J7 g r) {A1 : Int} (D : Nat) : Ce sc (D + 10) 82 [(2, 0), (0, A1)] g r (fun v1 g1 r1 => Ce sc (D + 10) 207 [(2, 165), (0, A1)] g1 r1 fun v2 g2 r2 => v1 = v2 ∧ J7 g2 r2) := by
  have hj := hJ.1.1.1.1.1.1
  have hr := hj.1
  have hci := hj.2.1
  exact p7 hJ (uu_82 hJ.1 D) (v_82 (d := D + 2) hr hJ.1.1.2 (fun _ _ e => ⟨hr, e.1.c3⟩)) (fun g1 r1 hr1 mi hi => n7_207 hJ.1 hr1 hi D)
theorem x_83 (hJ : J7 g r) {A1 : Int} (D : Nat) : Ce sc (D + 3) 83 [(2, 0), (0, A1)] g r (fun v1 g1 r1 => Ce sc (D + 3) 195 [(2, 165), (0, A1)] g1 r1 fun v2 g2 r2 => v1 = v2 ∧ J7 g2 r2) := by
  have hr := hJ.1.1.1.1.1.1.1
  obtain ⟨b, hb, cb, mb, zz⟩ := hJ.1.2.1
  refine p7 hJ (uu_83 hJ.1 D) (u_83 (d := D) hr (fun _ _ e => ⟨hr, e.c4⟩)) (fun g1 r1 hr1 mi hi => ?_)
  refine f_195 (d := D + 1) hr1 (fun j j0 j1 => ?_) (fun _ => (up_7 (by unfold P7; omega)).tr (up_7 (by unfold P7; omega))) (fun _ => up_7 (by unfold P7; omega))
  have q := (mb.2.1 j j0 j1).1
  rw [show (40 : Int) * 0 + j = j by omega] at q
  rw [hi 192 j (by decide), q]
  exact (hb.2.1 j j0 j1).1
theorem x_84 (hJ : J7 g r) {A1 : Int} (D : Nat) : Ce sc (D + 4) 84 [(2, 0), (0, A1)] g r (fun v1 g1 r1 => Ce sc (D + 4) 196 [(2, 165), (0, A1)] g1 r1 fun v2 g2 r2 => v1 = v2 ∧ J7 g2 r2) := by
  have hj := hJ.1.1.1.1.1.1
  have hr := hj.1
  have hci := hj.2.1
  exact p7 hJ (uu_84 hJ.1 D) (u_84 (d := D) hr (fun _ _ e => ⟨hr, e.c4⟩)) (fun g1 r1 hr1 mi hi => f_196 (d := D + 2) hr1 (fun _ => up_7 (by unfold P7; omega)) (fun _ => up_7 (by unfold P7; omega)))
theorem x_98 (hJ : J7 g r) {A1 A2 : Int} (D : Nat) : Ce sc (D + 4) 98 [(2, 0), (0, A1), (0, A2)] g r (fun v1 g1 r1 => Ce sc (D + 4) 222 [(2, 165), (0, A1), (0, A2)] g1 r1 fun v2 g2 r2 => v1 = v2 ∧ J7 g2 r2) := by
  have hj := hJ.1.1.1.1.1.1
  have hr := hj.1
  have hci := hj.2.1
  exact p7 hJ (uu_98 hJ.1 D) (c7_98 (d := D) hr) (fun g1 r1 hr1 mi hi => n7_222 (d := D + 2) hr1)
theorem x_99 (hJ : J7 g r) {A1 A2 : Int} (D : Nat) : Ce sc (D + 4) 99 [(2, 0), (0, A1), (0, A2)] g r (fun v1 g1 r1 => Ce sc (D + 4) 223 [(2, 165), (0, A1), (0, A2)] g1 r1 fun v2 g2 r2 => v1 = v2 ∧ J7 g2 r2) := by
  have hj := hJ.1.1.1.1.1.1
  have hr := hj.1
  have hci := hj.2.1
  exact p7 hJ (uu_99 hJ.1 D) (c7_99 (d := D) hr hci.2.2.1.1) (fun g1 r1 hr1 mi hi => n7_223 (d := D + 2) hr1 mi)
theorem x_104 (hJ : J7 g r) {A1 : Int} (D : Nat) : Ce sc (D + 4) 104 [(2, 0), (0, A1)] g r (fun v1 g1 r1 => Ce sc (D + 4) 228 [(2, 165), (0, A1)] g1 r1 fun v2 g2 r2 => v1 = v2 ∧ J7 g2 r2) := by
  have hj := hJ.1.1.1.1.1.1
  have hr := hj.1
  have hci := hj.2.1
  exact p7 hJ (uu_104 hJ.1 D) (c7_104 (d := D) hr hci.2.2.2.1.1) (fun g1 r1 hr1 mi hi => n7_228 (d := D + 2) hr1 mi)
theorem x_105 (hJ : J7 g r) (D : Nat) : Ce sc (D + 2) 105 [(2, 0)] g r (fun v1 g1 r1 => Ce sc (D + 2) 229 [(2, 165)] g1 r1 fun v2 g2 r2 => v1 = v2 ∧ J7 g2 r2) := by
  have hj := hJ.1.1.1.1.1.1
  have hr := hj.1
  have hci := hj.2.1
  exact p7 hJ (uu_105 hJ.1 D) (c7_105 (d := D) hr hci.2.2.2.1) (fun g1 r1 hr1 mi hi => n7_229 (d := D + 1) hr1 mi)
theorem x_120 (hJ : J7 g r) (D : Nat) : Ce sc (D + 4) 120 [(2, 0)] g r (fun v1 g1 r1 => Ce sc (D + 4) 244 [(2, 165)] g1 r1 fun v2 g2 r2 => v1 = v2 ∧ J7 g2 r2) := by
  have hj := hJ.1.1.1.1.1.1
  have hr := hj.1
  have hci := hj.2.1
  exact p7 hJ (uu_120 hJ.1 D) (c7_120 (d := D) hr hci.2.1) (fun g1 r1 hr1 mi hi => n7_244 (d := D + 2) hr1 mi)
theorem x_121 (hJ : J7 g r) {A1 : Int} (D : Nat) : Ce sc (D + 4) 121 [(2, 0), (0, A1)] g r (fun v1 g1 r1 => Ce sc (D + 4) 245 [(2, 165), (0, A1)] g1 r1 fun v2 g2 r2 => v1 = v2 ∧ J7 g2 r2) := by
  have hj := hJ.1.1.1.1.1.1
  have hr := hj.1
  have hci := hj.2.1
  exact p7 hJ (uu_121 hJ.1 D) (u_121 (d := D) hr (fun _ _ _ e => ⟨hr, e.c4⟩)) (fun g1 r1 hr1 mi hi => n7_245 (d := D + 2) hr1 mi)
theorem x_68 (hJ : J7 g r) (D : Nat) : Ce sc (D + 1) 68 [(2, 0)] g r (fun v1 g1 r1 => Ce sc (D + 1) 160 [(2, 165)] g1 r1 fun v2 g2 r2 => v1 = v2 ∧ J7 g2 r2) := by
  have hr := hJ.1.1.1.1.1.1.1
  refine c_68 ⟨okd (by decide +kernel), ?_⟩
  rw [r_0_0 hr]
  exact ⟨okd (by decide +kernel), c_160 ⟨okd (by decide +kernel), hJ.1.1.1.1.1.2.2, hJ⟩⟩
theorem x_69 (hJ : J7 g r) {A1 A2 : Int} (D : Nat) : Ce sc (D + 4) 69 [(2, 0), (0, A1), (0, A2)] g r (fun v1 g1 r1 => Ce sc (D + 4) 210 [(2, 165), (0, A1), (0, A2)] g1 r1 fun v2 g2 r2 => v1 = v2 ∧ J7 g2 r2) := by
  have hj := hJ.1.1.1.1.1.1
  have hr := hj.1
  have hci := hj.2.1
  exact p7 hJ (uu_69 hJ.1 D) (t_69 (d := D) hr sqn (fun _ _ e => ⟨hr, e.cn⟩)) (fun g1 r1 hr1 mi hi => s_210 (d := D) hr1 mi (fun _ => EQF.rf g1))
theorem x_81 (hJ : J7 g r) {A1 : Int} (D : Nat) : Ce sc (D + 3) 81 [(2, 0), (0, A1)] g r (fun v1 g1 r1 => Ce sc (D + 3) 194 [(2, 165), (0, A1)] g1 r1 fun v2 g2 r2 => v1 = v2 ∧ J7 g2 r2) := by
  have hj := hJ.1.1.1.1.1.1
  have hr := hj.1
  have hci := hj.2.1
  exact p7 hJ (uu_81 hJ.1 D) (t_81 (d := D) hr (fun _ _ e => ⟨hr, e.c3⟩)) (fun g1 r1 hr1 mi hi => s_194 (d := D + 1) hr1 mi (fun _ => EQF.rf g1))
theorem x_85 (hJ : J7 g r) {A1 A2 : Int} (D : Nat) : Ce sc (D + 3) 85 [(2, 0), (0, A1), (0, A2)] g r (fun v1 g1 r1 => Ce sc (D + 3) 208 [(2, 165), (0, A1), (0, A2)] g1 r1 fun v2 g2 r2 => v1 = v2 ∧ J7 g2 r2) := by
  have hj := hJ.1.1.1.1.1.1
  have hr := hj.1
  have hci := hj.2.1
  exact p7 hJ (uu_85 hJ.1 D) (t_85 (d := D) hr (fun _ _ e => ⟨hr, e.c3⟩)) (fun g1 r1 hr1 mi hi => s_208 (d := D + 1) hr1 mi (fun _ => EQF.rf g1))
theorem x_86 (hJ : J7 g r) {A1 : Int} (D : Nat) : Ce sc (D + 2) 86 [(2, 0), (0, A1)] g r (fun v1 g1 r1 => Ce sc (D + 2) 209 [(2, 165), (0, A1)] g1 r1 fun v2 g2 r2 => v1 = v2 ∧ J7 g2 r2) := by
  have hj := hJ.1.1.1.1.1.1
  have hr := hj.1
  have hci := hj.2.1
  exact p7 hJ (uu_86 hJ.1 D) (t_86 (d := D) hr (fun _ _ e => ⟨hr, e.c3⟩)) (fun g1 r1 hr1 mi hi => s_209 (d := D + 1) hr1 (fun _ => EQF.rf g1))
theorem x_100 (hJ : J7 g r) {A1 : Int} (D : Nat) : Ce sc (D + 4) 100 [(2, 0), (0, A1)] g r (fun v1 g1 r1 => Ce sc (D + 4) 226 [(2, 165), (0, A1)] g1 r1 fun v2 g2 r2 => v1 = v2 ∧ J7 g2 r2) := by
  have hj := hJ.1.1.1.1.1.1
  have hr := hj.1
  have hci := hj.2.1
  exact p7 hJ (uu_100 hJ.1 D) (t_100 (d := D) hr sqn cqn hci (fun _ _ e => ⟨hr, e.cn⟩)) (fun g1 r1 hr1 mi hi => s_226' (d := D + 2) hr1 mi (fun _ => EQF.rf g1))
theorem x_103 (hJ : J7 g r) {A1 A2 A3 : Int} (hs2 : rI A2) (hs3 : rI A3) (D : Nat) : Ce sc (D + 3) 103 [(2, 0), (0, A1), (0, A2), (0, A3)] g r (fun v1 g1 r1 => Ce sc (D + 3) 227 [(2, 165), (0, A1), (0, A2), (0, A3)] g1 r1 fun v2 g2 r2 => v1 = v2 ∧ J7 g2 r2) := by
  have hj := hJ.1.1.1.1.1.1
  have hr := hj.1
  have hci := hj.2.1
  exact p7 hJ (uu_103 hJ.1 (hs2) (hs3) D) (t_103 (d := D) hr sqn (fun _ _ e => ⟨hr, e.cn⟩)) (fun g1 r1 hr1 mi hi => s_227 (d := D + 1) hr1 mi (fun _ => EQF.rf g1))
theorem x_110 (hJ : J7 g r) {A1 A2 A3 A4 : Int} (h3 : A3 < 2147483648) (D : Nat) : Ce sc (D + 3) 110 [(2, 0), (0, A1), (0, A2), (0, A3), (0, A4)] g r (fun v1 g1 r1 => Ce sc (D + 3) 235 [(2, 165), (0, A1), (0, A2), (0, A3), (0, A4)] g1 r1 fun v2 g2 r2 => v1 = v2 ∧ J7 g2 r2) := by
  have hj := hJ.1.1.1.1.1.1
  have hr := hj.1
  have hci := hj.2.1
  exact p7 hJ (uu_110 hJ.1 h3 D) (t_110 (d := D) hr sqn h3 (fun _ _ e => ⟨hr, e.cn⟩)) (fun g1 r1 hr1 mi hi => s_235 (d := D + 1) hr1 mi (fun _ => EQF.rf g1))
theorem c7_111 (hr : RI r) (hc : 0 ≤ g 58 2) : Ce sc (d + 4) 111 [(2, 0), (0, l1), (0, l2)] g r (fun _ g1 r1 => r1 = r ∧ (((2 ≤ l1 ∧ l1 ≤ 40) ∧ (1 ≤ l2 ∧ l2 ≤ 9999) ∧ g 58 2 < 9 ∧ g1 = up (up (up g 59 (g 58 2) l1) 60 (g 58 2) l2) 58 2 (g 58 2 + 1)) ∨ (¬ ((2 ≤ l1 ∧ l1 ≤ 40) ∧ (1 ≤ l2 ∧ l2 ≤ 9999) ∧ g 58 2 < 9) ∧ EQF PC7 g g1))) := by
  have k0 : okr 218 0 8 := okd (by decide +kernel)
  have kp : okr 218 58 3 := okd (by decide +kernel)
  have A : AL 59 11 9 := ⟨okd (by decide +kernel), n_59⟩
  have B : AL 60 11 9 := ⟨okd (by decide +kernel), n_60⟩
  refine c_111 (w_123 (fun q1 q2 => ?_) (fun q => ?_))
  · rw [if_neg (by decide)]
    refine w_123 (fun q3 q4 => ?_) (fun q => ?_)
    · rw [if_neg (by decide), r_0_14 hr]
      exact ⟨k0, k0, w_132f hr kp (r_58_0 hr) (r_58_1 hr) A B (by decide) (by decide) (by decide) hc (fun z => ⟨rfl, Or.inl ⟨⟨q1, q2⟩, ⟨q3, q4⟩, z, rfl⟩⟩) (fun z _ e => ⟨rfl, Or.inr ⟨fun y => z y.2.2, e.c3⟩⟩)⟩
    · rw [if_pos rfl]; exact ⟨k0, w_133 hr (by decide) (by decide) ⟨rfl, Or.inr ⟨fun y => q y.2.1, up_c7 (by unfold PC7 P7; omega)⟩⟩⟩
  · rw [if_pos rfl]; exact ⟨k0, w_133 hr (by decide) (by decide) ⟨rfl, Or.inr ⟨fun y => q y.1, up_c7 (by unfold PC7 P7; omega)⟩⟩⟩
theorem n7_236 (hr : RI r) (hi : MI g) : Ce sc (d + 2) 236 [(2, 165), (0, l1), (0, l2)] g r (fun _ g1 _ => ((2 ≤ l1 ∧ l1 ≤ 40) ∧ (1 ≤ l2 ∧ l2 ≤ 9999) ∧ g 165 66 < 9 ∧ g1 = up (up (up g 212 (g 165 66) l1) 213 (g 165 66) l2) 165 66 (g 165 66 + 1)) ∨ (¬ ((2 ≤ l1 ∧ l1 ≤ 40) ∧ (1 ≤ l2 ∧ l2 ≤ 9999) ∧ g 165 66 < 9) ∧ EQF P7 g g1)) := by
  have k9 : okr 218 165 9 := okd (by decide +kernel)
  have c := hi.1.2.2.2.2.1
  refine c_236 (w_137 (fun q1 q2 => ?_) (fun q => ?_))
  · rw [if_neg (by decide)]
    refine w_137 (fun q3 q4 => ?_) (fun q => ?_)
    · rw [if_neg (by decide), r_165_67 hr, r_165_68 hr]
      refine ⟨k9, ite_c (fun z => ⟨k9, w_138 hr (by decide) (by decide) (Or.inr ⟨fun y => by omega, up_7 (by unfold P7; omega)⟩)⟩) (fun z => ⟨k9, k9, i_212.mpr ⟨by omega, by omega⟩, fun g1 e1 => ⟨k9, k9, ?_, fun g2 e2 => ⟨k9, k9, fun g3 e3 => ⟨k9, Or.inl ⟨⟨q1, q2⟩, ⟨q3, q4⟩, by omega, ?_⟩⟩⟩⟩⟩)⟩
      · rw [e1, up_i (by decide)]; exact i_213.mpr ⟨by omega, by omega⟩
      · have f1 : g1 165 66 = g 165 66 := by rw [e1, up_i (by decide)]
        have f2 : g2 165 66 = g 165 66 := by rw [e2, up_i (by decide), f1]
        rw [e3, f2, wr_id (x := g 165 66 + 1) ⟨by omega, by omega⟩, e2, f1, e1]
    · rw [if_pos rfl]; exact ⟨k9, w_138 hr (by decide) (by decide) (Or.inr ⟨fun y => q y.2.1, up_7 (by unfold P7; omega)⟩)⟩
  · rw [if_pos rfl]; exact ⟨k9, w_138 hr (by decide) (by decide) (Or.inr ⟨fun y => q y.1, up_7 (by unfold P7; omega)⟩)⟩
theorem x_111 (hJ : J7 g r) {A1 A2 : Int} (D : Nat) : Ce sc (D + 4) 111 [(2, 0), (0, A1), (0, A2)] g r (fun v1 g1 r1 => Ce sc (D + 4) 236 [(2, 165), (0, A1), (0, A2)] g1 r1 fun v2 g2 r2 => v1 = v2 ∧ J7 g2 r2) := by
  have hj := hJ.1.1.1.1.1.1
  have hr := hj.1
  have cc : g 58 2 = g 165 66 := hj.2.2.2.2.2.2.2.1
  refine Ce_mono (Ce_and (uu_111 hJ.1 D) (c7_111 (d := D) hr hj.2.1.2.2.2.2.1.1)) (fun v1 g1 r1 w => ?_)
  obtain ⟨hce, er, w⟩ := w
  have er' := er.symm
  subst er'
  have hi1 : ∀ i j, 165 ≤ i → g1 i j = g i j := by
    rcases w with ⟨_, _, _, e⟩ | ⟨_, e⟩
    · intro i j h
      rw [e, up_i (by omega), up_i (by omega), up_i (by omega)]
    · intro i j h
      exact e i (Or.inr h) j
  have mi : MI g1 := hj.2.2.2.1.hi hi1
  have c66 : g1 165 66 = g 58 2 := by rw [hi1 165 66 (by decide)]; exact cc.symm
  refine Ce_mono (Ce_and hce (n7_236 (d := D + 2) hr mi)) (fun v2 g2 r2 t => ?_)
  obtain ⟨⟨ev, j6⟩, t⟩ := t
  refine ⟨ev, ?_⟩
  rw [c66] at t
  rcases w with ⟨a1, a2, a3, e1⟩ | ⟨na, e1⟩
  · rcases t with ⟨_, _, _, e2⟩ | ⟨nb, _⟩
    · have z : ∀ i j, (62 ≤ i ∧ i ≤ 64) ∨ i = 215 ∨ i = 216 → g2 i j = g i j := fun i j h => by rw [e2, up_i (by omega), up_i (by omega), up_i (by omega), e1, up_i (by omega), up_i (by omega), up_i (by omega)]
      have mine : ∀ q, 0 ≤ q → q < g2 58 2 → g2 59 q = g2 212 q ∧ g2 60 q = g2 213 q ∧ (2 ≤ g2 212 q ∧ g2 212 q ≤ 40) ∧ 1 ≤ g2 213 q ∧ g2 213 q ≤ 9999 := fun q q0 q1 => by
        have c2 : g2 58 2 = g 58 2 + 1 := by rw [e2, up_i (by decide), up_i (by decide), up_i (by decide), e1, up_s]
        rw [c2] at q1
        by_cases y : q = g 58 2
        · have z1 : g2 59 q = A1 := by rw [e2, up_i (by decide), up_i (by decide), up_i (by decide), e1, up_i (by decide), up_i (by decide), y, up_s]
          have z2 : g2 60 q = A2 := by rw [e2, up_i (by decide), up_i (by decide), up_i (by decide), e1, up_i (by decide), y, up_s]
          have z3 : g2 212 q = A1 := by rw [e2, up_i (by decide), up_i (by decide), y, up_s]
          have z4 : g2 213 q = A2 := by rw [e2, up_i (by decide), y, up_s]
          rw [z1, z2, z3, z4]
          exact ⟨rfl, rfl, a1, a2⟩
        · have z1 : g2 59 q = g 59 q := by rw [e2, up_i (by decide), up_i (by decide), up_i (by decide), e1, up_i (by decide), up_i (by decide), up_j y]
          have z2 : g2 60 q = g 60 q := by rw [e2, up_i (by decide), up_i (by decide), up_i (by decide), e1, up_i (by decide), up_j y, up_i (by decide)]
          have z3 : g2 212 q = g 212 q := by rw [e2, up_i (by decide), up_i (by decide), up_j y]; exact hi1 212 q (by decide)
          have z4 : g2 213 q = g 213 q := by rw [e2, up_i (by decide), up_j y, up_i (by decide)]; exact hi1 213 q (by decide)
          rw [z1, z2, z3, z4]
          exact hJ.2.1 q q0 (by omega)
      have other : ∀ q, 0 ≤ q → q < g2 62 2 → g2 63 q = g2 215 q ∧ g2 64 q = g2 216 q ∧ (1 ≤ g2 215 q ∧ g2 215 q ≤ 24) ∧ 1 ≤ g2 216 q ∧ g2 216 q ≤ 999999999 := fun q q0 q1 => by
        rw [z 62 2 (by omega)] at q1
        rw [z 63 q (by omega), z 64 q (by omega), z 215 q (by omega), z 216 q (by omega)]
        exact hJ.2.2 q q0 q1
      exact ⟨j6, mine, other⟩
    · exact absurd ⟨a1, a2, a3⟩ nb
  · rcases t with ⟨b1, b2, b3, _⟩ | ⟨_, e2⟩
    · exact absurd ⟨b1, b2, b3⟩ na
    · exact hJ.y j6 (e1.p7.tr e2)
theorem c7_117 (hr : RI r) (hc : 0 ≤ g 62 2) : Ce sc (d + 4) 117 [(2, 0), (0, l1), (0, l2)] g r (fun _ g1 r1 => r1 = r ∧ (((1 ≤ l1 ∧ l1 ≤ 24) ∧ (1 ≤ l2 ∧ l2 ≤ 999999999) ∧ g 62 2 < 8 ∧ g1 = up (up (up g 63 (g 62 2) l1) 64 (g 62 2) l2) 62 2 (g 62 2 + 1)) ∨ (¬ ((1 ≤ l1 ∧ l1 ≤ 24) ∧ (1 ≤ l2 ∧ l2 ≤ 999999999) ∧ g 62 2 < 8) ∧ EQF PC7 g g1))) := by
  have k0 : okr 218 0 8 := okd (by decide +kernel)
  have kp : okr 218 62 3 := okd (by decide +kernel)
  have A : AL 63 11 8 := ⟨okd (by decide +kernel), n_63⟩
  have B : AL 64 11 8 := ⟨okd (by decide +kernel), n_64⟩
  refine c_117 (w_123 (fun q1 q2 => ?_) (fun q => ?_))
  · rw [if_neg (by decide)]
    refine w_123 (fun q3 q4 => ?_) (fun q => ?_)
    · rw [if_neg (by decide), r_0_16 hr]
      exact ⟨k0, k0, w_132f hr kp (r_62_0 hr) (r_62_1 hr) A B (by decide) (by decide) (by decide) hc (fun z => ⟨rfl, Or.inl ⟨⟨q1, q2⟩, ⟨q3, q4⟩, z, rfl⟩⟩) (fun z _ e => ⟨rfl, Or.inr ⟨fun y => z y.2.2, e.c3⟩⟩)⟩
    · rw [if_pos rfl]; exact ⟨k0, w_133 hr (by decide) (by decide) ⟨rfl, Or.inr ⟨fun y => q y.2.1, up_c7 (by unfold PC7 P7; omega)⟩⟩⟩
  · rw [if_pos rfl]; exact ⟨k0, w_133 hr (by decide) (by decide) ⟨rfl, Or.inr ⟨fun y => q y.1, up_c7 (by unfold PC7 P7; omega)⟩⟩⟩
theorem n7_240 (hr : RI r) (hi : MI g) : Ce sc (d + 2) 240 [(2, 165), (0, l1), (0, l2)] g r (fun _ g1 _ => ((1 ≤ l1 ∧ l1 ≤ 24) ∧ (1 ≤ l2 ∧ l2 ≤ 999999999) ∧ g 165 70 < 8 ∧ g1 = up (up (up g 215 (g 165 70) l1) 216 (g 165 70) l2) 165 70 (g 165 70 + 1)) ∨ (¬ ((1 ≤ l1 ∧ l1 ≤ 24) ∧ (1 ≤ l2 ∧ l2 ≤ 999999999) ∧ g 165 70 < 8) ∧ EQF P7 g g1)) := by
  have k9 : okr 218 165 9 := okd (by decide +kernel)
  have c := hi.1.2.2.2.2.2.1
  refine c_240 (w_137 (fun q1 q2 => ?_) (fun q => ?_))
  · rw [if_neg (by decide)]
    refine w_137 (fun q3 q4 => ?_) (fun q => ?_)
    · rw [if_neg (by decide), r_165_71 hr, r_165_72 hr]
      refine ⟨k9, ite_c (fun z => ⟨k9, w_138 hr (by decide) (by decide) (Or.inr ⟨fun y => by omega, up_7 (by unfold P7; omega)⟩)⟩) (fun z => ⟨k9, k9, i_215.mpr ⟨by omega, by omega⟩, fun g1 e1 => ⟨k9, k9, ?_, fun g2 e2 => ⟨k9, k9, fun g3 e3 => ⟨k9, Or.inl ⟨⟨q1, q2⟩, ⟨q3, q4⟩, by omega, ?_⟩⟩⟩⟩⟩)⟩
      · rw [e1, up_i (by decide)]; exact i_216.mpr ⟨by omega, by omega⟩
      · have f1 : g1 165 70 = g 165 70 := by rw [e1, up_i (by decide)]
        have f2 : g2 165 70 = g 165 70 := by rw [e2, up_i (by decide), f1]
        rw [e3, f2, wr_id (x := g 165 70 + 1) ⟨by omega, by omega⟩, e2, f1, e1]
    · rw [if_pos rfl]; exact ⟨k9, w_138 hr (by decide) (by decide) (Or.inr ⟨fun y => q y.2.1, up_7 (by unfold P7; omega)⟩)⟩
  · rw [if_pos rfl]; exact ⟨k9, w_138 hr (by decide) (by decide) (Or.inr ⟨fun y => q y.1, up_7 (by unfold P7; omega)⟩)⟩
theorem x_117 (hJ : J7 g r) {A1 A2 : Int} (D : Nat) : Ce sc (D + 4) 117 [(2, 0), (0, A1), (0, A2)] g r (fun v1 g1 r1 => Ce sc (D + 4) 240 [(2, 165), (0, A1), (0, A2)] g1 r1 fun v2 g2 r2 => v1 = v2 ∧ J7 g2 r2) := by
  have hj := hJ.1.1.1.1.1.1
  have hr := hj.1
  have cc : g 62 2 = g 165 70 := hj.2.2.2.2.2.2.2.2
  refine Ce_mono (Ce_and (uu_117 hJ.1 D) (c7_117 (d := D) hr hj.2.1.2.2.2.2.2.1)) (fun v1 g1 r1 w => ?_)
  obtain ⟨hce, er, w⟩ := w
  have er' := er.symm
  subst er'
  have hi1 : ∀ i j, 165 ≤ i → g1 i j = g i j := by
    rcases w with ⟨_, _, _, e⟩ | ⟨_, e⟩
    · intro i j h
      rw [e, up_i (by omega), up_i (by omega), up_i (by omega)]
    · intro i j h
      exact e i (Or.inr h) j
  have mi : MI g1 := hj.2.2.2.1.hi hi1
  have c66 : g1 165 70 = g 62 2 := by rw [hi1 165 70 (by decide)]; exact cc.symm
  refine Ce_mono (Ce_and hce (n7_240 (d := D + 2) hr mi)) (fun v2 g2 r2 t => ?_)
  obtain ⟨⟨ev, j6⟩, t⟩ := t
  refine ⟨ev, ?_⟩
  rw [c66] at t
  rcases w with ⟨a1, a2, a3, e1⟩ | ⟨na, e1⟩
  · rcases t with ⟨_, _, _, e2⟩ | ⟨nb, _⟩
    · have z : ∀ i j, (58 ≤ i ∧ i ≤ 60) ∨ i = 212 ∨ i = 213 → g2 i j = g i j := fun i j h => by rw [e2, up_i (by omega), up_i (by omega), up_i (by omega), e1, up_i (by omega), up_i (by omega), up_i (by omega)]
      have mine : ∀ q, 0 ≤ q → q < g2 62 2 → g2 63 q = g2 215 q ∧ g2 64 q = g2 216 q ∧ (1 ≤ g2 215 q ∧ g2 215 q ≤ 24) ∧ 1 ≤ g2 216 q ∧ g2 216 q ≤ 999999999 := fun q q0 q1 => by
        have c2 : g2 62 2 = g 62 2 + 1 := by rw [e2, up_i (by decide), up_i (by decide), up_i (by decide), e1, up_s]
        rw [c2] at q1
        by_cases y : q = g 62 2
        · have z1 : g2 63 q = A1 := by rw [e2, up_i (by decide), up_i (by decide), up_i (by decide), e1, up_i (by decide), up_i (by decide), y, up_s]
          have z2 : g2 64 q = A2 := by rw [e2, up_i (by decide), up_i (by decide), up_i (by decide), e1, up_i (by decide), y, up_s]
          have z3 : g2 215 q = A1 := by rw [e2, up_i (by decide), up_i (by decide), y, up_s]
          have z4 : g2 216 q = A2 := by rw [e2, up_i (by decide), y, up_s]
          rw [z1, z2, z3, z4]
          exact ⟨rfl, rfl, a1, a2⟩
        · have z1 : g2 63 q = g 63 q := by rw [e2, up_i (by decide), up_i (by decide), up_i (by decide), e1, up_i (by decide), up_i (by decide), up_j y]
          have z2 : g2 64 q = g 64 q := by rw [e2, up_i (by decide), up_i (by decide), up_i (by decide), e1, up_i (by decide), up_j y, up_i (by decide)]
          have z3 : g2 215 q = g 215 q := by rw [e2, up_i (by decide), up_i (by decide), up_j y]; exact hi1 215 q (by decide)
          have z4 : g2 216 q = g 216 q := by rw [e2, up_i (by decide), up_j y, up_i (by decide)]; exact hi1 216 q (by decide)
          rw [z1, z2, z3, z4]
          exact hJ.2.2 q q0 (by omega)
      have other : ∀ q, 0 ≤ q → q < g2 58 2 → g2 59 q = g2 212 q ∧ g2 60 q = g2 213 q ∧ (2 ≤ g2 212 q ∧ g2 212 q ≤ 40) ∧ 1 ≤ g2 213 q ∧ g2 213 q ≤ 9999 := fun q q0 q1 => by
        rw [z 58 2 (by omega)] at q1
        rw [z 59 q (by omega), z 60 q (by omega), z 212 q (by omega), z 213 q (by omega)]
        exact hJ.2.1 q q0 q1
      exact ⟨j6, other, mine⟩
    · exact absurd ⟨a1, a2, a3⟩ nb
  · rcases t with ⟨b1, b2, b3, _⟩ | ⟨_, e2⟩
    · exact absurd ⟨b1, b2, b3⟩ na
    · exact hJ.y j6 (e1.p7.tr e2)
end J7S
