/-! calls that tell, over J6 -/
section TL6
variable {sc : SCR} {d : Nat} {Q : QJ} {g r b : GH} {l0 l1 l2 l3 l4 l5 x s p a n m v w : Int}
/-- what the mills told are, for an hour -/
theorem par (hJ : J5 g r) : ∃ mm : Int → GH, PO g mm ∧ MXA g mm ∧ COK g mm r g := by
  have hk := hJ.1.1.2.1
  have hT := hJ.2
  have ex : ∀ k : Int, ∃ m : GH, TM g k → XTM m ∧ MC (r 6 k) g m ∧ MX3 k g m := fun k => by
    by_cases t : TM g k
    · obtain ⟨m, a, b, c⟩ := (hk k t.1 t.2.1).2 t.2.2
      exact ⟨m, fun _ => ⟨a, b, c⟩⟩
    · exact ⟨g, fun y => absurd y t⟩
  obtain ⟨mm, h⟩ := Classical.axiomOfChoice ex
  refine ⟨mm, fun k t => ?_, fun k t => (h k t).2.2, hT, fun k t => ⟨fun z => t.2.2 ((hk k t.1 t.2.1).1.mp z), (h k t).2.1⟩⟩
  obtain ⟨a, _, c⟩ := h k t
  have w6 := a.2.2.2.2.2.2.1
  have e7 : g 175 k = mm k 0 7 := c.1 7 (by decide) (by decide)
  have e8 : g 176 k = mm k 0 8 := c.1 8 (by decide) (by decide)
  rw [e7, e8]
  exact ⟨a, w6.2.2.1, w6.2.2.2.1, ((hT k t.1 t.2.1).2 t).2.1⟩
theorem IMG.i {g' : GH} (h : IMG g) (h3 : g 165 48 ≤ 3) (e48 : g' 165 48 = g 165 48) (c : ∀ i j, 132 ≤ i → i ≤ 164 → g' i j = g i j) (e : ∀ i j, ((i = 192 ∨ i = 198) ∧ 40 ≤ j ∧ j < 160) ∨ (193 ≤ i ∧ i ≤ 199 ∧ i ≠ 197 ∧ i ≠ 198 ∧ 6 ≤ j ∧ j < 24) ∨ ((i = 197 ∨ i = 200 ∨ i = 201 ∨ i = 202) ∧ 1 ≤ j ∧ j < 4) → g' i j = g i j) : IMG g' := fun k k0 k1 => by
  rw [e48] at k1
  obtain ⟨b, hb, cb, ⟨⟨q1, q2, q3⟩, q4, q5⟩, z⟩ := h k k0 k1
  refine ⟨b, hb, cb.fr (fun i j i0 i1 => c i j (by omega) (by omega)), ⟨⟨?_, ?_, ?_⟩, fun j j0 j1 => ?_, fun j j0 j1 => ?_⟩, ?_⟩
  · rw [e 197 _ (by omega)]; exact q1
  · rw [e 200 _ (by omega)]; exact q2
  · rw [e 201 _ (by omega)]; exact q3
  · rw [e 192 _ (by omega), e 198 _ (by omega)]; exact q4 j j0 j1
  · rw [e 193 _ (by omega), e 194 _ (by omega), e 199 _ (by omega), e 195 _ (by omega), e 196 _ (by omega)]; exact q5 j j0 j1
  · rw [c _ 3 (by omega) (by omega), e 202 _ (by omega)]; exact z
theorem uu_66 (hJ : J6 g r) {A1 A2 A3 A4 A5 : Int} (D : Nat) : Ce sc (D + 2) 66 [(2, 0), (0, A1), (0, A2), (0, A3), (0, A4), (0, A5)] g r (fun v1 g1 r1 => Ce sc (D + 2) 142 [(2, 165), (0, A1), (0, A2), (0, A3), (0, A4), (0, A5)] g1 r1 fun v2 g2 r2 => v1 = v2 ∧ J6 g2 r2) := by
  have hj := hJ.1.1.1.1.1
  exact pz hJ (tt_66 hJ.1 D) (z_66 hj.1 hj.2.1.1) (Ce_mono (kb_66 hj.1 hj.2.1.1) (fun _ _ _ w => w.2.mi hj.2.2.2.1)) (fun g1 mi => z_142 (d := D + 1) hj.1 mi)
theorem uu_104 (hJ : J6 g r) {A1 : Int} (D : Nat) : Ce sc (D + 4) 104 [(2, 0), (0, A1)] g r (fun v1 g1 r1 => Ce sc (D + 4) 228 [(2, 165), (0, A1)] g1 r1 fun v2 g2 r2 => v1 = v2 ∧ J6 g2 r2) := by
  have hj := hJ.1.1.1.1.1
  exact pz hJ (tt_104 hJ.1 D) (z_104 hj.1 hj.2.1.2.2.2.1.1) (Ce_mono (kb_104 hj.1 hj.2.1.2.2.2.1.1) (fun _ _ _ w => w.2.mi hj.2.2.2.1)) (fun g1 mi => z_228 (d := D + 2) hj.1 mi)
theorem uu_105 (hJ : J6 g r) (D : Nat) : Ce sc (D + 2) 105 [(2, 0)] g r (fun v1 g1 r1 => Ce sc (D + 2) 229 [(2, 165)] g1 r1 fun v2 g2 r2 => v1 = v2 ∧ J6 g2 r2) := by
  have hj := hJ.1.1.1.1.1
  exact pz hJ (tt_105 hJ.1 D) (z_105 hj.1 hj.2.1.2.2.2.1) (Ce_mono (kb_105 hj.1 hj.2.1.2.2.2.1) (fun _ _ _ w => w.2.mi hj.2.2.2.1)) (fun g1 mi => z_229 (d := D + 1) hj.1 mi)
theorem uu_111 (hJ : J6 g r) {A1 A2 : Int} (D : Nat) : Ce sc (D + 4) 111 [(2, 0), (0, A1), (0, A2)] g r (fun v1 g1 r1 => Ce sc (D + 4) 236 [(2, 165), (0, A1), (0, A2)] g1 r1 fun v2 g2 r2 => v1 = v2 ∧ J6 g2 r2) := by
  have hj := hJ.1.1.1.1.1
  exact pz hJ (tt_111 hJ.1 D) (z_111 hj.1 hj.2.1.2.2.2.2.1.1) (Ce_mono (kb_111 hj.1 hj.2.1.2.2.2.2.1.1) (fun _ _ _ w => w.2.mi hj.2.2.2.1)) (fun g1 mi => z_236 (d := D + 2) hj.1 mi)
theorem uu_117 (hJ : J6 g r) {A1 A2 : Int} (D : Nat) : Ce sc (D + 4) 117 [(2, 0), (0, A1), (0, A2)] g r (fun v1 g1 r1 => Ce sc (D + 4) 240 [(2, 165), (0, A1), (0, A2)] g1 r1 fun v2 g2 r2 => v1 = v2 ∧ J6 g2 r2) := by
  have hj := hJ.1.1.1.1.1
  exact pz hJ (tt_117 hJ.1 D) (z_117 hj.1 hj.2.1.2.2.2.2.2.1) (Ce_mono (kb_117 hj.1 hj.2.1.2.2.2.2.2.1) (fun _ _ _ w => w.2.mi hj.2.2.2.1)) (fun g1 mi => z_240 (d := D + 2) hj.1 mi)
theorem uu_98 (hJ : J6 g r) {A1 A2 : Int} (D : Nat) : Ce sc (D + 4) 98 [(2, 0), (0, A1), (0, A2)] g r (fun v1 g1 r1 => Ce sc (D + 4) 222 [(2, 165), (0, A1), (0, A2)] g1 r1 fun v2 g2 r2 => v1 = v2 ∧ J6 g2 r2) := by
  have hj := hJ.1.1.1.1.1
  exact pz hJ (tt_98 hJ.1 D) (z_98 hj.1) (Ce_mono (kb_98 hj.1) (fun _ _ _ w => hj.2.2.2.1.hi (fun i j h => w.2 i j (by omega) (Or.inr (fp_f3 (Or.inl h)))))) (fun g1 mi => z_222 (d := D + 2) hj.1)
theorem uu_99 (hJ : J6 g r) {A1 A2 : Int} (D : Nat) : Ce sc (D + 4) 99 [(2, 0), (0, A1), (0, A2)] g r (fun v1 g1 r1 => Ce sc (D + 4) 223 [(2, 165), (0, A1), (0, A2)] g1 r1 fun v2 g2 r2 => v1 = v2 ∧ J6 g2 r2) := by
  have hj := hJ.1.1.1.1.1
  exact pz hJ (tt_99 hJ.1 D) (z_99 hj.1 hj.2.1.2.2.1.1) (Ce_mono (kb_99 hj.1 hj.2.1.2.2.1.1) (fun _ _ _ w => hj.2.2.2.1.hi (fun i j h => w.2 i j (by omega) (by omega) (by omega) (Or.inr (fp_f3 (Or.inl h)))))) (fun g1 mi => z_223 (d := D + 2) hj.1 mi)
/-- a pair by what both calls do -/
theorem pu {ka kb D E : Nat} {as bs : List AV} {C : Int → GH → GH → Prop} (hJ : J6 g r) (c5 : Ce sc D ka as g r (fun _ g1 r1 => r1 = r ∧ EQF F4 g g1)) (cv : Ce sc D ka as g r C) (m5 : ∀ g1, MI g1 → Ce sc E kb bs g1 r (fun _ g2 r2 => r2 = r ∧ ME g1 g2)) (mv : ∀ v1 g1, MI g1 → (∀ i j, 165 ≤ i → g1 i j = g i j) → C v1 g1 r → Ce sc E kb bs g1 r (fun v2 g2 r2 => J5 g2 r2 → v1 = v2 ∧ J6 g2 r2)) : Ce sc D ka as g r (fun v1 g1 r1 => Ce sc E kb bs g1 r1 fun v2 g2 r2 => v1 = v2 ∧ J6 g2 r2) := by
  refine Ce_mono (Ce_and c5 cv) (fun v1 g1 r1 w => ?_)
  obtain ⟨⟨er, e1⟩, hC⟩ := w
  subst er
  have hi1 : ∀ i j, 165 ≤ i → g1 i j = g i j := fun i j h => e1 i (Or.inl (fp_f3 (Or.inl h))) j
  have mi : MI g1 := hJ.1.1.1.1.1.2.2.2.1.hi hi1
  refine Ce_mono (Ce_and (m5 g1 mi) (mv v1 g1 mi hi1 hC)) (fun v2 g2 r2 u => ?_)
  obtain ⟨⟨e2, k⟩, f⟩ := u
  subst e2
  exact f ((hJ.1.eq e1).me k)
theorem CBR.o {g' : GH} (h : CBR 23 g b) (e : ∀ i j, 23 ≤ i → i ≤ 30 → g' i j = g i j) : CBR 23 g' b := h.fr (fun i j i0 i1 => e i j i0 (by omega))
/-- a day told -/
theorem cbr_day (h : CBR 23 g b) : CBR 23 (up (up g 24 m v) 25 m w) (up (up b 4 m v) 5 m w) := by
  obtain ⟨⟨q1, q2, q3⟩, q4, q5⟩ := h
  refine ⟨⟨?_, ?_, ?_⟩, fun j j0 j1 => ⟨?_, ?_⟩, fun j j0 j1 => ?_⟩
  · rw [up_i (by decide), up_i (by decide), up_i (by decide), up_i (by decide)]; exact q1
  · rw [up_i (by decide), up_i (by decide), up_i (by decide), up_i (by decide)]; exact q2
  · rw [up_i (by decide), up_i (by decide), up_i (by decide), up_i (by decide)]; exact q3
  · show up (up g 24 m v) 25 m w 24 j = up (up b 4 m v) 5 m w 4 j
    rw [up_i (show (24 : Int) ≠ 25 by decide), up_i (show (4 : Int) ≠ 5 by decide)]
    by_cases z : j = m
    · rw [z, up_s, up_s]
    · rw [up_j z, up_j z]; exact (q4 j j0 j1).1
  · show up (up g 24 m v) 25 m w 25 j = up (up b 4 m v) 5 m w 5 j
    by_cases z : j = m
    · rw [z, up_s, up_s]
    · rw [up_j z, up_j z, up_j z, up_j z]; exact (q4 j j0 j1).2
  · rw [up_i (by decide), up_i (by decide), up_i (by decide), up_i (by decide), up_i (by decide), up_i (by decide), up_i (by decide), up_i (by decide), up_i (by decide), up_i (by decide), up_i (by decide), up_i (by decide), up_i (by decide), up_i (by decide), up_i (by decide), up_i (by decide), up_i (by decide), up_i (by decide), up_i (by decide), up_i (by decide)]; exact q5 j j0 j1
theorem mbr_day (h : MBR 0 g b) : MBR 0 (up (up g 192 m v) 198 m w) (up (up b 4 m v) 5 m w) := by
  obtain ⟨⟨q1, q2, q3⟩, q4, q5⟩ := h
  refine ⟨⟨?_, ?_, ?_⟩, fun j j0 j1 => ⟨?_, ?_⟩, fun j j0 j1 => ?_⟩
  · rw [up_i (by decide), up_i (by decide), up_i (by decide), up_i (by decide)]; exact q1
  · rw [up_i (by decide), up_i (by decide), up_i (by decide), up_i (by decide)]; exact q2
  · rw [up_i (by decide), up_i (by decide), up_i (by decide), up_i (by decide)]; exact q3
  · have q := (q4 j j0 j1).1
    rw [show (40 : Int) * 0 + j = j by omega] at q ⊢
    rw [up_i (show (192 : Int) ≠ 198 by decide), up_i (show (4 : Int) ≠ 5 by decide)]
    by_cases z : j = m
    · rw [z, up_s, up_s]
    · rw [up_j z, up_j z]; exact q
  · have q := (q4 j j0 j1).2
    rw [show (40 : Int) * 0 + j = j by omega] at q ⊢
    by_cases z : j = m
    · rw [z, up_s, up_s]
    · rw [up_j z, up_j z, up_j z, up_j z]; exact q
  · rw [up_i (by decide), up_i (by decide), up_i (by decide), up_i (by decide), up_i (by decide), up_i (by decide), up_i (by decide), up_i (by decide), up_i (by decide), up_i (by decide), up_i (by decide), up_i (by decide), up_i (by decide), up_i (by decide), up_i (by decide), up_i (by decide), up_i (by decide), up_i (by decide), up_i (by decide), up_i (by decide)]; exact q5 j j0 j1
theorem hb_day (h : HB b) (v0 : 0 ≤ v) (v9 : v ≤ 99999) (hw : w = 0 ∨ w = 1) : HB (up (up b 4 m v) 5 m w) := by
  obtain ⟨h1, h2, h3⟩ := h
  refine ⟨by rw [up_i (by decide), up_i (by decide)]; exact h1, fun j j0 j1 => ?_, fun k k0 k1 => by rw [up_i (by decide), up_i (by decide), up_i (by decide), up_i (by decide)]; exact h3 k k0 k1⟩
  have q := h2 j j0 j1
  rw [up_i (show (4 : Int) ≠ 5 by decide)]
  by_cases z : j = m
  · rw [z, up_s, up_s]; exact ⟨⟨v0, v9⟩, hw⟩
  · rw [up_j z, up_j z, up_i (by decide)]; exact q
theorem f_80 (hr : RI r) (h3 : l3 = 0 ∨ l3 = 1) (h1 : DV l1 l2 → Q 1 (up (up g 24 l1 l2) 25 l1 l3) r) (h0 : ¬ DV l1 l2 → Q 0 (up g 65 0 (wr (g 65 0 + 1))) r) : Ce sc (d + 4) 80 [(2, 0), (0, l1), (0, l2), (0, l3)] g r Q := by
  have k0 : okr 218 0 8 := okd (by decide +kernel)
  have k23 : okr 218 23 0 := okd (by decide +kernel)
  refine c_80 (w_127 (fun a b => ?_) (fun q => ?_))
  · rw [if_neg (by decide)]
    refine w_124 (fun c e => ?_) (fun q => ?_)
    · rw [if_neg (by decide), r_0_4 hr, r_23_4 hr, r_23_5 hr]
      refine ⟨k0, k23, i_24.mpr ⟨a, by omega⟩, fun g3 e3 => ⟨k0, k23, ite_c (fun z => ⟨i_25.mpr ⟨a, by omega⟩, fun g4 e4 => ⟨Or.inr rfl, ?_⟩⟩) (fun z => ⟨i_25.mpr ⟨a, by omega⟩, fun g4 e4 => ⟨Or.inr rfl, ?_⟩⟩)⟩⟩
      · rw [e4, e3]
        have := h1 ⟨a, b, c, e⟩
        rw [z] at this
        exact this
      · rw [e4, e3]
        have := h1 ⟨a, b, c, e⟩
        rw [h3.resolve_left z] at this
        exact this
    · rw [if_pos rfl]
      exact ⟨k0, w_134 hr (by decide) (by decide) ⟨Or.inl rfl, h0 (fun z => q ⟨z.2.2.1, z.2.2.2⟩)⟩⟩
  · rw [if_pos rfl]
    exact ⟨k0, w_134 hr (by decide) (by decide) ⟨Or.inl rfl, h0 (fun z => q ⟨z.1, z.2.1⟩)⟩⟩
theorem f_193 (hr : RI r) (h3 : l3 = 0 ∨ l3 = 1) (h1 : DV l1 l2 → Q 1 (up (up g 192 l1 l2) 198 l1 l3) r) (h0 : ¬ DV l1 l2 → Q 0 (up g 166 0 (wr (g 166 0 + 1))) r) : Ce sc (d + 2) 193 [(2, 165), (0, l1), (0, l2), (0, l3)] g r Q := by
  have k9 : okr 218 165 9 := okd (by decide +kernel)
  refine c_193 (w_137 (fun a b => ?_) (fun q => ?_))
  · rw [if_neg (by decide)]
    refine w_178 (fun c e => ?_) (fun q => ?_)
    · rw [if_neg (by decide), r_165_37 hr, r_165_43 hr]
      refine ⟨k9, i_192.mpr ⟨a, by omega⟩, fun g3 e3 => ⟨k9, Or.inr ⟨i_198.mpr ⟨a, by omega⟩, h3⟩, fun g4 e4 => ⟨Or.inr rfl, ?_⟩⟩⟩
      rw [e4, e3]; exact h1 ⟨a, b, c, e⟩
    · rw [if_pos rfl]
      exact ⟨k9, w_139 hr ⟨Or.inl rfl, h0 (fun z => q ⟨z.2.2.1, z.2.2.2⟩)⟩⟩
  · rw [if_pos rfl]
    exact ⟨k9, w_139 hr ⟨Or.inl rfl, h0 (fun z => q ⟨z.1, z.2.1⟩)⟩⟩
theorem z6_65 {j v : Int} : Z6 g (up g 65 j v) := up_z6 (by unfold CZV; omega) (by unfold MZV; omega)
theorem z6_166 {j v : Int} : Z6 g (up g 166 j v) := up_z6 (by unfold CZV; omega) (by unfold MZV; omega)
theorem uu_80 (hJ : J6 g r) {A1 A2 A3 : Int} (h3 : A3 = 0 ∨ A3 = 1) (D : Nat) : Ce sc (D + 4) 80 [(2, 0), (0, A1), (0, A2), (0, A3)] g r (fun v1 g1 r1 => Ce sc (D + 4) 193 [(2, 165), (0, A1), (0, A2), (0, A3)] g1 r1 fun v2 g2 r2 => v1 = v2 ∧ J6 g2 r2) := by
  have hr := hJ.1.1.1.1.1.1
  refine pu (C := fun v1 g1 r1 => r1 = r ∧ ((DV A1 A2 ∧ v1 = 1 ∧ g1 = up (up g 24 A1 A2) 25 A1 A3) ∨ (¬ DV A1 A2 ∧ v1 = 0 ∧ Z6 g g1))) hJ (u_80 hr (fun v g' e => ⟨rfl, e⟩)) (f_80 hr h3 (fun q => ⟨rfl, Or.inl ⟨q, rfl, rfl⟩⟩) (fun q => ⟨rfl, Or.inr ⟨q, rfl, z6_65⟩⟩)) (fun g1 mi => s_193 (d := D + 2) hr mi h3 (fun v g' _ e => ⟨rfl, e⟩)) (fun v1 g1 mi hi1 hC => ?_)
  obtain ⟨_, hC⟩ := hC
  rcases hC with ⟨q, ev, eg⟩ | ⟨q, ev, z⟩
  · refine f_193 (d := D + 2) hr h3 (fun _ j5 => ⟨ev, ?_⟩) (fun y => absurd q y)
    obtain ⟨b, hb, c, m, z⟩ := hJ.2.1
    refine ⟨j5, ⟨up (up b 4 A1 A2) 5 A1 A3, hb_day hb q.2.2.1 q.2.2.2 h3, ?_, ?_, ?_⟩, ?_, fun j j0 j1 => ?_⟩
    · have c1 := cbr_day (m := A1) (v := A2) (w := A3) c
      rw [← eg] at c1
      exact c1.o (fun i j i0 i1 => by rw [up_i (by omega), up_i (by omega)])
    · have m1 : MBR 0 g1 b := m.fr (fun i j hi => hi1 i j (by omega))
      exact mbr_day m1
    · rw [up_i (by decide), up_i (by decide), up_i (by decide), up_i (by decide), hi1 165 49 (by decide), eg, up_i (by decide), up_i (by decide)]; exact z
    · refine hJ.2.2.1.i hJ.n3.2 ?_ (fun i j i0 i1 => ?_) (fun i j h => ?_)
      · rw [up_i (by decide), up_i (by decide)]; exact hi1 165 48 (by decide)
      · rw [up_i (by omega), up_i (by omega), eg, up_i (by omega), up_i (by omega)]
      · have qa := q.2.1
        rw [up_o (by omega), up_o (by omega)]; exact hi1 i j (by omega)
    · rw [up_i (by decide), up_i (by decide), eg, up_i (by decide), up_i (by decide)]; exact hJ.2.2.2 j j0 j1
  · refine f_193 (d := D + 2) hr h3 (fun y => absurd y q) (fun _ j5 => ⟨ev, hJ.z j5 (z.tr z6_166)⟩)
/-- z is told -/
theorem f_84 (hr : RI r) (h1 : SV l1 → Q 1 (up g 23 3 l1) r) (h0 : ¬ SV l1 → Q 0 (up g 65 0 (wr (g 65 0 + 1))) r) : Ce sc (d + 4) 84 [(2, 0), (0, l1)] g r Q := by
  have k0 : okr 218 0 8 := okd (by decide +kernel)
  have k23 : okr 218 23 0 := okd (by decide +kernel)
  refine c_84 (w_123 (fun a b => ?_) (fun q => ?_))
  · rw [if_neg (by decide), r_0_4 hr]
    exact ⟨k0, k23, fun g2 e2 => ⟨Or.inr rfl, by rw [e2]; exact h1 ⟨a, b⟩⟩⟩
  · rw [if_pos rfl]
    exact ⟨k0, w_134 hr (by decide) (by decide) ⟨Or.inl rfl, h0 q⟩⟩
theorem f_196 (hr : RI r) (h1 : SV l1 → Q 1 (up g 165 49 l1) r) (h0 : ¬ SV l1 → Q 0 (up g 166 0 (wr (g 166 0 + 1))) r) : Ce sc (d + 2) 196 [(2, 165), (0, l1)] g r Q := by
  have k9 : okr 218 165 9 := okd (by decide +kernel)
  refine c_196 (w_137 (fun a b => ?_) (fun q => ?_))
  · rw [if_neg (by decide)]
    exact ⟨k9, fun g2 e2 => ⟨Or.inr rfl, by rw [e2]; exact h1 ⟨a, b⟩⟩⟩
  · rw [if_pos rfl]
    exact ⟨k9, w_139 hr ⟨Or.inl rfl, h0 q⟩⟩
theorem uu_84 (hJ : J6 g r) {A1 : Int} (D : Nat) : Ce sc (D + 4) 84 [(2, 0), (0, A1)] g r (fun v1 g1 r1 => Ce sc (D + 4) 196 [(2, 165), (0, A1)] g1 r1 fun v2 g2 r2 => v1 = v2 ∧ J6 g2 r2) := by
  have hr := hJ.1.1.1.1.1.1
  refine pu (C := fun v1 g1 r1 => r1 = r ∧ ((SV A1 ∧ v1 = 1 ∧ g1 = up g 23 3 A1) ∨ (¬ SV A1 ∧ v1 = 0 ∧ Z6 g g1))) hJ (u_84 hr (fun v g' e => ⟨rfl, e⟩)) (f_84 hr (fun q => ⟨rfl, Or.inl ⟨q, rfl, rfl⟩⟩) (fun q => ⟨rfl, Or.inr ⟨q, rfl, z6_65⟩⟩)) (fun g1 mi => s_196 (d := D + 2) hr mi (fun v g' _ e => ⟨rfl, e⟩)) (fun v1 g1 mi hi1 hC => ?_)
  obtain ⟨_, hC⟩ := hC
  rcases hC with ⟨q, ev, eg⟩ | ⟨q, ev, z⟩
  · refine f_196 (d := D + 2) hr (fun _ j5 => ⟨ev, ?_⟩) (fun y => absurd q y)
    obtain ⟨b, hb, c, m, z⟩ := hJ.2.1
    refine ⟨j5, ⟨b, hb, ?_, ?_, ?_⟩, ?_, fun j j0 j1 => ?_⟩
    · obtain ⟨⟨q1, q2, q3⟩, q4, q5⟩ := c
      have o : ∀ i j, i < 165 → ¬ (i = 23 ∧ j = 3) → up g1 165 49 A1 i j = g i j := fun i j h k => by rw [up_i (by omega), eg, up_o k]
      refine ⟨⟨?_, ?_, ?_⟩, fun j j0 j1 => ?_, fun j j0 j1 => ?_⟩
      · rw [o 23 0 (by decide) (by omega)]; exact q1
      · rw [o 23 1 (by decide) (by omega)]; exact q2
      · rw [o 23 2 (by decide) (by omega)]; exact q3
      · rw [o _ j (by decide) (by omega), o _ j (by decide) (by omega)]; exact q4 j j0 j1
      · rw [o _ j (by decide) (by omega), o _ j (by decide) (by omega), o _ j (by decide) (by omega), o _ j (by decide) (by omega), o _ j (by decide) (by omega)]; exact q5 j j0 j1
    · exact m.fr (fun i j hi => by rw [up_i (by omega)]; exact hi1 i j (by omega))
    · rw [up_i (by decide), up_s, eg, up_s]
    · refine hJ.2.2.1.i hJ.n3.2 ?_ (fun i j i0 i1 => ?_) (fun i j h => ?_)
      · rw [up_j (by decide)]; exact hi1 165 48 (by decide)
      · rw [up_i (by omega), eg, up_i (by omega)]
      · rw [up_i (by omega)]; exact hi1 i j (by omega)
    · rw [up_i (by decide), eg, up_i (by decide)]; exact hJ.2.2.2 j j0 j1
  · exact f_196 (d := D + 2) hr (fun y => absurd y q) (fun _ j5 => ⟨ev, hJ.z j5 (z.tr z6_166)⟩)
/-- a day's flow drawn -/
def znE (z : Int) : Int := wL ((wL (z * 6364136223846793005)) + 1442695040888963407)
def tiE (z : Int) : Int := if (l_ushr z 33).tmod 100 < 5 then 10 else if (l_ushr z 33).tmod 100 < 15 then 3 else 1
def drE (f z : Int) : Int := if 99999 < f * tiE z then 99999 else f * tiE z
theorem ti_b (z : Int) : tiE z = 10 ∨ tiE z = 3 ∨ tiE z = 1 := by
  unfold tiE
  split
  · exact Or.inl rfl
  · split
    · exact Or.inr (Or.inl rfl)
    · exact Or.inr (Or.inr rfl)
theorem dr_b {f z : Int} (f0 : 0 ≤ f) (f9 : f ≤ 99999) : (0 ≤ drE f z ∧ drE f z ≤ 99999) ∧ wr (f * tiE z) = f * tiE z := by
  have t := ti_b z
  have e : 0 ≤ f * tiE z ∧ f * tiE z ≤ 999990 := by rcases t with t | t | t <;> rw [t] <;> omega
  refine ⟨?_, wr_id ⟨by omega, by omega⟩⟩
  unfold drE
  split <;> omega
theorem f_3 (hq : Q (tiE (znE (g 23 3))) (up g 23 3 (znE (g 23 3))) r) : Ce sc (d + 1) 3 [(2, 23)] g r Q := by
  have k23 : okr 218 23 0 := okd (by decide +kernel)
  refine c_3 ⟨k23, k23, fun g1 e1 => ⟨k23, by decide, ?_⟩⟩
  have v : g1 23 3 = znE (g 23 3) := by rw [e1, up_s]; rfl
  have eg : g1 = up g 23 3 (znE (g 23 3)) := e1
  rw [v]
  unfold tiE at hq
  rw [← eg] at hq
  refine ite_c (fun z => ?_) (fun z => ite_c (fun y => ?_) (fun y => ?_))
  · rw [if_pos (cmp_lt.mp z)] at hq; exact hq
  · rw [if_neg (fun s => z (cmp_lt.mpr s)), if_pos (cmp_lt.mp y)] at hq; exact hq
  · rw [if_neg (fun s => z (cmp_lt.mpr s)), if_neg (fun s => y (cmp_lt.mpr s))] at hq; exact hq
theorem f_83 (hr : RI r) (hf : ∀ j, 0 ≤ j → j < 40 → 0 ≤ g 24 j ∧ g 24 j ≤ 99999) (h1 : 0 ≤ l1 ∧ l1 ≤ 39 → Q (drE (g 24 l1) (znE (g 23 3))) (up (up g 23 3 (znE (g 23 3))) 24 l1 (drE (g 24 l1) (znE (g 23 3)))) r) (h0 : ¬ (0 ≤ l1 ∧ l1 ≤ 39) → Q (-1) (up g 65 0 (wr (g 65 0 + 1))) r) : Ce sc (d + 3) 83 [(2, 0), (0, l1)] g r Q := by
  have k0 : okr 218 0 8 := okd (by decide +kernel)
  have k23 : okr 218 23 0 := okd (by decide +kernel)
  refine c_83 (w_127 (fun a c => ?_) (fun q => ?_))
  · rw [if_neg (by decide), r_0_4 hr, r_23_4 hr]
    have hq := h1 ⟨a, c⟩
    have f := hf l1 a (by omega)
    have D := dr_b (z := znE (g 23 3)) f.1 f.2
    have i24 := i_24.mpr (⟨a, by omega⟩ : 0 ≤ l1 ∧ l1 < 40)
    refine ⟨k0, k23, k0, k23, i24, k0, k23, f_3 ?_⟩
    have fin : ∀ v, v = drE (g 24 l1) (znE (g 23 3)) → okI 218 24 11 l1 ∧ ∀ g4, g4 = up (up g 23 3 (znE (g 23 3))) 24 l1 v → okr 218 0 8 ∧ okr 218 (r 0 4) 0 ∧ okI 218 (r (r 0 4) 4) 11 l1 ∧ Q (g4 (r (r 0 4) 4) l1) g4 r := fun v ev => ⟨i24, fun g4 e4 => by
      rw [r_0_4 hr, r_23_4 hr]
      have v4 : g4 24 l1 = drE (g 24 l1) (znE (g 23 3)) := by rw [e4, up_s, ev]
      rw [v4, e4, ev]
      exact ⟨k0, k23, i24, hq⟩⟩
    rw [D.2]
    refine w_250 (fun z => fin _ ?_) (fun z => fin _ ?_)
    · unfold drE
      by_cases y : 99999 < g 24 l1 * tiE (znE (g 23 3))
      · rw [if_pos y]
      · rw [if_neg y]; omega
    · unfold drE
      rw [if_neg (by omega)]
  · rw [if_pos rfl]
    exact ⟨k0, w_133 hr (by decide) (by decide) (h0 q)⟩
theorem f_195 (hr : RI r) (hf : ∀ j, 0 ≤ j → j < 40 → 0 ≤ g 192 j ∧ g 192 j ≤ 99999) (h1 : 0 ≤ l1 ∧ l1 ≤ 39 → Q (drE (g 192 l1) (znE (g 165 49))) (up (up g 165 49 (znE (g 165 49))) 192 l1 (drE (g 192 l1) (znE (g 165 49)))) r) (h0 : ¬ (0 ≤ l1 ∧ l1 ≤ 39) → Q (-1) (up g 166 0 (wr (g 166 0 + 1))) r) : Ce sc (d + 2) 195 [(2, 165), (0, l1)] g r Q := by
  have k9 : okr 218 165 9 := okd (by decide +kernel)
  refine c_195 (w_137 (fun a c => ?_) (fun q => ?_))
  · rw [if_neg (by decide)]
    have hq := h1 ⟨a, c⟩
    have f := hf l1 a (by omega)
    have D := dr_b (z := znE (g 165 49)) f.1 f.2
    have i92 := i_192.mpr (⟨a, by omega⟩ : 0 ≤ l1 ∧ l1 < 200)
    refine ⟨k9, k9, fun g2 e2 => ⟨k9, by decide, k9, ?_⟩⟩
    have eg : g2 = up g 165 49 (znE (g 165 49)) := e2
    have v : g2 165 49 = znE (g 165 49) := by rw [eg, up_s]
    have fl : g2 192 l1 = g 192 l1 := by rw [eg, up_i (by decide)]
    have tw : wr ((l_ushr (znE (g 165 49)) 33).tmod 100) = (l_ushr (znE (g 165 49)) 33).tmod 100 := by
      have x := Int.tmod_lt_of_pos (l_ushr (znE (g 165 49)) 33) (b := 100) (by decide)
      have y := Int.lt_tmod_of_pos (l_ushr (znE (g 165 49)) 33) (b := 100) (by decide)
      exact wr_id ⟨by omega, by omega⟩
    rw [r_165_37 hr, v, fl, tw]
    have fin : ∀ t, t = tiE (znE (g 165 49)) → WQ sc (d + 1) 195 Q 74 [(2, 165), (0, l1), (9, 0), (9, 0)] [(0, t), (0, g 192 l1)] g2 r := fun t et => by
      refine b_195_74 ⟨k9, ?_⟩
      rw [et, D.2, r_165_37 hr]
      have last : ∀ v, v = drE (g 192 l1) (znE (g 165 49)) → okI 218 192 11 l1 ∧ ∀ g4, g4 = up g2 192 l1 v → okr 218 165 9 ∧ okI 218 192 11 l1 ∧ Q (g4 192 l1) g4 r := fun v ev => ⟨i92, fun g4 e4 => by
        have v4 : g4 192 l1 = drE (g 192 l1) (znE (g 165 49)) := by rw [e4, up_s, ev]
        rw [v4, e4, ev, eg]
        exact ⟨k9, i92, hq⟩⟩
      refine ite_c (fun y => last _ ?_) (fun y => last _ ?_)
      · unfold drE
        rw [if_pos y]
      · unfold drE
        rw [if_neg y]
    refine ⟨i92, ite_c (fun z => fin _ ?_) (fun z => ite_c (fun y => fin _ ?_) (fun y => fin _ ?_))⟩
    · unfold tiE
      rw [if_pos z]
    · unfold tiE
      rw [if_neg z, if_pos y]
    · unfold tiE
      rw [if_neg z, if_neg y]
  · rw [if_pos rfl]
    exact ⟨k9, w_138 hr (by decide) (by decide) (h0 q)⟩
theorem uu_83 (hJ : J6 g r) {A1 : Int} (D : Nat) : Ce sc (D + 3) 83 [(2, 0), (0, A1)] g r (fun v1 g1 r1 => Ce sc (D + 3) 195 [(2, 165), (0, A1)] g1 r1 fun v2 g2 r2 => v1 = v2 ∧ J6 g2 r2) := by
  have hr := hJ.1.1.1.1.1.1
  obtain ⟨b, hb, c, m, z⟩ := hJ.2.1
  have hf : ∀ j, 0 ≤ j → j < 40 → g 24 j = b 4 j := fun j j0 j1 => (c.2.1 j j0 j1).1
  have hm : ∀ j, 0 ≤ j → j < 40 → g 192 j = b 4 j := fun j j0 j1 => by
    have := (m.2.1 j j0 j1).1
    rw [show 40 * 0 + j = j by omega] at this
    exact this
  refine pu (C := fun v1 g1 r1 => r1 = r ∧ (((0 ≤ A1 ∧ A1 ≤ 39) ∧ v1 = drE (g 24 A1) (znE (g 23 3)) ∧ g1 = up (up g 23 3 (znE (g 23 3))) 24 A1 (drE (g 24 A1) (znE (g 23 3)))) ∨ (¬ (0 ≤ A1 ∧ A1 ≤ 39) ∧ v1 = -1 ∧ Z6 g g1))) hJ (u_83 hr (fun v g' e => ⟨rfl, e⟩)) (f_83 hr (fun j j0 j1 => by rw [hf j j0 j1]; exact (hb.2.1 j j0 j1).1) (fun q => ⟨rfl, Or.inl ⟨q, rfl, rfl⟩⟩) (fun q => ⟨rfl, Or.inr ⟨q, rfl, z6_65⟩⟩)) (fun g1 mi => s_195 (d := D + 1) hr mi (fun v g' e => ⟨rfl, e⟩)) (fun v1 g1 mi hi1 hC => ?_)
  obtain ⟨_, hC⟩ := hC
  have hm1 : ∀ j, 0 ≤ j → j < 40 → g1 192 j = b 4 j := fun j j0 j1 => (hi1 192 j (by decide)).trans (hm j j0 j1)
  have z1 : g1 165 49 = g 23 3 := (hi1 165 49 (by decide)).trans z.symm
  rcases hC with ⟨q, ev, eg⟩ | ⟨q, ev, zz⟩
  · have fa := hf A1 q.1 (by omega)
    have ma := hm1 A1 q.1 (by omega)
    have hd := hb.2.1 A1 q.1 (by omega)
    have db := (dr_b (z := znE (g 23 3)) hd.1.1 hd.1.2).1
    refine f_195 (d := D + 1) hr (fun j j0 j1 => by rw [hm1 j j0 j1]; exact (hb.2.1 j j0 j1).1) (fun _ j5 => ⟨?_, ?_⟩) (fun y => absurd q y)
    · rw [ev, fa, ma, z1]
    · rw [ma, z1] at j5 ⊢
      rw [fa] at eg
      have eb : up (up b 4 A1 (drE (b 4 A1) (znE (g 23 3)))) 5 A1 (b 5 A1) = up b 4 A1 (drE (b 4 A1) (znE (g 23 3))) := up_id (up_i (by decide))
      refine ⟨j5, ⟨up (up b 4 A1 (drE (b 4 A1) (znE (g 23 3)))) 5 A1 (b 5 A1), hb_day hb db.1 db.2 hd.2, ?_, ?_, ?_⟩, ?_, fun j j0 j1 => ?_⟩
      · have c1 := cbr_day (m := A1) (v := drE (b 4 A1) (znE (g 23 3))) (w := b 5 A1) c
        obtain ⟨⟨q1, q2, q3⟩, q4, q5⟩ := c1
        have c5 : g 25 A1 = b 5 A1 := (c.2.1 A1 q.1 (by omega)).2
        have o : ∀ i j, i < 165 → ¬ (i = 23 ∧ j = 3) → up (up g1 165 49 (znE (g 23 3))) 192 A1 (drE (b 4 A1) (znE (g 23 3))) i j = up (up g 24 A1 (drE (b 4 A1) (znE (g 23 3)))) 25 A1 (b 5 A1) i j := fun i j h k => by
          have e25 : up (up g 24 A1 (drE (b 4 A1) (znE (g 23 3)))) 25 A1 (b 5 A1) = up g 24 A1 (drE (b 4 A1) (znE (g 23 3))) := up_id (by rw [up_i (by decide)]; exact c5)
          rw [up_i (by omega), up_i (by omega), eg, e25]
          by_cases y : i = 24 ∧ j = A1
          · rw [y.1, y.2, up_s, up_s]
          · rw [up_o y, up_o y, up_o k]
        refine ⟨⟨?_, ?_, ?_⟩, fun j j0 j1 => ?_, fun j j0 j1 => ?_⟩
        · rw [o 23 0 (by decide) (by omega)]; exact q1
        · rw [o 23 1 (by decide) (by omega)]; exact q2
        · rw [o 23 2 (by decide) (by omega)]; exact q3
        · rw [o _ j (by decide) (by omega), o _ j (by decide) (by omega)]; exact q4 j j0 j1
        · rw [o _ j (by decide) (by omega), o _ j (by decide) (by omega), o _ j (by decide) (by omega), o _ j (by decide) (by omega), o _ j (by decide) (by omega)]; exact q5 j j0 j1
      · have m1 : MBR 0 (up g1 165 49 (znE (g 23 3))) b := m.fr (fun i j hi => by rw [up_i (by omega)]; exact hi1 i j (by omega))
        have m2 := mbr_day (m := A1) (v := drE (b 4 A1) (znE (g 23 3))) (w := b 5 A1) m1
        have e98 : up (up (up g1 165 49 (znE (g 23 3))) 192 A1 (drE (b 4 A1) (znE (g 23 3)))) 198 A1 (b 5 A1) = up (up g1 165 49 (znE (g 23 3))) 192 A1 (drE (b 4 A1) (znE (g 23 3))) := up_id (by
          rw [up_i (by decide)]
          have := (m1.2.1 A1 q.1 (by omega)).2
          rw [show 40 * 0 + A1 = A1 by omega] at this
          exact this)
        rw [e98] at m2
        exact m2
      · rw [up_i (by decide), up_i (by decide), up_i (by decide), up_s, eg, up_i (by decide), up_s]
      · refine hJ.2.2.1.i hJ.n3.2 ?_ (fun i j i0 i1 => ?_) (fun i j h => ?_)
        · rw [up_i (by decide), up_j (by decide)]; exact hi1 165 48 (by decide)
        · rw [up_i (by omega), up_i (by omega), eg, up_i (by omega), up_i (by omega)]
        · have qa := q.2
          rw [up_o (by omega), up_i (by omega)]; exact hi1 i j (by omega)
      · rw [up_i (by decide), up_i (by decide), eg, up_i (by decide), up_i (by decide)]; exact hJ.2.2.2 j j0 j1
  · exact f_195 (d := D + 1) hr (fun j j0 j1 => by rw [hm1 j j0 j1]; exact (hb.2.1 j j0 j1).1) (fun y => absurd y q) (fun _ j5 => ⟨ev, hJ.z j5 (zz.tr z6_166)⟩)
end TL6
