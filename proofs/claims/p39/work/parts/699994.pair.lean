/-! the calls that the law keeps, both sides together, over J3 -/
section PR3
variable {sc : SCR} {d : Nat} {Q : QJ} {g r : GH} {l0 l1 l2 l3 l4 l5 : Int}
theorem CE3.mi {g g' : GH} (h : CE3 g g') (hi : MI g) : MI g' := hi.hi (fun i j z => h.2 i j z)
theorem ap20_ce {t a b c e f : Int} : CE3 g (ap20 g t a b c e f) := by
  have o : ∀ i j, i ≠ 1 → i ≠ 2 → ap20 g t a b c e f i j = g i j := fun i j x y => by
    unfold ap20
    rw [ap4_o x y, ap4_o x y, ap4_o x y, ap4_o x y, ap4_o x y]
  exact ⟨fun i j z => o i j (by unfold KPV at z; omega) (by unfold KPV at z; omega), fun i j z => o i j (by omega) (by omega)⟩
theorem ke_66 (hr : RI r) (hc : 0 ≤ g 1 1 ∧ g 1 1 ≤ 700) : Ce sc (d + 2) 66 [(2, 0), (0, l1), (0, l2), (0, l3), (0, l4), (0, l5)] g r (KC g r) := w_66 hr rfl hc.1 hc.2 (fun _ => ⟨rfl, ap20_ce⟩) (fun _ => ⟨rfl, CE3.rf g⟩)
theorem ke_142 (hr : RI r) (hi : MI g) : Ce sc (d + 1) 142 [(2, 165), (0, l1), (0, l2), (0, l3), (0, l4), (0, l5)] g r (KR g r) := fq_142 hr hi.1.1 (fun _ g2 _ y => ⟨rfl, fun i j z => y i j (by unfold KPV at z; omega) (by unfold KPV at z; omega)⟩) (fun _ => ⟨rfl, KE.rf g⟩)
theorem qq_66 (hJ : J3 g r) {A1 A2 A3 A4 A5 : Int} (D : Nat) : Ce sc (D + 2) 66 [(2, 0), (0, A1), (0, A2), (0, A3), (0, A4), (0, A5)] g r (fun v1 g1 r1 => Ce sc (D + 2) 142 [(2, 165), (0, A1), (0, A2), (0, A3), (0, A4), (0, A5)] g1 r1 fun v2 g2 r2 => v1 = v2 ∧ J3 g2 r2) := by
  have hj := hJ.1.1
  refine Ce_mono (Ce_and (pp_66 hJ.1 D) (ke_66 hj.1 hj.2.1.1)) (fun v1 g1 r1 w => ?_)
  obtain ⟨hce, rfl, e1⟩ := w
  refine Ce_mono (Ce_and hce (ke_142 (d := D + 1) hj.1 (e1.mi hj.2.2.2.1))) (fun v2 g2 r2 u => ?_)
  obtain ⟨⟨ev, j⟩, e2, k⟩ := u
  subst e2
  exact ⟨ev, j, hJ.2.ke hj.1 (e1.1.tr k)⟩
theorem qq_104 (hJ : J3 g r) {A1 : Int} (D : Nat) : Ce sc (D + 4) 104 [(2, 0), (0, A1)] g r (fun v1 g1 r1 => Ce sc (D + 4) 228 [(2, 165), (0, A1)] g1 r1 fun v2 g2 r2 => v1 = v2 ∧ J3 g2 r2) := by
  have hj := hJ.1.1
  refine Ce_mono (Ce_and (pp_104 hJ.1 D) (ke_104 hj.1 hj.2.1.2.2.2.1.1)) (fun v1 g1 r1 w => ?_)
  obtain ⟨hce, rfl, e1⟩ := w
  refine Ce_mono (Ce_and hce (ke_228 (d := D + 2) hj.1 (e1.mi hj.2.2.2.1))) (fun v2 g2 r2 u => ?_)
  obtain ⟨⟨ev, j⟩, e2, k⟩ := u
  subst e2
  exact ⟨ev, j, hJ.2.ke hj.1 (e1.1.tr k)⟩
theorem qq_105 (hJ : J3 g r) (D : Nat) : Ce sc (D + 2) 105 [(2, 0)] g r (fun v1 g1 r1 => Ce sc (D + 2) 229 [(2, 165)] g1 r1 fun v2 g2 r2 => v1 = v2 ∧ J3 g2 r2) := by
  have hj := hJ.1.1
  refine Ce_mono (Ce_and (pp_105 hJ.1 D) (ke_105 hj.1 hj.2.1.2.2.2.1)) (fun v1 g1 r1 w => ?_)
  obtain ⟨hce, rfl, e1⟩ := w
  refine Ce_mono (Ce_and hce (ke_229 (d := D + 1) hj.1 (e1.mi hj.2.2.2.1))) (fun v2 g2 r2 u => ?_)
  obtain ⟨⟨ev, j⟩, e2, k⟩ := u
  subst e2
  exact ⟨ev, j, hJ.2.ke hj.1 (e1.1.tr k)⟩
theorem qq_111 (hJ : J3 g r) {A1 A2 : Int} (D : Nat) : Ce sc (D + 4) 111 [(2, 0), (0, A1), (0, A2)] g r (fun v1 g1 r1 => Ce sc (D + 4) 236 [(2, 165), (0, A1), (0, A2)] g1 r1 fun v2 g2 r2 => v1 = v2 ∧ J3 g2 r2) := by
  have hj := hJ.1.1
  refine Ce_mono (Ce_and (pp_111 hJ.1 D) (ke_111 hj.1 hj.2.1.2.2.2.2.1.1)) (fun v1 g1 r1 w => ?_)
  obtain ⟨hce, rfl, e1⟩ := w
  refine Ce_mono (Ce_and hce (ke_236 (d := D + 2) hj.1 (e1.mi hj.2.2.2.1))) (fun v2 g2 r2 u => ?_)
  obtain ⟨⟨ev, j⟩, e2, k⟩ := u
  subst e2
  exact ⟨ev, j, hJ.2.ke hj.1 (e1.1.tr k)⟩
theorem qq_117 (hJ : J3 g r) {A1 A2 : Int} (D : Nat) : Ce sc (D + 4) 117 [(2, 0), (0, A1), (0, A2)] g r (fun v1 g1 r1 => Ce sc (D + 4) 240 [(2, 165), (0, A1), (0, A2)] g1 r1 fun v2 g2 r2 => v1 = v2 ∧ J3 g2 r2) := by
  have hj := hJ.1.1
  refine Ce_mono (Ce_and (pp_117 hJ.1 D) (ke_117 hj.1 hj.2.1.2.2.2.2.2.1)) (fun v1 g1 r1 w => ?_)
  obtain ⟨hce, rfl, e1⟩ := w
  refine Ce_mono (Ce_and hce (ke_240 (d := D + 2) hj.1 (e1.mi hj.2.2.2.1))) (fun v2 g2 r2 u => ?_)
  obtain ⟨⟨ev, j⟩, e2, k⟩ := u
  subst e2
  exact ⟨ev, j, hJ.2.ke hj.1 (e1.1.tr k)⟩
theorem qq_120 (hJ : J3 g r) (D : Nat) : Ce sc (D + 4) 120 [(2, 0)] g r (fun _ g1 r1 => Ce sc (D + 4) 244 [(2, 165)] g1 r1 fun _ g2 r2 => J3 g2 r2) := by
  have hj := hJ.1.1
  refine Ce_mono (Ce_and (pp_120 hJ.1 D) (ke_120 hj.1 hj.2.1.2.1)) (fun v1 g1 r1 w => ?_)
  obtain ⟨hce, rfl, e1⟩ := w
  refine Ce_mono (Ce_and hce (ke_244 (d := D + 2) hj.1 (e1.mi hj.2.2.2.1))) (fun v2 g2 r2 u => ?_)
  obtain ⟨j, e2, k⟩ := u
  subst e2
  exact ⟨j, hJ.2.ke hj.1 (e1.1.tr k)⟩
theorem qq_68 (hJ : J3 g r) (D : Nat) : Ce sc (D + 1) 68 [(2, 0)] g r (fun v1 g1 r1 => Ce sc (D + 1) 160 [(2, 165)] g1 r1 fun v2 g2 r2 => v1 = v2 ∧ J3 g2 r2) := by
  have hr := hJ.1.1.1
  refine c_68 ⟨okd (by decide +kernel), ?_⟩
  rw [r_0_0 hr]
  exact ⟨okd (by decide +kernel), c_160 ⟨okd (by decide +kernel), hJ.1.2.2, hJ⟩⟩
/-- told here as told there -/
theorem td_tm (hJ : J3 g r) (m : Int) : TD g r m ↔ TM g m := by
  constructor
  · intro t
    exact ⟨t.1, t.2.1, fun z => t.2.2 ((hJ.2.1 m t.1 t.2.1).1.mpr z)⟩
  · intro t
    exact ⟨t.1, t.2.1, fun z => t.2.2 ((hJ.2.1 m t.1 t.2.1).1.mp z)⟩
/-- guilt -/
theorem up_eq51 {v : Int} {j : Int} : EQ g (up g 51 j v) := (EQ.rf g).up (nf_of (by decide +kernel))
theorem qq_98 (hJ : J3 g r) {A1 A2 : Int} (D : Nat) : Ce sc (D + 4) 98 [(2, 0), (0, A1), (0, A2)] g r (fun v1 g1 r1 => Ce sc (D + 4) 222 [(2, 165), (0, A1), (0, A2)] g1 r1 fun v2 g2 r2 => v1 = v2 ∧ J3 g2 r2) := by
  have hr := hJ.1.1.1
  have tt := td_tm hJ A1
  refine w_98 hr (fun y => ?_) (fun n g1 e1 => ?_)
  · have e51 : EQ g (up g 51 A1 A2) := up_eq51
    have tm1 : ∀ x, TM (up g 51 A1 A2) x ↔ TM g x := fun x => by
      unfold TM
      rw [up_i (by decide)]
    refine w_222 (d := D + 2) hr (fun _ => ⟨rfl, ?_, ?_, ?_, ?_, ?_⟩) (fun z => absurd ⟨(tm1 A1).mpr (tt.mp y.1), y.2⟩ z)
    · have j2 := hJ.1.eq e51
      have x : ∀ i j, i ≠ 181 → up (up g 51 A1 A2) 181 A1 A2 i j = up g 51 A1 A2 i j := fun i j q => up_i q
      obtain ⟨⟨h1, h2, h3, h4, h5⟩, h6⟩ := j2
      refine ⟨⟨h1, ?_, rns_eq h3 (fun i j hi => x i j (by have := rs_rng hi; omega)), ?_, ?_⟩, ?_⟩
      · unfold CI at h2 ⊢
        rw [x 1 1 (by decide), x 0 7 (by decide), x 52 2 (by decide), x 55 2 (by decide), x 58 2 (by decide), x 62 2 (by decide)]
        exact h2
      · have e0 : MX (up g 51 A1 A2) (up (up g 51 A1 A2) 181 A1 A2) := (MX.rf _).u (by omega) (by decide)
        exact mi_num h4 e0.1 e0.2 (mn_eq h4.1 (fun i j z => x i j (by omega)))
      · unfold R0 at h5 ⊢
        rw [x 1 1 (by decide), x 165 24 (by decide), x 55 2 (by decide), x 165 64 (by decide), x 58 2 (by decide), x 165 66 (by decide), x 62 2 (by decide), x 165 70 (by decide)]
        exact ⟨h5.1, h5.2.1, fun j j0 j1 => by rw [x 56 j (by decide), x 211 j (by decide)]; exact h5.2.2.1 j j0 j1, h5.2.2.2⟩
      · exact h6.fr ⟨fun p => x 2 p (by decide), fun p => x 189 p (by decide), x 1 1 (by decide), x 1 2 (by decide), x 165 25 (by decide)⟩
    · intro k k0 k6
      refine (hJ.2.1 k k0 k6).nv (fun i j z => ?_)
      have hM := hr.2.1 k k0 k6
      unfold NV at z
      unfold MO at hM
      rw [up_i (by omega), up_i (by omega)]
    · intro k k0 k6
      by_cases q : k = A1
      · rw [q, up_s, up_i (by decide), up_s]; exact ⟨rfl, y.2⟩
      · rw [up_i (by decide), up_j q, up_j q, up_i (by decide)]; exact hJ.2.2.1 k k0 k6
    · rw [up_i (by decide), up_i (by decide), up_i (by decide), up_i (by decide)]; exact hJ.2.2.2.1
    · intro j j0 j1
      rw [up_i (by decide), up_i (by decide)] at j1
      rw [up_i (by decide), up_i (by decide), up_i (by decide), up_i (by decide), up_i (by decide), up_i (by decide), up_i (by decide), up_i (by decide)]
      have o := hJ.2.2.2.2 j j0 j1
      refine ⟨o.1, o.2.1, o.2.2.1, o.2.2.2.1, ?_⟩
      rw [up_i (by decide), up_i (by decide)]
      exact o.2.2.2.2
  · have j1 := hJ.eq e1
    have tt1 := td_tm j1 A1
    have tm1 : TM g1 A1 ↔ TM g A1 := by
      unfold TM
      rw [e1 167 (f3_of (by decide)) A1]
    exact w_222 (d := D + 2) hr (fun z => absurd ⟨tt.mpr (tm1.mp z.1), z.2⟩ n) (fun _ g2 e2 => ⟨rfl, j1.me e2⟩)
/-- seen -/
theorem qq_99 (hJ : J3 g r) {A1 A2 : Int} (D : Nat) : Ce sc (D + 4) 99 [(2, 0), (0, A1), (0, A2)] g r (fun v1 g1 r1 => Ce sc (D + 4) 223 [(2, 165), (0, A1), (0, A2)] g1 r1 fun v2 g2 r2 => v1 = v2 ∧ J3 g2 r2) := by
  have hr := hJ.1.1.1
  have hci := hJ.1.1.2.1
  have hi := hJ.1.1.2.2.2.1
  have tt := td_tm hJ A1
  have cc := hJ.2.2.2.1
  have fr : Ce sc (D + 4) 99 [(2, 0), (0, A1), (0, A2)] g r (fun v1 g1 r1 => r1 = r ∧ (((TD g r A1 ∧ 0 ≤ A2 ∧ A2 ≤ 100) ∧ g 52 2 < 30 ∧ v1 = g 52 2 + 1 ∧ g1 = up (up (up g 53 (g 52 2) A1) 54 (g 52 2) A2) 52 2 (g 52 2 + 1)) ∨ (¬ ((TD g r A1 ∧ 0 ≤ A2 ∧ A2 ≤ 100) ∧ g 52 2 < 30) ∧ v1 = -1 ∧ EQF F3 g g1))) := w_99 hr hci.2.2.1.1 (fun y => ⟨rfl, Or.inl ⟨y.1, y.2, rfl, rfl⟩⟩) (fun n g' e => ⟨rfl, Or.inr ⟨n, rfl, e⟩⟩)
  refine Ce_mono (Ce_and (pp_99 hJ.1 D) fr) (fun v1 g1 r1 w => ?_)
  obtain ⟨hce, e0, w⟩ := w
  subst e0
  rcases w with ⟨y, lt, ev, e1⟩ | ⟨n, ev, e1⟩
  · have x : ∀ i j, i ≠ 52 → i ≠ 53 → i ≠ 54 → g1 i j = g i j := fun i j a b c => by rw [e1, up_i a, up_i c, up_i b]
    have m1 : MI g1 := hi.hi (fun i j z => x i j (by omega) (by omega) (by omega))
    have f61 : g1 165 61 = g 52 2 := (x 165 61 (by decide) (by decide) (by decide)).trans cc.symm
    have tm1 : TM g1 A1 ↔ TM g A1 := by
      unfold TM
      rw [x 167 A1 (by decide) (by decide) (by decide)]
    have fr2 : Ce sc (D + 4) 223 [(2, 165), (0, A1), (0, A2)] g1 r1 (fun v2 g2 r2 => r2 = r1 ∧ v2 = g1 165 61 + 1 ∧ g2 = up (up (up g1 209 (g1 165 61) A1) 210 (g1 165 61) A2) 165 61 (g1 165 61 + 1)) := w_223 (d := D + 2) hr m1 (fun _ => ⟨rfl, rfl, rfl⟩) (fun z => absurd ⟨⟨tm1.mpr (tt.mp y.1), y.2⟩, by omega⟩ z)
    refine Ce_mono (Ce_and hce fr2) (fun v2 g2 r2 u => ?_)
    obtain ⟨j, er, ev2, e2⟩ := u
    subst er
    have x2 : ∀ i j, i ≠ 209 → i ≠ 210 → ¬ (i = 165 ∧ j = 61) → g2 i j = g1 i j := fun i j a b c => by rw [e2, up_o c, up_i b, up_i a]
    refine ⟨by omega, j, fun k k0 k6 => ?_, fun k k0 k6 => ?_, ?_, fun q q0 q1 => ?_⟩
    · refine (hJ.2.1 k k0 k6).nv (fun i j z => ?_)
      have hM := hr.2.1 k k0 k6
      unfold NV at z
      unfold MO at hM
      rw [x2 i j (by omega) (by omega) (by omega)]
      exact x i j (by omega) (by omega) (by omega)
    · rw [x2 51 k (by decide) (by decide) (by omega), x2 181 k (by decide) (by decide) (by omega), x 51 k (by decide) (by decide) (by decide), x 181 k (by decide) (by decide) (by decide)]
      exact hJ.2.2.1 k k0 k6
    · rw [x2 52 2 (by decide) (by decide) (by decide), e2, up_s, f61, e1, up_s]
    · rw [x2 52 2 (by decide) (by decide) (by decide), e1, up_s] at q1
      rw [x2 53 q (by decide) (by decide) (by omega), x2 54 q (by decide) (by decide) (by omega)]
      have tm2 : ∀ k, TM g k → TM g2 k := fun k t => by
        unfold TM
        rw [x2 167 k (by decide) (by decide) (by omega), x 167 k (by decide) (by decide) (by decide)]
        exact t
      by_cases z : q = g 52 2
      · have e9 : g2 209 q = A1 := by rw [e2, f61, e1, z, up_i (by decide), up_i (by decide), up_s]
        rw [e9, ← and_assoc]
        refine ⟨?_, tm2 _ (tt.mp y.1)⟩
        rw [e2, f61, e1, z]
        refine ⟨?_, ?_⟩
        · rw [up_i (by decide), up_i (by decide), up_s]
        · rw [up_i (by decide), up_s, up_i (by decide), up_s]
      · have o := hJ.2.2.2.2 q q0 (by omega)
        have e9 : g2 209 q = g 209 q := by rw [e2, f61, up_i (by decide), up_i (by decide), up_j z, e1, up_i (by decide), up_i (by decide), up_i (by decide)]
        rw [e9, ← and_assoc]
        refine ⟨?_, tm2 _ o.2.2⟩
        rw [← e9]
        rw [e2, f61, e1]
        refine ⟨?_, ?_⟩
        · rw [up_i (by decide), up_i (by decide), up_j z, up_i (by decide), up_i (by decide), up_j z, up_i (by decide), up_i (by decide), up_i (by decide)]; exact o.1
        · rw [up_i (by decide), up_j z, up_i (by decide), up_i (by decide), up_j z, up_i (by decide), up_i (by decide), up_i (by decide), up_i (by decide)]; exact o.2.1
  · have j1 := hJ.eq e1
    have tm1 : TM g1 A1 ↔ TM g A1 := by
      unfold TM
      rw [e1 167 (f3_of (by decide)) A1]
    have f61 : g1 165 61 = g 52 2 := (e1 165 (f3_of (by decide)) 61).trans cc.symm
    have fr2 : Ce sc (D + 4) 223 [(2, 165), (0, A1), (0, A2)] g1 r1 (fun v2 g2 r2 => r2 = r1 ∧ v2 = -1 ∧ ME g1 g2) := w_223 (d := D + 2) hr j1.1.1.2.2.2.1 (fun z => absurd ⟨⟨tt.mpr (tm1.mp z.1.1), z.1.2⟩, by omega⟩ n) (fun _ g2 e2 => ⟨rfl, rfl, e2⟩)
    refine Ce_mono (Ce_and hce fr2) (fun v2 g2 r2 u => ?_)
    obtain ⟨j, er, ev2, e2⟩ := u
    subst er
    exact ⟨by rw [ev, ev2], j1.me e2⟩
end PR3
