/-! the other calls that the law keeps: both sides together, tape and fault untouched -/
section PRG
variable {sc : SCR} {d : Nat} {Q : QJ} {g r : GH} {l0 l1 l2 l3 l4 l5 : Int}
theorem RK.rt {g g' : GH} (k : RK g g') : RTF g g' := ⟨fun p => k.1 2 p (by omega), fun p => k.1 189 p (by omega), k.1 1 1 (by omega), k.1 1 2 (by omega), k.1 165 25 (by omega)⟩
theorem up_rt {g : GH} {i j v : Int} (h : i ≠ 2 ∧ i ≠ 189 ∧ ¬ (i = 1 ∧ (j = 1 ∨ j = 2)) ∧ ¬ (i = 165 ∧ j = 25)) : RTF g (up g i j v) := ⟨fun p => up_o (by omega), fun p => up_o (by omega), up_o (by omega), up_o (by omega), up_o (by omega)⟩
def FR1 (g r : GH) : QJ := fun _ g1 r1 => r1 = r ∧ MI g1 ∧ RTF g g1
theorem pp_99 (hJ : J2 g r) {A1 A2 : Int} (D : Nat) : Ce sc (D + 4) 99 [(2, 0), (0, A1), (0, A2)] g r (fun _ g1 r1 => Ce sc (D + 4) 223 [(2, 165), (0, A1), (0, A2)] g1 r1 fun _ g2 r2 => J2 g2 r2) := by
  obtain ⟨hr, hc, hn, hi, _⟩ := hJ.1
  have fr1 : Ce sc (D + 4) 99 [(2, 0), (0, A1), (0, A2)] g r (FR1 g r) := s_99 hr hc.2.2.1 (fun v g1 x1 _ => ⟨rfl, hi.hi (fun i j q => x1 i (Or.inl q) (by omega) j), x1.rt (by decide)⟩)
  refine Ce_mono (Ce_and (p_99 (Q := fun _ g r => J g r) hJ.1 D (fun _ _ j => j)) fr1) (fun v1 g1 r1 w => ?_)
  obtain ⟨hce, rfl, m1, f1⟩ := w
  have fr2 : Ce sc (D + 4) 223 [(2, 165), (0, A1), (0, A2)] g1 r1 (fun _ g2 _ => RTF g1 g2) := s_223 (d := D + 2) hr m1 (fun v g2 _ k => k.rt)
  exact Ce_mono (Ce_and hce fr2) (fun v2 g2 r2 u => ⟨u.1, hJ.2.fr (f1.tr u.2)⟩)
theorem pp_120 (hJ : J2 g r) (D : Nat) : Ce sc (D + 4) 120 [(2, 0)] g r (fun _ g1 r1 => Ce sc (D + 4) 244 [(2, 165)] g1 r1 fun _ g2 r2 => J2 g2 r2) := by
  obtain ⟨hr, hc, hn, hi, _⟩ := hJ.1
  have fr1 : Ce sc (D + 4) 120 [(2, 0)] g r (FR1 g r) := s_120 hr hc.2.1 (fun v g1 x1 _ => ⟨rfl, hi.hi (fun i j q => x1 i (Or.inl q) (by omega) j), x1.rt (by decide)⟩)
  refine Ce_mono (Ce_and (p_120 (Q := fun _ g r => J g r) hJ.1 D (fun _ _ j => j)) fr1) (fun v1 g1 r1 w => ?_)
  obtain ⟨hce, rfl, m1, f1⟩ := w
  have fr2 : Ce sc (D + 4) 244 [(2, 165)] g1 r1 (fun _ g2 _ => RTF g1 g2) := s_244 (d := D + 2) hr m1 (fun v g2 _ k => k.rt)
  exact Ce_mono (Ce_and hce fr2) (fun v2 g2 r2 u => ⟨u.1, hJ.2.fr (f1.tr u.2)⟩)
theorem pp_104 (hJ : J2 g r) {A1 : Int} (D : Nat) : Ce sc (D + 4) 104 [(2, 0), (0, A1)] g r (fun v1 g1 r1 => Ce sc (D + 4) 228 [(2, 165), (0, A1)] g1 r1 fun v2 g2 r2 => v1 = v2 ∧ J2 g2 r2) := by
  obtain ⟨hr, hc, hn, hi, _⟩ := hJ.1
  have fr1 : Ce sc (D + 4) 104 [(2, 0), (0, A1)] g r (FR1 g r) := s_104 hr hc.2.2.2.1 (fun q => ⟨rfl, hi.hi (fun i j z => by rw [up_i (by omega), up_i (by omega), up_i (by omega)]), ((up_rt (by omega)).tr (up_rt (by omega))).tr (up_rt (by omega))⟩) (fun q g1 e1 => ⟨rfl, (hJ.1.eq e1).2.2.2.1, e1.rt⟩)
  refine Ce_mono (Ce_and (p_104 (Q := fun _ g r => J g r) hJ.1 D (fun _ _ j => j)) fr1) (fun v1 g1 r1 w => ?_)
  obtain ⟨hce, rfl, m1, f1⟩ := w
  have fr2 : Ce sc (D + 4) 228 [(2, 165), (0, A1)] g1 r1 (fun _ g2 _ => RTF g1 g2) := s_228 (d := D + 2) hr m1 (fun _ _ => (up_rt (by omega)).tr (up_rt (by omega))) (fun _ g2 e2 => e2.rt)
  exact Ce_mono (Ce_and hce fr2) (fun v2 g2 r2 u => ⟨u.1.1, u.1.2, hJ.2.fr (f1.tr u.2)⟩)
theorem pp_105 (hJ : J2 g r) (D : Nat) : Ce sc (D + 2) 105 [(2, 0)] g r (fun v1 g1 r1 => Ce sc (D + 2) 229 [(2, 165)] g1 r1 fun v2 g2 r2 => v1 = v2 ∧ J2 g2 r2) := by
  obtain ⟨hr, hc, hn, hi, _⟩ := hJ.1
  have fr1 : Ce sc (D + 2) 105 [(2, 0)] g r (FR1 g r) := w_105 hr hc.2.2.2.1 (fun q => ⟨rfl, hi.hi (fun i j z => up_i (by omega)), up_rt (by decide)⟩) (fun q => ⟨rfl, hi, RTF.rf g⟩)
  refine Ce_mono (Ce_and (p_105 (Q := fun _ g r => J g r) hJ.1 D (fun _ _ j => j)) fr1) (fun v1 g1 r1 w => ?_)
  obtain ⟨hce, rfl, m1, f1⟩ := w
  have fr2 : Ce sc (D + 2) 229 [(2, 165)] g1 r1 (fun _ g2 _ => RTF g1 g2) := w_229 (d := D + 1) hr m1 (fun _ _ => up_rt (by decide)) (fun _ => RTF.rf g1)
  exact Ce_mono (Ce_and hce fr2) (fun v2 g2 r2 u => ⟨u.1.1, u.1.2, hJ.2.fr (f1.tr u.2)⟩)
theorem pp_111 (hJ : J2 g r) {A1 A2 : Int} (D : Nat) : Ce sc (D + 4) 111 [(2, 0), (0, A1), (0, A2)] g r (fun v1 g1 r1 => Ce sc (D + 4) 236 [(2, 165), (0, A1), (0, A2)] g1 r1 fun v2 g2 r2 => v1 = v2 ∧ J2 g2 r2) := by
  obtain ⟨hr, hc, hn, hi, _⟩ := hJ.1
  have fr1 : Ce sc (D + 4) 111 [(2, 0), (0, A1), (0, A2)] g r (FR1 g r) := s_111 hr hc.2.2.2.2.1 (fun q g1 x1 _ => ⟨rfl, hi.hi (fun i j z => x1 i (Or.inl z) (by omega) j), x1.rt (by decide)⟩) (fun q g1 e1 => ⟨rfl, (hJ.1.eq e1).2.2.2.1, e1.rt⟩)
  refine Ce_mono (Ce_and (p_111 (Q := fun _ g r => J g r) hJ.1 D (fun _ _ j => j)) fr1) (fun v1 g1 r1 w => ?_)
  obtain ⟨hce, rfl, m1, f1⟩ := w
  have fr2 : Ce sc (D + 4) 236 [(2, 165), (0, A1), (0, A2)] g1 r1 (fun _ g2 _ => RTF g1 g2) := s_236 (d := D + 2) hr m1 (fun _ g2 _ y1 _ _ _ _ => ⟨fun p => y1 2 p (by omega), fun p => y1 189 p (by omega), y1 1 1 (by omega), y1 1 2 (by omega), y1 165 25 (by omega)⟩) (fun _ g2 e2 => e2.rt)
  exact Ce_mono (Ce_and hce fr2) (fun v2 g2 r2 u => ⟨u.1.1, u.1.2, hJ.2.fr (f1.tr u.2)⟩)
theorem pp_117 (hJ : J2 g r) {A1 A2 : Int} (D : Nat) : Ce sc (D + 4) 117 [(2, 0), (0, A1), (0, A2)] g r (fun v1 g1 r1 => Ce sc (D + 4) 240 [(2, 165), (0, A1), (0, A2)] g1 r1 fun v2 g2 r2 => v1 = v2 ∧ J2 g2 r2) := by
  obtain ⟨hr, hc, hn, hi, _⟩ := hJ.1
  have fr1 : Ce sc (D + 4) 117 [(2, 0), (0, A1), (0, A2)] g r (FR1 g r) := s_117 hr hc.2.2.2.2.2 (fun q g1 x1 _ => ⟨rfl, hi.hi (fun i j z => x1 i (Or.inl z) (by omega) j), x1.rt (by decide)⟩) (fun q g1 e1 => ⟨rfl, (hJ.1.eq e1).2.2.2.1, e1.rt⟩)
  refine Ce_mono (Ce_and (p_117 (Q := fun _ g r => J g r) hJ.1 D (fun _ _ j => j)) fr1) (fun v1 g1 r1 w => ?_)
  obtain ⟨hce, rfl, m1, f1⟩ := w
  have fr2 : Ce sc (D + 4) 240 [(2, 165), (0, A1), (0, A2)] g1 r1 (fun _ g2 _ => RTF g1 g2) := s_240 (d := D + 2) hr m1 (fun _ g2 _ y1 _ _ _ _ => ⟨fun p => y1 2 p (by omega), fun p => y1 189 p (by omega), y1 1 1 (by omega), y1 1 2 (by omega), y1 165 25 (by omega)⟩) (fun _ g2 e2 => e2.rt)
  exact Ce_mono (Ce_and hce fr2) (fun v2 g2 r2 u => ⟨u.1.1, u.1.2, hJ.2.fr (f1.tr u.2)⟩)
/-- fault, both sides: the same value -/
theorem pp_68 (hJ : J2 g r) (D : Nat) : Ce sc (D + 1) 68 [(2, 0)] g r (fun v1 g1 r1 => Ce sc (D + 1) 160 [(2, 165)] g1 r1 fun v2 g2 r2 => v1 = v2 ∧ J2 g2 r2) := by
  have hr := hJ.1.1
  refine c_68 ⟨okd (by decide +kernel), ?_⟩
  rw [r_0_0 hr]
  exact ⟨okd (by decide +kernel), c_160 ⟨okd (by decide +kernel), hJ.2.2, hJ⟩⟩
end PRG
