/-! the count of images is the same on both sides: image and restore -/
def KQV (i j : Int) : Prop := (i = 0 ∧ j = 7) ∨ (i = 165 ∧ j = 48)
def KEQ (g g' : GH) : Prop := ∀ i j, KQV i j → g' i j = g i j
theorem KEQ.rf (g : GH) : KEQ g g := fun _ _ _ => rfl
theorem KEQ.tr {a b c : GH} (h : KEQ a b) (k : KEQ b c) : KEQ a c := fun i j z => (k i j z).trans (h i j z)
theorem EQF.kq {g g' : GH} (e : EQF F3 g g') : KEQ g g' := fun i j h => by
  refine e i ?_ j
  rcases h with z | z
  · rw [z.1]; exact f3_of (by decide)
  · rw [z.1]; exact f3_of (by decide)
theorem ME.kq {g g' : GH} (e : ME g g') : KEQ g g' := fun i j h => e.1 i j (by unfold KQV at h; unfold MV; omega)
theorem up_kq {g : GH} {i j v : Int} (h : ¬ KQV i j) : KEQ g (up g i j v) := fun a b z => up_o (fun q => h (by rw [← q.1, ← q.2]; exact z))
section IC3
variable {sc : SCR} {d : Nat} {Q : QJ} {g r : GH} {l0 l1 l2 l3 l4 l5 p a b n : Int}
def KRQ (g r : GH) : QJ := fun _ g1 r1 => r1 = r ∧ KEQ g g1
def CEQ (g g' : GH) : Prop := KEQ g g' ∧ ∀ i j, 165 ≤ i → g' i j = g i j
def KCQ (g r : GH) : QJ := fun _ g1 r1 => r1 = r ∧ CEQ g g1
theorem CEQ.rf (g : GH) : CEQ g g := ⟨KEQ.rf g, fun _ _ _ => rfl⟩
theorem CEQ.tr {a b c : GH} (h : CEQ a b) (k : CEQ b c) : CEQ a c := ⟨h.1.tr k.1, fun i j z => (k.2 i j z).trans (h.2 i j z)⟩
theorem EQF.cq {g g' : GH} (e : EQF F3 g g') : CEQ g g' := ⟨e.kq, fun i j z => e i (fp_f3 (Or.inl z)) j⟩
theorem up_cq {g : GH} {i j v : Int} (l : i < 165) (h : ¬ KQV i j) : CEQ g (up g i j v) := ⟨up_kq h, fun a b z => up_i (by omega)⟩
theorem nkq (i j : Int) (h : 55 ≤ i ∧ i ≤ 64) : ¬ KQV i j := by unfold KQV; omega
theorem kq_104 (hr : RI r) (hc : 0 ≤ g 55 2) : Ce sc (d + 4) 104 [(2, 0), (0, l1)] g r (KCQ g r) := by
  have k0 : okr 218 0 8 := okd (by decide +kernel)
  have k55 : okr 218 55 3 := okd (by decide +kernel)
  have A : AL 56 11 24 := ⟨okd (by decide +kernel), n_56⟩
  have B : AL 57 11 24 := ⟨okd (by decide +kernel), n_57⟩
  refine c_104 (w_123 (fun q1 q2 => ?_) (fun q => ?_))
  · rw [if_neg (by decide), r_0_13 hr]
    exact ⟨k0, k0, w_132f hr k55 (r_55_0 hr) (r_55_1 hr) A B (by decide) (by decide) (by decide) hc (fun q => ⟨rfl, ((up_cq (by decide) (nkq _ _ (by decide))).tr (up_cq (by decide) (nkq _ _ (by decide)))).tr (up_cq (by decide) (nkq _ _ (by decide)))⟩) (fun q g' e => ⟨rfl, e.cq⟩)⟩
  · rw [if_pos rfl]; exact ⟨k0, t_133n hr (by decide) (by decide) (fun g' e => ⟨rfl, e.cq⟩)⟩
theorem kq_105 (hr : RI r) (hc : 0 ≤ g 55 2 ∧ g 55 2 ≤ 24) : Ce sc (d + 2) 105 [(2, 0)] g r (KCQ g r) := w_105 hr hc (fun _ => ⟨rfl, up_cq (by decide) (nkq _ _ (by decide))⟩) (fun _ => ⟨rfl, CEQ.rf g⟩)
theorem kq_111 (hr : RI r) (hc : 0 ≤ g 58 2) : Ce sc (d + 4) 111 [(2, 0), (0, l1), (0, l2)] g r (KCQ g r) := by
  have k0 : okr 218 0 8 := okd (by decide +kernel)
  have k58 : okr 218 58 3 := okd (by decide +kernel)
  have A : AL 59 11 9 := ⟨okd (by decide +kernel), n_59⟩
  have B : AL 60 11 9 := ⟨okd (by decide +kernel), n_60⟩
  refine c_111 (w_123 (fun q1 q2 => ?_) (fun q => ?_))
  · rw [if_neg (by decide)]
    refine w_123 (fun q3 q4 => ?_) (fun q => ?_)
    · rw [if_neg (by decide), r_0_14 hr]
      exact ⟨k0, k0, w_132f hr k58 (r_58_0 hr) (r_58_1 hr) A B (by decide) (by decide) (by decide) hc (fun q => ⟨rfl, ((up_cq (by decide) (nkq _ _ (by decide))).tr (up_cq (by decide) (nkq _ _ (by decide)))).tr (up_cq (by decide) (nkq _ _ (by decide)))⟩) (fun q g' e => ⟨rfl, e.cq⟩)⟩
    · rw [if_pos rfl]; exact ⟨k0, t_133n hr (by decide) (by decide) (fun g' e => ⟨rfl, e.cq⟩)⟩
  · rw [if_pos rfl]; exact ⟨k0, t_133n hr (by decide) (by decide) (fun g' e => ⟨rfl, e.cq⟩)⟩
theorem kq_117 (hr : RI r) (hc : 0 ≤ g 62 2) : Ce sc (d + 4) 117 [(2, 0), (0, l1), (0, l2)] g r (KCQ g r) := by
  have k0 : okr 218 0 8 := okd (by decide +kernel)
  have k62 : okr 218 62 3 := okd (by decide +kernel)
  have A : AL 63 11 8 := ⟨okd (by decide +kernel), n_63⟩
  have B : AL 64 11 8 := ⟨okd (by decide +kernel), n_64⟩
  refine c_117 (w_123 (fun q1 q2 => ?_) (fun q => ?_))
  · rw [if_neg (by decide)]
    refine w_123 (fun q3 q4 => ?_) (fun q => ?_)
    · rw [if_neg (by decide), r_0_16 hr]
      exact ⟨k0, k0, w_132f hr k62 (r_62_0 hr) (r_62_1 hr) A B (by decide) (by decide) (by decide) hc (fun q => ⟨rfl, ((up_cq (by decide) (nkq _ _ (by decide))).tr (up_cq (by decide) (nkq _ _ (by decide)))).tr (up_cq (by decide) (nkq _ _ (by decide)))⟩) (fun q g' e => ⟨rfl, e.cq⟩)⟩
    · rw [if_pos rfl]; exact ⟨k0, t_133n hr (by decide) (by decide) (fun g' e => ⟨rfl, e.cq⟩)⟩
  · rw [if_pos rfl]; exact ⟨k0, t_133n hr (by decide) (by decide) (fun g' e => ⟨rfl, e.cq⟩)⟩
theorem kq_228 (hr : RI r) (hi : MI g) : Ce sc (d + 2) 228 [(2, 165), (0, l1)] g r (KRQ g r) := s_228 hr hi (fun _ _ => ⟨rfl, (up_kq (by unfold KQV; omega)).tr (up_kq (by unfold KQV; omega))⟩) (fun _ g2 e2 => ⟨rfl, e2.kq⟩)
theorem kq_229 (hr : RI r) (hi : MI g) : Ce sc (d + 1) 229 [(2, 165)] g r (KRQ g r) := w_229 hr hi (fun _ _ => ⟨rfl, up_kq (by unfold KQV; omega)⟩) (fun _ => ⟨rfl, KEQ.rf g⟩)
theorem kq_236 (hr : RI r) (hi : MI g) : Ce sc (d + 2) 236 [(2, 165), (0, l1), (0, l2)] g r (KRQ g r) := by
  have k9 : okr 218 165 9 := okd (by decide +kernel)
  have c := hi.1.2.2.2.2.1
  refine c_236 (w_137 (fun q1 q2 => ?_) (fun q => ?_))
  · rw [if_neg (by decide)]
    refine w_137 (fun q3 q4 => ?_) (fun q => ?_)
    · rw [if_neg (by decide), r_165_67 hr, r_165_68 hr]
      refine ⟨k9, ite_c (fun q => ⟨k9, s_138 hr (by decide) (by decide) (fun g' e => ⟨rfl, e.kq⟩)⟩) (fun q => ⟨k9, k9, i_212.mpr ⟨by omega, by omega⟩, fun g1 e1 => ⟨k9, k9, ?_, fun g2 e2 => ⟨k9, k9, fun g3 e3 => ⟨k9, rfl, ?_⟩⟩⟩⟩)⟩
      · rw [e1, up_i (by decide)]; exact i_213.mpr ⟨by omega, by omega⟩
      · rw [e3, e2, e1]
        exact ((up_kq (by unfold KQV; omega)).tr (up_kq (by unfold KQV; omega))).tr (up_kq (by unfold KQV; omega))
    · rw [if_pos rfl]; exact ⟨k9, s_138 hr (by decide) (by decide) (fun g' e => ⟨rfl, e.kq⟩)⟩
  · rw [if_pos rfl]; exact ⟨k9, s_138 hr (by decide) (by decide) (fun g' e => ⟨rfl, e.kq⟩)⟩
theorem kq_240 (hr : RI r) (hi : MI g) : Ce sc (d + 2) 240 [(2, 165), (0, l1), (0, l2)] g r (KRQ g r) := by
  have k9 : okr 218 165 9 := okd (by decide +kernel)
  have c := hi.1.2.2.2.2.2.1
  refine c_240 (w_137 (fun q1 q2 => ?_) (fun q => ?_))
  · rw [if_neg (by decide)]
    refine w_137 (fun q3 q4 => ?_) (fun q => ?_)
    · rw [if_neg (by decide), r_165_71 hr, r_165_72 hr]
      refine ⟨k9, ite_c (fun q => ⟨k9, s_138 hr (by decide) (by decide) (fun g' e => ⟨rfl, e.kq⟩)⟩) (fun q => ⟨k9, k9, i_215.mpr ⟨by omega, by omega⟩, fun g1 e1 => ⟨k9, k9, ?_, fun g2 e2 => ⟨k9, k9, fun g3 e3 => ⟨k9, rfl, ?_⟩⟩⟩⟩)⟩
      · rw [e1, up_i (by decide)]; exact i_216.mpr ⟨by omega, by omega⟩
      · rw [e3, e2, e1]
        exact ((up_kq (by unfold KQV; omega)).tr (up_kq (by unfold KQV; omega))).tr (up_kq (by unfold KQV; omega))
    · rw [if_pos rfl]; exact ⟨k9, s_138 hr (by decide) (by decide) (fun g' e => ⟨rfl, e.kq⟩)⟩
  · rw [if_pos rfl]; exact ⟨k9, s_138 hr (by decide) (by decide) (fun g' e => ⟨rfl, e.kq⟩)⟩
theorem CEQ.mi {g g' : GH} (h : CEQ g g') (hi : MI g) : MI g' := hi.hi (fun i j z => h.2 i j z)
theorem ap20_cq {t a b c e f : Int} : CEQ g (ap20 g t a b c e f) := by
  have o : ∀ i j, i ≠ 1 → i ≠ 2 → ap20 g t a b c e f i j = g i j := fun i j x y => by
    unfold ap20
    rw [ap4_o x y, ap4_o x y, ap4_o x y, ap4_o x y, ap4_o x y]
  exact ⟨fun i j z => o i j (by unfold KQV at z; omega) (by unfold KQV at z; omega), fun i j z => o i j (by omega) (by omega)⟩
theorem kq_66 (hr : RI r) (hc : 0 ≤ g 1 1 ∧ g 1 1 ≤ 700) : Ce sc (d + 2) 66 [(2, 0), (0, l1), (0, l2), (0, l3), (0, l4), (0, l5)] g r (KCQ g r) := w_66 hr rfl hc.1 hc.2 (fun _ => ⟨rfl, ap20_cq⟩) (fun _ => ⟨rfl, CEQ.rf g⟩)
theorem kq_142 (hr : RI r) (hi : MI g) : Ce sc (d + 1) 142 [(2, 165), (0, l1), (0, l2), (0, l3), (0, l4), (0, l5)] g r (KRQ g r) := fq_142 hr hi.1.1 (fun _ g2 _ y => ⟨rfl, fun i j z => y i j (by unfold KQV at z; omega) (by unfold KQV at z; omega)⟩) (fun _ => ⟨rfl, KEQ.rf g⟩)

def IC (g : GH) : Prop := g 0 7 = g 165 48
def J4 (g r : GH) : Prop := J3 g r ∧ IC g
theorem IC.kq {g g' : GH} (h : IC g) (e : KEQ g g') : IC g' := by
  unfold IC
  rw [e 0 7 (Or.inl ⟨rfl, rfl⟩), e 165 48 (Or.inr ⟨rfl, rfl⟩)]
  exact h
theorem J4.eq {g g' r : GH} (h : J4 g r) (e : EQF F3 g g') : J4 g' r := ⟨h.1.eq e, h.2.kq e.kq⟩
theorem J4.me {g g' r : GH} (h : J4 g r) (e : ME g g') : J4 g' r := ⟨h.1.me e, h.2.kq e.kq⟩
theorem kq_98 (hr : RI r) : Ce sc (d + 4) 98 [(2, 0), (0, l1), (0, l2)] g r (KCQ g r) := w_98 hr (fun _ => ⟨rfl, up_cq (by decide) (by unfold KQV; omega)⟩) (fun _ g' e => ⟨rfl, e.cq⟩)
theorem kq_222 (hr : RI r) : Ce sc (d + 2) 222 [(2, 165), (0, l1), (0, l2)] g r (KRQ g r) := w_222 hr (fun _ => ⟨rfl, up_kq (by unfold KQV; omega)⟩) (fun _ g' e => ⟨rfl, e.kq⟩)
theorem kq_99 (hr : RI r) (hc : 0 ≤ g 52 2) : Ce sc (d + 4) 99 [(2, 0), (0, l1), (0, l2)] g r (KCQ g r) := w_99 hr hc (fun _ => ⟨rfl, ((up_cq (by decide) (by unfold KQV; omega)).tr (up_cq (by decide) (by unfold KQV; omega))).tr (up_cq (by decide) (by unfold KQV; omega))⟩) (fun _ g' e => ⟨rfl, e.cq⟩)
theorem kq_223 (hr : RI r) (hi : MI g) : Ce sc (d + 2) 223 [(2, 165), (0, l1), (0, l2)] g r (KRQ g r) := w_223 hr hi (fun _ => ⟨rfl, ((up_kq (by unfold KQV; omega)).tr (up_kq (by unfold KQV; omega))).tr (up_kq (by unfold KQV; omega))⟩) (fun _ g' e => ⟨rfl, e.kq⟩)
theorem rr_66 (hJ : J4 g r) {A1 A2 A3 A4 A5 : Int} (D : Nat) : Ce sc (D + 2) 66 [(2, 0), (0, A1), (0, A2), (0, A3), (0, A4), (0, A5)] g r (fun v1 g1 r1 => Ce sc (D + 2) 142 [(2, 165), (0, A1), (0, A2), (0, A3), (0, A4), (0, A5)] g1 r1 fun v2 g2 r2 => v1 = v2 ∧ J4 g2 r2) := by
  have hj := hJ.1.1.1
  refine Ce_mono (Ce_and (qq_66 hJ.1 D) (kq_66 hj.1 hj.2.1.1)) (fun v1 g1 r1 w => ?_)
  obtain ⟨hce, rfl, e1⟩ := w
  refine Ce_mono (Ce_and hce (kq_142 (d := D + 1) hj.1 (e1.mi hj.2.2.2.1))) (fun v2 g2 r2 u => ?_)
  obtain ⟨⟨ev, j⟩, e2, k⟩ := u
  exact ⟨ev, j, hJ.2.kq (e1.1.tr k)⟩
theorem rr_98 (hJ : J4 g r) {A1 A2 : Int} (D : Nat) : Ce sc (D + 4) 98 [(2, 0), (0, A1), (0, A2)] g r (fun v1 g1 r1 => Ce sc (D + 4) 222 [(2, 165), (0, A1), (0, A2)] g1 r1 fun v2 g2 r2 => v1 = v2 ∧ J4 g2 r2) := by
  have hj := hJ.1.1.1
  refine Ce_mono (Ce_and (qq_98 hJ.1 D) (kq_98 hj.1)) (fun v1 g1 r1 w => ?_)
  obtain ⟨hce, rfl, e1⟩ := w
  refine Ce_mono (Ce_and hce (kq_222 (d := D + 2) hj.1)) (fun v2 g2 r2 u => ?_)
  obtain ⟨⟨ev, j⟩, e2, k⟩ := u
  exact ⟨ev, j, hJ.2.kq (e1.1.tr k)⟩
theorem rr_99 (hJ : J4 g r) {A1 A2 : Int} (D : Nat) : Ce sc (D + 4) 99 [(2, 0), (0, A1), (0, A2)] g r (fun v1 g1 r1 => Ce sc (D + 4) 223 [(2, 165), (0, A1), (0, A2)] g1 r1 fun v2 g2 r2 => v1 = v2 ∧ J4 g2 r2) := by
  have hj := hJ.1.1.1
  refine Ce_mono (Ce_and (qq_99 hJ.1 D) (kq_99 hj.1 hj.2.1.2.2.1.1)) (fun v1 g1 r1 w => ?_)
  obtain ⟨hce, rfl, e1⟩ := w
  refine Ce_mono (Ce_and hce (kq_223 (d := D + 2) hj.1 (e1.mi hj.2.2.2.1))) (fun v2 g2 r2 u => ?_)
  obtain ⟨⟨ev, j⟩, e2, k⟩ := u
  exact ⟨ev, j, hJ.2.kq (e1.1.tr k)⟩
theorem rr_104 (hJ : J4 g r) {A1 : Int} (D : Nat) : Ce sc (D + 4) 104 [(2, 0), (0, A1)] g r (fun v1 g1 r1 => Ce sc (D + 4) 228 [(2, 165), (0, A1)] g1 r1 fun v2 g2 r2 => v1 = v2 ∧ J4 g2 r2) := by
  have hj := hJ.1.1.1
  refine Ce_mono (Ce_and (qq_104 hJ.1 D) (kq_104 hj.1 hj.2.1.2.2.2.1.1)) (fun v1 g1 r1 w => ?_)
  obtain ⟨hce, rfl, e1⟩ := w
  refine Ce_mono (Ce_and hce (kq_228 (d := D + 2) hj.1 (e1.mi hj.2.2.2.1))) (fun v2 g2 r2 u => ?_)
  obtain ⟨⟨ev, j⟩, e2, k⟩ := u
  exact ⟨ev, j, hJ.2.kq (e1.1.tr k)⟩
theorem rr_105 (hJ : J4 g r) (D : Nat) : Ce sc (D + 2) 105 [(2, 0)] g r (fun v1 g1 r1 => Ce sc (D + 2) 229 [(2, 165)] g1 r1 fun v2 g2 r2 => v1 = v2 ∧ J4 g2 r2) := by
  have hj := hJ.1.1.1
  refine Ce_mono (Ce_and (qq_105 hJ.1 D) (kq_105 hj.1 hj.2.1.2.2.2.1)) (fun v1 g1 r1 w => ?_)
  obtain ⟨hce, rfl, e1⟩ := w
  refine Ce_mono (Ce_and hce (kq_229 (d := D + 1) hj.1 (e1.mi hj.2.2.2.1))) (fun v2 g2 r2 u => ?_)
  obtain ⟨⟨ev, j⟩, e2, k⟩ := u
  exact ⟨ev, j, hJ.2.kq (e1.1.tr k)⟩
theorem rr_111 (hJ : J4 g r) {A1 A2 : Int} (D : Nat) : Ce sc (D + 4) 111 [(2, 0), (0, A1), (0, A2)] g r (fun v1 g1 r1 => Ce sc (D + 4) 236 [(2, 165), (0, A1), (0, A2)] g1 r1 fun v2 g2 r2 => v1 = v2 ∧ J4 g2 r2) := by
  have hj := hJ.1.1.1
  refine Ce_mono (Ce_and (qq_111 hJ.1 D) (kq_111 hj.1 hj.2.1.2.2.2.2.1.1)) (fun v1 g1 r1 w => ?_)
  obtain ⟨hce, rfl, e1⟩ := w
  refine Ce_mono (Ce_and hce (kq_236 (d := D + 2) hj.1 (e1.mi hj.2.2.2.1))) (fun v2 g2 r2 u => ?_)
  obtain ⟨⟨ev, j⟩, e2, k⟩ := u
  exact ⟨ev, j, hJ.2.kq (e1.1.tr k)⟩
theorem rr_117 (hJ : J4 g r) {A1 A2 : Int} (D : Nat) : Ce sc (D + 4) 117 [(2, 0), (0, A1), (0, A2)] g r (fun v1 g1 r1 => Ce sc (D + 4) 240 [(2, 165), (0, A1), (0, A2)] g1 r1 fun v2 g2 r2 => v1 = v2 ∧ J4 g2 r2) := by
  have hj := hJ.1.1.1
  refine Ce_mono (Ce_and (qq_117 hJ.1 D) (kq_117 hj.1 hj.2.1.2.2.2.2.2.1)) (fun v1 g1 r1 w => ?_)
  obtain ⟨hce, rfl, e1⟩ := w
  refine Ce_mono (Ce_and hce (kq_240 (d := D + 2) hj.1 (e1.mi hj.2.2.2.1))) (fun v2 g2 r2 u => ?_)
  obtain ⟨⟨ev, j⟩, e2, k⟩ := u
  exact ⟨ev, j, hJ.2.kq (e1.1.tr k)⟩
theorem rr_68 (hJ : J4 g r) (D : Nat) : Ce sc (D + 1) 68 [(2, 0)] g r (fun v1 g1 r1 => Ce sc (D + 1) 160 [(2, 165)] g1 r1 fun v2 g2 r2 => v1 = v2 ∧ J4 g2 r2) := by
  have hr := hJ.1.1.1.1
  refine c_68 ⟨okd (by decide +kernel), ?_⟩
  rw [r_0_0 hr]
  exact ⟨okd (by decide +kernel), c_160 ⟨okd (by decide +kernel), hJ.1.1.2.2, hJ⟩⟩
/-- image -/
theorem w_120 (hr : RI r) (hc : 0 ≤ g 0 7 ∧ g 0 7 ≤ 3) (h1 : g 0 7 < 3 → ∀ g', (∀ i j, 165 ≤ i → g' i j = g i j) → g' 0 7 = g 0 7 + 1 → Q (g 0 7) g' r) (h0 : ¬ g 0 7 < 3 → ∀ g', EQF F3 g g' → Q (-1) g' r) : Ce sc (d + 4) 120 [(2, 0)] g r Q := by
  have k0 : okr 218 0 8 := okd (by decide +kernel)
  refine c_120 ⟨k0, ite_c (fun q => ?_) (fun q => ⟨k0, t_133n hr (by decide) (by decide) (h0 q)⟩)⟩
  rw [r_0_6 hr, r_0_4 hr]
  have hi := im_of hr hc.1 q
  have hI : okI 218 45 14 (g 0 7) ∨ okI 218 45 15 (g 0 7) := by
    first | exact Or.inr (i_45.mpr ⟨hc.1, q⟩) | exact Or.inl (i_45.mpr ⟨hc.1, q⟩)
  rw [if_neg hi.2.2]
  refine ⟨k0, k0, hI, k0, k0, hI, k0, hi.2.1, t_1 (imf_of hr hc.1 q) (br_23 hr).fz (fun v g' e => ⟨k0, k0, fun g2 E2 => ⟨k0, ?_⟩⟩)⟩
  have f7 : g' 0 7 = g 0 7 := e 0 (f3_of (by decide)) 7
  rw [f7, wr_id (x := g 0 7 + 1) ⟨by omega, by omega⟩] at E2
  have e7 : g2 0 7 = g 0 7 + 1 := by rw [E2, up_s]
  rw [e7, wr_id (x := g 0 7 + 1 - 1) ⟨by omega, by omega⟩, show g 0 7 + 1 - 1 = g 0 7 by omega]
  exact h1 q g2 (fun i j hi => by rw [E2, up_i (by omega)]; exact e i (fp_f3 (Or.inl hi)) j) e7
theorem w_244 (hr : RI r) (hi : MI g) (h1 : g 165 48 < 3 → ∀ g', (∀ i j, i < 165 → g' i j = g i j) → g' 165 48 = g 165 48 + 1 → Q (g 165 48) g' r) (h0 : ¬ g 165 48 < 3 → ∀ g', ME g g' → Q (-1) g' r) : Ce sc (d + 2) 244 [(2, 165)] g r Q := by
  have k9 : okr 218 165 9 := okd (by decide +kernel)
  have c := hi.1.2.1
  refine c_244 ⟨k9, ite_c (fun q => ⟨k9, s_138 hr (by decide) (by decide) (h0 (by omega))⟩) (fun q => ?_)⟩
  refine ⟨k9, k9, fun g1 e1 => ?_⟩
  rw [wr_id ⟨by omega, by omega⟩] at e1
  have f1 : g1 165 48 = g 165 48 + 1 := by rw [e1, up_s]
  have mb1 : MB g1 := mb_eq (fun i j h => by rw [e1, up_i (by omega)]) hi.2.1
  rw [f1]
  refine ⟨k9, k9, s_192 hr mb1 (by decide) (by decide) (by omega) (by omega) (fun v g2 e2 => ?_)⟩
  have f2 : g2 165 48 = g 165 48 + 1 := (e2.1 165 48 (by unfold MV; omega)).trans f1
  rw [f2, r_165_47 hr]
  refine ⟨k9, k9, k9, i_202.mpr ⟨by omega, by omega⟩, fun g3 e3 => ⟨k9, ?_⟩⟩
  have f3 : g3 165 48 = g 165 48 + 1 := by rw [e3, up_i (by decide)]; exact f2
  rw [f3, wr_id (x := g 165 48 + 1 - 1) ⟨by omega, by omega⟩, show g 165 48 + 1 - 1 = g 165 48 by omega]
  exact h1 (by omega) g3 (fun i j hi => by rw [e3, up_i (by omega), e2.1 i j (Or.inl hi), e1, up_i (by omega)]) f3
theorem rr_120 (hJ : J4 g r) (D : Nat) : Ce sc (D + 4) 120 [(2, 0)] g r (fun v1 g1 r1 => Ce sc (D + 4) 244 [(2, 165)] g1 r1 fun v2 g2 r2 => v1 = v2 ∧ J4 g2 r2) := by
  have hj := hJ.1.1.1
  have ic := hJ.2
  unfold IC at ic
  have hc := hj.2.1.2.1
  have fr : Ce sc (D + 4) 120 [(2, 0)] g r (fun v1 g1 r1 => r1 = r ∧ (∀ i j, 165 ≤ i → g1 i j = g i j) ∧ ((g 0 7 < 3 ∧ v1 = g 0 7 ∧ g1 0 7 = g 0 7 + 1) ∨ (¬ g 0 7 < 3 ∧ v1 = -1 ∧ g1 0 7 = g 0 7))) := w_120 hj.1 hc (fun q g' hi e => ⟨rfl, hi, Or.inl ⟨q, rfl, e⟩⟩) (fun q g' e => ⟨rfl, fun i j hi => e i (fp_f3 (Or.inl hi)) j, Or.inr ⟨q, rfl, e 0 (f3_of (by decide)) 7⟩⟩)
  refine Ce_mono (Ce_and (qq_120 hJ.1 D) fr) (fun v1 g1 r1 w => ?_)
  obtain ⟨hce, rfl, hi1, w⟩ := w
  have m1 : MI g1 := hj.2.2.2.1.hi hi1
  have f48 : g1 165 48 = g 165 48 := hi1 165 48 (by decide)
  have fr2 : Ce sc (D + 4) 244 [(2, 165)] g1 r1 (fun v2 g2 _ => (g1 165 48 < 3 ∧ v2 = g1 165 48 ∧ g2 0 7 = g1 0 7 ∧ g2 165 48 = g1 165 48 + 1) ∨ (¬ g1 165 48 < 3 ∧ v2 = -1 ∧ g2 0 7 = g1 0 7 ∧ g2 165 48 = g1 165 48)) := w_244 (d := D + 2) hj.1 m1 (fun q g' lo e => Or.inl ⟨q, rfl, lo 0 7 (by decide), e⟩) (fun q g' e => Or.inr ⟨q, rfl, e.1 0 7 (Or.inl (by decide)), e.1 165 48 (by unfold MV; omega)⟩)
  refine Ce_mono (Ce_and hce fr2) (fun v2 g2 r2 u => ?_)
  obtain ⟨j, u⟩ := u
  refine ⟨?_, j, ?_⟩
  · omega
  · unfold IC
    omega
/-- restore -/
theorem w_121 (hr : RI r) (hc : 0 ≤ g 0 7 ∧ g 0 7 ≤ 3) (h1 : 0 ≤ l1 ∧ l1 < g 0 7 → ∀ g', EQF F3 g g' → Q 1 g' r) (h0 : ¬ (0 ≤ l1 ∧ l1 < g 0 7) → ∀ g', EQF F3 g g' → Q 0 g' r) : Ce sc (d + 4) 121 [(2, 0), (0, l1)] g r Q := by
  have k0 : okr 218 0 8 := okd (by decide +kernel)
  have w : wr (g 0 7 - 1) = g 0 7 - 1 := wr_id ⟨by omega, by omega⟩
  have no : ¬ (0 ≤ l1 ∧ l1 < g 0 7) → Ce sc (d + 3) 134 [(2, 0), (0, 0)] g r (fun v2 g2 r2 => (v2 = 0 ∨ v2 = 1) ∧ Q v2 g2 r2) := fun z => t_134 hr sq3 (by decide) (by decide) (fun g' e => ⟨Or.inl rfl, h0 z _ e⟩)
  refine c_121 ?_
  rw [w]
  refine ⟨k0, w_123 (fun q1 q2 => ?_) (fun q => ?_)⟩
  · rw [if_neg (by decide)]
    refine w_123 (fun q3 q4 => ?_) (fun q => ?_)
    · rw [if_neg (by decide), r_0_6 hr, r_0_4 hr]
      have hi := im_of hr q3 (by omega)
      have hI : okI 218 45 14 l1 ∨ okI 218 45 15 l1 := by
        first | exact Or.inr (i_45.mpr ⟨q3, by omega⟩) | exact Or.inl (i_45.mpr ⟨q3, by omega⟩)
      exact ⟨k0, k0, hI, (brf_23 hr).1, t_1 (brf_23 hr) hi.1.fz (fun v g' e => ⟨Or.inr rfl, h1 ⟨q3, by omega⟩ _ e⟩)⟩
    · rw [if_pos rfl]; exact ⟨k0, no (by omega)⟩
  · rw [if_pos rfl]; exact ⟨k0, no (by omega)⟩
theorem w_245 (hr : RI r) (hi : MI g) (h1 : 0 ≤ l1 ∧ l1 < g 165 48 → ∀ g', ME g g' → Q 1 g' r) (h0 : ¬ (0 ≤ l1 ∧ l1 < g 165 48) → ∀ g', ME g g' → Q 0 g' r) : Ce sc (d + 2) 245 [(2, 165), (0, l1)] g r Q := by
  have k9 : okr 218 165 9 := okd (by decide +kernel)
  have c := hi.1.2.1
  have hw : wr (g 165 48 - 1) = g 165 48 - 1 := wr_id ⟨by omega, by omega⟩
  refine c_245 ?_
  rw [hw]
  refine ⟨k9, w_137 (fun q1 q2 => ?_) (fun q => ?_)⟩
  · rw [if_neg (by decide)]
    have hw1 : wr (l1 + 1) = l1 + 1 := wr_id ⟨by omega, by omega⟩
    rw [hw1]
    refine ⟨k9, s_192 hr hi.2.1 (by omega) (by omega) (by decide) (by decide) (fun v g2 e2 => ?_)⟩
    rw [r_165_47 hr]
    exact ⟨k9, i_202.mpr ⟨by omega, by omega⟩, k9, fun g3 e3 => ⟨Or.inr rfl, h1 ⟨q1, by omega⟩ _ (by rw [e3]; exact e2.u (by unfold MW MV; omega) (by decide))⟩⟩
  · rw [if_pos rfl]
    exact ⟨k9, s_139 hr (fun g' e => ⟨Or.inl rfl, h0 (by omega) _ e⟩)⟩
theorem rr_121 (hJ : J4 g r) {A1 : Int} (D : Nat) : Ce sc (D + 4) 121 [(2, 0), (0, A1)] g r (fun v1 g1 r1 => Ce sc (D + 4) 245 [(2, 165), (0, A1)] g1 r1 fun v2 g2 r2 => v1 = v2 ∧ J4 g2 r2) := by
  have hj := hJ.1.1.1
  have ic := hJ.2
  unfold IC at ic
  refine w_121 hj.1 hj.2.1.2.1 (fun y g1 e1 => ?_) (fun y g1 e1 => ?_)
  · have j1 := hJ.eq e1
    have f48 : g1 165 48 = g 165 48 := e1 165 (f3_of (by decide)) 48
    exact w_245 (d := D + 2) hj.1 j1.1.1.1.2.2.2.1 (fun _ g2 e2 => ⟨rfl, j1.me e2⟩) (fun z => absurd (by omega) z)
  · have j1 := hJ.eq e1
    have f48 : g1 165 48 = g 165 48 := e1 165 (f3_of (by decide)) 48
    exact w_245 (d := D + 2) hj.1 j1.1.1.1.2.2.2.1 (fun z => absurd z (by omega)) (fun _ g2 e2 => ⟨rfl, j1.me e2⟩)
/-- mill: what becomes of the images -/
def I67 (l1 l2 : Int) (g r : GH) (v1 : Int) (g1 r1 : GH) : Prop := RI r1 ∧ (∀ i j, 165 ≤ i → g1 i j = g i j) ∧ ((¬ (0 ≤ l1 ∧ l1 ≤ 5 ∧ 0 ≤ l2 ∧ l2 ≤ g 1 1) ∧ g1 0 7 = g 0 7) ∨ ((0 ≤ l1 ∧ l1 ≤ 5 ∧ 0 ≤ l2 ∧ l2 ≤ g 1 1) ∧ ∃ m0 s' m' st', I0 m0 ∧ ((Rch (fun p => g 2 p) l2 (0, tk (fun p => g 2 p) l2 0, m0, []) (90, s', m', st') ∧ g1 0 7 = 0) ∨ (Rch (fun p => g 2 p) l2 (0, tk (fun p => g 2 p) l2 0, m0, []) (91, s', m', st') ∧ g1 0 7 = g 0 7))))
theorem i_67 (hr : RI r) (ht : 0 ≤ g 1 1 ∧ g 1 1 ≤ 700) : Ce sc (d + 38) 67 [(2, 0), (0, l1), (0, l2)] g r (I67 l1 l2 g r) := by
  have k0 : okr 218 0 8 := okd (by decide +kernel)
  have k1 : okr 218 1 5 := okd (by decide +kernel)
  have hm := hr.2.2.1
  have M7 : 7 ≤ r 0 2 ∧ r 0 2 ≤ 121 := by unfold MO at hm; omega
  have n65 : ¬ F3 65 := sq3 _ (by unfold SC; omega)
  have bad : ¬ (0 ≤ l1 ∧ l1 ≤ 5 ∧ 0 ≤ l2 ∧ l2 ≤ g 1 1) → I67 l1 l2 g r (-2) (up g 65 0 (wr (g 65 0 + 1))) r := fun z => ⟨hr, fun i j hi => up_i (by omega), Or.inl ⟨z, up_i (by decide)⟩⟩
  refine c_67 (w_123 (fun q1 q2 => ?_) (fun q => ?_))
  · rw [if_neg (by decide), r_0_0 hr]
    refine ⟨k0, k1, w_123 (fun q3 q4 => ?_) (fun q => ?_)⟩
    · rw [if_neg (by decide), r_0_0 hr]
      have hv : 0 ≤ l1 ∧ l1 ≤ 5 ∧ 0 ≤ l2 ∧ l2 ≤ g 1 1 := ⟨q1, q2, q3, q4⟩
      refine ⟨k0, k0, k1, f_32 (T := fun p => g 2 p) hr hm (fun _ => rfl) q3 q4 ht.2 (fun g1 s' m' m0 i0 rc xi mc f11 f12 tt fm => ?_) (fun g1 s' m' st' m0 i0 rc f11 f12 fm => ?_)⟩
      · have xg : XG 90 m' := xi.2.2.2.2.2.2.1
        have v0 : 0 ≤ m' 0 12 := xg.2.1
        rw [if_neg (show ¬ m' 0 12 = -1 by omega), r_0_1 hr]
        have hI : okI 218 6 14 l1 := i_6.mpr ⟨q1, by omega⟩
        refine ⟨k0, Or.inl hI, k0, k0, Or.inl ⟨hI, mo_ok hm⟩, fun r4 E4 => ?_⟩
        rw [if_neg (mo_ne (hr.2.1 l1 q1 (by omega)))]
        refine ⟨k0, fun r5 E5 => ?_⟩
        have hr5 : RI r5 := by rw [E5, E4]; exact ri_swap hr q1 (by omega)
        have p1 : r5 6 l1 = r 0 2 := by rw [E5, up_i (by decide), E4, up_s]
        have p2 : ∀ k, k ≠ l1 → r5 6 k = r 6 k := fun k hk => by rw [E5, up_i (by decide), E4, up_j hk]
        rw [r_0_4 hr5]
        refine ⟨k0, (br_23 hr5).1, t_2 (F := F3) (brf_23 hr5) (fun v' g2 e2 => ⟨k0, fun g3 E3 => ⟨hr5, fun i j hi => ?_, Or.inr ⟨hv, m0, s', m', [], i0, Or.inl ⟨rc, by rw [E3, up_s]⟩⟩⟩⟩)⟩
        · rw [E3, up_i (by omega), e2 i (fp_f3 (Or.inl hi)) j]; exact fm i j (by omega) (by omega) (by omega) (by omega) (by omega)
      · rw [if_pos rfl]
        refine ⟨k0, w_133 hr (by decide) (by decide) ⟨hr, fun i j hi => ?_, Or.inr ⟨hv, m0, s', m', st', i0, Or.inr ⟨rc, ?_⟩⟩⟩⟩
        · rw [up_i (by omega)]; exact fm i j (by omega) (by omega) (by omega) (by omega) (by omega)
        · rw [up_i (by decide)]; exact fm 0 7 (by decide) (by decide) (by decide) (by decide) (by omega)
    · rw [if_pos rfl]; exact ⟨k0, w_133 hr (by decide) (by decide) (bad (fun z => q ⟨z.2.2.1, z.2.2.2⟩))⟩
  · rw [if_pos rfl]; exact ⟨k0, w_133 hr (by decide) (by decide) (bad (fun z => q ⟨z.1, z.2.1⟩))⟩
theorem rr_67 (hJ : J4 g r) {A1 A2 : Int} (D : Nat) : Ce sc (D + 38) 67 [(2, 0), (0, A1), (0, A2)] g r (fun v1 g1 r1 => Ce sc (D + 38) 159 [(2, 165), (0, A1), (0, A2)] g1 r1 fun v2 g2 r2 => v1 = v2 ∧ J4 g2 r2) := by
  have hj2 := hJ.1.1
  have ic := hJ.2
  unfold IC at ic
  obtain ⟨hr, hci, hn, hi, a1, _⟩ := hj2.1
  refine Ce_mono (Ce_and (qq_67 hJ.1 D) (i_67 (d := D) hr hci.1)) (fun v1 g1 r1 w => ?_)
  obtain ⟨hce, hr1, hi1, w⟩ := w
  have mb1 : MB g1 := mb_eq (fun i j h => hi1 i j (by omega)) hi.2.1
  have c24 : g1 165 24 = g 1 1 := (hi1 165 24 (by decide)).trans a1.symm
  have c48 : g1 165 48 = g 165 48 := hi1 165 48 (by decide)
  have cb : 0 ≤ g1 165 24 ∧ g1 165 24 ≤ 700 := by rw [c24]; exact hci.1
  rcases w with ⟨nv, e7⟩ | ⟨hv, m0, s', m', st', i0, w⟩
  · have fr2 : Ce sc (D + 38) 159 [(2, 165), (0, A1), (0, A2)] g1 r1 (fun _ g2 _ => IC g2) := f_159 (d := D + 29) (T := fun p => i_and (g1 189 p) 255) hr1 mb1 cb (fun _ _ _ => rfl) i0_m00 (fun _ => by unfold IC; rw [up_i (by decide), up_i (by decide)]; omega) (fun z => absurd (by rw [c24] at z; exact z) nv) (fun z => absurd (by rw [c24] at z; exact z) nv)
    exact Ce_mono (Ce_and hce fr2) (fun v2 g2 r2 u => ⟨u.1.1, u.1.2, u.2⟩)
  · have hT : ∀ p, 0 ≤ p → p < A2 → i_and (g1 189 p) 255 = (fun p => g 2 p) p := fun p p0 p1 => by
      rw [hi1 189 p (by decide)]; exact (hj2.2.1 p p0 (by omega)).symm
    have fr2 : Ce sc (D + 38) 159 [(2, 165), (0, A1), (0, A2)] g1 r1 (fun _ g2 _ => IC g2) := by
      refine f_159 (d := D + 29) (T := fun p => g 2 p) hr1 mb1 cb hT i0 (fun z => absurd (by rw [c24]; exact hv) z) (fun _ g2 s2 m2 rc2 mt fq _ => ?_) (fun _ g2 s2 m2 st2 rc2 e25 _ _ fl => ?_)
      · rcases w with ⟨rc, e7⟩ | ⟨rc, e7⟩
        · unfold IC
          rw [fq 0 7 (by omega) (by omega) (by omega) (by omega) (by omega) (by omega) (by omega) (by omega) (by omega), e7]
          exact mt.2.2.2.2.2.2.2.2.2.1.symm
        · have e := rc.un rc2 (Or.inr rfl) (Or.inl rfl)
          injection e with e _
          exact absurd e (by decide)
      · rcases w with ⟨rc, e7⟩ | ⟨rc, e7⟩
        · have e := rc.un rc2 (Or.inl rfl) (Or.inr rfl)
          injection e with e _
          exact absurd e (by decide)
        · unfold IC
          rw [fl 0 7 (by omega) (by omega) (by omega) (by omega) (by omega) (by omega) (by omega), fl 165 48 (by omega) (by omega) (by omega) (by omega) (by omega) (by omega) (by omega), e7]
          omega
    exact Ce_mono (Ce_and hce fr2) (fun v2 g2 r2 u => ⟨u.1.1, u.1.2, u.2⟩)
end IC3
