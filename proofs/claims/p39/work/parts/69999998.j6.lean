/-! J6: the brook, its images and days are the same on both sides -/
def NOW (g : GH) : Prop := ∃ b, HB b ∧ CBR 23 g b ∧ MBR 0 g b ∧ g 23 3 = g 165 49
def IMG (g : GH) : Prop := ∀ k, 0 ≤ k → k < g 165 48 → ∃ b, HB b ∧ CBR (132 + 11 * k) g b ∧ MBR (k + 1) g b ∧ g (132 + 11 * k) 3 = g 202 (k + 1)
def RUL (g : GH) : Prop := ∀ j, 0 ≤ j → j < 6 → g 47 j = -1
def J6 (g r : GH) : Prop := J5 g r ∧ NOW g ∧ IMG g ∧ RUL g
/-- the class's brooks that stay from call to call, and the plan of rules only -/
def CZV (i : Int) : Prop := (23 ≤ i ∧ i ≤ 33) ∨ i = 46 ∨ i = 47 ∨ (132 ≤ i ∧ i ≤ 164)
/-- the reference's states 0 to 3 -/
def MZV (i j : Int) : Prop := ((i = 192 ∨ i = 198) ∧ j < 160) ∨ (193 ≤ i ∧ i ≤ 199 ∧ i ≠ 197 ∧ i ≠ 198 ∧ j < 24) ∨ ((i = 197 ∨ i = 200 ∨ i = 201 ∨ i = 202) ∧ j < 4) ∨ (i = 165 ∧ (j = 49 ∨ j = 48))
def Z6 (g g' : GH) : Prop := (∀ i j, CZV i → g' i j = g i j) ∧ ∀ i j, MZV i j → g' i j = g i j
def KZ (g r : GH) : QJ := fun _ g1 r1 => r1 = r ∧ Z6 g g1
def FN : Int → Prop := fun x => ¬ SC x
theorem sqn : SQ FN := fun _ h z => z h
theorem Z6.rf (g : GH) : Z6 g g := ⟨fun _ _ _ => rfl, fun _ _ _ => rfl⟩
theorem Z6.tr {a b c : GH} (h : Z6 a b) (k : Z6 b c) : Z6 a c := ⟨fun i j z => (k.1 i j z).trans (h.1 i j z), fun i j z => (k.2 i j z).trans (h.2 i j z)⟩
theorem up_z6 {g : GH} {i j v : Int} (h : ¬ CZV i) (k : ¬ MZV i j) : Z6 g (up g i j v) := ⟨fun a b z => up_i (fun y => h (by rw [← y]; exact z)), fun a b z => up_o (fun y => k (by rw [← y.1, ← y.2]; exact z))⟩
theorem czv_sc {i : Int} (h : CZV i) : FN i := by
  unfold CZV at h
  unfold FN SC
  omega
theorem hi_fn {i : Int} (h : 165 ≤ i) : FN i := by
  unfold FN SC
  omega
theorem EQF.z6 {g g' : GH} (e : EQF FN g g') : Z6 g g' := ⟨fun i j z => e i (czv_sc z) j, fun i j z => e i (hi_fn (by unfold MZV at z; omega)) j⟩
section J6S
variable {sc : SCR} {d : Nat} {Q : QJ} {g r b : GH} {l0 l1 l2 l3 l4 l5 x s p a n : Int}
theorem MBR.z {g' : GH} (h : MBR s g b) (s0 : 0 ≤ s) (s3 : s ≤ 3) (e : Z6 g g') : MBR s g' b := by
  obtain ⟨⟨q1, q2, q3⟩, q4, q5⟩ := h
  refine ⟨⟨?_, ?_, ?_⟩, fun j j0 j1 => ?_, fun j j0 j1 => ?_⟩
  · rw [e.2 197 s (by unfold MZV; omega)]; exact q1
  · rw [e.2 200 s (by unfold MZV; omega)]; exact q2
  · rw [e.2 201 s (by unfold MZV; omega)]; exact q3
  · rw [e.2 192 _ (by unfold MZV; omega), e.2 198 _ (by unfold MZV; omega)]; exact q4 j j0 j1
  · rw [e.2 193 _ (by unfold MZV; omega), e.2 194 _ (by unfold MZV; omega), e.2 199 _ (by unfold MZV; omega), e.2 195 _ (by unfold MZV; omega), e.2 196 _ (by unfold MZV; omega)]; exact q5 j j0 j1
theorem CBR.z {g' : GH} (h : CBR x g b) (hx : ∀ i, x ≤ i → i ≤ x + 7 → CZV i) (e : Z6 g g') : CBR x g' b := h.fr (fun i j i0 i1 => e.1 i j (hx i i0 i1))
theorem NOW.z {g' : GH} (h : NOW g) (e : Z6 g g') : NOW g' := by
  obtain ⟨b, hb, c, m, z⟩ := h
  exact ⟨b, hb, c.z (fun i i0 i1 => by unfold CZV; omega) e, m.z (by decide) (by decide) e, by rw [e.1 23 3 (by unfold CZV; omega), e.2 165 49 (by unfold MZV; omega)]; exact z⟩
theorem IMG.z {g' : GH} (h : IMG g) (h3 : g 165 48 ≤ 3) (e : Z6 g g') : IMG g' := fun k k0 k1 => by
  rw [e.2 165 48 (by unfold MZV; omega)] at k1
  obtain ⟨b, hb, c, m, z⟩ := h k k0 k1
  exact ⟨b, hb, c.z (fun i i0 i1 => by unfold CZV; omega) e, m.z (by omega) (by omega) e, by rw [e.1 _ 3 (by unfold CZV; omega), e.2 202 _ (by unfold MZV; omega)]; exact z⟩
theorem RUL.z {g' : GH} (h : RUL g) (e : Z6 g g') : RUL g' := fun j j0 j1 => by
  rw [e.1 47 j (by unfold CZV; omega)]; exact h j j0 j1
theorem J6.n3 (h : J6 g r) : 0 ≤ g 165 48 ∧ g 165 48 ≤ 3 := h.1.1.1.1.1.2.2.2.1.1.2.1
theorem J6.z {g' r' : GH} (h : J6 g r) (j : J5 g' r') (e : Z6 g g') : J6 g' r' := ⟨j, h.2.1.z e, h.2.2.1.z h.n3.2 e, h.2.2.2.z e⟩
/-- a call of the class that asks -/
theorem yy {k : Nat} {as : List AV} {D : Nat} (hJ : J6 g r) (v : Ce sc D k as g r (fun _ g1 r1 => r1 = r ∧ EB r (TM g) (MWh g) g g1)) (t : Ce sc D k as g r (fun _ g1 r1 => r1 = r ∧ EQF FN g g1)) : Ce sc D k as g r (fun _ g1 r1 => r1 = r ∧ J6 g1 r) := Ce_mono (Ce_and v t) (fun _ _ _ w => ⟨w.1.1, hJ.z (hJ.1.eb w.1.2) w.2.2.z6⟩)
/-- a call of the reference that asks -/
theorem ym {k : Nat} {as : List AV} {D : Nat} (hJ : J6 g r) (v : Ce sc D k as g r (fun _ g1 r1 => r1 = r ∧ ME g g1)) (t : Ce sc D k as g r (fun _ g1 r1 => r1 = r ∧ ∀ i j, MZV i j → g1 i j = g i j)) : Ce sc D k as g r (fun _ g1 r1 => r1 = r ∧ J6 g1 r) := Ce_mono (Ce_and v t) (fun _ _ _ w => ⟨w.1.1, hJ.z (hJ.1.me w.1.2) ⟨fun i j z => w.1.2.1 i j (Or.inl (by unfold CZV at z; omega)), w.2.2⟩⟩)
/-! calls that tell: what they leave alone -/
theorem z_133 (hr : RI r) (h0 : 0 ≤ l1) (h2 : l1 ≤ 2) : Ce sc (d + 2) 133 [(2, 0), (0, l1)] g r (KZ g r) := w_133 hr h0 h2 ⟨rfl, up_z6 (by unfold CZV; omega) (by unfold MZV; omega)⟩
theorem z_134 (hr : RI r) (h0 : 0 ≤ l1) (h2 : l1 ≤ 2) : Ce sc (d + 3) 134 [(2, 0), (0, l1)] g r (KZ g r) := w_134 hr h0 h2 ⟨rfl, up_z6 (by unfold CZV; omega) (by unfold MZV; omega)⟩
theorem z_138 (hr : RI r) (h0 : 0 ≤ l1) (h2 : l1 ≤ 2) : Ce sc (d + 1) 138 [(2, 165), (0, l1)] g r (KZ g r) := w_138 hr h0 h2 ⟨rfl, up_z6 (by unfold CZV; omega) (by unfold MZV; omega)⟩
theorem z_132 (hr : RI r) (k : okr 218 p 3) (e0 : r p 0 = a) {b : Int} (e1 : r p 1 = b) (A : AL a 11 n) (B : AL b 11 n) (na : p ≠ a) (nb : p ≠ b) (hn : n < 100) (c0 : 0 ≤ g p 2) (hp : 50 ≤ p ∧ p ≤ 70) (ha : 50 ≤ a ∧ a ≤ 70) (hb : 50 ≤ b ∧ b ≤ 70) : Ce sc (d + 3) 132 [(2, 0), (2, p), (0, l2), (0, l3)] g r (KZ g r) := by
  have k0 : okr 218 0 8 := okd (by decide +kernel)
  refine c_132 ⟨k, w_24 k e0 e1 A B na nb hn c0 (fun q => ?_) (fun q => ?_)⟩
  · rw [if_neg (by decide)]
    exact ⟨k, rfl, ((up_z6 (by unfold CZV; omega) (by unfold MZV; omega)).tr (up_z6 (by unfold CZV; omega) (by unfold MZV; omega))).tr (up_z6 (by unfold CZV; omega) (by unfold MZV; omega))⟩
  · rw [if_pos rfl]
    exact ⟨k0, z_133 hr (by decide) (by decide)⟩
theorem ap20_z6 {t a b c e f : Int} : Z6 g (ap20 g t a b c e f) := by
  have o : ∀ i j, i ≠ 1 → i ≠ 2 → ap20 g t a b c e f i j = g i j := fun i j x y => by
    unfold ap20
    rw [ap4_o x y, ap4_o x y, ap4_o x y, ap4_o x y, ap4_o x y]
  exact ⟨fun i j z => o i j (by unfold CZV at z; omega) (by unfold CZV at z; omega), fun i j z => o i j (by unfold MZV at z; omega) (by unfold MZV at z; omega)⟩
theorem z_66 (hr : RI r) (hc : 0 ≤ g 1 1 ∧ g 1 1 ≤ 700) : Ce sc (d + 2) 66 [(2, 0), (0, l1), (0, l2), (0, l3), (0, l4), (0, l5)] g r (KZ g r) := w_66 hr rfl hc.1 hc.2 (fun _ => ⟨rfl, ap20_z6⟩) (fun _ => ⟨rfl, Z6.rf g⟩)
theorem z_98 (hr : RI r) : Ce sc (d + 4) 98 [(2, 0), (0, l1), (0, l2)] g r (KZ g r) := by
  have k0 : okr 218 0 8 := okd (by decide +kernel)
  refine c_98 ⟨k0, w_129 hr (fun t => ?_) (fun t => ?_)⟩
  · rw [if_neg (mo_ne (hr.2.1 l1 t.1 t.2.1))]
    refine w_123 (fun q1 q2 => ?_) (fun q => ?_)
    · rw [if_neg (by decide), r_0_11 hr]
      exact ⟨k0, i_51.mpr ⟨t.1, t.2.1⟩, fun g3 e3 => ⟨Or.inr rfl, rfl, by rw [e3]; exact up_z6 (by unfold CZV; omega) (by unfold MZV; omega)⟩⟩
    · rw [if_pos rfl]
      exact ⟨k0, w_134 hr (by decide) (by decide) ⟨Or.inl rfl, rfl, up_z6 (by unfold CZV; omega) (by unfold MZV; omega)⟩⟩
  · rw [if_pos rfl]
    exact ⟨k0, w_134 hr (by decide) (by decide) ⟨Or.inl rfl, rfl, up_z6 (by unfold CZV; omega) (by unfold MZV; omega)⟩⟩
theorem z_99 (hr : RI r) (hc : 0 ≤ g 52 2) : Ce sc (d + 4) 99 [(2, 0), (0, l1), (0, l2)] g r (KZ g r) := by
  have k0 : okr 218 0 8 := okd (by decide +kernel)
  have k52 : okr 218 52 3 := okd (by decide +kernel)
  have A : AL 53 11 30 := ⟨okd (by decide +kernel), n_53⟩
  have B : AL 54 11 30 := ⟨okd (by decide +kernel), n_54⟩
  refine c_99 ⟨k0, w_129 hr (fun t => ?_) (fun t => ?_)⟩
  · rw [if_neg (mo_ne (hr.2.1 l1 t.1 t.2.1))]
    refine w_123 (fun q1 q2 => ?_) (fun q => ?_)
    · rw [if_neg (by decide), r_0_12 hr]
      exact ⟨k0, k0, z_132 hr k52 (r_52_0 hr) (r_52_1 hr) A B (by decide) (by decide) (by decide) hc (by decide) (by decide) (by decide)⟩
    · rw [if_pos rfl]; exact ⟨k0, z_133 hr (by decide) (by decide)⟩
  · rw [if_pos rfl]; exact ⟨k0, z_133 hr (by decide) (by decide)⟩
theorem z_104 (hr : RI r) (hc : 0 ≤ g 55 2) : Ce sc (d + 4) 104 [(2, 0), (0, l1)] g r (KZ g r) := by
  have k0 : okr 218 0 8 := okd (by decide +kernel)
  have k55 : okr 218 55 3 := okd (by decide +kernel)
  have A : AL 56 11 24 := ⟨okd (by decide +kernel), n_56⟩
  have B : AL 57 11 24 := ⟨okd (by decide +kernel), n_57⟩
  refine c_104 (w_123 (fun q1 q2 => ?_) (fun q => ?_))
  · rw [if_neg (by decide), r_0_13 hr]
    exact ⟨k0, k0, z_132 hr k55 (r_55_0 hr) (r_55_1 hr) A B (by decide) (by decide) (by decide) hc (by decide) (by decide) (by decide)⟩
  · rw [if_pos rfl]; exact ⟨k0, z_133 hr (by decide) (by decide)⟩
theorem z_105 (hr : RI r) (hc : 0 ≤ g 55 2 ∧ g 55 2 ≤ 24) : Ce sc (d + 2) 105 [(2, 0)] g r (KZ g r) := w_105 hr hc (fun _ => ⟨rfl, up_z6 (by unfold CZV; omega) (by unfold MZV; omega)⟩) (fun _ => ⟨rfl, Z6.rf g⟩)
theorem z_111 (hr : RI r) (hc : 0 ≤ g 58 2) : Ce sc (d + 4) 111 [(2, 0), (0, l1), (0, l2)] g r (KZ g r) := by
  have k0 : okr 218 0 8 := okd (by decide +kernel)
  have k58 : okr 218 58 3 := okd (by decide +kernel)
  have A : AL 59 11 9 := ⟨okd (by decide +kernel), n_59⟩
  have B : AL 60 11 9 := ⟨okd (by decide +kernel), n_60⟩
  refine c_111 (w_123 (fun q1 q2 => ?_) (fun q => ?_))
  · rw [if_neg (by decide)]
    refine w_123 (fun q3 q4 => ?_) (fun q => ?_)
    · rw [if_neg (by decide), r_0_14 hr]
      exact ⟨k0, k0, z_132 hr k58 (r_58_0 hr) (r_58_1 hr) A B (by decide) (by decide) (by decide) hc (by decide) (by decide) (by decide)⟩
    · rw [if_pos rfl]; exact ⟨k0, z_133 hr (by decide) (by decide)⟩
  · rw [if_pos rfl]; exact ⟨k0, z_133 hr (by decide) (by decide)⟩
theorem z_117 (hr : RI r) (hc : 0 ≤ g 62 2) : Ce sc (d + 4) 117 [(2, 0), (0, l1), (0, l2)] g r (KZ g r) := by
  have k0 : okr 218 0 8 := okd (by decide +kernel)
  have k62 : okr 218 62 3 := okd (by decide +kernel)
  have A : AL 63 11 8 := ⟨okd (by decide +kernel), n_63⟩
  have B : AL 64 11 8 := ⟨okd (by decide +kernel), n_64⟩
  refine c_117 (w_123 (fun q1 q2 => ?_) (fun q => ?_))
  · rw [if_neg (by decide)]
    refine w_123 (fun q3 q4 => ?_) (fun q => ?_)
    · rw [if_neg (by decide), r_0_16 hr]
      exact ⟨k0, k0, z_132 hr k62 (r_62_0 hr) (r_62_1 hr) A B (by decide) (by decide) (by decide) hc (by decide) (by decide) (by decide)⟩
    · rw [if_pos rfl]; exact ⟨k0, z_133 hr (by decide) (by decide)⟩
  · rw [if_pos rfl]; exact ⟨k0, z_133 hr (by decide) (by decide)⟩
theorem z_142 (hr : RI r) (hi : MI g) : Ce sc (d + 1) 142 [(2, 165), (0, l1), (0, l2), (0, l3), (0, l4), (0, l5)] g r (KZ g r) := fq_142 hr hi.1.1 (fun _ g2 _ y => ⟨rfl, fun i j z => y i j (by unfold CZV at z; omega) (by unfold CZV at z; omega), fun i j z => y i j (by unfold MZV at z; omega) (by unfold MZV at z; omega)⟩) (fun _ => ⟨rfl, Z6.rf g⟩)
theorem z_222 (hr : RI r) : Ce sc (d + 2) 222 [(2, 165), (0, l1), (0, l2)] g r (KZ g r) := by
  have k9 : okr 218 165 9 := okd (by decide +kernel)
  refine c_222 ⟨k9, w_140 hr (fun t => ?_) (fun t => ?_)⟩
  · rw [if_neg (by decide)]
    refine w_137 (fun q1 q2 => ?_) (fun q => ?_)
    · rw [if_neg (by decide), r_165_15 hr]
      exact ⟨k9, i_181.mpr ⟨t.1, t.2.1⟩, fun g3 e3 => ⟨Or.inr rfl, rfl, by rw [e3]; exact up_z6 (by unfold CZV; omega) (by unfold MZV; omega)⟩⟩
    · rw [if_pos rfl]
      exact ⟨k9, w_139 hr ⟨Or.inl rfl, rfl, up_z6 (by unfold CZV; omega) (by unfold MZV; omega)⟩⟩
  · rw [if_pos rfl]
    exact ⟨k9, w_139 hr ⟨Or.inl rfl, rfl, up_z6 (by unfold CZV; omega) (by unfold MZV; omega)⟩⟩
theorem z_223 (hr : RI r) (hi : MI g) : Ce sc (d + 2) 223 [(2, 165), (0, l1), (0, l2)] g r (KZ g r) := by
  have k9 : okr 218 165 9 := okd (by decide +kernel)
  have c := hi.1.2.2.1
  refine c_223 ⟨k9, w_140 hr (fun t => ?_) (fun t => ?_)⟩
  · rw [if_neg (by decide)]
    refine w_137 (fun q1 q2 => ?_) (fun q => ?_)
    · rw [if_neg (by decide), r_165_62 hr, r_165_63 hr]
      refine ⟨k9, ite_c (fun q => ⟨k9, z_138 hr (by decide) (by decide)⟩) (fun q => ⟨k9, k9, i_209.mpr ⟨by omega, by omega⟩, fun g1 e1 => ⟨k9, k9, ?_, fun g2 e2 => ⟨k9, k9, fun g3 e3 => ⟨k9, rfl, ?_⟩⟩⟩⟩)⟩
      · rw [e1, up_i (by decide)]; exact i_210.mpr ⟨by omega, by omega⟩
      · rw [e3, e2, e1]
        exact ((up_z6 (by unfold CZV; omega) (by unfold MZV; omega)).tr (up_z6 (by unfold CZV; omega) (by unfold MZV; omega))).tr (up_z6 (by unfold CZV; omega) (by unfold MZV; omega))
    · rw [if_pos rfl]; exact ⟨k9, z_138 hr (by decide) (by decide)⟩
  · rw [if_pos rfl]; exact ⟨k9, z_138 hr (by decide) (by decide)⟩
theorem z_228 (hr : RI r) (hi : MI g) : Ce sc (d + 2) 228 [(2, 165), (0, l1)] g r (KZ g r) := by
  have k9 : okr 218 165 9 := okd (by decide +kernel)
  have c := hi.1.2.2.2.1
  refine c_228 (w_137 (fun q1 q2 => ?_) (fun q => ?_))
  · rw [if_neg (by decide), r_165_65 hr]
    refine ⟨k9, ite_c (fun q => ⟨k9, z_138 hr (by decide) (by decide)⟩) (fun q => ⟨k9, k9, i_211.mpr ⟨by omega, by omega⟩, fun g1 e1 => ⟨k9, k9, fun g2 e2 => ⟨k9, rfl, ?_⟩⟩⟩)⟩
    rw [e2, e1]
    exact (up_z6 (by unfold CZV; omega) (by unfold MZV; omega)).tr (up_z6 (by unfold CZV; omega) (by unfold MZV; omega))
  · rw [if_pos rfl]; exact ⟨k9, z_138 hr (by decide) (by decide)⟩
theorem z_229 (hr : RI r) (hi : MI g) : Ce sc (d + 1) 229 [(2, 165)] g r (KZ g r) := w_229 hr hi (fun _ _ => ⟨rfl, up_z6 (by unfold CZV; omega) (by unfold MZV; omega)⟩) (fun _ => ⟨rfl, Z6.rf g⟩)
theorem z_236 (hr : RI r) (hi : MI g) : Ce sc (d + 2) 236 [(2, 165), (0, l1), (0, l2)] g r (KZ g r) := by
  have k9 : okr 218 165 9 := okd (by decide +kernel)
  have c := hi.1.2.2.2.2.1
  refine c_236 (w_137 (fun q1 q2 => ?_) (fun q => ?_))
  · rw [if_neg (by decide)]
    refine w_137 (fun q3 q4 => ?_) (fun q => ?_)
    · rw [if_neg (by decide), r_165_67 hr, r_165_68 hr]
      refine ⟨k9, ite_c (fun q => ⟨k9, z_138 hr (by decide) (by decide)⟩) (fun q => ⟨k9, k9, i_212.mpr ⟨by omega, by omega⟩, fun g1 e1 => ⟨k9, k9, ?_, fun g2 e2 => ⟨k9, k9, fun g3 e3 => ⟨k9, rfl, ?_⟩⟩⟩⟩)⟩
      · rw [e1, up_i (by decide)]; exact i_213.mpr ⟨by omega, by omega⟩
      · rw [e3, e2, e1]
        exact ((up_z6 (by unfold CZV; omega) (by unfold MZV; omega)).tr (up_z6 (by unfold CZV; omega) (by unfold MZV; omega))).tr (up_z6 (by unfold CZV; omega) (by unfold MZV; omega))
    · rw [if_pos rfl]; exact ⟨k9, z_138 hr (by decide) (by decide)⟩
  · rw [if_pos rfl]; exact ⟨k9, z_138 hr (by decide) (by decide)⟩
theorem z_240 (hr : RI r) (hi : MI g) : Ce sc (d + 2) 240 [(2, 165), (0, l1), (0, l2)] g r (KZ g r) := by
  have k9 : okr 218 165 9 := okd (by decide +kernel)
  have c := hi.1.2.2.2.2.2.1
  refine c_240 (w_137 (fun q1 q2 => ?_) (fun q => ?_))
  · rw [if_neg (by decide)]
    refine w_137 (fun q3 q4 => ?_) (fun q => ?_)
    · rw [if_neg (by decide), r_165_71 hr, r_165_72 hr]
      refine ⟨k9, ite_c (fun q => ⟨k9, z_138 hr (by decide) (by decide)⟩) (fun q => ⟨k9, k9, i_215.mpr ⟨by omega, by omega⟩, fun g1 e1 => ⟨k9, k9, ?_, fun g2 e2 => ⟨k9, k9, fun g3 e3 => ⟨k9, rfl, ?_⟩⟩⟩⟩)⟩
      · rw [e1, up_i (by decide)]; exact i_216.mpr ⟨by omega, by omega⟩
      · rw [e3, e2, e1]
        exact ((up_z6 (by unfold CZV; omega) (by unfold MZV; omega)).tr (up_z6 (by unfold CZV; omega) (by unfold MZV; omega))).tr (up_z6 (by unfold CZV; omega) (by unfold MZV; omega))
    · rw [if_pos rfl]; exact ⟨k9, z_138 hr (by decide) (by decide)⟩
  · rw [if_pos rfl]; exact ⟨k9, z_138 hr (by decide) (by decide)⟩
/-- a pair over J5, and what both calls leave alone -/
theorem pz {ka kb D E : Nat} {as bs : List AV} (hJ : J6 g r) (t : Ce sc D ka as g r (fun v1 g1 r1 => Ce sc E kb bs g1 r1 fun v2 g2 r2 => v1 = v2 ∧ J5 g2 r2)) (c : Ce sc D ka as g r (KZ g r)) (i : Ce sc D ka as g r (fun _ g1 _ => MI g1)) (m : ∀ g1, MI g1 → Ce sc E kb bs g1 r (KZ g1 r)) : Ce sc D ka as g r (fun v1 g1 r1 => Ce sc E kb bs g1 r1 fun v2 g2 r2 => v1 = v2 ∧ J6 g2 r2) := by
  refine Ce_mono (Ce_and t (Ce_and c i)) (fun v1 g1 r1 w => ?_)
  obtain ⟨hce, ⟨er, e1⟩, mi⟩ := w
  subst er
  refine Ce_mono (Ce_and hce (m g1 mi)) (fun v2 g2 r2 u => ?_)
  obtain ⟨⟨ev, j⟩, e2, k⟩ := u
  subst e2
  exact ⟨ev, hJ.z j (e1.tr k)⟩
end J6S
