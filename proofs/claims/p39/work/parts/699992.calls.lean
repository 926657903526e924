/-! guilt and seen as functions; load, fall, order, image, restore: what they leave of mills, weights, levels seen -/
section SC3
variable {sc : SCR} {d : Nat} {Q : QJ} {g r : GH} {l0 l1 l2 l3 l4 l5 p a b n : Int}
theorem w_98 (hr : RI r) (h1 : TD g r l1 ∧ 0 ≤ l2 ∧ l2 ≤ 99 → Q 1 (up g 51 l1 l2) r) (h0 : ¬ (TD g r l1 ∧ 0 ≤ l2 ∧ l2 ≤ 99) → ∀ g', EQF F3 g g' → Q 0 g' r) : Ce sc (d + 4) 98 [(2, 0), (0, l1), (0, l2)] g r Q := by
  have k0 : okr 218 0 8 := okd (by decide +kernel)
  refine c_98 ⟨k0, w_129 hr (fun t => ?_) (fun t => ?_)⟩
  · rw [if_neg (mo_ne (hr.2.1 l1 t.1 t.2.1))]
    refine w_123 (fun q1 q2 => ?_) (fun q => ?_)
    · rw [if_neg (by decide), r_0_11 hr]
      exact ⟨k0, i_51.mpr ⟨t.1, t.2.1⟩, fun g3 e3 => ⟨Or.inr rfl, by rw [e3]; exact h1 ⟨t, q1, q2⟩⟩⟩
    · rw [if_pos rfl]
      exact ⟨k0, t_134 hr sq3 (by decide) (by decide) (fun g' e => ⟨Or.inl rfl, h0 (fun z => q z.2) _ e⟩)⟩
  · rw [if_pos rfl]
    exact ⟨k0, t_134 hr sq3 (by decide) (by decide) (fun g' e => ⟨Or.inl rfl, h0 (fun z => t z.1) _ e⟩)⟩
theorem t_133n (hr : RI r) (h0 : 0 ≤ l1) (h2 : l1 ≤ 2) (h : ∀ g', EQF F3 g g' → Q (-1) g' r) : Ce sc (d + 2) 133 [(2, 0), (0, l1)] g r Q := w_133 hr h0 h2 (h _ ((EQF.rf g).up (sq3 _ (by unfold SC; omega))))
theorem w_132f (hr : RI r) (k : okr 218 p 3) (e0 : r p 0 = a) (e1 : r p 1 = b) (A : AL a 11 n) (B : AL b 11 n) (na : p ≠ a) (nb : p ≠ b) (hn : n < 100) (c0 : 0 ≤ g p 2) (h1 : g p 2 < n → Q (g p 2 + 1) (up (up (up g a (g p 2) l2) b (g p 2) l3) p 2 (g p 2 + 1)) r) (h0 : ¬ g p 2 < n → ∀ g', EQF F3 g g' → Q (-1) g' r) : Ce sc (d + 3) 132 [(2, 0), (2, p), (0, l2), (0, l3)] g r Q := by
  have k0 : okr 218 0 8 := okd (by decide +kernel)
  refine c_132 ⟨k, w_24 k e0 e1 A B na nb hn c0 (fun q => ?_) (fun q => ?_)⟩
  · rw [if_neg (by decide)]
    refine ⟨k, ?_⟩
    rw [up_s]
    exact h1 q
  · rw [if_pos rfl]
    exact ⟨k0, t_133n hr (by decide) (by decide) (h0 q)⟩
theorem w_99 (hr : RI r) (hc : 0 ≤ g 52 2) (h1 : (TD g r l1 ∧ 0 ≤ l2 ∧ l2 ≤ 100) ∧ g 52 2 < 30 → Q (g 52 2 + 1) (up (up (up g 53 (g 52 2) l1) 54 (g 52 2) l2) 52 2 (g 52 2 + 1)) r) (h0 : ¬ ((TD g r l1 ∧ 0 ≤ l2 ∧ l2 ≤ 100) ∧ g 52 2 < 30) → ∀ g', EQF F3 g g' → Q (-1) g' r) : Ce sc (d + 4) 99 [(2, 0), (0, l1), (0, l2)] g r Q := by
  have k0 : okr 218 0 8 := okd (by decide +kernel)
  have k52 : okr 218 52 3 := okd (by decide +kernel)
  have A : AL 53 11 30 := ⟨okd (by decide +kernel), n_53⟩
  have B : AL 54 11 30 := ⟨okd (by decide +kernel), n_54⟩
  refine c_99 ⟨k0, w_129 hr (fun t => ?_) (fun t => ?_)⟩
  · rw [if_neg (mo_ne (hr.2.1 l1 t.1 t.2.1))]
    refine w_123 (fun q1 q2 => ?_) (fun q => ?_)
    · rw [if_neg (by decide), r_0_12 hr]
      exact ⟨k0, k0, w_132f hr k52 (r_52_0 hr) (r_52_1 hr) A B (by decide) (by decide) (by decide) hc (fun q => h1 ⟨⟨t, q1, q2⟩, q⟩) (fun q => h0 (fun z => q z.2))⟩
    · rw [if_pos rfl]; exact ⟨k0, t_133n hr (by decide) (by decide) (h0 (fun z => q z.1.2))⟩
  · rw [if_pos rfl]; exact ⟨k0, t_133n hr (by decide) (by decide) (h0 (fun z => t z.1.1))⟩
def KR (g r : GH) : QJ := fun _ g1 r1 => r1 = r ∧ KE g g1
def CE3 (g g' : GH) : Prop := KE g g' ∧ ∀ i j, 165 ≤ i → g' i j = g i j
def KC (g r : GH) : QJ := fun _ g1 r1 => r1 = r ∧ CE3 g g1
theorem CE3.rf (g : GH) : CE3 g g := ⟨KE.rf g, fun _ _ _ => rfl⟩
theorem CE3.tr {a b c : GH} (h : CE3 a b) (k : CE3 b c) : CE3 a c := ⟨h.1.tr k.1, fun i j z => (k.2 i j z).trans (h.2 i j z)⟩
theorem EQF.ce {g g' : GH} (e : EQF F3 g g') : CE3 g g' := ⟨e.ke, fun i j z => e i (fp_f3 (Or.inl z)) j⟩
theorem up_ce {g : GH} {i j v : Int} (l : i < 165) (h : ¬ KPV i j) : CE3 g (up g i j v) := ⟨up_ke h, fun a b z => up_i (by omega)⟩
theorem nkv (i j : Int) (h : 55 ≤ i ∧ i ≤ 64) : ¬ KPV i j := by unfold KPV; omega
theorem nkv0 (j : Int) : ¬ KPV 0 j := by unfold KPV; omega
theorem ke_104 (hr : RI r) (hc : 0 ≤ g 55 2) : Ce sc (d + 4) 104 [(2, 0), (0, l1)] g r (KC g r) := by
  have k0 : okr 218 0 8 := okd (by decide +kernel)
  have k55 : okr 218 55 3 := okd (by decide +kernel)
  have A : AL 56 11 24 := ⟨okd (by decide +kernel), n_56⟩
  have B : AL 57 11 24 := ⟨okd (by decide +kernel), n_57⟩
  refine c_104 (w_123 (fun q1 q2 => ?_) (fun q => ?_))
  · rw [if_neg (by decide), r_0_13 hr]
    exact ⟨k0, k0, w_132f hr k55 (r_55_0 hr) (r_55_1 hr) A B (by decide) (by decide) (by decide) hc (fun q => ⟨rfl, ((up_ce (by decide) (nkv _ _ (by decide))).tr (up_ce (by decide) (nkv _ _ (by decide)))).tr (up_ce (by decide) (nkv _ _ (by decide)))⟩) (fun q g' e => ⟨rfl, e.ce⟩)⟩
  · rw [if_pos rfl]; exact ⟨k0, t_133n hr (by decide) (by decide) (fun g' e => ⟨rfl, e.ce⟩)⟩
theorem ke_105 (hr : RI r) (hc : 0 ≤ g 55 2 ∧ g 55 2 ≤ 24) : Ce sc (d + 2) 105 [(2, 0)] g r (KC g r) := w_105 hr hc (fun _ => ⟨rfl, up_ce (by decide) (nkv _ _ (by decide))⟩) (fun _ => ⟨rfl, CE3.rf g⟩)
theorem ke_111 (hr : RI r) (hc : 0 ≤ g 58 2) : Ce sc (d + 4) 111 [(2, 0), (0, l1), (0, l2)] g r (KC g r) := by
  have k0 : okr 218 0 8 := okd (by decide +kernel)
  have k58 : okr 218 58 3 := okd (by decide +kernel)
  have A : AL 59 11 9 := ⟨okd (by decide +kernel), n_59⟩
  have B : AL 60 11 9 := ⟨okd (by decide +kernel), n_60⟩
  refine c_111 (w_123 (fun q1 q2 => ?_) (fun q => ?_))
  · rw [if_neg (by decide)]
    refine w_123 (fun q3 q4 => ?_) (fun q => ?_)
    · rw [if_neg (by decide), r_0_14 hr]
      exact ⟨k0, k0, w_132f hr k58 (r_58_0 hr) (r_58_1 hr) A B (by decide) (by decide) (by decide) hc (fun q => ⟨rfl, ((up_ce (by decide) (nkv _ _ (by decide))).tr (up_ce (by decide) (nkv _ _ (by decide)))).tr (up_ce (by decide) (nkv _ _ (by decide)))⟩) (fun q g' e => ⟨rfl, e.ce⟩)⟩
    · rw [if_pos rfl]; exact ⟨k0, t_133n hr (by decide) (by decide) (fun g' e => ⟨rfl, e.ce⟩)⟩
  · rw [if_pos rfl]; exact ⟨k0, t_133n hr (by decide) (by decide) (fun g' e => ⟨rfl, e.ce⟩)⟩
theorem ke_117 (hr : RI r) (hc : 0 ≤ g 62 2) : Ce sc (d + 4) 117 [(2, 0), (0, l1), (0, l2)] g r (KC g r) := by
  have k0 : okr 218 0 8 := okd (by decide +kernel)
  have k62 : okr 218 62 3 := okd (by decide +kernel)
  have A : AL 63 11 8 := ⟨okd (by decide +kernel), n_63⟩
  have B : AL 64 11 8 := ⟨okd (by decide +kernel), n_64⟩
  refine c_117 (w_123 (fun q1 q2 => ?_) (fun q => ?_))
  · rw [if_neg (by decide)]
    refine w_123 (fun q3 q4 => ?_) (fun q => ?_)
    · rw [if_neg (by decide), r_0_16 hr]
      exact ⟨k0, k0, w_132f hr k62 (r_62_0 hr) (r_62_1 hr) A B (by decide) (by decide) (by decide) hc (fun q => ⟨rfl, ((up_ce (by decide) (nkv _ _ (by decide))).tr (up_ce (by decide) (nkv _ _ (by decide)))).tr (up_ce (by decide) (nkv _ _ (by decide)))⟩) (fun q g' e => ⟨rfl, e.ce⟩)⟩
    · rw [if_pos rfl]; exact ⟨k0, t_133n hr (by decide) (by decide) (fun g' e => ⟨rfl, e.ce⟩)⟩
  · rw [if_pos rfl]; exact ⟨k0, t_133n hr (by decide) (by decide) (fun g' e => ⟨rfl, e.ce⟩)⟩
theorem ke_120 (hr : RI r) (hc : 0 ≤ g 0 7 ∧ g 0 7 ≤ 3) : Ce sc (d + 4) 120 [(2, 0)] g r (KC g r) := by
  have k0 : okr 218 0 8 := okd (by decide +kernel)
  have no : Ce sc (d + 3) 133 [(2, 0), (0, 1)] g r (fun v2 g2 r2 => KC g r v2 g2 r2) := t_133n hr (by decide) (by decide) (fun g' e => ⟨rfl, e.ce⟩)
  refine c_120 ⟨k0, ite_c (fun q => ?_) (fun _ => ⟨k0, no⟩)⟩
  rw [r_0_6 hr, r_0_4 hr]
  have hi := im_of hr hc.1 q
  have hI : okI 218 45 14 (g 0 7) ∨ okI 218 45 15 (g 0 7) := by
    first | exact Or.inr (i_45.mpr ⟨hc.1, q⟩) | exact Or.inl (i_45.mpr ⟨hc.1, q⟩)
  rw [if_neg hi.2.2]
  refine ⟨k0, k0, hI, k0, k0, hI, k0, hi.2.1, t_1 (imf_of hr hc.1 q) (br_23 hr).fz (fun v g' e => ⟨k0, k0, fun g2 E2 => ⟨k0, rfl, ?_⟩⟩)⟩
  rw [E2]; exact e.ce.tr (up_ce (by decide) (nkv0 _))
theorem t_121 (hr : RI r) (h : ∀ v g', (v = 0 ∨ v = 1) → EQF F3 g g' → Q v g' r) : Ce sc (d + 4) 121 [(2, 0), (0, l1)] g r Q := by
  have k0 : okr 218 0 8 := okd (by decide +kernel)
  have no : Ce sc (d + 3) 134 [(2, 0), (0, 0)] g r (fun v2 g2 r2 => (v2 = 0 ∨ v2 = 1) ∧ Q v2 g2 r2) := t_134 hr sq3 (by decide) (by decide) (fun g' e => ⟨Or.inl rfl, h _ _ (Or.inl rfl) e⟩)
  refine c_121 ⟨k0, w_123 (fun q1 q2 => ?_) (fun _ => ?_)⟩
  · rw [if_neg (by decide)]
    refine w_123 (fun q3 q4 => ?_) (fun _ => ?_)
    · rw [if_neg (by decide), r_0_6 hr, r_0_4 hr]
      have hi := im_of hr q3 (by omega)
      have hI : okI 218 45 14 l1 ∨ okI 218 45 15 l1 := by
        first | exact Or.inr (i_45.mpr ⟨q3, by omega⟩) | exact Or.inl (i_45.mpr ⟨q3, by omega⟩)
      exact ⟨k0, k0, hI, (brf_23 hr).1, t_1 (brf_23 hr) hi.1.fz (fun v g' e => ⟨Or.inr rfl, h _ _ (Or.inr rfl) e⟩)⟩
    · rw [if_pos rfl]; exact ⟨k0, no⟩
  · rw [if_pos rfl]; exact ⟨k0, no⟩
/-! the model's -/
theorem w_223 (hr : RI r) (hi : MI g) (h1 : (TM g l1 ∧ 0 ≤ l2 ∧ l2 ≤ 100) ∧ g 165 61 < 30 → Q (g 165 61 + 1) (up (up (up g 209 (g 165 61) l1) 210 (g 165 61) l2) 165 61 (g 165 61 + 1)) r) (h0 : ¬ ((TM g l1 ∧ 0 ≤ l2 ∧ l2 ≤ 100) ∧ g 165 61 < 30) → ∀ g', ME g g' → Q (-1) g' r) : Ce sc (d + 2) 223 [(2, 165), (0, l1), (0, l2)] g r Q := by
  have k9 : okr 218 165 9 := okd (by decide +kernel)
  have c := hi.1.2.2.1
  refine c_223 ⟨k9, w_140 hr (fun t => ?_) (fun t => ?_)⟩
  · rw [if_neg (by decide)]
    refine w_137 (fun q1 q2 => ?_) (fun q => ?_)
    · rw [if_neg (by decide), r_165_62 hr, r_165_63 hr]
      refine ⟨k9, ite_c (fun q => ⟨k9, s_138 hr (by decide) (by decide) (h0 (fun z => by omega))⟩) (fun q => ⟨k9, k9, i_209.mpr ⟨by omega, by omega⟩, fun g1 e1 => ⟨k9, k9, ?_, fun g2 e2 => ⟨k9, k9, fun g3 e3 => ⟨k9, ?_⟩⟩⟩⟩)⟩
      · rw [e1, up_i (by decide)]; exact i_210.mpr ⟨by omega, by omega⟩
      · have f1 : g1 165 61 = g 165 61 := by rw [e1, up_i (by decide)]
        have f2 : g2 165 61 = g 165 61 := by rw [e2, up_i (by decide), f1]
        have e3' : g3 = up (up (up g 209 (g 165 61) l1) 210 (g 165 61) l2) 165 61 (g 165 61 + 1) := by rw [e3, f2, e2, f1, e1, wr_id ⟨by omega, by omega⟩]
        have hv : g3 165 61 = g 165 61 + 1 := by rw [e3', up_s]
        rw [hv, e3']
        exact h1 ⟨⟨t, q1, q2⟩, by omega⟩
    · rw [if_pos rfl]; exact ⟨k9, s_138 hr (by decide) (by decide) (h0 (fun z => q z.1.2))⟩
  · rw [if_pos rfl]; exact ⟨k9, s_138 hr (by decide) (by decide) (h0 (fun z => t z.1.1))⟩
theorem ke_228 (hr : RI r) (hi : MI g) : Ce sc (d + 2) 228 [(2, 165), (0, l1)] g r (KR g r) := s_228 hr hi (fun _ _ => ⟨rfl, (up_ke (by unfold KPV; omega)).tr (up_ke (by unfold KPV; omega))⟩) (fun _ g2 e2 => ⟨rfl, e2.ke⟩)
theorem ke_229 (hr : RI r) (hi : MI g) : Ce sc (d + 1) 229 [(2, 165)] g r (KR g r) := w_229 hr hi (fun _ _ => ⟨rfl, up_ke (by unfold KPV; omega)⟩) (fun _ => ⟨rfl, KE.rf g⟩)
theorem ke_236 (hr : RI r) (hi : MI g) : Ce sc (d + 2) 236 [(2, 165), (0, l1), (0, l2)] g r (KR g r) := by
  have k9 : okr 218 165 9 := okd (by decide +kernel)
  have c := hi.1.2.2.2.2.1
  refine c_236 (w_137 (fun q1 q2 => ?_) (fun q => ?_))
  · rw [if_neg (by decide)]
    refine w_137 (fun q3 q4 => ?_) (fun q => ?_)
    · rw [if_neg (by decide), r_165_67 hr, r_165_68 hr]
      refine ⟨k9, ite_c (fun q => ⟨k9, s_138 hr (by decide) (by decide) (fun g' e => ⟨rfl, e.ke⟩)⟩) (fun q => ⟨k9, k9, i_212.mpr ⟨by omega, by omega⟩, fun g1 e1 => ⟨k9, k9, ?_, fun g2 e2 => ⟨k9, k9, fun g3 e3 => ⟨k9, rfl, ?_⟩⟩⟩⟩)⟩
      · rw [e1, up_i (by decide)]; exact i_213.mpr ⟨by omega, by omega⟩
      · rw [e3, e2, e1]
        exact ((up_ke (by unfold KPV; omega)).tr (up_ke (by unfold KPV; omega))).tr (up_ke (by unfold KPV; omega))
    · rw [if_pos rfl]; exact ⟨k9, s_138 hr (by decide) (by decide) (fun g' e => ⟨rfl, e.ke⟩)⟩
  · rw [if_pos rfl]; exact ⟨k9, s_138 hr (by decide) (by decide) (fun g' e => ⟨rfl, e.ke⟩)⟩
theorem ke_240 (hr : RI r) (hi : MI g) : Ce sc (d + 2) 240 [(2, 165), (0, l1), (0, l2)] g r (KR g r) := by
  have k9 : okr 218 165 9 := okd (by decide +kernel)
  have c := hi.1.2.2.2.2.2.1
  refine c_240 (w_137 (fun q1 q2 => ?_) (fun q => ?_))
  · rw [if_neg (by decide)]
    refine w_137 (fun q3 q4 => ?_) (fun q => ?_)
    · rw [if_neg (by decide), r_165_71 hr, r_165_72 hr]
      refine ⟨k9, ite_c (fun q => ⟨k9, s_138 hr (by decide) (by decide) (fun g' e => ⟨rfl, e.ke⟩)⟩) (fun q => ⟨k9, k9, i_215.mpr ⟨by omega, by omega⟩, fun g1 e1 => ⟨k9, k9, ?_, fun g2 e2 => ⟨k9, k9, fun g3 e3 => ⟨k9, rfl, ?_⟩⟩⟩⟩)⟩
      · rw [e1, up_i (by decide)]; exact i_216.mpr ⟨by omega, by omega⟩
      · rw [e3, e2, e1]
        exact ((up_ke (by unfold KPV; omega)).tr (up_ke (by unfold KPV; omega))).tr (up_ke (by unfold KPV; omega))
    · rw [if_pos rfl]; exact ⟨k9, s_138 hr (by decide) (by decide) (fun g' e => ⟨rfl, e.ke⟩)⟩
  · rw [if_pos rfl]; exact ⟨k9, s_138 hr (by decide) (by decide) (fun g' e => ⟨rfl, e.ke⟩)⟩
theorem ke_244 (hr : RI r) (hi : MI g) : Ce sc (d + 2) 244 [(2, 165)] g r (KR g r) := by
  have k9 : okr 218 165 9 := okd (by decide +kernel)
  have c := hi.1.2.1
  refine c_244 ⟨k9, ite_c (fun _ => ⟨k9, s_138 hr (by decide) (by decide) (fun g' e => ⟨rfl, e.ke⟩)⟩) (fun q => ?_)⟩
  refine ⟨k9, k9, fun g1 e1 => ?_⟩
  rw [wr_id ⟨by omega, by omega⟩] at e1
  have f1 : g1 165 48 = g 165 48 + 1 := by rw [e1, up_s]
  have mb1 : MB g1 := mb_eq (fun i j h => by rw [e1, up_i (by omega)]) hi.2.1
  have k1 : KE g g1 := by rw [e1]; exact up_ke (by unfold KPV; omega)
  rw [f1]
  refine ⟨k9, k9, s_192 hr mb1 (by decide) (by decide) (by omega) (by omega) (fun v g2 e2 => ?_)⟩
  have f2 : g2 165 48 = g 165 48 + 1 := (e2.1 165 48 (by unfold MV; omega)).trans f1
  rw [f2, r_165_47 hr]
  refine ⟨k9, k9, k9, i_202.mpr ⟨by omega, by omega⟩, fun g3 e3 => ⟨k9, rfl, ?_⟩⟩
  rw [e3]
  exact (k1.tr e2.ke).tr (up_ke (by unfold KPV; omega))
end SC3
