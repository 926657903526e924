/-! the reference's reading of a mill comes to its end -/
theorem EXC.pre {a : Int} {g g2 g' : GH} (c : CK a g g2) (f : g 165 28 ≤ g2 165 28) (h : EXC a g2 g') : EXC a g g' := ⟨c.tr h.1, h.2.1, h.2.2.1, h.2.2.2.1, Int.le_trans f h.2.2.2.2.1, h.2.2.2.2.2⟩
section MPE
variable {sc : SCR} {d : Nat} {Q : QJ} {g r : GH} {l0 l1 l2 l3 l4 l5 l6 l7 l8 l9 l10 l11 l12 t0 : Int}
theorem s_154 (hr : RI r) (hv : RV g) (w0 : 2450 ≤ g 165 31) (wb : 2 * (g 165 31 - 2450) ≤ g 165 28) (h : ∀ v g', EXC (g 165 31) g g' → Q v g' r) : Ce sc (d + 6) 154 [(2, 165)] g r Q := by
  have k9 : okr 218 165 9 := okd (by decide +kernel)
  have end0 : ∀ g', EXC (g 165 31) g g' → WQ sc (d + 5) 154 Q 14 [(2, 165), (0, 0), (9, 0)] [] g' r := fun g' e => b_154_14 (ite_c (fun _ => h _ _ e) (fun z => absurd rfl z))
  have loop : ∀ i : Int, ∀ (n : Nat) g1, CS (g 165 31) n 0 g1 → CK (g 165 31) g g1 → g 165 28 ≤ g1 165 28 → g1 165 28 = i → WQ sc (d + 5) 154 Q 14 [(2, 165), (0, 1), (9, 0)] [] g1 r := by
    refine upG 701 fun i ih n g1 hc c f ei => ?_
    have rv := hc.1
    have lt : i < 701 := by
      have := rv.2.1
      have := rv.2.2.2.1
      have := rv.2.2.2.2.1
      omega
    have e36 := hc.2.1
    have n9 := hc.2.2.1
    have e77 : n < 9 → g1 165 29 ≠ 0 → ∀ o, (o = 1 → g1 165 28 + 2 ≤ g1 165 27) → WQ sc (d + 5) 154 Q 77 [(2, 165), (0, 1), (9, 0)] [(0, o), (0, g1 165 36), (2, 190)] g1 r := by
      intro hn ht o ho
      rw [e36]
      refine b_154_77 ⟨i_190.mpr ⟨by omega, by omega⟩, fun g2 e2 => ?_⟩
      have f36 : g2 165 36 = (n : Int) := by rw [e2, up_i (by decide)]; exact e36
      have ew : wr (g2 165 36 + 1) = ((n + 1 : Nat) : Int) := by rw [f36, wr_id ⟨by omega, by omega⟩]; omega
      rw [ew]
      refine ⟨k9, k9, fun g3 e3 => ?_⟩
      have f363 : g3 165 36 = ((n + 1 : Nat) : Int) := by rw [e3, up_s]
      rw [r_165_35 hr, f363]
      refine ⟨k9, k9, i_191.mpr ⟨by omega, by omega⟩, fun g4 e4 => ⟨k9, ?_⟩⟩
      have key : ∀ j, j ≠ 36 → g4 165 j = g1 165 j := fun j hj => by rw [e4, up_i (by decide), e3, up_j hj, e2, up_i (by decide)]
      have rv4 : RV g4 := by
        unfold RV at rv ⊢
        rw [key 26 (by decide), key 27 (by decide), key 28 (by decide), key 29 (by decide), key 32 (by decide)]; exact rv
      have lt28 := rv.2.2.2.2.2.2 ht
      have k27 := key 27 (by decide)
      have c4 : CK (g 165 31) g g4 := by
        rw [e4, e3, e2]
        exact ((c.u (by omega)).u (by omega)).u (by omega)
      refine x_144 hr rv4 (fun _ g5 o5 p5 rv5 rs5 => ?_)
      have h5 : CS (g 165 31) (n + 1) 0 g5 := hc.op (o := o) hn (by rw [e4, e3, e2]) rv5 rs5.1 (by omega) (fun z => by have := ho z; omega)
      exact ih lt (g5 165 28) (by omega) (n + 1) g5 h5 (c4.rx rs5.1) (by omega) rfl
    have e46 : g1 165 29 ≠ 0 → ∀ v : Int, (v ≠ 0 → g1 165 28 + 2 ≤ g1 165 27) → WQ sc (d + 5) 154 Q 46 [(2, 165), (0, 1), (0, v)] [] g1 r := by
      intro ht v hv2
      refine b_154_46 ⟨k9, ite_c (fun _ => ⟨k9, s_145 rv (fun _ g' rs z _ => h _ _ (hc.ex c f rs z))⟩) (fun q => ⟨k9, k9, ?_⟩)⟩
      rw [r_165_34 hr]
      exact ite_c (fun _ => e77 (by omega) ht 2 (fun z => absurd z (by decide))) (fun z => e77 (by omega) ht 1 (fun _ => hv2 z))
    refine b_154_14 (ite_c (fun z => absurd z (by decide)) (fun _ => ⟨k9, ite_c (fun z33 => ⟨k9, s_146 (fun _ b cc => ?_) ?_⟩) (fun z => h _ _ (hc.ex c f (RS2.rf rv) z))⟩))
    · rw [if_neg (by decide)]
      exact e46 (by omega) 1 (fun _ => by have := rv.2.2.2.2.2.1 b; omega)
    · rw [if_pos rfl]
      refine ⟨k9, ite_c (fun z40 => e46 (by omega) 0 (fun z => absurd rfl z)) (fun _ => ⟨k9, s_152 hr hc c f (fun _ g2 ex z => ⟨k9, ite_c (fun y => absurd y z) (fun _ => end0 _ ex)⟩) (fun _ g2 h2 c2 f2 => ⟨k9, ite_c (fun _ => ⟨k9, ?_⟩) (fun z => end0 _ (h2.ex c2 (by omega) (RS2.rf h2.1) z))⟩)⟩)⟩
      refine s_153 (g0 := g2) hr (fun n' g3 h3 c3 f3 => ?_) (fun g3 ex => ?_) n g2 h2 (CK.rf _ _) (Int.le_refl _)
      · rw [if_neg (by decide)]
        exact ih lt (g3 165 28) (by omega) n' g3 h3 (c2.tr c3) (by omega) rfl
      · rw [if_pos rfl]
        exact end0 _ (ex.pre c2 (by omega))
  refine c_154 ⟨k9, fun g1 e1 => ⟨k9, ?_⟩⟩
  rw [r_165_35 hr]
  refine ⟨i_191.mpr ⟨by decide, by decide⟩, fun g2 e2 => ?_⟩
  have key : ∀ i j, ¬ (i = 165 ∧ j = 36) → i ≠ 191 → g2 i j = g i j := fun i j a b => by rw [e2, up_i b, e1, up_o a]
  have z0 : g2 191 ((0 : Nat) : Int) = 0 := by rw [e2]; exact up_s
  have hs0 : hsF g2 0 = 0 := by
    show jn (g2 191 ((0 : Nat) : Int)) = 0
    rw [z0]; decide
  have k31 := key 165 31 (by decide) (by decide)
  have k28 := key 165 28 (by decide) (by decide)
  have hc : CS (g 165 31) 0 0 g2 := by
    refine ⟨?_, by rw [e2, up_i (by decide), e1, up_s]; rfl, by decide, fun i hi => ?_, fun i hi => absurd hi (by omega), w0, by omega, ?_, ?_⟩
    · unfold RV at hv ⊢
      rw [key 165 26 (by decide) (by decide), key 165 27 (by decide) (by decide), k28, key 165 29 (by decide) (by decide), key 165 32 (by decide) (by decide)]; exact hv
    · have : i = 0 := by omega
      rw [this, z0]; decide
    · rw [k31, hs0]
      exact ⟨fun _ => 0, rfl, rfl, fun k k0 k1 => absurd k1 (by omega)⟩
    · have n0 : nF g2 0 = 0 := rfl
      rw [k31, k28, hs0, n0]; omega
  refine loop (g2 165 28) 0 g2 hc ?_ (by omega) rfl
  rw [e2, e1]
  exact ((CK.rf _ g).u (by omega)).u (by omega)
end MPE
/-- what the reading of a mill may write -/
def WX (g g' : GH) : Prop := ∀ i j, ¬ (i = 165 ∧ ((25 ≤ j ∧ j ≤ 33) ∨ j = 36)) → i ≠ 190 → i ≠ 191 → ¬ (168 ≤ i ∧ i ≤ 180 ∧ j = 7) → ¬ (182 ≤ i ∧ i ≤ 184 ∧ 210 ≤ j) → ¬ (185 ≤ i ∧ i ≤ 188 ∧ 2450 ≤ j) → g' i j = g i j
def RW (g g' : GH) : Prop := WX g g' ∧ RV g' ∧ g 165 28 ≤ g' 165 28 ∧ (g 165 33 ≠ 0 → g' 165 33 ≠ 0) ∧ (MB g → MB g')
theorem RW.tr {a b c : GH} (h1 : RW a b) (h2 : RW b c) : RW a c := ⟨fun i j p q r s t u => (h2.1 i j p q r s t u).trans (h1.1 i j p q r s t u), h2.2.1, Int.le_trans h1.2.2.1 h2.2.2.1, fun z => h2.2.2.2.1 (h1.2.2.2.1 z), fun z => h2.2.2.2.2 (h1.2.2.2.2 z)⟩
theorem RW.rf {g : GH} (h : RV g) : RW g g := ⟨fun _ _ _ _ _ _ _ _ => rfl, h, Int.le_refl _, fun z => z, fun z => z⟩
theorem mb_eq {g g' : GH} (e : ∀ i j, i = 168 ∨ i = 197 ∨ i = 198 ∨ i = 204 ∨ i = 207 → g' i j = g i j) (h : MB g) : MB g' := by
  obtain ⟨q1, q2, q3, q4, q5⟩ := h
  exact ⟨fun k => by rw [e 168 k (by omega)]; exact q1 k, fun k => by rw [e 198 k (by omega)]; exact q2 k, fun k => by rw [e 204 k (by omega)]; exact q3 k, fun s a b => by rw [e 197 s (by omega)]; exact q4 s a b, fun k => by rw [e 207 k (by omega)]; exact q5 k⟩
theorem RS2.rw' {g g' : GH} (h : RS2 g g') : RW g g' := ⟨fun i j p _ _ _ _ _ => h.1 i j (by omega), h.2.1, h.2.2.1, h.2.2.2, mb_eq (fun i j hi => h.1 i j (by omega))⟩
theorem rv_eq {g g' : GH} (h : RV g) (e : ∀ j, j ≠ 31 → g' 165 j = g 165 j) : RV g' := by
  unfold RV at h ⊢
  rw [e 26 (by decide), e 27 (by decide), e 28 (by decide), e 29 (by decide), e 32 (by decide)]; exact h
/-- a number of the mill that is read is set -/
theorem RW.u7 {a b : GH} {x v : Int} (h : RW a b) (hx : 169 ≤ x ∧ x ≤ 180) : RW a (up b x 7 v) := by
  have ne : ∀ i j, ¬ (i = x ∧ j = 7) → up b x 7 v i j = b i j := fun i j hi => up_o hi
  refine ⟨fun i j p q r s t u => (ne i j (by omega)).trans (h.1 i j p q r s t u), rv_eq h.2.1 (fun j _ => ne 165 j (by omega)), by rw [ne 165 28 (by omega)]; exact h.2.2.1, fun z => by rw [ne 165 33 (by omega)]; exact h.2.2.2.1 z, fun z => mb_eq (fun i j hi => ne i j (by omega)) (h.2.2.2.2 z)⟩
theorem RW.ug {a b : GH} {x j0 v : Int} (h : RW a b) (hx : 182 ≤ x ∧ x ≤ 184 ∧ 210 ≤ j0) : RW a (up b x j0 v) := by
  have ne : ∀ i j, ¬ (i = x ∧ j = j0) → up b x j0 v i j = b i j := fun i j hi => up_o hi
  refine ⟨fun i j p q r s t u => (ne i j (by omega)).trans (h.1 i j p q r s t u), rv_eq h.2.1 (fun j _ => ne 165 j (by omega)), by rw [ne 165 28 (by omega)]; exact h.2.2.1, fun z => by rw [ne 165 33 (by omega)]; exact h.2.2.2.1 z, fun z => mb_eq (fun i j hi => ne i j (by omega)) (h.2.2.2.2 z)⟩
theorem RW.u8 {a b : GH} {v : Int} (h : RW a b) (hv : v = 0 ∨ v = 1) : RW a (up b 168 7 v) := by
  have ne : ∀ i j, ¬ (i = 168 ∧ j = 7) → up b 168 7 v i j = b i j := fun i j hi => up_o hi
  refine ⟨fun i j p q r s t u => (ne i j (by omega)).trans (h.1 i j p q r s t u), rv_eq h.2.1 (fun j _ => ne 165 j (by omega)), by rw [ne 165 28 (by omega)]; exact h.2.2.1, fun z => by rw [ne 165 33 (by omega)]; exact h.2.2.2.1 z, fun z => ?_⟩
  obtain ⟨q1, q2, q3, q4, q5⟩ := h.2.2.2.2 z
  refine ⟨fun k => ?_, fun k => by rw [ne 198 k (by omega)]; exact q2 k, fun k => by rw [ne 204 k (by omega)]; exact q3 k, fun s s0 s1 => by rw [ne 197 s (by omega)]; exact q4 s s0 s1, fun k => by rw [ne 207 k (by omega)]; exact q5 k⟩
  by_cases y : k = 7
  · rw [y, up_s]; exact hv
  · rw [up_j y]; exact q1 k
section MPF
variable {sc : SCR} {d : Nat} {Q : QJ} {g r : GH} {l0 l1 l2 l3 l4 l5 l6 l7 l8 l9 l10 l11 l12 t0 : Int}
theorem s_155 (hr : RI r) (hv : RV g) (h : ∀ v g', RW g g' → (∀ i, 175 ≤ i ∧ i ≤ 180 → g' i 7 = g i 7) → g' 165 31 = g 165 31 → (g' 165 33 = 0 → 4 ≤ g' 171 7 ∧ g' 171 7 ≤ 80 ∧ 0 ≤ g' 174 7 ∧ g' 174 7 ≤ 90) → Q v g' r) : Ce sc (d + 5) 155 [(2, 165)] g r Q := by
  have k9 : okr 218 165 9 := okd (by decide +kernel)
  -- the last words
  have e138 : ∀ g1 t2, RW g g1 → (∀ i, 175 ≤ i ∧ i ≤ 180 → g1 i 7 = g i 7) → g1 165 31 = g 165 31 → (g1 165 33 = 0 → 4 ≤ g1 171 7 ∧ g1 171 7 ≤ 80) → WQ sc (d + 4) 155 Q 138 [(2, 165), (0, 7)] [(0, t2), (0, 7), (2, 173)] g1 r := by
    intro g1 t2 e1 k1 w1 b1
    refine b_155_138 ⟨i_173.mpr ⟨by decide, by decide⟩, fun g2 e2 => ?_⟩
    have r2 : RW g g2 := by rw [e2]; exact e1.u7 (by omega)
    have ne2 : ∀ i j, ¬ (i = 173 ∧ j = 7) → g2 i j = g1 i j := fun i j hi => by rw [e2, up_o hi]
    have fin : ∀ g3 g4 v, RW g2 g3 → (∀ i j, ¬ (i = 165) → g3 i j = g2 i j) → g3 165 31 = g2 165 31 → (g3 165 33 = 0 → 0 ≤ v ∧ v ≤ 90) → g4 = up g3 174 7 v → Q 0 g4 r := by
      intro g3 g4 v r3 n3 w3 bv e4
      have n4 : ∀ i j, ¬ (i = 174 ∧ j = 7) → g4 i j = g3 i j := fun i j hi => by rw [e4, up_o hi]
      refine h _ _ (by rw [e4]; exact (r2.tr r3).u7 (by omega)) (fun i hi => by rw [n4 i 7 (by omega), n3 i 7 (by omega), ne2 i 7 (by omega)]; exact k1 i hi) (by rw [n4 165 31 (by omega), w3, ne2 165 31 (by omega)]; exact w1) (fun z => ?_)
      rw [n4 165 33 (by omega)] at z
      have z1 : g1 165 33 = 0 := by
        by_cases y : g1 165 33 = 0
        · exact y
        · exact absurd z (r3.2.2.2.1 (by rw [ne2 165 33 (by omega)]; exact y))
      have := b1 z1
      have := bv z
      have e74 : g4 174 7 = v := by rw [e4, up_s]
      rw [n4 171 7 (by omega), n3 171 7 (by omega), ne2 171 7 (by omega), e74]
      omega
    rw [r_165_8 hr]
    refine ⟨k9, k9, s_147 hr r2.2.1 (by decide) (fun g3 _ o3 rs3 p3 => ?_) ?_⟩
    · rw [if_neg (by decide)]
      refine ⟨k9, s_149 hr rs3.2.1 (fun v g4 rs4 bv => ⟨i_174.mpr ⟨by decide, by decide⟩, fun g5 e5 => fin g4 g5 v (rs3.tr rs4).rw' (fun i j hi => (rs3.tr rs4).1 i j (by omega)) ((rs3.tr rs4).1 165 31 (by decide)) bv e5⟩)⟩
    · rw [if_pos rfl]
      exact ⟨i_174.mpr ⟨by decide, by decide⟩, fun g5 e5 => fin g2 g5 10 (RW.rf r2.2.1) (fun _ _ _ => rfl) rfl (fun _ => by decide) e5⟩
  -- the numbers
  have e39 : ∀ g1, RW g g1 → (∀ i, 175 ≤ i ∧ i ≤ 180 → g1 i 7 = g i 7) → g1 165 31 = g 165 31 → WQ sc (d + 4) 155 Q 39 [(2, 165), (0, 7)] [] g1 r := by
    intro g1 e1 k1 w1
    refine b_155_39 ⟨k9, k9, s_149 hr e1.2.1 (fun v1 g2 s2 _ => ?_)⟩
    rw [r_165_3 hr]
    refine ⟨i_169.mpr ⟨by decide, by decide⟩, fun g3 e3 => ⟨k9, ?_⟩⟩
    have r3 : RW g g3 := by rw [e3]; exact (e1.tr s2.rw').u7 (by omega)
    have n3 : ∀ i j, i ≠ 165 → i ≠ 169 → g3 i j = g1 i j := fun i j a b => by rw [e3, up_i b]; exact s2.1 i j (by omega)
    have w3 : g3 165 31 = g1 165 31 := by rw [e3, up_i (by decide)]; exact s2.1 165 31 (by decide)
    refine s_148 hr r3.2.1 (by decide) (fun _ g4 s4 => ⟨k9, k9, s_149 hr s4.2.1 (fun v2 g5 s5 _ => ?_)⟩)
    rw [r_165_4 hr]
    refine ⟨i_170.mpr ⟨by decide, by decide⟩, fun g6 e6 => ⟨k9, ?_⟩⟩
    have s45 := s4.tr s5
    have r6 : RW g g6 := by rw [e6]; exact (r3.tr s45.rw').u7 (by omega)
    have n6 : ∀ i j, i ≠ 165 → i ≠ 169 → i ≠ 170 → g6 i j = g1 i j := fun i j a b c => by rw [e6, up_i c, s45.1 i j (by omega)]; exact n3 i j a b
    have w6 : g6 165 31 = g1 165 31 := by rw [e6, up_i (by decide), s45.1 165 31 (by decide)]; exact w3
    refine s_148 hr r6.2.1 (by decide) (fun _ g7 s7 => ⟨k9, k9, s_149 hr s7.2.1 (fun v3 g8 s8 b8 => ?_)⟩)
    rw [r_165_5 hr]
    refine ⟨i_171.mpr ⟨by decide, by decide⟩, fun g9 e9 => ⟨k9, ?_⟩⟩
    have s78 := s7.tr s8
    have r9 : RW g g9 := by rw [e9]; exact (r6.tr s78.rw').u7 (by omega)
    have n9 : ∀ i j, i ≠ 165 → i ≠ 169 → i ≠ 170 → i ≠ 171 → g9 i j = g1 i j := fun i j a b c q => by rw [e9, up_i q, s78.1 i j (by omega)]; exact n6 i j a b c
    have w9 : g9 165 31 = g1 165 31 := by rw [e9, up_i (by decide), s78.1 165 31 (by decide)]; exact w6
    have b9 : g9 165 33 = 0 → 4 ≤ g9 171 7 ∧ g9 171 7 ≤ 80 := fun z => by
      rw [e9, up_i (by decide)] at z
      rw [e9, up_s]; exact b8 z
    refine s_148 hr r9.2.1 (by decide) (fun _ g10 s10 => ⟨k9, k9, s_149 hr s10.2.1 (fun v4 g11 s11 _ => ?_)⟩)
    rw [r_165_6 hr]
    refine ⟨i_172.mpr ⟨by decide, by decide⟩, fun g12 e12 => ⟨k9, k9, ?_⟩⟩
    have s101 := s10.tr s11
    have r12 : RW g g12 := by rw [e12]; exact (r9.tr s101.rw').u7 (by omega)
    have n12 : ∀ i j, i ≠ 165 → i ≠ 172 → g12 i j = g9 i j := fun i j a c => by rw [e12, up_i c]; exact s101.1 i j (by omega)
    have w12 : g12 165 31 = g1 165 31 := by rw [e12, up_i (by decide), s101.1 165 31 (by decide)]; exact w9
    have m12 : g9 165 33 ≠ 0 → g12 165 33 ≠ 0 := fun z => by rw [e12, up_i (by decide)]; exact s101.2.2.2 z
    have last : ∀ g13 t2, RS2 g12 g13 → WQ sc (d + 4) 155 Q 138 [(2, 165), (0, 7)] [(0, t2), (0, 7), (2, 173)] g13 r := by
      intro g13 t2 s13
      refine e138 g13 t2 (r12.tr s13.rw') (fun i hi => by rw [s13.1 i 7 (by omega), n12 i 7 (by omega) (by omega), n9 i 7 (by omega) (by omega) (by omega) (by omega)]; exact k1 i hi) (by rw [s13.1 165 31 (by decide), w12]; exact w1) (fun z => ?_)
      have z9 : g9 165 33 = 0 := by
        by_cases y : g9 165 33 = 0
        · exact y
        · exact absurd z (s13.2.2.2 (m12 y))
      rw [s13.1 171 7 (by decide), n12 171 7 (by decide) (by decide)]
      exact b9 z9
    rw [r_165_7 hr]
    refine s_147 hr r12.2.1 (by decide) (fun g13 _ o13 s13 _ => ?_) ?_
    · rw [if_neg (by decide)]
      exact ⟨k9, s_149 hr s13.2.1 (fun v5 g14 s14 _ => last _ _ (s13.tr s14))⟩
    · rw [if_pos rfl]; exact last _ _ (RS2.rf r12.2.1)
  refine c_155 ⟨k9, s_148 hr hv (by decide) (fun _ g1 s1 => ⟨k9, k9, ?_⟩)⟩
  have bool : ∀ v2 g2, (v2 = 0 ∨ v2 = 1) → RS2 g1 g2 → ((okI 218 168 10 7 ∧ i_b v2 = v2) ∨ (okI 218 168 13 7 ∧ (v2 = 0 ∨ v2 = 1))) ∧ ∀ g3, g3 = up g2 168 7 v2 → okr 218 165 9 ∧ (okI 218 168 10 7 ∨ okI 218 168 13 7) ∧ (if (g3 168 7) = 0 then okr 218 165 9 ∧ Ce sc (d + 4) 148 [(2, 165), (1, 11438892)] g3 r fun v3 g4 r3 => WQ sc (d + 4) 155 Q 39 [(2, 165), (0, 7)] [] g4 r3 else WQ sc (d + 4) 155 Q 39 [(2, 165), (0, 7)] [] g3 r) := by
    intro v2 g2 hv2 s2
    refine ⟨Or.inr ⟨i_168.mpr ⟨by decide, by decide⟩, hv2⟩, fun g3 e3 => ?_⟩
    have s12 := s1.tr s2
    have r3 : RW g g3 := by rw [e3]; exact s12.rw'.u8 hv2
    have n3 : ∀ i j, i ≠ 165 → i ≠ 168 → g3 i j = g i j := fun i j a b => by rw [e3, up_i b]; exact s12.1 i j (by omega)
    have w3 : g3 165 31 = g 165 31 := by rw [e3, up_i (by decide)]; exact s12.1 165 31 (by decide)
    refine ⟨k9, Or.inr (i_168.mpr ⟨by decide, by decide⟩), ite_c (fun _ => ⟨k9, s_148 hr r3.2.1 (by decide) (fun _ g4 s4 => e39 _ (r3.tr s4.rw') (fun i hi => by rw [s4.1 i 7 (by omega)]; exact n3 i 7 (by omega) (by omega)) (by rw [s4.1 165 31 (by decide)]; exact w3))⟩) (fun _ => e39 _ r3 (fun i hi => n3 i 7 (by omega) (by omega)) w3)⟩
  refine s_147 hr s1.2.1 (by decide) (fun g2 _ _ s2 _ => ?_) ?_
  · rw [r_165_2 hr]; exact bool 1 g2 (Or.inr rfl) s2
  · rw [r_165_2 hr]; exact bool 0 g1 (Or.inl rfl) (RS2.rf s1.2.1)
end MPF
