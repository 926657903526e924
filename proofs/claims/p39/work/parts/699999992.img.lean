/-! images, and a mill told: both sides -/
section IM6
variable {sc : SCR} {d : Nat} {Q : QJ} {g r b : GH} {l0 l1 l2 l3 l4 l5 x s p a n m v w k : Int}
theorem r_45 (hr : RI r) (k0 : 0 ≤ k) (k3 : k < 3) : r 45 k = 132 + 11 * k := by
  have e : k = 0 ∨ k = 1 ∨ k = 2 := by omega
  rcases e with rfl | rfl | rfl
  · rw [r_45_0 hr]; decide
  · rw [r_45_1 hr]; decide
  · rw [r_45_2 hr]; decide
theorem bx_im (k0 : 0 ≤ k) (k3 : k < 3) : BX (132 + 11 * k) := by
  unfold BX
  omega
theorem f_120 (hr : RI r) (hc : 0 ≤ g 0 7 ∧ g 0 7 ≤ 3) (h1 : g 0 7 < 3 → ∀ g', (∀ i j, ¬ (132 + 11 * g 0 7 ≤ i ∧ i ≤ 132 + 11 * g 0 7 + 7) → ¬ (i = 0 ∧ j = 7) → g' i j = g i j) → g' (132 + 11 * g 0 7) 3 = g 23 3 → (∀ b, CBR 23 g b → CBR (132 + 11 * g 0 7) g' b) → Q (g 0 7) g' r) (h0 : ¬ g 0 7 < 3 → Q (-1) (up g 65 1 (wr (g 65 1 + 1))) r) : Ce sc (d + 4) 120 [(2, 0)] g r Q := by
  have k0 : okr 218 0 8 := okd (by decide +kernel)
  refine c_120 ⟨k0, ite_c (fun q => ?_) (fun q => ⟨k0, w_133 hr (by decide) (by decide) (h0 q)⟩)⟩
  rw [r_0_6 hr, r_0_4 hr, r_45 hr hc.1 q]
  have hI : okI 218 45 14 (g 0 7) ∨ okI 218 45 15 (g 0 7) := by
    first | exact Or.inr (i_45.mpr ⟨hc.1, q⟩) | exact Or.inl (i_45.mpr ⟨hc.1, q⟩)
  have hx := bx_im hc.1 q
  rw [if_neg (show ¬ 132 + 11 * g 0 7 = -1 by omega)]
  refine ⟨k0, k0, hI, k0, k0, hI, k0, (bro_of hr hx).1, f_1 (d := d + 2) hr hx (Or.inl rfl) (by omega) (fun g1 fr z3 cb => ⟨k0, k0, fun g2 e2 => ⟨k0, ?_⟩⟩)⟩
  have f7 : g1 0 7 = g 0 7 := fr 0 7 (by omega)
  rw [f7, wr_id (x := g 0 7 + 1) ⟨by omega, by omega⟩] at e2
  have e7 : g2 0 7 = g 0 7 + 1 := by rw [e2, up_s]
  rw [e7, wr_id (x := g 0 7 + 1 - 1) ⟨by omega, by omega⟩, show g 0 7 + 1 - 1 = g 0 7 by omega]
  exact h1 q g2 (fun i j h h' => by rw [e2, up_o h']; exact fr i j h) (by rw [e2, up_i (by omega)]; exact z3) (fun b c => (cb b c).fr (fun i j i0 i1 => by rw [e2, up_i (by omega)]))
theorem f_244 (hr : RI r) (hi : MI g) (h1 : g 165 48 < 3 → ∀ g', (∀ i j, ¬ ((i = 192 ∨ i = 198) ∧ 40 * (g 165 48 + 1) ≤ j ∧ j < 40 * (g 165 48 + 1) + 40) → ¬ (193 ≤ i ∧ i ≤ 199 ∧ i ≠ 197 ∧ i ≠ 198 ∧ 6 * (g 165 48 + 1) ≤ j ∧ j < 6 * (g 165 48 + 1) + 6) → ¬ ((i = 197 ∨ i = 200 ∨ i = 201 ∨ i = 202) ∧ j = g 165 48 + 1) → ¬ (i = 165 ∧ j = 48) → g' i j = g i j) → g' 165 48 = g 165 48 + 1 → g' 202 (g 165 48 + 1) = g 165 49 → (∀ b, MBR 0 g b → MBR (g 165 48 + 1) g' b) → Q (g 165 48) g' r) (h0 : ¬ g 165 48 < 3 → Q (-1) (up g 166 1 (wr (g 166 1 + 1))) r) : Ce sc (d + 2) 244 [(2, 165)] g r Q := by
  have k9 : okr 218 165 9 := okd (by decide +kernel)
  have c := hi.1.2.1
  refine c_244 ⟨k9, ite_c (fun q => ⟨k9, w_138 hr (by decide) (by decide) (h0 (by omega))⟩) (fun q => ⟨k9, k9, fun g1 e1 => ?_⟩)⟩
  rw [wr_id (x := g 165 48 + 1) ⟨by omega, by omega⟩] at e1
  have f1 : g1 165 48 = g 165 48 + 1 := by rw [e1, up_s]
  have lo : ∀ i j, ¬ (i = 165 ∧ j = 48) → g1 i j = g i j := fun i j h => by rw [e1, up_o h]
  rw [f1]
  refine ⟨k9, k9, f_192 (d := d) hr (by decide) (by decide) (by omega) (by omega) (by omega) (fun k => by rw [lo 198 k (by omega)]; exact hi.2.1.2.1 k) (fun g2 fc mb => ⟨k9, k9, k9, ?_⟩)⟩
  have f2 : g2 165 48 = g 165 48 + 1 := (fc 165 48 (by omega) (by omega) (by omega)).trans f1
  have f9 : g2 165 49 = g 165 49 := (fc 165 49 (by omega) (by omega) (by omega)).trans (lo 165 49 (by omega))
  rw [r_165_47 hr, f2, f9]
  refine ⟨i_202.mpr ⟨by omega, by omega⟩, fun g3 e3 => ⟨k9, ?_⟩⟩
  have f3 : g3 165 48 = g 165 48 + 1 := by rw [e3, up_i (by decide)]; exact f2
  rw [f3, wr_id (x := g 165 48 + 1 - 1) ⟨by omega, by omega⟩, show g 165 48 + 1 - 1 = g 165 48 by omega]
  refine h1 (by omega) g3 (fun i j p q' s t => ?_) f3 (by rw [e3, up_s]) (fun b hb => ?_)
  · rw [e3, up_o (by omega), fc i j p q' (by omega)]; exact lo i j t
  · have q2 := mb b (hb.fr (fun i j hh => lo i j (by omega)))
    exact q2.fr (fun i j hh => by rw [e3, up_i (by omega)])
theorem uu_120 (hJ : J6 g r) (D : Nat) : Ce sc (D + 4) 120 [(2, 0)] g r (fun v1 g1 r1 => Ce sc (D + 4) 244 [(2, 165)] g1 r1 fun v2 g2 r2 => v1 = v2 ∧ J6 g2 r2) := by
  have hj := hJ.1.1.1.1.1
  have hr := hj.1
  have ic : g 0 7 = g 165 48 := hJ.1.1.2
  have n3 := hJ.n3
  have cv : Ce sc (D + 4) 120 [(2, 0)] g r (fun v1 g1 r1 => r1 = r ∧ (∀ i j, 165 ≤ i → g1 i j = g i j) ∧ ((g 165 48 < 3 ∧ (∀ i j, ¬ (132 + 11 * g 165 48 ≤ i ∧ i ≤ 132 + 11 * g 165 48 + 7) → ¬ (i = 0 ∧ j = 7) → g1 i j = g i j) ∧ g1 (132 + 11 * g 165 48) 3 = g 23 3 ∧ (∀ b, CBR 23 g b → CBR (132 + 11 * g 165 48) g1 b)) ∨ (¬ g 165 48 < 3 ∧ Z6 g g1))) := by
    refine f_120 hr (by rw [ic]; exact n3) (fun q g' fr z3 cb => ?_) (fun q => ?_)
    · rw [ic] at q fr z3 cb
      exact ⟨rfl, fun i j h => fr i j (by omega) (by omega), Or.inl ⟨q, fr, z3, cb⟩⟩
    · rw [ic] at q
      exact ⟨rfl, fun i j h => up_i (by omega), Or.inr ⟨q, z6_65⟩⟩
  refine Ce_mono (Ce_and (tt_120 hJ.1 D) cv) (fun v1 g1 r1 u => ?_)
  obtain ⟨hce, er, hi1, u⟩ := u
  subst er
  have mi : MI g1 := hj.2.2.2.1.hi hi1
  have e48 : g1 165 48 = g 165 48 := hi1 165 48 (by decide)
  have mv : Ce sc (D + 4) 244 [(2, 165)] g1 r1 (fun v2 g2 r2 => r2 = r1 ∧ (∀ i j, i < 165 → g2 i j = g1 i j) ∧ ((g 165 48 < 3 ∧ (∀ i j, ¬ ((i = 192 ∨ i = 198) ∧ 40 * (g 165 48 + 1) ≤ j ∧ j < 40 * (g 165 48 + 1) + 40) → ¬ (193 ≤ i ∧ i ≤ 199 ∧ i ≠ 197 ∧ i ≠ 198 ∧ 6 * (g 165 48 + 1) ≤ j ∧ j < 6 * (g 165 48 + 1) + 6) → ¬ ((i = 197 ∨ i = 200 ∨ i = 201 ∨ i = 202) ∧ j = g 165 48 + 1) → ¬ (i = 165 ∧ j = 48) → g2 i j = g1 i j) ∧ g2 165 48 = g 165 48 + 1 ∧ g2 202 (g 165 48 + 1) = g1 165 49 ∧ (∀ b, MBR 0 g1 b → MBR (g 165 48 + 1) g2 b)) ∨ (¬ g 165 48 < 3 ∧ Z6 g1 g2))) := by
    refine f_244 (d := D + 2) hr mi (fun q g' fr f3 z2 mb => ?_) (fun q => ?_)
    · rw [e48] at q fr f3 z2 mb
      exact ⟨rfl, fun i j h => fr i j (by omega) (by omega) (by omega) (by omega), Or.inl ⟨q, fr, f3, z2, mb⟩⟩
    · rw [e48] at q
      exact ⟨rfl, fun i j h => up_i (by omega), Or.inr ⟨q, z6_166⟩⟩
  refine Ce_mono (Ce_and hce mv) (fun v2 g2 r2 t => ?_)
  obtain ⟨⟨ev, j5⟩, er2, lo, t⟩ := t
  subst er2
  refine ⟨ev, ?_⟩
  rcases u with ⟨q, fr, z3, cb⟩ | ⟨q, z1⟩
  · rcases t with ⟨_, fr2, f48, z2, mb⟩ | ⟨nq, _⟩
    · obtain ⟨b, hb, c, mb0, zz⟩ := hJ.2.1
      have cn : CBR 23 g2 b := c.o (fun i j i0 i1 => by rw [lo i j (by omega)]; exact fr i j (by omega) (by omega))
      have z23 : g2 23 3 = g 23 3 := by rw [lo 23 3 (by decide)]; exact fr 23 3 (by omega) (by omega)
      have mb1 : MBR 0 g1 b := mb0.fr (fun i j hi => hi1 i j (by omega))
      have m2 : MBR 0 g2 b := by
        obtain ⟨⟨q1, q2, q3⟩, q4, q5⟩ := mb1
        refine ⟨⟨?_, ?_, ?_⟩, fun j j0 j1 => ?_, fun j j0 j1 => ?_⟩
        · rw [fr2 197 _ (by omega) (by omega) (by omega) (by omega)]; exact q1
        · rw [fr2 200 _ (by omega) (by omega) (by omega) (by omega)]; exact q2
        · rw [fr2 201 _ (by omega) (by omega) (by omega) (by omega)]; exact q3
        · rw [fr2 192 _ (by omega) (by omega) (by omega) (by omega), fr2 198 _ (by omega) (by omega) (by omega) (by omega)]; exact q4 j j0 j1
        · rw [fr2 193 _ (by omega) (by omega) (by omega) (by omega), fr2 194 _ (by omega) (by omega) (by omega) (by omega), fr2 199 _ (by omega) (by omega) (by omega) (by omega), fr2 195 _ (by omega) (by omega) (by omega) (by omega), fr2 196 _ (by omega) (by omega) (by omega) (by omega)]; exact q5 j j0 j1
      refine ⟨j5, ⟨b, hb, cn, m2, ?_⟩, fun k k0 k1 => ?_, fun j j0 j1 => ?_⟩
      · rw [z23, fr2 165 49 (by omega) (by omega) (by omega) (by omega), hi1 165 49 (by decide)]; exact zz
      · rw [f48] at k1
        by_cases y : k = g 165 48
        · subst y
          have ci := cb b c
          refine ⟨b, hb, ci.fr (fun i j i0 i1 => lo i j (by omega)), mb b mb1, ?_⟩
          rw [lo _ 3 (by omega), z3, z2, hi1 165 49 (by decide)]; exact zz
        · obtain ⟨bk, hbk, ck, mk, zk⟩ := hJ.2.2.1 k k0 (by omega)
          refine ⟨bk, hbk, ck.fr (fun i j i0 i1 => by rw [lo i j (by omega)]; exact fr i j (by omega) (by omega)), ?_, ?_⟩
          · obtain ⟨⟨q1, q2, q3⟩, q4, q5⟩ := mk
            refine ⟨⟨?_, ?_, ?_⟩, fun j j0 j1 => ?_, fun j j0 j1 => ?_⟩
            · rw [fr2 197 _ (by omega) (by omega) (by omega) (by omega), hi1 197 _ (by decide)]; exact q1
            · rw [fr2 200 _ (by omega) (by omega) (by omega) (by omega), hi1 200 _ (by decide)]; exact q2
            · rw [fr2 201 _ (by omega) (by omega) (by omega) (by omega), hi1 201 _ (by decide)]; exact q3
            · rw [fr2 192 _ (by omega) (by omega) (by omega) (by omega), fr2 198 _ (by omega) (by omega) (by omega) (by omega), hi1 192 _ (by decide), hi1 198 _ (by decide)]; exact q4 j j0 j1
            · rw [fr2 193 _ (by omega) (by omega) (by omega) (by omega), fr2 194 _ (by omega) (by omega) (by omega) (by omega), fr2 199 _ (by omega) (by omega) (by omega) (by omega), fr2 195 _ (by omega) (by omega) (by omega) (by omega), fr2 196 _ (by omega) (by omega) (by omega) (by omega), hi1 193 _ (by decide), hi1 194 _ (by decide), hi1 199 _ (by decide), hi1 195 _ (by decide), hi1 196 _ (by decide)]; exact q5 j j0 j1
          · rw [lo _ 3 (by omega), fr _ 3 (by omega) (by omega), fr2 202 _ (by omega) (by omega) (by omega) (by omega), hi1 202 _ (by decide)]; exact zk
      · rw [lo 47 j (by decide), fr 47 j (by omega) (by omega)]; exact hJ.2.2.2 j j0 j1
    · exact absurd q nq
  · rcases t with ⟨nq, _⟩ | ⟨_, z2⟩
    · exact absurd nq q
    · exact hJ.z j5 (z1.tr z2)
/-- back to an image -/
theorem f_121 (hr : RI r) (hc : 0 ≤ g 0 7 ∧ g 0 7 ≤ 3) (h1 : 0 ≤ l1 ∧ l1 < g 0 7 → ∀ g', (∀ i j, ¬ (23 ≤ i ∧ i ≤ 30) → g' i j = g i j) → g' 23 3 = g (132 + 11 * l1) 3 → (∀ b, CBR (132 + 11 * l1) g b → CBR 23 g' b) → Q 1 g' r) (h0 : ¬ (0 ≤ l1 ∧ l1 < g 0 7) → Q 0 (up g 65 0 (wr (g 65 0 + 1))) r) : Ce sc (d + 4) 121 [(2, 0), (0, l1)] g r Q := by
  have k0 : okr 218 0 8 := okd (by decide +kernel)
  have k23 : okr 218 23 0 := okd (by decide +kernel)
  refine c_121 ⟨k0, ?_⟩
  rw [wr_id (x := g 0 7 - 1) ⟨by omega, by omega⟩]
  refine w_123 (fun a c => ?_) (fun q => ?_)
  · rw [if_neg (by decide)]
    refine w_123 (fun _ _ => ?_) (fun q => absurd ⟨a, by omega⟩ q)
    rw [if_neg (by decide), r_0_6 hr, r_0_4 hr, r_45 hr a (by omega)]
    have hI : okI 218 45 14 l1 ∨ okI 218 45 15 l1 := by
      first | exact Or.inr (i_45.mpr ⟨a, by omega⟩) | exact Or.inl (i_45.mpr ⟨a, by omega⟩)
    exact ⟨k0, k0, hI, k23, f_1 (d := d + 2) hr (Or.inl rfl) (bx_im a (by omega)) (by omega) (fun g1 fr z3 cb => ⟨Or.inr rfl, h1 ⟨a, by omega⟩ g1 fr z3 cb⟩)⟩
  · rw [if_pos rfl]
    exact ⟨k0, w_134 hr (by decide) (by decide) ⟨Or.inl rfl, h0 (fun z => q ⟨z.1, by omega⟩)⟩⟩
theorem f_245 (hr : RI r) (hi : MI g) (h1 : 0 ≤ l1 ∧ l1 < g 165 48 → ∀ g', (∀ i j, ¬ ((i = 192 ∨ i = 198) ∧ 0 ≤ j ∧ j < 40) → ¬ (193 ≤ i ∧ i ≤ 199 ∧ i ≠ 197 ∧ i ≠ 198 ∧ 0 ≤ j ∧ j < 6) → ¬ ((i = 197 ∨ i = 200 ∨ i = 201) ∧ j = 0) → ¬ (i = 165 ∧ j = 49) → g' i j = g i j) → g' 165 49 = g 202 (l1 + 1) → (∀ b, MBR (l1 + 1) g b → MBR 0 g' b) → Q 1 g' r) (h0 : ¬ (0 ≤ l1 ∧ l1 < g 165 48) → Q 0 (up g 166 0 (wr (g 166 0 + 1))) r) : Ce sc (d + 2) 245 [(2, 165), (0, l1)] g r Q := by
  have k9 : okr 218 165 9 := okd (by decide +kernel)
  have c := hi.1.2.1
  refine c_245 ⟨k9, ?_⟩
  rw [wr_id (x := g 165 48 - 1) ⟨by omega, by omega⟩]
  refine w_137 (fun a e => ?_) (fun q => ?_)
  · rw [if_neg (by decide), wr_id (x := l1 + 1) ⟨by omega, by omega⟩]
    refine ⟨k9, f_192 (d := d) hr (by omega) (by omega) (by decide) (by decide) (by omega) hi.2.1.2.1 (fun g2 fc mb => ⟨k9, ?_⟩)⟩
    have f2 : g2 202 (l1 + 1) = g 202 (l1 + 1) := fc 202 _ (by omega) (by omega) (by omega)
    rw [r_165_47 hr, f2]
    refine ⟨i_202.mpr ⟨by omega, by omega⟩, k9, fun g3 e3 => ⟨Or.inr rfl, h1 ⟨a, by omega⟩ g3 (fun i j p q s t => ?_) (by rw [e3, up_s]) (fun b hb => (mb b hb).fr (fun i j hh => by rw [e3, up_i (by omega)]))⟩⟩
    rw [e3, up_o t]; exact fc i j (by omega) (by omega) s
  · rw [if_pos rfl]
    exact ⟨k9, w_139 hr ⟨Or.inl rfl, h0 (fun z => q ⟨z.1, by omega⟩)⟩⟩
theorem uu_121 (hJ : J6 g r) {A1 : Int} (D : Nat) : Ce sc (D + 4) 121 [(2, 0), (0, A1)] g r (fun v1 g1 r1 => Ce sc (D + 4) 245 [(2, 165), (0, A1)] g1 r1 fun v2 g2 r2 => v1 = v2 ∧ J6 g2 r2) := by
  have hr := hJ.1.1.1.1.1.1
  have ic : g 0 7 = g 165 48 := hJ.1.1.2
  have n3 := hJ.n3
  refine pu (C := fun v1 g1 r1 => r1 = r ∧ (((0 ≤ A1 ∧ A1 < g 165 48) ∧ v1 = 1 ∧ (∀ i j, ¬ (23 ≤ i ∧ i ≤ 30) → g1 i j = g i j) ∧ g1 23 3 = g (132 + 11 * A1) 3 ∧ (∀ b, CBR (132 + 11 * A1) g b → CBR 23 g1 b)) ∨ (¬ (0 ≤ A1 ∧ A1 < g 165 48) ∧ v1 = 0 ∧ Z6 g g1))) hJ (u_121 hr (fun v g' _ e => ⟨rfl, e⟩)) (f_121 hr (by rw [ic]; exact n3) (fun q g' fr z cb => ⟨rfl, Or.inl ⟨by rw [← ic]; exact q, rfl, fr, z, cb⟩⟩) (fun q => ⟨rfl, Or.inr ⟨by rw [← ic]; exact q, rfl, z6_65⟩⟩)) (fun g1 mi => s_245 (d := D + 2) hr mi (fun v g' _ e => ⟨rfl, e⟩)) (fun v1 g1 mi hi1 hC => ?_)
  obtain ⟨_, hC⟩ := hC
  have e48 : g1 165 48 = g 165 48 := hi1 165 48 (by decide)
  rcases hC with ⟨q, ev, fr, z3, cb⟩ | ⟨q, ev, z⟩
  · refine f_245 (d := D + 2) hr mi (fun _ g2 fr2 z2 mb j5 => ⟨ev, ?_⟩) (fun y => absurd (by rw [e48]; exact q) y)
    obtain ⟨b, hb, c, m, zk⟩ := hJ.2.2.1 A1 q.1 q.2
    have m1 : MBR (A1 + 1) g1 b := m.fr (fun i j hi => hi1 i j (by omega))
    have lo : ∀ i j, i < 165 → g2 i j = g1 i j := fun i j h => fr2 i j (by omega) (by omega) (by omega) (by omega)
    refine ⟨j5, ⟨b, hb, (cb b c).o (fun i j i0 i1 => lo i j (by omega)), mb b m1, ?_⟩, ?_, fun j j0 j1 => ?_⟩
    · rw [lo 23 3 (by decide), z3, z2, hi1 202 _ (by decide)]; exact zk
    · refine hJ.2.2.1.i hJ.n3.2 ?_ (fun i j i0 i1 => ?_) (fun i j h => ?_)
      · rw [fr2 165 48 (by omega) (by omega) (by omega) (by omega)]; exact e48
      · rw [lo i j (by omega)]; exact fr i j (by omega)
      · rw [fr2 i j (by omega) (by omega) (by omega) (by omega)]; exact hi1 i j (by omega)
    · rw [lo 47 j (by decide), fr 47 j (by omega)]; exact hJ.2.2.2 j j0 j1
  · exact f_245 (d := D + 2) hr mi (fun y => absurd (by rw [← e48]; exact y) q) (fun _ j5 => ⟨ev, hJ.z j5 (z.tr z6_166)⟩)
/-- a mill told: the brooks -/
def D67z (l1 l2 : Int) (g r : GH) (v1 : Int) (g1 r1 : GH) : Prop := (∀ i j, 165 ≤ i → g1 i j = g i j) ∧ ((¬ (0 ≤ l1 ∧ l1 ≤ 5 ∧ 0 ≤ l2 ∧ l2 ≤ g 1 1) ∧ Z6 g g1) ∨ ((0 ≤ l1 ∧ l1 ≤ 5 ∧ 0 ≤ l2 ∧ l2 ≤ g 1 1) ∧ ∃ m0 s' m' st', I0 m0 ∧ ((Rch (fun p => g 2 p) l2 (0, tk (fun p => g 2 p) l2 0, m0, []) (90, s', m', st') ∧ EMC l1 g g1 ∧ ∀ j, g1 47 j = g 47 j) ∨ (Rch (fun p => g 2 p) l2 (0, tk (fun p => g 2 p) l2 0, m0, []) (91, s', m', st') ∧ Z6 g g1))))
theorem d_67z (hr : RI r) (ht : 0 ≤ g 1 1 ∧ g 1 1 ≤ 700) : Ce sc (d + 38) 67 [(2, 0), (0, l1), (0, l2)] g r (D67z l1 l2 g r) := by
  have k0 : okr 218 0 8 := okd (by decide +kernel)
  have k1 : okr 218 1 5 := okd (by decide +kernel)
  have hm := hr.2.2.1
  have M7 : 7 ≤ r 0 2 ∧ r 0 2 ≤ 121 := by unfold MO at hm; omega
  have hmo := hm
  unfold MO at hmo
  have bad : ¬ (0 ≤ l1 ∧ l1 ≤ 5 ∧ 0 ≤ l2 ∧ l2 ≤ g 1 1) → D67z l1 l2 g r (-2) (up g 65 0 (wr (g 65 0 + 1))) r := fun z => ⟨fun i j hi => up_i (by omega), Or.inl ⟨z, z6_65⟩⟩
  have far : ∀ i, CZV i → ¬ (r 0 2 ≤ i ∧ i ≤ r 0 2 + 9) ∧ i ≠ 1 ∧ i ≠ 3 ∧ i ≠ 4 ∧ i ≠ 5 := fun i h => by
    unfold CZV at h
    omega
  refine c_67 (w_123 (fun q1 q2 => ?_) (fun q => ?_))
  · rw [if_neg (by decide), r_0_0 hr]
    refine ⟨k0, k1, w_123 (fun q3 q4 => ?_) (fun q => ?_)⟩
    · rw [if_neg (by decide), r_0_0 hr]
      have hv : 0 ≤ l1 ∧ l1 ≤ 5 ∧ 0 ≤ l2 ∧ l2 ≤ g 1 1 := ⟨q1, q2, q3, q4⟩
      refine ⟨k0, k0, k1, f_32 (T := fun p => g 2 p) hr hm (fun _ => rfl) q3 q4 ht.2 (fun g1 s' m' m0 i0 rc xi mc f11 f12 tt fm => ?_) (fun g1 s' m' st' m0 i0 rc f11 f12 fm => ?_)⟩
      · have xg : XG 90 m' := xi.2.2.2.2.2.2.1
        have v0 : 0 ≤ m' 0 12 := xg.2.1
        have fz : ∀ i j, CZV i → g1 i j = g i j := fun i j h => by
          obtain ⟨a, b, c, e, f⟩ := far i h
          exact fm i j b c e f a
        rw [if_neg (show ¬ m' 0 12 = -1 by omega), r_0_1 hr]
        have hI : okI 218 6 14 l1 := i_6.mpr ⟨q1, by omega⟩
        refine ⟨k0, Or.inl hI, k0, k0, Or.inl ⟨hI, mo_ok hm⟩, fun r4 E4 => ?_⟩
        rw [if_neg (mo_ne (hr.2.1 l1 q1 (by omega)))]
        refine ⟨k0, fun r5 E5 => ?_⟩
        have hr5 : RI r5 := by rw [E5, E4]; exact ri_swap hr q1 (by omega)
        rw [r_0_4 hr5]
        refine ⟨k0, (br_23 hr5).1, f_2 hr5 q1 (by omega) (fun g2 em fr => ⟨k0, fun g3 E3 => ⟨fun i j hi => ?_, Or.inr ⟨hv, m0, s', m', [], i0, Or.inl ⟨rc, ?_, fun j => ?_⟩⟩⟩⟩)⟩
        · rw [E3, up_i (by omega), fr i j (by omega)]; exact fm i j (by omega) (by omega) (by omega) (by omega) (by omega)
        · obtain ⟨a, ⟨z6, z8, z9, z10⟩, f2⟩ := em
          have o : ∀ i j, i ≠ 0 → g3 i j = g2 i j := fun i j h => by rw [E3, up_i h]
          refine ⟨?_, ⟨?_, ?_, ?_, ?_⟩, fun i j hi p q => ?_⟩
          · rw [o 23 2 (by decide), a, fz 23 2 (by unfold CZV; omega), fz 26 l1 (by unfold CZV; omega)]
          · rw [o 26 l1 (by decide)]; exact z6
          · rw [o 28 l1 (by decide)]; exact z8
          · rw [o 29 l1 (by decide)]; exact z9
          · rw [o 30 l1 (by decide)]; exact z10
          · rw [o i j (by omega), f2 i j hi p q, fz i j (by unfold CZV; omega)]
        · rw [E3, up_i (by decide), fr 47 j (by omega), fz 47 j (by unfold CZV; omega)]
      · have fz : ∀ i j, CZV i → g1 i j = g i j := fun i j h => by
          obtain ⟨a, b, c, e, f⟩ := far i h
          exact fm i j b c e f a
        rw [if_pos rfl]
        refine ⟨k0, w_133 hr (by decide) (by decide) ⟨fun i j hi => ?_, Or.inr ⟨hv, m0, s', m', st', i0, Or.inr ⟨rc, ?_⟩⟩⟩⟩
        · rw [up_i (by omega)]; exact fm i j (by omega) (by omega) (by omega) (by omega) (by omega)
        · exact Z6.tr ⟨fz, fun i j h => fm i j (by unfold MZV at h; omega) (by unfold MZV at h; omega) (by unfold MZV at h; omega) (by unfold MZV at h; omega) (by unfold MZV at h; omega)⟩ z6_65
    · rw [if_pos rfl]; exact ⟨k0, w_133 hr (by decide) (by decide) (bad (fun z => q ⟨z.2.2.1, z.2.2.2⟩))⟩
  · rw [if_pos rfl]; exact ⟨k0, w_133 hr (by decide) (by decide) (bad (fun z => q ⟨z.1, z.2.1⟩))⟩
theorem uu_67 (hJ : J6 g r) {A1 A2 : Int} (D : Nat) : Ce sc (D + 38) 67 [(2, 0), (0, A1), (0, A2)] g r (fun v1 g1 r1 => Ce sc (D + 38) 159 [(2, 165), (0, A1), (0, A2)] g1 r1 fun v2 g2 r2 => v1 = v2 ∧ J6 g2 r2) := by
  have hj2 := hJ.1.1.1.1
  obtain ⟨hr, hci, hn, hi, a1, _⟩ := hj2.1
  have hf1 : Ce sc (D + 38) 67 [(2, 0), (0, A1), (0, A2)] g r (fun _ _ r1 => RI r1) := Ce_mono (f_67 (d := D) hr hci.1) (fun _ _ _ w => w.1)
  refine Ce_mono (Ce_and (Ce_and (tt_67 hJ.1 D) hf1) (d_67z (d := D) hr hci.1)) (fun v1 g1 r1 w => ?_)
  obtain ⟨⟨hce, hr1⟩, hi1, w⟩ := w
  have mb1 : MB g1 := mb_eq (fun i j h => hi1 i j (by omega)) hi.2.1
  have c24 : g1 165 24 = g 1 1 := (hi1 165 24 (by decide)).trans a1.symm
  have cb : 0 ≤ g1 165 24 ∧ g1 165 24 ≤ 700 := by rw [c24]; exact hci.1
  rcases w with ⟨nv, z1⟩ | ⟨hv, m0, s', m', st', i0, w⟩
  · have fr2 : Ce sc (D + 38) 159 [(2, 165), (0, A1), (0, A2)] g1 r1 (fun _ g2 _ => Z6 g1 g2) := f_159 (d := D + 29) (T := fun p => i_and (g1 189 p) 255) hr1 mb1 cb (fun _ _ _ => rfl) i0_m00 (fun _ => z6_166) (fun z => absurd (by rw [c24] at z; exact z) nv) (fun z => absurd (by rw [c24] at z; exact z) nv)
    refine Ce_mono (Ce_and hce fr2) (fun v2 g2 r2 u => ?_)
    exact ⟨u.1.1, hJ.z u.1.2 (z1.tr u.2)⟩
  · have hT : ∀ p, 0 ≤ p → p < A2 → i_and (g1 189 p) 255 = (fun p => g 2 p) p := fun p p0 p1 => by
      rw [hi1 189 p (by decide)]; exact (hj2.2.1 p p0 (by omega)).symm
    have fr2 : Ce sc (D + 38) 159 [(2, 165), (0, A1), (0, A2)] g1 r1 (fun _ g2 r2 => J5 g2 r2 → J6 g2 r2) := by
      refine f_159 (d := D + 29) (T := fun p => g 2 p) hr1 mb1 cb hT i0 (fun z => absurd (by rw [c24]; exact hv) z) (fun _ g2 s2 m2 rc2 mt fq _ j5 => ?_) (fun _ g2 s2 m2 st2 rc2 _ _ _ fl j5 => ?_)
      · rcases w with ⟨rc, em, e47⟩ | ⟨rc, _⟩
        · obtain ⟨b, hb, c, mb, zz⟩ := hJ.2.1
          have lo : ∀ i j, i < 165 → g2 i j = g1 i j := fun i j hi => fq i j (by omega) (by omega) (by omega) (by omega) (by omega) (by omega) (by omega) (by omega) (by omega)
          have c1 := em.cb hv.1 (by omega) c
          have mbg : MBR 0 g1 b := mb.fr (fun i j hi => hi1 i j (by omega))
          obtain ⟨_, _, _, _, t93, t95, t96, t99, t201, t48, _⟩ := mt
          refine ⟨j5, ⟨emE b A1, em_b hb, c1.o (fun i j i0 i1 => lo i j (by omega)), ?_, ?_⟩, fun k k0 k1 => absurd k1 (by rw [t48]; omega), fun j j0 j1 => ?_⟩
          · obtain ⟨⟨q1, q2, q3⟩, q4, q5⟩ := mbg
            have qa := (q5 A1 hv.1 (by omega)).1
            rw [show (6 : Int) * 0 + A1 = A1 by omega] at qa
            refine ⟨⟨?_, ?_, ?_⟩, fun j j0 j1 => ?_, fun j j0 j1 => ?_⟩
            · rw [em_o (by omega) (by omega), fq 197 _ (by omega) (by omega) (by omega) (by omega) (by omega) (by omega) (by omega) (by omega) (by omega)]; exact q1
            · rw [em_o (by omega) (by omega), fq 200 _ (by omega) (by omega) (by omega) (by omega) (by omega) (by omega) (by omega) (by omega) (by omega)]; exact q2
            · rw [em_02, t201, q3, qa]
            · rw [em_o (by omega) (by omega), em_o (by omega) (by omega), fq 192 _ (by omega) (by omega) (by omega) (by omega) (by omega) (by omega) (by omega) (by omega) (by omega), fq 198 _ (by omega) (by omega) (by omega) (by omega) (by omega) (by omega) (by omega) (by omega) (by omega)]; exact q4 j j0 j1
            · by_cases z : j = A1
              · rw [z, em_z (i := 6) (by omega), em_z (i := 8) (by omega), em_z (i := 9) (by omega), em_z (i := 10) (by omega), em_o (by omega) (by omega), show (6 : Int) * 0 + A1 = A1 by omega, fq 194 _ (by omega) (by omega) (by omega) (by omega) (by omega) (by omega) (by omega) (by omega) (by omega)]
                have q7 := (q5 A1 hv.1 (by omega)).2.1
                rw [show (6 : Int) * 0 + A1 = A1 by omega] at q7
                exact ⟨t93, q7, t99, t95, t96⟩
              · rw [em_o (by omega) (by omega), em_o (by omega) (by omega), em_o (by omega) (by omega), em_o (by omega) (by omega), em_o (by omega) (by omega), fq 193 _ (by omega) (by omega) (by omega) (by omega) (by omega) (by omega) (by omega) (by omega) (by omega), fq 194 _ (by omega) (by omega) (by omega) (by omega) (by omega) (by omega) (by omega) (by omega) (by omega), fq 199 _ (by omega) (by omega) (by omega) (by omega) (by omega) (by omega) (by omega) (by omega) (by omega), fq 195 _ (by omega) (by omega) (by omega) (by omega) (by omega) (by omega) (by omega) (by omega) (by omega), fq 196 _ (by omega) (by omega) (by omega) (by omega) (by omega) (by omega) (by omega) (by omega) (by omega)]
                exact q5 j j0 j1
          · rw [lo 23 3 (by decide), em.2.2 23 3 (by omega) (by omega) (by omega), fq 165 49 (by omega) (by omega) (by omega) (by omega) (by omega) (by omega) (by omega) (by omega) (by omega), hi1 165 49 (by decide)]; exact zz
          · rw [lo 47 j (by decide), e47]; exact hJ.2.2.2 j j0 j1
        · have e := rc.un rc2 (Or.inr rfl) (Or.inl rfl)
          injection e with e _
          exact absurd e (by decide)
      · rcases w with ⟨rc, _⟩ | ⟨rc, z1⟩
        · have e := rc.un rc2 (Or.inl rfl) (Or.inr rfl)
          injection e with e _
          exact absurd e (by decide)
        · refine hJ.z j5 (z1.tr ⟨fun i j h => fl i j (by unfold CZV at h; omega) (by unfold CZV at h; omega) (by unfold CZV at h; omega) (by unfold CZV at h; omega) (by unfold CZV at h; omega) (by unfold CZV at h; omega) (by unfold CZV at h; omega), fun i j h => fl i j (by unfold MZV at h; omega) (by unfold MZV at h; omega) (by unfold MZV at h; omega) (by unfold MZV at h; omega) (by unfold MZV at h; omega) (by unfold MZV at h; omega) (by unfold MZV at h; omega)⟩)
    refine Ce_mono (Ce_and hce fr2) (fun v2 g2 r2 u => ?_)
    exact ⟨u.1.1, u.2 u.1.2⟩
end IM6
