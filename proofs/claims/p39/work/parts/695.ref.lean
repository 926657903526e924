/-! the reference's calls over hours come to their end; printed by a program (wip/gen/gen_m6.py) -/
/-- what a trial leaves: the hours gone of the state itself too -/
def M4 (g g' : GH) : Prop := ME g g' ∧ ∀ j, j ≠ 4 → g' 197 j = g 197 j
theorem M4.rf (g : GH) : M4 g g := ⟨ME.rf g, fun _ _ => rfl⟩
theorem M4.tr {a b c : GH} (h1 : M4 a b) (h2 : M4 b c) : M4 a c := ⟨h1.1.tr h2.1, fun j z => (h2.2 j z).trans (h1.2 j z)⟩
theorem M4.u {a b : GH} {x j v : Int} (h : M4 a b) (hx : MW x j) (hb : x ≠ 168 ∧ x ≠ 197 ∧ x ≠ 198 ∧ x ≠ 204 ∧ x ≠ 207) : M4 a (up b x j v) := ⟨h.1.u hx hb, fun k z => by rw [up_i hb.2.1.symm]; exact h.2 k z⟩
theorem p2_le : ∀ m : Nat, m < 7 → (2 : Int) ^ m ≤ 64 := by decide
section MPJ
variable {sc : SCR} {d : Nat} {Q : QJ} {g r : GH} {l0 l1 l2 l3 l4 l5 l6 l7 l8 l9 l10 l11 l12 l13 l14 l15 l16 t0 : Int}
theorem s_192b (hr : RI r) (hb : MB g) (a0 : 0 ≤ l1) (a3 : l1 ≤ 3) (b0 : 0 ≤ l2) (b4 : l2 ≤ 4) (h : ∀ v g', ME g g' → g' 197 l2 = g 197 l1 → (∀ j, j ≠ l2 → g' 197 j = g 197 j) → Q v g' r) : Ce sc (d + 1) 192 [(2, 165), (0, l1), (0, l2)] g r Q := by
  have k9 : okr 218 165 9 := okd (by decide +kernel)
  have w4 : ∀ a b : Int, 0 ≤ a → a ≤ 4 → 0 ≤ b → b < 40 → wr (wr (40 * a) + b) = 40 * a + b := fun a b x y z t => by rw [wr_id (x := 40 * a) ⟨by omega, by omega⟩, wr_id ⟨by omega, by omega⟩]
  have w6 : ∀ a b : Int, 0 ≤ a → a ≤ 4 → 0 ≤ b → b < 6 → wr (wr (6 * a) + b) = 6 * a + b := fun a b x y z t => by rw [wr_id (x := 6 * a) ⟨by omega, by omega⟩, wr_id ⟨by omega, by omega⟩]
  have two : ∀ l3 : Int, -2147483648 ≤ l3 → 0 ≤ l3 → ∀ g1, MH g g1 → WQ sc d 192 Q 60 [(2, 165), (0, l1), (0, l2), (0, l3)] [] g1 r := by
    refine upW 6 (by decide) fun l3 _ ih h0 g1 e0 => ?_
    refine b_192_60 ?_
    rw [r_165_38 hr, r_165_39 hr, r_165_44 hr, r_165_40 hr, r_165_41 hr, r_165_45 hr, r_165_46 hr, r_165_42 hr]
    refine ite_c (fun q => ?_) (fun q => ?_)
    · rw [w6 l1 l3 a0 (by omega) h0 q, w6 l2 l3 b0 b4 h0 q]
      refine ⟨k9, k9, i_193.mpr ⟨by omega, by omega⟩, i_193.mpr ⟨by omega, by omega⟩, fun g2 e2 => ⟨k9, k9, i_194.mpr ⟨by omega, by omega⟩, i_194.mpr ⟨by omega, by omega⟩, fun g3 e3 => ⟨k9, k9, i_199.mpr ⟨by omega, by omega⟩, i_199.mpr ⟨by omega, by omega⟩, fun g4 e4 => ⟨k9, k9, i_195.mpr ⟨by omega, by omega⟩, i_195.mpr ⟨by omega, by omega⟩, fun g5 e5 => ⟨k9, k9, i_196.mpr ⟨by omega, by omega⟩, i_196.mpr ⟨by omega, by omega⟩, fun g6 e6 => ih q (by rw [wr_id ⟨by omega, by omega⟩]; omega) _ ?_⟩⟩⟩⟩⟩
      rw [e6, e5, e4, e3, e2]
      exact ((((e0.u (by unfold MW MV; omega) (by decide)).u (by unfold MW MV; omega) (by decide)).u (by unfold MW MV; omega) (by decide)).u (by unfold MW MV; omega) (by decide)).u (by unfold MW MV; omega) (by decide)
    · refine ⟨k9, k9, i_200.mpr ⟨by omega, by omega⟩, i_200.mpr ⟨by omega, by omega⟩, fun g2 e2 => ⟨k9, k9, i_201.mpr ⟨by omega, by omega⟩, i_201.mpr ⟨by omega, by omega⟩, fun g3 e3 => ⟨k9, k9, i_197.mpr ⟨by omega, by omega⟩, i_197.mpr ⟨by omega, by omega⟩, fun g4 e4 => ?_⟩⟩⟩
      have e03 : MH g g3 := by
        rw [e3, e2]
        exact (e0.u (by unfold MW MV; omega) (by decide)).u (by unfold MW MV; omega) (by decide)
      refine h _ _ ?_ (by rw [e4, up_s]; exact e03.2.2 _) (fun j z => by rw [e4, up_j z]; exact e03.2.2 j)
      rw [e4]
      exact e03.1.u7 (Or.inl (mb_197 hb e03.1 a0 (by omega)))
  have one : ∀ l3 : Int, -2147483648 ≤ l3 → 0 ≤ l3 → ∀ g1, MH g g1 → WQ sc d 192 Q 2 [(2, 165), (0, l1), (0, l2), (0, l3)] [] g1 r := by
    refine upW 40 (by decide) fun l3 _ ih h0 g1 e0 => ?_
    refine b_192_2 ?_
    rw [r_165_37 hr, r_165_43 hr]
    refine ite_c (fun q => ?_) (fun q => two 0 (by decide) (by decide) _ e0)
    rw [w4 l1 l3 a0 (by omega) h0 q, w4 l2 l3 b0 b4 h0 q]
    refine ⟨k9, k9, i_192.mpr ⟨by omega, by omega⟩, i_192.mpr ⟨by omega, by omega⟩, fun g2 e2 => ⟨k9, k9, Or.inr (i_198.mpr ⟨by omega, by omega⟩), Or.inr ⟨i_198.mpr ⟨by omega, by omega⟩, ?_⟩, fun g3 e3 => ih q (by rw [wr_id ⟨by omega, by omega⟩]; omega) _ ?_⟩⟩
    all_goals
      have e02 : MH g g2 := by
        rw [e2]
        exact e0.u (by unfold MW MV; omega) (by decide)
    · exact mb_198 hb e02.1 _
    · rw [e3]
      exact e02.u8 (mb_198 hb e02.1 _)
  exact c_192 (one 0 (by decide) (by decide) g (MH.rf g))
theorem s_207 (hr : RI r) (hi : MI g) (h : ∀ v g', ME g g' → Q v g' r) : Ce sc (d + 9) 207 [(2, 165), (0, l1)] g r Q := by
  have k9 : okr 218 165 9 := okd (by decide +kernel)
  have b := hi.2.1.2.2.2.1 0 (by decide) (by decide)
  have loop : 1 ≤ l1 → l1 ≤ 96 → g 197 0 + l1 ≤ 960 → ∀ l2 : Int, -2147483648 ≤ l2 → 0 ≤ l2 → l2 ≤ l1 → ∀ g1, ME g g1 → g1 197 0 = g 197 0 + l2 → WQ sc (d + 8) 207 Q 51 [(2, 165), (0, l1), (0, l2)] [] g1 r := by
    intro y0 y1 y2
    refine upW 96 (by decide) fun l2 _ ih h0 h1 g1 e0 f0 => ?_
    refine b_207_51 (ite_c (fun q => ⟨k9, s_205 hr (hi.me e0) (by decide) (by decide) (by omega) (by omega) (fun v g2 e2 _ f2 _ => ?_)⟩) (fun _ => ?_))
    · have hw : wr (l2 + 1) = l2 + 1 := wr_id ⟨by omega, by omega⟩
      rw [hw] at ih ⊢
      exact ih (by omega) (by omega) (by omega) _ (e0.tr e2) (by omega)
    · rw [r_165_42 hr]
      exact ⟨k9, i_197.mpr ⟨by decide, by decide⟩, h _ _ e0⟩
  refine c_207 (w_137 (fun y0 y1 => ?_) (fun _ => ?_))
  · rw [if_neg (by decide)]
    refine ⟨k9, s_206 hr (ite_c (fun _ => ⟨k9, s_138 hr (by decide) (by decide) (fun g' e => h _ _ e)⟩) (fun _ => ⟨k9, ?_⟩))⟩
    rw [r_165_42 hr, wr_id ⟨by omega, by omega⟩]
    exact ⟨i_197.mpr ⟨by decide, by decide⟩, ite_c (fun _ => ⟨k9, s_138 hr (by decide) (by decide) (fun g' e => h _ _ e)⟩) (fun _ => ⟨k9, s_201 (fun v g1 e1 f1 => loop y0 y1 (by omega) 0 (by decide) (by decide) (by omega) _ e1 (by rw [f1]; omega))⟩)⟩
  · rw [if_pos rfl]; exact ⟨k9, s_138 hr (by decide) (by decide) (fun g' e => h _ _ e)⟩
theorem s_212b (hr : RI r) (h : ∀ v, SHF v → Q v g r) : Ce sc (d + 1) 212 [(2, 165)] g r Q := by
  have k9 : okr 218 165 9 := okd (by decide +kernel)
  have loop : ∀ (n m : Nat), m + n = 6 → ∀ l1 l2 : Int, 0 ≤ l1 → l1 < 2 ^ m → popm l1 6 = l2 → 0 ≤ l2 → l2 ≤ 3 → WQ sc d 212 Q 6 [(2, 165), (0, l1), (0, l2), (0, (m : Int))] [] g r := by
    intro n
    induction n with
    | zero =>
      intro m e l1 l2 a0 a1 a2 a3 a4
      have e6 : m = 6 := by omega
      subst e6
      have a5 : l1 < 64 := a1
      exact b_212_6 (ite_c (fun q => absurd q (by decide)) (fun _ => h _ ⟨a0, a5, by omega⟩))
    | succ n ih =>
      intro m e l1 l2 a0 a1 a2 a3 a4
      have p := p2_le m (by omega)
      have hp : (2 : Int) ^ (m + 1) = 2 ^ m * 2 := Int.pow_succ 2 m
      have hw : wr ((m : Int) + 1) = ((m + 1 : Nat) : Int) := by rw [wr_id ⟨by omega, by omega⟩]; omega
      have hw2 : wr (l2 + 1) = l2 + 1 := wr_id ⟨by omega, by omega⟩
      have ps := of_decide_eq_true (List.all_eq_true.mp (List.all_eq_true.mp pop_set m (List.mem_range.mpr (by omega))) l1.toNat (List.mem_range.mpr (by omega)))
      rw [Int.toNat_of_nonneg a0] at ps
      obtain ⟨s0, s1, s2⟩ := ps a1
      refine b_212_6 ?_
      rw [r_165_1 hr, hw, hw2]
      exact ite_c (fun q => ite_c (fun q3 => ⟨k9, Or.inr (i_167.mpr ⟨by omega, by omega⟩), ite_c (fun _ => ih (m + 1) (by omega) l1 l2 a0 (by omega) a2 a3 a4) (fun _ => ih (m + 1) (by omega) _ _ s0 s1 (by omega) (by omega) (by omega))⟩) (fun _ => h _ ⟨a0, by omega, by omega⟩)) (fun _ => h _ ⟨a0, by omega, by omega⟩)
  exact c_212 (loop 6 0 rfl 0 0 (by decide) (by decide) (by decide +kernel) (by decide) (by decide))
theorem s_214 (hr : RI r) (hi : MI g) (b0 : 0 ≤ g 197 0) (b1 : g 197 0 ≤ 936) (w0 : 0 ≤ l3) (w6 : l3 < 64) (h : ∀ v g', M4 g g' → Q v g' r) : Ce sc (d + 9) 214 [(2, 165), (0, l1), (0, l2), (0, l3)] g r Q := by
  have k9 : okr 218 165 9 := okd (by decide +kernel)
  have hw3 : wr (3 * l3) = 3 * l3 := wr_id ⟨by omega, by omega⟩
  have day : ∀ s, SHF s → ∀ l4 : Int, -2147483648 ≤ l4 → 0 ≤ l4 → l4 ≤ 24 → ∀ g1, M4 g g1 → g1 165 52 = s → g1 197 4 = g 197 0 + l4 → WQ sc (d + 8) 214 Q 63 [(2, 165), (9, 0), (9, 0), (0, l3), (0, l4), (9, 0)] [] g1 r := by
    intro s hs
    refine upW 24 (by decide) fun l4 _ ih h0 h24 g1 e0 es e4 => ?_
    have inner : l4 < 24 → ∀ l5 : Int, -2147483648 ≤ l5 → 0 ≤ l5 → ∀ g2, M4 g g2 → g2 165 52 = s → g2 197 4 = g 197 0 + (l4 + 1) → WQ sc (d + 8) 214 Q 78 [(2, 165), (9, 0), (9, 0), (0, l3), (0, l4), (0, l5)] [] g2 r := by
      intro q
      have hw : wr (l4 + 1) = l4 + 1 := wr_id ⟨by omega, by omega⟩
      rw [hw] at ih
      refine upW 6 (by decide) fun l5 _ ih5 h5 g2 e2 es2 e42 => ?_
      have hwl : wr (l5 + 1) = wr (l5 + 1) := rfl
      refine b_214_78 ?_
      rw [hw, es2, hw3, r_165_60 hr]
      refine ite_c (fun q5 => ⟨k9, ite_c (fun hb => ⟨k9, k9, s_202 h5 q5 ?_⟩) (fun _ => ih5 q5 (by rw [wr_id ⟨by omega, by omega⟩]; omega) _ e2 es2 e42)⟩) (fun _ => ih q (by omega) (by omega) _ e2 es2 e42)
      have hp := pop_le hs h5 q5 hb
      rw [es2, wr_id (x := 3 * l3 + popm s l5.toNat) ⟨by omega, by omega⟩, r_165_59 hr]
      refine ⟨i_208.mpr ⟨by omega, by omega⟩, k9, i_207.mpr ⟨h5, q5⟩, i_208.mpr ⟨by omega, by omega⟩, fun g3 e3 => ih5 q5 (by rw [wr_id ⟨by omega, by omega⟩]; omega) _ ?_ ?_ ?_⟩
      · rw [e3]; exact e2.u (by unfold MW MV; omega) (by decide)
      · rw [e3, up_i (by decide)]; exact es2
      · rw [e3, up_i (by decide)]; exact e42
    refine b_214_63 (ite_c (fun q => ⟨k9, s_205 hr (hi.me e0.1) (by decide) (by decide) (by omega) (by omega) (fun v g2 e2 f2 t2 j2 => inner q 0 (by decide) (by decide) g2 ⟨e0.1.tr e2, fun j z => (j2 j z).trans (e0.2 j z)⟩ ((f2 52).trans es) (by omega))⟩) (fun _ => h _ _ e0))
  have fill : ∀ s, SHF s → ∀ l4 : Int, -2147483648 ≤ l4 → 0 ≤ l4 → ∀ g1, M4 g g1 → g1 165 52 = s → g1 197 4 = g 197 0 → WQ sc (d + 8) 214 Q 36 [(2, 165), (9, 0), (9, 0), (0, l3), (0, l4), (9, 0)] [] g1 r := by
    intro s hs
    refine upW 3 (by decide) fun l4 _ ih h0 g1 e0 es e4 => ?_
    refine b_214_36 ?_
    rw [hw3, r_165_60 hr]
    refine ite_c (fun q => ?_) (fun _ => day s hs 0 (by decide) (by decide) (by decide) _ e0 es (by omega))
    rw [wr_id (x := 3 * l3 + l4) ⟨by omega, by omega⟩]
    refine ⟨k9, i_208.mpr ⟨by omega, by omega⟩, fun g2 e2 => ih q (by rw [wr_id ⟨by omega, by omega⟩]; omega) _ ?_ ?_ ?_⟩
    · rw [e2]; exact e0.u (by unfold MW MV; omega) (by decide)
    · rw [e2, up_i (by decide)]; exact es
    · rw [e2, up_i (by decide)]; exact e4
  refine c_214 ⟨k9, s_192b hr hi.2.1 (by decide) (by decide) (by decide) (by decide) (fun v1 g1 e1 f1 j1 => ⟨k9, s_201 (fun v2 g2 e2 f2 => ⟨k9, s_212b hr (fun v3 hs => ⟨k9, fun g4 e4 => ⟨k9, fun g5 e5 => ⟨k9, fun g6 e6 => ⟨k9, fun g7 e7 => fill v3 hs 0 (by decide) (by decide) g7 ?_ ?_ ?_⟩⟩⟩⟩)⟩)⟩)⟩
  · rw [e7, e6, e5, e4]
    have e02 : M4 g g2 := ⟨e1.tr e2, fun j z => (f2 j).trans (j1 j z)⟩
    exact (((e02.u (mw_of (by decide +kernel)) (by decide)).u (mw_of (by decide +kernel)) (by decide)).u (mw_of (by decide +kernel)) (by decide)).u (mw_of (by decide +kernel)) (by decide)
  · rw [e7, up_j (by decide), e6, up_j (by decide), e5, up_j (by decide), e4, up_s]
  · rw [e7, up_i (by decide), e6, up_i (by decide), e5, up_i (by decide), e4, up_i (by decide), f2, f1]
theorem k3_b (g : GH) : 0 ≤ (if tolP g 6 < 3 then tolP g 6 else 3) ∧ (if tolP g 6 < 3 then tolP g 6 else 3) ≤ 3 := by
  have := tolP_b g 6
  split <;> omega
theorem s_215 (hr : RI r) (h1 : 0 ≤ l1 → l1 < 64 → Q 1 g r) (h0 : Q 0 g r) : Ce sc (d + 3) 215 [(2, 165), (0, l1)] g r Q := by
  have k9 : okr 218 165 9 := okd (by decide +kernel)
  refine c_215 (w_137 (fun a b => ?_) (fun _ => ?_))
  · rw [if_neg (by decide)]
    have one := h1 a (by omega)
    refine ⟨k9, s_213 hr (ite_c (fun _ => ⟨k9, s_213 hr (ite_c (fun _ => ⟨Or.inr rfl, one⟩) (fun _ => ⟨by decide, by decide, ite_c (fun _ => ⟨Or.inr rfl, one⟩) (fun _ => ⟨Or.inl rfl, h0⟩)⟩))⟩) (fun _ => ⟨by decide, ite_c (fun _ => ⟨k9, s_213 hr (ite_c (fun _ => ⟨Or.inr rfl, one⟩) (fun _ => ⟨by decide, by decide, ite_c (fun _ => ⟨Or.inr rfl, one⟩) (fun _ => ⟨Or.inl rfl, h0⟩)⟩))⟩) (fun _ => ⟨Or.inl rfl, h0⟩)⟩))⟩
  · rw [if_pos rfl]; exact ⟨Or.inl rfl, h0⟩
theorem s_216 (hr : RI r) (hi : MI g) (h1 : 0 ≤ g 197 0 → g 197 0 ≤ 936 → Q 1 g r) (h0 : Q 0 g r) : Ce sc (d + 3) 216 [(2, 165), (0, l1), (0, l2)] g r Q := by
  have k9 : okr 218 165 9 := okd (by decide +kernel)
  refine c_216 ⟨k9, s_211 hr hi (fun a b => ?_) ?_⟩
  · rw [if_neg (by decide)]
    refine w_137 (fun _ _ => ?_) (fun _ => ?_)
    · rw [if_neg (by decide)]
      refine w_137 (fun _ _ => ?_) (fun _ => ?_)
      · rw [if_neg (by decide)]; exact ⟨Or.inr rfl, h1 a b⟩
      · rw [if_pos rfl]; exact ⟨Or.inl rfl, h0⟩
    · rw [if_pos rfl]; exact ⟨Or.inl rfl, h0⟩
  · rw [if_pos rfl]; exact ⟨Or.inl rfl, h0⟩
theorem s_217 (hr : RI r) (hi : MI g) (h : ∀ v g', ME g g' → Q v g' r) : Ce sc (d + 10) 217 [(2, 165), (0, l1), (0, l2), (0, l3), (0, l4)] g r Q := by
  have k9 : okr 218 165 9 := okd (by decide +kernel)
  refine c_217 ⟨k9, s_216 hr hi (fun a b => ?_) ?_⟩
  · rw [if_neg (by decide)]
    refine ⟨k9, s_215 hr (fun w0 w6 => ?_) ?_⟩
    · rw [if_neg (by decide)]
      have hk := k3_b g
      refine ⟨k9, s_213 hr (w_137 (fun q0 q1 => ?_) (fun _ => ?_))⟩
      · rw [if_neg (by decide)]
        rw [wr_id (x := _ - 1) ⟨by omega, by omega⟩] at q1
        refine ⟨k9, s_214 hr hi a b w0 w6 (fun v g1 e1 => ?_)⟩
        rw [r_165_60 hr, wr_id (x := 3 * l3) ⟨by omega, by omega⟩, wr_id ⟨by omega, by omega⟩]
        exact ⟨k9, i_208.mpr ⟨by omega, by omega⟩, h _ _ e1.1⟩
      · rw [if_pos rfl]; exact h _ _ (ME.rf g)
    · rw [if_pos rfl]; exact h _ _ (ME.rf g)
  · rw [if_pos rfl]; exact h _ _ (ME.rf g)
theorem s_218 (hr : RI r) (hi : MI g) (b0 : 0 ≤ g 197 0) (b1 : g 197 0 ≤ 936) (h : ∀ v g', ME g g' → Q v g' r) : Ce sc (d + 10) 218 [(2, 165), (0, l1), (0, l2)] g r Q := by
  have k9 : okr 218 165 9 := okd (by decide +kernel)
  have loop : ∀ l3 : Int, -2147483648 ≤ l3 → 0 ≤ l3 → ∀ g1, M4 g g1 → WQ sc (d + 9) 218 Q 2 [(2, 165), (0, l1), (0, l2), (0, l3)] [] g1 r := by
    refine upW 64 (by decide) fun l3 _ ih h0 g1 e0 => ?_
    have f0 := e0.2 0 (by decide)
    refine b_218_2 (ite_c (fun q => ⟨k9, s_215 hr (fun _ _ => ?_) ?_⟩) (fun _ => h _ _ e0.1))
    · rw [if_neg (by decide)]
      exact ⟨k9, s_214 hr (hi.me e0.1) (by omega) (by omega) h0 q (fun v g2 e2 => ih q (by rw [wr_id ⟨by omega, by omega⟩]; omega) _ (e0.tr e2))⟩
    · rw [if_pos rfl]; exact ih q (by rw [wr_id ⟨by omega, by omega⟩]; omega) _ e0
  exact c_218 (loop 0 (by decide) (by decide) g (M4.rf g))
theorem oth_all : (List.range 64).all (fun w => decide ((0 ≤ wr ((w : Int) - (wr (((wr ((w : Int).tdiv 16)).tmod 4) * 16))) ∧ wr ((w : Int) - (wr (((wr ((w : Int).tdiv 16)).tmod 4) * 16))) ≤ 15) ∧ (0 ≤ wr ((w : Int) - (wr (((wr ((w : Int).tdiv 4)).tmod 4) * 4))) ∧ wr ((w : Int) - (wr (((wr ((w : Int).tdiv 4)).tmod 4) * 4))) ≤ 51) ∧ (0 ≤ wr ((w : Int) - (wr (((wr ((w : Int).tdiv 1)).tmod 4) * 1))) ∧ wr ((w : Int) - (wr (((wr ((w : Int).tdiv 1)).tmod 4) * 1))) ≤ 60))) = true := by decide +kernel
theorem s_219 (hr : RI r) (w0 : 0 ≤ l1) (w6 : l1 < 64) (h1 : Q 1 g r) (h0 : Q 0 g r) : Ce sc (d + 3) 219 [(2, 165), (0, l1)] g r Q := by
  have k9 : okr 218 165 9 := okd (by decide +kernel)
  have hk := k3_b g
  have ho := of_decide_eq_true (List.all_eq_true.mp oth_all l1.toNat (List.mem_range.mpr (by omega)))
  rw [Int.toNat_of_nonneg w0] at ho
  have hw1 : wr (3 * l1) = 3 * l1 := wr_id ⟨by omega, by omega⟩
  have loop : ∀ l2 : Int, -2147483648 ≤ l2 → 0 ≤ l2 → WQ sc (d + 2) 219 Q 2 [(2, 165), (0, l1), (0, l2), (9, 0), (9, 0), (9, 0)] [] g r := by
    refine upW 3 (by decide) fun l2 _ ih h2 => ?_
    have inner : l2 < 3 → ∀ (l3 l4 : Int), ((l3 = 16 ∧ 0 ≤ l4 ∧ l4 ≤ 15) ∨ (l3 = 4 ∧ 0 ≤ l4 ∧ l4 ≤ 51) ∨ (l3 = 1 ∧ 0 ≤ l4 ∧ l4 ≤ 60)) → ∀ l5 : Int, -2147483648 ≤ l5 → 0 ≤ l5 → WQ sc (d + 2) 219 Q 44 [(2, 165), (0, l1), (0, l2), (0, l3), (0, l4), (0, l5)] [] g r := by
      intro q l3 l4 hl
      refine upW 4 (by decide) fun l5 _ ih5 h5 => ?_
      refine b_219_44 ?_
      rw [r_165_60 hr, hw1, wr_id (x := 3 * l1 + l2) ⟨by omega, by omega⟩]
      refine ite_c (fun q5 => ?_) (fun _ => ih q (by rw [wr_id ⟨by omega, by omega⟩]; omega))
      have e5 : l5 = 0 ∨ l5 = 1 ∨ l5 = 2 ∨ l5 = 3 := by omega
      have hx : 0 ≤ wr (l4 + wr (l5 * l3)) ∧ wr (l4 + wr (l5 * l3)) ≤ 63 := by
        rcases e5 with rfl | rfl | rfl | rfl
        · rw [Int.zero_mul, wr_id (x := 0) ⟨by decide, by decide⟩, wr_id ⟨by omega, by omega⟩]; omega
        · rw [Int.one_mul, wr_id (x := l3) ⟨by omega, by omega⟩, wr_id ⟨by omega, by omega⟩]; omega
        · rw [wr_id (x := 2 * l3) ⟨by omega, by omega⟩, wr_id ⟨by omega, by omega⟩]; omega
        · rw [wr_id (x := 3 * l3) ⟨by omega, by omega⟩, wr_id ⟨by omega, by omega⟩]; omega
      obtain ⟨x0, x1⟩ := hx
      rw [wr_id (x := 3 * wr (l4 + wr (l5 * l3))) ⟨by omega, by omega⟩, wr_id (x := 3 * wr (l4 + wr (l5 * l3)) + l2) ⟨by omega, by omega⟩]
      exact ⟨k9, i_208.mpr ⟨by omega, by omega⟩, k9, i_208.mpr ⟨by omega, by omega⟩, ite_c (fun _ => ⟨Or.inl rfl, h0⟩) (fun _ => ih5 q5 (by rw [wr_id ⟨by omega, by omega⟩]; omega))⟩
    refine b_219_2 ⟨k9, s_213 hr (ite_c (fun q => ite_c (fun _ => ⟨by decide, by decide, inner (by omega) _ _ (Or.inl ⟨rfl, ho.1⟩) 0 (by decide) (by decide)⟩) (fun _ => ite_c (fun _ => ⟨by decide, by decide, inner (by omega) _ _ (Or.inr (Or.inl ⟨rfl, ho.2.1⟩)) 0 (by decide) (by decide)⟩) (fun _ => ⟨by decide, by decide, inner (by omega) _ _ (Or.inr (Or.inr ⟨rfl, ho.2.2⟩)) 0 (by decide) (by decide)⟩))) (fun _ => ⟨Or.inr rfl, h1⟩))⟩
  exact c_219 (loop 0 (by decide) (by decide))
theorem s_220 (hr : RI r) (hi : MI g) (h : ∀ v g', ME g g' → Q v g' r) : Ce sc (d + 11) 220 [(2, 165), (0, l1), (0, l2), (0, l3)] g r Q := by
  have k9 : okr 218 165 9 := okd (by decide +kernel)
  have loop : ∀ l5 : Int, -2147483648 ≤ l5 → 0 ≤ l5 → ∀ (l4 : Int) g1, ME g g1 → WQ sc (d + 10) 220 Q 28 [(2, 165), (9, 0), (9, 0), (0, l3), (0, l4), (0, l5)] [] g1 r := by
    refine upW 64 (by decide) fun l5 _ ih h0 l4 g1 e0 => ?_
    refine b_220_28 (ite_c (fun q => ⟨k9, s_215 hr (fun _ _ => ?_) ?_⟩) (fun _ => ite_c (fun _ => h _ _ e0) (fun _ => h _ _ e0)))
    · rw [if_neg (by decide)]
      refine ⟨k9, s_219 hr h0 q ?_ ?_⟩
      · rw [if_neg (by decide)]
        exact ite_c (fun _ => h _ _ e0) (fun _ => ih q (by rw [wr_id ⟨by omega, by omega⟩]; omega) _ _ e0)
      · rw [if_pos rfl]; exact ih q (by rw [wr_id ⟨by omega, by omega⟩]; omega) _ _ e0
    · rw [if_pos rfl]; exact ih q (by rw [wr_id ⟨by omega, by omega⟩]; omega) _ _ e0
  refine c_220 ⟨k9, s_216 hr hi (fun a b => ?_) ?_⟩
  · rw [if_neg (by decide)]
    exact ite_c (fun _ => h _ _ (ME.rf g)) (fun _ => ⟨k9, s_218 hr hi a b (fun v g1 e1 => loop 0 (by decide) (by decide) _ _ e1)⟩)
  · rw [if_pos rfl]; exact h _ _ (ME.rf g)
theorem s_221 (hr : RI r) (hi : MI g) (h : ∀ v g', ME g g' → Q v g' r) : Ce sc (d + 11) 221 [(2, 165), (0, l1), (0, l2), (0, l3)] g r Q := by
  have k9 : okr 218 165 9 := okd (by decide +kernel)
  have loop : ∀ l4 : Int, -2147483648 ≤ l4 → 0 ≤ l4 → ∀ g1, ME g g1 → WQ sc (d + 10) 221 Q 32 [(2, 165), (9, 0), (9, 0), (0, l3), (0, l4), (9, 0), (9, 0)] [] g1 r := by
    refine upW 64 (by decide) fun l4 _ ih h0 g1 e0 => ?_
    have hk := k3_b g1
    have hw : wr (3 * l4) = 3 * l4 ∨ ¬ l4 < 64 := by
      by_cases z : l4 < 64
      · exact Or.inl (wr_id ⟨by omega, by omega⟩)
      · exact Or.inr z
    have inner : l4 < 64 → ∀ l6 : Int, -2147483648 ≤ l6 → 0 ≤ l6 → ∀ l5 : Int, WQ sc (d + 10) 221 Q 50 [(2, 165), (9, 0), (9, 0), (0, l3), (0, l4), (0, l5), (0, l6)] [] g1 r := by
      intro q
      have nx := ih q (by rw [wr_id ⟨by omega, by omega⟩]; omega)
      refine upW 3 (by decide) fun l6 _ ih6 h6 l5 => ?_
      refine b_221_50 ⟨k9, s_213 hr (ite_c (fun q6 => ite_c (fun _ => ite_c (fun _ => nx _ e0) (fun _ => h _ _ e0)) (fun _ => ?_)) (fun _ => ite_c (fun _ => nx _ e0) (fun _ => h _ _ e0)))⟩
      rw [r_165_60 hr, wr_id (x := 3 * l4) ⟨by omega, by omega⟩, wr_id (x := 3 * l4 + l6) ⟨by omega, by omega⟩]
      exact ⟨k9, i_208.mpr ⟨by omega, by omega⟩, ite_c (fun _ => ih6 (by omega) (by rw [wr_id ⟨by omega, by omega⟩]; omega) _) (fun _ => ih6 (by omega) (by rw [wr_id ⟨by omega, by omega⟩]; omega) _)⟩
    refine b_221_32 (ite_c (fun q => ⟨k9, s_215 hr (fun _ _ => inner q 0 (by decide) (by decide) _) (inner q 0 (by decide) (by decide) _)⟩) (fun _ => h _ _ e0))
  refine c_221 ⟨k9, s_216 hr hi (fun a b => ?_) ?_⟩
  · rw [if_neg (by decide)]
    refine w_137 (fun _ _ => ?_) (fun _ => ?_)
    · rw [if_neg (by decide)]
      exact ⟨k9, s_218 hr hi a b (fun v g1 e1 => loop 0 (by decide) (by decide) _ e1)⟩
    · rw [if_pos rfl]; exact h _ _ (ME.rf g)
  · rw [if_pos rfl]; exact h _ _ (ME.rf g)
theorem s_238 (hr : RI r) (hi : MI g) (h : ∀ v g', ME g g' → Q v g' r) : Ce sc (d + 9) 238 [(2, 165), (0, l1), (0, l2)] g r Q := by
  have k9 : okr 218 165 9 := okd (by decide +kernel)
  have loop : 0 ≤ l1 → l1 < 6 → 0 ≤ g 197 0 → g 197 0 ≤ 936 → ∀ l7 : Int, -2147483648 ≤ l7 → 0 ≤ l7 → ∀ (l3 l4 l5 l6 : Int) g1, ME g g1 → g1 197 4 = g 197 0 + l7 → WQ sc (d + 8) 238 Q 51 [(2, 165), (0, l1), (0, l2), (0, l3), (0, l4), (0, l5), (0, l6), (0, l7)] [] g1 r := by
    intro m0 m6 b0 b1
    refine upW 24 (by decide) fun l7 _ ih h0 l3 l4 l5 l6 g1 e0 f4 => ?_
    have hw : l7 < 24 → wr (l7 + 1) = l7 + 1 := fun q => wr_id ⟨by omega, by omega⟩
    have e82 : l7 < 24 → ∀ (t0 l3 l4 : Int) g2, ME g g2 → g2 197 4 = g 197 0 + (l7 + 1) → WQ sc (d + 8) 238 Q 82 [(2, 165), (0, l1), (0, l2), (0, l3), (0, l4), (9, 0), (9, 0), (0, l7)] [(0, t0)] g2 r := by
      intro q t0 l3 l4 g2 e2 f2
      rw [hw q] at ih
      refine b_238_82 ?_
      rw [hw q, r_165_58 hr]
      exact ⟨k9, i_206.mpr ⟨m0, m6⟩, ite_c (fun _ => ih q (by omega) _ _ _ _ _ e2 f2) (fun _ => ih q (by omega) _ _ _ _ _ e2 f2)⟩
    refine b_238_51 (ite_c (fun q => ⟨k9, s_205 hr (hi.me e0) (by decide) (by decide) (by omega) (by omega) (fun v g2 e2 _ f2 _ => ?_)⟩) (fun _ => ite_c (fun _ => h _ _ e0) (fun _ => h _ _ e0)))
    rw [r_165_58 hr]
    exact ⟨k9, i_206.mpr ⟨m0, m6⟩, ite_c (fun _ => e82 q _ _ _ _ (e0.tr e2) (by omega)) (fun _ => e82 q _ _ _ _ (e0.tr e2) (by omega))⟩
  refine c_238 ⟨k9, s_140 hr hi (fun m0 m6 _ _ _ _ _ _ _ => ?_) ?_⟩
  · rw [if_neg (by decide)]
    refine ⟨k9, s_211 hr hi (fun b0 b1 => ?_) ?_⟩
    · rw [if_neg (by decide)]
      refine w_137 (fun _ _ => ?_) (fun _ => ?_)
      · rw [if_neg (by decide)]
        exact ⟨k9, s_192b hr hi.2.1 (by decide) (by decide) (by decide) (by decide) (fun v1 g1 e1 f1 _ => ⟨k9, s_201 (fun v2 g2 e2 f2 => loop m0 m6 b0 b1 0 (by decide) (by decide) _ _ _ _ _ (e1.tr e2) (by rw [f2, f1]; omega))⟩)⟩
      · rw [if_pos rfl]; exact h _ _ (ME.rf g)
    · rw [if_pos rfl]; exact h _ _ (ME.rf g)
  · rw [if_pos rfl]; exact h _ _ (ME.rf g)
theorem s_239 (hr : RI r) (hi : MI g) (h : ∀ v g', ME g g' → Q v g' r) : Ce sc (d + 9) 239 [(2, 165), (0, l1)] g r Q := by
  have k9 : okr 218 165 9 := okd (by decide +kernel)
  have loop : 0 ≤ l1 → l1 < 6 → 0 ≤ g 197 0 → g 197 0 ≤ 936 → ∀ l2 : Int, -2147483648 ≤ l2 → 0 ≤ l2 → ∀ g1, ME g g1 → g1 197 4 = g 197 0 + l2 → WQ sc (d + 8) 239 Q 29 [(2, 165), (0, l1), (0, l2)] [] g1 r := by
    intro m0 m6 b0 b1
    refine upW 24 (by decide) fun l2 _ ih h0 g1 e0 f4 => ?_
    refine b_239_29 (ite_c (fun q => ⟨k9, s_205 hr (hi.me e0) (by decide) (by decide) (by omega) (by omega) (fun v g2 e2 _ f2 _ => ?_)⟩) (fun _ => h _ _ e0))
    have hw : wr (l2 + 1) = l2 + 1 := wr_id ⟨by omega, by omega⟩
    rw [hw] at ih
    rw [hw, r_165_57 hr]
    exact ⟨k9, i_205.mpr ⟨m0, m6⟩, ite_c (fun _ => h _ _ (e0.tr e2)) (fun _ => ih q (by omega) _ (e0.tr e2) (by omega))⟩
  refine c_239 ⟨k9, s_140 hr hi (fun m0 m6 _ _ _ _ _ _ _ => ?_) ?_⟩
  · rw [if_neg (by decide)]
    refine ⟨k9, s_211 hr hi (fun b0 b1 => ?_) ?_⟩
    · rw [if_neg (by decide)]
      exact ⟨k9, s_192b hr hi.2.1 (by decide) (by decide) (by decide) (by decide) (fun v1 g1 e1 f1 _ => ⟨k9, s_201 (fun v2 g2 e2 f2 => loop m0 m6 b0 b1 0 (by decide) (by decide) _ (e1.tr e2) (by rw [f2, f1]; omega))⟩)⟩
    · rw [if_pos rfl]; exact h _ _ (ME.rf g)
  · rw [if_pos rfl]; exact h _ _ (ME.rf g)
theorem s_241 (hr : RI r) (f0 : 0 ≤ g 165 70) (f8 : g 165 70 ≤ 8) (h : ∀ v, (v = -1 ∨ (0 ≤ v ∧ v < 8 ∧ 0 < g 217 v)) → Q v g r) : Ce sc (d + 1) 241 [(2, 165)] g r Q := by
  have k9 : okr 218 165 9 := okd (by decide +kernel)
  have loop : ∀ l2 : Int, -2147483648 ≤ l2 → 0 ≤ l2 → ∀ l1 : Int, (l1 = -1 ∨ (0 ≤ l1 ∧ l1 < 8 ∧ 0 < g 217 l1)) → WQ sc d 241 Q 4 [(2, 165), (0, l1), (0, l2)] [] g r := by
    refine upW 8 (by decide) fun l2 _ ih h0 l1 hl => ?_
    refine b_241_4 ⟨k9, ?_⟩
    rw [r_165_73 hr, r_165_71 hr]
    refine ite_c (fun q => ⟨k9, i_217.mpr ⟨h0, by omega⟩, ite_c (fun p => ite_c (fun _ => ih (by omega) (by rw [wr_id ⟨by omega, by omega⟩]; omega) _ ?_) (fun q1 => ⟨k9, i_215.mpr ⟨h0, by omega⟩, k9, i_215.mpr ⟨by omega, by omega⟩, ite_c (fun _ => ih (by omega) (by rw [wr_id ⟨by omega, by omega⟩]; omega) _ ?_) (fun _ => ih (by omega) (by rw [wr_id ⟨by omega, by omega⟩]; omega) _ hl)⟩)) (fun _ => ih (by omega) (by rw [wr_id ⟨by omega, by omega⟩]; omega) _ hl)⟩) (fun _ => h _ hl)
    all_goals exact Or.inr ⟨h0, by omega, cmp_gt.mp p⟩
  exact c_241 (loop 0 (by decide) (by decide) (-1) (Or.inl rfl))
theorem s_242 (hr : RI r) (hi : MI g) (h : ∀ v g', ME g g' → Q v g' r) : Ce sc (d + 9) 242 [(2, 165), (0, l1), (0, l2)] g r Q := by
  have k9 : okr 218 165 9 := okd (by decide +kernel)
  have c := hi.1.2.2.2.2.2.1
  have day : 0 ≤ l1 → l1 < 6 → 0 ≤ g 197 0 → g 197 0 ≤ 936 → ∀ l4 : Int, -2147483648 ≤ l4 → 1 ≤ l4 → ∀ (l3 : Int) g1, ME g g1 → g1 197 4 = g 197 0 + l4 - 1 → WQ sc (d + 8) 242 Q 83 [(2, 165), (0, l1), (9, 0), (0, l3), (0, l4), (9, 0), (9, 0), (9, 0), (9, 0), (9, 0)] [] g1 r := by
    intro m0 m6 b0 b1
    refine upW 25 (by decide) fun l4 _ ih h0 l3 g1 e0 f4 => ?_
    have w109 : l4 < 25 → ∀ (n : Nat) (l5 : Int), l5 ≤ n → rL l5 → ∀ (l3 l7 : Int) g2, ME g g2 → g2 197 4 = g 197 0 + l4 → (l7 = -1 ∨ (0 ≤ l7 ∧ l7 < 8 ∧ 0 < g2 217 l7)) → WQ sc (d + 8) 242 Q 109 [(2, 165), (0, l1), (9, 0), (0, l3), (0, l4), (1, l5), (8, 0), (0, l7), (9, 0), (9, 0)] [] g2 r := by
      intro q n
      have hw : wr (l4 + 1) = l4 + 1 := wr_id ⟨by omega, by omega⟩
      rw [hw] at ih
      induction n with
      | zero =>
        intro l5 hn _ l3 l7 g2 e2 f2 _
        refine b_242_109 ?_
        rw [hw]
        exact ite_c (fun p => absurd (cmp_gt.mp p) (by omega)) (fun _ => ih q (by omega) _ _ e2 (by omega))
      | succ n ihn =>
        intro l5 hn hr5 l3 l7 g2 e2 f2 h7
        have nx : 0 < l5 → ∀ (t0 l3 l7 : Int) g3, 0 < t0 → t0 ≤ l5 → ME g g3 → g3 197 4 = g 197 0 + l4 → (l7 = -1 ∨ (0 ≤ l7 ∧ l7 < 8 ∧ 0 < g3 217 l7)) → WQ sc (d + 8) 242 Q 109 [(2, 165), (0, l1), (9, 0), (0, l3), (0, l4), (1, wL (l5 - t0)), (8, 0), (0, l7), (9, 0), (9, 0)] [] g3 r := by
          intro p t0 l3 l7 g3 t1 t2 e3 f3 h73
          unfold rL at hr5
          rw [wL_id ⟨by omega, by omega⟩]
          exact ihn _ (by omega) ⟨by omega, by omega⟩ _ _ _ e3 f3 h73
        have e146 : 0 < l5 → 0 ≤ l7 → l7 < 8 → ∀ t0 : Int, 0 < t0 → t0 ≤ l5 → WQ sc (d + 8) 242 Q 146 [(2, 165), (0, l1), (9, 0), (0, l3), (0, l4), (1, l5), (8, 0), (0, l7), (9, 0), (9, 0)] [(1, t0)] g2 r := by
          intro p y0 y1 t0 t1 t2
          refine b_242_146 ?_
          rw [r_165_73 hr, r_165_71 hr]
          refine ⟨k9, i_217.mpr ⟨y0, y1⟩, i_217.mpr ⟨y0, y1⟩, fun g3 e3 => ?_⟩
          have e03 : ME g g3 := by rw [e3]; exact e2.u (by unfold MW MV; omega) (by decide)
          have f3 : g3 197 4 = g 197 0 + l4 := by rw [e3, up_i (by decide)]; exact f2
          have f7 : g3 165 70 = g 165 70 := e03.1 165 70 (by unfold MV; omega)
          exact ⟨k9, i_217.mpr ⟨y0, y1⟩, ite_c (fun _ => ⟨k9, i_215.mpr ⟨y0, y1⟩, ite_c (fun _ => ⟨k9, s_241 hr (by omega) (by omega) (fun v hv => nx p _ _ _ _ t1 t2 e03 f3 hv)⟩) (fun _ => ⟨k9, s_241 hr (by omega) (by omega) (fun v hv => nx p _ _ _ _ t1 t2 e03 f3 hv)⟩)⟩) (fun _ => ⟨k9, s_241 hr (by omega) (by omega) (fun v hv => nx p _ _ _ _ t1 t2 e03 f3 hv)⟩)⟩
        refine b_242_109 ?_
        rw [hw, r_165_73 hr]
        refine ite_c (fun p => ite_c (fun _ => ih q (by omega) _ _ e2 (by omega)) (fun y => ?_)) (fun _ => ih q (by omega) _ _ e2 (by omega))
        have p' := cmp_gt.mp p
        have hz : 0 ≤ l7 ∧ l7 < 8 ∧ 0 < g2 217 l7 := by
          rcases h7 with z | z
          · omega
          · exact z
        refine ⟨k9, i_217.mpr ⟨hz.1, hz.2.1⟩, ite_c (fun _ => e146 p' hz.1 hz.2.1 _ p' (Int.le_refl _)) (fun z => ⟨k9, i_217.mpr ⟨hz.1, hz.2.1⟩, e146 p' hz.1 hz.2.1 _ hz.2.2 ?_⟩)⟩
        have : ¬ l5 < g2 217 l7 := fun q => z (cmp_lt.mpr q)
        omega
    refine b_242_83 (ite_c (fun _ => h _ _ e0) (fun q => ⟨k9, s_205 hr (hi.me e0) (by decide) (by decide) (by omega) (by omega) (fun v g2 e2 _ f2 _ => ?_)⟩))
    have e02 := e0.tr e2
    have f7 : g2 165 70 = g 165 70 := e02.1 165 70 (by unfold MV; omega)
    rw [r_165_59 hr]
    refine ⟨k9, i_207.mpr ⟨m0, m6⟩, k9, s_241 hr (by omega) (by omega) (fun v hv => w109 (by omega) (g2 207 l1).toNat _ (by omega) ((e02.2 hi.2.1).2.2.2.2 l1) _ _ _ e02 (by omega) hv)⟩
  have fill : 0 ≤ l1 → l1 < 6 → 0 ≤ g 197 0 → g 197 0 ≤ 936 → ∀ l3 : Int, -2147483648 ≤ l3 → 0 ≤ l3 → ∀ g1, ME g g1 → g1 197 4 = g 197 0 → WQ sc (d + 8) 242 Q 51 [(2, 165), (0, l1), (9, 0), (0, l3), (9, 0), (9, 0), (9, 0), (9, 0), (9, 0), (9, 0)] [] g1 r := by
    intro m0 m6 b0 b1
    refine upW 8 (by decide) fun l3 _ ih h0 g1 e0 f4 => ?_
    have f7 : g1 165 70 = g 165 70 := e0.1 165 70 (by unfold MV; omega)
    refine b_242_51 ⟨k9, ?_⟩
    rw [r_165_72 hr, r_165_73 hr]
    refine ite_c (fun q => ⟨k9, k9, i_216.mpr ⟨h0, by omega⟩, i_217.mpr ⟨h0, by omega⟩, fun g2 e2 => ih (by omega) (by rw [wr_id ⟨by omega, by omega⟩]; omega) _ ?_ ?_⟩) (fun _ => day m0 m6 b0 b1 1 (by decide) (by decide) _ _ e0 (by omega))
    · rw [e2]; exact e0.u (by unfold MW MV; omega) (by decide)
    · rw [e2, up_i (by decide)]; exact f4
  refine c_242 ⟨k9, s_140 hr hi (fun m0 m6 _ _ _ _ _ _ _ => ?_) ?_⟩
  · rw [if_neg (by decide)]
    refine ⟨k9, s_211 hr hi (fun b0 b1 => ?_) ?_⟩
    · rw [if_neg (by decide)]
      refine w_137 (fun _ _ => ?_) (fun _ => ?_)
      · rw [if_neg (by decide)]
        refine ⟨k9, s_192b hr hi.2.1 (by decide) (by decide) (by decide) (by decide) (fun v1 g1 e1 f1 _ => ⟨k9, s_201 (fun v2 g2 e2 f2 => ⟨k9, fun g3 e3 => ⟨k9, fun g4 e4 => fill m0 m6 b0 b1 0 (by decide) (by decide) _ ?_ ?_⟩⟩)⟩)⟩
        · rw [e4, e3]
          exact ((e1.tr e2).u (mw_of (by decide +kernel)) (by decide)).u (mw_of (by decide +kernel)) (by decide)
        · rw [e4, up_i (by decide), e3, up_i (by decide), f2, f1]
      · rw [if_pos rfl]; exact h _ _ (ME.rf g)
    · rw [if_pos rfl]; exact h _ _ (ME.rf g)
  · rw [if_pos rfl]; exact h _ _ (ME.rf g)
/-- all but the text and how much of it there is -/
def MFd (g g' : GH) : Prop := MX g g' ∧ (∀ i j, i < 165 → g' i j = g i j) ∧ (∀ j, j ≠ 24 → g' 165 j = g 165 j) ∧ (∀ j, g' 209 j = g 209 j) ∧ ∀ j, g' 211 j = g 211 j
theorem f_142 (hr : RI r) (l1 l2 l3 l4 l5 : Int) : ∀ (n : Nat) (l6 : Int) (g1 : GH), 0 ≤ l6 → l6 + n = 20 → 0 ≤ g1 165 24 → g1 165 24 + n ≤ 700 → MFd g g1 → (∀ g', MFd g g' → g' 165 24 = g1 165 24 + n → Q (g1 165 24 + n) g' r) → WQ sc d 142 Q 18 [(2, 165), (0, l1), (0, l2), (0, l3), (0, l4), (0, l5), (0, l6), (9, 0)] [] g1 r
  | 0, l6, g1, h0, h1, h2, h3, e0, h => by
    refine b_142_18 (ite_c (fun q => absurd q (by omega)) (fun _ => ⟨okd (by decide +kernel), ?_⟩))
    have := h g1 e0 (by omega)
    rwa [show g1 165 24 + ((0 : Nat) : Int) = g1 165 24 by omega] at this
  | n + 1, l6, g1, h0, h1, h2, h3, e0, h => by
    have k9 : okr 218 165 9 := okd (by decide +kernel)
    have key : ∀ t0 : Int, WQ sc d 142 Q 71 [(2, 165), (0, l1), (0, l2), (0, l3), (0, l4), (0, l5), (0, l6), (9, 0)] [(0, t0)] g1 r := by
      intro t0
      refine b_142_71 ?_
      rw [r_165_23 hr]
      refine ⟨k9, k9, by decide, Or.inl ⟨i_189.mpr ⟨h2, by omega⟩, ib_ib _⟩, fun g2 e2 => ⟨k9, k9, fun g3 e3 => ?_⟩⟩
      have f2 : g2 165 24 = g1 165 24 := by rw [e2, up_i (by decide)]
      have f3 : g3 165 24 = g1 165 24 + 1 := by rw [e3, up_s, f2, wr_id ⟨by omega, by omega⟩]
      have e03 : MFd g g3 := by
        obtain ⟨x1, x2, x3, x4, x5⟩ := e0
        refine ⟨?_, fun i j hi => ?_, fun j hj => ?_, fun j => ?_, fun j => ?_⟩
        · rw [e3, e2]
          exact (x1.u (by omega) (by decide)).u (by omega) (by decide)
        · rw [e3, up_i (by omega), e2, up_i (by omega)]; exact x2 i j hi
        · rw [e3, up_j hj, e2, up_i (by decide)]; exact x3 j hj
        · rw [e3, up_i (by decide), e2, up_i (by decide)]; exact x4 j
        · rw [e3, up_i (by decide), e2, up_i (by decide)]; exact x5 j
      rw [wr_id (x := l6 + 1) ⟨by omega, by omega⟩]
      refine f_142 hr l1 l2 l3 l4 l5 n (l6 + 1) g3 (by omega) (by omega) (by omega) (by omega) e03 fun g' hg e => ?_
      have := h g' hg (by omega)
      rwa [show g3 165 24 + (n : Int) = g1 165 24 + ((n + 1 : Nat) : Int) by omega]
    exact b_142_18 (ite_c (fun _ => ite_c (fun _ => key _) (fun _ => ite_c (fun _ => key _) (fun _ => ite_c (fun _ => key _) (fun _ => ite_c (fun _ => key _) (fun _ => key _))))) (fun q => absurd (by omega) q))
theorem s_142 (hr : RI r) (hi : MI g) (h1 : g 165 24 + 20 ≤ 700 → ∀ g', MI g' → MFd g g' → g' 165 24 = g 165 24 + 20 → Q (g 165 24 + 20) g' r) (h0 : ¬ g 165 24 + 20 ≤ 700 → Q (-1) g r) : Ce sc (d + 1) 142 [(2, 165), (0, l1), (0, l2), (0, l3), (0, l4), (0, l5)] g r Q := by
  have k9 : okr 218 165 9 := okd (by decide +kernel)
  have c := hi.1.1
  refine c_142 ⟨k9, ?_⟩
  rw [wr_id (x := g 165 24 + 20) ⟨by omega, by omega⟩]
  refine ite_c (fun q => h0 (by omega)) (fun q => f_142 hr l1 l2 l3 l4 l5 20 0 g (by decide) rfl (by omega) (by omega) ⟨MX.rf g, fun _ _ _ => rfl, fun _ _ => rfl, fun _ => rfl, fun _ => rfl⟩ (fun g' e f => ?_))
  refine h1 (by omega) g' (mi_num hi e.1.1 e.1.2 ?_) e f
  have hn := hi.1
  unfold MN at hn ⊢
  rw [f, e.2.2.1 48 (by decide), e.2.2.1 61 (by decide), e.2.2.1 64 (by decide), e.2.2.1 66 (by decide), e.2.2.1 70 (by decide)]
  refine ⟨by omega, hn.2.1, hn.2.2.1, hn.2.2.2.1, hn.2.2.2.2.1, hn.2.2.2.2.2.1, fun k => ?_⟩
  rw [e.2.2.2.1]; exact hn.2.2.2.2.2.2 k
end MPJ
