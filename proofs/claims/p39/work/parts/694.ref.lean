/-! the reference's hours come to their end; printed by a program (wip/gen/gen_m5.py) -/
/-- what an hour leaves: all that ME leaves, the object's own numbers and the hours gone -/
def MH (g g' : GH) : Prop := ME g g' ∧ (∀ j, g' 165 j = g 165 j) ∧ ∀ j, g' 197 j = g 197 j
theorem MH.rf (g : GH) : MH g g := ⟨ME.rf g, fun _ => rfl, fun _ => rfl⟩
theorem MH.tr {a b c : GH} (h1 : MH a b) (h2 : MH b c) : MH a c := ⟨h1.1.tr h2.1, fun j => (h2.2.1 j).trans (h1.2.1 j), fun j => (h2.2.2 j).trans (h1.2.2 j)⟩
theorem MH.u {a b : GH} {x j v : Int} (h : MH a b) (hx : MW x j) (hb : x ≠ 168 ∧ x ≠ 197 ∧ x ≠ 198 ∧ x ≠ 204 ∧ x ≠ 207 ∧ x ≠ 165) : MH a (up b x j v) := ⟨h.1.u hx ⟨hb.1, hb.2.1, hb.2.2.1, hb.2.2.2.1, hb.2.2.2.2.1⟩, fun k => by rw [up_i hb.2.2.2.2.2.symm]; exact h.2.1 k, fun k => by rw [up_i hb.2.1.symm]; exact h.2.2 k⟩
theorem MH.ub {a b : GH} {j v : Int} (h : MH a b) (hv : v = 0 ∨ v = 1) : MH a (up b 204 j v) := ⟨h.1.ub (by unfold MW MV; omega) (by decide) hv, fun k => by rw [up_i (by decide)]; exact h.2.1 k, fun k => by rw [up_i (by decide)]; exact h.2.2 k⟩
theorem MH.ur {a b : GH} {j v : Int} (h : MH a b) (hv : rL v) : MH a (up b 207 j v) := ⟨h.1.ur hv, fun k => by rw [up_i (by decide)]; exact h.2.1 k, fun k => by rw [up_i (by decide)]; exact h.2.2 k⟩
theorem MH.u8 {a b : GH} {j v : Int} (h : MH a b) (hv : v = 0 ∨ v = 1) : MH a (up b 198 j v) := ⟨h.1.ub (by unfold MW MV; omega) (by decide) hv, fun k => by rw [up_i (by decide)]; exact h.2.1 k, fun k => by rw [up_i (by decide)]; exact h.2.2 k⟩
theorem rm_of {a b : GH} (hi : MI a) (e : ME a b) {m : Int} (m0 : 0 ≤ m) (m6 : m < 6) (mt : a 167 m ≠ 0) : 1 ≤ b 175 m := by
  rw [e.1 175 m (by unfold MV; omega)]
  exact (hi.2.2 m m0 m6 mt).2.1
/-- how many of the first bits of b are set -/
def popm (b : Int) : Nat → Int
  | 0 => 0
  | n + 1 => wr (popm b n + i_and (i_shr b n) 1)
def SHF (s : Int) : Prop := 0 ≤ s ∧ s < 64 ∧ popm s 6 ≤ 3
theorem pop_all : (List.range 64).all (fun s => (List.range 6).all (fun m => decide (popm (s : Int) 6 ≤ 3 → i_and (i_shr (s : Int) (m : Int)) 1 = 1 → 0 ≤ popm (s : Int) m ∧ popm (s : Int) m ≤ 2))) = true := by decide +kernel
theorem pop_le {s m : Int} (h : SHF s) (m0 : 0 ≤ m) (m6 : m < 6) (hb : i_and (i_shr s m) 1 = 1) : 0 ≤ popm s m.toNat ∧ popm s m.toNat ≤ 2 := by
  obtain ⟨h0, h1, h2⟩ := h
  have h3 := List.all_eq_true.mp (List.all_eq_true.mp pop_all s.toNat (List.mem_range.mpr (by omega))) m.toNat (List.mem_range.mpr (by omega))
  have h4 := of_decide_eq_true h3
  rw [Int.toNat_of_nonneg h0, Int.toNat_of_nonneg m0] at h4
  exact h4 h2 hb
theorem pop_set : (List.range 6).all (fun k => (List.range 64).all (fun s => decide ((s : Int) < 2 ^ k → 0 ≤ i_or (s : Int) (i_shl 1 (k : Int)) ∧ i_or (s : Int) (i_shl 1 (k : Int)) < 2 ^ (k + 1) ∧ popm (i_or (s : Int) (i_shl 1 (k : Int))) 6 = popm (s : Int) 6 + 1))) = true := by decide +kernel
section MPH
variable {sc : SCR} {d : Nat} {Q : QJ} {g r : GH} {l0 l1 l2 l3 l4 l5 l6 l7 l8 l9 l10 l11 l12 l13 l14 l15 l16 t0 : Int}
theorem s_199 (hr : RI r) (a0 : 0 ≤ l1) (a1 : l1 < 240) (x0 : 0 ≤ g 183 l1) (x1 : g 184 l1 ≤ 2800) (hp : PGF g (g 183 l1) (g 184 l1)) (h : ∀ v g', MH g g' → Q v g' r) : Ce sc (d + 1) 199 [(2, 165), (0, l1)] g r Q := by
  have k9 : okr 218 165 9 := okd (by decide +kernel)
  obtain ⟨ht, hz, hp⟩ := hp
  have loop : ∀ l3 : Int, -2147483648 ≤ l3 → g 183 l1 ≤ l3 → ∀ l2 : Int, ((l3 ≤ g 184 l1 → l2 = ht l3) ∧ (g 184 l1 < l3 → l2 = 0)) → ∀ g1, MH g g1 → WQ sc d 199 Q 9 [(2, 165), (0, l1), (0, l2), (0, l3), (9, 0)] [] g1 r := by
    refine upW (g 184 l1) (by omega) fun l3 _ ih h3 l2 e2 g1 e0 => ?_
    have f4 : g1 184 l1 = g 184 l1 := e0.1.1 184 l1 (by unfold MV; omega)
    have f5 : g1 185 l3 = g 185 l3 := e0.1.1 185 l3 (by unfold MV; omega)
    have f6 : g1 186 l3 = g 186 l3 := e0.1.1 186 l3 (by unfold MV; omega)
    refine b_199_9 ?_
    rw [r_165_18 hr, f4]
    refine ⟨k9, i_184.mpr ⟨a0, a1⟩, ite_c (fun q => ?_) (fun q => ?_)⟩
    · obtain ⟨y0, y1, hc⟩ := hp l3 h3 q
      have e2' := e2.1 (by omega)
      have hw : wr (l3 + 1) = l3 + 1 := wr_id ⟨by omega, by omega⟩
      have hw2 : wr (l2 + 1) = l2 + 1 := wr_id ⟨by omega, by omega⟩
      have hw3 : wr (l2 - 1) = l2 - 1 := wr_id ⟨by omega, by omega⟩
      have hw4 : wr (l2 + (-1)) = l2 - 1 := wr_id ⟨by omega, by omega⟩
      have hw5 : wr (l2 - 1 - 1) = l2 - 1 - 1 := wr_id ⟨by omega, by omega⟩
      rw [hw] at ih
      simp only [hw, hw2, hw3, hw4, hw5, r_165_19 hr, r_165_20 hr, r_165_21 hr, r_165_22 hr, r_165_50 hr, r_165_51 hr]
      repeat' first
        | (with_reducible refine ite_01 ?_)
        | (with_reducible refine ite_00 ?_)
        | (with_reducible refine And.intro ?_ ?_; · first | assumption | decide | (exact AR.i (by assumption) (by omega) (by omega)) | (exact AR.a (by assumption) (by decide) (by decide)) | (exact AR.k (by assumption)) | omega | (have := cmp_gt.mp (by assumption : 0 < cmpL _ 0); omega) | (exact i_183.mpr ⟨by omega, by omega⟩) | (exact i_184.mpr ⟨by omega, by omega⟩) | (exact i_185.mpr ⟨by omega, by omega⟩) | (exact i_186.mpr ⟨by omega, by omega⟩) | (exact i_187.mpr ⟨by omega, by omega⟩) | (exact i_188.mpr ⟨by omega, by omega⟩) | (exact i_203.mpr ⟨by omega, by omega⟩) | (exact Or.inr (i_204.mpr ⟨by omega, by omega⟩)) | (exact i_204.mpr ⟨by omega, by omega⟩) | (exact Or.inr ⟨i_204.mpr ⟨by omega, by omega⟩, by decide⟩))
        | (simp only [r_165_17 hr, r_165_18 hr, r_165_19 hr, r_165_20 hr, r_165_21 hr, r_165_22 hr, r_165_50 hr, r_165_51 hr])
        | (refine ite_c (fun _ => ?_) (fun _ => ?_))
        | (intro _ e1; subst e1)
        | (exfalso; omega)
        | (exact absurd trivial (by assumption))
        | ((with_reducible refine ih ?_ ?_ _ ?_ _ ?_) <;> (first | ((repeat (with_reducible first | assumption | exact MH.rf _ | (refine MH.u ?_ (mw_of (by decide +kernel)) (by decide)) | (refine MH.ub ?_ (by first | decide | assumption)) | (refine MH.u ?_ (by unfold MW MV; omega) (by decide)) | (refine MH.tr ?_ (by assumption)))); done) | omega | decide | (rw [wr_id ⟨by omega, by omega⟩]; omega)))
        | ((first | ((with_reducible refine h _ _ ?_); ((repeat (with_reducible first | assumption | exact MH.rf _ | (refine MH.u ?_ (mw_of (by decide +kernel)) (by decide)) | (refine MH.ub ?_ (by first | decide | assumption)) | (refine MH.u ?_ (by unfold MW MV; omega) (by decide)) | (refine MH.tr ?_ (by assumption)))); done))))
    · have y : (g 184 l1 < l3 ∨ l3 = g 184 l1) := by omega
      have nn : ∀ v, (v = 0 ∨ v = 1) → Q v g1 r := fun v _ => h _ _ e0
      rw [r_165_51 hr]
      exact ite_c (fun _ => ⟨Or.inr rfl, h _ _ e0⟩) (fun _ => ⟨k9, Or.inr (i_204.mpr ⟨by decide, by decide⟩), ite_c (fun _ => ⟨Or.inl rfl, h _ _ e0⟩) (fun _ => ⟨Or.inr rfl, h _ _ e0⟩)⟩)
  refine c_199 ?_
  rw [r_165_17 hr]
  exact ⟨k9, i_183.mpr ⟨a0, a1⟩, loop _ (by omega) (Int.le_refl _) 0 ⟨fun _ => hz.symm, fun _ => rfl⟩ g (MH.rf g)⟩
theorem s_200 (hr : RI r) (hi : MI g) (m0 : 0 ≤ l1) (m6 : l1 < 6) (mt : g 167 l1 ≠ 0) (h : ∀ v g', MH g g' → Q v g' r) : Ce sc (d + 2) 200 [(2, 165), (0, l1)] g r Q := by
  have k9 : okr 218 165 9 := okd (by decide +kernel)
  have hm := hi.2.2 l1 m0 m6 mt
  have hw : wr (30 * l1) = 30 * l1 := wr_id ⟨by omega, by omega⟩
  have loop : ∀ l2 : Int, -2147483648 ≤ l2 → 30 * l1 ≤ l2 → ∀ g1, MH g g1 → WQ sc (d + 1) 200 Q 5 [(2, 165), (0, l1), (0, l2)] [] g1 r := by
    refine upW (30 * l1 + 30) (by omega) fun l2 _ ih h2 g1 e0 => ?_
    have hm1 := MT.eq m6 e0.1.1 hm
    have hg := hm1.2.2.1
    refine b_200_5 ?_
    rw [r_165_13 hr, hw, wr_id (x := 30 * l1 + g1 179 l1) ⟨by omega, by omega⟩]
    refine ⟨k9, i_179.mpr ⟨m0, by omega⟩, ite_c (fun q => ⟨k9, ?_⟩) (fun _ => h _ _ e0)⟩
    obtain ⟨b1, b2, hp⟩ := hm1.2.2.2 l2 h2 q
    refine s_199 hr (by omega) (by omega) (by omega) (by omega) hp (fun v g2 e2 => ?_)
    rw [r_165_16 hr]
    exact ite_c (fun _ => ih (by omega) (by rw [wr_id ⟨by omega, by omega⟩]; omega) _ (e0.tr e2)) (fun _ => ⟨k9, i_182.mpr ⟨by omega, by omega⟩, h _ _ (e0.tr e2)⟩)
  refine c_200 ?_
  rw [hw]
  exact loop _ (by omega) (Int.le_refl _) g (MH.rf g)
theorem s_201 (h : ∀ v g', ME g g' → (∀ j, g' 197 j = g 197 j) → Q v g' r) : Ce sc (d + 1) 201 [(2, 165)] g r Q := by
  have k9 : okr 218 165 9 := okd (by decide +kernel)
  refine c_201 ⟨k9, fun g1 e1 => ⟨k9, fun g2 e2 => h _ _ ?_ (fun j => by rw [e2, up_i (by decide), e1, up_i (by decide)])⟩⟩
  rw [e2, e1]
  exact ((ME.rf g).u (mw_of (by decide +kernel)) (by decide)).u (mw_of (by decide +kernel)) (by decide)
theorem s_202 (m0 : 0 ≤ l1) (m6 : l1 < 6) (h : Q (popm (g 165 52) l1.toNat) g r) : Ce sc (d + 1) 202 [(2, 165), (0, l1)] g r Q := by
  have k9 : okr 218 165 9 := okd (by decide +kernel)
  have loop : ∀ (n m : Nat), (m : Int) + n = l1 → WQ sc d 202 Q 4 [(2, 165), (0, l1), (0, popm (g 165 52) m), (0, (m : Int))] [] g r := by
    intro n
    induction n with
    | zero =>
      intro m e
      refine b_202_4 (ite_c (fun q => absurd q (by omega)) (fun _ => ?_))
      have : m = l1.toNat := by omega
      rw [this]; exact h
    | succ n ih =>
      intro m e
      refine b_202_4 (ite_c (fun q => ⟨k9, ?_⟩) (fun q => absurd (by omega) q))
      have := ih (m + 1) (by omega)
      have hw : wr ((m : Int) + 1) = ((m + 1 : Nat) : Int) := by rw [wr_id ⟨by omega, by omega⟩]; omega
      rw [hw]
      exact this
  exact c_202 (loop l1.toNat 0 (by omega))
theorem s_203 (hr : RI r) (hi : MI g) (m0 : 0 ≤ l1) (m6 : l1 < 6) (mt : g 167 l1 ≠ 0) (h : ∀ v g', MH g g' → Q v g' r) : Ce sc (d + 3) 203 [(2, 165), (0, l1), (0, l2)] g r Q := by
  have k9 : okr 218 165 9 := okd (by decide +kernel)
  refine c_203 ⟨k9, k9, s_200 hr hi m0 m6 mt (fun v g1 e1 => ?_)⟩
  rw [r_165_58 hr]
  refine ⟨i_206.mpr ⟨m0, m6⟩, fun g2 e2 => ?_⟩
  have e0 : MH g g2 := by rw [e2]; exact e1.u (by unfold MW MV; omega) (by decide)
  exact ⟨k9, ite_c (fun _ => ⟨k9, h _ _ e0⟩) (fun _ => ⟨k9, ite_c (fun _ => ⟨k9, i_206.mpr ⟨m0, m6⟩, h _ _ e0⟩) (fun _ => ⟨k9, k9, s_202 m0 m6 ⟨by decide, k9, ite_c (fun _ => ⟨k9, h _ _ e0⟩) (fun _ => h _ _ e0)⟩⟩)⟩)⟩
theorem s_204 (hr : RI r) (hi : MI g) (a0 : 0 ≤ l1) (a4 : l1 ≤ 4) (m0 : 0 ≤ l2) (m6 : l2 < 6) (mt : g 167 l2 ≠ 0) (z0 : 0 ≤ l3) (z9 : l3 < 960) (h : ∀ v g', MH g g' → Q v g' r) : Ce sc (d + 7) 204 [(2, 165), (0, l1), (0, l2), (0, l3), (0, l4)] g r Q := by
  have k9 : okr 218 165 9 := okd (by decide +kernel)
  have hg := (hi.2.2 l2 m0 m6 mt).1
  have hw6 : wr (6 * l1) = 6 * l1 := wr_id ⟨by omega, by omega⟩
  have hw40 : wr (40 * l1) = 40 * l1 := wr_id ⟨by omega, by omega⟩
  have hwx : wr (6 * l1 + l2) = 6 * l1 + l2 := wr_id ⟨by omega, by omega⟩
  have hd : wr (l3.tdiv 24) = l3 / 24 := by rw [Int.tdiv_eq_ediv_of_nonneg z0, wr_id ⟨by omega, by omega⟩]
  have hdx : wr (40 * l1 + l3 / 24) = 40 * l1 + l3 / 24 := wr_id ⟨by omega, by omega⟩
  have e321 : ∀ (l5 l9 l11 l12 t3 t2 : Int) g1, MH g g1 → 0 ≤ l5 → l5 < 30 → WQ sc (d + 6) 204 Q 321 [(2, 165), (9, 0), (9, 0), (9, 0), (9, 0), (0, l5), (9, 0), (9, 0), (9, 0), (0, l9), (9, 0), (0, l11), (0, l12), (9, 0)] [(0, t3), (0, t2), (0, l5), (2, 195)] g1 r := by
    intro l5 l9 l11 l12 t3 t2 g1 e0 x0 x1
    refine b_204_321 ⟨i_195.mpr ⟨x0, x1⟩, fun g2 e2 => ?_⟩
    have e02 : MH g g2 := by rw [e2]; exact e0.u (by unfold MW MV; omega) (by decide)
    rw [r_165_41 hr]
    refine ⟨k9, i_196.mpr ⟨x0, x1⟩, ite_c (fun _ => ite_c (fun _ => ⟨i_196.mpr ⟨x0, x1⟩, fun g3 e3 => h _ _ ?_⟩) (fun _ => ⟨i_196.mpr ⟨x0, x1⟩, fun g3 e3 => h _ _ ?_⟩)) (fun _ => ⟨i_196.mpr ⟨x0, x1⟩, fun g3 e3 => h _ _ ?_⟩)⟩
    all_goals (rw [e3]; exact e02.u (by unfold MW MV; omega) (by decide))
  have e267 : ∀ (l5 l9 l11 l12 t4 : Int) g1, MH g g1 → 0 ≤ l5 → l5 < 30 → WQ sc (d + 6) 204 Q 267 [(2, 165), (9, 0), (0, l2), (9, 0), (9, 0), (0, l5), (9, 0), (9, 0), (9, 0), (0, l9), (9, 0), (0, l11), (0, l12), (9, 0)] [(0, t4), (0, l2), (2, 165), (0, l2), (2, 207)] g1 r := by
    intro l5 l9 l11 l12 t4 g1 e0 x0 x1
    have hg1 : GM g1 l2 := gm_eq m6 e0.1.1 hg
    refine b_204_267 ?_
    rw [r_165_11 hr]
    refine ⟨k9, i_177.mpr ⟨m0, by omega⟩, k9, s_177L hr hg1 hg1.2.2.2.2.2.2.1 hg1.2.2.2.2.2.2.2 (by decide) (by decide) (fun v hv => ?_)⟩
    rw [r_165_44 hr, r_165_59 hr, r_165_40 hr]
    refine ⟨i_207.mpr ⟨m0, m6⟩, fun g2 e2 => ⟨k9, i_199.mpr ⟨x0, x1⟩, k9, i_207.mpr ⟨m0, m6⟩, i_199.mpr ⟨x0, x1⟩, fun g3 e3 => ?_⟩⟩
    have e03 : MH g g3 := by
      rw [e3, e2]
      exact (e0.ur hv).u (by unfold MW MV; omega) (by decide)
    exact ⟨k9, i_195.mpr ⟨x0, x1⟩, k9, i_207.mpr ⟨m0, m6⟩, ite_c (fun _ => e321 _ _ _ _ _ _ _ e03 x0 x1) (fun _ => e321 _ _ _ _ _ _ _ e03 x0 x1)⟩
  have e232 : ∀ (l5 l9 l11 t0 : Int) g1, MH g g1 → 0 ≤ l5 → l5 < 30 → WQ sc (d + 6) 204 Q 232 [(2, 165), (9, 0), (0, l2), (9, 0), (9, 0), (0, l5), (9, 0), (9, 0), (9, 0), (0, l9), (9, 0), (0, l11), (9, 0), (9, 0)] [(0, t0)] g1 r := by
    intro l5 l9 l11 t0 g1 e0 x0 x1
    refine b_204_232 ?_
    rw [r_165_59 hr]
    exact ⟨by decide, k9, ite_c (fun _ => e267 _ _ _ _ _ _ e0 x0 x1) (fun _ => e267 _ _ _ _ _ _ e0 x0 x1)⟩
  have e189 : ∀ (l5 l7 l8 l9 t0 : Int) g1, MH g g1 → 0 ≤ l5 → l5 < 30 → WQ sc (d + 6) 204 Q 189 [(2, 165), (9, 0), (0, l2), (9, 0), (9, 0), (0, l5), (9, 0), (0, l7), (0, l8), (0, l9), (9, 0), (9, 0), (9, 0), (9, 0)] [(0, t0)] g1 r := by
    intro l5 l7 l8 l9 t0 g1 e0 x0 x1
    refine b_204_189 ?_
    rw [r_165_38 hr, r_165_10 hr]
    refine ⟨k9, i_193.mpr ⟨x0, x1⟩, i_193.mpr ⟨x0, x1⟩, fun g2 e2 => ?_⟩
    have e02 : MH g g2 := by rw [e2]; exact e0.u (by unfold MW MV; omega) (by decide)
    exact ite_c (fun _ => e232 _ _ _ _ _ e02 x0 x1) (fun _ => ⟨k9, i_176.mpr ⟨m0, by omega⟩, ite_c (fun _ => ⟨k9, i_176.mpr ⟨m0, by omega⟩, e232 _ _ _ _ _ e02 x0 x1⟩) (fun _ => e232 _ _ _ _ _ e02 x0 x1)⟩)
  have e84 : ∀ (l5 l7 l8 t0 : Int) g1, MH g g1 → l5 = 6 * l1 + l2 → WQ sc (d + 6) 204 Q 84 [(2, 165), (0, l1), (0, l2), (0, l3), (9, 0), (0, l5), (0, l3 / 24), (0, l7), (0, l8), (9, 0), (9, 0), (9, 0), (9, 0), (9, 0)] [(0, t0)] g1 r := by
    intro l5 l7 l8 t0 g1 e0 e5
    have x0 : 0 ≤ l5 := by omega
    have x1 : l5 < 30 := by omega
    refine b_204_84 ?_
    rw [hw40, hdx, r_165_38 hr, r_165_50 hr]
    refine ⟨k9, i_193.mpr ⟨x0, x1⟩, i_193.mpr ⟨x0, x1⟩, fun g2 e2 => ⟨k9, by decide, i_203.mpr ⟨by decide, by decide⟩, fun g3 e3 => ⟨k9, k9, ?_⟩⟩⟩
    have e03 : MH g g3 := by
      rw [e3, e2]
      exact (e0.u (by unfold MW MV; omega) (by decide)).u (by unfold MW MV; omega) (by decide)
    refine s_198 hr a0 a4 m6 (fun _ => rm_of hi e03.1 m0 m6 mt) (fun v => ?_)
    rw [r_165_37 hr, r_165_50 hr]
    refine ⟨i_203.mpr ⟨by decide, by decide⟩, fun g4 e4 => ⟨k9, k9, i_192.mpr ⟨by omega, by omega⟩, i_203.mpr ⟨by decide, by decide⟩, fun g5 e5' => ⟨k9, i_203.mpr ⟨by decide, by decide⟩, fun g6 e6 => ⟨k9, i_203.mpr ⟨by decide, by decide⟩, fun g7 e7 => ⟨by decide, k9, ?_⟩⟩⟩⟩⟩
    have e07 : MH g g7 := by
      rw [e7, e6, e5', e4]
      exact (((e03.u (by unfold MW MV; omega) (by decide)).u (by unfold MW MV; omega) (by decide)).u (by unfold MW MV; omega) (by decide)).u (by unfold MW MV; omega) (by decide)
    have mt7 : g7 167 l2 ≠ 0 := by rw [e07.1.1 167 l2 (by unfold MV; omega)]; exact mt
    refine s_203 hr (hi.me e07.1) m0 m6 mt7 (fun v8 g8 e8 => ?_)
    rw [r_165_38 hr]
    exact ⟨k9, i_193.mpr ⟨x0, x1⟩, ite_c (fun _ => e189 _ _ _ _ _ _ (e07.tr e8) x0 x1) (fun _ => ⟨k9, i_193.mpr ⟨x0, x1⟩, e189 _ _ _ _ _ _ (e07.tr e8) x0 x1⟩)⟩
  refine c_204 ?_
  refine ⟨by decide, k9, s_197 hr m0 m6 (fun v1 h1 => ⟨k9, s_198 hr a0 a4 (by omega) (fun q => rm_of hi (ME.rf g) q (by omega) (by rcases h1 with e | e; omega; exact e.2.2)) (fun v2 => ?_)⟩)⟩
  rw [r_165_57 hr, r_165_38 hr, r_165_9 hr, hw6, hwx, hd]
  have x0 : 0 ≤ 6 * l1 + l2 := by omega
  have x1 : 6 * l1 + l2 < 30 := by omega
  refine ⟨k9, i_205.mpr ⟨m0, m6⟩, fun g3 e3 => ⟨k9, i_193.mpr ⟨x0, x1⟩, i_193.mpr ⟨x0, x1⟩, fun g4 e4 => ?_⟩⟩
  have e04 : MH g g4 := by
    rw [e4, e3]
    exact ((MH.rf g).u (by unfold MW MV; omega) (by decide)).u (by unfold MW MV; omega) (by decide)
  exact ⟨k9, i_193.mpr ⟨x0, x1⟩, k9, i_175.mpr ⟨m0, by omega⟩, ite_c (fun _ => ⟨k9, i_193.mpr ⟨x0, x1⟩, k9, i_175.mpr ⟨m0, by omega⟩, e84 _ _ _ _ _ e04 rfl⟩) (fun _ => e84 _ _ _ _ _ e04 rfl)⟩
theorem s_205 (hr : RI r) (hi : MI g) (a0 : 0 ≤ l1) (a4 : l1 ≤ 4) (z0 : 0 ≤ g 197 l1) (z9 : g 197 l1 < 960) (h : ∀ v g', ME g g' → (∀ j, g' 165 j = g 165 j) → g' 197 l1 = g 197 l1 + 1 → (∀ j, j ≠ l1 → g' 197 j = g 197 j) → Q v g' r) : Ce sc (d + 8) 205 [(2, 165), (0, l1)] g r Q := by
  have k9 : okr 218 165 9 := okd (by decide +kernel)
  have hw6 : wr (6 * l1) = 6 * l1 := wr_id ⟨by omega, by omega⟩
  have hw40 : wr (40 * l1) = 40 * l1 := wr_id ⟨by omega, by omega⟩
  have hd : wr ((g 197 l1).tdiv 24) = g 197 l1 / 24 := by rw [Int.tdiv_eq_ediv_of_nonneg z0, wr_id ⟨by omega, by omega⟩]
  have hdx : wr (40 * l1 + g 197 l1 / 24) = 40 * l1 + g 197 l1 / 24 := wr_id ⟨by omega, by omega⟩
  have loop : ∀ l5 : Int, -2147483648 ≤ l5 → 0 ≤ l5 → ∀ (l4 : Int) g1, MH g g1 → WQ sc (d + 7) 205 Q 66 [(2, 165), (0, l1), (0, g 197 l1), (9, 0), (0, l4), (0, l5), (9, 0), (9, 0)] [] g1 r := by
    refine upW 6 (by decide) fun l5 _ ih h0 l4 g1 e0 => ?_
    have e142 : l5 < 6 → ∀ (l4 l7 t2 t1 : Int) g2, MH g g2 → 0 ≤ t1 → t1 < 30 → WQ sc (d + 7) 205 Q 142 [(2, 165), (0, l1), (0, g 197 l1), (9, 0), (0, l4), (0, l5), (9, 0), (0, l7)] [(0, t2), (0, t1), (2, 194)] g2 r := by
      intro q l4 l7 t2 t1 g2 e2 y0 y1
      refine b_205_142 ⟨i_194.mpr ⟨y0, y1⟩, fun g3 e3 => ⟨k9, ?_⟩⟩
      have e03 : MH g g3 := by rw [e3]; exact e2.u (by unfold MW MV; omega) (by decide)
      refine s_197 hr h0 q (fun v _ => ?_)
      rw [r_165_46 hr]
      refine ite_c (fun _ => ⟨k9, i_201.mpr ⟨a0, by omega⟩, i_201.mpr ⟨a0, by omega⟩, fun g4 e4 => ih q (by rw [wr_id ⟨by omega, by omega⟩]; omega) _ _ ?_⟩) (fun _ => ih q (by rw [wr_id ⟨by omega, by omega⟩]; omega) _ _ e03)
      rw [e4]; exact e03.u (by unfold MW MV; omega) (by decide)
    refine b_205_66 ?_
    rw [r_165_1 hr, r_165_39 hr, r_165_42 hr, hw6]
    refine ite_c (fun q => ⟨k9, Or.inr (i_167.mpr ⟨h0, by omega⟩), ite_c (fun _ => ih q (by rw [wr_id ⟨by omega, by omega⟩]; omega) _ _ e0) (fun mt => ?_)⟩) (fun q => ?_)
    · have hwx : wr (6 * l1 + l5) = 6 * l1 + l5 := wr_id ⟨by omega, by omega⟩
      rw [hwx]
      refine ⟨k9, i_194.mpr ⟨by omega, by omega⟩, k9, s_204 hr (hi.me e0.1) a0 a4 h0 q mt z0 z9 (fun v g2 e2 => ⟨k9, k9, s_197 hr h0 q (fun v2 _ => ?_)⟩)⟩
      rw [r_165_39 hr]
      exact ite_c (fun _ => e142 q _ _ _ _ _ (e0.tr e2) (by omega) (by omega)) (fun _ => e142 q _ _ _ _ _ (e0.tr e2) (by omega) (by omega))
    · refine ⟨k9, i_197.mpr ⟨a0, by omega⟩, i_197.mpr ⟨a0, by omega⟩, fun g2 e2 => ?_⟩
      rw [e0.2.2, wr_id ⟨by omega, by omega⟩] at e2
      refine h _ _ ?_ (fun j => by rw [e2, up_i (by decide)]; exact e0.2.1 j) (by rw [e2, up_s]) (fun j hj => by rw [e2, up_j hj]; exact e0.2.2 j)
      rw [e2]
      exact e0.1.u7 (by omega)
  refine c_205 ?_
  rw [r_165_42 hr, r_165_43 hr, r_165_37 hr, r_165_45 hr, hw40, hd, hdx]
  refine ⟨k9, i_197.mpr ⟨a0, by omega⟩, k9, by decide, Or.inr (i_198.mpr ⟨by omega, by omega⟩), ite_c (fun _ => ⟨k9, by decide, i_192.mpr ⟨by omega, by omega⟩, by decide, k9, i_200.mpr ⟨a0, by omega⟩, i_200.mpr ⟨a0, by omega⟩, fun g1 e1 => loop 0 (by decide) (by decide) _ _ ?_⟩) (fun _ => ⟨k9, i_200.mpr ⟨a0, by omega⟩, i_200.mpr ⟨a0, by omega⟩, fun g1 e1 => loop 0 (by decide) (by decide) _ _ ?_⟩)⟩
  all_goals (rw [e1]; exact (MH.rf g).u (by unfold MW MV; omega) (by decide))
end MPH
