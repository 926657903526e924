/-! the reference's hour, all mills -/
def MXA (gp : GH) (mm : Int → GH) : Prop := ∀ k, TM gp k → MX3 k gp (mm k)
/-- what an hour leaves of the mills told -/
def ROW (gp : GH) (Pl : Int → Int → Int) (h m : Int) (g b : GH) : Prop := ∀ k, 0 ≤ k → k < m → gp 167 k ≠ 0 → g 205 k = b 11 k ∧ g 207 k = b 14 k ∧ (Pl k h = -1 → g 206 k = b 12 k)
section MHX
variable {sc : SCR} {d : Nat} {Q : QJ} {g r gp b : GH} {mm : Int → GH} {Pl : Int → Int → Int} {l0 l1 l2 l3 l4 l5 l6 l7 s m on : Int}
theorem wy_x {i : Int} (hi : i = 11 ∨ i = 12 ∨ i = 14) : wyE gp mm Pl b m on i m = mlE gp mm Pl b m on i m := by
  unfold wyE
  by_cases z : nxE gp m < 0
  · rw [if_pos z, up_i (by omega), up_i (by omega)]
  · rw [if_neg z, up_i (by omega)]
theorem wy_8 {i : Int} (hi : i = 8 ∨ i = 9 ∨ i = 10) : wyE gp mm Pl b m on i m = mlE gp mm Pl b m on i m := by
  unfold wyE
  by_cases z : nxE gp m < 0
  · rw [if_pos z, up_i (by omega), up_i (by omega)]
  · rw [if_neg z, up_i (by omega)]
theorem wy_02 : wyE gp mm Pl b m on 0 2 = if nxE gp m < 0 then wL (b 0 2 + ltE gp mm Pl b m on) else b 0 2 := by
  unfold wyE
  by_cases z : nxE gp m < 0
  · rw [if_pos z, if_pos z, up_s]
  · rw [if_neg z, if_neg z, up_i (by decide)]; exact ml_c (by omega)
theorem MBR.u7 {g' : GH} {v : Int} (h : MBR s g b) (s0 : 0 ≤ s) (m0 : 0 ≤ m) (m6 : m < 6) : MBR s (up g 194 (6 * s + m) v) (up b 7 m v) := by
  obtain ⟨⟨q1, q2, q3⟩, q4, q5⟩ := h
  refine ⟨⟨?_, ?_, ?_⟩, fun j j0 j1 => ?_, fun j j0 j1 => ?_⟩
  · rw [up_i (by decide), up_i (by decide)]; exact q1
  · rw [up_i (by decide), up_i (by decide)]; exact q2
  · rw [up_i (by decide), up_i (by decide)]; exact q3
  · rw [up_i (by decide), up_i (by decide), up_i (by decide), up_i (by decide)]; exact q4 j j0 j1
  · rw [up_i (show (193 : Int) ≠ 194 by decide), up_i (show (199 : Int) ≠ 194 by decide), up_i (show (195 : Int) ≠ 194 by decide), up_i (show (196 : Int) ≠ 194 by decide), up_i (show (6 : Int) ≠ 7 by decide), up_i (show (8 : Int) ≠ 7 by decide), up_i (show (9 : Int) ≠ 7 by decide), up_i (show (10 : Int) ≠ 7 by decide)]
    obtain ⟨a, c, e⟩ := q5 j j0 j1
    refine ⟨a, ?_, e⟩
    by_cases z : j = m
    · rw [z, up_s, up_s]
    · rw [up_j (by omega), up_j z]; exact c
theorem MBR.u02 {v : Int} (h : MBR s g b) : MBR s (up g 201 s v) (up b 0 2 v) := by
  obtain ⟨⟨q1, q2, q3⟩, q4, q5⟩ := h
  refine ⟨⟨?_, ?_, ?_⟩, fun j j0 j1 => ?_, fun j j0 j1 => ?_⟩
  · rw [up_i (by decide), up_j (by decide)]; exact q1
  · rw [up_i (by decide), up_j (by decide)]; exact q2
  · rw [up_s, up_s]
  · rw [up_i (by decide), up_i (by decide), up_i (by decide), up_i (by decide)]; exact q4 j j0 j1
  · rw [up_i (by decide), up_i (by decide), up_i (by decide), up_i (by decide), up_i (by decide), up_i (by decide), up_i (by decide), up_i (by decide), up_i (by decide), up_i (by decide)]; exact q5 j j0 j1
theorem MBR.u01 {v : Int} (h : MBR s g b) : MBR s (up g 200 s v) (up b 0 1 v) := by
  obtain ⟨⟨q1, q2, q3⟩, q4, q5⟩ := h
  refine ⟨⟨?_, ?_, ?_⟩, fun j j0 j1 => ?_, fun j j0 j1 => ?_⟩
  · rw [up_i (by decide), up_j (by decide)]; exact q1
  · rw [up_s, up_s]
  · rw [up_i (by decide), up_j (by decide)]; exact q3
  · rw [up_i (by decide), up_i (by decide), up_i (by decide), up_i (by decide)]; exact q4 j j0 j1
  · rw [up_i (by decide), up_i (by decide), up_i (by decide), up_i (by decide), up_i (by decide), up_i (by decide), up_i (by decide), up_i (by decide), up_i (by decide), up_i (by decide)]; exact q5 j j0 j1
theorem MBR.u00 {v : Int} (h : MBR s g b) : MBR s (up g 197 s v) (up b 0 0 v) := by
  obtain ⟨⟨q1, q2, q3⟩, q4, q5⟩ := h
  refine ⟨⟨?_, ?_, ?_⟩, fun j j0 j1 => ?_, fun j j0 j1 => ?_⟩
  · rw [up_s, up_s]
  · rw [up_i (by decide), up_j (by decide)]; exact q2
  · rw [up_i (by decide), up_j (by decide)]; exact q3
  · rw [up_i (by decide), up_i (by decide), up_i (by decide), up_i (by decide)]; exact q4 j j0 j1
  · rw [up_i (by decide), up_i (by decide), up_i (by decide), up_i (by decide), up_i (by decide), up_i (by decide), up_i (by decide), up_i (by decide), up_i (by decide), up_i (by decide)]; exact q5 j j0 j1
theorem f_205l (hr : RI r) (hp : PO gp mm) (hP : PLO Pl) (hx : MXA gp mm) (s0 : 0 ≤ s) (s4 : s ≤ 4) (t0 : Int) (ht : 0 ≤ t0 ∧ t0 ≤ 959) : ∀ (n : Nat) (m on : Int) (g bc : GH), 0 ≤ m → m + n = 6 → EQK gp g → HB bc → bc 0 0 = t0 → MBR s g bc → 0 ≤ on → on ≤ 60000 + 10000 * m → PLM g Pl → ROW gp Pl (t0 % 24) m g bc → (∀ g', FH s g g' → MBR s g' (hrF gp mm Pl n m bc on) → ROW gp Pl (t0 % 24) 6 g' (hrF gp mm Pl n m bc on) → Q 0 g' r) → WQ sc (d + 8) 205 Q 66 [(2, 165), (0, s), (0, t0), (9, 0), (0, on), (0, m), (9, 0), (9, 0)] [] g r := by
  have k9 : okr 218 165 9 := okd (by decide +kernel)
  have w6 : wr (6 * s) = 6 * s := wr_id ⟨by omega, by omega⟩
  intro n
  induction n with
  | zero =>
    intro m on g bc m0 e hk hb h0 mb o0 o1 pl row hq
    have e6 : m = 6 := by omega
    refine b_205_66 (ite_c (fun z => absurd z (by omega)) (fun _ => ⟨k9, ?_⟩))
    rw [r_165_42 hr, mb.1.1, h0, wr_id (x := t0 + 1) ⟨by omega, by omega⟩]
    refine ⟨i_197.mpr ⟨s0, by omega⟩, i_197.mpr ⟨s0, by omega⟩, fun g1 x1 => hq g1 (fun i j x y z => by rw [x1, up_o (by omega)]) ?_ (fun k k0 k1 kt => ?_)⟩
    · show MBR s g1 (up bc 0 0 (bc 0 0 + 1))
      rw [x1, h0]; exact mb.u00
    · show g1 205 k = up bc 0 0 (bc 0 0 + 1) 11 k ∧ g1 207 k = up bc 0 0 (bc 0 0 + 1) 14 k ∧ (Pl k (t0 % 24) = -1 → g1 206 k = up bc 0 0 (bc 0 0 + 1) 12 k)
      rw [x1, up_i (by decide), up_i (by decide), up_i (by decide), up_i (by decide), up_i (by decide), up_i (by decide)]
      exact row k k0 (by omega) kt
  | succ n ih =>
    intro m on g bc m0 e hk hb h0 mb o0 o1 pl row hq
    have m6 : m < 6 := by omega
    have w1 : wr (m + 1) = m + 1 := wr_id ⟨by omega, by omega⟩
    have w6m : wr (6 * s + m) = 6 * s + m := wr_id ⟨by omega, by omega⟩
    refine b_205_66 (ite_c (fun _ => ⟨k9, ?_⟩) (fun z => absurd m6 z))
    rw [r_165_1 hr, r_165_39 hr, w1, w6, w6m, hk 167 m (Or.inl rfl)]
    refine ⟨Or.inr (i_167.mpr ⟨m0, by omega⟩), ite_c (fun z => ?_) (fun z => ⟨k9, i_194.mpr ⟨by omega, by omega⟩, k9, ?_⟩)⟩
    · have hF : hrF gp mm Pl (n + 1) m bc on = hrF gp mm Pl n (m + 1) bc on := if_pos z
      rw [hF] at hq
      exact ih (m + 1) on g bc (by omega) (by omega) hk hb h0 mb o0 (by omega) pl (fun k k0 k1 kt => row k k0 (by
        have : k ≠ m := fun y => kt (by rw [y]; exact z)
        omega) kt) hq
    · have hF : hrF gp mm Pl (n + 1) m bc on = hrF gp mm Pl n (m + 1) (wyE gp mm Pl bc m on) (bc 7 m) := if_neg z
      rw [hF] at hq
      have t : TM gp m := ⟨m0, m6, z⟩
      have own := (mb.2.2 m m0 m6).2.1
      have hw := (hb.2.2 m m0 m6).2
      have hbw := wy_b (mm := mm) (Pl := Pl) hp hP hb t o0 o1
      rw [own]
      refine f_204 (d := d + 1) (mm := mm) (Pl := Pl) (b := bc) hr hp hP hk t (hx m t) hb (by omega) s0 s4 mb h0.symm o0 (by omega) pl (fun g1 f1 mb1 y5 y6 y7 => ⟨k9, k9, ?_⟩)
      have fh1 := f1.fh m0 m6
      have hk1 := hk.fh fh1
      have pl1 : PLM g1 Pl := pl.e (fun j => fh1 165 j (by omega) (by omega) (by omega))
      rw [r_165_39 hr]
      refine f_197 (d := d + 7) hr hk1 (by omega) (by omega) ?_
      have row1 : ∀ (g2 : GH), (∀ i j, 205 ≤ i → i ≤ 207 → g2 i j = g1 i j) → ROW gp Pl (t0 % 24) (m + 1) g2 (wyE gp mm Pl bc m on) := fun g2 e2 k k0 k1 kt => by
        rw [e2 205 k (by decide) (by decide), e2 206 k (by decide) (by decide), e2 207 k (by decide) (by decide)]
        by_cases y : k = m
        · rw [y, wy_x (by omega), wy_x (by omega), wy_x (by omega), y5, y6, y7]
          refine ⟨mlU_11.symm, mlU_14.symm, fun pm => ?_⟩
          refine Eq.trans ?_ mlU_12.symm
          unfold onE
          rw [h0, if_pos pm]
        · rw [wy_c (by omega) (by omega), wy_c (by omega) (by omega), wy_c (by omega) (by omega), f1 205 k (by omega) (by decide) (by decide) (by omega), f1 206 k (by omega) (by decide) (by decide) (by omega), f1 207 k (by omega) (by decide) (by decide) (by omega)]
          exact row k k0 (by omega) kt
      have b00 : wyE gp mm Pl bc m on 0 0 = t0 := (wy_c (by omega) (by omega)).trans h0
      have go : ∀ v, v = (if nxE gp m < 0 then 0 else ltE gp mm Pl bc m on) → WQ sc (d + 8) 205 Q 142 [(2, 165), (0, s), (0, t0), (9, 0), (0, bc 7 m), (0, m), (9, 0), (0, ltE gp mm Pl bc m on)] [(0, v), (0, 6 * s + m), (2, 194)] g1 r := fun v ev => by
        refine b_205_142 ⟨i_194.mpr ⟨by omega, by omega⟩, fun g2 x2 => ⟨k9, ?_⟩⟩
        have fh2 : FH s g1 g2 := fun i j x y w => by rw [x2, up_o (by omega)]
        have mb2 : MBR s g2 (up (mlE gp mm Pl bc m on) 7 m v) := by rw [x2]; exact mb1.u7 (g' := g) s0 m0 m6
        refine f_197 (d := d + 7) hr (hk1.fh fh2) (by omega) (by omega) ?_
        rw [w1, r_165_46 hr]
        refine ite_c (fun y => ⟨k9, i_201.mpr ⟨s0, by omega⟩, i_201.mpr ⟨s0, by omega⟩, fun g3 x3 => ?_⟩) (fun y => ?_)
        · rw [if_pos y] at ev
          have c02 : g2 201 s = bc 0 2 := by
            rw [mb2.1.2.2, up_i (by decide)]; exact ml_c (by omega)
          rw [c02] at x3
          have fh3 : FH s g2 g3 := fun i j x y w => by rw [x3, up_o (by omega)]
          have fh := (fh1.tr fh2).tr fh3
          have mb3 : MBR s g3 (wyE gp mm Pl bc m on) := by
            have q := mb2.u02 (v := wL (bc 0 2 + ltE gp mm Pl bc m on))
            rw [← x3, ev] at q
            unfold wyE
            rw [if_pos y]; exact q
          exact ih (m + 1) (bc 7 m) g3 (wyE gp mm Pl bc m on) (by omega) (by omega) (hk.fh fh) hbw b00 mb3 hw.1 (by omega) (pl.e (fun j => fh 165 j (by omega) (by omega) (by omega))) (row1 g3 (fun i j a b => by rw [x3, up_i (by omega), x2, up_i (by omega)])) (fun g' f' => hq g' (fh.tr f'))
        · rw [if_neg y] at ev
          have fh := fh1.tr fh2
          have mb3 : MBR s g2 (wyE gp mm Pl bc m on) := by
            rw [ev] at mb2
            unfold wyE
            rw [if_neg y]; exact mb2
          exact ih (m + 1) (bc 7 m) g2 (wyE gp mm Pl bc m on) (by omega) (by omega) (hk.fh fh) hbw b00 mb3 hw.1 (by omega) (pl.e (fun j => fh 165 j (by omega) (by omega) (by omega))) (row1 g2 (fun i j a b => by rw [x2, up_i (by omega)])) (fun g' f' => hq g' (fh.tr f'))
      exact ite_c (fun y => go 0 (if_pos y).symm) (fun y => go _ (if_neg y).symm)
theorem f_205 (hr : RI r) (hp : PO gp mm) (hP : PLO Pl) (hx : MXA gp mm) (s0 : 0 ≤ s) (s4 : s ≤ 4) (hk : EQK gp g) (hb : HB b) (h9 : b 0 0 ≤ 959) (mb : MBR s g b) (pl : PLM g Pl) (hq : ∀ g', FH s g g' → MBR s g' (hrE gp mm Pl b) → ROW gp Pl (b 0 0 % 24) 6 g' (hrE gp mm Pl b) → Q 0 g' r) : Ce sc (d + 9) 205 [(2, 165), (0, s)] g r Q := by
  have k9 : okr 218 165 9 := okd (by decide +kernel)
  have h0 := hb.1
  have cb := cm_b hb h9
  have td : (b 0 0).tdiv 24 = b 0 0 / 24 := Int.tdiv_eq_ediv_of_nonneg (by omega)
  have wday : wr (b 0 0 / 24) = b 0 0 / 24 := wr_id ⟨by omega, by omega⟩
  have day := mb.2.1 (b 0 0 / 24) (by omega) (by omega)
  have hd := hb.2.1 (b 0 0 / 24) (by omega) (by omega)
  have go : ∀ v g1, v = cmE b → g1 = up g 200 s (wL (b 0 1 + v)) → WQ sc (d + 8) 205 Q 66 [(2, 165), (0, s), (0, b 0 0), (9, 0), (0, v), (0, 0), (9, 0), (9, 0)] [] g1 r := fun v g1 ev x1 => by
    rw [ev] at x1 ⊢
    have fh1 : FH s g g1 := fun i j x y w => by rw [x1, up_o (by omega)]
    have mb1 : MBR s g1 (up b 0 1 (wL (b 0 1 + cmE b))) := by rw [x1]; exact mb.u01
    exact f_205l hr hp hP hx s0 s4 (b 0 0) ⟨h0.1, h9⟩ 6 0 (cmE b) g1 (up b 0 1 (wL (b 0 1 + cmE b))) (Int.le_refl 0) (by decide) (hk.fh fh1) (hb_01 hb) (up_j (by decide)) mb1 cb.1 (by omega) (pl.e (fun j => fh1 165 j (by omega) (by omega) (by omega))) (fun k k0 k1 => absurd k1 (by omega)) (fun g' f' m' r' => hq g' (fh1.tr f') m' r')
  refine c_205 ⟨k9, ?_⟩
  rw [r_165_42 hr, r_165_43 hr, r_165_37 hr, r_165_45 hr, mb.1.1, td, wday, wr_id (x := 40 * s) ⟨by omega, by omega⟩, wr_id (x := 40 * s + b 0 0 / 24) ⟨by omega, by omega⟩, day.1, day.2, mb.1.2.1]
  have e60 : wr ((wr (60 * b 4 (b 0 0 / 24))).tdiv 100) = 60 * b 4 (b 0 0 / 24) / 100 := by
    have q := tdb (x := 60 * b 4 (b 0 0 / 24)) (m := 100) (by omega) (by decide)
    rw [wr_id (x := 60 * b 4 (b 0 0 / 24)) ⟨by omega, by omega⟩, q.1, wr_id ⟨by omega, by omega⟩]
  rw [e60]
  refine ⟨i_197.mpr ⟨s0, by omega⟩, k9, by decide, Or.inr (i_198.mpr ⟨by omega, by omega⟩), ite_c (fun z => ⟨k9, by decide, i_192.mpr ⟨by omega, by omega⟩, by decide, k9, i_200.mpr ⟨s0, by omega⟩, i_200.mpr ⟨s0, by omega⟩, fun g1 x1 => go _ g1 ?_ x1⟩) (fun z => ⟨k9, i_200.mpr ⟨s0, by omega⟩, i_200.mpr ⟨s0, by omega⟩, fun g1 x1 => go 0 g1 ?_ x1⟩)⟩
  · unfold cmE
    rw [if_pos z]
  · unfold cmE
    rw [if_neg z]
end MHX
