/-! the class's hour, all mills -/
/-- what an hour leaves of the mills told -/
def ROC (x : Int) (gp : GH) (m : Int) (g b : GH) : Prop := ∀ k, 0 ≤ k → k < m → gp 167 k ≠ 0 → g (x + 8) k = b 11 k ∧ g (x + 9) k = b 12 k
section CHX
variable {sc : SCR} {d : Nat} {Q : QJ} {g r gp b : GH} {mm : Int → GH} {Pl : Int → Int → Int} {l0 l1 l2 l3 l4 l5 l6 l7 x p m on la : Int}
theorem hrF_none : ∀ (n : Nat) (m : Int) (b : GH) (on : Int), (∀ j, m ≤ j → j < m + n → gp 167 j = 0) → hrF gp mm Pl n m b on = up b 0 0 (b 0 0 + 1) := by
  intro n
  induction n with
  | zero => intro m b on _; rfl
  | succ n ih =>
    intro m b on h
    show (if gp 167 m = 0 then hrF gp mm Pl n (m + 1) b on else hrF gp mm Pl n (m + 1) (wyE gp mm Pl b m on) (b 7 m)) = up b 0 0 (b 0 0 + 1)
    rw [if_pos (h m (Int.le_refl m) (by omega))]
    exact ih (m + 1) b on (fun j j0 j1 => h j (by omega) (by omega))
theorem CBR.u4 {v : Int} (h : CBR x g b) (m0 : 0 ≤ m) (m6 : m < 6) : CBR x (up g (x + 4) m v) (up b 7 m v) := by
  obtain ⟨⟨q1, q2, q3⟩, q4, q5⟩ := h
  refine ⟨⟨?_, ?_, ?_⟩, fun j j0 j1 => ?_, fun j j0 j1 => ?_⟩
  · rw [up_i (by omega), up_i (by decide)]; exact q1
  · rw [up_i (by omega), up_i (by decide)]; exact q2
  · rw [up_i (by omega), up_i (by decide)]; exact q3
  · rw [up_i (by omega), up_i (by omega), up_i (by omega), up_i (by omega)]; exact q4 j j0 j1
  · obtain ⟨a, c, e⟩ := q5 j j0 j1
    rw [up_i (show x + 3 ≠ x + 4 by omega), up_i (show x + 5 ≠ x + 4 by omega), up_i (show x + 6 ≠ x + 4 by omega), up_i (show x + 7 ≠ x + 4 by omega), up_i (show (6 : Int) ≠ 7 by decide), up_i (show (8 : Int) ≠ 7 by decide), up_i (show (9 : Int) ≠ 7 by decide), up_i (show (10 : Int) ≠ 7 by decide)]
    refine ⟨a, ?_, e⟩
    by_cases z : j = m
    · rw [z, up_s, up_s]
    · rw [up_j z, up_j z]; exact c
theorem CBR.u0 {v k : Int} (h : CBR x g b) (k0 : 0 ≤ k) (k2 : k ≤ 2) : CBR x (up g x k v) (up b 0 k v) := by
  obtain ⟨⟨q1, q2, q3⟩, q4, q5⟩ := h
  have one : ∀ q, g x q = b 0 q → up g x k v x q = up b 0 k v 0 q := fun q e => by
    by_cases z : q = k
    · rw [z, up_s, up_s]
    · rw [up_j z, up_j z]; exact e
  refine ⟨⟨one 0 q1, one 1 q2, one 2 q3⟩, fun j j0 j1 => ?_, fun j j0 j1 => ?_⟩
  · rw [up_i (by omega), up_i (by omega), up_i (by omega), up_i (by omega)]; exact q4 j j0 j1
  · rw [up_i (by omega), up_i (by omega), up_i (by omega), up_i (by omega), up_i (by omega), up_i (by omega), up_i (by omega), up_i (by omega), up_i (by omega), up_i (by omega)]; exact q5 j j0 j1
theorem CBR.fr {g' : GH} (h : CBR x g b) (e : ∀ i j, x ≤ i → i ≤ x + 7 → g' i j = g i j) : CBR x g' b := by
  obtain ⟨⟨q1, q2, q3⟩, q4, q5⟩ := h
  refine ⟨⟨?_, ?_, ?_⟩, fun j j0 j1 => ?_, fun j j0 j1 => ?_⟩
  · rw [e x 0 (by omega) (by omega)]; exact q1
  · rw [e x 1 (by omega) (by omega)]; exact q2
  · rw [e x 2 (by omega) (by omega)]; exact q3
  · rw [e _ _ (by omega) (by omega), e _ _ (by omega) (by omega)]; exact q4 j j0 j1
  · rw [e _ _ (by omega) (by omega), e _ _ (by omega) (by omega), e _ _ (by omega) (by omega), e _ _ (by omega) (by omega), e _ _ (by omega) (by omega)]; exact q5 j j0 j1
theorem CBR.bb {b' : GH} (h : CBR x g b) (e : ∀ i j, i = 0 ∨ (4 ≤ i ∧ i ≤ 10) → b' i j = b i j) : CBR x g b' := by
  obtain ⟨⟨q1, q2, q3⟩, q4, q5⟩ := h
  refine ⟨⟨?_, ?_, ?_⟩, fun j j0 j1 => ?_, fun j j0 j1 => ?_⟩
  · rw [e 0 0 (by decide)]; exact q1
  · rw [e 0 1 (by decide)]; exact q2
  · rw [e 0 2 (by decide)]; exact q3
  · rw [e 4 j (by decide), e 5 j (by decide)]; exact q4 j j0 j1
  · rw [e 6 j (by decide), e 7 j (by decide), e 8 j (by decide), e 9 j (by decide), e 10 j (by decide)]; exact q5 j j0 j1
/-- a write to brook x -/
theorem up_fhc {i j v : Int} (i0 : x ≤ i) (i1 : i ≤ x + 10) (i3 : ¬ (i = x ∧ j = 3)) : FHC x g (up g i j v) := fun a c z _ _ => up_o (by omega)
theorem fhc_eb (hr : RI r) (hx2 : x = 23 ∨ x = 34) (hT : T4 r (TM gp) (MWh gp) g) {i j v : Int} (i0 : x ≤ i) (i1 : i ≤ x + 10) : EB r (TM gp) (MWh gp) g (up g i j v) := (EB.rf hT).e4 hr (fun a ha c => up_i (fun z => bx_nf4 hx2 i0 i1 (by rw [← z]; exact ha)))
theorem hrF_la (t : TM gp m) (hl : nxE gp m < 0) (n : Nat) (e : m + (n + 1 : Nat) = 6) : hrF gp mm Pl (n + 1) m b on = up (wyE gp mm Pl b m on) 0 0 (b 0 0 + 1) := by
  have h : hrF gp mm Pl (n + 1) m b on = hrF gp mm Pl n (m + 1) (wyE gp mm Pl b m on) (b 7 m) := if_neg t.2.2
  have nb := nxE_b gp (k := m) (by have := t.1; omega) (by omega)
  rw [h, hrF_none n (m + 1) _ _ (fun j j0 j1 => by
    rcases nb with a | a
    · exact a.2 j (by omega) (by omega)
    · have := t.1
      omega), show wyE gp mm Pl b m on 0 0 = b 0 0 from wy_c (by omega) (by omega)]
theorem f_5l (hr : RI r) (hb : BRO r x) (hx2 : x = 23 ∨ x = 34) (hp : PO gp mm) (hP : PLO Pl) (hx : MXA gp mm) (hpx : PX2 r p) (hla : LA gp la) (t0 : Int) (ht : 0 ≤ t0 ∧ t0 ≤ 959) : ∀ (n : Nat) (m on : Int) (g bc : GH), 0 ≤ m → m + n = 6 → COK gp mm r g → HB bc → bc 0 0 = t0 → CBR x g bc → 0 ≤ on → on ≤ 60000 + 10000 * m → PLC p g Pl → (∀ k, m ≤ k → TM gp k → g (x + 10) k = lvE gp bc (nxE gp k)) → ROC x gp m g bc → (m ≤ la ∨ m = 0) → (∀ g', FHC x g g' → EB r (TM gp) (MWh gp) g g' → CBR x g' (hrF gp mm Pl n m bc on) → ROC x gp 6 g' (hrF gp mm Pl n m bc on) → Q 0 g' r) → WQ sc (d + 8) 5 Q 55 [(2, x), (2, 6), (2, p), (0, la), (0, on), (0, m), (9, 0)] [] g r := by
  have kx := hb.1
  obtain ⟨e4, e5, e6, e7, e8, e9, e10, e11, e12, e13⟩ := hb.2.1
  obtain ⟨A1, A2, A3, A4, A5, A6, A7, A8, A9, A10⟩ := hb.2.2
  have a6 := a_6.mpr trivial
  intro n
  induction n with
  | zero =>
    intro m on g bc m0 e hc hB h0 cb o0 o1 pl bl row ml hq
    rcases hla with ⟨a, _⟩ | ⟨_, a, _⟩ <;> omega
  | succ n ih =>
    intro m on g bc m0 e hc hB h0 cb o0 o1 pl bl row ml hq
    have m6 : m < 6 := by omega
    have hM := hr.2.1 m m0 m6
    have w1 : wr (m + 1) = m + 1 := wr_id ⟨by omega, by omega⟩
    have c0 := ck_0 hr hc m0 m6
    refine b_5_55 (ite_c (fun z => ?_) (fun zla => ite_c (fun _ => ⟨a6, ?_⟩) (fun z => absurd m6 z)))
    · -- no mill is told
      have ela : la = -1 ∧ ∀ j, 0 ≤ j → j < 6 → gp 167 j = 0 := by
        rcases hla with a | ⟨a, _⟩
        · exact a
        · omega
      have em : m = 0 := by omega
      have hF := hrF_none (gp := gp) (mm := mm) (Pl := Pl) (n + 1) m bc on (fun j j0 j1 => ela.2 j (by omega) (by omega))
      rw [hF] at hq
      refine b_5_134 (w_123 (fun _ _ => by omega) (fun _ => ?_))
      rw [if_pos rfl, cb.1.1, h0, wr_id (x := t0 + 1) ⟨by omega, by omega⟩]
      refine ⟨kx, kx, fun g2 x2 => hq g2 ?_ ?_ ?_ (fun k k0 k1 kt => absurd (ela.2 k k0 k1) kt)⟩
      · rw [x2]; exact up_fhc (by omega) (by omega) (by omega)
      · rw [x2]; exact fhc_eb hr hx2 hc.1 (by omega) (by omega)
      · rw [x2, h0]; exact cb.u0 (by decide) (by decide)
    rw [n_6, w1]
    refine ite_c (fun _ => ⟨Or.inl (i_6.mpr ⟨m0, m6⟩), ite_c (fun z => absurd z (mo_ne hM)) (fun _ => ⟨mo_ok hM, ite_c (fun z => ?_) (fun z => ⟨kx, ?_⟩)⟩)⟩) (fun z => absurd m6 z)
    · have zz := c0.mp z
      have hF : hrF gp mm Pl (n + 1) m bc on = hrF gp mm Pl n (m + 1) bc on := if_pos zz
      rw [hF] at hq
      refine ih (m + 1) on g bc (by omega) (by omega) hc hB h0 cb o0 (by omega) pl (fun k k0 t => bl k (by omega) t) (fun k k0 k1 kt => row k k0 (by
        have : k ≠ m := fun y => kt (by rw [y]; exact zz)
        omega) kt) (Or.inl ?_) hq
      rcases hla with ⟨a, _⟩ | ⟨_, _, a, _⟩
      · omega
      · have : la ≠ m := fun y => a (by rw [y]; exact zz)
        omega
    have zz : gp 167 m ≠ 0 := fun y => z (c0.mpr y)
    have t : TM gp m := ⟨m0, m6, zz⟩
    have own := (cb.2.2 m m0 m6).2.1
    have hw := (hB.2.2 m m0 m6).2
    have hbw := wy_b (mm := mm) (Pl := Pl) hp hP hB t o0 o1
    have nb := nxE_b gp (k := m) (by omega) (by omega)
    rw [e11, e7]
    refine ⟨A8.i m0 m6, fun g1 x1 => ⟨kx, A4.i m0 m6, kx, kx, ?_⟩⟩
    have fh1 : FHC x g g1 := by rw [x1]; exact up_fhc (by omega) (by omega) (by omega)
    have eb1 : EB r (TM gp) (MWh gp) g g1 := by rw [x1]; exact fhc_eb hr hx2 hc.1 (by omega) (by omega)
    have cb1 : CBR x g1 bc := cb.fr (fun i j i0 i1 => by rw [x1, up_i (by omega)])
    have pl1 := fh1.pl hx2 hpx.1 pl
    have v8 : g1 (x + 8) m = on := by rw [x1, up_s]
    have v10 : g1 (x + 10) m = lvE gp bc (nxE gp m) := by rw [x1, up_i (by omega)]; exact bl m (Int.le_refl m) t
    refine f_7 (d := d + 1) (mm := mm) (Pl := Pl) (b := bc) (on := on) (gp := gp) hr hb hx2 hp hP hx (hc.eb hr eb1) t hB (by omega) cb1 hpx pl1 v8 o0 (by omega) v10 (fun g2 f2 eb2 cb2 y9 => ⟨A4.i m0 m6, fun g3 x3 => ?_⟩)
    have fh2 := f2.fhc hM
    have fh3 : FHC x g2 g3 := by rw [x3]; exact up_fhc (by omega) (by omega) (by omega)
    have fh := (fh1.tr fh2).tr fh3
    have eb3 : EB r (TM gp) (MWh gp) g2 g3 := by rw [x3]; exact fhc_eb hr hx2 eb2.2 (by omega) (by omega)
    have eb := (eb1.tr eb2).tr eb3
    have ap := mo_ap hM hx2
    have cb3 : CBR x g3 (up (mlE gp mm Pl bc m on) 7 m (ltE gp mm Pl bc m on)) := by rw [x3]; exact cb2.u4 m0 m6
    have r8 : ∀ k, g3 (x + 8) k = g1 (x + 8) k := fun k => by rw [x3, up_i (by omega)]; exact f2 _ _ (by omega) (by omega) (by omega)
    have r9 : ∀ k, k ≠ m → g3 (x + 9) k = g (x + 9) k := fun k hk => by
      rw [x3, up_i (by omega), f2 _ _ (by omega) (by omega) (by omega), x1, up_i (by omega)]
    have r9m : g3 (x + 9) m = onE gp mm Pl bc m on := by rw [x3, up_i (by omega)]; exact y9
    have row1 : ROC x gp (m + 1) g3 (wyE gp mm Pl bc m on) := fun k k0 k1 kt => by
      by_cases y : k = m
      · rw [y, wy_x (by omega), wy_x (by omega), r8, r9m, v8]
        exact ⟨mlU_11.symm, mlU_12.symm⟩
      · rw [wy_c (by omega) (by omega), wy_c (by omega) (by omega), r8, r9 k y, x1, up_j y]
        exact row k k0 (by omega) kt
    have g17 : g1 (x + 4) m = bc 7 m := by rw [x1, up_i (by omega)]; exact own
    rw [g17]
    by_cases hl : nxE gp m < 0
    · have hF := hrF_la (mm := mm) (Pl := Pl) (b := bc) (on := on) t hl n (by omega)
      rw [hF] at hq
      have ela : la = m := by
        rcases nb with ⟨_, a⟩ | a
        · rcases hla with ⟨c, f⟩ | ⟨c0', c, f, h⟩
          · exact absurd (f m m0 m6) zz
          · refine Decidable.byContradiction fun y => ?_
            by_cases s : m < la
            · exact f (a la s c)
            · omega
        · omega
      refine b_5_55 (ite_c (fun _ => ?_) (fun z => absurd (by omega) z))
      refine b_5_134 (w_123 (fun _ _ => ?_) (fun z => absurd ⟨by omega, by omega⟩ z))
      have c02 : g3 x 2 = bc 0 2 := by
        rw [cb3.1.2.2, up_i (by decide)]; exact ml_c (by omega)
      have c7 : g3 (x + 4) m = ltE gp mm Pl bc m on := by rw [x3, up_s]
      rw [if_neg (by decide), e7, ela, c02, c7]
      refine ⟨kx, kx, A4.i m0 m6, kx, fun g4 x4 => ⟨kx, A4.i m0 m6, fun g5 x5 => ⟨kx, kx, fun g6 x6 => ?_⟩⟩⟩
      have c00 : g5 x 0 = t0 := by
        rw [x5, up_i (by omega), x4, up_j (by decide), cb3.1.1, up_i (by decide)]
        exact (ml_c (by omega)).trans h0
      rw [c00, wr_id (x := t0 + 1) ⟨by omega, by omega⟩] at x6
      have f34 : FHC x g3 g4 := by rw [x4]; exact up_fhc (by omega) (by omega) (by omega)
      have f45 : FHC x g4 g5 := by rw [x5]; exact up_fhc (by omega) (by omega) (by omega)
      have f56 : FHC x g5 g6 := by rw [x6]; exact up_fhc (by omega) (by omega) (by omega)
      have e34 : EB r (TM gp) (MWh gp) g3 g4 := by rw [x4]; exact fhc_eb hr hx2 eb.2 (by omega) (by omega)
      have e45 : EB r (TM gp) (MWh gp) g4 g5 := by rw [x5]; exact fhc_eb hr hx2 e34.2 (by omega) (by omega)
      have e56 : EB r (TM gp) (MWh gp) g5 g6 := by rw [x6]; exact fhc_eb hr hx2 e45.2 (by omega) (by omega)
      refine hq g6 (((fh.tr f34).tr f45).tr f56) (((eb.tr e34).tr e45).tr e56) ?_ (fun k k0 k1 kt => ?_)
      · have q := ((cb3.u0 (k := 2) (v := wL (bc 0 2 + ltE gp mm Pl bc m on)) (by decide) (by decide)).u4 (v := 0) m0 m6).u0 (k := 0) (v := t0 + 1) (by decide) (by decide)
        rw [x6, x5, x4, h0]
        refine q.bb (fun i j hi => ?_)
        have ew : wyE gp mm Pl bc m on = up (up (mlE gp mm Pl bc m on) 7 m 0) 0 2 (wL (bc 0 2 + ltE gp mm Pl bc m on)) := if_pos hl
        rw [ew]
        by_cases a : i = 0 ∧ j = 0
        · rw [a.1, a.2, up_s, up_s]
        · rw [up_o a, up_o a]
          by_cases c : i = 7 ∧ j = m
          · rw [c.1, c.2, up_s, up_i (by decide), up_s]
          · rw [up_o c]
            by_cases f : i = 0 ∧ j = 2
            · rw [f.1, f.2, up_s, up_s]
            · rw [up_o f, up_o f, up_o c, up_o c]
      · have rr := row1 k k0 (by
          rcases nb with ⟨_, a⟩ | a
          · refine Decidable.byContradiction fun y => kt (a k (by omega) k1)
          · omega) kt
        rw [x6, up_i (by omega), up_i (by omega), x5, up_i (by omega), up_i (by omega), x4, up_i (by omega), up_i (by omega), up_i (by omega), up_i (by omega)]
        exact rr
    · have hF : hrF gp mm Pl (n + 1) m bc on = hrF gp mm Pl n (m + 1) (wyE gp mm Pl bc m on) (bc 7 m) := if_neg zz
      rw [hF] at hq
      have ew : wyE gp mm Pl bc m on = up (mlE gp mm Pl bc m on) 7 m (ltE gp mm Pl bc m on) := if_neg hl
      have nb' := nb.resolve_left (fun z => hl (by omega))
      refine ih (m + 1) (bc 7 m) g3 (wyE gp mm Pl bc m on) (by omega) (by omega) (hc.eb hr eb) hbw ((wy_c (by omega) (by omega)).trans h0) (by rw [ew]; exact cb3) hw.1 (by omega) (fh.pl hx2 hpx.1 pl) (fun k k0 tk => ?_) row1 (Or.inl ?_) (fun g' f' e' => hq g' (fh.tr f') (eb.tr e'))
      · have nk := nxE_b gp (k := k) (by omega) (by have := tk.2.1; omega)
        have g10 : g3 (x + 10) k = g (x + 10) k := by rw [x3, up_i (by omega), f2 _ _ (by omega) (by omega) (by omega), x1, up_i (by omega)]
        rw [g10, bl k (by omega) tk]
        unfold lvE
        by_cases y : nxE gp k < 0
        · rw [if_pos y, if_pos y]
        · rw [if_neg y, if_neg y, wy_c (by omega) (by omega)]
      · rcases hla with ⟨c, f⟩ | ⟨c0', c, f, h⟩
        · exact absurd (f m m0 m6) zz
        · refine Decidable.byContradiction fun y => ?_
          exact nb'.2.2.1 (h (nxE gp m) (by omega) nb'.2.1)
theorem f_5 (hr : RI r) (hx2 : x = 23 ∨ x = 34) (hp : PO gp mm) (hP : PLO Pl) (hx : MXA gp mm) (hpx : PX2 r p) (hc : COK gp mm r g) (hB : HB b) (h9 : b 0 0 ≤ 959) (cb : CBR x g b) (pl : PLC p g Pl) (hq : ∀ g', FHC x g g' → EB r (TM gp) (MWh gp) g g' → CBR x g' (hrE gp mm Pl b) → ROC x gp 6 g' (hrE gp mm Pl b) → Q 0 g' r) : Ce sc (d + 9) 5 [(2, x), (2, 6), (2, p)] g r Q := by
  have hb : BRO r x := bro_of hr (by unfold BX; omega)
  have kx := hb.1
  obtain ⟨e4, e5, e6, e7, e8, e9, e10, e11, e12, e13⟩ := hb.2.1
  obtain ⟨A1, A2, A3, A4, A5, A6, A7, A8, A9, A10⟩ := hb.2.2
  have h0 := hB.1
  have cbd := cm_b hB h9
  have hd := hB.2.1 (b 0 0 / 24) (by omega) (by omega)
  refine c_5 ⟨kx, f_6 (d := d + 6) hr hb hp hx hc hB cb hx2 (fun la g1 f1 bl hla => ⟨kx, kx, ?_⟩)⟩
  have fh1 : FHC x g g1 := fun i j z _ _ => f1 i j (by omega)
  have eb1 : EB r (TM gp) (MWh gp) g g1 := (EB.rf hc.1).e4 hr (fun a ha c => f1 a c (fun z => bx_nf4 hx2 (i := a) (by omega) (by omega) ha))
  have cb1 : CBR x g1 b := cb.fr (fun i j i0 i1 => f1 i j (by omega))
  have go : ∀ v g2, v = cmE b → g2 = up g1 x 1 (wL (b 0 1 + v)) → WQ sc (d + 8) 5 Q 55 [(2, x), (2, 6), (2, p), (0, la), (0, v), (0, 0), (9, 0)] [] g2 r := fun v g2 ev x2 => by
    rw [ev] at x2 ⊢
    have f12 : FHC x g1 g2 := by rw [x2]; exact up_fhc (by omega) (by omega) (by omega)
    have e12' : EB r (TM gp) (MWh gp) g1 g2 := by rw [x2]; exact fhc_eb hr hx2 eb1.2 (by omega) (by omega)
    have fh := fh1.tr f12
    have eb := eb1.tr e12'
    have cb2 : CBR x g2 (up b 0 1 (wL (b 0 1 + cmE b))) := by rw [x2]; exact cb1.u0 (by decide) (by decide)
    refine f_5l hr hb hx2 hp hP hx hpx hla (b 0 0) ⟨h0.1, h9⟩ 6 0 (cmE b) g2 (up b 0 1 (wL (b 0 1 + cmE b))) (Int.le_refl 0) (by decide) (hc.eb hr eb) (hb_01 hB) (up_j (by decide)) cb2 cbd.1 (by omega) (fh.pl hx2 hpx.1 pl) (fun k k0 t => ?_) (fun k k0 k1 => absurd k1 (by omega)) (Or.inr rfl) (fun g' f' e' c' r' => hq g' (fh.tr f') (eb.tr e') c' r')
    rw [x2, up_i (by omega), bl k t]
    unfold lvE
    rw [up_i (by decide)]
  refine f_4 (d := d + 6) (b := b) kx cb1.1.1 h0.1 h9 ?_
  have dd := cb1.2.1 (b 0 0 / 24) (by omega) (by omega)
  rw [e5, e4, dd.2]
  refine ⟨A2.i (by omega) (by omega), ite_c (fun z => ⟨kx, kx, ?_⟩) (fun z => ⟨kx, kx, f_4 (d := d + 6) (b := b) kx cb1.1.1 h0.1 h9 ⟨A1.i (by omega) (by omega), by decide, kx, kx, ?_⟩⟩)⟩
  · rw [cb1.1.2.1]
    refine fun g2 x2 => go 0 g2 ?_ x2
    unfold cmE
    rw [if_neg (by omega)]
  · have e60 : wr ((wr (60 * b 4 (b 0 0 / 24))).tdiv 100) = 60 * b 4 (b 0 0 / 24) / 100 := by
      have q := tdb (x := 60 * b 4 (b 0 0 / 24)) (m := 100) (by omega) (by decide)
      rw [wr_id (x := 60 * b 4 (b 0 0 / 24)) ⟨by omega, by omega⟩, q.1, wr_id ⟨by omega, by omega⟩]
    rw [dd.1, e60, cb1.1.2.1]
    refine fun g2 x2 => go _ g2 ?_ x2
    unfold cmE
    rw [if_pos (by omega)]
end CHX
