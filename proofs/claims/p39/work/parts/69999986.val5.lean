/-! versus: the same value on both sides -/
theorem bpR_b {y : Int → Int} : ∀ (n : Nat) (b p : Int), 1 ≤ b → b ≤ 300 → 1 ≤ p → p + n = 301 → 1 ≤ bpR y n b p ∧ bpR y n b p ≤ 300 := by
  intro n
  induction n with
  | zero => intro b p a c _ _; exact ⟨a, c⟩
  | succ n ih =>
    intro b p a c q e
    show 1 ≤ bpR y n (if y b < y p then p else b) (p + 1) ∧ bpR y n (if y b < y p then p else b) (p + 1) ≤ 300
    by_cases z : y b < y p
    · rw [if_pos z]; exact ih p (p + 1) q (by omega) (by omega) (by omega)
    · rw [if_neg z]; exact ih b (p + 1) a c (by omega) (by omega)
theorem bp_b {W : Int → Int} {f hd b : Int} : 1 ≤ bpE W f hd b ∧ bpE W f hd b ≤ 300 := bpR_b 299 1 2 (by decide) (by decide) (by decide) (by decide)
section VL9
variable {sc : SCR} {d : Nat} {Q : QJ} {g r : GH} {l0 l1 l2 l3 l4 l5 : Int}
theorem f_185 (hr : RI r) (k0 : 0 ≤ l1) (k6 : l1 ≤ 6) (h : WBd (MWh g l1)) (f0 : 0 ≤ l2) (f1 : l2 ≤ 99999) (e0 : 0 ≤ l3) (e1 : l3 ≤ 240) (hq : Q (bpE (MWh g l1) l2 l3 l4) g r) : Ce sc (d + 7) 185 [(2, 165), (0, l1), (0, l2), (0, l3), (0, l4)] g r Q := by
  have k9 : okr 218 165 9 := okd (by decide +kernel)
  have loop : ∀ (n : Nat) (b p : Int), 1 ≤ b → b ≤ 300 → 1 ≤ p → p + n = 301 → bpR (fun p => hyE (MWh g l1) l2 p l3 l4) n b p = bpE (MWh g l1) l2 l3 l4 → WQ sc (d + 6) 185 Q 6 [(2, 165), (0, l1), (0, l2), (0, l3), (0, l4), (0, b), (0, p)] [] g r := by
    intro n
    induction n with
    | zero =>
      intro b p a c q e es
      have es' : b = bpE (MWh g l1) l2 l3 l4 := es
      refine b_185_6 (ite_c (fun _ => ?_) (fun z => absurd (by omega) z))
      rw [es']; exact hq
    | succ n ih =>
      intro b p a c q e es
      have es' : bpR (fun p => hyE (MWh g l1) l2 p l3 l4) n (if hyE (MWh g l1) l2 b l3 l4 < hyE (MWh g l1) l2 p l3 l4 then p else b) (p + 1) = bpE (MWh g l1) l2 l3 l4 := es
      refine b_185_6 (ite_c (fun z => absurd z (by omega)) (fun _ => ⟨k9, f_177 hr k0 k6 h f0 f1 q (by omega) e0 e1 ⟨k9, f_177 hr k0 k6 h f0 f1 a c e0 e1 ?_⟩⟩))
      rw [wr_id (x := p + 1) ⟨by omega, by omega⟩]
      refine ite_c (fun z => ?_) (fun z => ?_)
      · rw [if_pos (cmp_gt.mp z)] at es'
        exact ih _ _ q (by omega) (by omega) (by omega) es'
      · rw [if_neg (fun y => z (cmp_gt.mpr y))] at es'
        exact ih _ _ a c (by omega) (by omega) es'
  exact c_185 (loop 299 1 2 (by decide) (by decide) (by decide) (by decide) rfl)
def veV (y1 y2 : Int) : Int := if y1 = 0 then -1 else if 2000000000 < wL ((wL (100 * y2)).tdiv y1) then 2000000000 else wr (wL ((wL (100 * y2)).tdiv y1))
def veY (W : Int → Int) (f hd : Int) : Int := hyE W f (bpE W f hd 0) hd 0
def VEC (g : GH) (A1 A2 A3 A4 : Int) : Prop := (TM g A1 ∧ g 168 A1 ≠ 0) ∧ (TM g A2 ∧ g 168 A2 = 0) ∧ (0 ≤ A3 ∧ A3 ≤ 99999) ∧ 1 ≤ A4 ∧ A4 ≤ 99
def veH (A4 : Int) : Int := if 240 < 12 * A4 then 240 else 12 * A4
theorem f_234 (hJ : J5 g r) {A1 A2 A3 A4 : Int} (D : Nat) (h1 : VEC g A1 A2 A3 A4 → Q (veV (veY (MWh g A1) A3 (veH A4)) (veY (MWh g A2) A3 (veH A4))) g r) (h0 : ¬ VEC g A1 A2 A3 A4 → Q (-1) g r) : Ce sc (D + 9) 234 [(2, 165), (0, A1), (0, A2), (0, A3), (0, A4)] g r Q := by
  have hr := hJ.1.1.1.1.1
  have k9 : okr 218 165 9 := okd (by decide +kernel)
  refine c_234 ⟨k9, w_179 hr (fun t t0 => ?_) (fun z => by rw [if_pos rfl]; exact h0 (fun y => z y.1))⟩
  rw [if_neg (by decide)]
  refine ⟨k9, w_140 hr (fun u => ?_) (fun z => by rw [if_pos rfl]; exact h0 (fun y => z y.2.1.1))⟩
  rw [if_neg (by decide), r_165_2 hr]
  have t6 := t.2.1
  have u6 := u.2.1
  refine ⟨k9, Or.inr (i_168.mpr ⟨u.1, by omega⟩), ite_c (fun o => ?_) (fun o => h0 (fun y => o y.2.1.2))⟩
  refine w_178 (fun q1 q2 => ?_) (fun z => by rw [if_pos rfl]; exact h0 (fun y => z y.2.2.1))
  rw [if_neg (by decide)]
  refine w_137 (fun q3 q4 => ?_) (fun z => by rw [if_pos rfl]; exact h0 (fun y => z y.2.2.2))
  rw [if_neg (by decide), wr_id (x := 12 * A4) ⟨by omega, by omega⟩]
  have hq := h1 ⟨⟨t, t0⟩, ⟨u, o⟩, ⟨q1, q2⟩, q3, q4⟩
  have w1 := (t5_of hJ t).2.2.1
  have w2 := (t5_of hJ u).2.2.1
  have key : ∀ hd, hd = veH A4 → 0 ≤ hd → hd ≤ 240 → WQ sc (D + 8) 234 Q 69 [(2, 165), (0, A1), (0, A2), (0, A3), (9, 0), (9, 0), (9, 0), (9, 0), (9, 0), (9, 0), (9, 0), (9, 0)] [(0, hd)] g r := fun hd eh e0 e1 => by
    have b1 := bp_b (W := MWh g A1) (f := A3) (hd := hd) (b := 0)
    have b2 := bp_b (W := MWh g A2) (f := A3) (hd := hd) (b := 0)
    refine b_234_69 ⟨k9, f_185 (d := D + 1) hr t.1 (by omega) w1 q1 q2 e0 e1 ⟨k9, f_177 (d := D + 2) hr t.1 (by omega) w1 q1 q2 b1.1 b1.2 e0 e1 ⟨k9, f_185 (d := D + 1) hr u.1 (by omega) w2 q1 q2 e0 e1 ⟨k9, f_177 (d := D + 2) hr u.1 (by omega) w2 q1 q2 b2.1 b2.2 e0 e1 ?_⟩⟩⟩⟩
    have y1 : veY (MWh g A1) A3 (veH A4) = hyE (MWh g A1) A3 (bpE (MWh g A1) A3 hd 0) hd 0 := by rw [eh]; rfl
    have y2 : veY (MWh g A2) A3 (veH A4) = hyE (MWh g A2) A3 (bpE (MWh g A2) A3 hd 0) hd 0 := by rw [eh]; rfl
    rw [y1, y2] at hq
    unfold veV at hq
    refine ite_c (fun z => ?_) (fun z => ?_)
    · rw [if_pos (cmp_eq.mp z)] at hq; exact hq
    · have nz : hyE (MWh g A1) A3 (bpE (MWh g A1) A3 hd 0) hd 0 ≠ 0 := fun y => z (cmp_eq.mpr y)
      rw [if_neg nz] at hq
      refine ⟨nz, ite_c (fun x => ?_) (fun x => ?_)⟩
      · rw [if_pos (cmp_gt.mp x)] at hq; exact hq
      · rw [if_neg (fun y => x (cmp_gt.mpr y))] at hq; exact hq
  refine ite_c (fun z => key _ (by unfold veH; rw [if_pos z]) (by decide) (by decide)) (fun z => key _ (by unfold veH; rw [if_neg z]) (by omega) (by omega))
theorem vec_e {g g' : GH} {A1 A2 A3 A4 : Int} (e : ∀ q, g' 167 q = g 167 q ∧ g' 168 q = g 168 q) : VEC g' A1 A2 A3 A4 ↔ VEC g A1 A2 A3 A4 := by
  unfold VEC TM
  rw [(e A1).1, (e A1).2, (e A2).1, (e A2).2]
theorem tt_109 (hJ : J5 g r) {A1 A2 A3 A4 : Int} (D : Nat) : Ce sc (D + 9) 109 [(2, 0), (0, A1), (0, A2), (0, A3), (0, A4)] g r (fun v1 g1 r1 => Ce sc (D + 9) 234 [(2, 165), (0, A1), (0, A2), (0, A3), (0, A4)] g1 r1 fun v2 g2 r2 => v1 = v2 ∧ J5 g2 r2) := by
  have hr := hJ.1.1.1.1.1
  have k0 : okr 218 0 8 := okd (by decide +kernel)
  have tt := td_tm hJ.1.1
  have ov : ∀ q (t : TM g q), g (r 6 q + 1) 0 = g 168 q := fun q t => (tk_f hJ.1.1 t).1
  have mno : ¬ VEC g A1 A2 A3 A4 → Ce sc (D + 9) 234 [(2, 165), (0, A1), (0, A2), (0, A3), (0, A4)] g r (fun v2 g2 r2 => -1 = v2 ∧ J5 g2 r2) := fun n => f_234 hJ D (fun y => absurd y n) (fun _ => ⟨rfl, hJ⟩)
  refine c_109 ⟨k0, w_130 hr (fun t t0 => ⟨k0, w_129 hr (fun u => ?_) (fun u => ?_)⟩) (fun t => ⟨k0, w_129 hr (fun u => ?_) (fun u => ?_)⟩)⟩
  rotate_left 1
  · have hm := hr.2.1 A1 t.1 t.2.1
    rw [if_neg (show ¬ r 6 A1 + 1 = -1 by unfold MO at hm; omega), if_pos rfl]
    exact mno (fun y => u ((tt A2).mpr y.2.1.1))
  · rw [if_pos rfl]; exact mno (fun y => t ⟨(tt A1).mpr y.1.1, by rw [ov A1 y.1.1]; exact y.1.2⟩)
  · rw [if_pos rfl]; exact mno (fun y => t ⟨(tt A1).mpr y.1.1, by rw [ov A1 y.1.1]; exact y.1.2⟩)
  have tm := (tt A1).mp t
  have um := (tt A2).mp u
  have o0 : g 168 A1 ≠ 0 := by rw [← ov A1 tm]; exact t0
  have hm := hr.2.1 A1 t.1 t.2.1
  have hn := hr.2.1 A2 u.1 u.2.1
  rw [if_neg (show ¬ r 6 A1 + 1 = -1 by unfold MO at hm; omega), if_neg (mo_ne hn)]
  refine ⟨mo_ok hn, ?_⟩
  rw [mo_1 hr hn, ov A2 um]
  refine ⟨mo_w hn, ite_c (fun o => ?_) (fun o => mno (fun y => o y.2.1.2))⟩
  refine w_124 (fun q1 q2 => ?_) (fun q => by rw [if_pos rfl]; exact mno (fun y => q y.2.2.1))
  rw [if_neg (by decide)]
  refine w_123 (fun q3 q4 => ?_) (fun q => by rw [if_pos rfl]; exact mno (fun y => q y.2.2.2))
  rw [if_neg (by decide), wr_id (x := 12 * A4) ⟨by omega, by omega⟩]
  have vc : VEC g A1 A2 A3 A4 := ⟨⟨tm, o0⟩, ⟨um, o⟩, ⟨q1, q2⟩, q3, q4⟩
  obtain ⟨hx, wh, wb, b3⟩ := t5_of hJ tm
  have key : ∀ hd, hd = veH A4 → 0 ≤ hd → hd ≤ 240 → okr 218 (r 6 A1 + 1) 7 ∧ Ce sc (D + 8) 64 [(2, r 6 A1 + 1), (0, A3), (0, hd), (0, 0)] g r fun v6 g6 r6 => okr 218 (r 6 A1 + 1) 7 ∧ Ce sc (D + 8) 62 [(2, r 6 A1 + 1), (0, A3), (0, v6), (0, hd), (0, 0)] g6 r6 fun v7 g7 r7 => (if 0 < (cmpL v7 0) then okr 218 (r 6 A2) 2 ∧ okr 218 (r 6 A2) 2 ∧ okr 218 (r7 (r 6 A2) 1) 7 ∧ Ce sc (D + 8) 64 [(2, r7 (r 6 A2) 1), (0, A3), (0, hd), (0, 0)] g7 r7 fun v8 g8 r8 => okr 218 (r7 (r 6 A2) 1) 7 ∧ Ce sc (D + 8) 62 [(2, r7 (r 6 A2) 1), (0, A3), (0, v8), (0, hd), (0, 0)] g8 r8 fun v9 g9 r9 => v7 ≠ 0 ∧ Ce sc (D + 8) 251 [(1, 2000000000), (1, wL ((wL (v9 * 100)).tdiv v7))] g9 r9 fun v10 g10 r10 => Ce sc (D + 9) 234 [(2, 165), (0, A1), (0, A2), (0, A3), (0, A4)] g10 r10 (fun v2 g2 r2 => wr v10 = v2 ∧ J5 g2 r2) else Ce sc (D + 9) 234 [(2, 165), (0, A1), (0, A2), (0, A3), (0, A4)] g7 r7 (fun v2 g2 r2 => -1 = v2 ∧ J5 g2 r2)) := fun hd eh e0 e1 => by
    have bb := bp_b (W := MWh g A1) (f := A3) (hd := hd) (b := 0)
    refine ⟨hx.1, f_64 (d := D + 2) hx wh b3 wb q1 q2 (Or.inl ⟨e0, e1⟩) (fun g1 bu1 b31 => ⟨hx.1, f_62 (d := D + 3) hx (wh.b bu1) b31 wb q1 q2 bb.1 bb.2 (Or.inl ⟨e0, e1⟩) (fun g2 bu2 b32 => ?_)⟩)⟩
    have bu := bu1.tr bu2
    have j2 := hJ.bu tm bu b32
    have eV := mwh_bu hJ tm bu
    have eT : ∀ q, g2 167 q = g 167 q ∧ g2 168 q = g 168 q := fun q => ⟨bu 167 q (by unfold MO at hm; omega), bu 168 q (by unfold MO at hm; omega)⟩
    have um2 : TM g2 A2 := (tm_bu hJ tm bu A2).mpr um
    have yb := hy_b (W := MWh g A1) (f := A3) (p := bpE (MWh g A1) A3 hd 0) (hd := hd) (b := 0)
    have y1 : veY (MWh g A1) A3 (veH A4) = hyE (MWh g A1) A3 (bpE (MWh g A1) A3 hd 0) hd 0 := by rw [eh]; rfl
    refine ite_c (fun z => ?_) (fun z => ?_)
    · have hp := cmp_gt.mp z
      obtain ⟨hx2, wh2, wb2, b32'⟩ := t5_of j2 um2
      have bb2 := bp_b (W := MWh g2 A2) (f := A3) (hd := hd) (b := 0)
      rw [mo_1 hr hn]
      refine ⟨mo_ok hn, mo_ok hn, mo_w hn, f_64 (d := D + 2) hx2 wh2 b32' wb2 q1 q2 (Or.inl ⟨e0, e1⟩) (fun g3 bu3 b33 => ⟨mo_w hn, f_62 (d := D + 3) hx2 (wh2.b bu3) b33 wb2 q1 q2 bb2.1 bb2.2 (Or.inl ⟨e0, e1⟩) (fun g4 bu4 b34 => ⟨by omega, ?_⟩)⟩)⟩
      have bv := bu3.tr bu4
      have j4 := j2.bu um2 bv b34
      have eV4 : ∀ q, MWh g4 q = MWh g q := fun q => (mwh_bu j2 um2 bv q).trans (eV q)
      have eT4 : ∀ q, g4 167 q = g 167 q ∧ g4 168 q = g 168 q := fun q => ⟨(bv 167 q (by unfold MO at hn; omega)).trans (eT q).1, (bv 168 q (by unfold MO at hn; omega)).trans (eT q).2⟩
      have y2 : veY (MWh g A2) A3 (veH A4) = hyE (MWh g2 A2) A3 (bpE (MWh g2 A2) A3 hd 0) hd 0 := by rw [eh, eV]; rfl
      have fin : ∀ v, v = veV (veY (MWh g A1) A3 (veH A4)) (veY (MWh g A2) A3 (veH A4)) → Ce sc (D + 9) 234 [(2, 165), (0, A1), (0, A2), (0, A3), (0, A4)] g4 r (fun v2 g2 r2 => v = v2 ∧ J5 g2 r2) := fun v ev => f_234 j4 D (fun _ => ⟨by rw [ev, eV4, eV4], j4⟩) (fun n => absurd ((vec_e eT4).mpr vc) n)
      have nz : veY (MWh g A1) A3 (veH A4) ≠ 0 := by omega
      have ex : wL ((wL (veY (MWh g A2) A3 (veH A4) * 100)).tdiv (veY (MWh g A1) A3 (veH A4))) = wL ((wL (100 * veY (MWh g A2) A3 (veH A4))).tdiv (veY (MWh g A1) A3 (veH A4))) := by rw [Int.mul_comm]
      rw [← y1, ← y2, ex]
      refine w_251 (fun q => fin _ ?_) (fun q => fin _ ?_)
      · unfold veV
        rw [if_neg nz]
        by_cases x : 2000000000 < wL ((wL (100 * veY (MWh g A2) A3 (veH A4))).tdiv (veY (MWh g A1) A3 (veH A4)))
        · rw [if_pos x]; exact wr_id ⟨by decide, by decide⟩
        · rw [if_neg x]
          congr 1
          omega
      · unfold veV
        rw [if_neg nz, if_neg (by omega)]
    · have hz : veY (MWh g A1) A3 (veH A4) = 0 := by
        have : ¬ 0 < hyE (MWh g A1) A3 (bpE (MWh g A1) A3 hd 0) hd 0 := fun y => z (cmp_gt.mpr y)
        omega
      refine f_234 j2 D (fun _ => ⟨?_, j2⟩) (fun n => absurd ((vec_e eT).mpr vc) n)
      rw [eV A1, eV A2]
      unfold veV
      rw [if_pos hz]
  refine w_250 (fun q => key _ ?_ (by decide) (by decide)) (fun q => key _ ?_ (by omega) (by omega))
  · unfold veH
    by_cases z : 240 < 12 * A4
    · rw [if_pos z]
    · rw [if_neg z]; omega
  · unfold veH
    by_cases z : 240 < 12 * A4
    · rw [if_pos z]; omega
    · rw [if_neg z]
end VL9
