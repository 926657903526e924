/-! the days of a way laid and run, the reference -/
section WAM
variable {sc : SCR} {d : Nat} {Q : QJ} {g r b gp : GH} {mm : Int → GH} {Pl : Int → Int → Int} {l0 l1 l2 l3 l4 l5 x s p a n m v w k t len opn on : Int}
theorem mk_cnt (t0 : 0 ≤ t) (t6 : t < 64) {c : Int} (c0 : 0 ≤ c) (c3 : c < 3) (h : c < popm t 6) {m : Int} (m0 : 0 ≤ m) (m6 : m < 6) (hb : bitE (mkE t) m = 1) : bitE t m = 1 ∧ popm t m.toNat < 3 ∧ popm (mkE t) m.toNat = popm t m.toNat ∧ mrE t (popm t m.toNat) = m := by
  have k := mk_at t0 t6 m0 m6
  have z : bitE t m = 1 ∧ popm t m.toNat < 3 := Decidable.byContradiction fun z => by
    rw [k.2.1 z] at hb
    exact absurd hb (by decide)
  exact ⟨z.1, z.2, (k.1 z).2.1, (k.1 z).2.2⟩
/-- state 0 is left alone where only state 4 is written -/
theorem MBR.fr0 {g' : GH} (h : MBR 0 g b) (e : ∀ i j, ((i = 192 ∨ i = 198) ∧ 0 ≤ j ∧ j < 40) ∨ ((193 ≤ i ∧ i ≤ 199 ∧ i ≠ 197 ∧ i ≠ 198) ∧ 0 ≤ j ∧ j < 6) ∨ ((i = 197 ∨ i = 200 ∨ i = 201) ∧ j = 0) → True → g' i j = g i j) : MBR 0 g' b := by
  obtain ⟨⟨q1, q2, q3⟩, q4, q5⟩ := h
  refine ⟨⟨?_, ?_, ?_⟩, fun j j0 j1 => ?_, fun j j0 j1 => ?_⟩
  · rw [e 197 0 (by omega) trivial]; exact q1
  · rw [e 200 0 (by omega) trivial]; exact q2
  · rw [e 201 0 (by omega) trivial]; exact q3
  · rw [e 192 _ (by omega) trivial, e 198 _ (by omega) trivial]; exact q4 j j0 j1
  · rw [e 193 _ (by omega) trivial, e 194 _ (by omega) trivial, e 199 _ (by omega) trivial, e 195 _ (by omega) trivial, e 196 _ (by omega) trivial]; exact q5 j j0 j1
theorem MBR.fh0 {g' : GH} (h : MBR 0 g b) (f : FH 4 g g') : MBR 0 g' b := h.fr0 (fun i j z _ => f i j (by omega) (by omega) (by omega))
theorem f_214 (hr : RI r) (hp : PO gp mm) (hx : MXA gp mm) (hi : MI g) (hk : EQK gp g) (hB : HB b) (h9 : b 0 0 ≤ 936) (mb : MBR 0 g b) (o0 : 0 ≤ l2) (o9 : l2 ≤ 999) (w0 : 0 ≤ l3) (w6 : l3 < 64) (hq : ∀ g', EQK gp g' → MBR 0 g' b → (∀ c, 0 ≤ c → c < 3 → c < popm (tbE gp) 6 → g' 208 (3 * l3 + c) = ZE gp mm b l1 l2 l3 c) → (∀ j, ¬ (3 * l3 ≤ j ∧ j < 3 * l3 + 3) → g' 208 j = g 208 j) → Q 0 g' r) : Ce sc (d + 10) 214 [(2, 165), (0, l1), (0, l2), (0, l3)] g r Q := by
  have k9 : okr 218 165 9 := okd (by decide +kernel)
  have tb := tb_b gp
  have PO' := ps_o (t := tbE gp) (len := l1) (opn := l2) (w := l3) o0 o9
  have te : ∀ g1, EQK gp g1 → tbE g1 = tbE gp := fun g1 h => by
    unfold tbE tkE
    rw [h 167 0 (Or.inl rfl), h 167 1 (Or.inl rfl), h 167 2 (Or.inl rfl), h 167 3 (Or.inl rfl), h 167 4 (Or.inl rfl), h 167 5 (Or.inl rfl)]
  have ix : ∀ c, 0 ≤ c → c < 3 → wr (wr (3 * l3) + c) = 3 * l3 + c := fun c c0 c3 => by
    rw [wr_id (x := 3 * l3) ⟨by omega, by omega⟩, wr_id (x := 3 * l3 + c) ⟨by omega, by omega⟩]
  -- the hours; what is summed so far
  have fin : ∀ g1, EQK gp g1 → MBR 0 g1 b → (∀ c, 0 ≤ c → c < 3 → c < popm (tbE gp) 6 → g1 208 (3 * l3 + c) = twN gp mm (PSE (tbE gp) l1 l2 l3) (mrE (tbE gp) c) 24 0 b) → (∀ j, ¬ (3 * l3 ≤ j ∧ j < 3 * l3 + 3) → g1 208 j = g 208 j) → Q 0 g1 r := fun g1 a1 a2 a3 a4 => hq g1 a1 a2 (fun c c0 c3 ct => by
    have mr := mr_at tb.1 tb.2 c0 c3 ct
    have t : TM gp (mrE (tbE gp) c) := ⟨mr.2.2.1, mr.2.2.2, (tb_1 gp mr.2.2.1 mr.2.2.2).mp mr.1⟩
    rw [a3 c c0 c3 ct]
    exact tw_e t 24 0 b (by rw [Int.sub_self]; decide)) a4
  have l63 : ∀ (n : Nat) (h : Int) (g1 b1 : GH), 0 ≤ h → h + n = 24 → EQK gp g1 → MBR 0 g1 b → MBR 4 g1 b1 → HB b1 → b1 0 0 + n ≤ 960 → PLM g1 (PSE (tbE gp) l1 l2 l3) → g1 165 52 = mkE (tbE gp) → (∀ c, 0 ≤ c → c < 3 → c < popm (tbE gp) 6 → twN gp mm (PSE (tbE gp) l1 l2 l3) (mrE (tbE gp) c) n (g1 208 (3 * l3 + c)) b1 = twN gp mm (PSE (tbE gp) l1 l2 l3) (mrE (tbE gp) c) 24 0 b) → (∀ j, ¬ (3 * l3 ≤ j ∧ j < 3 * l3 + 3) → g1 208 j = g 208 j) → WQ sc (d + 9) 214 Q 63 [(2, 165), (9, 0), (9, 0), (0, l3), (0, h), (9, 0)] [] g1 r := by
    intro n
    induction n with
    | zero =>
      intro h g1 b1 h0 e hk1 mb1 m41 hb1 h91 pl e52 sm fr
      exact b_214_63 (ite_c (fun z => absurd z (by omega)) (fun _ => fin g1 hk1 mb1 (fun c c0 c3 ct => sm c c0 c3 ct) fr))
    | succ n ih =>
      intro h g1 b1 h0 e hk1 mb1 m41 hb1 h91 pl e52 sm fr
      refine b_214_63 (ite_c (fun _ => ⟨k9, ?_⟩) (fun z => absurd (by omega) z))
      have q := hr_b hp PO' hb1 (by omega)
      refine f_205 (mm := mm) (Pl := (PSE (tbE gp) l1 l2 l3)) (b := b1) (gp := gp) hr hp PO' hx (by decide) (by decide) hk1 hb1 (by omega) m41 pl (fun g2 f2 m42 ro => ?_)
      have e165 : ∀ j, g2 165 j = g1 165 j := fun j => f2 165 j (by omega) (by omega) (by omega)
      -- the sums of this hour
      have l78 : ∀ (n' : Nat) (m : Int) (g3 : GH), 0 ≤ m → m + n' = 6 → (∀ i j, i ≠ 208 → g3 i j = g2 i j) → (∀ j, ¬ (3 * l3 ≤ j ∧ j < 3 * l3 + 3) → g3 208 j = g 208 j) → (∀ c, 0 ≤ c → c < 3 → c < popm (tbE gp) 6 → g3 208 (3 * l3 + c) = if mrE (tbE gp) c < m then wL (g1 208 (3 * l3 + c) + hrE gp mm (PSE (tbE gp) l1 l2 l3) b1 14 (mrE (tbE gp) c)) else g1 208 (3 * l3 + c)) → WQ sc (d + 9) 214 Q 78 [(2, 165), (9, 0), (9, 0), (0, l3), (0, h), (0, m)] [] g3 r := by
        intro n'
        induction n' with
        | zero =>
          intro m g3 m0 em f3 fr3 s3
          refine b_214_78 (ite_c (fun z => absurd z (by omega)) (fun _ => ?_))
          rw [wr_id (x := h + 1) ⟨by omega, by omega⟩]
          refine ih (h + 1) g3 (hrE gp mm (PSE (tbE gp) l1 l2 l3) b1) (by omega) (by omega) (fun i j z => ?_) ((mb1.fh0 f2).fr (fun i j z => f3 i j (by omega))) (m42.fr (fun i j z => f3 i j (by omega))) q.1 (by rw [q.2.1]; omega) (pl.e (fun j => by rw [f3 165 j (by decide)]; exact e165 j)) (by rw [f3 165 52 (by decide), e165]; exact e52) (fun c c0 c3 ct => ?_) fr3
          · rw [f3 i j (by omega)]; exact hk1.fh f2 i j z
          · have mr := mr_at tb.1 tb.2 c0 c3 ct
            rw [s3 c c0 c3 ct, if_pos (by omega)]
            exact sm c c0 c3 ct
        | succ n' ih' =>
          intro m g3 m0 em f3 fr3 s3
          refine b_214_78 (ite_c (fun _ => ⟨k9, ?_⟩) (fun z => absurd (by omega) z))
          have e52' : g3 165 52 = mkE (tbE gp) := by rw [f3 165 52 (by decide), e165]; exact e52
          have mk := mk_at tb.1 tb.2 m0 (show m < 6 by omega)
          rw [wr_id (x := m + 1) ⟨by omega, by omega⟩]
          refine ite_c (fun y => ⟨k9, k9, s_202 (d := d + 8) m0 (by omega) ?_⟩) (fun y => ?_)
          · rw [e52'] at y
            rw [e52']
            have z : bitE (tbE gp) m = 1 ∧ popm (tbE gp) m.toNat < 3 := Decidable.byContradiction fun z => by
              have := mk.2.1 z
              unfold bitE at this
              rw [this] at y
              exact absurd y (by decide)
            obtain ⟨_, pk, mrk⟩ := mk.1 z
            have pb := mk.2.2.1
            have t7 := (tb_1 gp m0 (by omega)).mp z.1
            have cm : popm (tbE gp) m.toNat < popm (tbE gp) 6 := by
              have a := pop_le2 (t := tbE gp) (m := m.toNat + 1) (j := 6) tb.1 tb.2 (by omega) (by omega)
              have := mk.2.2.2
              omega
            rw [pk, ix _ pb.1 z.2, r_165_60 hr, r_165_59 hr]
            have v7 : g3 207 m = hrE gp mm (PSE (tbE gp) l1 l2 l3) b1 14 m := by rw [f3 207 m (by decide)]; exact (ro m m0 (by omega) t7).2.1
            have v8 := s3 _ pb.1 z.2 cm
            rw [mrk, if_neg (by omega)] at v8
            have i8 := i_208.mpr (⟨by omega, by omega⟩ : 0 ≤ 3 * l3 + popm (tbE gp) m.toNat ∧ 3 * l3 + popm (tbE gp) m.toNat < 192)
            refine ⟨i8, k9, i_207.mpr ⟨m0, by omega⟩, i8, fun g4 e4 => ih' (m + 1) g4 (by omega) (by omega) (fun i j q => by rw [e4, up_i q]; exact f3 i j q) (fun j hj => by rw [e4, up_j (by omega)]; exact fr3 j hj) (fun c c0 c3 ct => ?_)⟩
            rw [v7, v8] at e4
            have mr := mr_at tb.1 tb.2 c0 c3 ct
            by_cases ec : c = popm (tbE gp) m.toNat
            · rw [ec, mrk, e4, up_s, if_pos (by omega)]
            · have nm : mrE (tbE gp) c ≠ m := fun q => ec (by rw [← mr.2.1, q])
              rw [e4, up_j (by omega), s3 c c0 c3 ct]
              by_cases lt : mrE (tbE gp) c < m
              · rw [if_pos lt, if_pos (by omega)]
              · rw [if_neg lt, if_neg (by omega)]
          · refine ih' (m + 1) g3 (by omega) (by omega) f3 fr3 (fun c c0 c3 ct => ?_)
            have mr := mr_at tb.1 tb.2 c0 c3 ct
            have nm : mrE (tbE gp) c ≠ m := fun q => by
              have r1 := mr.1
              have r2 := mr.2.1
              rw [q] at r1 r2
              have := (mk.1 ⟨r1, by omega⟩).1
              rw [e52'] at y
              exact y this
            rw [s3 c c0 c3 ct]
            by_cases lt : mrE (tbE gp) c < m
            · rw [if_pos lt, if_pos (by omega)]
            · rw [if_neg lt, if_neg (by omega)]
      refine l78 6 0 g2 (by decide) (by decide) (fun _ _ _ => rfl) (fun j hj => (f2 208 j (by omega) (by omega) (by omega)).trans (fr j hj)) (fun c c0 c3 ct => ?_)
      have mr := mr_at tb.1 tb.2 c0 c3 ct
      rw [if_neg (by omega)]
      exact f2 208 _ (by omega) (by omega) (by omega)
  have l36 : ∀ (n : Nat) (c : Int) (g1 : GH), 0 ≤ c → c + n = 3 → EQK gp g1 → MBR 0 g1 b → MBR 4 g1 b → PLM g1 (PSE (tbE gp) l1 l2 l3) → g1 165 52 = mkE (tbE gp) → (∀ e, 0 ≤ e → e < c → g1 208 (3 * l3 + e) = 0) → (∀ j, ¬ (3 * l3 ≤ j ∧ j < 3 * l3 + 3) → g1 208 j = g 208 j) → WQ sc (d + 9) 214 Q 36 [(2, 165), (9, 0), (9, 0), (0, l3), (0, c), (9, 0)] [] g1 r := by
    intro n
    induction n with
    | zero =>
      intro c g1 c0 e hk1 mb1 m41 pl e52 z0 fr
      refine b_214_36 (ite_c (fun z => absurd z (by omega)) (fun _ => l63 24 0 g1 b (by decide) (by decide) hk1 mb1 m41 hB (by omega) pl e52 (fun c c0 c3 ct => ?_) fr))
      rw [z0 c c0 (by omega)]
    | succ n ih =>
      intro c g1 c0 e hk1 mb1 m41 pl e52 z0 fr
      refine b_214_36 (ite_c (fun _ => ?_) (fun z => absurd (by omega) z))
      rw [ix c c0 (by omega), r_165_60 hr, wr_id (x := c + 1) ⟨by omega, by omega⟩]
      refine ⟨k9, i_208.mpr ⟨by omega, by omega⟩, fun g2 e2 => ih (c + 1) g2 (by omega) (by omega) (fun i j z => by rw [e2, up_i (by omega)]; exact hk1 i j z) (mb1.fr (fun i j z => by rw [e2, up_i (by omega)])) (m41.fr (fun i j z => by rw [e2, up_i (by omega)])) (pl.e (fun j => by rw [e2, up_i (by decide)])) (by rw [e2, up_i (by decide)]; exact e52) (fun e e0 e1 => ?_) (fun j hj => by rw [e2, up_j (by omega)]; exact fr j hj)⟩
      by_cases z : e = c
      · rw [z, e2, up_s]
      · rw [e2, up_j (by omega)]; exact z0 e e0 (by omega)
  refine c_214 ⟨k9, f_192 (d := d + 8) hr (by decide) (by decide) (by decide) (by decide) (by decide) hi.2.1.2.1 (fun g1 fc mc => ⟨k9, f_201 (d := d + 8) (fun g2 a52 a56 fr => ?_)⟩)⟩
  have hk2 : EQK gp g2 := fun i j z => by rw [fr i j (by omega), fc i j (by omega) (by omega) (by omega)]; exact hk i j z
  refine ⟨k9, f_212 (d := d + 8) hr ⟨k9, fun g3 e3 => ⟨k9, fun g4 e4 => ⟨k9, fun g5 e5 => ⟨k9, fun g6 e6 => ?_⟩⟩⟩⟩⟩
  rw [te g2 hk2] at e3
  have o : ∀ i j, i ≠ 165 → g6 i j = g2 i j := fun i j z => by rw [e6, up_i z, e5, up_i z, e4, up_i z, e3, up_i z]
  have a52' : g6 165 52 = mkE (tbE gp) := by rw [e6, up_j (by decide), e5, up_j (by decide), e4, up_j (by decide), e3, up_s]
  have a53 : g6 165 53 = l1 := by rw [e6, up_j (by decide), e5, up_j (by decide), e4, up_s]
  have a54 : g6 165 54 = l2 := by rw [e6, up_j (by decide), e5, up_s]
  have a55 : g6 165 55 = l3 := by rw [e6, up_s]
  have a56' : g6 165 56 = -1 := by rw [e6, up_j (by decide), e5, up_j (by decide), e4, up_j (by decide), e3, up_j (by decide)]; exact a56
  refine l36 3 0 g6 (by decide) (by decide) (fun i j z => by rw [o i j (by omega)]; exact hk2 i j z) (mb.fr0 (fun i j z1 z2 => by rw [o i j (by omega), fr i j (by omega), fc i j (by omega) (by omega) (by omega)])) ((mc b mb).fr (fun i j z => by rw [o i j (by omega), fr i j (by omega)])) (plm_ps tb.1 tb.2 w0 w6 o0 a52' a53 a54 a55 a56') a52' (fun e _ e1 => absurd e1 (by omega)) (fun j _ => by rw [o 208 j (by decide), fr 208 j (by omega), fc 208 j (by omega) (by omega) (by omega)])
end WAM
