/-! the reference's hour is the pure hour -/
/-- state s of the reference holds the brook b -/
def MBR (s : Int) (g b : GH) : Prop := (g 197 s = b 0 0 ∧ g 200 s = b 0 1 ∧ g 201 s = b 0 2) ∧ (∀ j, 0 ≤ j → j < 40 → g 192 (40 * s + j) = b 4 j ∧ g 198 (40 * s + j) = b 5 j) ∧ (∀ j, 0 ≤ j → j < 6 → g 193 (6 * s + j) = b 6 j ∧ g 194 (6 * s + j) = b 7 j ∧ g 199 (6 * s + j) = b 8 j ∧ g 195 (6 * s + j) = b 9 j ∧ g 196 (6 * s + j) = b 10 j)
/-- what the reference holds of the mills told is as in gp -/
def EQK (gp g : GH) : Prop := ∀ i j, i = 167 ∨ (168 ≤ i ∧ i ≤ 180 ∧ j < 6) ∨ (182 ≤ i ∧ i ≤ 188) → g i j = gp i j
/-- what a mill's turn of an hour writes -/
def FML (s m : Int) (g g' : GH) : Prop := ∀ i j, ¬ ((i = 193 ∨ i = 195 ∨ i = 196 ∨ i = 199) ∧ j = 6 * s + m) → i ≠ 203 → i ≠ 204 → ¬ ((i = 205 ∨ i = 206 ∨ i = 207) ∧ j = m) → g' i j = g i j
/-- what an hour writes -/
def FH (s : Int) (g g' : GH) : Prop := ∀ i j, ¬ (193 ≤ i ∧ i ≤ 199 ∧ i ≠ 197 ∧ i ≠ 198 ∧ 6 * s ≤ j ∧ j ≤ 6 * s + 5) → ¬ ((i = 197 ∨ i = 200 ∨ i = 201) ∧ j = s) → ¬ (203 ≤ i ∧ i ≤ 207) → g' i j = g i j
theorem FH.rf (s : Int) (g : GH) : FH s g g := fun _ _ _ _ _ => rfl
theorem FH.tr {s : Int} {a b c : GH} (h : FH s a b) (k : FH s b c) : FH s a c := fun i j x y z => (k i j x y z).trans (h i j x y z)
theorem FML.fh {s m : Int} {g g' : GH} (h : FML s m g g') (m0 : 0 ≤ m) (m6 : m < 6) : FH s g g' := fun i j x y z => h i j (by omega) (by omega) (by omega) (by omega)
theorem EQK.fh {s : Int} {gp g g' : GH} (h : EQK gp g) (e : FH s g g') : EQK gp g' := fun i j z => (e i j (by omega) (by omega) (by omega)).trans (h i j z)
/-- the plan of the reference -/
def PLM (g : GH) (Pl : Int → Int → Int) : Prop := ∀ m h, 0 ≤ m → m < 6 → 0 ≤ h → h < 24 → (m = g 165 56 → Pl m h = g 165 54 ∧ 0 ≤ g 165 54) ∧ (m ≠ g 165 56 → i_and (i_shr (g 165 52) m) 1 = 0 → Pl m h = -1) ∧ (m ≠ g 165 56 → i_and (i_shr (g 165 52) m) 1 ≠ 0 → 0 ≤ g 165 54 ∧ Pl m h = if (wr ((wr (h - (wr (6 * (i_and (i_shr (g 165 55) (wr (2 * (wr (2 - popm (g 165 52) m.toNat))))) 3))))) + 24)).tmod 24 < g 165 53 then g 165 54 else 0)
theorem PLM.e {g g' : GH} {Pl : Int → Int → Int} (h : PLM g Pl) (e : ∀ j, g' 165 j = g 165 j) : PLM g' Pl := fun m t m0 m6 t0 t1 => by
  rw [e, e, e, e, e]; exact h m t m0 m6 t0 t1
theorem MX3.k {k : Int} {g g' m : GH} (h : MX3 k g m) (k6 : k < 6) (e : EQK g g') : MX3 k g' m := by
  obtain ⟨a, b, c⟩ := h
  refine ⟨fun j j0 j1 => ?_, fun i i0 i1 => ?_, fun q q0 q1 => ?_⟩
  · rw [e (168 + j) k (by omega)]; exact a j j0 j1
  · rw [e 182 _ (by omega), e 183 _ (by omega), e 184 _ (by omega)]; exact b i i0 i1
  · exact (c q q0 q1).eq (fun i i0 i1 => e i _ (by omega))
section MHR
variable {sc : SCR} {d : Nat} {Q : QJ} {g r gp b : GH} {mm : Int → GH} {Pl : Int → Int → Int} {l0 l1 l2 l3 l4 l5 l6 l7 l8 l9 l11 l12 s m on : Int}
theorem MBR.fr {g' : GH} (h : MBR s g b) (e : ∀ i j, 192 ≤ i ∧ i ≤ 201 → g' i j = g i j) : MBR s g' b := by
  obtain ⟨⟨a1, a2, a3⟩, h2, h3⟩ := h
  refine ⟨⟨by rw [e 197 _ (by decide)]; exact a1, by rw [e 200 _ (by decide)]; exact a2, by rw [e 201 _ (by decide)]; exact a3⟩, fun j j0 j1 => ?_, fun j j0 j1 => ?_⟩
  · rw [e 192 _ (by decide), e 198 _ (by decide)]; exact h2 j j0 j1
  · rw [e 193 _ (by decide), e 194 _ (by decide), e 199 _ (by decide), e 195 _ (by decide), e 196 _ (by decide)]; exact h3 j j0 j1
theorem f_197 (hr : RI r) (hk : EQK gp g) (m0 : -1 ≤ l1) (m5 : l1 ≤ 5) (hq : Q (nxE gp l1) g r) : Ce sc (d + 1) 197 [(2, 165), (0, l1)] g r Q := by
  have k9 : okr 218 165 9 := okd (by decide +kernel)
  have loop : ∀ (n : Nat) (k : Int), 0 ≤ k → k + n = 6 → Q (nxF gp n k) g r → WQ sc d 197 Q 4 [(2, 165), (9, 0), (0, k)] [] g r := by
    intro n
    induction n with
    | zero => intro k k0 e h; exact b_197_4 (ite_c (fun q => absurd q (by omega)) (fun _ => h))
    | succ n ih =>
      intro k k0 e h
      have h' : Q (if gp 167 k = 0 then nxF gp n (k + 1) else k) g r := h
      refine b_197_4 (ite_c (fun _ => ⟨k9, ?_⟩) (fun q => absurd (by omega) q))
      rw [r_165_1 hr, hk 167 k (Or.inl rfl), wr_id (x := k + 1) ⟨by omega, by omega⟩]
      refine ⟨Or.inr (i_167.mpr ⟨k0, by omega⟩), ite_c (fun z => ?_) (fun z => ?_)⟩
      · rw [if_pos z] at h'; exact ih (k + 1) (by omega) (by omega) h'
      · rw [if_neg z] at h'; exact h'
  refine c_197 ?_
  rw [wr_id (x := l1 + 1) ⟨by omega, by omega⟩]
  exact loop (5 - l1).toNat (l1 + 1) (by omega) (by omega) hq
theorem f_198 (hr : RI r) (hk : EQK gp g) (s0 : 0 ≤ l1) (s4 : l1 ≤ 4) (m6 : l2 < 6) (h75 : 0 ≤ l2 → 1 ≤ gp 175 l2) (hc : 0 ≤ l2 → 0 ≤ b 6 l2 ∧ b 6 l2 ≤ 9999) (h93 : 0 ≤ l2 → g 193 (6 * l1 + l2) = b 6 l2) (hq : Q (lvE gp b l2) g r) : Ce sc (d + 1) 198 [(2, 165), (0, l1), (0, l2)] g r Q := by
  have k9 : okr 218 165 9 := okd (by decide +kernel)
  unfold lvE at hq
  refine c_198 (ite_c (fun z => ?_) (fun z => ⟨k9, ?_⟩))
  · rw [if_pos z] at hq; exact hq
  · rw [if_neg z] at hq
    have c := hc (by omega)
    have p := h75 (by omega)
    rw [r_165_38 hr, r_165_9 hr, wr_id (x := 6 * l1) ⟨by omega, by omega⟩, wr_id (x := 6 * l1 + l2) ⟨by omega, by omega⟩, h93 (by omega), hk 175 l2 (by omega), wr_id (x := b 6 l2 * 100) ⟨by omega, by omega⟩]
    have q := tdb (x := b 6 l2 * 100) (m := gp 175 l2) (by omega) (by omega)
    rw [q.1, wr_id ⟨by omega, by omega⟩]
    exact ⟨i_193.mpr ⟨by omega, by omega⟩, k9, i_175.mpr ⟨by omega, by omega⟩, by omega, hq⟩
theorem f_203 (hr : RI r) (hp : PO gp mm) (hk : EQK gp g) (t : TM gp l1) (hx : MX3 l1 gp (mm l1)) (hb : HB b) (e2 : l2 = b 0 0 % 24) (ha : ∀ w, 0 ≤ w → w ≤ 4 → g 203 w = asE gp b l1 on w) (pl : PLM g Pl) (hq : ∀ g', (∀ i j, i ≠ 204 → ¬ (i = 206 ∧ j = l1) → g' i j = g i j) → g' 206 l1 = rlE gp mm b l1 on → Q (onE gp mm Pl b l1 on) g' r) : Ce sc (d + 3) 203 [(2, 165), (0, l1), (0, l2)] g r Q := by
  have k9 : okr 218 165 9 := okd (by decide +kernel)
  have m0 := t.1
  have m6 := t.2.1
  have xt := (hp l1 t).1
  have hx' : MX3 l1 g (mm l1) := hx.k m6 hk
  refine c_203 ⟨k9, k9, f_200 (m := mm l1) (A := asE gp b l1 on) hr m0 m6 xt.ghs xt.g0 xt.2.2.2.2.1 hx' ha (fun g1 f1 => ?_)⟩
  rw [r_165_58 hr]
  refine ⟨i_206.mpr ⟨m0, m6⟩, fun g2 e2' => ⟨k9, ?_⟩⟩
  have fr : ∀ i j, i ≠ 204 → ¬ (i = 206 ∧ j = l1) → g2 i j = g i j := fun i j x y => by rw [e2', up_o y]; exact f1 i j x
  have f206 : g2 206 l1 = rlE gp mm b l1 on := by rw [e2', up_s]; rfl
  have hq' := hq g2 fr f206
  have p := pl l1 l2 m0 m6 (by omega) (by omega)
  have x52 : g2 165 52 = g 165 52 := fr 165 52 (by decide) (by omega)
  have x53 : g2 165 53 = g 165 53 := fr 165 53 (by decide) (by omega)
  have x54 : g2 165 54 = g 165 54 := fr 165 54 (by decide) (by omega)
  have x55 : g2 165 55 = g 165 55 := fr 165 55 (by decide) (by omega)
  have x56 : g2 165 56 = g 165 56 := fr 165 56 (by decide) (by omega)
  have onp : Pl l1 l2 ≠ -1 → onE gp mm Pl b l1 on = Pl l1 l2 := fun z => by
    unfold onE
    rw [← e2, if_neg z]
  have onr : Pl l1 l2 = -1 → onE gp mm Pl b l1 on = rlE gp mm b l1 on := fun z => by
    unfold onE
    rw [← e2, if_pos z]
  rw [x56]
  refine ite_c (fun z => ⟨k9, ?_⟩) (fun z => ⟨k9, ?_⟩)
  · obtain ⟨a, c⟩ := p.1 z
    rw [onp (by omega), a] at hq'
    rw [x54]; exact hq'
  · rw [x52]
    refine ite_c (fun y => ⟨k9, i_206.mpr ⟨m0, m6⟩, ?_⟩) (fun y => ⟨k9, k9, s_202 m0 m6 ⟨by decide, k9, ?_⟩⟩)
    · rw [onr (p.2.1 z y)] at hq'
      rw [f206]; exact hq'
    · obtain ⟨c, a⟩ := p.2.2 z y
      rw [x55, x53, x52]
      have nn : Pl l1 l2 ≠ -1 := by
        rw [a]
        split <;> omega
      rw [onp nn, a] at hq'
      refine ite_c (fun x => ⟨k9, ?_⟩) (fun x => ?_)
      · rw [if_pos x] at hq'
        rw [x54]; exact hq'
      · rw [if_neg x] at hq'
        exact hq'
/-- what a mill's turn has written before it works -/
def FMa (s m : Int) (g g' : GH) : Prop := ∀ i j, ¬ (i = 193 ∧ j = 6 * s + m) → i ≠ 203 → i ≠ 204 → ¬ ((i = 205 ∨ i = 206) ∧ j = m) → g' i j = g i j
theorem f_204b {h : GH} {th ov wd und st : Int} (hr : RI r) (t : TM gp m) (s0 : 0 ≤ s) (s4 : s ≤ 4) (wb : WBd (MWh gp m)) (hk : EQK gp h) (fr : FMa s m g h) (e93 : h 193 (6 * s + m) = st) (t0 : 0 ≤ th) (ts : th ≤ st) (s9 : st ≤ 9999) (o0 : 0 ≤ ov) (o1 : ov ≤ 200000) (u0 : 0 ≤ und) (u1 : und ≤ 999900) (n0 : 0 ≤ gp 176 m) (n1 : gp 176 m ≤ 100) (eu : nxE gp m < 0 → und = 0) (ew : wd = if gp 176 m < und then und - gp 176 m else 0) (hq : ∀ g', FML s m g g' → g' 193 (6 * s + m) = st - th → g' 199 (6 * s + m) = wL (g 199 (6 * s + m) + grV gp m th wd) → g' 195 (6 * s + m) = wr (g 195 (6 * s + m) + (if 0 < grV gp m th wd then 1 else 0)) → g' 196 (6 * s + m) = wr (g 196 (6 * s + m) + (if 0 < th ∧ 0 < wd then 1 else 0)) → g' 205 m = h 205 m → g' 206 m = h 206 m → g' 207 m = grV gp m th wd → Q (ov + th) g' r) : WQ sc (d + 6) 204 Q 189 [(2, 165), (9, 0), (0, m), (9, 0), (9, 0), (0, 6 * s + m), (9, 0), (0, nxE gp m), (0, und), (0, ov), (9, 0), (9, 0), (9, 0), (9, 0)] [(0, th)] h r := by
  have k9 : okr 218 165 9 := okd (by decide +kernel)
  have m0 := t.1
  have m6 := t.2.1
  have i93 := i_193.mpr (⟨by omega, by omega⟩ : 0 ≤ 6 * s + m ∧ 6 * s + m < 30)
  have i99 := i_199.mpr (⟨by omega, by omega⟩ : 0 ≤ 6 * s + m ∧ 6 * s + m < 30)
  have i95 := i_195.mpr (⟨by omega, by omega⟩ : 0 ≤ 6 * s + m ∧ 6 * s + m < 30)
  have i96 := i_196.mpr (⟨by omega, by omega⟩ : 0 ≤ 6 * s + m ∧ 6 * s + m < 30)
  have i07 := i_207.mpr (⟨m0, m6⟩ : 0 ≤ m ∧ m < 6)
  have wd0 : 0 ≤ wd := by
    rw [ew]
    split <;> omega
  refine b_204_189 ⟨k9, ?_⟩
  rw [r_165_38 hr, r_165_10 hr, e93, wr_id (x := st - th) ⟨by omega, by omega⟩]
  refine ⟨i93, i93, fun g1 x1 => ?_⟩
  have f1 : FMa s m g g1 := fun i j a b c e => by rw [x1, up_o a]; exact fr i j a b c e
  have k1 : EQK gp g1 := fun i j z => by rw [x1, up_i (by omega)]; exact hk i j z
  have v93 : g1 193 (6 * s + m) = st - th := by rw [x1, up_s]
  have v05 : g1 205 m = h 205 m := by rw [x1, up_i (by decide)]
  have v06 : g1 206 m = h 206 m := by rw [x1, up_i (by decide)]
  have rest : WQ sc (d + 6) 204 Q 232 [(2, 165), (9, 0), (0, m), (9, 0), (9, 0), (0, 6 * s + m), (9, 0), (9, 0), (9, 0), (0, ov), (9, 0), (0, th), (9, 0), (9, 0)] [(0, wd)] g1 r := by
    have eW : MWh g1 m = MWh gp m := mwh_e (fun j j0 j1 => k1 _ _ (by omega))
    have e77 : g1 177 m = gp 177 m := k1 177 m (by omega)
    have pc := wb.2.2.2.2.2.2.1
    have p9 : MWh gp m 9 = gp 177 m := rfl
    have fl : wr ((wr (100 * th)).tdiv 60) = 100 * th / 60 := by
      have q := tdb (x := 100 * th) (m := 60) (by omega) (by decide)
      rw [wr_id (x := 100 * th) ⟨by omega, by omega⟩, q.1, wr_id ⟨by omega, by omega⟩]
    refine b_204_232 ⟨by decide, k9, ?_⟩
    rw [fl, r_165_59 hr]
    refine ite_c (fun z => absurd z (by omega)) (fun _ => b_204_267 ⟨k9, ?_⟩)
    rw [r_165_11 hr, e77]
    refine ⟨i_177.mpr ⟨m0, by omega⟩, k9, f_177 hr m0 (by omega) (by rw [eW]; exact wb) (by omega) (by omega) (by omega) (by omega) (by decide) (by decide) ?_⟩
    rw [eW, r_165_44 hr, r_165_40 hr]
    have eG : hyE (MWh gp m) (100 * th / 60) (gp 177 m) 60 wd = grV gp m th wd := rfl
    rw [eG]
    refine ⟨i07, fun g2 x2 => ⟨k9, i99, k9, ?_⟩⟩
    rw [r_165_59 hr]
    refine ⟨i07, i99, fun g3 x3 => ⟨k9, i95, k9, i07, ?_⟩⟩
    have v2 : g2 207 m = grV gp m th wd := by rw [x2, up_s]
    have v3 : g3 207 m = grV gp m th wd := by rw [x3, up_i (by decide)]; exact v2
    have w99 : g2 199 (6 * s + m) = g 199 (6 * s + m) := by rw [x2, up_i (by decide)]; exact f1 199 _ (by omega) (by decide) (by decide) (by omega)
    have w95 : g3 195 (6 * s + m) = g 195 (6 * s + m) := by rw [x3, up_i (by decide), x2, up_i (by decide)]; exact f1 195 _ (by omega) (by decide) (by decide) (by omega)
    rw [w99, v2] at x3
    rw [v3, w95]
    have last : ∀ e : Int, e = (if 0 < grV gp m th wd then 1 else 0) → WQ sc (d + 6) 204 Q 321 [(2, 165), (9, 0), (9, 0), (9, 0), (9, 0), (0, 6 * s + m), (9, 0), (9, 0), (9, 0), (0, ov), (9, 0), (0, th), (0, wd), (9, 0)] [(0, e), (0, g 195 (6 * s + m)), (0, 6 * s + m), (2, 195)] g3 r := fun e ee => by
      refine b_204_321 ⟨i95, fun g4 x4 => ⟨k9, ?_⟩⟩
      rw [r_165_41 hr]
      have w96 : g4 196 (6 * s + m) = g 196 (6 * s + m) := by rw [x4, up_i (by decide), x3, up_i (by decide), x2, up_i (by decide)]; exact f1 196 _ (by omega) (by decide) (by decide) (by omega)
      rw [w96, wr_id (x := ov + th) ⟨by omega, by omega⟩]
      have fin : ∀ e2 : Int, e2 = (if 0 < th ∧ 0 < wd then 1 else 0) → okI 218 196 11 (6 * s + m) ∧ ∀ g5, g5 = up g4 196 (6 * s + m) (wr (g 196 (6 * s + m) + e2)) → Q (ov + th) g5 r := fun e2 ee2 => by
        refine ⟨i96, fun g5 x5 => hq g5 ?_ ?_ ?_ ?_ ?_ ?_ ?_ ?_⟩
        · intro i j a b c e'
          rw [x5, up_o (by omega), x4, up_o (by omega), x3, up_o (by omega), x2, up_o (by omega)]
          exact f1 i j (by omega) b c (by omega)
        · rw [x5, up_i (by decide), x4, up_i (by decide), x3, up_i (by decide), x2, up_i (by decide)]; exact v93
        · rw [x5, up_i (by decide), x4, up_i (by decide), x3, up_s]
        · rw [x5, up_i (by decide), x4, up_s, ee]
        · rw [x5, up_s, ee2]
        · rw [x5, up_i (by decide), x4, up_i (by decide), x3, up_i (by decide), x2, up_i (by decide)]; exact v05
        · rw [x5, up_i (by decide), x4, up_i (by decide), x3, up_i (by decide), x2, up_i (by decide)]; exact v06
        · rw [x5, up_i (by decide), x4, up_i (by decide)]; exact v3
      refine ⟨i96, ite_c (fun z => ite_c (fun y => fin 1 ?_) (fun y => fin 0 ?_)) (fun z => fin 0 ?_)⟩
      · rw [if_pos ⟨z, y⟩]
      · rw [if_neg (fun x => y x.2)]
      · rw [if_neg (fun x => z x.1)]
    exact ite_c (fun z => last 1 (if_pos (cmp_gt.mp z)).symm) (fun z => last 0 (if_neg (fun y => z (cmp_gt.mpr y))).symm)
  refine ite_c (fun z => ?_) (fun z => ⟨k9, i_176.mpr ⟨m0, by omega⟩, ?_⟩)
  · have : wd = 0 := by
      rw [ew, if_neg (by have := eu z; omega)]
    rw [this] at rest
    exact rest
  · rw [k1 176 m (by omega), wr_id (x := und - gp 176 m) ⟨by omega, by omega⟩]
    refine ite_c (fun y => ⟨k9, i_176.mpr ⟨m0, by omega⟩, ?_⟩) (fun y => ?_)
    · have : wd = und - gp 176 m := by rw [ew, if_pos y]
      rw [this] at rest
      exact rest
    · have : wd = 0 := by rw [ew, if_neg y]
      rw [this] at rest
      exact rest
theorem f_204 (hr : RI r) (hp : PO gp mm) (hP : PLO Pl) (hk : EQK gp g) (t : TM gp m) (hx : MX3 m gp (mm m)) (hb : HB b) (h9 : b 0 0 ≤ 959) (s0 : 0 ≤ s) (s4 : s ≤ 4) (mb : MBR s g b) (el : l3 = b 0 0) (o0 : 0 ≤ on) (o1 : on ≤ 120000) (pl : PLM g Pl) (hq : ∀ g', FML s m g g' → MBR s g' (mlE gp mm Pl b m on) → g' 205 m = on → g' 206 m = rlE gp mm b m on → g' 207 m = grH gp mm Pl b m on → Q (ltE gp mm Pl b m on) g' r) : Ce sc (d + 7) 204 [(2, 165), (0, s), (0, m), (0, l3), (0, on)] g r Q := by
  have k9 : okr 218 165 9 := okd (by decide +kernel)
  have m0 := t.1
  have m6 := t.2.1
  obtain ⟨xt, r1, n1, wb⟩ := hp m t
  have hm := hb.2.2 m m0 m6
  have B := ml_b (on := on) hp hP hb t o0
  have U := un_b (m := m) hp hb (by omega) (by omega)
  have nb := nxE_b gp (k := m) (by omega) (by omega)
  have nt := nx_tm (gp := gp) (m := m) (by omega) (by omega)
  have w6 : wr (6 * s) = 6 * s := wr_id ⟨by omega, by omega⟩
  have w6m : wr (6 * s + m) = 6 * s + m := wr_id ⟨by omega, by omega⟩
  have w40 : wr (40 * s) = 40 * s := wr_id ⟨by omega, by omega⟩
  have h0 := hb.1
  have i93 := i_193.mpr (⟨by omega, by omega⟩ : 0 ≤ 6 * s + m ∧ 6 * s + m < 30)
  have i75 := i_175.mpr (⟨by omega, by omega⟩ : 0 ≤ m ∧ m < 8)
  have i05 := i_205.mpr (⟨m0, m6⟩ : 0 ≤ m ∧ m < 6)
  have td : l3.tdiv 24 = b 0 0 / 24 := by rw [el]; exact Int.tdiv_eq_ediv_of_nonneg (by omega)
  have tmo : l3.tmod 24 = b 0 0 % 24 := by rw [el]; exact Int.tmod_eq_emod_of_nonneg (by omega)
  have wday : wr (b 0 0 / 24) = b 0 0 / 24 := wr_id ⟨by omega, by omega⟩
  have c93 := (mb.2.2 m m0 m6).1
  have eun : nxE gp m < 0 → lvE gp b (nxE gp m) = 0 := fun z => by
    unfold lvE
    rw [if_pos z]
  refine c_204 ⟨by decide, k9, f_197 (d := d + 5) hr hk (by omega) (by omega) ⟨k9, f_198 (d := d + 5) (b := b) hr hk s0 s4 (by omega) (fun z => ?_) (fun z => (hb.2.2 _ z (by omega)).1) (fun z => (mb.2.2 _ z (by omega)).1) ⟨k9, ?_⟩⟩⟩
  · have := (hp _ (nt.resolve_left (by omega))).2.1; omega
  rw [r_165_57 hr, r_165_38 hr, r_165_9 hr, w6, w6m, td, wday]
  refine ⟨i05, fun g3 x3 => ⟨k9, i93, i93, fun g4 x4 => ⟨k9, i93, k9, i75, ?_⟩⟩⟩
  have v3 : g3 193 (6 * s + m) = b 6 m := by rw [x3, up_i (by decide)]; exact c93
  rw [v3, wr_id (x := b 6 m + on) ⟨by omega, by omega⟩] at x4
  have v4 : g4 193 (6 * s + m) = b 6 m + on := by rw [x4, up_s]
  have e75 : g4 175 m = gp 175 m := by rw [x4, up_i (by decide), x3, up_i (by decide)]; exact hk 175 m (by omega)
  rw [v4, e75, wr_id (x := b 6 m + on - gp 175 m) ⟨by omega, by omega⟩]
  have rest : ∀ ov, ov = ovE gp b m on → WQ sc (d + 6) 204 Q 84 [(2, 165), (0, s), (0, m), (0, l3), (9, 0), (0, 6 * s + m), (0, b 0 0 / 24), (0, nxE gp m), (0, lvE gp b (nxE gp m)), (9, 0), (9, 0), (9, 0), (9, 0), (9, 0)] [(0, ov)] g4 r := fun ov eo => by
    have est : b 6 m + on - ov = stE gp b m on := by rw [eo]; rfl
    have i30 : ∀ w, 0 ≤ w → w < 5 → okI 218 203 11 w := fun w a b => i_203.mpr ⟨a, b⟩
    refine b_204_84 ⟨k9, ?_⟩
    rw [r_165_38 hr, r_165_50 hr, v4, est, wr_id (x := stE gp b m on) ⟨by omega, by omega⟩, tmo, w40]
    refine ⟨i93, i93, fun g5 x5 => ⟨k9, by decide, i30 0 (by decide) (by decide), fun g6 x6 => ⟨k9, k9, ?_⟩⟩⟩
    have a6 : ∀ i j, i ≠ 203 → ¬ (i = 193 ∧ j = 6 * s + m) → ¬ (i = 205 ∧ j = m) → g6 i j = g i j := fun i j x y z => by rw [x6, up_i x, x5, up_o y, x4, up_o y, x3, up_o z]
    have k6 : EQK gp g6 := fun i j z => (a6 i j (by omega) (by omega) (by omega)).trans (hk i j z)
    have v6 : g6 193 (6 * s + m) = stE gp b m on := by rw [x6, up_i (by decide), x5, up_s]
    refine f_198 (d := d + 5) (b := up b 6 m (stE gp b m on)) hr k6 s0 s4 m6 (fun _ => by omega) (fun _ => by rw [up_s]; omega) (fun _ => by rw [up_s]; exact v6) ?_
    have elv : lvE gp (up b 6 m (stE gp b m on)) m = stE gp b m on * 100 / gp 175 m := by
      unfold lvE
      rw [if_neg (by omega), up_s]
    rw [elv, r_165_50 hr, r_165_37 hr, wr_id (x := 40 * s + b 0 0 / 24) ⟨by omega, by omega⟩]
    refine ⟨i30 1 (by decide) (by decide), fun g7 x7 => ⟨k9, k9, i_192.mpr ⟨by omega, by omega⟩, i30 2 (by decide) (by decide), fun g8 x8 => ⟨k9, i30 3 (by decide) (by decide), fun g9 x9 => ⟨k9, i30 4 (by decide) (by decide), fun g10 x10 => ⟨by decide, k9, ?_⟩⟩⟩⟩⟩
    have e92 : g7 192 (40 * s + b 0 0 / 24) = b 4 (b 0 0 / 24) := by rw [x7, up_i (by decide)]; exact (a6 192 _ (by decide) (by omega) (by omega)).trans (mb.2.1 _ (by omega) (by omega)).1
    rw [e92] at x8
    have a10 : ∀ i j, i ≠ 203 → ¬ (i = 193 ∧ j = 6 * s + m) → ¬ (i = 205 ∧ j = m) → g10 i j = g i j := fun i j x y z => by rw [x10, up_i x, x9, up_i x, x8, up_i x, x7, up_i x]; exact a6 i j x y z
    have k10 : EQK gp g10 := fun i j z => (a10 i j (by omega) (by omega) (by omega)).trans (hk i j z)
    have v10 : g10 193 (6 * s + m) = stE gp b m on := by rw [x10, up_i (by decide), x9, up_i (by decide), x8, up_i (by decide), x7, up_i (by decide)]; exact v6
    have u10 : g10 205 m = on := by rw [x10, up_i (by decide), x9, up_i (by decide), x8, up_i (by decide), x7, up_i (by decide), x6, up_i (by decide), x5, up_i (by decide), x4, up_i (by decide), x3, up_s]
    refine f_203 (d := d + 3) (mm := mm) (b := b) (on := on) (Pl := Pl) hr hp k10 t hx hb rfl (fun w w0 w4 => ?_) (pl.e (fun j => a10 165 j (by decide) (by omega) (by omega))) (fun g11 f11 v206 => ⟨k9, ?_⟩)
    · have : w = 0 ∨ w = 1 ∨ w = 2 ∨ w = 3 ∨ w = 4 := by omega
      rcases this with rfl | rfl | rfl | rfl | rfl
      · rw [x10, up_j (by decide), x9, up_j (by decide), x8, up_j (by decide), x7, up_j (by decide), x6, up_s]; rfl
      · rw [x10, up_j (by decide), x9, up_j (by decide), x8, up_j (by decide), x7, up_s]; rfl
      · rw [x10, up_j (by decide), x9, up_j (by decide), x8, up_s]; rfl
      · rw [x10, up_j (by decide), x9, up_s]; rfl
      · rw [x10, up_s]; rfl
    have v11 : g11 193 (6 * s + m) = stE gp b m on := (f11 193 _ (by decide) (by omega)).trans v10
    rw [r_165_38 hr, v11]
    have k11 : EQK gp g11 := fun i j z => (f11 i j (by omega) (by omega)).trans (k10 i j z)
    have fa : FMa s m g g11 := fun i j x y z w => (f11 i j z (by omega)).trans (a10 i j y x (by omega))
    have u11 : g11 205 m = on := (f11 205 m (by decide) (by omega)).trans u10
    have fin : ∀ th, th = thH gp mm Pl b m on → WQ sc (d + 6) 204 Q 189 [(2, 165), (9, 0), (0, m), (9, 0), (9, 0), (0, 6 * s + m), (9, 0), (0, nxE gp m), (0, lvE gp b (nxE gp m)), (0, ov), (9, 0), (9, 0), (9, 0), (9, 0)] [(0, th)] g11 r := fun th et => by
      subst et
      subst eo
      refine f_204b (g := g) (wd := wdE gp b m) (st := stE gp b m on) hr t s0 s4 wb k11 fa v11 B.2.2.2.1.1 B.2.2.2.1.2 (by omega) B.1.1 (by omega) U.1 U.2 n1.1 n1.2 eun rfl (fun g' fl y93 y99 y95 y96 y05 y06 y07 => hq g' fl ?_ (y05.trans u11) (y06.trans v206) y07)
      obtain ⟨⟨q1, q2, q3⟩, q4, q5⟩ := mb
      have q5m := q5 m m0 m6
      refine ⟨⟨?_, ?_, ?_⟩, fun j j0 j1 => ?_, fun j j0 j1 => ?_⟩
      · rw [ml_c (by omega), fl 197 _ (by omega) (by decide) (by decide) (by omega)]; exact q1
      · rw [ml_c (by omega), fl 200 _ (by omega) (by decide) (by decide) (by omega)]; exact q2
      · rw [ml_c (by omega), fl 201 _ (by omega) (by decide) (by decide) (by omega)]; exact q3
      · rw [ml_c (by omega), ml_c (by omega), fl 192 _ (by omega) (by decide) (by decide) (by omega), fl 198 _ (by omega) (by decide) (by decide) (by omega)]; exact q4 j j0 j1
      · by_cases z : j = m
        · subst z
          have y94 : g' 194 (6 * s + j) = b 7 j := (fl 194 _ (by omega) (by decide) (by decide) (by omega)).trans q5m.2.1
          refine ⟨y93.trans mlU_6.symm, y94.trans (ml_c (by omega)).symm, ?_, ?_, ?_⟩
          · rw [y99, q5m.2.2.1]; exact mlU_8.symm
          · rw [y95, q5m.2.2.2.1]; exact mlU_9.symm
          · rw [y96, q5m.2.2.2.2]; exact mlU_10.symm
        · rw [ml_c (by omega), ml_c (by omega), ml_c (by omega), ml_c (by omega), ml_c (by omega), fl 193 _ (by omega) (by decide) (by decide) (by omega), fl 194 _ (by omega) (by decide) (by decide) (by omega), fl 199 _ (by omega) (by decide) (by decide) (by omega), fl 195 _ (by omega) (by decide) (by decide) (by omega), fl 196 _ (by omega) (by decide) (by decide) (by omega)]
          exact q5 j j0 j1
    refine ⟨i93, ite_c (fun z => fin _ ?_) (fun z => ⟨k9, i93, fin _ ?_⟩)⟩
    · unfold thH
      rw [if_pos z]
    · unfold thH
      rw [if_neg z]
  unfold ovE at rest
  refine ite_c (fun z => ⟨k9, i93, k9, i75, rest _ ?_⟩) (fun z => rest _ ?_)
  · rw [if_pos z]
  · rw [if_neg z]
end MHR
