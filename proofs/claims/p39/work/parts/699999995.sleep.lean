/-! sleep and comes: a day tried, both sides -/
def slE (gp : GH) (mm : Int → GH) (k a : Int) : Nat → Int → GH → Int → Int → Int → Int → Int
  | 0, _, _, _, _, best, bst => if a = 0 then best else bst
  | n + 1, h, b, last, run, best, bst => slE gp mm k a n (h + 1) (hrE gp mm P0 b) (hrE gp mm P0 b 12 k) (if hrE gp mm P0 b 12 k = last then run + 1 else 1) (if best < (if hrE gp mm P0 b 12 k = last then run + 1 else 1) then (if hrE gp mm P0 b 12 k = last then run + 1 else 1) else best) (if best < (if hrE gp mm P0 b 12 k = last then run + 1 else 1) then h - (if hrE gp mm P0 b 12 k = last then run + 1 else 1) + 1 else bst)
def coN (gp : GH) (mm : Int → GH) (k : Int) : Nat → Int → GH → Int
  | 0, _, _ => -1
  | n + 1, h, b => if 0 < hrE gp mm P0 b 11 k then h else coN gp mm k n (h + 1) (hrE gp mm P0 b)
section SL6
variable {sc : SCR} {d : Nat} {Q : QJ} {g r b gp : GH} {mm : Int → GH} {l0 l1 l2 l3 l4 l5 x s p a n m v w k : Int}
theorem slE_0 {h last run best bst : Int} : slE gp mm l1 l2 0 h b last run best bst = if l2 = 0 then best else bst := rfl
theorem slE_s {n : Nat} {h last run best bst : Int} : slE gp mm l1 l2 (n + 1) h b last run best bst = slE gp mm l1 l2 n (h + 1) (hrE gp mm P0 b) (hrE gp mm P0 b 12 l1) (if hrE gp mm P0 b 12 l1 = last then run + 1 else 1) (if best < (if hrE gp mm P0 b 12 l1 = last then run + 1 else 1) then (if hrE gp mm P0 b 12 l1 = last then run + 1 else 1) else best) (if best < (if hrE gp mm P0 b 12 l1 = last then run + 1 else 1) then h - (if hrE gp mm P0 b 12 l1 = last then run + 1 else 1) + 1 else bst) := rfl
theorem coN_s {n : Nat} {h : Int} : coN gp mm l1 (n + 1) h b = if 0 < hrE gp mm P0 b 11 l1 then h else coN gp mm l1 n (h + 1) (hrE gp mm P0 b) := rfl
theorem tol_pos (t : TM g k) : 1 ≤ tolP g 6 := by
  have h : ∀ n : Nat, k < n → 1 ≤ tolP g n := fun n => by
    induction n with
    | zero => intro z; exact absurd z (by have := t.1; omega)
    | succ n ih =>
      intro z
      have b := (tolP_b g n).1
      show 1 ≤ tolP g n + (if g 167 n = 0 then 0 else 1)
      by_cases e : k = n
      · rw [if_neg (by rw [← e]; exact t.2.2)]; omega
      · have := ih (by omega)
        split <;> omega
  exact h 6 t.2.1
theorem f_128 (hr : RI r) (cb : CBR 23 g b) (hb : HB b) (h1 : b 0 0 ≤ 936 → Q 1 g r) (h0 : 936 < b 0 0 → Q 0 g r) : Ce sc (d + 1) 128 [(2, 0)] g r Q := by
  have k0 : okr 218 0 8 := okd (by decide +kernel)
  have k23 : okr 218 23 0 := okd (by decide +kernel)
  have h9 := hb.1
  refine c_128 ?_
  rw [r_0_4 hr, cb.1.1, wr_id (x := b 0 0 + 24) ⟨by omega, by omega⟩]
  exact ⟨k0, k23, ite_c (fun z => ⟨Or.inl rfl, h0 (by omega)⟩) (fun z => ⟨Or.inr rfl, h1 (by omega)⟩)⟩
theorem f_211 (hr : RI r) (t : 1 ≤ tolP g 6) (mb : MBR 0 g b) (hb : HB b) (h1 : b 0 0 ≤ 936 → Q 1 g r) (h0 : 936 < b 0 0 → Q 0 g r) : Ce sc (d + 2) 211 [(2, 165)] g r Q := by
  have k9 : okr 218 165 9 := okd (by decide +kernel)
  have h9 := hb.1
  refine c_211 ⟨k9, s_206 hr (ite_c (fun _ => ?_) (fun z => absurd (by omega) z))⟩
  rw [r_165_42 hr, mb.1.1, wr_id (x := b 0 0 + 24) ⟨by omega, by omega⟩]
  exact ⟨k9, i_197.mpr ⟨by decide, by decide⟩, ite_c (fun z => ⟨Or.inl rfl, h0 (by omega)⟩) (fun z => ⟨Or.inr rfl, h1 (by omega)⟩)⟩
/-- the trial brook takes what is now -/
theorem f_1t (hr : RI r) (hc : COK gp mm r g) (cb : CBR 23 g b) (ru : RUL g) (hq : ∀ g', COK gp mm r g' → CBR 34 g' b → RUL g' → (∀ i j, ¬ (34 ≤ i ∧ i ≤ 41) → g' i j = g i j) → Q 0 g' r) : Ce sc (d + 1) 1 [(2, 34), (2, 23)] g r Q := by
  refine f_1 hr (Or.inr (Or.inl rfl)) (Or.inl rfl) (by decide) (fun g' fr _ cc => hq g' ?_ (cc b cb) (fun j j0 j1 => by rw [fr 47 j (by omega)]; exact ru j j0 j1) (fun i j z => fr i j (by omega)))
  exact hc.eb hr (EB.e4 hr (EB.rf hc.1) (fun i hi j => fr i j (fun z => bx_nf4 (Or.inr rfl) z.1 (by omega) hi)))
theorem f_115l (hr : RI r) (hp : PO gp mm) (hx : MXA gp mm) (t : TM gp l1) : ∀ (n : Nat) (h last run best bst : Int) (g b : GH), 0 ≤ h → h + n = 24 → 0 ≤ run → run ≤ h → COK gp mm r g → HB b → b 0 0 + n ≤ 960 → CBR 34 g b → RUL g → (∀ g', Q (slE gp mm l1 l2 n h b last run best bst) g' r) → WQ sc (d + 9) 115 Q 51 [(2, 0), (0, l1), (0, l2), (0, last), (0, h - run), (0, best), (0, bst), (0, h)] [] g r := by
  have k0 : okr 218 0 8 := okd (by decide +kernel)
  have k34 : okr 218 34 0 := okd (by decide +kernel)
  intro n
  induction n with
  | zero =>
    intro h last run best bst g b h0 e r0 rh hc hb h9 cb ru hq
    have hq' := hq g
    rw [slE_0] at hq'
    refine b_115_51 (ite_c (fun z => absurd z (by omega)) (fun _ => ite_c (fun z => ?_) (fun z => ?_)))
    · rw [if_pos z] at hq'; exact hq'
    · rw [if_neg z] at hq'; exact hq'
  | succ n ih =>
    intro h last run best bst g b h0 e r0 rh hc hb h9 cb ru hq
    refine b_115_51 (ite_c (fun _ => ⟨k0, k0, k0, ?_⟩) (fun z => absurd (by omega) z))
    rw [r_0_5 hr, r_0_1 hr, r_0_8 hr]
    have q := hr_b hp plo_0 hb (by omega)
    refine ⟨k34, f_5 (mm := mm) (Pl := P0) (b := b) (gp := gp) hr (Or.inr rfl) hp plo_0 hx (px2_46 hr) hc hb (by omega) cb (plc_0 ru) (fun g1 f1 e1 c1 ro => ?_)⟩
    have v1 : g1 43 l1 = hrE gp mm P0 b 12 l1 := (ro l1 t.1 t.2.1 t.2.2).2
    have i43 := i_43.mpr ⟨t.1, t.2.1⟩
    have ru1 : RUL g1 := fun j j0 j1 => by rw [f1 47 j (by omega) (by unfold BO; omega) (by unfold AK; omega)]; exact ru j j0 j1
    have nx := fun last run best bst a c => ih (h + 1) last run best bst g1 (hrE gp mm P0 b) (by omega) (by omega) a c (hc.eb hr e1) q.1 (by rw [q.2.1]; omega) c1 ru1
    rw [slE_s] at hq
    rw [r_0_5 hr, r_34_12 hr, v1]
    have hw : wr (h + 1) = h + 1 := wr_id ⟨by omega, by omega⟩
    refine ⟨k0, k34, i43, ite_c (fun z => ?_) (fun z => ⟨k0, k34, i43, ?_⟩)⟩
    · rw [if_pos z] at hq
      have e1 : wr (wr (h - (h - run)) + 1) = run + 1 := by rw [show h - (h - run) = run by omega, wr_id (x := run) ⟨by omega, by omega⟩, wr_id (x := run + 1) ⟨by omega, by omega⟩]
      refine b_115_100 ?_
      rw [e1, hw]
      refine ite_c (fun y => ?_) (fun y => ?_)
      · rw [if_pos y, if_pos y] at hq
        have k := nx (hrE gp mm P0 b 12 l1) (run + 1) (run + 1) (h - (run + 1) + 1) (by omega) (by omega) hq
        rw [show h + 1 - (run + 1) = h - run by omega, show h - (run + 1) + 1 = h - run by omega, z] at k
        exact k
      · rw [if_neg y, if_neg y] at hq
        have k := nx (hrE gp mm P0 b 12 l1) (run + 1) best bst (by omega) (by omega) hq
        rw [show h + 1 - (run + 1) = h - run by omega, z] at k
        exact k
    · rw [if_neg z] at hq
      have e1 : wr (wr (h - h) + 1) = 1 := by rw [show h - h = 0 by omega]; decide
      refine b_115_100 ?_
      rw [e1, hw]
      refine ite_c (fun y => ?_) (fun y => ?_)
      · rw [if_pos y, if_pos y] at hq
        have k := nx (hrE gp mm P0 b 12 l1) 1 1 (h - 1 + 1) (by omega) (by omega) hq
        rw [show h + 1 - 1 = h by omega, show h - 1 + 1 = h by omega] at k
        exact k
      · rw [if_neg y, if_neg y] at hq
        have k := nx (hrE gp mm P0 b 12 l1) 1 best bst (by omega) (by omega) hq
        rw [show h + 1 - 1 = h by omega] at k
        exact k
theorem f_116l (hr : RI r) (hp : PO gp mm) (hx : MXA gp mm) (t : TM gp l1) : ∀ (n : Nat) (h : Int) (g b : GH), 0 ≤ h → h + n = 24 → COK gp mm r g → HB b → b 0 0 + n ≤ 960 → CBR 34 g b → RUL g → (∀ g', Q (coN gp mm l1 n h b) g' r) → WQ sc (d + 9) 116 Q 30 [(2, 0), (0, l1), (0, h)] [] g r := by
  have k0 : okr 218 0 8 := okd (by decide +kernel)
  have k34 : okr 218 34 0 := okd (by decide +kernel)
  intro n
  induction n with
  | zero =>
    intro h g b h0 e hc hb h9 cb ru hq
    exact b_116_30 (ite_c (fun z => absurd z (by omega)) (fun _ => hq g))
  | succ n ih =>
    intro h g b h0 e hc hb h9 cb ru hq
    refine b_116_30 (ite_c (fun _ => ⟨k0, k0, k0, ?_⟩) (fun z => absurd (by omega) z))
    rw [r_0_5 hr, r_0_1 hr, r_0_8 hr]
    have q := hr_b hp plo_0 hb (by omega)
    refine ⟨k34, f_5 (mm := mm) (Pl := P0) (b := b) (gp := gp) hr (Or.inr rfl) hp plo_0 hx (px2_46 hr) hc hb (by omega) cb (plc_0 ru) (fun g1 f1 e1 c1 ro => ?_)⟩
    have v1 : g1 42 l1 = hrE gp mm P0 b 11 l1 := (ro l1 t.1 t.2.1 t.2.2).1
    have ru1 : RUL g1 := fun j j0 j1 => by rw [f1 47 j (by omega) (by unfold BO; omega) (by unfold AK; omega)]; exact ru j j0 j1
    rw [coN_s] at hq
    rw [r_0_5 hr, r_34_11 hr, v1, wr_id (x := h + 1) ⟨by omega, by omega⟩]
    refine ⟨k0, k34, i_42.mpr ⟨t.1, t.2.1⟩, ite_c (fun z => ?_) (fun z => ?_)⟩
    · rw [if_pos z] at hq; exact hq g1
    · rw [if_neg z] at hq
      exact ih (h + 1) g1 (hrE gp mm P0 b) (by omega) (by omega) (hc.eb hr e1) q.1 (by rw [q.2.1]; omega) c1 ru1 hq
theorem f_238l (hr : RI r) (hp : PO gp mm) (hx : MXA gp mm) (t : TM gp l1) : ∀ (n : Nat) (h last run best bst : Int) (g b : GH), 0 ≤ h → h + n = 24 → 0 ≤ run → run ≤ h → EQK gp g → HB b → b 0 0 + n ≤ 960 → MBR 4 g b → g 165 52 = 0 → g 165 56 = -1 → (∀ g', Q (slE gp mm l1 l2 n h b last run best bst) g' r) → WQ sc (d + 9) 238 Q 51 [(2, 165), (0, l1), (0, l2), (0, best), (0, bst), (0, run), (0, last), (0, h)] [] g r := by
  have k9 : okr 218 165 9 := okd (by decide +kernel)
  intro n
  induction n with
  | zero =>
    intro h last run best bst g b h0 e r0 rh hk hb h9 mb h52 h56 hq
    have hq' := hq g
    rw [slE_0] at hq'
    refine b_238_51 (ite_c (fun z => absurd z (by omega)) (fun _ => ite_c (fun z => ?_) (fun z => ?_)))
    · rw [if_pos z] at hq'; exact hq'
    · rw [if_neg z] at hq'; exact hq'
  | succ n ih =>
    intro h last run best bst g b h0 e r0 rh hk hb h9 mb h52 h56 hq
    refine b_238_51 (ite_c (fun _ => ⟨k9, ?_⟩) (fun z => absurd (by omega) z))
    have q := hr_b hp plo_0 hb (by omega)
    refine f_205 (mm := mm) (Pl := P0) (b := b) (gp := gp) hr hp plo_0 hx (by decide) (by decide) hk hb (by omega) mb (plm_0 h52 h56) (fun g1 f1 m1 ro => ?_)
    have v1 : g1 206 l1 = hrE gp mm P0 b 12 l1 := (ro l1 t.1 t.2.1 t.2.2).2.2 rfl
    have t6 := t.2.1
    have i6 := i_206.mpr (⟨t.1, by omega⟩ : 0 ≤ l1 ∧ l1 < _)
    have a52 : g1 165 52 = 0 := (f1 165 52 (by omega) (by omega) (by omega)).trans h52
    have a56 : g1 165 56 = -1 := (f1 165 56 (by omega) (by omega) (by omega)).trans h56
    have nx := fun last run best bst a c => ih (h + 1) last run best bst g1 (hrE gp mm P0 b) (by omega) (by omega) a c (hk.fh f1) q.1 (by rw [q.2.1]; omega) m1 a52 a56
    rw [slE_s] at hq
    have hw : wr (h + 1) = h + 1 := wr_id ⟨by omega, by omega⟩
    have last1 : ∀ t0, 1 ≤ t0 → t0 ≤ h + 1 → (∀ g', Q (slE gp mm l1 l2 n (h + 1) (hrE gp mm P0 b) (hrE gp mm P0 b 12 l1) t0 (if best < t0 then t0 else best) (if best < t0 then h - t0 + 1 else bst)) g' r) → WQ sc (d + 9) 238 Q 82 [(2, 165), (0, l1), (0, l2), (0, best), (0, bst), (9, 0), (9, 0), (0, h)] [(0, t0)] g1 r := fun t0 t1 th hq => by
      refine b_238_82 ⟨k9, ?_⟩
      rw [r_165_58 hr, v1, hw, wr_id (x := h - t0) ⟨by omega, by omega⟩, wr_id (x := h - t0 + 1) ⟨by omega, by omega⟩]
      refine ⟨i6, ite_c (fun y => ?_) (fun y => ?_)⟩
      · rw [if_pos y, if_pos y] at hq
        exact nx _ _ _ _ (by omega) (by omega) hq
      · rw [if_neg y, if_neg y] at hq
        exact nx _ _ _ _ (by omega) (by omega) hq
    rw [r_165_58 hr, v1, wr_id (x := run + 1) ⟨by omega, by omega⟩]
    refine ⟨k9, i6, ite_c (fun z => ?_) (fun z => ?_)⟩
    · rw [if_pos z] at hq
      exact last1 _ (by omega) (by omega) hq
    · rw [if_neg z] at hq
      exact last1 _ (by omega) (by omega) hq
theorem f_239l (hr : RI r) (hp : PO gp mm) (hx : MXA gp mm) (t : TM gp l1) : ∀ (n : Nat) (h : Int) (g b : GH), 0 ≤ h → h + n = 24 → EQK gp g → HB b → b 0 0 + n ≤ 960 → MBR 4 g b → g 165 52 = 0 → g 165 56 = -1 → (∀ g', Q (coN gp mm l1 n h b) g' r) → WQ sc (d + 9) 239 Q 29 [(2, 165), (0, l1), (0, h)] [] g r := by
  have k9 : okr 218 165 9 := okd (by decide +kernel)
  intro n
  induction n with
  | zero =>
    intro h g b h0 e hk hb h9 mb h52 h56 hq
    exact b_239_29 (ite_c (fun z => absurd z (by omega)) (fun _ => hq g))
  | succ n ih =>
    intro h g b h0 e hk hb h9 mb h52 h56 hq
    refine b_239_29 (ite_c (fun _ => ⟨k9, ?_⟩) (fun z => absurd (by omega) z))
    have q := hr_b hp plo_0 hb (by omega)
    refine f_205 (mm := mm) (Pl := P0) (b := b) (gp := gp) hr hp plo_0 hx (by decide) (by decide) hk hb (by omega) mb (plm_0 h52 h56) (fun g1 f1 m1 ro => ?_)
    have v1 : g1 205 l1 = hrE gp mm P0 b 11 l1 := (ro l1 t.1 t.2.1 t.2.2).1
    have t6 := t.2.1
    rw [coN_s] at hq
    rw [r_165_57 hr, v1, wr_id (x := h + 1) ⟨by omega, by omega⟩]
    refine ⟨k9, i_205.mpr ⟨t.1, by omega⟩, ite_c (fun z => ?_) (fun z => ?_)⟩
    · rw [if_pos z] at hq; exact hq g1
    · rw [if_neg z] at hq
      exact ih (h + 1) g1 (hrE gp mm P0 b) (by omega) (by omega) (hk.fh f1) q.1 (by rw [q.2.1]; omega) m1 ((f1 165 52 (by omega) (by omega) (by omega)).trans h52) ((f1 165 56 (by omega) (by omega) (by omega)).trans h56) hq
/-- a pair that asks, by the value that both give -/
theorem pv {ka kb D E : Nat} {as bs : List AV} (hJ : J6 g r) (W : Int) (v : Ce sc D ka as g r (fun _ g1 r1 => r1 = r ∧ EB r (TM g) (MWh g) g g1)) (t : Ce sc D ka as g r (fun _ g1 r1 => r1 = r ∧ EQF FN g g1)) (cv : Ce sc D ka as g r (fun v1 _ _ => v1 = W)) (mv : ∀ g1, (∀ i j, 165 ≤ i → g1 i j = g i j) → Ce sc E kb bs g1 r (fun v2 _ _ => v2 = W)) (mz : ∀ g1, MI g1 → Ce sc E kb bs g1 r (fun _ g2 r2 => r2 = r ∧ MFZ g1 g2)) : Ce sc D ka as g r (fun v1 g1 r1 => Ce sc E kb bs g1 r1 fun v2 g2 r2 => v1 = v2 ∧ J6 g2 r2) := by
  refine Ce_mono (Ce_and (Ce_and v t) cv) (fun v1 g1 r1 w => ?_)
  obtain ⟨⟨⟨er, eb⟩, _, ef⟩, ev⟩ := w
  have er' := er.symm
  subst er'
  have j1 : J6 g1 r := hJ.z (hJ.1.eb eb) ef.z6
  refine Ce_mono (Ce_and (mv g1 (fun i j h => ef i (hi_fn h) j)) (mz g1 j1.1.1.1.1.1.2.2.2.1)) (fun v2 g2 r2 u => ?_)
  obtain ⟨ev2, er2, mf⟩ := u
  subst er2
  exact ⟨ev.trans ev2.symm, j1.mf mf⟩
/-- the trial of the reference takes what is now -/
theorem f_192t (hr : RI r) (hi : MI g) (mb : MBR 0 g b) (hk : EQK gp g) (hq : ∀ g', EQK gp g' → MBR 4 g' b → g' 165 52 = 0 → g' 165 56 = -1 → (∀ i j, i = 165 → j ≠ 52 → j ≠ 56 → g' i j = g i j) → Q 0 g' r) : Ce sc (d + 1) 192 [(2, 165), (0, 0), (0, 4)] g r (fun _ g1 r1 => okr 218 165 9 ∧ Ce sc (d + 1) 201 [(2, 165)] g1 r1 Q) := by
  have k9 : okr 218 165 9 := okd (by decide +kernel)
  refine f_192 (d := d) hr (by decide) (by decide) (by decide) (by decide) (by decide) hi.2.1.2.1 (fun g1 fc mc => ⟨k9, f_201 (d := d) (fun g2 a52 a56 fr => hq g2 (fun i j z => ?_) ((mc b mb).fr (fun i j hh => fr i j (by omega))) a52 a56 (fun i j z z2 z3 => ?_))⟩)
  · rw [fr i j (by omega), fc i j (by omega) (by omega) (by omega)]; exact hk i j z
  · rw [fr i j (by omega), fc i j (by omega) (by omega) (by omega)]
theorem uu_115 (hJ : J6 g r) {A1 A2 : Int} (D : Nat) : Ce sc (D + 10) 115 [(2, 0), (0, A1), (0, A2)] g r (fun v1 g1 r1 => Ce sc (D + 10) 238 [(2, 165), (0, A1), (0, A2)] g1 r1 fun v2 g2 r2 => v1 = v2 ∧ J6 g2 r2) := by
  have hr := hJ.1.1.1.1.1.1
  have k0 : okr 218 0 8 := okd (by decide +kernel)
  have k9 : okr 218 165 9 := okd (by decide +kernel)
  have k34 : okr 218 34 0 := okd (by decide +kernel)
  obtain ⟨mm, hp, hx, hc⟩ := par hJ.1
  obtain ⟨b, hb, cb, mb, zz⟩ := hJ.2.1
  have td := td_tm hJ.1.1.1 A1
  have inst : Decidable (TM g A1) := by unfold TM; infer_instance
  refine pv hJ (if TM g A1 ∧ (0 ≤ A2 ∧ A2 ≤ 1) ∧ b 0 0 ≤ 936 then slE g mm A1 A2 24 0 b (-1) 0 0 0 else -1) (v_115 (d := D + 2) hr hJ.1.2 (fun _ _ e => ⟨rfl, e⟩)) (t_115 (d := D + 2) hr sqn (fun _ _ e => ⟨rfl, e⟩)) ?_ (fun g1 hi1 => ?_) (fun g1 mi => y_238 (d := D + 1) hr mi (fun _ _ e => ⟨rfl, e⟩))
  · refine c_115 ⟨k0, w_129 hr (fun t => ?_) (fun t => ?_)⟩
    · have tm := td.mp t
      rw [if_neg (mo_ne (hr.2.1 A1 t.1 t.2.1))]
      refine w_123 (fun q1 q2 => ?_) (fun q => ?_)
      · rw [if_neg (by decide)]
        refine ⟨k0, f_128 (d := D + 8) hr cb hb (fun y => ?_) (fun y => ?_)⟩
        · rw [if_neg (by decide), r_0_5 hr, r_0_4 hr]
          refine ⟨k0, k0, k34, f_1t (d := D + 8) hr hc cb hJ.2.2.2 (fun g2 hc2 cb2 ru2 _ => ?_)⟩
          exact f_115l (d := D) hr hp hx tm 24 0 (-1) 0 0 0 g2 b (by decide) (by decide) (by decide) (by decide) hc2 hb (by omega) cb2 ru2 (fun _ => by rw [if_pos ⟨tm, ⟨q1, q2⟩, y⟩])
        · rw [if_pos rfl, if_neg (fun z => by omega)]
      · rw [if_pos rfl, if_neg (fun z => q z.2.1)]
    · rw [if_pos rfl, if_neg (fun z => t (td.mpr z.1))]
  · have mb1 : MBR 0 g1 b := mb.fr (fun i j hi => hi1 i j (by omega))
    have e7 : ∀ k, g1 167 k = g 167 k := fun k => hi1 167 k (by decide)
    have mi1 : MI g1 := hJ.1.1.1.1.1.2.2.2.1.hi hi1
    refine c_238 ⟨k9, w_140 hr (fun t => ?_) (fun t => ?_)⟩
    · have tm : TM g A1 := ⟨t.1, t.2.1, by rw [← e7]; exact t.2.2⟩
      rw [if_neg (by decide)]
      refine ⟨k9, f_211 (d := D + 7) hr (tol_pos t) mb1 hb (fun y => ?_) (fun y => ?_)⟩
      · rw [if_neg (by decide)]
        refine w_137 (fun q1 q2 => ?_) (fun q => ?_)
        · rw [if_neg (by decide)]
          refine ⟨k9, f_192t (d := D + 8) (gp := g) (b := b) hr mi1 mb1 (eqk_hi hi1) (fun g2 hk2 mb2 a52 a56 _ => ?_)⟩
          exact f_238l (d := D) hr hp hx tm 24 0 (-1) 0 0 0 g2 b (by decide) (by decide) (by decide) (by decide) hk2 hb (by omega) mb2 a52 a56 (fun _ => by rw [if_pos ⟨tm, ⟨q1, q2⟩, y⟩])
        · rw [if_pos rfl, if_neg (fun z => q z.2.1)]
      · rw [if_pos rfl, if_neg (fun z => by omega)]
    · rw [if_pos rfl, if_neg (fun z => t ⟨z.1.1, z.1.2.1, by rw [e7]; exact z.1.2.2⟩)]
theorem uu_116 (hJ : J6 g r) {A1 : Int} (D : Nat) : Ce sc (D + 10) 116 [(2, 0), (0, A1)] g r (fun v1 g1 r1 => Ce sc (D + 10) 239 [(2, 165), (0, A1)] g1 r1 fun v2 g2 r2 => v1 = v2 ∧ J6 g2 r2) := by
  have hr := hJ.1.1.1.1.1.1
  have k0 : okr 218 0 8 := okd (by decide +kernel)
  have k9 : okr 218 165 9 := okd (by decide +kernel)
  have k34 : okr 218 34 0 := okd (by decide +kernel)
  obtain ⟨mm, hp, hx, hc⟩ := par hJ.1
  obtain ⟨b, hb, cb, mb, zz⟩ := hJ.2.1
  have td := td_tm hJ.1.1.1 A1
  have inst : Decidable (TM g A1) := by unfold TM; infer_instance
  refine pv hJ (if TM g A1 ∧ b 0 0 ≤ 936 then coN g mm A1 24 0 b else -1) (v_116 (d := D + 2) hr hJ.1.2 (fun _ _ e => ⟨rfl, e⟩)) (t_116 (d := D + 2) hr sqn (fun _ _ e => ⟨rfl, e⟩)) ?_ (fun g1 hi1 => ?_) (fun g1 mi => y_239 (d := D + 1) hr mi (fun _ _ e => ⟨rfl, e⟩))
  · refine c_116 ⟨k0, w_129 hr (fun t => ?_) (fun t => ?_)⟩
    · have tm := td.mp t
      rw [if_neg (mo_ne (hr.2.1 A1 t.1 t.2.1))]
      refine ⟨k0, f_128 (d := D + 8) hr cb hb (fun y => ?_) (fun y => ?_)⟩
      · rw [if_neg (by decide), r_0_5 hr, r_0_4 hr]
        refine ⟨k0, k0, k34, f_1t (d := D + 8) hr hc cb hJ.2.2.2 (fun g2 hc2 cb2 ru2 _ => ?_)⟩
        exact f_116l (d := D) hr hp hx tm 24 0 g2 b (by decide) (by decide) hc2 hb (by omega) cb2 ru2 (fun _ => by rw [if_pos ⟨tm, y⟩])
      · rw [if_pos rfl, if_neg (fun z => by omega)]
    · rw [if_pos rfl, if_neg (fun z => t (td.mpr z.1))]
  · have mb1 : MBR 0 g1 b := mb.fr (fun i j hi => hi1 i j (by omega))
    have e7 : ∀ k, g1 167 k = g 167 k := fun k => hi1 167 k (by decide)
    have mi1 : MI g1 := hJ.1.1.1.1.1.2.2.2.1.hi hi1
    refine c_239 ⟨k9, w_140 hr (fun t => ?_) (fun t => ?_)⟩
    · have tm : TM g A1 := ⟨t.1, t.2.1, by rw [← e7]; exact t.2.2⟩
      rw [if_neg (by decide)]
      refine ⟨k9, f_211 (d := D + 7) hr (tol_pos t) mb1 hb (fun y => ?_) (fun y => ?_)⟩
      · rw [if_neg (by decide)]
        refine ⟨k9, f_192t (d := D + 8) (gp := g) (b := b) hr mi1 mb1 (eqk_hi hi1) (fun g2 hk2 mb2 a52 a56 _ => ?_)⟩
        exact f_239l (d := D) hr hp hx tm 24 0 g2 b (by decide) (by decide) hk2 hb (by omega) mb2 a52 a56 (fun _ => by rw [if_pos ⟨tm, y⟩])
      · rw [if_pos rfl, if_neg (fun z => by omega)]
    · rw [if_pos rfl, if_neg (fun z => t ⟨z.1.1, z.1.2.1, by rw [e7]; exact z.1.2.2⟩)]
end SL6
