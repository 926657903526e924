/-! shift, rests, all: both sides -/
def okS (gp b : GH) (l1 l2 : Int) : Prop := ((1 ≤ l1 ∧ l1 ≤ 12) ∧ 0 ≤ l2 ∧ l2 ≤ 999) ∧ 0 < tolP gp 6 ∧ b 0 0 ≤ 936
section SHP6
variable {sc : SCR} {d : Nat} {Q : QJ} {g r b gp : GH} {mm : Int → GH} {Z : Int → Int → Int} {l0 l1 l2 l3 l4 l5 x s p a n m v w k t len opn on cnt lim : Int}
theorem cn_pop (t : Int) : cnE t ≤ popm t 6 ∧ cnE t ≤ 3 ∧ (0 < popm t 6 → 0 < cnE t) := by
  unfold cnE
  split <;> exact ⟨by omega, by omega, fun _ => by omega⟩
theorem f_90 (hr : RI r) (hc : COK gp mm r g) (cb : CBR 23 g b) (hB : HB b) (h1 : okS gp b l1 l2 → Q 1 g r) (h0 : ¬ okS gp b l1 l2 → Q 0 g r) : Ce sc (d + 5) 90 [(2, 0), (0, l1), (0, l2)] g r Q := by
  have k0 : okr 218 0 8 := okd (by decide +kernel)
  have cp := cn_pop (tbE gp)
  have tp := tol_pop gp
  refine c_90 (w_123 (fun a c => ?_) (fun q => ?_))
  · rw [if_neg (by decide)]
    refine w_123 (fun e f => ?_) (fun q => ?_)
    · rw [if_neg (by decide)]
      refine ⟨k0, f_91 (d := d) hr hc (ite_c (fun z => ⟨k0, f_128 (d := d + 3) hr cb hB (fun y => ?_) (fun y => ?_)⟩) (fun z => ?_))⟩
      · rw [if_neg (by decide)]; exact ⟨Or.inr rfl, h1 ⟨⟨⟨a, c⟩, e, f⟩, by omega, y⟩⟩
      · rw [if_pos rfl]; exact ⟨Or.inl rfl, h0 (fun s => by have := s.2.2; omega)⟩
      · exact ⟨Or.inl rfl, h0 (fun s => z (cp.2.2 (by rw [← tp]; exact s.2.1)))⟩
    · rw [if_pos rfl]; exact ⟨Or.inl rfl, h0 (fun s => q s.1.2)⟩
  · rw [if_pos rfl]; exact ⟨Or.inl rfl, h0 (fun s => q s.1.1)⟩
theorem tolk (hk : EQK gp g) : tolP g 6 = tolP gp 6 := by
  have h : ∀ n : Nat, tolP g n = tolP gp n := fun n => by
    induction n with
    | zero => rfl
    | succ n ih =>
      show tolP g n + (if g 167 n = 0 then 0 else 1) = tolP gp n + (if gp 167 n = 0 then 0 else 1)
      rw [ih, hk 167 _ (Or.inl rfl)]
  exact h 6
theorem f_216 (hr : RI r) (hk : EQK gp g) (mb : MBR 0 g b) (hB : HB b) (h1 : okS gp b l1 l2 → Q 1 g r) (h0 : ¬ okS gp b l1 l2 → Q 0 g r) : Ce sc (d + 3) 216 [(2, 165), (0, l1), (0, l2)] g r Q := by
  have k9 : okr 218 165 9 := okd (by decide +kernel)
  have h9 := hB.1
  have te := tolk hk
  refine c_216 ⟨k9, c_211 ⟨k9, s_206 hr (ite_c (fun z => ?_) (fun z => ⟨Or.inl rfl, ?_⟩))⟩⟩
  · rw [r_165_42 hr, mb.1.1, wr_id (x := b 0 0 + 24) ⟨by omega, by omega⟩]
    refine ⟨k9, i_197.mpr ⟨by decide, by decide⟩, ite_c (fun y => ⟨Or.inl rfl, ?_⟩) (fun y => ⟨Or.inr rfl, ?_⟩)⟩
    · rw [if_pos rfl]; exact ⟨Or.inl rfl, h0 (fun s => by have := s.2.2; omega)⟩
    · rw [if_neg (by decide)]
      refine w_137 (fun a c => ?_) (fun q => ?_)
      · rw [if_neg (by decide)]
        refine w_137 (fun e f => ?_) (fun q => ?_)
        · rw [if_neg (by decide)]; exact ⟨Or.inr rfl, h1 ⟨⟨⟨a, c⟩, e, f⟩, by omega, by omega⟩⟩
        · rw [if_pos rfl]; exact ⟨Or.inl rfl, h0 (fun s => q s.1.2)⟩
      · rw [if_pos rfl]; exact ⟨Or.inl rfl, h0 (fun s => q s.1.1)⟩
  · rw [if_pos rfl]; exact ⟨Or.inl rfl, h0 (fun s => z (by rw [te]; exact s.2.1))⟩
theorem tbw_s {g' : GH} {A : Int} (h : TBW A Z cnt lim g) (c3 : cnt ≤ 3) (l0 : 0 ≤ lim) (v : ∀ c, 0 ≤ c → c < 3 → c < cnt → g' A (3 * lim + c) = Z lim c) (fr : ∀ j, ¬ (3 * lim ≤ j ∧ j < 3 * lim + 3) → g' A j = g A j) : TBW A Z cnt (lim + 1) g' := fun w c w0 w1 va c0 cc => by
  by_cases z : w = lim
  · rw [z]; exact v c c0 (by omega) cc
  · rw [fr _ (by omega)]; exact h w c w0 (by omega) va c0 cc
theorem tbw_n {A : Int} (h : TBW A Z cnt lim g) (z : vaE cnt lim = 0) : TBW A Z cnt (lim + 1) g := fun w c w0 w1 va c0 cc => by
  by_cases y : w = lim
  · rw [y, z] at va; exact absurd va (by decide)
  · exact h w c w0 (by omega) va c0 cc
/-- all the ways of a shift, the reference -/
theorem f_218 (hr : RI r) (hp : PO gp mm) (hx : MXA gp mm) (hB : HB b) (h9 : b 0 0 ≤ 936) (o0 : 0 ≤ l2) (o9 : l2 ≤ 999) (hi : MI g) (hk : EQK gp g) (mb : MBR 0 g b) (hq : ∀ g', EQK gp g' → TBW 208 (ZE gp mm b l1 l2) (cnE (tbE gp)) 64 g' → Q 0 g' r) : Ce sc (d + 11) 218 [(2, 165), (0, l1), (0, l2)] g r Q := by
  have k9 : okr 218 165 9 := okd (by decide +kernel)
  have cp := cn_pop (tbE gp)
  have hb0 := hB.1
  have loop : ∀ (n : Nat) (w : Int) (g1 : GH), 0 ≤ w → w + n = 64 → MI g1 → EQK gp g1 → MBR 0 g1 b → TBW 208 (ZE gp mm b l1 l2) (cnE (tbE gp)) w g1 → WQ sc (d + 10) 218 Q 2 [(2, 165), (0, l1), (0, l2), (0, w)] [] g1 r := by
    intro n
    induction n with
    | zero =>
      intro w g1 w0 e mi hk1 mb1 tw
      refine b_218_2 (ite_c (fun z => absurd z (by omega)) (fun _ => hq g1 hk1 ?_))
      rw [show w = 64 by omega] at tw
      exact tw
    | succ n ih =>
      intro w g1 w0 e mi hk1 mb1 tw
      refine b_218_2 (ite_c (fun _ => ⟨k9, f_215 (d := d + 7) hr hk1 ?_⟩) (fun z => absurd (by omega) z))
      rw [wr_id (x := w + 1) ⟨by omega, by omega⟩]
      refine ite_c (fun z => ih (w + 1) g1 (by omega) (by omega) mi hk1 mb1 (tbw_n tw z)) (fun z => ⟨k9, ?_⟩)
      have e97 := mb1.1.1
      have A := f_214 (sc := sc) (d := d) (l1 := l1) (Q := fun _ g' r' => r' = r ∧ EQK gp g' ∧ MBR 0 g' b ∧ TBW 208 (ZE gp mm b l1 l2) (cnE (tbE gp)) (w + 1) g') hr hp hx mi hk1 hB h9 mb1 o0 o9 w0 (show w < 64 by omega) (fun g' a1 a2 a3 a4 => ⟨rfl, a1, a2, tbw_s tw cp.2.1 w0 (fun c c0 c3 cc => a3 c c0 c3 (by omega)) a4⟩)
      have B := y_214 (sc := sc) (d := d + 1) (l1 := l1) (l2 := l2) (l3 := w) (Q := fun _ g' _ => M4F g1 g') hr mi (by omega) (by omega) w0 (by omega) (fun _ _ e => e)
      refine Ce_mono (Ce_and A B) (fun v g' r' u => ?_)
      obtain ⟨⟨er, a1, a2, a3⟩, m4⟩ := u
      subst er
      exact ih (w + 1) g' (by omega) (by omega) (mi.me m4.1.me) a1 a2 a3
  exact c_218 (loop 64 0 g (by decide) (by decide) hi hk mb (fun w c w0 w1 => absurd w1 (by omega)))
theorem uu_87 (hJ : J6 g r) {A1 A2 A3 A4 : Int} (D : Nat) : Ce sc (D + 11) 87 [(2, 0), (0, A1), (0, A2), (0, A3), (0, A4)] g r (fun v1 g1 r1 => Ce sc (D + 11) 217 [(2, 165), (0, A1), (0, A2), (0, A3), (0, A4)] g1 r1 fun v2 g2 r2 => v1 = v2 ∧ J6 g2 r2) := by
  have hr := hJ.1.1.1.1.1.1
  have k0 : okr 218 0 8 := okd (by decide +kernel)
  have k9 : okr 218 165 9 := okd (by decide +kernel)
  obtain ⟨mm, hp, hx, hc⟩ := par hJ.1
  obtain ⟨b, hb, cb, mb, zz⟩ := hJ.2.1
  have cp := cn_pop (tbE g)
  have cnb := cn_b (tb_b g).1 (tb_b g).2
  by_cases ok : okS g b A1 A2 ∧ vaE (cnE (tbE g)) A3 ≠ 0 ∧ 0 ≤ A4 ∧ A4 ≤ cnE (tbE g) - 1
  · obtain ⟨⟨⟨l1b, o0, o9⟩, tp, h9⟩, va, a0, a1⟩ := ok
    have okk : okS g b A1 A2 := ⟨⟨l1b, o0, o9⟩, tp, h9⟩
    have vb := va_1 va
    refine pv hJ (ZE g mm b A1 A2 A3 A4) (v_87 (d := D + 2) hr hJ.1.2 (fun _ _ e => ⟨rfl, e⟩)) (t_87 (d := D + 2) hr sqn (fun _ _ e => ⟨rfl, e⟩)) ?_ (fun g1 hi1 => ?_) (fun g1 mi => y_217 (d := D + 1) hr mi (fun _ _ e => ⟨rfl, e⟩))
    · refine c_87 ⟨k0, f_90 (d := D + 5) hr hc cb hb (fun _ => ?_) (fun z => absurd okk z)⟩
      rw [if_neg (by decide)]
      refine ⟨k0, f_92 (d := D + 5) hr hc (ite_c (fun z => absurd z va) (fun _ => ⟨k0, f_91 (d := D + 6) hr hc ?_⟩))⟩
      rw [wr_id (x := cnE (tbE g) - 1) ⟨by omega, by omega⟩]
      refine w_123 (fun _ _ => ?_) (fun z => absurd ⟨a0, a1⟩ z)
      rw [if_neg (by decide)]
      refine ⟨k0, f_95 (d := D) hr hp hx hc hb h9 cb hJ.2.2.2 o0 o9 vb.2.1 (by omega) (fun g2 _ _ _ tb2 _ => ⟨k0, f_96 (d := D + 8) hr vb.2.1 vb.2.2 a0 (by omega) ?_⟩)⟩
      exact tb2 A4 a0 (by omega) (by omega)
    · have mb1 : MBR 0 g1 b := mb.fr (fun i j hi => hi1 i j (by omega))
      have mi1 : MI g1 := hJ.1.1.1.1.1.2.2.2.1.hi hi1
      have hk1 := eqk_hi hi1
      refine c_217 ⟨k9, f_216 (d := D + 7) hr hk1 mb1 hb (fun _ => ?_) (fun z => absurd okk z)⟩
      rw [if_neg (by decide)]
      refine ⟨k9, f_215 (d := D + 7) hr hk1 (ite_c (fun z => absurd z va) (fun _ => ⟨k9, f_213 (d := D + 8) hr hk1 ?_⟩))⟩
      rw [wr_id (x := cnE (tbE g) - 1) ⟨by omega, by omega⟩]
      refine w_137 (fun _ _ => ?_) (fun z => absurd ⟨a0, a1⟩ z)
      rw [if_neg (by decide)]
      refine ⟨k9, f_214 (d := D) hr hp hx mi1 hk1 hb h9 mb1 o0 o9 vb.2.1 (by omega) (fun g2 _ _ tb2 _ => ⟨k9, ?_⟩)⟩
      rw [wr_id (x := 3 * A3) ⟨by omega, by omega⟩, wr_id (x := 3 * A3 + A4) ⟨by omega, by omega⟩, r_165_60 hr]
      exact ⟨i_208.mpr ⟨by omega, by omega⟩, tb2 A4 a0 (by omega) (by omega)⟩
  · refine pv hJ (-1) (v_87 (d := D + 2) hr hJ.1.2 (fun _ _ e => ⟨rfl, e⟩)) (t_87 (d := D + 2) hr sqn (fun _ _ e => ⟨rfl, e⟩)) ?_ (fun g1 hi1 => ?_) (fun g1 mi => y_217 (d := D + 1) hr mi (fun _ _ e => ⟨rfl, e⟩))
    · refine c_87 ⟨k0, f_90 (d := D + 5) hr hc cb hb (fun okk => ?_) (fun z => by rw [if_pos rfl])⟩
      rw [if_neg (by decide)]
      refine ⟨k0, f_92 (d := D + 5) hr hc (ite_c (fun z => rfl) (fun va => ⟨k0, f_91 (d := D + 6) hr hc ?_⟩))⟩
      rw [wr_id (x := cnE (tbE g) - 1) ⟨by omega, by omega⟩]
      refine w_123 (fun a0 a1 => absurd ⟨okk, va, a0, a1⟩ ok) (fun z => by rw [if_pos rfl])
    · have mb1 : MBR 0 g1 b := mb.fr (fun i j hi => hi1 i j (by omega))
      have hk1 := eqk_hi hi1
      refine c_217 ⟨k9, f_216 (d := D + 7) hr hk1 mb1 hb (fun okk => ?_) (fun z => by rw [if_pos rfl])⟩
      rw [if_neg (by decide)]
      refine ⟨k9, f_215 (d := D + 7) hr hk1 (ite_c (fun z => rfl) (fun va => ⟨k9, f_213 (d := D + 8) hr hk1 ?_⟩))⟩
      rw [wr_id (x := cnE (tbE g) - 1) ⟨by omega, by omega⟩]
      refine w_137 (fun a0 a1 => absurd ⟨okk, va, a0, a1⟩ ok) (fun z => by rw [if_pos rfl])
theorem uu_88 (hJ : J6 g r) {A1 A2 A3 : Int} (D : Nat) : Ce sc (D + 12) 88 [(2, 0), (0, A1), (0, A2), (0, A3)] g r (fun v1 g1 r1 => Ce sc (D + 12) 220 [(2, 165), (0, A1), (0, A2), (0, A3)] g1 r1 fun v2 g2 r2 => v1 = v2 ∧ J6 g2 r2) := by
  have hr := hJ.1.1.1.1.1.1
  have k0 : okr 218 0 8 := okd (by decide +kernel)
  have k9 : okr 218 165 9 := okd (by decide +kernel)
  obtain ⟨mm, hp, hx, hc⟩ := par hJ.1
  obtain ⟨b, hb, cb, mb, zz⟩ := hJ.2.1
  have cp := cn_pop (tbE g)
  have V := v_88 (sc := sc) (d := D + 3) (l1 := A1) (l2 := A2) (l3 := A3) (Q := fun _ g1 r1 => r1 = r ∧ EB r (TM g) (MWh g) g g1) hr hJ.1.2 (fun _ _ e => ⟨rfl, e⟩)
  have T := t_88 (F := FN) (sc := sc) (d := D + 3) (g := g) (l1 := A1) (l2 := A2) (l3 := A3) (Q := fun _ g1 r1 => r1 = r ∧ EQF FN g g1) hr sqn (fun _ _ e => ⟨rfl, e⟩)
  have Y : ∀ g1, MI g1 → Ce sc (D + 12) 220 [(2, 165), (0, A1), (0, A2), (0, A3)] g1 r (fun _ g2 r2 => r2 = r ∧ MFZ g1 g2) := fun g1 mi => y_220 (d := D + 1) hr mi (fun _ _ e => ⟨rfl, e⟩)
  by_cases ok : okS g b A1 A2 ∧ -1 ≤ A3
  · obtain ⟨okk, a3⟩ := ok
    obtain ⟨⟨l1b, o0, o9⟩, tp, h9⟩ := okk
    refine pv hJ (eqL (ZE g mm b A1 A2) (cnE (tbE g)) A3 64 0 0) V T ?_ (fun g1 hi1 => ?_) Y
    · -- the class: reading the table
      have read : ∀ g1, COK g mm r g1 → TBW 50 (ZE g mm b A1 A2) (cnE (tbE g)) 64 g1 → ∀ (n : Nat) (w k : Int), 0 ≤ w → w + n = 64 → 0 ≤ k → k ≤ w → eqL (ZE g mm b A1 A2) (cnE (tbE g)) A3 n w k = eqL (ZE g mm b A1 A2) (cnE (tbE g)) A3 64 0 0 → WQ sc (D + 11) 88 (fun v1 _ _ => v1 = eqL (ZE g mm b A1 A2) (cnE (tbE g)) A3 64 0 0) 55 [(2, 0), (9, 0), (9, 0), (0, A3), (0, k), (0, w)] [] g1 r := by
        intro g1 hc1 tw n
        induction n with
        | zero =>
          intro w k w0 e k0' kw es
          have es' : (if A3 = -1 then k else -1) = eqL (ZE g mm b A1 A2) (cnE (tbE g)) A3 64 0 0 := es
          refine b_88_55 (ite_c (fun z => absurd z (by omega)) (fun _ => ite_c (fun z => ?_) (fun z => ?_)))
          · rw [if_pos z] at es'; exact es'
          · rw [if_neg z] at es'; exact es'
        | succ n ih =>
          intro w k w0 e k0' kw es
          have es' : (if vaE (cnE (tbE g)) w = 0 then eqL (ZE g mm b A1 A2) (cnE (tbE g)) A3 n (w + 1) k else if naC (ZE g mm b A1 A2) w (cnE (tbE g)) 4 0 = 0 then eqL (ZE g mm b A1 A2) (cnE (tbE g)) A3 n (w + 1) k else if k = A3 then w else eqL (ZE g mm b A1 A2) (cnE (tbE g)) A3 n (w + 1) (k + 1)) = eqL (ZE g mm b A1 A2) (cnE (tbE g)) A3 64 0 0 := es
          refine b_88_55 (ite_c (fun _ => ⟨k0, f_92 (d := D + 6) hr hc1 ?_⟩) (fun z => absurd (by omega) z))
          rw [wr_id (x := w + 1) ⟨by omega, by omega⟩, wr_id (x := k + 1) ⟨by omega, by omega⟩]
          refine ite_c (fun z => ?_) (fun z => ⟨k0, f_97 (d := D + 6) hr hc1 tw (va_1 z).1 (va_1 z).2.1 (va_1 z).2.2 (ite_c (fun y => ?_) (fun y => ite_c (fun x => ?_) (fun x => ?_)))⟩)
          · rw [if_pos z] at es'; exact ih (w + 1) k (by omega) (by omega) k0' (by omega) es'
          · rw [if_neg z, if_pos y] at es'; exact ih (w + 1) k (by omega) (by omega) k0' (by omega) es'
          · rw [if_neg z, if_neg y, if_pos x] at es'; exact es'
          · rw [if_neg z, if_neg y, if_neg x] at es'; exact ih (w + 1) (k + 1) (by omega) (by omega) (by omega) (by omega) es'
      have fill : ∀ (n : Nat) (w : Int) (g1 : GH), 0 ≤ w → w + n = 64 → COK g mm r g1 → CBR 23 g1 b → RUL g1 → TBW 50 (ZE g mm b A1 A2) (cnE (tbE g)) w g1 → WQ sc (D + 11) 88 (fun v1 _ _ => v1 = eqL (ZE g mm b A1 A2) (cnE (tbE g)) A3 64 0 0) 19 [(2, 0), (0, A1), (0, A2), (0, A3), (0, w), (9, 0)] [] g1 r := by
        intro n
        induction n with
        | zero =>
          intro w g1 w0 e hc1 cb1 ru1 tw
          rw [show w = 64 by omega] at tw
          refine b_88_19 (ite_c (fun z => absurd z (by omega)) (fun _ => read g1 hc1 tw 64 0 0 (by decide) (by decide) (by decide) (by decide) rfl))
        | succ n ih =>
          intro w g1 w0 e hc1 cb1 ru1 tw
          refine b_88_19 (ite_c (fun _ => ⟨k0, f_92 (d := D + 6) hr hc1 ?_⟩) (fun z => absurd (by omega) z))
          rw [wr_id (x := w + 1) ⟨by omega, by omega⟩]
          refine ite_c (fun z => ih (w + 1) g1 (by omega) (by omega) hc1 cb1 ru1 (tbw_n tw z)) (fun z => ⟨k0, f_95 (d := D + 1) hr hp hx hc1 hb h9 cb1 ru1 o0 o9 w0 (by omega) (fun g2 hc2 cb2 ru2 tb2 fr2 => ?_)⟩)
          exact ih (w + 1) g2 (by omega) (by omega) hc2 cb2 ru2 (tbw_s tw cp.2.1 w0 (fun c c0 c3 cc => tb2 c c0 c3 (by omega)) fr2)
      refine c_88 ⟨k0, f_90 (d := D + 6) hr hc cb hb (fun _ => ?_) (fun z => absurd ⟨⟨l1b, o0, o9⟩, tp, h9⟩ z)⟩
      rw [if_neg (by decide)]
      exact ite_c (fun z => absurd z (by omega)) (fun _ => fill 64 0 g (by decide) (by decide) hc cb hJ.2.2.2 (fun w c _ w1 => absurd w1 (by omega)))
    · have mb1 : MBR 0 g1 b := mb.fr (fun i j hi => hi1 i j (by omega))
      have mi1 : MI g1 := hJ.1.1.1.1.1.2.2.2.1.hi hi1
      have hk1 := eqk_hi hi1
      have read : ∀ g2, EQK g g2 → TBW 208 (ZE g mm b A1 A2) (cnE (tbE g)) 64 g2 → ∀ (n : Nat) (w k : Int), 0 ≤ w → w + n = 64 → 0 ≤ k → k ≤ w → eqL (ZE g mm b A1 A2) (cnE (tbE g)) A3 n w k = eqL (ZE g mm b A1 A2) (cnE (tbE g)) A3 64 0 0 → WQ sc (D + 11) 220 (fun v1 _ _ => v1 = eqL (ZE g mm b A1 A2) (cnE (tbE g)) A3 64 0 0) 28 [(2, 165), (9, 0), (9, 0), (0, A3), (0, k), (0, w)] [] g2 r := by
        intro g2 hk2 tw n
        induction n with
        | zero =>
          intro w k w0 e k0' kw es
          have es' : (if A3 = -1 then k else -1) = eqL (ZE g mm b A1 A2) (cnE (tbE g)) A3 64 0 0 := es
          refine b_220_28 (ite_c (fun z => absurd z (by omega)) (fun _ => ite_c (fun z => ?_) (fun z => ?_)))
          · rw [if_pos z] at es'; exact es'
          · rw [if_neg z] at es'; exact es'
        | succ n ih =>
          intro w k w0 e k0' kw es
          have es' : (if vaE (cnE (tbE g)) w = 0 then eqL (ZE g mm b A1 A2) (cnE (tbE g)) A3 n (w + 1) k else if naC (ZE g mm b A1 A2) w (cnE (tbE g)) 4 0 = 0 then eqL (ZE g mm b A1 A2) (cnE (tbE g)) A3 n (w + 1) k else if k = A3 then w else eqL (ZE g mm b A1 A2) (cnE (tbE g)) A3 n (w + 1) (k + 1)) = eqL (ZE g mm b A1 A2) (cnE (tbE g)) A3 64 0 0 := es
          refine b_220_28 (ite_c (fun _ => ⟨k9, f_215 (d := D + 8) hr hk2 ?_⟩) (fun z => absurd (by omega) z))
          rw [wr_id (x := w + 1) ⟨by omega, by omega⟩, wr_id (x := k + 1) ⟨by omega, by omega⟩]
          refine ite_c (fun z => ?_) (fun z => ⟨k9, f_219 (d := D + 8) hr hk2 tw (va_1 z).1 (va_1 z).2.1 (va_1 z).2.2 (ite_c (fun y => ?_) (fun y => ite_c (fun x => ?_) (fun x => ?_)))⟩)
          · rw [if_pos z] at es'; exact ih (w + 1) k (by omega) (by omega) k0' (by omega) es'
          · rw [if_neg z, if_pos y] at es'; exact ih (w + 1) k (by omega) (by omega) k0' (by omega) es'
          · rw [if_neg z, if_neg y, if_pos x] at es'; exact es'
          · rw [if_neg z, if_neg y, if_neg x] at es'; exact ih (w + 1) (k + 1) (by omega) (by omega) (by omega) (by omega) es'
      refine c_220 ⟨k9, f_216 (d := D + 8) hr hk1 mb1 hb (fun _ => ?_) (fun z => absurd ⟨⟨l1b, o0, o9⟩, tp, h9⟩ z)⟩
      rw [if_neg (by decide)]
      exact ite_c (fun z => absurd z (by omega)) (fun _ => ⟨k9, f_218 (d := D) hr hp hx hb h9 o0 o9 mi1 hk1 mb1 (fun g2 hk2 tw => read g2 hk2 tw 64 0 0 (by decide) (by decide) (by decide) (by decide) rfl)⟩)
  · refine pv hJ (-1) V T ?_ (fun g1 hi1 => ?_) Y
    · refine c_88 ⟨k0, f_90 (d := D + 6) hr hc cb hb (fun okk => ?_) (fun z => by rw [if_pos rfl])⟩
      rw [if_neg (by decide)]
      exact ite_c (fun _ => rfl) (fun z => absurd ⟨okk, by omega⟩ ok)
    · have mb1 : MBR 0 g1 b := mb.fr (fun i j hi => hi1 i j (by omega))
      refine c_220 ⟨k9, f_216 (d := D + 8) hr (eqk_hi hi1) mb1 hb (fun okk => ?_) (fun z => by rw [if_pos rfl])⟩
      rw [if_neg (by decide)]
      exact ite_c (fun _ => rfl) (fun z => absurd ⟨okk, by omega⟩ ok)
theorem uu_89 (hJ : J6 g r) {A1 A2 A3 : Int} (D : Nat) : Ce sc (D + 12) 89 [(2, 0), (0, A1), (0, A2), (0, A3)] g r (fun v1 g1 r1 => Ce sc (D + 12) 221 [(2, 165), (0, A1), (0, A2), (0, A3)] g1 r1 fun v2 g2 r2 => v1 = v2 ∧ J6 g2 r2) := by
  have hr := hJ.1.1.1.1.1.1
  have k0 : okr 218 0 8 := okd (by decide +kernel)
  have k9 : okr 218 165 9 := okd (by decide +kernel)
  obtain ⟨mm, hp, hx, hc⟩ := par hJ.1
  obtain ⟨b, hb, cb, mb, zz⟩ := hJ.2.1
  have cp := cn_pop (tbE g)
  have cnb := cn_b (tb_b g).1 (tb_b g).2
  have V := v_89 (sc := sc) (d := D + 3) (l1 := A1) (l2 := A2) (l3 := A3) (Q := fun _ g1 r1 => r1 = r ∧ EB r (TM g) (MWh g) g g1) hr hJ.1.2 (fun _ _ e => ⟨rfl, e⟩)
  have T := t_89 (F := FN) (sc := sc) (d := D + 3) (g := g) (l1 := A1) (l2 := A2) (l3 := A3) (Q := fun _ g1 r1 => r1 = r ∧ EQF FN g g1) hr sqn (fun _ _ e => ⟨rfl, e⟩)
  have Y : ∀ g1, MI g1 → Ce sc (D + 12) 221 [(2, 165), (0, A1), (0, A2), (0, A3)] g1 r (fun _ g2 r2 => r2 = r ∧ MFZ g1 g2) := fun g1 mi => y_221 (d := D + 1) hr mi (fun _ _ e => ⟨rfl, e⟩)
  by_cases ok : okS g b A1 A2 ∧ 0 ≤ A3 ∧ A3 ≤ 999999999
  · obtain ⟨okk, a3⟩ := ok
    obtain ⟨⟨l1b, o0, o9⟩, tp, h9⟩ := okk
    refine pv hJ (fiL (ZE g mm b A1 A2) (cnE (tbE g)) A3 64 0) V T ?_ (fun g1 hi1 => ?_) Y
    · have fill : ∀ (n : Nat) (w : Int) (g1 : GH), 0 ≤ w → w + n = 64 → COK g mm r g1 → CBR 23 g1 b → RUL g1 → fiL (ZE g mm b A1 A2) (cnE (tbE g)) A3 n w = fiL (ZE g mm b A1 A2) (cnE (tbE g)) A3 64 0 → WQ sc (D + 11) 89 (fun v1 _ _ => v1 = fiL (ZE g mm b A1 A2) (cnE (tbE g)) A3 64 0) 31 [(2, 0), (0, A1), (0, A2), (0, A3), (0, cnE (tbE g)), (0, w), (9, 0), (9, 0)] [] g1 r := by
        intro n
        induction n with
        | zero =>
          intro w g1 w0 e hc1 cb1 ru1 es
          exact b_89_31 (ite_c (fun z => absurd z (by omega)) (fun _ => es))
        | succ n ih =>
          intro w g1 w0 e hc1 cb1 ru1 es
          have es' : (if vaE (cnE (tbE g)) w = 0 then fiL (ZE g mm b A1 A2) (cnE (tbE g)) A3 n (w + 1) else if okC (ZE g mm b A1 A2) w A3 (cnE (tbE g)) 4 0 = 0 then fiL (ZE g mm b A1 A2) (cnE (tbE g)) A3 n (w + 1) else w) = fiL (ZE g mm b A1 A2) (cnE (tbE g)) A3 64 0 := es
          refine b_89_31 (ite_c (fun _ => ⟨k0, f_92 (d := D + 6) hr hc1 ?_⟩) (fun z => absurd (by omega) z))
          rw [wr_id (x := w + 1) ⟨by omega, by omega⟩]
          refine ite_c (fun z => ?_) (fun z => ⟨k0, f_95 (d := D + 1) hr hp hx hc1 hb h9 cb1 ru1 o0 o9 w0 (by omega) (fun g2 hc2 cb2 ru2 tb2 _ => ?_)⟩)
          · rw [if_pos z] at es'; exact ih (w + 1) g1 (by omega) (by omega) hc1 cb1 ru1 es'
          · rw [if_neg z] at es'
            have wl : wr (w + 1) = w + 1 := wr_id ⟨by omega, by omega⟩
            have no : okC (ZE g mm b A1 A2) w A3 (cnE (tbE g)) 4 0 = 0 → ∀ (n' : Nat) (c : Int), 0 ≤ c → c + n' = 4 → WQ sc (D + 11) 89 (fun v1 _ _ => v1 = fiL (ZE g mm b A1 A2) (cnE (tbE g)) A3 64 0) 64 [(2, 0), (0, A1), (0, A2), (0, A3), (0, cnE (tbE g)), (0, w), (0, 0), (0, c)] [] g2 r := by
              intro z0 n'
              rw [if_pos z0] at es'
              induction n' with
              | zero =>
                intro c c0 ec
                refine b_89_64 (ite_c (fun y => absurd y (by omega)) (fun _ => ite_c (fun _ => ?_) (fun y => absurd rfl y)))
                rw [wl]; exact ih (w + 1) g2 (by omega) (by omega) hc2 cb2 ru2 es'
              | succ n' ih' =>
                intro c c0 ec
                refine b_89_64 (ite_c (fun y => ite_c (fun _ => ?_) (fun y => absurd rfl y)) (fun _ => ite_c (fun _ => ?_) (fun y => absurd rfl y)))
                · rw [wr_id (x := c + 1) ⟨by omega, by omega⟩]; exact ih' (c + 1) (by omega) (by omega)
                · rw [wl]; exact ih (w + 1) g2 (by omega) (by omega) hc2 cb2 ru2 es'
            have yes : ∀ (n' : Nat) (c : Int), 0 ≤ c → c + n' = 4 → okC (ZE g mm b A1 A2) w A3 (cnE (tbE g)) n' c = okC (ZE g mm b A1 A2) w A3 (cnE (tbE g)) 4 0 → WQ sc (D + 11) 89 (fun v1 _ _ => v1 = fiL (ZE g mm b A1 A2) (cnE (tbE g)) A3 64 0) 64 [(2, 0), (0, A1), (0, A2), (0, A3), (0, cnE (tbE g)), (0, w), (0, 1), (0, c)] [] g2 r := by
              intro n'
              induction n' with
              | zero =>
                intro c c0 ec eo
                have eo' : 1 = okC (ZE g mm b A1 A2) w A3 (cnE (tbE g)) 4 0 := eo
                rw [← eo', if_neg (by decide)] at es'
                exact b_89_64 (ite_c (fun y => absurd y (by omega)) (fun _ => ite_c (fun y => absurd y (by decide)) (fun _ => es')))
              | succ n' ih' =>
                intro c c0 ec eo
                have eo' : (if c < cnE (tbE g) then (if ZE g mm b A1 A2 w c < A3 then 0 else okC (ZE g mm b A1 A2) w A3 (cnE (tbE g)) n' (c + 1)) else 1) = okC (ZE g mm b A1 A2) w A3 (cnE (tbE g)) 4 0 := eo
                refine b_89_64 (ite_c (fun y => ite_c (fun x => absurd x (by decide)) (fun _ => ⟨k0, f_96 (d := D + 9) hr w0 (by omega) c0 (by omega) ?_⟩)) (fun y => ite_c (fun x => absurd x (by decide)) (fun _ => ?_)))
                · rw [if_pos y] at eo'
                  rw [tb2 c c0 (by omega) (by omega), wr_id (x := c + 1) ⟨by omega, by omega⟩]
                  refine ite_c (fun x => ?_) (fun x => ?_)
                  · rw [if_pos (cmp_lt.mp x)] at eo'
                    exact no eo'.symm n' (c + 1) (by omega) (by omega)
                  · rw [if_neg (fun q => x (cmp_lt.mpr q))] at eo'
                    exact ih' (c + 1) (by omega) (by omega) eo'
                · rw [if_neg y] at eo'
                  rw [← eo', if_neg (by decide)] at es'
                  exact es'
            exact yes 4 0 (by decide) (by decide) rfl
      refine c_89 ⟨k0, f_90 (d := D + 6) hr hc cb hb (fun _ => ?_) (fun z => absurd ⟨⟨l1b, o0, o9⟩, tp, h9⟩ z)⟩
      rw [if_neg (by decide)]
      refine w_123 (fun _ _ => ?_) (fun z => absurd a3 z)
      rw [if_neg (by decide)]
      exact ⟨k0, f_91 (d := D + 7) hr hc (fill 64 0 g (by decide) (by decide) hc cb hJ.2.2.2 rfl)⟩
    · have mb1 : MBR 0 g1 b := mb.fr (fun i j hi => hi1 i j (by omega))
      have mi1 : MI g1 := hJ.1.1.1.1.1.2.2.2.1.hi hi1
      have hk1 := eqk_hi hi1
      have read : ∀ g2, EQK g g2 → TBW 208 (ZE g mm b A1 A2) (cnE (tbE g)) 64 g2 → ∀ (n : Nat) (w : Int), 0 ≤ w → w + n = 64 → fiL (ZE g mm b A1 A2) (cnE (tbE g)) A3 n w = fiL (ZE g mm b A1 A2) (cnE (tbE g)) A3 64 0 → WQ sc (D + 11) 221 (fun v1 _ _ => v1 = fiL (ZE g mm b A1 A2) (cnE (tbE g)) A3 64 0) 32 [(2, 165), (9, 0), (9, 0), (0, A3), (0, w), (9, 0), (9, 0)] [] g2 r := by
        intro g2 hk2 tw n
        induction n with
        | zero =>
          intro w w0 e es
          exact b_221_32 (ite_c (fun z => absurd z (by omega)) (fun _ => es))
        | succ n ih =>
          intro w w0 e es
          have es' : (if vaE (cnE (tbE g)) w = 0 then fiL (ZE g mm b A1 A2) (cnE (tbE g)) A3 n (w + 1) else if okC (ZE g mm b A1 A2) w A3 (cnE (tbE g)) 4 0 = 0 then fiL (ZE g mm b A1 A2) (cnE (tbE g)) A3 n (w + 1) else w) = fiL (ZE g mm b A1 A2) (cnE (tbE g)) A3 64 0 := es
          have wl : wr (w + 1) = w + 1 := wr_id ⟨by omega, by omega⟩
          -- the flag is down: to the next way
          have no : fiL (ZE g mm b A1 A2) (cnE (tbE g)) A3 n (w + 1) = fiL (ZE g mm b A1 A2) (cnE (tbE g)) A3 64 0 → ∀ c, WQ sc (D + 11) 221 (fun v1 _ _ => v1 = fiL (ZE g mm b A1 A2) (cnE (tbE g)) A3 64 0) 50 [(2, 165), (9, 0), (9, 0), (0, A3), (0, w), (0, 0), (0, c)] [] g2 r := fun nx c => by
            refine b_221_50 ⟨k9, f_213 (d := D + 9) hr hk2 (ite_c (fun _ => ite_c (fun _ => ite_c (fun _ => ?_) (fun y => absurd rfl y)) (fun y => absurd rfl y)) (fun _ => ite_c (fun _ => ?_) (fun y => absurd rfl y)))⟩
            · rw [wl]; exact ih (w + 1) (by omega) (by omega) nx
            · rw [wl]; exact ih (w + 1) (by omega) (by omega) nx
          refine b_221_32 (ite_c (fun _ => ⟨k9, f_215 (d := D + 8) hr hk2 ?_⟩) (fun z => absurd (by omega) z))
          by_cases z : vaE (cnE (tbE g)) w = 0
          · rw [if_pos z] at es'
            rw [z]; exact no es' 0
          · have va := (va_1 z).1
            rw [if_neg z] at es'
            rw [va]
            have yes : ∀ (n' : Nat) (c : Int), 0 ≤ c → c + n' = 4 → okC (ZE g mm b A1 A2) w A3 (cnE (tbE g)) n' c = okC (ZE g mm b A1 A2) w A3 (cnE (tbE g)) 4 0 → WQ sc (D + 11) 221 (fun v1 _ _ => v1 = fiL (ZE g mm b A1 A2) (cnE (tbE g)) A3 64 0) 50 [(2, 165), (9, 0), (9, 0), (0, A3), (0, w), (0, 1), (0, c)] [] g2 r := by
              intro n'
              induction n' with
              | zero =>
                intro c c0 ec eo
                have eo' : 1 = okC (ZE g mm b A1 A2) w A3 (cnE (tbE g)) 4 0 := eo
                rw [← eo', if_neg (by decide)] at es'
                exact b_221_50 ⟨k9, f_213 (d := D + 9) hr hk2 (ite_c (fun y => absurd y (by omega)) (fun _ => ite_c (fun y => absurd y (by decide)) (fun _ => es')))⟩
              | succ n' ih' =>
                intro c c0 ec eo
                have eo' : (if c < cnE (tbE g) then (if ZE g mm b A1 A2 w c < A3 then 0 else okC (ZE g mm b A1 A2) w A3 (cnE (tbE g)) n' (c + 1)) else 1) = okC (ZE g mm b A1 A2) w A3 (cnE (tbE g)) 4 0 := eo
                refine b_221_50 ⟨k9, f_213 (d := D + 9) hr hk2 (ite_c (fun y => ite_c (fun x => absurd x (by decide)) (fun _ => ?_)) (fun y => ite_c (fun x => absurd x (by decide)) (fun _ => ?_)))⟩
                · rw [if_pos y] at eo'
                  rw [r_165_60 hr, wr_id (x := 3 * w) ⟨by omega, by omega⟩, wr_id (x := 3 * w + c) ⟨by omega, by omega⟩, tw w c w0 (by omega) va c0 y, wr_id (x := c + 1) ⟨by omega, by omega⟩]
                  refine ⟨k9, i_208.mpr ⟨by omega, by omega⟩, ite_c (fun x => ?_) (fun x => ?_)⟩
                  · rw [if_pos (cmp_lt.mp x)] at eo'
                    rw [if_pos eo'.symm] at es'
                    exact no es' _
                  · rw [if_neg (fun q => x (cmp_lt.mpr q))] at eo'
                    exact ih' (c + 1) (by omega) (by omega) eo'
                · rw [if_neg y] at eo'
                  rw [← eo', if_neg (by decide)] at es'
                  exact es'
            exact yes 4 0 (by decide) (by decide) rfl
      refine c_221 ⟨k9, f_216 (d := D + 8) hr hk1 mb1 hb (fun _ => ?_) (fun z => absurd ⟨⟨l1b, o0, o9⟩, tp, h9⟩ z)⟩
      rw [if_neg (by decide)]
      refine w_137 (fun _ _ => ?_) (fun z => absurd a3 z)
      rw [if_neg (by decide)]
      exact ⟨k9, f_218 (d := D) hr hp hx hb h9 o0 o9 mi1 hk1 mb1 (fun g2 hk2 tw => read g2 hk2 tw 64 0 (by decide) (by decide) rfl)⟩
  · refine pv hJ (-1) V T ?_ (fun g1 hi1 => ?_) Y
    · refine c_89 ⟨k0, f_90 (d := D + 6) hr hc cb hb (fun okk => ?_) (fun z => by rw [if_pos rfl])⟩
      rw [if_neg (by decide)]
      exact w_123 (fun a c => absurd ⟨okk, a, c⟩ ok) (fun z => by rw [if_pos rfl])
    · have mb1 : MBR 0 g1 b := mb.fr (fun i j hi => hi1 i j (by omega))
      refine c_221 ⟨k9, f_216 (d := D + 8) hr (eqk_hi hi1) mb1 hb (fun okk => ?_) (fun z => by rw [if_pos rfl])⟩
      rw [if_neg (by decide)]
      exact w_137 (fun a c => absurd ⟨okk, a, c⟩ ok) (fun z => by rw [if_pos rfl])
end SHP6
