/-! what a way grinds in a day: both sides -/
theorem wL_al (a c : Int) : wL (wL a + c) = wL (a + c) := by
  have h : Int64.ofInt (wL a + c) = Int64.ofInt (a + c) := by rw [Int64.ofInt_add, wL_of, ← Int64.ofInt_add]
  unfold wL at h ⊢
  rw [h]
theorem pop_mono : (List.range 64).all (fun t => (List.range 7).all (fun m => (List.range 7).all (fun j => decide (m ≤ j → popm (t : Int) m ≤ popm (t : Int) j)))) = true := by decide +kernel
theorem pop_le2 {t : Int} {m j : Nat} (t0 : 0 ≤ t) (t6 : t < 64) (h : m ≤ j) (j6 : j ≤ 6) : popm t m ≤ popm t j := by
  have k := of_decide_eq_true (List.all_eq_true.mp (List.all_eq_true.mp (List.all_eq_true.mp pop_mono t.toNat (List.mem_range.mpr (by omega))) m (List.mem_range.mpr (by omega))) j (List.mem_range.mpr (by omega)))
  rw [Int.toNat_of_nonneg t0] at k
  exact k h
section WAY
variable {sc : SCR} {d : Nat} {Q : QJ} {g r b gp : GH} {mm : Int → GH} {Pl : Int → Int → Int} {l0 l1 l2 l3 l4 l5 x s p a n m v w k t len opn on : Int}
theorem hrF_8 : ∀ (n : Nat) (m : Int) (b : GH) (on : Int), m + n = 6 → (∀ i j, j < m → i ≠ 0 → hrF gp mm Pl n m b on i j = b i j) ∧ ∀ k, m ≤ k → k < 6 → gp 167 k ≠ 0 → hrF gp mm Pl n m b on 8 k = wL (b 8 k + hrF gp mm Pl n m b on 14 k) := by
  intro n
  induction n with
  | zero =>
    intro m b on e
    exact ⟨fun i j _ z => up_i z, fun k a c => absurd c (by omega)⟩
  | succ n ih =>
    intro m b on e
    by_cases z : gp 167 m = 0
    · have h := ih (m + 1) b on (by omega)
      have u : hrF gp mm Pl (n + 1) m b on = hrF gp mm Pl n (m + 1) b on := by
        show (if gp 167 m = 0 then hrF gp mm Pl n (m + 1) b on else hrF gp mm Pl n (m + 1) (wyE gp mm Pl b m on) (b 7 m)) = _
        rw [if_pos z]
      rw [u]
      refine ⟨fun i j y q => h.1 i j (by omega) q, fun k a c q => h.2 k ?_ c q⟩
      have : k ≠ m := fun y => q (by rw [y]; exact z)
      omega
    · have h := ih (m + 1) (wyE gp mm Pl b m on) (b 7 m) (by omega)
      have u : hrF gp mm Pl (n + 1) m b on = hrF gp mm Pl n (m + 1) (wyE gp mm Pl b m on) (b 7 m) := by
        show (if gp 167 m = 0 then hrF gp mm Pl n (m + 1) b on else hrF gp mm Pl n (m + 1) (wyE gp mm Pl b m on) (b 7 m)) = _
        rw [if_neg z]
      rw [u]
      refine ⟨fun i j y q => (h.1 i j (by omega) q).trans (wy_c (by omega) (by omega)), fun k a c q => ?_⟩
      by_cases y : k = m
      · rw [y, h.1 8 m (by omega) (by decide), h.1 14 m (by omega) (by decide), wy_8 (Or.inl rfl), wy_x (Or.inr (Or.inr rfl))]
        unfold mlE
        rw [mlU_8, mlU_14]
      · rw [h.2 k (by omega) c q, wy_c (i := 8) (by omega) (by omega)]
theorem hr_8 (t : TM gp k) : hrE gp mm Pl b 8 k = wL (b 8 k + hrE gp mm Pl b 14 k) := by
  have h := (hrF_8 (gp := gp) (mm := mm) (Pl := Pl) 6 0 (up b 0 1 (wL (b 0 1 + cmE b))) (cmE b) (by decide)).2 k t.1 t.2.1 t.2.2
  rw [up_i (show (8 : Int) ≠ 0 by decide)] at h
  exact h
/-- so much ground in so many hours -/
def twN (gp : GH) (mm : Int → GH) (Pl : Int → Int → Int) (k : Int) : Nat → Int → GH → Int
  | 0, s, _ => s
  | n + 1, s, b => twN gp mm Pl k n (wL (s + hrE gp mm Pl b 14 k)) (hrE gp mm Pl b)
theorem tw_e (t : TM gp k) {c : Int} : ∀ (n : Nat) (s : Int) (b : GH), s = wL (b 8 k - c) → twN gp mm Pl k n s b = wL (hrN gp mm Pl n b 8 k - c) := by
  intro n
  induction n with
  | zero => intro s b e; exact e
  | succ n ih =>
    intro s b e
    show twN gp mm Pl k n (wL (s + hrE gp mm Pl b 14 k)) (hrE gp mm Pl b) = wL (hrN gp mm Pl n (hrE gp mm Pl b) 8 k - c)
    refine ih _ _ ?_
    rw [e, hr_8 t, wL_al, Int.sub_eq_add_neg, Int.sub_eq_add_neg, wL_al, show b 8 k + -c + hrE gp mm Pl b 14 k = b 8 k + hrE gp mm Pl b 14 k + -c by omega]
theorem hrN_b' (hp : PO gp mm) (hP : PLO Pl) : ∀ (n : Nat) (b : GH), HB b → b 0 0 + n ≤ 960 → HB (hrN gp mm Pl n b) ∧ hrN gp mm Pl n b 0 0 = b 0 0 + n := hrN_b hp hP
/-- what way w gives the mill of rank c -/
def ZE (gp : GH) (mm : Int → GH) (b : GH) (len opn w c : Int) : Int := wL (hrN gp mm (PSE (tbE gp) len opn w) 24 b 8 (mrE (tbE gp) c) - b 8 (mrE (tbE gp) c))
theorem ck_t (hr : RI r) (hc : COK gp mm r g) (k : Int) : TD g r k ↔ TM gp k := by
  constructor
  · intro y; exact ⟨y.1, y.2.1, fun z => y.2.2 ((ck_0 hr hc y.1 y.2.1).mpr z)⟩
  · intro y; exact ⟨y.1, y.2.1, fun z => y.2.2 ((ck_0 hr hc y.1 y.2.1).mp z)⟩
/-- from where the mills of lower rank are counted -/
def RKc (t m c : Int) : Prop := 0 ≤ c ∧ c ≤ 3 ∧ (c < 3 → popm t m.toNat = c) ∧ (c = 3 → 3 ≤ popm t m.toNat)
theorem rkc_s (t0 : 0 ≤ t) (t6 : t < 64) (m0 : 0 ≤ m) (m6 : m < 6) {c : Int} (c3 : c < 3) (h : RKc t m c) : (bitE t m = 0 → RKc t (m + 1) c) ∧ (bitE t m = 1 → RKc t (m + 1) (c + 1) ∧ mrE t c = m) := by
  have k := mk_at t0 t6 m0 m6
  obtain ⟨a, e, f, _⟩ := h
  have f := f c3
  have s := k.2.2.2
  have tn : (m + 1).toNat = m.toNat + 1 := by omega
  unfold RKc
  rw [tn]
  refine ⟨fun z => ⟨a, e, fun _ => by omega, fun y => by omega⟩, fun z => ⟨⟨by omega, by omega, fun _ => by omega, fun y => by omega⟩, ?_⟩⟩
  rw [← f]
  exact (k.1 ⟨z, by omega⟩).2.2
def P49 (t w m j : Int) : Int := if j < m then (if bitE t j = 1 ∧ popm t j.toNat < 3 then 6 * stE3 w (popm t j.toNat) else -1) else -1
/-- the days of a way laid and run, the class -/
theorem f_95 (hr : RI r) (hp : PO gp mm) (hx : MXA gp mm) (hc : COK gp mm r g) (hB : HB b) (h9 : b 0 0 ≤ 936) (cb : CBR 23 g b) (ru : RUL g) (o0 : 0 ≤ l2) (o9 : l2 ≤ 999) (w0 : 0 ≤ l3) (w6 : l3 < 64) (hq : ∀ g', COK gp mm r g' → CBR 23 g' b → RUL g' → (∀ c, 0 ≤ c → c < 3 → c < popm (tbE gp) 6 → g' 50 (3 * l3 + c) = ZE gp mm b l1 l2 l3 c) → (∀ j, ¬ (3 * l3 ≤ j ∧ j < 3 * l3 + 3) → g' 50 j = g 50 j) → Q 0 g' r) : Ce sc (d + 10) 95 [(2, 0), (0, l1), (0, l2), (0, l3)] g r Q := by
  have k0 : okr 218 0 8 := okd (by decide +kernel)
  have k23 : okr 218 23 0 := okd (by decide +kernel)
  have k34 : okr 218 34 0 := okd (by decide +kernel)
  have k48 : okr 218 48 4 := okd (by decide +kernel)
  have tb := tb_b gp
  have tt := fun g1 (h : COK gp mm r g1) (k : Int) => ck_t (k := k) hr h
  have PO' := ps_o (t := tbE gp) (len := l1) (opn := l2) (w := l3) o0 o9
  -- the last loop
  have l113 : ∀ (n : Nat) (m c : Int) (g1 : GH), 0 ≤ m → m + n = 6 → RKc (tbE gp) m c → COK gp mm r g1 → CBR 23 g1 b → CBR 34 g1 (hrN gp mm (PSE (tbE gp) l1 l2 l3) 24 b) → RUL g1 → (∀ e, 0 ≤ e → e < c → g1 50 (3 * l3 + e) = ZE gp mm b l1 l2 l3 e) → (∀ j, ¬ (3 * l3 ≤ j ∧ j < 3 * l3 + 3) → g1 50 j = g 50 j) → WQ sc (d + 9) 95 Q 113 [(2, 0), (9, 0), (9, 0), (0, l3), (0, c), (0, m), (9, 0)] [] g1 r := by
    intro n
    induction n with
    | zero =>
      intro m c g1 m0 e rk hc1 cb1 c34 ru1 v1 f1
      refine b_95_113 (ite_c (fun z => absurd z (by omega)) (fun _ => hq g1 hc1 cb1 ru1 (fun e e0 e3 ec => v1 e e0 ?_) f1))
      have m6 : m = 6 := by omega
      rw [m6] at rk
      have r1 := rk.2.2.1
      have r2 := rk.2.2.2
      have r0 := rk.2.1
      by_cases c3 : c < 3
      · have := r1 c3
        show e < c
        rw [show (6 : Int).toNat = 6 by decide] at this
        omega
      · omega
    | succ n ih =>
      intro m c g1 m0 e rk hc1 cb1 c34 ru1 v1 f1
      have r0 := rk.1
      refine b_95_113 (ite_c (fun _ => ite_c (fun c3 => ⟨k0, w_129 hr (fun t => ?_) (fun t => ?_)⟩) (fun c3 => hq g1 hc1 cb1 ru1 (fun e e0 e3 _ => v1 e e0 (by omega)) f1)) (fun z => absurd (by omega) z))
      · have tm := (tt g1 hc1 m).mp t
        have step := (rkc_s tb.1 tb.2 m0 (by omega) c3 rk).2 ((tb_1 gp m0 (by omega)).mpr tm.2.2)
        have iw : wr (wr (l3 * 3) + c) = 3 * l3 + c := by rw [wr_id (x := l3 * 3) ⟨by omega, by omega⟩, wr_id (x := l3 * 3 + c) ⟨by omega, by omega⟩]; omega
        rw [if_neg (mo_ne (hr.2.1 m t.1 t.2.1)), r_0_10 hr, iw, n_50, show wr (192 - 1) = 191 by decide, wr_id (x := m + 1) ⟨by omega, by omega⟩, wr_id (x := c + 1) ⟨by omega, by omega⟩]
        refine ⟨k0, by decide +kernel, w_123 (fun _ _ => ?_) (fun z => absurd ⟨by omega, by omega⟩ z)⟩
        rw [if_neg (by decide), r_0_10 hr, r_0_5 hr, r_0_4 hr, r_34_8 hr, r_23_8 hr]
        refine ⟨k0, k0, k34, i_39.mpr ⟨m0, by omega⟩, k0, k23, i_28.mpr ⟨m0, by omega⟩, i_50.mpr ⟨by omega, by omega⟩, fun g3 e3 => ?_⟩
        have e39 : g1 39 m = hrN gp mm (PSE (tbE gp) l1 l2 l3) 24 b 8 m := (c34.2.2 m m0 (by omega)).2.2.1
        have e28 : g1 28 m = b 8 m := (cb1.2.2 m m0 (by omega)).2.2.1
        have val : wL (g1 39 m - g1 28 m) = ZE gp mm b l1 l2 l3 c := by
          unfold ZE
          rw [e39, e28, step.2]
        rw [val] at e3
        refine ih (m + 1) (c + 1) g3 (by omega) (by omega) step.1 ?_ (cb1.fr (fun i j i0 i1 => by rw [e3, up_i (by omega)])) (c34.fr (fun i j i0 i1 => by rw [e3, up_i (by omega)])) (fun j j0 j1 => by rw [e3, up_i (by decide)]; exact ru1 j j0 j1) (fun e e0 e1 => ?_) (fun j hj => ?_)
        · refine hc1.eb hr (EB.e4 hr (EB.rf hc1.1) (fun i hi j => ?_))
          rw [e3, up_i]
          intro z
          rw [z] at hi
          exact absurd hi (by unfold F4 F3 SC BO; omega)
        · by_cases z : e = c
          · rw [z, e3, up_s]
          · rw [e3, up_j (by omega)]; exact v1 e e0 (by omega)
        · rw [e3, up_j (by omega)]; exact f1 j hj
      · have nt : ¬ TM gp m := fun y => t ((tt g1 hc1 m).mpr y)
        have z7 : gp 167 m = 0 := Decidable.byContradiction fun y => nt ⟨m0, by omega, y⟩
        have step := (rkc_s tb.1 tb.2 m0 (by omega) c3 rk).1 ((tb_0 gp m0 (by omega)).mpr z7)
        rw [if_pos rfl, wr_id (x := m + 1) ⟨by omega, by omega⟩]
        exact ih (m + 1) c g1 (by omega) (by omega) step hc1 cb1 c34 ru1 v1 f1
  -- the hours
  have l79 : ∀ (n : Nat) (h : Int) (g1 b1 : GH), 0 ≤ h → h + n = 24 → COK gp mm r g1 → CBR 23 g1 b → CBR 34 g1 b1 → HB b1 → b1 0 0 + n ≤ 960 → RUL g1 → PLC 48 g1 (PSE (tbE gp) l1 l2 l3) → hrN gp mm (PSE (tbE gp) l1 l2 l3) n b1 = hrN gp mm (PSE (tbE gp) l1 l2 l3) 24 b → (∀ j, g1 50 j = g 50 j) → WQ sc (d + 9) 95 Q 79 [(2, 0), (9, 0), (9, 0), (0, l3), (9, 0), (0, h), (9, 0)] [] g1 r := by
    intro n
    induction n with
    | zero =>
      intro h g1 b1 h0 e hc1 cb1 c34 hb1 h91 ru1 pl es f1
      have es' : b1 = hrN gp mm (PSE (tbE gp) l1 l2 l3) 24 b := es
      rw [es'] at c34
      refine b_95_79 (ite_c (fun z => absurd z (by omega)) (fun _ => l113 6 0 0 g1 (by decide) (by decide) ⟨by decide, by decide, fun _ => rfl, fun z => absurd z (by decide)⟩ hc1 cb1 c34 ru1 (fun e _ e1 => absurd e1 (by omega)) (fun j _ => f1 j)))
    | succ n ih =>
      intro h g1 b1 h0 e hc1 cb1 c34 hb1 h91 ru1 pl es f1
      refine b_95_79 (ite_c (fun _ => ⟨k0, k0, k0, ?_⟩) (fun z => absurd (by omega) z))
      rw [r_0_5 hr, r_0_1 hr, r_0_9 hr, wr_id (x := h + 1) ⟨by omega, by omega⟩]
      have q := hr_b hp PO' hb1 (by omega)
      refine ⟨k34, f_5 (mm := mm) (Pl := PSE (tbE gp) l1 l2 l3) (b := b1) (gp := gp) hr (Or.inr rfl) hp PO' hx (px2_48 hr) hc1 hb1 (by omega) c34 pl (fun g2 f2 e2 c2 _ => ?_)⟩
      exact ih (h + 1) g2 (hrE gp mm (PSE (tbE gp) l1 l2 l3) b1) (by omega) (by omega) (hc1.eb hr e2) (cb1.fr (fun i j i0 i1 => f2 i j (by omega) (by unfold BO; omega) (by unfold AK; omega))) c2 q.1 (by rw [q.2.1]; omega) (fun j j0 j1 => by rw [f2 47 j (by omega) (by unfold BO; omega) (by unfold AK; omega)]; exact ru1 j j0 j1) (f2.pl (Or.inr rfl) (Or.inr rfl) pl) es (fun j => (f2 50 j (by omega) (by unfold BO; omega) (by unfold AK; omega)).trans (f1 j))
  -- the plan is laid
  have go : ∀ g1, (∀ m, 0 ≤ m → m < 6 → g1 49 m = if bitE (tbE gp) m = 1 ∧ popm (tbE gp) m.toNat < 3 then 6 * stE3 l3 (popm (tbE gp) m.toNat) else -1) → g1 48 1 = l1 → g1 48 2 = l2 → (∀ i j, i ≠ 48 → i ≠ 49 → g1 i j = g i j) → okr 218 0 8 ∧ okr 218 0 8 ∧ okr 218 34 0 ∧ Ce sc (d + 9) 1 [(2, 34), (2, 23)] g1 r (fun _ g2 r2 => WQ sc (d + 9) 95 Q 79 [(2, 0), (9, 0), (9, 0), (0, l3), (9, 0), (0, 0), (9, 0)] [] g2 r2) := by
    intro g1 a49 a1 a2 fr
    refine ⟨k0, k0, k34, ?_⟩
    have hc1 : COK gp mm r g1 := by
      refine hc.eb hr (EB.e4 hr (EB.rf hc.1) (fun i hi j => fr i j ?_ ?_))
      · intro z; rw [z] at hi; exact absurd hi (by unfold F4 F3 SC BO; omega)
      · intro z; rw [z] at hi; exact absurd hi (by unfold F4 F3 SC BO; omega)
    have cb1 : CBR 23 g1 b := cb.fr (fun i j i0 i1 => fr i j (by omega) (by omega))
    refine f_1t (d := d + 8) (b := b) hr hc1 cb1 (fun j j0 j1 => by rw [fr 47 j (by decide) (by decide)]; exact ru j j0 j1) (fun g2 hc2 c34 ru2 f2 => ?_)
    refine l79 24 0 g2 b (by decide) (by decide) hc2 (cb1.fr (fun i j i0 i1 => f2 i j (by omega))) c34 hB (by omega) ru2 ?_ rfl (fun j => by rw [f2 50 j (by omega), fr 50 j (by decide) (by decide)])
    refine plc_ps tb.1 tb.2 w0 w6 o0 (fun m m0 m6 => ?_) ?_ ?_
    · rw [f2 49 m (by omega)]; exact a49 m m0 m6
    · rw [f2 48 1 (by omega)]; exact a1
    · rw [f2 48 2 (by omega)]; exact a2
  have l15 : ∀ (n : Nat) (m c : Int) (g1 : GH), 0 ≤ m → m + n = 6 → RKc (tbE gp) m c → (∀ j, 0 ≤ j → j < 6 → g1 49 j = P49 (tbE gp) l3 m j) → g1 48 1 = l1 → g1 48 2 = l2 → (∀ i j, i ≠ 48 → i ≠ 49 → g1 i j = g i j) → WQ sc (d + 9) 95 Q 15 [(2, 0), (9, 0), (9, 0), (0, l3), (0, c), (0, m), (9, 0)] [] g1 r := by
    intro n
    induction n with
    | zero =>
      intro m c g1 m0 e rk a49 a1 a2 fr
      refine b_95_15 (ite_c (fun z => absurd z (by omega)) (fun _ => ?_))
      rw [r_0_5 hr, r_0_4 hr]
      refine go g1 (fun j j0 j1 => ?_) a1 a2 fr
      rw [a49 j j0 j1]
      unfold P49
      rw [if_pos (by omega)]
    | succ n ih =>
      intro m c g1 m0 e rk a49 a1 a2 fr
      have r0 := rk.1
      refine b_95_15 (ite_c (fun _ => ite_c (fun c3 => ⟨k0, w_129 hr (fun t => ?_) (fun t => ?_)⟩) (fun c3 => ?_)) (fun z => absurd (by omega) z))
      · have hc1 : COK gp mm r g1 := by
          refine hc.eb hr (EB.e4 hr (EB.rf hc.1) (fun i hi j => fr i j ?_ ?_))
          · intro z; rw [z] at hi; exact absurd hi (by unfold F4 F3 SC BO; omega)
          · intro z; rw [z] at hi; exact absurd hi (by unfold F4 F3 SC BO; omega)
        have tm := (tt g1 hc1 m).mp t
        have bt := (tb_1 gp m0 (by omega)).mpr tm.2.2
        have step := (rkc_s tb.1 tb.2 m0 (by omega) c3 rk).2 bt
        have pc := rk.2.2.1 c3
        have sb := st_at w0 w6 r0 c3
        rw [if_neg (mo_ne (hr.2.1 m t.1 t.2.1)), r_0_9 hr]
        refine ⟨k0, k48, f_94 (d := d + 7) w0 w6 r0 c3 ?_⟩
        rw [r_48_0 hr, wr_id (x := 6 * stE3 l3 c) ⟨by omega, by omega⟩, wr_id (x := m + 1) ⟨by omega, by omega⟩, wr_id (x := c + 1) ⟨by omega, by omega⟩]
        refine ⟨i_49.mpr ⟨m0, by omega⟩, fun g3 e3 => ih (m + 1) (c + 1) g3 (by omega) (by omega) step.1 (fun j j0 j1 => ?_) (by rw [e3, up_i (by decide)]; exact a1) (by rw [e3, up_i (by decide)]; exact a2) (fun i j p q => by rw [e3, up_i q]; exact fr i j p q)⟩
        by_cases z : j = m
        · rw [z, e3, up_s]
          unfold P49
          rw [if_pos (by omega), if_pos ⟨bt, by omega⟩, pc]
        · rw [e3, up_j z, a49 j j0 j1]
          unfold P49
          by_cases y : j < m
          · rw [if_pos y, if_pos (show j < m + 1 by omega)]
          · rw [if_neg y, if_neg (by omega)]
      · have hc1 : COK gp mm r g1 := by
          refine hc.eb hr (EB.e4 hr (EB.rf hc.1) (fun i hi j => fr i j ?_ ?_))
          · intro z; rw [z] at hi; exact absurd hi (by unfold F4 F3 SC BO; omega)
          · intro z; rw [z] at hi; exact absurd hi (by unfold F4 F3 SC BO; omega)
        have nt : ¬ TM gp m := fun y => t ((tt g1 hc1 m).mpr y)
        have z7 : gp 167 m = 0 := Decidable.byContradiction fun y => nt ⟨m0, by omega, y⟩
        have bt := (tb_0 gp m0 (by omega)).mpr z7
        have step := (rkc_s tb.1 tb.2 m0 (by omega) c3 rk).1 bt
        rw [if_pos rfl, wr_id (x := m + 1) ⟨by omega, by omega⟩]
        refine ih (m + 1) c g1 (by omega) (by omega) step (fun j j0 j1 => ?_) a1 a2 fr
        rw [a49 j j0 j1]
        unfold P49
        by_cases y : j < m
        · rw [if_pos y, if_pos (show j < m + 1 by omega)]
        · by_cases z : j = m
          · rw [if_neg y, if_pos (by omega), if_neg (fun q => by rw [z, bt] at q; exact absurd q.1 (by decide))]
          · rw [if_neg y, if_neg (by omega)]
      · rw [r_0_5 hr, r_0_4 hr]
        refine go g1 (fun j j0 j1 => ?_) a1 a2 fr
        have p3 := rk.2.2.2 (by have := rk.2.1; omega)
        rw [a49 j j0 j1]
        unfold P49
        by_cases y : j < m
        · rw [if_pos y]
        · have pm := pop_le2 (t := tbE gp) (m := m.toNat) (j := j.toNat) tb.1 tb.2 (by omega) (by omega)
          rw [if_neg y, if_neg (fun q => by omega)]
  refine c_95 ⟨k0, ?_⟩
  rw [r_0_9 hr]
  refine ⟨k48, f_28 (d := d + 7) hr (fun g1 a49 a1 a2 fr => l15 6 0 0 g1 (by decide) (by decide) ⟨by decide, by decide, fun _ => rfl, fun z => absurd z (by decide)⟩ (fun j j0 j1 => ?_) a1 a2 fr)⟩
  rw [a49 j j0 j1]
  unfold P49
  rw [if_neg (by omega)]
end WAY
