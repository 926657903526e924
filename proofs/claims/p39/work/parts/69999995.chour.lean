/-! the class's hour is the pure hour -/
/-- brook x of the class holds the brook b -/
def CBR (x : Int) (g b : GH) : Prop := (g x 0 = b 0 0 ∧ g x 1 = b 0 1 ∧ g x 2 = b 0 2) ∧ (∀ j, 0 ≤ j → j < 40 → g (x + 1) j = b 4 j ∧ g (x + 2) j = b 5 j) ∧ (∀ j, 0 ≤ j → j < 6 → g (x + 3) j = b 6 j ∧ g (x + 4) j = b 7 j ∧ g (x + 5) j = b 8 j ∧ g (x + 6) j = b 9 j ∧ g (x + 7) j = b 10 j)
def BX (x : Int) : Prop := x = 23 ∨ x = 34 ∨ x = 132 ∨ x = 143 ∨ x = 154
/-- a brook and its arrays -/
def BRO (r : GH) (x : Int) : Prop := okr 218 x 0 ∧ (r x 4 = x + 1 ∧ r x 5 = x + 2 ∧ r x 6 = x + 3 ∧ r x 7 = x + 4 ∧ r x 8 = x + 5 ∧ r x 9 = x + 6 ∧ r x 10 = x + 7 ∧ r x 11 = x + 8 ∧ r x 12 = x + 9 ∧ r x 13 = x + 10) ∧ AL (x + 1) 11 40 ∧ AL (x + 2) 11 40 ∧ AL (x + 3) 11 6 ∧ AL (x + 4) 11 6 ∧ AL (x + 5) 12 6 ∧ AL (x + 6) 11 6 ∧ AL (x + 7) 11 6 ∧ AL (x + 8) 11 6 ∧ AL (x + 9) 11 6 ∧ AL (x + 10) 11 6
theorem bro_of {r : GH} {x : Int} (hr : RI r) (h : BX x) : BRO r x := by
  rcases h with rfl | rfl | rfl | rfl | rfl
  · exact ⟨okd (by decide +kernel), ⟨r_23_4 hr, r_23_5 hr, r_23_6 hr, r_23_7 hr, r_23_8 hr, r_23_9 hr, r_23_10 hr, r_23_11 hr, r_23_12 hr, r_23_13 hr⟩, ⟨okd (by decide +kernel), n_24⟩, ⟨okd (by decide +kernel), n_25⟩, ⟨okd (by decide +kernel), n_26⟩, ⟨okd (by decide +kernel), n_27⟩, ⟨okd (by decide +kernel), n_28⟩, ⟨okd (by decide +kernel), n_29⟩, ⟨okd (by decide +kernel), n_30⟩, ⟨okd (by decide +kernel), n_31⟩, ⟨okd (by decide +kernel), n_32⟩, ⟨okd (by decide +kernel), n_33⟩⟩
  · exact ⟨okd (by decide +kernel), ⟨r_34_4 hr, r_34_5 hr, r_34_6 hr, r_34_7 hr, r_34_8 hr, r_34_9 hr, r_34_10 hr, r_34_11 hr, r_34_12 hr, r_34_13 hr⟩, ⟨okd (by decide +kernel), n_35⟩, ⟨okd (by decide +kernel), n_36⟩, ⟨okd (by decide +kernel), n_37⟩, ⟨okd (by decide +kernel), n_38⟩, ⟨okd (by decide +kernel), n_39⟩, ⟨okd (by decide +kernel), n_40⟩, ⟨okd (by decide +kernel), n_41⟩, ⟨okd (by decide +kernel), n_42⟩, ⟨okd (by decide +kernel), n_43⟩, ⟨okd (by decide +kernel), n_44⟩⟩
  · exact ⟨okd (by decide +kernel), ⟨r_132_4 hr, r_132_5 hr, r_132_6 hr, r_132_7 hr, r_132_8 hr, r_132_9 hr, r_132_10 hr, r_132_11 hr, r_132_12 hr, r_132_13 hr⟩, ⟨okd (by decide +kernel), n_133⟩, ⟨okd (by decide +kernel), n_134⟩, ⟨okd (by decide +kernel), n_135⟩, ⟨okd (by decide +kernel), n_136⟩, ⟨okd (by decide +kernel), n_137⟩, ⟨okd (by decide +kernel), n_138⟩, ⟨okd (by decide +kernel), n_139⟩, ⟨okd (by decide +kernel), n_140⟩, ⟨okd (by decide +kernel), n_141⟩, ⟨okd (by decide +kernel), n_142⟩⟩
  · exact ⟨okd (by decide +kernel), ⟨r_143_4 hr, r_143_5 hr, r_143_6 hr, r_143_7 hr, r_143_8 hr, r_143_9 hr, r_143_10 hr, r_143_11 hr, r_143_12 hr, r_143_13 hr⟩, ⟨okd (by decide +kernel), n_144⟩, ⟨okd (by decide +kernel), n_145⟩, ⟨okd (by decide +kernel), n_146⟩, ⟨okd (by decide +kernel), n_147⟩, ⟨okd (by decide +kernel), n_148⟩, ⟨okd (by decide +kernel), n_149⟩, ⟨okd (by decide +kernel), n_150⟩, ⟨okd (by decide +kernel), n_151⟩, ⟨okd (by decide +kernel), n_152⟩, ⟨okd (by decide +kernel), n_153⟩⟩
  · exact ⟨okd (by decide +kernel), ⟨r_154_4 hr, r_154_5 hr, r_154_6 hr, r_154_7 hr, r_154_8 hr, r_154_9 hr, r_154_10 hr, r_154_11 hr, r_154_12 hr, r_154_13 hr⟩, ⟨okd (by decide +kernel), n_155⟩, ⟨okd (by decide +kernel), n_156⟩, ⟨okd (by decide +kernel), n_157⟩, ⟨okd (by decide +kernel), n_158⟩, ⟨okd (by decide +kernel), n_159⟩, ⟨okd (by decide +kernel), n_160⟩, ⟨okd (by decide +kernel), n_161⟩, ⟨okd (by decide +kernel), n_162⟩, ⟨okd (by decide +kernel), n_163⟩, ⟨okd (by decide +kernel), n_164⟩⟩
/-- the arrays that rules are asked by -/
def AK (i : Int) : Prop := i = 17 ∨ i = 76 ∨ i = 87 ∨ i = 98 ∨ i = 109 ∨ i = 120 ∨ i = 131
theorem mo_ak {M : Int} (h : MO M) : AK (M + 10) ∧ ¬ F4 (M + 10) := by
  unfold AK F4 F3 SC BO
  unfold MO at h
  omega
theorem mo_f3m {M i : Int} (h : MO M) (hi : i = M ∨ i = M + 1 ∨ (M + 6 ≤ i ∧ i ≤ M + 9)) : F3 i := by
  unfold F3 SC
  unfold MO at h
  omega
theorem bx_nf4 {x i : Int} (h : x = 23 ∨ x = 34) (i0 : x ≤ i) (i1 : i ≤ x + 10) : ¬ F4 i := by
  unfold F4 F3 SC BO
  omega
theorem mo_ap {M x : Int} (h : MO M) (hx : x = 23 ∨ x = 34) : M + 10 < x ∨ x + 10 < M := by
  unfold MO at h
  omega
/-- the mills told as the class keeps them -/
def COK (gp : GH) (mm : Int → GH) (r g : GH) : Prop := T4 r (TM gp) (MWh gp) g ∧ ∀ k, TM gp k → g (r 6 k) 0 ≠ 0 ∧ MC (r 6 k) g (mm k)
theorem COK.eb {gp g g' r : GH} {mm : Int → GH} (hr : RI r) (h : COK gp mm r g) (e : EB r (TM gp) (MWh gp) g g') : COK gp mm r g' := ⟨e.2, fun k t => by
  have hm := hr.2.1 k t.1 t.2.1
  obtain ⟨a, c⟩ := h.2 k t
  exact ⟨by rw [e.1 _ (mo_f3m hm (Or.inl rfl)) 0]; exact a, c.eq (fun i j hi => e.1 i (mo_f3m hm hi) j)⟩⟩
/-- what an hour of brook x writes -/
def FHC (x : Int) (g g' : GH) : Prop := ∀ i j, (i < x ∨ x + 10 < i ∨ (i = x ∧ j = 3)) → ¬ BO i → ¬ AK i → g' i j = g i j
theorem FHC.rf (x : Int) (g : GH) : FHC x g g := fun _ _ _ _ _ => rfl
theorem FHC.tr {x : Int} {a b c : GH} (h : FHC x a b) (k : FHC x b c) : FHC x a c := fun i j p q s => (k i j p q s).trans (h i j p q s)
/-- what a mill's turn writes -/
def FP7 (M m x : Int) (g g' : GH) : Prop := ∀ i j, ¬ (M + 2 ≤ i ∧ i ≤ M + 5) → i ≠ M + 10 → ¬ ((i = x + 3 ∨ i = x + 5 ∨ i = x + 6 ∨ i = x + 7 ∨ i = x + 9) ∧ j = m) → g' i j = g i j
theorem FP7.fhc {M m x : Int} {g g' : GH} (h : FP7 M m x g g') (hM : MO M) : FHC x g g' := fun i j p q s => h i j (fun z => q (by unfold BO; unfold MO at hM; omega)) (fun z => s (by unfold AK; unfold MO at hM; omega)) (by omega)
/-- the plan of the class -/
def PLC (p : Int) (g : GH) (Pl : Int → Int → Int) : Prop := ∀ m h, 0 ≤ m → m < 6 → 0 ≤ h → h < 24 → (g (p + 1) m = -1 → Pl m h = -1) ∧ (g (p + 1) m ≠ -1 → 0 ≤ g (p + 1) m ∧ g (p + 1) m ≤ 18 ∧ 0 ≤ g p 2 ∧ Pl m h = if (h - g (p + 1) m) % 24 < g p 1 then g p 2 else 0)
theorem PLC.e {p : Int} {g g' : GH} {Pl : Int → Int → Int} (h : PLC p g Pl) (e : ∀ i j, i = p ∨ i = p + 1 → g' i j = g i j) : PLC p g' Pl := fun m t m0 m6 t0 t1 => by
  rw [e (p + 1) _ (Or.inr rfl), e p 1 (Or.inl rfl), e p 2 (Or.inl rfl)]; exact h m t m0 m6 t0 t1
def PX2 (r : GH) (p : Int) : Prop := (p = 46 ∨ p = 48) ∧ okr 218 p 4 ∧ r p 0 = p + 1 ∧ AL (p + 1) 11 6
theorem px2_46 {r : GH} (hr : RI r) : PX2 r 46 := ⟨Or.inl rfl, okd (by decide +kernel), r_46_0 hr, ⟨okd (by decide +kernel), n_47⟩⟩
theorem px2_48 {r : GH} (hr : RI r) : PX2 r 48 := ⟨Or.inr rfl, okd (by decide +kernel), r_48_0 hr, ⟨okd (by decide +kernel), n_49⟩⟩
theorem FHC.pl {x p : Int} {g g' : GH} {Pl : Int → Int → Int} (h : FHC x g g') (hx : x = 23 ∨ x = 34) (hp : p = 46 ∨ p = 48) (pl : PLC p g Pl) : PLC p g' Pl := pl.e (fun i j hi => h i j (by omega) (by unfold BO; omega) (by unfold AK; omega))
theorem fm_all : (List.range 49).all (fun k => decide ((if i_xor ((k : Int) - 24) 24 < 0 then (if ((k : Int) - 24).tmod 24 = 0 then ((k : Int) - 24).tmod 24 else wr (((k : Int) - 24).tmod 24 + 24)) else ((k : Int) - 24).tmod 24) = ((k : Int) - 24) % 24)) = true := by decide +kernel
theorem fm_at {x : Int} (h0 : -24 ≤ x) (h1 : x ≤ 24) : (if i_xor x 24 < 0 then (if x.tmod 24 = 0 then x.tmod 24 else wr (x.tmod 24 + 24)) else x.tmod 24) = x % 24 := by
  have h := of_decide_eq_true (List.all_eq_true.mp fm_all (x + 24).toNat (List.mem_range.mpr (by omega)))
  rw [Int.toNat_of_nonneg (by omega), show x + 24 - 24 = x by omega] at h
  exact h
section CHR
variable {sc : SCR} {d : Nat} {Q : QJ} {g r gp b : GH} {mm : Int → GH} {Pl : Int → Int → Int} {l0 l1 l2 l3 l4 l5 l6 l7 l8 l9 l11 l12 x p m on M : Int}
theorem w_247 (h0 : -24 ≤ l0) (h1 : l0 ≤ 24) (hq : Q (l0 % 24) g r) : Ce sc (d + 1) 247 [(0, l0), (0, 24)] g r Q := by
  have h := fm_at h0 h1
  refine c_247 ⟨by decide, ite_c (fun z => ite_c (fun y => ?_) (fun y => ?_)) (fun z => ?_)⟩
  · rw [if_pos z, if_pos y] at h; rw [h]; exact hq
  · rw [if_pos z, if_neg y] at h; rw [h]; exact hq
  · rw [if_neg z] at h; rw [h]; exact hq
theorem f_29 (hp : PX2 r p) (pl : PLC p g Pl) (m0 : 0 ≤ l1) (m6 : l1 < 6) (h0 : 0 ≤ l2) (h1 : l2 < 24) (hq : Q (Pl l1 l2) g r) : Ce sc (d + 2) 29 [(2, p), (0, l1), (0, l2)] g r Q := by
  obtain ⟨q1, q2⟩ := pl l1 l2 m0 m6 h0 h1
  have k := hp.2.1
  refine c_29 (ite_c (fun z => absurd z (by omega)) (fun _ => ⟨k, ?_⟩))
  rw [hp.2.2.1, hp.2.2.2.2]
  refine ⟨hp.2.2.2.a (by decide) (by decide), ite_c (fun _ => ⟨k, hp.2.2.2.i m0 m6, ite_c (fun z => ?_) (fun z => ⟨k, hp.2.2.2.i m0 m6, ?_⟩)⟩) (fun z => absurd m6 z)⟩
  · rw [q1 z] at hq; exact hq
  · obtain ⟨a, c, e, f⟩ := q2 z
    rw [f] at hq
    rw [wr_id (x := l2 - g (p + 1) l1) ⟨by omega, by omega⟩]
    refine w_247 (by omega) (by omega) ⟨k, ite_c (fun y => ⟨k, ?_⟩) (fun y => ?_)⟩
    · rw [if_pos y] at hq; exact hq
    · rw [if_neg y] at hq; exact hq
theorem f_4 (k : okr 218 x 0) (e : g x 0 = b 0 0) (h0 : 0 ≤ b 0 0) (h9 : b 0 0 ≤ 959) (hq : Q (b 0 0 / 24) g r) : Ce sc (d + 2) 4 [(2, x)] g r Q := by
  refine c_4 ⟨k, by decide, ?_⟩
  rw [e, Int.tdiv_eq_ediv_of_nonneg h0, wr_id (x := b 0 0 / 24) ⟨by omega, by omega⟩]
  have fin : ∀ v, v = b 0 0 / 24 → Ce sc (d + 1) 248 [(0, 0), (0, v)] g r (fun v2 g2 r2 => Q v2 g2 r2) := fun v ev => by
    rw [ev]
    refine w_248 (fun q => ?_) (fun _ => hq)
    rw [show (0 : Int) = b 0 0 / 24 by omega]; exact hq
  exact w_250 (fun q => fin _ (by omega)) (fun _ => fin _ rfl)
theorem f_22 (k : okr 218 M 2) {R : Int} (e : g M 2 = R) (r1 : 1 ≤ R) (p0 : 0 ≤ l1) (p9 : l1 ≤ 9999) (hq : Q (l1 * 100 / R) g r) : Ce sc (d + 1) 22 [(2, M), (0, l1)] g r Q := by
  refine c_22 ⟨k, ?_⟩
  have q := tdb (x := l1 * 100) (m := R) (by omega) (by omega)
  rw [e, wr_id (x := l1 * 100) ⟨by omega, by omega⟩, q.1, wr_id (x := l1 * 100 / R) ⟨by omega, by omega⟩]
  exact ite_c (fun z => absurd z (by omega)) (fun _ => ⟨k, by omega, hq⟩)
theorem nxE_s {k : Int} (k0 : 0 ≤ k) (k5 : k ≤ 5) : nxE gp (k - 1) = if gp 167 k = 0 then nxE gp k else k := by
  unfold nxE
  rw [show (5 - (k - 1)).toNat = (5 - k).toNat + 1 by omega, show k - 1 + 1 = k by omega]
  rfl
/-- the last mill told -/
def LA (gp : GH) (v : Int) : Prop := (v = -1 ∧ ∀ j, 0 ≤ j → j < 6 → gp 167 j = 0) ∨ (0 ≤ v ∧ v < 6 ∧ gp 167 v ≠ 0 ∧ ∀ j, v < j → j < 6 → gp 167 j = 0)
theorem ck_0 (hr : RI r) (hc : COK gp mm r g) {k : Int} (k0 : 0 ≤ k) (k6 : k < 6) : g (r 6 k) 0 = 0 ↔ gp 167 k = 0 := by
  constructor
  · intro z
    exact Decidable.byContradiction fun y => (hc.2 k ⟨k0, k6, y⟩).1 z
  · intro z
    exact Decidable.byContradiction fun y => ((hc.1 k k0 k6).1 y).2.2 z
theorem ck_m (hr : RI r) (hp : PO gp mm) (hx : MXA gp mm) (hc : COK gp mm r g) {k : Int} (t : TM gp k) : g (r 6 k) 2 = gp 175 k ∧ g (r 6 k) 3 = gp 176 k := by
  obtain ⟨m1, _⟩ := hx k t
  obtain ⟨_, mc⟩ := hc.2 k t
  obtain ⟨_, _, _, _, _, _, _, a7, a8, _⟩ := mc
  exact ⟨a7.trans (m1 7 (by decide) (by decide)).symm, a8.trans (m1 8 (by decide) (by decide)).symm⟩
theorem f_6 (hr : RI r) (hb : BRO r x) (hp : PO gp mm) (hx : MXA gp mm) (hc : COK gp mm r g) (hB : HB b) (cb : CBR x g b) (hx2 : x = 23 ∨ x = 34) (hq : ∀ v g', (∀ i j, i ≠ x + 10 → g' i j = g i j) → (∀ k, TM gp k → g' (x + 10) k = lvE gp b (nxE gp k)) → LA gp v → Q v g' r) : Ce sc (d + 2) 6 [(2, x), (2, 6)] g r Q := by
  have kx := hb.1
  obtain ⟨e4, e5, e6, e7, e8, e9, e10, e11, e12, e13⟩ := hb.2.1
  have A3 := hb.2.2.2.2.1
  have A10 := hb.2.2.2.2.2.2.2.2.2.2.2
  have a6 := a_6.mpr trivial
  have loop : ∀ (n : Nat) (i l2 : Int) (g1 : GH), i + 1 = n → i ≤ 5 → (∀ i j, i ≠ x + 10 → g1 i j = g i j) → (∀ k, i < k → TM gp k → g1 (x + 10) k = lvE gp b (nxE gp k)) → ((l2 = -1 ∧ ∀ j, i < j → j < 6 → gp 167 j = 0) ∨ (i < l2 ∧ l2 < 6 ∧ gp 167 l2 ≠ 0 ∧ ∀ j, l2 < j → j < 6 → gp 167 j = 0)) → WQ sc (d + 1) 6 Q 7 [(2, x), (2, 6), (0, l2), (0, lvE gp b (nxE gp i)), (0, i), (9, 0)] [] g1 r := by
    intro n
    induction n with
    | zero =>
      intro i l2 g1 e i5 fr rw1 la
      have ei : i = -1 := by omega
      refine b_6_7 (ite_c (fun _ => hq l2 g1 fr (fun k t => rw1 k (by have := t.1; omega) t) ?_) (fun z => absurd (by omega) z))
      rcases la with ⟨a, c⟩ | ⟨a, c, f, h⟩
      · exact Or.inl ⟨a, fun j j0 j1 => c j (by omega) j1⟩
      · exact Or.inr ⟨by omega, c, f, h⟩
    | succ n ih =>
      intro i l2 g1 e i5 fr rw1 la
      have i0 : 0 ≤ i := by omega
      have hm := hr.2.1 i i0 (by omega)
      have w1 : wr (i + (-1)) = i - 1 := by rw [wr_id ⟨by omega, by omega⟩]; omega
      have ap := mo_ap hm hx2
      have ne10 : r 6 i ≠ x + 10 := by omega
      have eq0 : g1 (r 6 i) 0 = g (r 6 i) 0 := fr _ _ ne10
      have c0 := ck_0 hr hc i0 (by omega)
      refine b_6_7 (ite_c (fun z => absurd z (by omega)) (fun _ => ⟨a6, ?_⟩))
      rw [n_6]
      refine ite_c (fun _ => ⟨Or.inl (i_6.mpr ⟨i0, by omega⟩), b_6_27 (ite_c (fun z => absurd z (mo_ne hm)) (fun _ => ⟨mo_ok hm, ?_⟩))⟩) (fun z => absurd (by omega) z)
      have ns := nxE_s (gp := gp) i0 i5
      rw [w1]
      refine ite_c (fun z => ?_) (fun z => ?_)
      · rw [eq0] at z
        have zz := c0.mp z
        rw [if_pos zz] at ns
        rw [← ns]
        refine ih (i - 1) l2 g1 (by omega) (by omega) fr (fun k ki t => rw1 k (by
          have : k ≠ i := fun y => t.2.2 (by rw [y]; exact zz)
          omega) t) ?_
        rcases la with ⟨a, c⟩ | ⟨a, c, f, h⟩
        · refine Or.inl ⟨a, fun j j0 j1 => ?_⟩
          by_cases y : j = i
          · rw [y]; exact zz
          · exact c j (by omega) j1
        · exact Or.inr ⟨by omega, c, f, h⟩
      · rw [eq0] at z
        have zz : gp 167 i ≠ 0 := fun y => z (c0.mpr y)
        have t : TM gp i := ⟨i0, by omega, zz⟩
        rw [if_neg zz] at ns
        obtain ⟨_, r1, _, _⟩ := hp i t
        have hp6 := (hB.2.2 i i0 (by omega)).1
        have cm := ck_m hr hp hx hc t
        have nx : ∀ l2', ((l2' = -1 ∧ ∀ j, i - 1 < j → j < 6 → gp 167 j = 0) ∨ (i - 1 < l2' ∧ l2' < 6 ∧ gp 167 l2' ≠ 0 ∧ ∀ j, l2' < j → j < 6 → gp 167 j = 0)) → okr 218 x 0 ∧ okI 218 (r x 13) 11 i ∧ ∀ g2, g2 = up g1 (r x 13) i (lvE gp b (nxE gp i)) → okr 218 x 0 ∧ okI 218 (r x 6) 11 i ∧ okr 218 (r 6 i) 2 ∧ Ce sc (d + 1) 22 [(2, r 6 i), (0, g2 (r x 6) i)] g2 r fun v1 g3 r1 => WQ sc (d + 1) 6 Q 7 [(2, x), (2, 6), (0, l2'), (0, v1), (0, i - 1), (9, 0)] [] g3 r1 := fun l2' la' => by
          rw [e13, e6]
          refine ⟨kx, A10.i i0 (by omega), fun g2 x2 => ⟨kx, A3.i i0 (by omega), mo_ok hm, ?_⟩⟩
          have fr2 : ∀ i j, i ≠ x + 10 → g2 i j = g i j := fun i' j' h => by rw [x2, up_i h]; exact fr i' j' h
          have v6 : g2 (x + 3) i = b 6 i := (fr2 _ _ (by omega)).trans (cb.2.2 i i0 (by omega)).1
          rw [v6]
          refine f_22 (R := gp 175 i) (mo_ok hm) ((fr2 _ _ ne10).trans cm.1) r1.1 hp6.1 hp6.2 ?_
          have el : b 6 i * 100 / gp 175 i = lvE gp b (nxE gp (i - 1)) := by
            rw [ns]
            unfold lvE
            rw [if_neg (by omega)]
          rw [el]
          refine ih (i - 1) l2' g2 (by omega) (by omega) fr2 (fun k ki tk => ?_) la'
          by_cases y : k = i
          · rw [y, x2, up_s]
          · rw [x2, up_j y]; exact rw1 k (by omega) tk
        refine ite_c (fun y => nx i ?_) (fun y => nx l2 ?_)
        · refine Or.inr ⟨by omega, by omega, zz, fun j j0 j1 => ?_⟩
          rcases la with ⟨a, c⟩ | ⟨a, c, f, h⟩
          · exact c j j0 j1
          · omega
        · rcases la with ⟨a, c⟩ | ⟨a, c, f, h⟩
          · exact absurd a y
          · exact Or.inr ⟨by omega, c, f, h⟩
  have l5 : lvE gp b (nxE gp 5) = 0 := by
    have : nxE gp 5 = -1 := rfl
    rw [this]
    exact if_pos (by decide)
  have := loop 6 5 (-1) g (by decide) (by decide) (fun _ _ _ => rfl) (fun k k5 t => absurd t.2.1 (by omega)) (Or.inl ⟨rfl, fun j j0 j1 => absurd j1 (by omega)⟩)
  rw [l5] at this
  exact c_6 this
theorem CBR.ml {g' : GH} {o P G a8 a9 a10 : Int} (cb : CBR x g b) (f : ∀ i j, x ≤ i → i ≤ x + 7 → ¬ ((i = x + 3 ∨ i = x + 5 ∨ i = x + 6 ∨ i = x + 7) ∧ j = m) → g' i j = g i j) (v3 : g' (x + 3) m = P) (v5 : g' (x + 5) m = a8) (v6 : g' (x + 6) m = a9) (v7 : g' (x + 7) m = a10) : CBR x g' (mlU b m on o P G a8 a9 a10) := by
  obtain ⟨⟨q1, q2, q3⟩, q4, q5⟩ := cb
  refine ⟨⟨?_, ?_, ?_⟩, fun j j0 j1 => ?_, fun j j0 j1 => ?_⟩
  · rw [mlU_o (by omega), f x _ (by omega) (by omega) (by omega)]; exact q1
  · rw [mlU_o (by omega), f x _ (by omega) (by omega) (by omega)]; exact q2
  · rw [mlU_o (by omega), f x _ (by omega) (by omega) (by omega)]; exact q3
  · rw [mlU_o (by omega), mlU_o (by omega), f (x + 1) _ (by omega) (by omega) (by omega), f (x + 2) _ (by omega) (by omega) (by omega)]; exact q4 j j0 j1
  · by_cases z : j = m
    · subst z
      refine ⟨?_, ?_, ?_, ?_, ?_⟩
      · rw [v3]; exact mlU_6.symm
      · rw [mlU_o (by omega), f (x + 4) _ (by omega) (by omega) (by omega)]; exact (q5 j j0 j1).2.1
      · rw [v5]; exact mlU_8.symm
      · rw [v6]; exact mlU_9.symm
      · rw [v7]; exact mlU_10.symm
    · rw [mlU_o (by omega), mlU_o (by omega), mlU_o (by omega), mlU_o (by omega), mlU_o (by omega), f (x + 3) _ (by omega) (by omega) (by omega), f (x + 4) _ (by omega) (by omega) (by omega), f (x + 5) _ (by omega) (by omega) (by omega), f (x + 6) _ (by omega) (by omega) (by omega), f (x + 7) _ (by omega) (by omega) (by omega)]
      exact q5 j j0 j1
theorem ap_x {M i : Int} (ap : M + 10 < x ∨ x + 10 < M) (i0 : x ≤ i) (i1 : i ≤ x + 10) : ¬ (M + 2 ≤ i ∧ i ≤ M + 5) ∧ i ≠ M + 10 := by omega
theorem ap_h {i j : Int} (i1 : i ≤ x + 7) (h : ¬ ((i = x + 3 ∨ i = x + 5 ∨ i = x + 6 ∨ i = x + 7) ∧ j = m)) : ¬ ((i = x + 3 ∨ i = x + 5 ∨ i = x + 6 ∨ i = x + 7 ∨ i = x + 9) ∧ j = m) := by omega
theorem f_7c {ov th wd lt e b9 b10 : Int} (kx : okr 218 x 0) (e10 : r x 10 = x + 7) (A6 : AL (x + 6) 11 6) (A7 : AL (x + 7) 11 6) (m0 : 0 ≤ m) (m6 : m < 6) (v7 : g (x + 7) m = b10) (elt : wr (ov + th) = lt) (hq : ∀ g', (∀ i j, ¬ ((i = x + 6 ∨ i = x + 7) ∧ j = m) → g' i j = g i j) → g' (x + 6) m = wr (b9 + e) → g' (x + 7) m = wr (b10 + (if 0 < th ∧ 0 < wd then 1 else 0)) → Q lt g' r) : WQ sc d 7 Q 225 [(2, x), (9, 0), (0, m), (9, 0), (0, ov), (9, 0), (9, 0), (9, 0), (0, th), (0, wd), (9, 0), (9, 0), (9, 0)] [(0, e), (0, b9), (0, m), (2, x + 6)] g r := by
  refine b_7_225 ⟨A6.i m0 m6, fun g8 x8 => ⟨kx, ?_⟩⟩
  rw [e10]
  have w7 : g8 (x + 7) m = b10 := by rw [x8, up_i (by omega)]; exact v7
  rw [w7, elt]
  have fin : ∀ e2 : Int, e2 = (if 0 < th ∧ 0 < wd then 1 else 0) → okI 218 (x + 7) 11 m ∧ ∀ g9, g9 = up g8 (x + 7) m (wr (b10 + e2)) → Q lt g9 r := fun e2 ee2 => by
    refine ⟨A7.i m0 m6, fun g9 x9 => hq g9 (fun i j h => ?_) ?_ ?_⟩
    · rw [x9, up_o (by omega), x8, up_o (by omega)]
    · rw [x9, up_i (by omega), x8, up_s]
    · rw [x9, up_s, ee2]
  refine ⟨A7.i m0 m6, ite_c (fun z => ite_c (fun y => fin 1 ?_) (fun y => fin 0 ?_)) (fun z => fin 0 ?_)⟩
  · rw [if_pos ⟨z, y⟩]
  · rw [if_neg (fun s => y s.2)]
  · rw [if_neg (fun s => z s.1)]
theorem f_7b {ov o st th wd nl und : Int} (hr : RI r) (hb : BRO r x) (hx2 : x = 23 ∨ x = 34) (t : TM gp m) (wb : WBd (MWh gp m)) (hT : T4 r (TM gp) (MWh gp) g) (cm3 : g (r 6 m) 3 = nl) (n0 : 0 ≤ nl ∧ nl ≤ 100) (b10 : g (x + 10) m = und) (u0 : 0 ≤ und ∧ und ≤ 999900) (o0 : 0 ≤ o) (s0 : 0 ≤ st ∧ st ≤ 9999) (ov0 : 0 ≤ ov ∧ ov ≤ 200000) (et : th = if o < st then o else st) (ew : wd = if nl < und then und - nl else 0) (hq : ∀ g', FP7 (r 6 m) m x g g' → EB r (TM gp) (MWh gp) g g' → g' (x + 3) m = st - th → g' (x + 5) m = wL (g (x + 5) m + grV gp m th wd) → g' (x + 6) m = wr (g (x + 6) m + (if 0 < grV gp m th wd then 1 else 0)) → g' (x + 7) m = wr (g (x + 7) m + (if 0 < th ∧ 0 < wd then 1 else 0)) → g' (x + 9) m = o → Q (ov + th) g' r) : WQ sc (d + 6) 7 Q 113 [(2, x), (2, r 6 m), (0, m), (9, 0), (0, ov), (0, st), (9, 0), (0, o), (9, 0), (9, 0), (9, 0), (9, 0), (9, 0)] [] g r := by
  have kx := hb.1
  obtain ⟨e4, e5, e6, e7, e8, e9, e10, e11, e12, e13⟩ := hb.2.1
  obtain ⟨A1, A2, A3, A4, A5, A6, A7, A8, A9, A10⟩ := hb.2.2
  have m0 := t.1
  have m6 := t.2.1
  have hM := hr.2.1 m m0 m6
  have kM := mo_ok hM
  have ap := mo_ap hM hx2
  have th0 : 0 ≤ th ∧ th ≤ st := by
    rw [et]
    split <;> omega
  have wd0 : 0 ≤ wd ∧ wd ≤ 999900 := by
    rw [ew]
    split <;> omega
  have q := tdb (x := 100 * th) (m := 60) (by omega) (by decide)
  have fl : wr ((wr (100 * th)).tdiv 60) = 100 * th / 60 := by
    rw [wr_id (x := 100 * th) ⟨by omega, by omega⟩, q.1, wr_id (x := 100 * th / 60) ⟨by omega, by omega⟩]
  have fl9 : 0 ≤ 100 * th / 60 ∧ 100 * th / 60 ≤ 99999 := by omega
  have wst : wr (st - th) = st - th := wr_id ⟨by omega, by omega⟩
  have wov : wr (ov + th) = ov + th := wr_id ⟨by omega, by omega⟩
  have wun : wr (und - nl) = und - nl := wr_id ⟨by omega, by omega⟩
  clear q
  refine b_7_113 ⟨kx, ?_⟩
  rw [e12]
  refine ⟨A9.i m0 m6, fun g2 x2 => ?_⟩
  have main : okr 218 x 0 ∧ okI 218 (r x 6) 11 m ∧ ∀ g3, g3 = up g2 (r x 6) m (wr (st - th)) → okr 218 x 0 ∧ okI 218 (r x 13) 11 m ∧ okr 218 (r 6 m) 2 ∧ Ce sc (d + 6) 248 [(0, 0), (0, wr ((g3 (r x 13) m) - (g3 (r 6 m) 3)))] g3 r fun v2 g4 r2 => (60 : Int) ≠ 0 ∧ Ce sc (d + 6) 250 [(0, 99999), (0, wr ((wr (100 * th)).tdiv 60))] g4 r2 fun v3 g5 r3 => okr 218 (r 6 m) 2 ∧ okr 218 (r 6 m) 2 ∧ okr 218 (r3 (r 6 m) 1) 7 ∧ okr 218 (r3 (r 6 m) 1) 7 ∧ Ce sc (d + 6) 62 [(2, r3 (r 6 m) 1), (0, v3), (0, g5 (r3 (r 6 m) 1) 7), (0, 60), (0, v2)] g5 r3 fun v4 g6 r4 => okr 218 x 0 ∧ okI 218 (r4 x 8) 12 m ∧ okI 218 (r4 x 8) 12 m ∧ ∀ g7, g7 = up g6 (r4 x 8) m (wL ((g6 (r4 x 8) m) + v4)) → okr 218 x 0 ∧ okI 218 (r4 x 9) 11 m ∧ (if 0 < (cmpL v4 0) then WQ sc (d + 6) 7 Q 225 [(2, x), (9, 0), (0, m), (9, 0), (0, ov), (9, 0), (9, 0), (9, 0), (0, th), (0, v2), (9, 0), (9, 0), (9, 0)] [(0, 1), (0, g7 (r4 x 9) m), (0, m), (2, r4 x 9)] g7 r4 else WQ sc (d + 6) 7 Q 225 [(2, x), (9, 0), (0, m), (9, 0), (0, ov), (9, 0), (9, 0), (9, 0), (0, th), (0, v2), (9, 0), (9, 0), (9, 0)] [(0, 0), (0, g7 (r4 x 9) m), (0, m), (2, r4 x 9)] g7 r4) := by
    rw [e6, e13, wst]
    refine ⟨kx, A3.i m0 m6, fun g3 x3 => ⟨kx, A10.i m0 m6, kM, ?_⟩⟩
    have a3 : ∀ i j, ¬ ((i = x + 3 ∨ i = x + 9) ∧ j = m) → g3 i j = g i j := fun i j k => by
      clear fl9 wst wov wun fl ap hq
      rw [x3, up_o (by omega), x2, up_o (by omega)]
    have f3 : EQF F4 g g3 := fun i hi j => a3 i j (fun z => bx_nf4 hx2 (i := i) (by clear ap hq; omega) (by clear ap hq; omega) hi)
    have eb3 : EB r (TM gp) (MWh gp) g g3 := (EB.rf hT).e4 hr f3
    have v3' : g3 (x + 3) m = st - th := by rw [x3, up_s]
    have v9' : g3 (x + 9) m = o := by rw [x3, up_i (by omega), x2, up_s]
    have n3 : g3 (r 6 m) 3 = nl := (a3 _ _ (by clear fl9 wst wov wun fl hq; omega)).trans cm3
    have u3 : g3 (x + 10) m = und := (a3 _ _ (by clear fl9 wst wov wun fl hq ap; omega)).trans b10
    rw [u3, n3, wun]
    have wdk : ∀ w, w = wd → (60 : Int) ≠ 0 ∧ Ce sc (d + 6) 250 [(0, 99999), (0, wr ((wr (100 * th)).tdiv 60))] g3 r fun v3 g5 r3 => okr 218 (r 6 m) 2 ∧ okr 218 (r 6 m) 2 ∧ okr 218 (r3 (r 6 m) 1) 7 ∧ okr 218 (r3 (r 6 m) 1) 7 ∧ Ce sc (d + 6) 62 [(2, r3 (r 6 m) 1), (0, v3), (0, g5 (r3 (r 6 m) 1) 7), (0, 60), (0, w)] g5 r3 fun v4 g6 r4 => okr 218 x 0 ∧ okI 218 (r4 x 8) 12 m ∧ okI 218 (r4 x 8) 12 m ∧ ∀ g7, g7 = up g6 (r4 x 8) m (wL ((g6 (r4 x 8) m) + v4)) → okr 218 x 0 ∧ okI 218 (r4 x 9) 11 m ∧ (if 0 < (cmpL v4 0) then WQ sc (d + 6) 7 Q 225 [(2, x), (9, 0), (0, m), (9, 0), (0, ov), (9, 0), (9, 0), (9, 0), (0, th), (0, w), (9, 0), (9, 0), (9, 0)] [(0, 1), (0, g7 (r4 x 9) m), (0, m), (2, r4 x 9)] g7 r4 else WQ sc (d + 6) 7 Q 225 [(2, x), (9, 0), (0, m), (9, 0), (0, ov), (9, 0), (9, 0), (9, 0), (0, th), (0, w), (9, 0), (9, 0), (9, 0)] [(0, 0), (0, g7 (r4 x 9) m), (0, m), (2, r4 x 9)] g7 r4) := fun w eww => by
      rw [eww, fl]
      have flk : ∀ v, v = 100 * th / 60 → okr 218 (r 6 m) 2 ∧ okr 218 (r 6 m) 2 ∧ okr 218 (r (r 6 m) 1) 7 ∧ okr 218 (r (r 6 m) 1) 7 ∧ Ce sc (d + 6) 62 [(2, r (r 6 m) 1), (0, v), (0, g3 (r (r 6 m) 1) 7), (0, 60), (0, wd)] g3 r fun v4 g6 r4 => okr 218 x 0 ∧ okI 218 (r4 x 8) 12 m ∧ okI 218 (r4 x 8) 12 m ∧ ∀ g7, g7 = up g6 (r4 x 8) m (wL ((g6 (r4 x 8) m) + v4)) → okr 218 x 0 ∧ okI 218 (r4 x 9) 11 m ∧ (if 0 < (cmpL v4 0) then WQ sc (d + 6) 7 Q 225 [(2, x), (9, 0), (0, m), (9, 0), (0, ov), (9, 0), (9, 0), (9, 0), (0, th), (0, wd), (9, 0), (9, 0), (9, 0)] [(0, 1), (0, g7 (r4 x 9) m), (0, m), (2, r4 x 9)] g7 r4 else WQ sc (d + 6) 7 Q 225 [(2, x), (9, 0), (0, m), (9, 0), (0, ov), (9, 0), (9, 0), (9, 0), (0, th), (0, wd), (9, 0), (9, 0), (9, 0)] [(0, 0), (0, g7 (r4 x 9) m), (0, m), (2, r4 x 9)] g7 r4) := fun v efl => by
        rw [efl]
        obtain ⟨wh, _, b3⟩ := (eb3.2 m m0 m6).2 t
        have wx := wxo_of hr hM
        have pc : g3 (r 6 m + 1) 7 = gp 177 m := wh.2.2.2.2.2.2.2.1
        have wp := wb.2.2.2.2.2.2.1
        have wp9 : MWh gp m 9 = gp 177 m := rfl
        rw [wp9] at wp
        rw [mo_1 hr hM, pc]
        refine ⟨kM, kM, mo_w hM, mo_w hM, f_62 (d := d + 1) wx wh b3 wb fl9.1 fl9.2 wp.1 wp.2 (Or.inl ⟨by decide, by decide⟩) (fun g6 bu b36 => ?_)⟩
        have eG : hyE (MWh gp m) (100 * th / 60) (gp 177 m) 60 wd = grV gp m th wd := rfl
        rw [eG, e8, e9]
        have eb6 := eb3.bu hr m0 m6 bu b36
        have bx : ∀ i j, x ≤ i → i ≤ x + 10 → g6 i j = g3 i j := fun i j i0 i1 => bu i j (by clear fl9 wst wov wun fl hq; omega)
        have v5 : g6 (x + 5) m = g (x + 5) m := (bx _ _ (by omega) (by omega)).trans (a3 _ _ (by clear ap hq; omega))
        refine ⟨kx, A5.i m0 m6, A5.i m0 m6, fun g7 x7 => ⟨kx, A6.i m0 m6, ?_⟩⟩
        rw [v5] at x7
        have x70 : ∀ i j, i ≠ x + 5 → g7 i j = g6 i j := fun i j h => by rw [x7, up_i h]
        have v6 : g7 (x + 6) m = g (x + 6) m := ((x70 _ _ (by omega)).trans (bx _ _ (by omega) (by omega))).trans (a3 _ _ (by clear ap hq; omega))
        have v7 : g7 (x + 7) m = g (x + 7) m := ((x70 _ _ (by omega)).trans (bx _ _ (by omega) (by omega))).trans (a3 _ _ (by clear ap hq; omega))
        have w3 : g7 (x + 3) m = st - th := ((x70 _ _ (by omega)).trans (bx _ _ (by omega) (by omega))).trans v3'
        have w9 : g7 (x + 9) m = o := ((x70 _ _ (by omega)).trans (bx _ _ (by omega) (by omega))).trans v9'
        have w5 : g7 (x + 5) m = wL (g (x + 5) m + grV gp m th wd) := by rw [x7, up_s]
        rw [v6]
        have last : ∀ e : Int, e = (if 0 < grV gp m th wd then 1 else 0) → WQ sc (d + 6) 7 Q 225 [(2, x), (9, 0), (0, m), (9, 0), (0, ov), (9, 0), (9, 0), (9, 0), (0, th), (0, wd), (9, 0), (9, 0), (9, 0)] [(0, e), (0, g (x + 6) m), (0, m), (2, x + 6)] g7 r := fun e ee => by
          refine f_7c kx e10 A6 A7 m0 m6 v7 wov (fun g9 fr y6 y7 => ?_)
          have f69 : ∀ i j, (i < x ∨ x + 10 < i ∨ ¬ ((i = x + 5 ∨ i = x + 6 ∨ i = x + 7) ∧ j = m)) → g9 i j = g6 i j := fun i j h => by
            clear ap fl9 wst wov wun fl hq x3 x2 bx v3' v9'
            rw [fr i j (by omega), x7, up_o (by omega)]
          refine hq g9 (fun i j h k l => ?_) (eb6.e4 hr (fun i hi j => f69 i j ?_)) ?_ ?_ ?_ y7 ?_
          · have h2 : ¬ (i = r 6 m + 1 + 1 ∨ i = r 6 m + 1 + 4) := by clear ap fl9 wst wov wun fl l k; omega
            have h3 : ¬ ((i = x + 3 ∨ i = x + 9) ∧ j = m) := by clear ap fl9 wst wov wun fl h k h2; omega
            have h4 : i < x ∨ x + 10 < i ∨ ¬ ((i = x + 5 ∨ i = x + 6 ∨ i = x + 7) ∧ j = m) := by clear ap fl9 wst wov wun fl h k h2 h3; omega
            rw [f69 i j h4, bu i j h2]
            exact a3 i j h3
          · have nb := fun z1 z2 => bx_nf4 hx2 (i := i) z1 z2 hi
            exact Decidable.byContradiction fun z => nb (by clear ap nb; omega) (by clear ap nb; omega)
          · rw [fr _ _ (by clear ap; omega)]; exact w3
          · rw [fr _ _ (by clear ap; omega)]; exact w5
          · rw [y6, ee]
          · rw [fr _ _ (by clear ap; omega)]; exact w9
        exact ite_c (fun z => last 1 (if_pos (cmp_gt.mp z)).symm) (fun z => last 0 (if_neg (fun y => z (cmp_gt.mpr y))).symm)
      exact ⟨by decide, w_250 (fun z => flk _ (by omega)) (fun _ => flk _ rfl)⟩
    refine w_248 (fun z => wdk _ ?_) (fun z => wdk _ ?_)
    · rw [ew, if_neg (by omega)]
    · rw [ew]
      by_cases y : nl < und
      · rw [if_pos y]
      · rw [if_neg y]; omega
  rw [et] at main
  refine w_250 (fun z => ?_) (fun z => ?_)
  · by_cases y : o < st
    · rw [if_pos y] at main; exact main
    · rw [if_neg y] at main
      rw [show o = st by omega]; exact main
  · rw [if_neg (by omega)] at main; exact main
theorem f_7 (hr : RI r) (hb : BRO r x) (hx2 : x = 23 ∨ x = 34) (hp : PO gp mm) (hP : PLO Pl) (hx : MXA gp mm) (hc : COK gp mm r g) (t : TM gp m) (hB : HB b) (h9 : b 0 0 ≤ 959) (cb : CBR x g b) (hpx : PX2 r p) (pl : PLC p g Pl) (ec : g (x + 8) m = on) (o0 : 0 ≤ on) (o1 : on ≤ 120000) (ebl : g (x + 10) m = lvE gp b (nxE gp m)) (hq : ∀ g', FP7 (r 6 m) m x g g' → EB r (TM gp) (MWh gp) g g' → CBR x g' (mlE gp mm Pl b m on) → g' (x + 9) m = onE gp mm Pl b m on → Q (ltE gp mm Pl b m on) g' r) : Ce sc (d + 7) 7 [(2, x), (2, r 6 m), (0, m), (2, p)] g r Q := by
  have kx := hb.1
  obtain ⟨e4, e5, e6, e7, e8, e9, e10, e11, e12, e13⟩ := hb.2.1
  obtain ⟨A1, A2, A3, A4, A5, A6, A7, A8, A9, A10⟩ := hb.2.2
  have m0 := t.1
  have m6 := t.2.1
  have hM := hr.2.1 m m0 m6
  have kM := mo_ok hM
  have ap := mo_ap hM hx2
  obtain ⟨xt, r1, n1, wb⟩ := hp m t
  have cm := ck_m hr hp hx hc t
  have hm := hB.2.2 m m0 m6
  have B := ml_b (on := on) hp hP hB t o0
  have U := un_b (m := m) hp hB (by omega) (by omega)
  have h0 := hB.1
  have c6 := (cb.2.2 m m0 m6).1
  have cx := cb.2.2 m m0 m6
  have tmo : (b 0 0).tmod 24 = b 0 0 % 24 := Int.tmod_eq_emod_of_nonneg (by omega)
  have w1 : wr (b 6 m + on) = b 6 m + on := wr_id ⟨by omega, by omega⟩
  have w2 : wr (b 6 m + on - gp 175 m) = b 6 m + on - gp 175 m := wr_id ⟨by omega, by omega⟩
  have eso : stE gp b m on = b 6 m + on - ovE gp b m on := rfl
  have w3 : wr (b 6 m + on - ovE gp b m on) = stE gp b m on := by rw [eso, wr_id ⟨by omega, by omega⟩]
  have s9 : stE gp b m on ≤ 9999 := by omega
  have ov9 : 0 ≤ ovE gp b m on ∧ ovE gp b m on ≤ 200000 := by omega
  refine c_7 (w_123 (fun _ _ => ?_) (fun z => absurd ⟨m0, by omega⟩ z))
  rw [if_neg (by decide), e6, e11, c6, ec, cm.1, w1, w2]
  refine ⟨kx, A3.i m0 m6, kx, A8.i m0 m6, kM, ?_⟩
  have rest : ∀ g1 v, v = onE gp mm Pl b m on → (∀ i j, i ≠ r 6 m + 10 → g1 i j = g i j) → WQ sc (d + 6) 7 Q 113 [(2, x), (2, r 6 m), (0, m), (9, 0), (0, ovE gp b m on), (0, stE gp b m on), (9, 0), (0, v), (9, 0), (9, 0), (9, 0), (9, 0), (9, 0)] [] g1 r := fun g1 v ev fr1 => by
    rw [ev]
    have f1 : EQF F4 g g1 := fun i hi j => fr1 i j (fun z => (mo_ak hM).2 (by rw [← z]; exact hi))
    have eb1 : EB r (TM gp) (MWh gp) g g1 := (EB.rf hc.1).e4 hr f1
    have bx : ∀ i j, x ≤ i → i ≤ x + 10 → g1 i j = g i j := fun i j i0 i1 => fr1 i j (ap_x ap i0 i1).2
    have cm1 : g1 (r 6 m) 3 = gp 176 m := (fr1 _ _ (by omega)).trans cm.2
    have bl1 : g1 (x + 10) m = lvE gp b (nxE gp m) := (bx _ _ (by omega) (by omega)).trans ebl
    refine f_7b (th := thH gp mm Pl b m on) (wd := wdE gp b m) hr hb hx2 t wb eb1.2 cm1 n1 bl1 U B.2.2.1.1 ⟨B.2.1.1, s9⟩ ov9 rfl rfl (fun g' fp eb' y3 y5 y6 y7 y9 => ?_)
    refine hq g' (fun i j h k l => (fp i j h k l).trans (fr1 i j k)) (eb1.tr eb') ?_ y9
    refine cb.ml (fun i j i0 i1 h => ?_) y3 ?_ ?_ ?_
    · have i10 : i ≤ x + 10 := Int.le_trans i1 (by omega)
      exact (fp i j (ap_x ap i0 i10).1 (ap_x ap i0 i10).2 (ap_h i1 h)).trans (bx i j i0 i10)
    · rw [y5, bx _ _ (by omega) (by omega), cx.2.2.1]; rfl
    · rw [y6, bx _ _ (by omega) (by omega), cx.2.2.2.1]; rfl
    · rw [y7, bx _ _ (by omega) (by omega), cx.2.2.2.2]
  have onx : onE gp mm Pl b m on = if Pl m (b 0 0 % 24) = -1 then rlE gp mm b m on else Pl m (b 0 0 % 24) := rfl
  have key : okr 218 x 0 ∧ okI 218 (r x 6) 11 m ∧ okr 218 x 0 ∧ okI 218 (r x 11) 11 m ∧ okr 218 x 0 ∧ (24 : Int) ≠ 0 ∧ okr 218 p 4 ∧ Ce sc (d + 6) 29 [(2, p), (0, m), (0, (g x 0).tmod 24)] g r fun v3 g3 r3 => (if v3 = (-1) then okr 218 (r 6 m) 2 ∧ okr 218 (r 6 m) 2 ∧ Ce sc (d + 6) 22 [(2, r 6 m), (0, wr ((wr ((g (r x 6) m) + (g (r x 11) m))) - ovE gp b m on))] g3 r3 fun v4 g4 r4 => okr 218 x 0 ∧ okr 218 x 0 ∧ Ce sc (d + 6) 4 [(2, x)] g4 r4 fun v5 g5 r5 => okI 218 (r4 x 4) 11 v5 ∧ okr 218 x 0 ∧ Ce sc (d + 6) 4 [(2, x)] g5 r5 fun v6 g6 r6 => okr 218 x 0 ∧ okI 218 (r6 x 13) 11 m ∧ okr 218 (r3 (r 6 m) 4) 6 ∧ Ce sc (d + 6) 51 [(2, r3 (r 6 m) 4), (0, (g x 0).tmod 24), (0, v4), (0, g5 (r4 x 4) v5), (0, v6), (0, g6 (r6 x 13) m)] g6 r6 fun v7 g7 r7 => WQ sc (d + 6) 7 Q 113 [(2, x), (2, r 6 m), (0, m), (9, 0), (0, ovE gp b m on), (0, wr ((wr ((g (r x 6) m) + (g (r x 11) m))) - ovE gp b m on)), (9, 0), (0, v7), (9, 0), (9, 0), (9, 0), (9, 0), (9, 0)] [] g7 r7 else WQ sc (d + 6) 7 Q 113 [(2, x), (2, r 6 m), (0, m), (9, 0), (0, ovE gp b m on), (0, wr ((wr ((g (r x 6) m) + (g (r x 11) m))) - ovE gp b m on)), (9, 0), (0, v3), (9, 0), (9, 0), (9, 0), (9, 0), (9, 0)] [] g3 r3) := by
    rw [e6, e11, c6, ec, w1, cb.1.1, tmo, w3]
    refine ⟨kx, A3.i m0 m6, kx, A8.i m0 m6, kx, by decide, hpx.2.1, f_29 (d := d + 4) hpx pl m0 m6 (by omega) (by omega) ?_⟩
    refine ite_c (fun z => ⟨kM, kM, f_22 (d := d + 5) (R := gp 175 m) kM cm.1 r1.1 B.2.1.1 s9 ⟨kx, kx, f_4 (d := d + 4) (b := b) kx cb.1.1 h0.1 h9 ?_⟩⟩) (fun z => rest g _ ?_ (fun _ _ _ => rfl))
    · have dd := cb.2.1 (b 0 0 / 24) (by omega) (by omega)
      rw [e4]
      refine ⟨A1.i (by omega) (by omega), kx, f_4 (d := d + 4) (b := b) kx cb.1.1 h0.1 h9 ⟨kx, ?_⟩⟩
      rw [e13, mo_4 hr hM, dd.1, ebl]
      have mc := (hc.2 m t).2
      have mx := hx m t
      obtain ⟨_, _, _, _, _, _, _, _, _, _, _, a11, _, c1, c2, c3⟩ := mc
      refine ⟨A10.i m0 m6, (wru_of hr hM).1, f_51 (d := d + 3) (m := mm m) (A := asE gp b m on) (wru_of hr hM) xt.ghs xt.g0 xt.2.2.2.2.1 a11 (fun k => ?_) (fun k => ?_) (fun k => ?_) (fun k k0 k1 => (mx.2.2 k k0 k1).cc) ⟨rfl, rfl, rfl, rfl, rfl⟩ (fun g1 fr => ?_)⟩
      · rw [show r 6 m + 6 + 1 = r 6 m + 7 by omega]; exact c1 k
      · rw [show r 6 m + 6 + 2 = r 6 m + 8 by omega]; exact c2 k
      · rw [show r 6 m + 6 + 3 = r 6 m + 9 by omega]; exact c3 k
      · exact rest g1 _ (by rw [onx, if_pos z]; rfl) (fun i j h => fr i j (by omega))
    · rw [onx, if_neg z]
  have ek : ovE gp b m on = if gp 175 m < b 6 m + on then b 6 m + on - gp 175 m else 0 := rfl
  refine w_248 (fun z => ?_) (fun z => ?_)
  · rw [if_neg (by omega)] at ek
    rw [ek] at key; exact key
  · by_cases y : gp 175 m < b 6 m + on
    · rw [if_pos y] at ek
      rw [ek] at key; exact key
    · rw [if_neg y] at ek
      rw [ek] at key
      rw [show b 6 m + on - gp 175 m = 0 by omega]; exact key
end CHR
