/-! a wheel as pure numbers, and the model's wheel computes them -/
def WBd (W : Int → Int) : Prop := (2 ≤ W 1 ∧ W 1 ≤ 40) ∧ (1 ≤ W 2 ∧ W 2 ≤ 20) ∧ (4 ≤ W 3 ∧ W 3 ≤ 80) ∧ (1 ≤ W 4 ∧ W 4 ≤ 24) ∧ (0 ≤ W 5 ∧ W 5 ≤ 9) ∧ (0 ≤ W 6 ∧ W 6 ≤ 90) ∧ (1 ≤ W 9 ∧ W 9 ≤ 300) ∧ (0 ≤ W 10 ∧ W 10 ≤ 9999)
theorem mlb {a b A B : Int} (a0 : 0 ≤ a) (aA : a ≤ A) (b0 : 0 ≤ b) (bB : b ≤ B) : 0 ≤ a * b ∧ a * b ≤ A * B := ⟨Int.mul_nonneg a0 b0, Int.mul_le_mul aA bB b0 (by omega)⟩
theorem tdb {x m : Int} (x0 : 0 ≤ x) (hm : 0 < m) : x.tdiv m = x / m ∧ 0 ≤ x / m ∧ x / m ≤ x := ⟨Int.tdiv_eq_ediv_of_nonneg x0, Int.ediv_nonneg x0 (by omega), Int.ediv_le_self m x0⟩
def capE (W : Int → Int) : Int := 12 * W 2 * W 4 * W 1 / W 3
def offE (W : Int → Int) (f p : Int) : Int := 10 * f / (p * W 3)
def splE (W : Int → Int) (p : Int) : Int := if 100 < (if 3 * W 1 < W 3 then 2 * (W 3 - 3 * W 1) else 0) + p * W 1 / 200 then 100 else (if 3 * W 1 < W 3 then 2 * (W 3 - 3 * W 1) else 0) + p * W 1 / 200
def getE (W : Int → Int) (f p : Int) : Int := offE W f p * (100 - splE W p) / 100
def thrE (W : Int → Int) (p : Int) : Int := if 1000 < p * p * W 1 / 1000 then 1000 else p * p * W 1 / 1000
def whoE (W : Int → Int) (p : Int) : Int := capE W * (1000 - thrE W p) / 1000
def helE (W : Int → Int) (p a : Int) : Int := if 60 < 100 + 8 * W 5 - a then whoE W p else if 100 + 8 * W 5 - a < 0 then 0 else whoE W p * (100 + 8 * W 5 - a) / 60
def plcE (W : Int → Int) (k : Int) : Int := W 6 + 360 * k / W 3
theorem cap_e {W : Int → Int} (h : WBd W) : wr ((wr ((wr ((wr (12 * W 2)) * W 4)) * W 1)).tdiv (W 3)) = capE W ∧ 0 ≤ capE W ∧ capE W ≤ 230400 := by
  obtain ⟨h1, h2, h3, h4, _⟩ := h
  have m1 := mlb (a := 12 * W 2) (b := W 4) (A := 240) (B := 24) (by omega) (by omega) (by omega) h4.2
  have m2 := mlb (a := 12 * W 2 * W 4) (b := W 1) (A := 5760) (B := 40) m1.1 (by omega) (by omega) h1.2
  have t := tdb (x := 12 * W 2 * W 4 * W 1) (m := W 3) m2.1 (by omega)
  rw [wr_id (x := 12 * W 2) ⟨by omega, by omega⟩, wr_id (x := 12 * W 2 * W 4) ⟨by omega, by omega⟩, wr_id (x := 12 * W 2 * W 4 * W 1) ⟨by omega, by omega⟩, t.1]
  unfold capE
  rw [wr_id ⟨by omega, by omega⟩]
  exact ⟨rfl, t.2.1, by omega⟩
theorem off_e {W : Int → Int} (h : WBd W) {f p : Int} (f0 : 0 ≤ f) (f1 : f ≤ 99999) (p0 : 1 ≤ p) (p1 : p ≤ 300) : wr (p * W 3) = p * W 3 ∧ p * W 3 ≠ 0 ∧ wr ((wr (10 * f)).tdiv (p * W 3)) = offE W f p ∧ 0 ≤ offE W f p ∧ offE W f p ≤ 999990 := by
  have h3 := h.2.2.1
  have m1 := mlb (a := p) (b := W 3) (A := 300) (B := 80) (by omega) p1 (by omega) h3.2
  have m2 : 1 * 4 ≤ p * W 3 := Int.mul_le_mul p0 h3.1 (by decide) (by omega)
  have t := tdb (x := 10 * f) (m := p * W 3) (by omega) (by omega)
  rw [wr_id (x := p * W 3) ⟨by omega, by omega⟩, wr_id (x := 10 * f) ⟨by omega, by omega⟩, t.1]
  unfold offE
  rw [wr_id ⟨by omega, by omega⟩]
  exact ⟨rfl, by omega, rfl, t.2.1, by omega⟩
theorem spl_e {W : Int → Int} (h : WBd W) {p : Int} (p0 : 1 ≤ p) (p1 : p ≤ 300) : wr (3 * W 1) = 3 * W 1 ∧ wr (2 * (wr (W 3 - 3 * W 1))) = 2 * (W 3 - 3 * W 1) ∧ wr ((wr (p * W 1)).tdiv 200) = p * W 1 / 200 ∧ 0 ≤ p * W 1 / 200 ∧ p * W 1 / 200 ≤ 12000 ∧ 0 ≤ splE W p ∧ splE W p ≤ 100 := by
  have h1 := h.1
  have h3 := h.2.2.1
  have m1 := mlb (a := p) (b := W 1) (A := 300) (B := 40) (by omega) p1 (by omega) h1.2
  have t := tdb (x := p * W 1) (m := 200) m1.1 (by decide)
  rw [wr_id (x := 3 * W 1) ⟨by omega, by omega⟩, wr_id (x := W 3 - 3 * W 1) ⟨by omega, by omega⟩, wr_id (x := 2 * (W 3 - 3 * W 1)) ⟨by omega, by omega⟩, wr_id (x := p * W 1) ⟨by omega, by omega⟩, t.1, wr_id (x := p * W 1 / 200) ⟨by omega, by omega⟩]
  refine ⟨rfl, rfl, rfl, t.2.1, by omega, ?_⟩
  unfold splE
  by_cases z : 3 * W 1 < W 3
  · rw [if_pos z]
    by_cases y : 100 < 2 * (W 3 - 3 * W 1) + p * W 1 / 200
    · rw [if_pos y]; omega
    · rw [if_neg y]; omega
  · rw [if_neg z]
    by_cases y : 100 < 0 + p * W 1 / 200
    · rw [if_pos y]; omega
    · rw [if_neg y]; omega
theorem get_e {W : Int → Int} (h : WBd W) {f p : Int} (f0 : 0 ≤ f) (f1 : f ≤ 99999) (p0 : 1 ≤ p) (p1 : p ≤ 300) : wr ((wr (offE W f p * (wr (100 - splE W p)))).tdiv 100) = getE W f p ∧ 0 ≤ getE W f p ∧ getE W f p ≤ 99999000 := by
  have o := off_e h f0 f1 p0 p1
  have s := spl_e h p0 p1
  have m1 := mlb (a := offE W f p) (b := 100 - splE W p) (A := 999990) (B := 100) o.2.2.2.1 o.2.2.2.2 (by omega) (by omega)
  have t := tdb (x := offE W f p * (100 - splE W p)) (m := 100) m1.1 (by decide)
  rw [wr_id (x := 100 - splE W p) ⟨by omega, by omega⟩, wr_id (x := offE W f p * (100 - splE W p)) ⟨by omega, by omega⟩, t.1]
  unfold getE
  rw [wr_id ⟨by omega, by omega⟩]
  exact ⟨rfl, t.2.1, by omega⟩
theorem thr_e {W : Int → Int} (h : WBd W) {p : Int} (p0 : 1 ≤ p) (p1 : p ≤ 300) : wr ((wr ((wr (p * p)) * W 1)).tdiv 1000) = p * p * W 1 / 1000 ∧ 0 ≤ thrE W p ∧ thrE W p ≤ 1000 := by
  have h1 := h.1
  have m1 := mlb (a := p) (b := p) (A := 300) (B := 300) (by omega) p1 (by omega) p1
  have m2 := mlb (a := p * p) (b := W 1) (A := 90000) (B := 40) m1.1 (by omega) (by omega) h1.2
  have t := tdb (x := p * p * W 1) (m := 1000) m2.1 (by decide)
  rw [wr_id (x := p * p) ⟨by omega, by omega⟩, wr_id (x := p * p * W 1) ⟨by omega, by omega⟩, t.1, wr_id (x := p * p * W 1 / 1000) ⟨by omega, by omega⟩]
  refine ⟨rfl, ?_⟩
  unfold thrE
  by_cases z : 1000 < p * p * W 1 / 1000
  · rw [if_pos z]; omega
  · rw [if_neg z]; omega
theorem who_e {W : Int → Int} (h : WBd W) {p : Int} (p0 : 1 ≤ p) (p1 : p ≤ 300) : wr ((wr (capE W * (wr (1000 - thrE W p)))).tdiv 1000) = whoE W p ∧ 0 ≤ whoE W p ∧ whoE W p ≤ 230400 := by
  have c := cap_e h
  have s := thr_e h p0 p1
  have m1 := mlb (a := capE W) (b := 1000 - thrE W p) (A := 230400) (B := 1000) c.2.1 c.2.2 (by omega) (by omega)
  have t := tdb (x := capE W * (1000 - thrE W p)) (m := 1000) m1.1 (by decide)
  rw [wr_id (x := 1000 - thrE W p) ⟨by omega, by omega⟩, wr_id (x := capE W * (1000 - thrE W p)) ⟨by omega, by omega⟩, t.1]
  unfold whoE
  rw [wr_id (x := capE W * (1000 - thrE W p) / 1000) ⟨by omega, by omega⟩]
  exact ⟨rfl, t.2.1, by omega⟩
theorem plc_e {W : Int → Int} (h : WBd W) {k : Int} (k0 : 0 ≤ k) (k1 : k ≤ 100) : wr (W 6 + (wr ((wr (360 * k)).tdiv (W 3)))) = plcE W k ∧ 0 ≤ plcE W k ∧ plcE W k ≤ 36090 := by
  have h3 := h.2.2.1
  have h6 := h.2.2.2.2.2.1
  have t := tdb (x := 360 * k) (m := W 3) (by omega) (by omega)
  rw [wr_id (x := 360 * k) ⟨by omega, by omega⟩, t.1, wr_id (x := 360 * k / W 3) ⟨by omega, by omega⟩]
  unfold plcE
  rw [wr_id (x := W 6 + 360 * k / W 3) ⟨by omega, by omega⟩]
  exact ⟨rfl, by omega, by omega⟩
theorem plc_mono {W : Int → Int} (h : WBd W) {j k : Int} (l : j ≤ k) : plcE W j ≤ plcE W k := by
  have h3 := h.2.2.1
  have : 360 * j / W 3 ≤ 360 * k / W 3 := Int.ediv_le_ediv (by omega) (by omega)
  unfold plcE
  omega
theorem plc_40 {W : Int → Int} (h : WBd W) : 180 ≤ plcE W 40 := by
  have h3 := h.2.2.1
  have h6 := h.2.2.2.2.2.1
  have : 180 ≤ 360 * 40 / W 3 := (Int.le_ediv_iff_mul_le (by omega)).mpr (by omega)
  unfold plcE
  omega
/-- how many places of buckets stand before 180 degrees -/
def plsF (W : Int → Int) : Nat → Int → Int
  | 0, k => k
  | n + 1, k => if plcE W k < 180 then plsF W n (k + 1) else k
def plsE (W : Int → Int) : Int := plsF W 40 0
theorem plsF_b {W : Int → Int} (h : WBd W) : ∀ (n : Nat) (k : Int), 0 ≤ k → k + n = 40 → k ≤ plsF W n k ∧ plsF W n k ≤ 40 ∧ (∀ j, k ≤ j → j < plsF W n k → plcE W j < 180) ∧ 180 ≤ plcE W (plsF W n k) := by
  intro n
  induction n with
  | zero =>
    intro k _ e
    have z : k = 40 := by omega
    subst z
    exact ⟨Int.le_refl _, Int.le_refl _, fun j a b => absurd b (by show ¬ j < 40; omega), plc_40 h⟩
  | succ n ih =>
    intro k k0 e
    show k ≤ (if plcE W k < 180 then plsF W n (k + 1) else k) ∧ (if plcE W k < 180 then plsF W n (k + 1) else k) ≤ 40 ∧ (∀ j, k ≤ j → j < (if plcE W k < 180 then plsF W n (k + 1) else k) → plcE W j < 180) ∧ 180 ≤ plcE W (if plcE W k < 180 then plsF W n (k + 1) else k)
    by_cases z : plcE W k < 180
    · rw [if_pos z]
      obtain ⟨a, b, c, f⟩ := ih (k + 1) (by omega) (by omega)
      refine ⟨by omega, b, fun j j0 j1 => ?_, f⟩
      by_cases y : j = k
      · rw [y]; exact z
      · exact c j (by omega) j1
    · rw [if_neg z]
      exact ⟨Int.le_refl _, by omega, fun j a b => absurd b (by omega), by omega⟩
theorem pls_b {W : Int → Int} (h : WBd W) : 0 ≤ plsE W ∧ plsE W ≤ 40 ∧ (∀ j, 0 ≤ j → j < plsE W → plcE W j < 180) ∧ ∀ j, plsE W ≤ j → 180 ≤ plcE W j := by
  obtain ⟨a, b, c, f⟩ := plsF_b h 40 0 (by decide) (by decide)
  exact ⟨a, b, c, fun j hj => Int.le_trans f (plc_mono h hj)⟩
/-- what bucket k has -/
def hasR (W : Int → Int) (p : Int) : Nat → Int → Int → Int
  | 0, had, _ => had
  | n + 1, had, k => hasR W p n (if helE W p (plcE W k) < had then helE W p (plcE W k) else had) (k + 1)
def hasE (W : Int → Int) (f p k : Int) : Int := hasR W p (k + 1).toNat (getE W f p) 0
def cosD (W : Int → Int) (k : Int) : Int := cosV (if k + 1 < plsE W then plcE W (k + 1) else 180)
section WHM
variable {sc : SCR} {d : Nat} {Q : QJ} {g r : GH} {l0 l1 l2 l3 l4 l5 : Int}
def MWh (g : GH) (k : Int) : Int → Int := fun j => if 0 ≤ j ∧ j ≤ 12 then g (168 + j) k else 0
theorem f_164 (hr : RI r) (k0 : 0 ≤ l1) (k6 : l1 ≤ 6) (h : WBd (MWh g l1)) (hq : Q (capE (MWh g l1)) g r) : Ce sc (d + 1) 164 [(2, 165), (0, l1)] g r Q := by
  have k9 : okr 218 165 9 := okd (by decide +kernel)
  refine c_164 ?_
  rw [r_165_3 hr, r_165_4 hr, r_165_5 hr, r_165_6 hr]
  refine ⟨k9, i_170.mpr ⟨k0, by omega⟩, k9, i_172.mpr ⟨k0, by omega⟩, k9, i_169.mpr ⟨k0, by omega⟩, k9, i_171.mpr ⟨k0, by omega⟩, ?_, ?_⟩
  · exact fun z => by
      have : MWh g l1 3 = 0 := z
      have := h.2.2.1.1
      omega
  · have e : Q (wr ((wr ((wr ((wr (12 * MWh g l1 2)) * MWh g l1 4)) * MWh g l1 1)).tdiv (MWh g l1 3))) g r := by rw [(cap_e h).1]; exact hq
    exact e
theorem f_165 (hr : RI r) (k0 : 0 ≤ l1) (k6 : l1 ≤ 6) (h : WBd (MWh g l1)) (f0 : 0 ≤ l2) (f1 : l2 ≤ 99999) (p0 : 1 ≤ l3) (p1 : l3 ≤ 300) (hq : Q (offE (MWh g l1) l2 l3) g r) : Ce sc (d + 1) 165 [(2, 165), (0, l1), (0, l2), (0, l3)] g r Q := by
  have k9 : okr 218 165 9 := okd (by decide +kernel)
  have o := off_e h f0 f1 p0 p1
  refine c_165 ?_
  rw [r_165_5 hr]
  have e : g 171 l1 = MWh g l1 3 := rfl
  rw [e, o.1, o.2.2.1]
  exact ⟨k9, i_171.mpr ⟨k0, by omega⟩, o.2.1, hq⟩
theorem f_166 (hr : RI r) (k0 : 0 ≤ l1) (k6 : l1 ≤ 6) (h : WBd (MWh g l1)) (p0 : 1 ≤ l2) (p1 : l2 ≤ 300) (hq : Q (splE (MWh g l1) l2) g r) : Ce sc (d + 1) 166 [(2, 165), (0, l1), (0, l2)] g r Q := by
  have k9 : okr 218 165 9 := okd (by decide +kernel)
  have o := spl_e h p0 p1
  have e3 : g 171 l1 = MWh g l1 3 := rfl
  have e1 : g 169 l1 = MWh g l1 1 := rfl
  have i3 := i_171.mpr (⟨k0, by omega⟩ : 0 ≤ l1 ∧ l1 < 8)
  have i1 := i_169.mpr (⟨k0, by omega⟩ : 0 ≤ l1 ∧ l1 < 8)
  have w1 := h.1
  have w3 := h.2.2.1
  have fin : ∀ t0, t0 = (if 3 * MWh g l1 1 < MWh g l1 3 then 2 * (MWh g l1 3 - 3 * MWh g l1 1) else 0) → 0 ≤ t0 → t0 ≤ 200 → WQ sc d 166 Q 38 [(2, 165), (0, l1), (0, l2), (9, 0)] [(0, t0)] g r := fun t0 et t00 t01 => by
    refine b_166_38 ?_
    rw [r_165_3 hr, e1, o.2.2.1, wr_id (x := t0 + l2 * MWh g l1 1 / 200) ⟨by omega, by omega⟩]
    unfold splE at hq
    rw [← et] at hq
    refine ⟨k9, i1, by decide, ite_c (fun z => ?_) (fun z => ?_)⟩
    · rw [if_pos z] at hq; exact hq
    · rw [if_neg z] at hq; exact hq
  refine c_166 ?_
  rw [r_165_3 hr, r_165_5 hr, e1, e3, o.1, o.2.1]
  exact ⟨k9, i3, k9, i1, ite_c (fun z => ⟨k9, i3, k9, i1, fin _ (if_pos z).symm (by omega) (by omega)⟩) (fun z => fin _ (if_neg z).symm (by decide) (by decide))⟩
theorem f_167 (hr : RI r) (k0 : 0 ≤ l1) (k6 : l1 ≤ 6) (h : WBd (MWh g l1)) (f0 : 0 ≤ l2) (f1 : l2 ≤ 99999) (p0 : 1 ≤ l3) (p1 : l3 ≤ 300) (hq : Q (getE (MWh g l1) l2 l3) g r) : Ce sc (d + 2) 167 [(2, 165), (0, l1), (0, l2), (0, l3)] g r Q := by
  have k9 : okr 218 165 9 := okd (by decide +kernel)
  refine c_167 ⟨k9, f_165 hr k0 k6 h f0 f1 p0 p1 ⟨k9, f_166 hr k0 k6 h p0 p1 ⟨by decide, ?_⟩⟩⟩
  rw [(get_e h f0 f1 p0 p1).1]
  exact hq
theorem f_168 (hr : RI r) (k0 : 0 ≤ l1) (k6 : l1 ≤ 6) (h : WBd (MWh g l1)) (p0 : 1 ≤ l2) (p1 : l2 ≤ 300) (hq : Q (thrE (MWh g l1) l2) g r) : Ce sc (d + 1) 168 [(2, 165), (0, l1), (0, l2)] g r Q := by
  have k9 : okr 218 165 9 := okd (by decide +kernel)
  have e1 : g 169 l1 = MWh g l1 1 := rfl
  refine c_168 ?_
  rw [r_165_3 hr, e1, (thr_e h p0 p1).1]
  unfold thrE at hq
  refine ⟨k9, i_169.mpr ⟨k0, by omega⟩, by decide, ite_c (fun z => ?_) (fun z => ?_)⟩
  · rw [if_pos z] at hq; exact hq
  · rw [if_neg z] at hq; exact hq
theorem hel_b {W : Int → Int} (h : WBd W) {p a : Int} (p0 : 1 ≤ p) (p1 : p ≤ 300) : 0 ≤ helE W p a ∧ helE W p a ≤ whoE W p := by
  have w := who_e h p0 p1
  unfold helE
  by_cases z : 60 < 100 + 8 * W 5 - a
  · rw [if_pos z]; omega
  · rw [if_neg z]
    by_cases y : 100 + 8 * W 5 - a < 0
    · rw [if_pos y]; omega
    · rw [if_neg y]
      have m := mlb (a := whoE W p) (b := 100 + 8 * W 5 - a) (A := whoE W p) (B := 60) w.2.1 (Int.le_refl _) (by omega) (by omega)
      have t := tdb (x := whoE W p * (100 + 8 * W 5 - a)) (m := 60) m.1 (by decide)
      exact ⟨t.2.1, by omega⟩
theorem f_169 (hr : RI r) (k0 : 0 ≤ l1) (k6 : l1 ≤ 6) (h : WBd (MWh g l1)) (p0 : 1 ≤ l2) (p1 : l2 ≤ 300) (a0 : 0 ≤ l3) (a1 : l3 ≤ 100000) (hq : Q (helE (MWh g l1) l2 l3) g r) : Ce sc (d + 2) 169 [(2, 165), (0, l1), (0, l2), (0, l3)] g r Q := by
  have k9 : okr 218 165 9 := okd (by decide +kernel)
  have e5 : g 173 l1 = MWh g l1 5 := rfl
  have w5 := h.2.2.2.2.1
  have w := who_e h p0 p1
  refine c_169 ⟨k9, f_164 hr k0 k6 h ⟨k9, f_168 hr k0 k6 h p0 p1 ⟨by decide, k9, ?_⟩⟩⟩
  rw [r_165_7 hr, e5, w.1, wr_id (x := 8 * MWh g l1 5) ⟨by omega, by omega⟩, wr_id (x := 100 + 8 * MWh g l1 5) ⟨by omega, by omega⟩, wr_id (x := 100 + 8 * MWh g l1 5 - l3) ⟨by omega, by omega⟩]
  unfold helE at hq
  refine ⟨i_173.mpr ⟨k0, by omega⟩, ite_c (fun z => ⟨by decide, ?_⟩) (fun z => ite_c (fun y => ⟨by decide, ?_⟩) (fun y => ⟨by decide, ?_⟩))⟩
  · rw [if_pos z] at hq
    have t := tdb (x := whoE (MWh g l1) l2 * 60) (m := 60) (by omega) (by decide)
    have e : whoE (MWh g l1) l2 * 60 / 60 = whoE (MWh g l1) l2 := Int.mul_ediv_cancel _ (by decide)
    rw [wr_id (x := whoE (MWh g l1) l2 * 60) ⟨by omega, by omega⟩, t.1, e, wr_id ⟨by omega, by omega⟩]
    exact hq
  · rw [if_neg z, if_pos y] at hq
    rw [Int.mul_zero]
    exact hq
  · rw [if_neg z, if_neg y] at hq
    have m := mlb (a := whoE (MWh g l1) l2) (b := 100 + 8 * MWh g l1 5 - l3) (A := 230400) (B := 60) w.2.1 w.2.2 (by omega) (by omega)
    have t := tdb (x := whoE (MWh g l1) l2 * (100 + 8 * MWh g l1 5 - l3)) (m := 60) m.1 (by decide)
    rw [wr_id (x := whoE (MWh g l1) l2 * (100 + 8 * MWh g l1 5 - l3)) ⟨by omega, by omega⟩, t.1, wr_id ⟨by omega, by omega⟩]
    exact hq
theorem f_170 (hr : RI r) (k0 : 0 ≤ l1) (k6 : l1 ≤ 6) (h : WBd (MWh g l1)) (a0 : 0 ≤ l2) (a1 : l2 ≤ 100) (hq : Q (plcE (MWh g l1) l2) g r) : Ce sc (d + 1) 170 [(2, 165), (0, l1), (0, l2)] g r Q := by
  have k9 : okr 218 165 9 := okd (by decide +kernel)
  have e6 : g 174 l1 = MWh g l1 6 := rfl
  have e3 : g 171 l1 = MWh g l1 3 := rfl
  have w3 := h.2.2.1
  refine c_170 ?_
  rw [r_165_8 hr, r_165_5 hr, e6, e3, (plc_e h a0 a1).1]
  exact ⟨k9, i_174.mpr ⟨k0, by omega⟩, k9, i_171.mpr ⟨k0, by omega⟩, by omega, hq⟩
theorem f_171 (hr : RI r) (k0 : 0 ≤ l1) (k6 : l1 ≤ 6) (h : WBd (MWh g l1)) (hq : Q (plsE (MWh g l1)) g r) : Ce sc (d + 2) 171 [(2, 165), (0, l1)] g r Q := by
  have k9 : okr 218 165 9 := okd (by decide +kernel)
  have loop : ∀ (n : Nat) (k : Int), 0 ≤ k → k + n = 40 → plsF (MWh g l1) n k = plsE (MWh g l1) → WQ sc (d + 1) 171 Q 2 [(2, 165), (0, l1), (0, k)] [] g r := by
    intro n
    induction n with
    | zero =>
      intro k c0 e es
      have z : k = 40 := by omega
      have es' : k = plsE (MWh g l1) := es
      refine b_171_2 ⟨k9, f_170 hr k0 k6 h c0 (by omega) (ite_c (fun q => ?_) (fun _ => ?_))⟩
      · have := plc_40 h
        rw [z] at q
        omega
      · rw [es']; exact hq
    | succ n ih =>
      intro k c0 e es
      have es' : (if plcE (MWh g l1) k < 180 then plsF (MWh g l1) n (k + 1) else k) = plsE (MWh g l1) := es
      refine b_171_2 ⟨k9, f_170 hr k0 k6 h c0 (by omega) (ite_c (fun q => ?_) (fun q => ?_))⟩
      · rw [if_pos q] at es'
        rw [wr_id (x := k + 1) ⟨by omega, by omega⟩]
        exact ih _ (by omega) (by omega) es'
      · rw [if_neg q] at es'
        rw [es']; exact hq
  exact c_171 (loop 40 0 (by decide) (by decide) rfl)
end WHM
