/-! an hour of a brook as a pure function -/
def nxF (gp : GH) : Nat → Int → Int
  | 0, _ => -1
  | n + 1, k => if gp 167 k = 0 then nxF gp n (k + 1) else k
def nxE (gp : GH) (k : Int) : Int := nxF gp (5 - k).toNat (k + 1)
def lvE (gp b : GH) (k : Int) : Int := if k < 0 then 0 else b 6 k * 100 / gp 175 k
def ovE (gp b : GH) (m on : Int) : Int := if gp 175 m < b 6 m + on then b 6 m + on - gp 175 m else 0
def stE (gp b : GH) (m on : Int) : Int := b 6 m + on - ovE gp b m on
def asE (gp b : GH) (m on w : Int) : Int := if w = 0 then b 0 0 % 24 else if w = 1 then stE gp b m on * 100 / gp 175 m else if w = 2 then b 4 (b 0 0 / 24) else if w = 3 then b 0 0 / 24 else lvE gp b (nxE gp m)
def rlE (gp : GH) (mm : Int → GH) (b : GH) (m on : Int) : Int := opE (asE gp b m on) (mm m)
def onE (gp : GH) (mm : Int → GH) (Pl : Int → Int → Int) (b : GH) (m on : Int) : Int := if Pl m (b 0 0 % 24) = -1 then rlE gp mm b m on else Pl m (b 0 0 % 24)
def thH (gp : GH) (mm : Int → GH) (Pl : Int → Int → Int) (b : GH) (m on : Int) : Int := if onE gp mm Pl b m on < stE gp b m on then onE gp mm Pl b m on else stE gp b m on
def wdE (gp b : GH) (m : Int) : Int := if gp 176 m < lvE gp b (nxE gp m) then lvE gp b (nxE gp m) - gp 176 m else 0
def grV (gp : GH) (m th wd : Int) : Int := hyE (MWh gp m) (100 * th / 60) (gp 177 m) 60 wd
def grH (gp : GH) (mm : Int → GH) (Pl : Int → Int → Int) (b : GH) (m on : Int) : Int := grV gp m (thH gp mm Pl b m on) (wdE gp b m)
def ltE (gp : GH) (mm : Int → GH) (Pl : Int → Int → Int) (b : GH) (m on : Int) : Int := ovE gp b m on + thH gp mm Pl b m on
def mlU (b : GH) (m on o P G a8 a9 a10 : Int) : GH := up (up (up (up (up (up (up b 11 m on) 12 m o) 14 m G) 6 m P) 8 m a8) 9 m a9) 10 m a10
def mlE (gp : GH) (mm : Int → GH) (Pl : Int → Int → Int) (b : GH) (m on : Int) : GH := mlU b m on (onE gp mm Pl b m on) (stE gp b m on - thH gp mm Pl b m on) (grH gp mm Pl b m on) (wL (b 8 m + grH gp mm Pl b m on)) (wr (b 9 m + (if 0 < grH gp mm Pl b m on then 1 else 0))) (wr (b 10 m + (if 0 < thH gp mm Pl b m on ∧ 0 < wdE gp b m then 1 else 0)))
def wyE (gp : GH) (mm : Int → GH) (Pl : Int → Int → Int) (b : GH) (m on : Int) : GH := if nxE gp m < 0 then up (up (mlE gp mm Pl b m on) 7 m 0) 0 2 (wL (b 0 2 + ltE gp mm Pl b m on)) else up (mlE gp mm Pl b m on) 7 m (ltE gp mm Pl b m on)
def hrF (gp : GH) (mm : Int → GH) (Pl : Int → Int → Int) : Nat → Int → GH → Int → GH
  | 0, _, b, _ => up b 0 0 (b 0 0 + 1)
  | n + 1, m, b, on => if gp 167 m = 0 then hrF gp mm Pl n (m + 1) b on else hrF gp mm Pl n (m + 1) (wyE gp mm Pl b m on) (b 7 m)
def cmE (b : GH) : Int := if b 5 (b 0 0 / 24) = 0 then 60 * b 4 (b 0 0 / 24) / 100 else 0
def hrE (gp : GH) (mm : Int → GH) (Pl : Int → Int → Int) (b : GH) : GH := hrF gp mm Pl 6 0 (up b 0 1 (wL (b 0 1 + cmE b))) (cmE b)
/-- bounds of a brook -/
def HB (b : GH) : Prop := (0 ≤ b 0 0 ∧ b 0 0 ≤ 960) ∧ (∀ j, 0 ≤ j → j < 40 → (0 ≤ b 4 j ∧ b 4 j ≤ 99999) ∧ (b 5 j = 0 ∨ b 5 j = 1)) ∧ (∀ k, 0 ≤ k → k < 6 → (0 ≤ b 6 k ∧ b 6 k ≤ 9999) ∧ 0 ≤ b 7 k ∧ b 7 k ≤ 60000 + 10000 * (k + 1))
/-- the mills told: their programs and bounds -/
def PO (gp : GH) (mm : Int → GH) : Prop := ∀ k, TM gp k → XTM (mm k) ∧ (1 ≤ gp 175 k ∧ gp 175 k ≤ 9999) ∧ (0 ≤ gp 176 k ∧ gp 176 k ≤ 100) ∧ WBd (MWh gp k)
def PLO (Pl : Int → Int → Int) : Prop := ∀ m h, Pl m h = -1 ∨ (0 ≤ Pl m h ∧ Pl m h ≤ 999)
theorem nxF_b (gp : GH) : ∀ (n : Nat) (k : Int), nxF gp n k = -1 ∧ (∀ j, k ≤ j → j < k + n → gp 167 j = 0) ∨ (k ≤ nxF gp n k ∧ nxF gp n k < k + n ∧ gp 167 (nxF gp n k) ≠ 0 ∧ ∀ j, k ≤ j → j < nxF gp n k → gp 167 j = 0) := by
  intro n
  induction n with
  | zero => intro k; exact Or.inl ⟨rfl, fun j a b => absurd b (by omega)⟩
  | succ n ih =>
    intro k
    show (if gp 167 k = 0 then nxF gp n (k + 1) else k) = -1 ∧ (∀ j, k ≤ j → j < k + (n + 1 : Nat) → gp 167 j = 0) ∨ (k ≤ (if gp 167 k = 0 then nxF gp n (k + 1) else k) ∧ (if gp 167 k = 0 then nxF gp n (k + 1) else k) < k + (n + 1 : Nat) ∧ gp 167 (if gp 167 k = 0 then nxF gp n (k + 1) else k) ≠ 0 ∧ ∀ j, k ≤ j → j < (if gp 167 k = 0 then nxF gp n (k + 1) else k) → gp 167 j = 0)
    by_cases z : gp 167 k = 0
    · rw [if_pos z]
      rcases ih (k + 1) with ⟨a, b⟩ | ⟨a, b, c, e⟩
      · refine Or.inl ⟨a, fun j j0 j1 => ?_⟩
        by_cases y : j = k
        · rw [y]; exact z
        · exact b j (by omega) (by omega)
      · refine Or.inr ⟨by omega, by omega, c, fun j j0 j1 => ?_⟩
        by_cases y : j = k
        · rw [y]; exact z
        · exact e j (by omega) j1
    · rw [if_neg z]
      exact Or.inr ⟨Int.le_refl _, by omega, z, fun j a b => absurd b (by omega)⟩
theorem nxE_b (gp : GH) {k : Int} (k0 : -1 ≤ k) (k5 : k ≤ 5) : (nxE gp k = -1 ∧ ∀ j, k < j → j < 6 → gp 167 j = 0) ∨ (k < nxE gp k ∧ nxE gp k < 6 ∧ gp 167 (nxE gp k) ≠ 0 ∧ ∀ j, k < j → j < nxE gp k → gp 167 j = 0) := by
  rcases nxF_b gp (5 - k).toNat (k + 1) with ⟨a, b⟩ | ⟨a, b, c, e⟩
  · exact Or.inl ⟨a, fun j j0 j1 => b j (by omega) (by omega)⟩
  · have e1 : nxE gp k = nxF gp (5 - k).toNat (k + 1) := rfl
    exact Or.inr ⟨by omega, by omega, c, fun j j0 j1 => e j (by omega) j1⟩
theorem mlU_o {b : GH} {m on o P G a8 a9 a10 i j : Int} (h : ¬ ((i = 6 ∨ i = 8 ∨ i = 9 ∨ i = 10 ∨ i = 11 ∨ i = 12 ∨ i = 14) ∧ j = m)) : mlU b m on o P G a8 a9 a10 i j = b i j := by
  unfold mlU
  rw [up_o (by omega), up_o (by omega), up_o (by omega), up_o (by omega), up_o (by omega), up_o (by omega), up_o (by omega)]
theorem mlU_6 {b : GH} {m on o P G a8 a9 a10 : Int} : mlU b m on o P G a8 a9 a10 6 m = P := by
  unfold mlU
  rw [up_i (by decide), up_i (by decide), up_i (by decide), up_s]
theorem mlU_8 {b : GH} {m on o P G a8 a9 a10 : Int} : mlU b m on o P G a8 a9 a10 8 m = a8 := by
  unfold mlU
  rw [up_i (by decide), up_i (by decide), up_s]
theorem mlU_9 {b : GH} {m on o P G a8 a9 a10 : Int} : mlU b m on o P G a8 a9 a10 9 m = a9 := by
  unfold mlU
  rw [up_i (by decide), up_s]
theorem mlU_10 {b : GH} {m on o P G a8 a9 a10 : Int} : mlU b m on o P G a8 a9 a10 10 m = a10 := up_s
theorem mlU_11 {b : GH} {m on o P G a8 a9 a10 : Int} : mlU b m on o P G a8 a9 a10 11 m = on := by
  unfold mlU
  rw [up_i (by decide), up_i (by decide), up_i (by decide), up_i (by decide), up_i (by decide), up_i (by decide), up_s]
theorem mlU_12 {b : GH} {m on o P G a8 a9 a10 : Int} : mlU b m on o P G a8 a9 a10 12 m = o := by
  unfold mlU
  rw [up_i (by decide), up_i (by decide), up_i (by decide), up_i (by decide), up_i (by decide), up_s]
theorem mlU_14 {b : GH} {m on o P G a8 a9 a10 : Int} : mlU b m on o P G a8 a9 a10 14 m = G := by
  unfold mlU
  rw [up_i (by decide), up_i (by decide), up_i (by decide), up_i (by decide), up_s]
theorem opR_b {A : Int → Int} {m : GH} (hg : GHS m) : ∀ (n : Nat) (i : Int), 0 ≤ i → i + n = m 0 11 → 0 ≤ opR A m n i ∧ opR A m n i ≤ 999 := by
  intro n
  induction n with
  | zero => intro i _ _; exact ⟨Int.le_refl 0, show (0 : Int) ≤ 999 by decide⟩
  | succ n ih =>
    intro i i0 e
    show 0 ≤ (if alw A m (pe m i) (m 3 i) = true then m 2 i else opR A m n (i + 1)) ∧ (if alw A m (pe m i) (m 3 i) = true then m 2 i else opR A m n (i + 1)) ≤ 999
    by_cases z : alw A m (pe m i) (m 3 i) = true
    · rw [if_pos z]; exact (hg i i0 (by omega)).2.1
    · rw [if_neg z]; exact ih _ (by omega) (by omega)
theorem XTM.ghs {m : GH} (h : XTM m) : GHS m := h.2.2.2.2.2.2.2
theorem XTM.g0 {m : GH} (h : XTM m) : 0 ≤ m 0 11 ∧ m 0 11 ≤ 30 := ⟨h.1.1, h.2.2.2.1⟩
theorem opE_b {A : Int → Int} {m : GH} (h : XTM m) : 0 ≤ opE A m ∧ opE A m ≤ 999 := opR_b h.ghs _ 0 (Int.le_refl 0) (by have := h.g0; omega)
section HRB
variable {gp b : GH} {mm : Int → GH} {Pl : Int → Int → Int} {m on : Int}
theorem lv_b (hp : PO gp mm) (hb : HB b) (m5 : m < 6) (tm : m < 0 ∨ TM gp m) : 0 ≤ lvE gp b m ∧ lvE gp b m ≤ 999900 := by
  unfold lvE
  by_cases z : m < 0
  · rw [if_pos z]; decide
  · rw [if_neg z]
    have t := tm.resolve_left z
    have p := (hb.2.2 m t.1 t.2.1).1
    have r := (hp m t).2.1
    have q := tdb (x := b 6 m * 100) (m := gp 175 m) (by omega) (by omega)
    omega
theorem nx_tm (m0 : -1 ≤ m) (m5 : m ≤ 5) : nxE gp m < 0 ∨ TM gp (nxE gp m) := by
  rcases nxE_b gp m0 m5 with a | a
  · exact Or.inl (by omega)
  · exact Or.inr ⟨by omega, a.2.1, a.2.2.1⟩
theorem un_b (hp : PO gp mm) (hb : HB b) (m0 : -1 ≤ m) (m5 : m ≤ 5) : 0 ≤ lvE gp b (nxE gp m) ∧ lvE gp b (nxE gp m) ≤ 999900 := by
  have := nxE_b gp m0 m5
  exact lv_b hp hb (by omega) (nx_tm m0 m5)
theorem ml_b (hp : PO gp mm) (hP : PLO Pl) (hb : HB b) (t : TM gp m) (o0 : 0 ≤ on) : (0 ≤ ovE gp b m on ∧ ovE gp b m on ≤ on + 9999) ∧ (0 ≤ stE gp b m on ∧ stE gp b m on ≤ gp 175 m) ∧ (0 ≤ onE gp mm Pl b m on ∧ onE gp mm Pl b m on ≤ 999) ∧ (0 ≤ thH gp mm Pl b m on ∧ thH gp mm Pl b m on ≤ stE gp b m on) ∧ (0 ≤ ltE gp mm Pl b m on ∧ ltE gp mm Pl b m on ≤ on + 9999) ∧ (0 ≤ wdE gp b m ∧ wdE gp b m ≤ 999900) := by
  obtain ⟨xt, r1, n1, wb⟩ := hp m t
  have p := (hb.2.2 m t.1 t.2.1).1
  have x1 := t.1
  have x2 := t.2.1
  have u := un_b (m := m) hp hb (by omega) (by omega)
  have ov : (0 ≤ ovE gp b m on ∧ ovE gp b m on ≤ on + b 6 m) ∧ (ovE gp b m on = b 6 m + on - gp 175 m ∨ (ovE gp b m on = 0 ∧ b 6 m + on ≤ gp 175 m)) := by
    unfold ovE
    by_cases z : gp 175 m < b 6 m + on
    · rw [if_pos z]; omega
    · rw [if_neg z]; omega
  have s : stE gp b m on = b 6 m + on - ovE gp b m on := rfl
  have rb := opE_b (A := asE gp b m on) xt
  have o : 0 ≤ onE gp mm Pl b m on ∧ onE gp mm Pl b m on ≤ 999 := by
    unfold onE
    by_cases z : Pl m (b 0 0 % 24) = -1
    · rw [if_pos z]; exact rb
    · rw [if_neg z]; exact (hP m (b 0 0 % 24)).resolve_left z
  have st0 : 0 ≤ stE gp b m on ∧ stE gp b m on ≤ gp 175 m := by omega
  have th : 0 ≤ thH gp mm Pl b m on ∧ thH gp mm Pl b m on ≤ stE gp b m on := by
    unfold thH
    by_cases z : onE gp mm Pl b m on < stE gp b m on
    · rw [if_pos z]; omega
    · rw [if_neg z]; omega
  have lt : ltE gp mm Pl b m on = ovE gp b m on + thH gp mm Pl b m on := rfl
  have wd : 0 ≤ wdE gp b m ∧ wdE gp b m ≤ 999900 := by
    unfold wdE
    by_cases z : gp 176 m < lvE gp b (nxE gp m)
    · rw [if_pos z]; omega
    · rw [if_neg z]; omega
  exact ⟨⟨ov.1.1, by omega⟩, st0, o, th, ⟨by omega, by omega⟩, wd⟩
theorem ml_c {i j : Int} (h : ¬ ((i = 6 ∨ i = 8 ∨ i = 9 ∨ i = 10 ∨ i = 11 ∨ i = 12 ∨ i = 14) ∧ j = m)) : mlE gp mm Pl b m on i j = b i j := mlU_o h
theorem wy_c {i j : Int} (h : ¬ ((i = 6 ∨ i = 7 ∨ i = 8 ∨ i = 9 ∨ i = 10 ∨ i = 11 ∨ i = 12 ∨ i = 14) ∧ j = m)) (h2 : ¬ (i = 0 ∧ j = 2)) : wyE gp mm Pl b m on i j = b i j := by
  unfold wyE
  by_cases z : nxE gp m < 0
  · rw [if_pos z, up_o (by omega), up_o (by omega)]; exact ml_c (by omega)
  · rw [if_neg z, up_o (by omega)]; exact ml_c (by omega)
theorem wy_6 : wyE gp mm Pl b m on 6 m = stE gp b m on - thH gp mm Pl b m on := by
  unfold wyE
  by_cases z : nxE gp m < 0
  · rw [if_pos z, up_i (by decide), up_i (by decide)]; exact mlU_6
  · rw [if_neg z, up_i (by decide)]; exact mlU_6
theorem wy_7 : wyE gp mm Pl b m on 7 m = if nxE gp m < 0 then 0 else ltE gp mm Pl b m on := by
  unfold wyE
  by_cases z : nxE gp m < 0
  · rw [if_pos z, if_pos z, up_i (by decide), up_s]
  · rw [if_neg z, if_neg z, up_s]
theorem wy_b (hp : PO gp mm) (hP : PLO Pl) (hb : HB b) (t : TM gp m) (o0 : 0 ≤ on) (o1 : on ≤ 60000 + 10000 * m) : HB (wyE gp mm Pl b m on) := by
  obtain ⟨b1, b2, b3, b4, b5, _⟩ := ml_b hp hP hb t o0
  have r1 := (hp m t).2.1
  have x1 := t.1
  obtain ⟨h1, h2, h3⟩ := hb
  refine ⟨by rw [wy_c (by omega) (by omega)]; exact h1, fun j j0 j1 => by rw [wy_c (by omega) (by omega), wy_c (by omega) (by omega)]; exact h2 j j0 j1, fun k k0 k1 => ?_⟩
  by_cases z : k = m
  · rw [z, wy_6, wy_7]
    refine ⟨by omega, ?_⟩
    by_cases y : nxE gp m < 0
    · rw [if_pos y]; omega
    · rw [if_neg y]; omega
  · rw [wy_c (by omega) (by omega), wy_c (by omega) (by omega)]; exact h3 k k0 k1
theorem hrF_b (hp : PO gp mm) (hP : PLO Pl) : ∀ (n : Nat) (m : Int) (b : GH) (on : Int), 0 ≤ m → m + n = 6 → HB b → b 0 0 ≤ 959 → 0 ≤ on → on ≤ 60000 + 10000 * m → HB (hrF gp mm Pl n m b on) ∧ hrF gp mm Pl n m b on 0 0 = b 0 0 + 1 ∧ ∀ i j, (i = 4 ∨ i = 5) → hrF gp mm Pl n m b on i j = b i j := by
  intro n
  induction n with
  | zero =>
    intro m b on m0 e hb h9 _ _
    show HB (up b 0 0 (b 0 0 + 1)) ∧ up b 0 0 (b 0 0 + 1) 0 0 = b 0 0 + 1 ∧ ∀ i j, (i = 4 ∨ i = 5) → up b 0 0 (b 0 0 + 1) i j = b i j
    obtain ⟨h1, h2, h3⟩ := hb
    refine ⟨⟨by rw [up_s]; omega, fun j j0 j1 => by rw [up_i (by decide), up_i (by decide)]; exact h2 j j0 j1, fun k k0 k1 => by rw [up_i (by decide), up_i (by decide)]; exact h3 k k0 k1⟩, up_s, fun i j hi => up_i (by omega)⟩
  | succ n ih =>
    intro m b on m0 e hb h9 o0 o1
    show HB (if gp 167 m = 0 then hrF gp mm Pl n (m + 1) b on else hrF gp mm Pl n (m + 1) (wyE gp mm Pl b m on) (b 7 m)) ∧ (if gp 167 m = 0 then hrF gp mm Pl n (m + 1) b on else hrF gp mm Pl n (m + 1) (wyE gp mm Pl b m on) (b 7 m)) 0 0 = b 0 0 + 1 ∧ ∀ i j, (i = 4 ∨ i = 5) → (if gp 167 m = 0 then hrF gp mm Pl n (m + 1) b on else hrF gp mm Pl n (m + 1) (wyE gp mm Pl b m on) (b 7 m)) i j = b i j
    by_cases z : gp 167 m = 0
    · rw [if_pos z]; exact ih (m + 1) b on (by omega) (by omega) hb h9 o0 (by omega)
    · rw [if_neg z]
      have t : TM gp m := ⟨m0, by omega, z⟩
      have w := hb.2.2 m m0 (by omega)
      have e0 : wyE gp mm Pl b m on 0 0 = b 0 0 := wy_c (by omega) (by omega)
      obtain ⟨x, y, v⟩ := ih (m + 1) (wyE gp mm Pl b m on) (b 7 m) (by omega) (by omega) (wy_b hp hP hb t o0 o1) (by omega) w.2.1 (by omega)
      exact ⟨x, by rw [y, e0], fun i j hi => by rw [v i j hi]; exact wy_c (by omega) (by omega)⟩
theorem cm_b (hb : HB b) (h9 : b 0 0 ≤ 959) : 0 ≤ cmE b ∧ cmE b ≤ 59999 := by
  have d := (hb.2.1 (b 0 0 / 24) (by have := hb.1; omega) (by omega)).1
  unfold cmE
  by_cases z : b 5 (b 0 0 / 24) = 0
  · rw [if_pos z]; omega
  · rw [if_neg z]; decide
theorem hb_01 {v : Int} (hb : HB b) : HB (up b 0 1 v) := by
  obtain ⟨h1, h2, h3⟩ := hb
  exact ⟨by rw [up_j (by decide)]; exact h1, fun j j0 j1 => by rw [up_i (by decide), up_i (by decide)]; exact h2 j j0 j1, fun k k0 k1 => by rw [up_i (by decide), up_i (by decide)]; exact h3 k k0 k1⟩
theorem hr_b (hp : PO gp mm) (hP : PLO Pl) (hb : HB b) (h9 : b 0 0 ≤ 959) : HB (hrE gp mm Pl b) ∧ hrE gp mm Pl b 0 0 = b 0 0 + 1 ∧ ∀ i j, (i = 4 ∨ i = 5) → hrE gp mm Pl b i j = b i j := by
  have c := cm_b hb h9
  have e0 : up b 0 1 (wL (b 0 1 + cmE b)) 0 0 = b 0 0 := up_j (by decide)
  obtain ⟨x, y, z⟩ := hrF_b hp hP 6 0 (up b 0 1 (wL (b 0 1 + cmE b))) (cmE b) (Int.le_refl 0) (by decide) (hb_01 hb) (by omega) c.1 (by omega)
  exact ⟨x, by show hrF gp mm Pl 6 0 (up b 0 1 (wL (b 0 1 + cmE b))) (cmE b) 0 0 = _; rw [y, e0], fun i j hi => (z i j hi).trans (up_i (by omega))⟩
end HRB
