/-! the reference's reading of a wheel does what the reading machine does -/
theorem WX.rf (g : GH) : WX g g := fun _ _ _ _ _ _ _ _ => rfl
theorem WX.tr {a b c : GH} (h1 : WX a b) (h2 : WX b c) : WX a c := fun i j p q s t u w => (h2 i j p q s t u w).trans (h1 i j p q s t u w)
theorem WX.u {a b : GH} {i j v : Int} (h : WX a b) (hi : (i = 165 ∧ ((25 ≤ j ∧ j ≤ 33) ∨ j = 36)) ∨ i = 190 ∨ i = 191 ∨ (168 ≤ i ∧ i ≤ 180 ∧ j = 7) ∨ (182 ≤ i ∧ i ≤ 184 ∧ 210 ≤ j) ∨ (185 ≤ i ∧ i ≤ 188 ∧ 2450 ≤ j)) : WX a (up b i j v) := fun p q a1 a2 a3 a4 a5 a6 => by
  rw [up_o (by omega)]; exact h p q a1 a2 a3 a4 a5 a6
theorem OX.wx {a b : GH} (e : OX a b) : WX a b := fun i j p _ _ _ _ _ => e i j (by omega)
theorem CK.wx {a b : GH} (h : CK 2450 a b) : WX a b := fun i j p q s _ _ u => h i j p q s u
/-- the reading has found its fault -/
def BE (T : Int → Int) (n : Int) (g0 : GH) (x0 : XS) (g : GH) : Prop := ∃ s' m' st', WX g0 g ∧ Rch T n x0 (91, s', m', st') ∧ BAD g s'
/-- the wheel is read up to field c -/
def LWH (T : Int → Int) (n : Int) (g0 : GH) (x0 : XS) (m0 : GH) (c : Int) (g : GH) (ph : Nat) (s : Int) (m : GH) : Prop := WX g0 g ∧ Rch T n x0 (ph, s, m, []) ∧ LV T n g s ∧ (∀ j, 0 ≤ j → j < c → g (168 + j) 7 = m 0 j) ∧ (∀ j, 5 ≤ j → c ≤ j → m 0 j = m0 0 j) ∧ g 165 31 = 2450 ∧ (∀ j, 7 ≤ j → j ≤ 12 → g (168 + j) 7 = m0 0 j)
def LBH (T : Int → Int) (n : Int) (g0 : GH) (x0 : XS) (m0 : GH) (c : Int) (g : GH) (ph : Nat) : Prop := (∃ s m, LWH T n g0 x0 m0 c g ph s m) ∨ BE T n g0 x0 g
theorem BE.eq {T : Int → Int} {n : Int} {g0 g g' : GH} {x0 : XS} (h : BE T n g0 x0 g) (e : WX g g') (a : g' 165 33 = g 165 33) (b : g' 165 25 = g 165 25) : BE T n g0 x0 g' := by
  obtain ⟨s', m', st', c, d, f⟩ := h
  exact ⟨s', m', st', c.tr e, d, by rw [a]; exact f.1, by rw [b]; exact f.2⟩
theorem BE.u {T : Int → Int} {n : Int} {g0 g : GH} {x0 : XS} {i j v : Int} (h : BE T n g0 x0 g) (hi : (168 ≤ i ∧ i ≤ 180 ∧ j = 7) ∨ (182 ≤ i ∧ i ≤ 184 ∧ 210 ≤ j)) : BE T n g0 x0 (up g i j v) :=
  h.eq ((WX.rf g).u (by omega)) (by rw [up_o (by omega)]) (by rw [up_o (by omega)])
theorem BE.b {T : Int → Int} {n : Int} {g0 g : GH} {x0 : XS} (h : BE T n g0 x0 g) : g 165 33 ≠ 0 := by
  obtain ⟨_, _, _, _, _, f⟩ := h; exact f.1
theorem BE.mk {T : Int → Int} {n s : Int} {g0 g g' m : GH} {x0 : XS} {ph : Nat} {st : List (Int × Int)} (c : WX g0 g) (rc : Rch T n x0 (ph, s, m, st)) (ex : xp T n ph s m st = (91, s, m, st)) (e : ∀ i j, ¬ (i = 165 ∧ (j = 25 ∨ j = 33)) → g' i j = g i j) (b : BAD g' s) : BE T n g0 x0 g' :=
  ⟨s, m, st, fun i j p q u t y z => (e i j (by omega)).trans (c i j p q u t y z), rc.st ex, b⟩
section MRW
variable {sc : SCR} {d : Nat} {Q : QJ} {g r : GH} {l1 l2 n s c : Int} {T : Int → Int} {m g0 m0 : GH} {x0 : XS} {ph ph' : Nat}
theorem LWH.ox {g' : GH} {s' : Int} (h : LWH T n g0 x0 m0 c g ph s m) (e : OX g g') (rc : Rch T n x0 (ph', s', m, [])) (lv : LV T n g' s') : LWH T n g0 x0 m0 c g' ph' s' m := by
  obtain ⟨a, _, _, b, f, k, l⟩ := h
  exact ⟨a.tr e.wx, rc, lv, fun j x y => by rw [e (168 + j) 7 (by omega)]; exact b j x y, f, by rw [e 165 31 (by decide)]; exact k, fun j x y => by rw [e (168 + j) 7 (by omega)]; exact l j x y⟩
/-- field c is written -/
theorem LWH.wr {v s' : Int} {g' : GH} (h : LWH T n g0 x0 m0 c g ph s m) (hc : 0 ≤ c ∧ c ≤ 6) (e : OX g g') (rc : Rch T n x0 (ph', s', up m 0 c v, [])) (lv : LV T n g' s') : LWH T n g0 x0 m0 (c + 1) (up g' (168 + c) 7 v) ph' s' (up m 0 c v) := by
  obtain ⟨a, _, _, b, f, k, l⟩ := h
  refine ⟨(a.tr e.wx).u (by omega), rc, ⟨lv.1.eq (fun i j hi => up_o (by omega)), by rw [up_o (by omega)]; exact lv.2⟩, fun j x y => ?_, fun j x y => ?_, ?_, fun j x y => ?_⟩
  · by_cases z : j = c
    · rw [z, up_s, up_s]
    · rw [up_o (by omega), up_j z, e (168 + j) 7 (by omega)]; exact b j x (by omega)
  · rw [up_j (by omega)]; exact f j x (by omega)
  · rw [up_o (by omega), e 165 31 (by decide)]; exact k
  · rw [up_o (by omega), e (168 + j) 7 (by omega)]; exact l j x y
/-- the same value stands there already -/
theorem LWH.df {v : Int} (h : LWH T n g0 x0 m0 c g ph s m) (hc : 5 ≤ c ∧ c ≤ 6) (hv : m0 0 c = v) : LWH T n g0 x0 m0 (c + 1) (up g (168 + c) 7 v) ph s m := by
  have hm : m 0 c = v := by rw [h.2.2.2.2.1 c (by omega) (Int.le_refl c)]; exact hv
  have e : up m 0 c v = m := up_id hm
  have := h.wr (v := v) (by omega) (OX.rf g) (by rw [e]; exact h.2.1) h.2.2.1
  rw [e] at this; exact this
theorem n8 (hr : RI r) (i : Nat) (hi : i < 22) (hw : l1 = wco i) (hb : LBH T n g0 x0 m0 c g ph) (hx : ∀ s m, xp T n ph s m [] = if isW T n s (wdl i) = true then (ph', nx T n s, m, []) else (91, s, m, [])) (h : ∀ g', LBH T n g0 x0 m0 c g' ph' → Q 0 g' r) : Ce sc (d + 4) 148 [(2, 165), (1, l1)] g r Q := by
  rcases hb with ⟨s, m, lw⟩ | be
  · refine f_148 hr i hi hw lw.2.2.1 (fun z g' e lv => h g' (Or.inl ⟨nx T n s, m, lw.ox e (lw.2.1.st ?_) lv⟩)) (fun z g' e b => h g' (Or.inr (BE.mk lw.1 lw.2.1 ?_ e b)))
    · show xp T n ph s m [] = _
      rw [hx, if_pos z]
    · rw [hx, if_neg z]
  · exact x_148 be.b (h g (Or.inr be))
theorem n9 (hr : RI r) (hc : 0 ≤ c ∧ c ≤ 6) (hb : LBH T n g0 x0 m0 c g ph) (hx : ∀ s m, xp T n ph s m [] = if isN T n s l1 l2 = true then (ph', nx T n s, up m 0 c (nb T n s), []) else (91, s, m, [])) (h : ∀ v g', LBH T n g0 x0 m0 (c + 1) (up g' (168 + c) 7 v) ph' → Q v g' r) : Ce sc (d + 3) 149 [(2, 165), (0, l1), (0, l2)] g r Q := by
  rcases hb with ⟨s, m, lw⟩ | be
  · refine f_149 hr lw.2.2.1 (fun z g' e lv => h _ g' (Or.inl ⟨nx T n s, _, lw.wr hc e (lw.2.1.st ?_) lv⟩)) (fun z g' e b => h _ g' (Or.inr ((BE.mk lw.1 lw.2.1 ?_ e b).u (by omega))))
    · show xp T n ph s m [] = _
      rw [hx, if_pos z]
    · rw [hx, if_neg z]
  · exact x_149 be.b (h _ g (Or.inr (be.u (by omega))))
theorem f_155 (hr : RI r) (i0 : I0 m0) (hb : LBH T n g0 x0 m0 0 g 0) (h : ∀ g', LBH T n g0 x0 m0 7 g' 14 → Q 0 g' r) : Ce sc (d + 5) 155 [(2, 165)] g r Q := by
  have k9 : okr 218 165 9 := okd (by decide +kernel)
  have e138 : ∀ (g1 : GH) (v : Int), LBH T n g0 x0 m0 6 (up g1 173 7 v) 12 → WQ sc (d + 4) 155 Q 138 [(2, 165), (0, 7)] [(0, v), (0, 7), (2, 173)] g1 r := by
    intro g1 v hb
    refine b_155_138 ⟨i_173.mpr ⟨by decide, by decide⟩, fun g2 e2 => ⟨k9, k9, ?_⟩⟩
    rw [← e2] at hb
    rw [r_165_8 hr]
    have fin : ∀ g3 v3, LBH T n g0 x0 m0 7 (up g3 174 7 v3) 14 → okI 218 174 11 7 ∧ ∀ g4, g4 = up g3 174 7 v3 → Q 0 g4 r := fun g3 v3 b => ⟨i_174.mpr ⟨by decide, by decide⟩, fun g4 e4 => by rw [e4]; exact h _ b⟩
    rcases hb with ⟨s, m, lw⟩ | be
    · refine f_147 hr 7 (by decide) rfl lw.2.2.1 (fun z g3 e lv => ?_) (fun z => ?_)
      · rw [if_neg (by decide)]
        have lw3 : LWH T n g0 x0 m0 6 g3 13 (nx T n s) m := lw.ox e (lw.2.1.st (by
          show (if isW T n s (wdl 7) = true then _ else _) = _
          rw [if_pos z])) lv
        exact ⟨k9, n9 (c := 6) hr (by decide) (Or.inl ⟨_, _, lw3⟩) (fun s m => rfl) (fun v4 g4 b4 => fin g4 v4 b4)⟩
      · rw [if_pos rfl]
        refine fin g2 10 (Or.inl ⟨s, m, ?_⟩)
        have lw2 : LWH T n g0 x0 m0 6 g2 14 s m := lw.ox (OX.rf g2) (lw.2.1.st (by
          show (if isW T n s (wdl 7) = true then _ else _) = _
          rw [if_neg z])) lw.2.2.1
        exact lw2.df (by decide) i0.2.1
    · refine x_147 be.b ?_
      rw [if_pos rfl]
      exact fin g2 10 (Or.inr (be.u (by omega)))
  have e39 : ∀ g1, LBH T n g0 x0 m0 1 g1 3 → WQ sc (d + 4) 155 Q 39 [(2, 165), (0, 7)] [] g1 r := by
    intro g1 b1
    refine b_155_39 ⟨k9, k9, n9 (c := 1) (ph' := 4) hr (by decide) b1 (fun s m => rfl) (fun v2 g2 b2 => ?_)⟩
    rw [r_165_3 hr]
    refine ⟨i_169.mpr ⟨by decide, by decide⟩, fun g3 e3 => ⟨k9, ?_⟩⟩
    have b3 : LBH T n g0 x0 m0 2 g3 4 := by rw [e3]; exact b2
    refine n8 (ph' := 5) hr 3 (by decide) rfl b3 (fun s m => rfl) (fun g4 b4 => ⟨k9, k9, ?_⟩)
    refine n9 (c := 2) (ph' := 6) hr (by decide) b4 (fun s m => rfl) (fun v5 g5 b5 => ?_)
    rw [r_165_4 hr]
    refine ⟨i_170.mpr ⟨by decide, by decide⟩, fun g6 e6 => ⟨k9, ?_⟩⟩
    have b6 : LBH T n g0 x0 m0 3 g6 6 := by rw [e6]; exact b5
    refine n8 (ph' := 7) hr 4 (by decide) rfl b6 (fun s m => rfl) (fun g7 b7 => ⟨k9, k9, ?_⟩)
    refine n9 (c := 3) (ph' := 8) hr (by decide) b7 (fun s m => rfl) (fun v8 g8 b8 => ?_)
    rw [r_165_5 hr]
    refine ⟨i_171.mpr ⟨by decide, by decide⟩, fun g9 e9 => ⟨k9, ?_⟩⟩
    have b9 : LBH T n g0 x0 m0 4 g9 8 := by rw [e9]; exact b8
    refine n8 (ph' := 9) hr 5 (by decide) rfl b9 (fun s m => rfl) (fun g10 b10 => ⟨k9, k9, ?_⟩)
    refine n9 (c := 4) (ph' := 10) hr (by decide) b10 (fun s m => rfl) (fun v11 g11 b11 => ?_)
    rw [r_165_6 hr]
    refine ⟨i_172.mpr ⟨by decide, by decide⟩, fun g12 e12 => ⟨k9, k9, ?_⟩⟩
    have b12 : LBH T n g0 x0 m0 5 g12 10 := by rw [e12]; exact b11
    rw [r_165_7 hr]
    rcases b12 with ⟨s, m, lw⟩ | be
    · refine f_147 hr 6 (by decide) rfl lw.2.2.1 (fun z g13 e lv => ?_) (fun z => ?_)
      · rw [if_neg (by decide)]
        have lw3 : LWH T n g0 x0 m0 5 g13 11 (nx T n s) m := lw.ox e (lw.2.1.st (by
          show (if isW T n s (wdl 6) = true then _ else _) = _
          rw [if_pos z])) lv
        exact ⟨k9, n9 (c := 5) (ph' := 12) hr (by decide) (Or.inl ⟨_, _, lw3⟩) (fun s m => rfl) (fun v14 g14 b14 => e138 g14 v14 b14)⟩
      · rw [if_pos rfl]
        refine e138 g12 4 (Or.inl ⟨s, m, ?_⟩)
        have lw2 : LWH T n g0 x0 m0 5 g12 12 s m := lw.ox (OX.rf g12) (lw.2.1.st (by
          show (if isW T n s (wdl 6) = true then _ else _) = _
          rw [if_neg z])) lw.2.2.1
        exact lw2.df (by decide) i0.1
    · refine x_147 be.b ?_
      rw [if_pos rfl]
      exact e138 g12 4 (Or.inr (be.u (by omega)))
  refine c_155 ⟨k9, n8 (ph' := 1) hr 0 (by decide) rfl hb (fun s m => rfl) (fun g1 b1 => ⟨k9, k9, ?_⟩)⟩
  have i8 : okI 218 168 13 7 := i_168.mpr ⟨by decide, by decide⟩
  have zero : ∀ g3 : GH, g3 168 7 = 0 → LBH T n g0 x0 m0 1 g3 2 → (if g3 168 7 = 0 then okr 218 165 9 ∧ Ce sc (d + 4) 148 [(2, 165), (1, 11438892)] g3 r fun v3 g4 r3 => WQ sc (d + 4) 155 Q 39 [(2, 165), (0, 7)] [] g4 r3 else WQ sc (d + 4) 155 Q 39 [(2, 165), (0, 7)] [] g3 r) := by
    intro g3 z b3
    rw [if_pos z]
    exact ⟨k9, n8 (ph' := 3) hr 2 (by decide) rfl b3 (fun s m => rfl) (fun g4 b4 => e39 g4 b4)⟩
  rcases b1 with ⟨s, m, lw⟩ | be
  · refine f_147 hr 1 (by decide) rfl lw.2.2.1 (fun z g2 e lv => ?_) (fun z => ?_)
    · rw [r_165_2 hr]
      refine ⟨Or.inr ⟨i8, Or.inr rfl⟩, fun g3 e3 => ⟨k9, Or.inr i8, ?_⟩⟩
      have f3 : g3 168 7 = 1 := by rw [e3, up_s]
      rw [f3, if_neg (by decide)]
      have lw3 : LWH T n g0 x0 m0 1 (up g2 168 7 1) 3 (nx T n s) (up m 0 0 1) := lw.wr (c := 0) (by decide) e (lw.2.1.st (by
        show (if isW T n s (wdl 1) = true then _ else _) = _
        rw [if_pos z])) lv
      rw [e3]; exact e39 _ (Or.inl ⟨_, _, lw3⟩)
    · rw [r_165_2 hr]
      refine ⟨Or.inr ⟨i8, Or.inl rfl⟩, fun g3 e3 => ⟨k9, Or.inr i8, zero g3 (by rw [e3, up_s]) ?_⟩⟩
      have lw3 : LWH T n g0 x0 m0 1 (up g1 168 7 0) 2 s (up m 0 0 0) := lw.wr (c := 0) (by decide) (OX.rf g1) (lw.2.1.st (by
        show (if isW T n s (wdl 1) = true then _ else _) = _
        rw [if_neg z])) lw.2.2.1
      rw [e3]; exact Or.inl ⟨_, _, lw3⟩
  · refine x_147 be.b ?_
    rw [r_165_2 hr]
    refine ⟨Or.inr ⟨i8, Or.inl rfl⟩, fun g3 e3 => ⟨k9, Or.inr i8, zero g3 (by rw [e3, up_s]) (Or.inr ?_)⟩⟩
    rw [e3]; exact be.u (by omega)
end MRW
