/-! the reference's reading of statements does what the reading machine does -/
def pe (m : GH) (k : Int) : Int := if k = 0 then 0 else m 3 (k - 1)
def RGF (g m : GH) : Prop := ∀ j, 0 ≤ j → j ≤ 12 → g (168 + j) 7 = m 0 j
def GTM (g m : GH) : Prop := ∀ k, 0 ≤ k → k < m 0 11 → g 182 (210 + k) = m 2 k ∧ g 183 (210 + k) = 2450 + pe m k ∧ g 184 (210 + k) = 2450 + m 3 k
def GI (m : GH) : Prop := m 0 13 = pe m (m 0 11)
/-- the reference stands where the machine stands, between two statements or in one -/
def MPL (T : Int → Int) (n : Int) (g0 : GH) (x0 : XS) (g : GH) (ph : Nat) (s : Int) (m : GH) : Prop := WX g0 g ∧ Rch T n x0 (ph, s, m, []) ∧ LV T n g s ∧ STM g m ∧ RGF g m ∧ GTM g m ∧ GI m
def LM2 (T : Int → Int) (n : Int) (g0 : GH) (x0 : XS) (b : Int) (g : GH) (ph : Nat) : Prop := (∃ s m, b < s ∧ MPL T n g0 x0 g ph s m) ∨ BE T n g0 x0 g
theorem LM2.le {T : Int → Int} {n b b' : Int} {g0 g : GH} {x0 : XS} {ph : Nat} (h : LM2 T n g0 x0 b g ph) (e : b' ≤ b) : LM2 T n g0 x0 b' g ph := by
  rcases h with ⟨s, m, a, mp⟩ | be
  · exact Or.inl ⟨s, m, by omega, mp⟩
  · exact Or.inr be
theorem GTM.eq {g g' m m' : GH} (h : GTM g m) (e : ∀ i j, 182 ≤ i → i ≤ 184 → g' i j = g i j) (a : m' 0 11 = m 0 11) (b : ∀ k, m' 2 k = m 2 k) (c : ∀ k, m' 3 k = m 3 k) : GTM g' m' := fun k k0 k1 => by
  rw [a] at k1
  have := h k k0 k1
  have p : pe m' k = pe m k := by unfold pe; rw [c]
  rw [e 182 _ (by decide) (by decide), e 183 _ (by decide) (by decide), e 184 _ (by decide) (by decide), b, c, p]; exact this
section MST
variable {sc : SCR} {d : Nat} {Q : QJ} {g r : GH} {l1 l2 n s c b : Int} {T : Int → Int} {m g0 m0 : GH} {x0 : XS} {ph ph' : Nat}
theorem MPL.of (i0 : I0 m0) (h : LWH T n g0 x0 m0 7 g 14 s m) : MPL T n g0 x0 g 14 s m := by
  obtain ⟨a, b, c, e, f, k, l⟩ := h
  obtain ⟨_, _, _, _, _, _, z11, _, z13⟩ := i0
  have m13 : m 0 13 = 0 := (f 13 (by decide) (by decide)).trans z13
  have m11 : m 0 11 = 0 := (f 11 (by decide) (by decide)).trans z11
  refine ⟨a, b, c, ⟨by rw [k, m13]; decide, fun c a b => absurd b (by omega)⟩, fun j x y => ?_, fun k a b => absurd b (by omega), ?_⟩
  · by_cases z : j < 7
    · exact e j x z
    · rw [l j (by omega) y, f j (by omega) (by omega)]
  · unfold GI pe; rw [m11, m13, if_pos rfl]
/-- read on: nothing of the mill has changed -/
theorem MPL.ox {g' : GH} {s' : Int} (h : MPL T n g0 x0 g ph s m) (e : OX g g') (rc : Rch T n x0 (ph', s', m, [])) (lv : LV T n g' s') : MPL T n g0 x0 g' ph' s' m := by
  obtain ⟨a, _, _, b, f, k, l⟩ := h
  exact ⟨a.tr e.wx, rc, lv, b.ox e, fun j x y => by rw [e (168 + j) 7 (by omega)]; exact f j x y, k.eq (fun i j _ _ => e i j (by omega)) rfl (fun _ => rfl) (fun _ => rfl), l⟩
/-- a number of the mill is set -/
theorem MPL.wr {g' : GH} {s' v j : Int} (h : MPL T n g0 x0 g ph s m) (hj : 0 ≤ j ∧ j ≤ 12 ∧ j ≠ 11) (e : OX g g') (rc : Rch T n x0 (ph', s', up m 0 j v, [])) (lv : LV T n g' s') : MPL T n g0 x0 (up g' (168 + j) 7 v) ph' s' (up m 0 j v) := by
  obtain ⟨a, _, _, b, f, k, l⟩ := h
  refine ⟨(a.tr e.wx).u (by omega), rc, ⟨lv.1.eq (fun i j hi => up_o (by omega)), by rw [up_o (by omega)]; exact lv.2⟩, ((b.ox e).rg (by omega)).eq (fun p q hp => up_o (by omega)), fun q x y => ?_, ?_, ?_⟩
  · by_cases z : q = j
    · rw [z, up_s, up_s]
    · rw [up_o (by omega), up_j z, e (168 + q) 7 (by omega)]; exact f q x y
  · refine k.eq (fun p q x y => ?_) (up_j (by omega)) (fun _ => up_i (by decide)) (fun _ => up_i (by decide))
    rw [up_o (by omega)]; exact e p q (by omega)
  · unfold GI pe at l ⊢
    rw [up_j (by omega), up_j (by omega), up_i (by decide)]; exact l
theorem f_158 (hr : RI r) (hx : XI T n x0) (hb : LM2 T n g0 x0 b g 14) (h : ∀ g', LM2 T n g0 x0 b g' 15 → Q 0 g' r) : Ce sc (d + 3) 158 [(2, 165)] g r Q := by
  have k9 : okr 218 165 9 := okd (by decide +kernel)
  have i80 : okI 218 180 11 7 := i_180.mpr ⟨by decide, by decide⟩
  refine c_158 ⟨k9, ?_⟩
  rcases hb with ⟨s, m, bs, mp⟩ | be
  · have lv := mp.2.2.1
    have xg : XG 14 m := (hx.r mp.2.1).2.2.2.2.2.2.1
    have b12 : 0 ≤ m 0 12 ∧ m 0 12 ≤ 29 := by unfold XG at xg; omega
    rw [if_pos lv.2, lv.1.f29]
    refine ⟨k9, ite_c (fun z => ⟨k9, ?_⟩) (fun z => ⟨k9, f_145 lv (fun _ g1 e b => ⟨k9, ?_⟩)⟩)⟩
    · rw [if_pos lv.2]
      have z' := (tok_c (T := T) (n := n) (s := s) (c := 59) (by decide)).mp z
      refine ⟨k9, fn_144 hr lv.1 (fun _ g1 o1 t1 => ?_)⟩
      rw [r_165_14 hr]
      have f12 : g1 180 7 = m 0 12 := by rw [o1 180 7 (by decide)]; exact mp.2.2.2.2.1 12 (by decide) (by decide)
      rw [f12, wr_id ⟨by omega, by omega⟩]
      refine ⟨k9, i80, i80, fun g2 e2 => h g2 (Or.inl ⟨nx T n s, up m 0 12 (m 0 12 + 1), by have := nx_gt (T := T) (isS_lt z'); omega, ?_⟩)⟩
      rw [e2]
      exact mp.wr (j := 12) (by decide) o1 (mp.2.1.st (by
        show (if isS T n s 59 = true then _ else _) = _
        rw [if_pos z'])) (lv.nx o1 t1)
    · rw [if_neg b.1]
      refine h g1 (Or.inr (BE.mk mp.1 mp.2.1 ?_ e b))
      show (if isS T n s 59 = true then _ else _) = _
      rw [if_neg (fun w => z ((tok_c (by decide)).mpr w))]
  · rw [if_neg be.b]
    refine ⟨k9, ?_⟩
    rw [if_neg be.b]
    exact h g (Or.inr be)
/-- a gate -/
theorem f_156 (hr : RI r) (hx : XI T n x0) (mp : MPL T n g0 x0 g 20 s m) (h : ∀ g', LM2 T n g0 x0 s g' 14 → Q 0 g' r) : Ce sc (d + 7) 156 [(2, 165)] g r Q := by
  have k9 : okr 218 165 9 := okd (by decide +kernel)
  have mp0 := mp
  obtain ⟨wx, rc, lv, stm, rgf, gtm, gi⟩ := mp
  have xg : XG 20 m := (hx.r rc).2.2.2.2.2.2.1
  have b11 : 0 ≤ m 0 11 ∧ m 0 11 ≤ 28 := by unfold XG at xg; omega
  have g79 : g 179 7 = m 0 11 := rgf 11 (by decide) (by decide)
  have i7 : okI 218 179 11 7 := i_179.mpr ⟨by decide, by decide⟩
  have hw : wr (210 + g 179 7) = 210 + m 0 11 := by rw [g79]; exact wr_id ⟨by omega, by omega⟩
  refine c_156 ?_
  rw [r_165_13 hr, hw]
  -- the end, in a fault
  have badE : ∀ g5, BE T n g0 x0 g5 → okr 218 165 9 ∧ okr 218 165 9 ∧ okI 218 184 11 (210 + m 0 11) ∧ ∀ g6, g6 = up g5 184 (210 + m 0 11) (g5 165 31) → okr 218 165 9 ∧ okI 218 179 11 7 ∧ okI 218 179 11 7 ∧ ∀ g7, g7 = up g6 179 7 (wr (g6 179 7 + 1)) → Q 0 g7 r := by
    intro g5 be
    refine ⟨k9, k9, i_184.mpr ⟨by omega, by omega⟩, fun g6 e6 => ⟨k9, i7, i7, fun g7 e7 => h g7 (Or.inr ?_)⟩⟩
    rw [e7, e6]
    exact (be.u (by omega)).u (by omega)
  refine ⟨k9, i7, k9, k9, f_149 hr lv (fun z g1 o1 lv1 => ?_) (fun z g1 e1 b1 => ?_)⟩
  · have ex1 : xp T n 20 s m [] = (21, nx T n s, up m 0 16 (nb T n s), []) := by
      show (if isN T n s 0 999 = true then _ else _) = _
      rw [if_pos z]
    rw [r_165_16 hr]
    refine ⟨i_182.mpr ⟨by omega, by omega⟩, fun g2 e2 => ⟨k9, k9, ?_⟩⟩
    rw [r_165_17 hr]
    refine ⟨i_183.mpr ⟨by omega, by omega⟩, fun g3 e3 => ⟨k9, ?_⟩⟩
    have rc1 := rc.st ex1
    have hm16 : up m 0 16 (nb T n s) 0 16 = nb T n s := up_s
    have hmo : ∀ i j, ¬ (i = 0 ∧ j = 16) → up m 0 16 (nb T n s) i j = m i j := fun i j hi => up_o hi
    generalize hm1 : up m 0 16 (nb T n s) = m1 at rc1 hm16 hmo ex1
    have lv3 : LV T n g3 (nx T n s) := by
      rw [e3, e2]
      exact ⟨lv1.1.eq (fun i j hi => by rw [up_o (by omega), up_o (by omega)]), by rw [up_o (by omega), up_o (by omega)]; exact lv1.2⟩
    have n3 : ∀ i j, i ≠ 182 → i ≠ 183 → g3 i j = g1 i j := fun i j a b => by rw [e3, up_i b, e2, up_i a]
    have wx3 : WX g0 g3 := by rw [e3, e2]; exact ((wx.tr o1.wx).u (by omega)).u (by omega)
    have stm3 : STM g3 m1 := by
      have : STM g1 m1 := by rw [← hm1]; exact (stm.ox o1).rg (by decide)
      exact this.eq (fun i j hi => n3 i j (by omega) (by omega))
    have w2 : g2 165 31 = 2450 + m 0 13 := by rw [e2, up_i (by decide), o1 165 31 (by decide)]; exact stm.1
    have f82 : g3 182 (210 + m 0 11) = nb T n s := by rw [e3, up_i (by decide), e2, up_s]
    have f83 : g3 183 (210 + m 0 11) = 2450 + m 0 13 := by rw [e3, up_s]; exact w2
    have old82 : ∀ i j, 182 ≤ i → i ≤ 184 → j < 210 + m 0 11 → g3 i j = g i j := fun i j a b c => by
      rw [e3, up_o (by omega), e2, up_o (by omega)]; exact o1 i j (by omega)
    have rg3 : ∀ j, 0 ≤ j → j ≤ 12 → g3 (168 + j) 7 = m 0 j := fun j a b => by
      rw [n3 _ _ (by omega) (by omega), o1 (168 + j) 7 (by omega)]; exact rgf j a b
    -- the end, well
    have fin : ∀ (g5 : GH) (s5 : Int) (m5 : GH), s < s5 → WX g0 g5 → CK 2450 g3 g5 → Rch T n x0 (22, s5, m5, []) → KW m1 m5 → LV T n g5 s5 → STM g5 m5 → okr 218 165 9 ∧ okr 218 165 9 ∧ okI 218 184 11 (210 + m 0 11) ∧ ∀ g6, g6 = up g5 184 (210 + m 0 11) (g5 165 31) → okr 218 165 9 ∧ okI 218 179 11 7 ∧ okI 218 179 11 7 ∧ ∀ g7, g7 = up g6 179 7 (wr (g6 179 7 + 1)) → Q 0 g7 r := by
      intro g5 s5 m5 ss5 wx5 ck5 rc5 kw5 lv5 stm5
      refine ⟨k9, k9, i_184.mpr ⟨by omega, by omega⟩, fun g6 e6 => ⟨k9, i7, i7, fun g7 e7 => h g7 (Or.inl ?_)⟩⟩
      have k5 : ∀ i j, (168 ≤ i ∧ i ≤ 184) → g5 i j = g3 i j := fun i j hi => ck5 i j (by omega) (by omega) (by omega) (by omega)
      have f6 : g6 179 7 = m 0 11 := by rw [e6, up_i (by decide), k5 179 7 (by decide)]; exact rg3 11 (by decide) (by decide)
      rw [f6, wr_id ⟨by omega, by omega⟩] at e7
      have q11 : m5 0 11 = m 0 11 := by rw [kw5 0 11 (by decide) (by omega), hmo 0 11 (by omega)]
      have q16 : m5 0 16 = nb T n s := by rw [kw5 0 16 (by decide) (by omega)]; exact hm16
      have q2 : ∀ k, m5 2 k = m 2 k := fun k => by rw [kw5 2 k (by decide) (by omega), hmo 2 k (by omega)]
      have q3 : ∀ k, m5 3 k = m 3 k := fun k => by rw [kw5 3 k (by decide) (by omega), hmo 3 k (by omega)]
      have q0 : ∀ j, 0 ≤ j → j ≤ 12 → m5 0 j = m 0 j := fun j a b => by rw [kw5 0 j (by decide) (by omega), hmo 0 j (by omega)]
      have n7 : ∀ i j, ¬ (i = 179 ∧ j = 7) → ¬ (i = 184 ∧ j = 210 + m 0 11) → g7 i j = g5 i j := fun i j a b => by rw [e7, up_o a, e6, up_o b]
      have rc7 : Rch T n x0 (14, s5, up (up (up m5 2 (m5 0 11) (m5 0 16)) 3 (m5 0 11) (m5 0 13)) 0 11 (m5 0 11 + 1), []) := rc5.st rfl
      rw [q11, q16] at rc7
      refine ⟨s5, _, ss5, ?_, rc7, ?_, ?_, ?_, ?_, ?_⟩
      · rw [e7, e6]; exact (wx5.u (by omega)).u (by omega)
      · exact ⟨lv5.1.eq (fun i j hi => n7 i j (by omega) (by omega)), by rw [n7 165 33 (by omega) (by omega)]; exact lv5.2⟩
      · have : STM g7 m5 := stm5.eq (fun i j hi => n7 i j (by omega) (by omega))
        refine ⟨?_, fun c a b => ?_⟩
        · rw [up_j (by decide), up_i (by decide), up_i (by decide)]; exact this.1
        · rw [up_j (by decide), up_i (by decide), up_i (by decide)] at b
          rw [up_i (by decide), up_i (by decide), up_i (by decide)]
          exact this.2 c a b
      · intro j a b
        by_cases z : j = 11
        · rw [z, show (168 : Int) + 11 = 179 by decide, e7, up_s, up_s]
        · rw [n7 _ _ (by omega) (by omega), k5 _ _ (by omega), up_j z, up_i (by decide), up_i (by decide), q0 j a b]
          exact rg3 j a b
      · intro k a b
        rw [up_s] at b
        have p3 : ∀ q, (up (up (up m5 2 (m 0 11) (nb T n s)) 3 (m 0 11) (m5 0 13)) 0 11 (m 0 11 + 1)) 3 q = if q = m 0 11 then m5 0 13 else m 3 q := fun q => by
          rw [up_i (by decide)]
          by_cases z : q = m 0 11
          · rw [z, up_s, if_pos rfl]
          · rw [up_j z, up_i (by decide), if_neg z]; exact q3 q
        have p2 : ∀ q, (up (up (up m5 2 (m 0 11) (nb T n s)) 3 (m 0 11) (m5 0 13)) 0 11 (m 0 11 + 1)) 2 q = if q = m 0 11 then nb T n s else m 2 q := fun q => by
          rw [up_i (by decide), up_i (by decide)]
          by_cases z : q = m 0 11
          · rw [z, up_s, if_pos rfl]
          · rw [up_j z, if_neg z]; exact q2 q
        have pp : pe (up (up (up m5 2 (m 0 11) (nb T n s)) 3 (m 0 11) (m5 0 13)) 0 11 (m 0 11 + 1)) k = pe m k := by
          unfold pe
          by_cases z : k = 0
          · rw [if_pos z, if_pos z]
          · rw [if_neg z, if_neg z, p3, if_neg (by omega)]
        rw [p2, p3, pp]
        by_cases z : k = m 0 11
        · rw [if_pos z, if_pos z, z]
          refine ⟨?_, ?_, ?_⟩
          · rw [n7 _ _ (by omega) (by omega), k5 _ _ (by omega)]; exact f82
          · rw [n7 _ _ (by omega) (by omega), k5 _ _ (by omega), f83]
            have gi : m 0 13 = pe m (m 0 11) := gi
            rw [← gi]
          · rw [e7, up_i (by decide), e6, up_s]; exact stm5.1
        · rw [if_neg z, if_neg z]
          have := gtm k a (by omega)
          refine ⟨?_, ?_, ?_⟩
          · rw [n7 _ _ (by omega) (by omega), k5 _ _ (by omega), old82 182 _ (by decide) (by decide) (by omega)]; exact this.1
          · rw [n7 _ _ (by omega) (by omega), k5 _ _ (by omega), old82 183 _ (by decide) (by decide) (by omega)]; exact this.2.1
          · rw [n7 _ _ (by omega) (by omega), k5 _ _ (by omega), old82 184 _ (by decide) (by decide) (by omega)]; exact this.2.2
      · unfold GI pe
        rw [up_s, up_j (by decide), up_i (by decide), up_i (by decide), if_neg (by omega), up_i (by decide), show m 0 11 + 1 - 1 = m 0 11 by omega, up_s]
    refine f_147 hr 13 (by decide) rfl lv3 (fun z3 g4 o4 lv4 => ?_) (fun z3 => ?_)
    · rw [if_neg (by decide)]
      have ex3 : xp T n 21 (nx T n s) m1 [] = (30, nx T n (nx T n s), m1, [(0, 0)]) := by
        show (if isW T n (nx T n s) (wdl 13) = true then _ else _) = _
        rw [if_pos z3]
      have rc3 := rc1.st ex3
      have ck34 : CK 2450 g3 g4 := OX.ck (CK.rf _ g3) o4
      refine ⟨k9, f_154 hr (hx.r rc3) lv4 (stm3.ox o4) (fun g5 s5 m5 md => ?_) (fun g5 s5 m5 st5 ck5 rc5 bb => ?_)⟩
      · rw [r_165_18 hr, r_165_13 hr]
        exact fin g5 s5 m5 (by
          have a : nx T n (nx T n s) ≤ s5 := rch_le (hx.r rc3) md.2.1
          have := nx_gt (T := T) (isN_lt z)
          have := nx_gt (T := T) (isW_lt z3)
          omega) ((wx3.tr o4.wx).tr md.1.wx) (ck34.tr md.1) (rc3.tr md.2.1) md.2.2.1 md.2.2.2.1 md.2.2.2.2
      · rw [r_165_18 hr, r_165_13 hr]
        exact badE g5 ⟨s5, m5, st5, (wx3.tr o4.wx).tr ck5.wx, rc3.tr rc5, bb⟩
    · rw [if_pos rfl, r_165_18 hr, r_165_13 hr]
      have ex3 : xp T n 21 (nx T n s) m1 [] = (22, nx T n s, m1, []) := by
        show (if isW T n (nx T n s) (wdl 13) = true then _ else _) = _
        rw [if_neg z3]
      exact fin g3 (nx T n s) m1 (nx_gt (isN_lt z)) wx3 (CK.rf _ g3) (rc1.st ex3) (KW.rf m1) lv3 stm3
  · have ex1 : xp T n 20 s m [] = (91, s, m, []) := by
      show (if isN T n s 0 999 = true then _ else _) = _
      rw [if_neg z]
    have be1 : BE T n g0 x0 g1 := BE.mk wx rc ex1 e1 b1
    rw [r_165_16 hr]
    refine ⟨i_182.mpr ⟨by omega, by omega⟩, fun g2 e2 => ⟨k9, k9, ?_⟩⟩
    rw [r_165_17 hr]
    refine ⟨i_183.mpr ⟨by omega, by omega⟩, fun g3 e3 => ⟨k9, ?_⟩⟩
    have be3 : BE T n g0 x0 g3 := by rw [e3, e2]; exact (be1.u (by omega)).u (by omega)
    refine x_147 be3.b ?_
    rw [if_pos rfl, r_165_18 hr, r_165_13 hr]
    exact badE g3 be3
/-- a statement -/
theorem f_157 (hr : RI r) (hx : XI T n x0) (mp : MPL T n g0 x0 g 15 s m) (hk : ¬ kd T n s = 0) (h : ∀ g', LM2 T n g0 x0 s g' 14 → Q 0 g' r) : Ce sc (d + 8) 157 [(2, 165)] g r Q := by
  have k9 : okr 218 165 9 := okd (by decide +kernel)
  have mp0 := mp
  obtain ⟨wx, rc, lv, stm, rgf, gtm, gi⟩ := mp
  have xg : XG 15 m := (hx.r rc).2.2.2.2.2.2.1
  have b12 : m 0 12 ≤ 30 := by unfold XG at xg; omega
  have g80 : g 180 7 = m 0 12 := rgf 12 (by decide) (by decide)
  have er : xp T n 15 s m [] = (91, s, m, []) → Ce sc (d + 7) 145 [(2, 165)] g r (fun v1 g1 r1 => Q 0 g1 r1) := fun ex => f_145 lv (fun v g' e b => h g' (Or.inr (BE.mk wx rc ex e b)))
  have num : ∀ (ph : Nat) (lo hi j : Int) (g1 : GH) (s1 : Int), s ≤ s1 → 0 ≤ j ∧ j ≤ 12 ∧ j ≠ 11 → (∀ s m, xp T n ph s m [] = if isN T n s lo hi = true then (14, nx T n s, up m 0 j (nb T n s), []) else (91, s, m, [])) → MPL T n g0 x0 g1 ph s1 m → okI 218 (168 + j) 11 7 → Ce sc (d + 7) 149 [(2, 165), (0, lo), (0, hi)] g1 r (fun v2 g2 r2 => okI 218 (168 + j) 11 7 ∧ ∀ g3, g3 = up g2 (168 + j) 7 v2 → Q 0 g3 r2) := by
    intro ph lo hi j g1 s1 ss1 hj hx mp1 hI
    refine f_149 hr mp1.2.2.1 (fun z g2 o2 lv2 => ⟨hI, fun g3 e3 => h g3 (Or.inl ⟨nx T n s1, up m 0 j (nb T n s1), by have := nx_gt (T := T) (isN_lt z); omega, ?_⟩)⟩) (fun z g2 e2 b2 => ⟨hI, fun g3 e3 => h g3 (Or.inr ?_)⟩)
    · rw [e3]
      exact mp1.wr hj o2 (mp1.2.1.st (by
        show xp T n ph s1 m [] = _
        rw [hx, if_pos z])) lv2
    · rw [e3]
      exact (BE.mk mp1.1 mp1.2.1 (by rw [hx, if_neg z]) e2 b2).u (by omega)
  refine c_157 ?_
  rw [r_165_14 hr, g80]
  refine ⟨k9, i_180.mpr ⟨by decide, by decide⟩, ite_c (fun q => ⟨k9, er ?_⟩) (fun q => ⟨k9, ?_⟩)⟩
  · show (if kd T n s = 0 then _ else if 30 ≤ m 0 12 then _ else _) = _
    rw [if_neg hk, if_pos (by omega)]
  have xpe : xp T n 15 s m [] = (if isW T n s (wdl 8) = true then (16, nx T n s, m, []) else if isW T n s (wdl 9) = true then (17, nx T n s, m, []) else if isW T n s (wdl 10) = true then (18, nx T n s, m, []) else if isW T n s (wdl 11) = true then (19, nx T n s, m, []) else if isW T n s (wdl 12) = true then (20, nx T n s, m, []) else (91, s, m, [])) := by
    show (if kd T n s = 0 then _ else if 30 ≤ m 0 12 then _ else _) = _
    rw [if_neg hk, if_neg (by omega)]
  refine f_147 hr 8 (by decide) rfl lv (fun z g1 o1 lv1 => ?_) (fun n8 => ?_)
  · rw [if_neg (by decide), r_165_9 hr]
    exact ⟨k9, k9, num 16 1 9999 7 g1 (nx T n s) (by have := nx_gt (T := T) (isW_lt z); omega) (by decide) (fun s m => rfl) (mp0.ox o1 (rc.st (by
      show xp T n 15 s m [] = _
      rw [xpe, if_pos z])) lv1) (i_175.mpr ⟨by decide, by decide⟩)⟩
  rw [if_pos rfl]
  refine ⟨k9, ?_⟩
  refine f_147 hr 9 (by decide) rfl lv (fun z g1 o1 lv1 => ?_) (fun n9 => ?_)
  · rw [if_neg (by decide), r_165_10 hr]
    exact ⟨k9, k9, num 17 0 100 8 g1 (nx T n s) (by have := nx_gt (T := T) (isW_lt z); omega) (by decide) (fun s m => rfl) (mp0.ox o1 (rc.st (by
      show xp T n 15 s m [] = _
      rw [xpe, if_neg n8, if_pos z])) lv1) (i_176.mpr ⟨by decide, by decide⟩)⟩
  rw [if_pos rfl]
  refine ⟨k9, ?_⟩
  refine f_147 hr 10 (by decide) rfl lv (fun z g1 o1 lv1 => ?_) (fun n10 => ?_)
  · rw [if_neg (by decide), r_165_11 hr]
    exact ⟨k9, k9, num 18 1 300 9 g1 (nx T n s) (by have := nx_gt (T := T) (isW_lt z); omega) (by decide) (fun s m => rfl) (mp0.ox o1 (rc.st (by
      show xp T n 15 s m [] = _
      rw [xpe, if_neg n8, if_neg n9, if_pos z])) lv1) (i_177.mpr ⟨by decide, by decide⟩)⟩
  rw [if_pos rfl]
  refine ⟨k9, ?_⟩
  refine f_147 hr 11 (by decide) rfl lv (fun z g1 o1 lv1 => ?_) (fun n11 => ?_)
  · rw [if_neg (by decide), r_165_12 hr]
    exact ⟨k9, k9, num 19 0 9999 10 g1 (nx T n s) (by have := nx_gt (T := T) (isW_lt z); omega) (by decide) (fun s m => rfl) (mp0.ox o1 (rc.st (by
      show xp T n 15 s m [] = _
      rw [xpe, if_neg n8, if_neg n9, if_neg n10, if_pos z])) lv1) (i_178.mpr ⟨by decide, by decide⟩)⟩
  rw [if_pos rfl]
  refine ⟨k9, ?_⟩
  refine f_147 hr 12 (by decide) rfl lv (fun z g1 o1 lv1 => ?_) (fun n12 => ?_)
  · rw [if_neg (by decide)]
    exact ⟨k9, f_156 hr hx (mp0.ox o1 (rc.st (by
      show xp T n 15 s m [] = _
      rw [xpe, if_neg n8, if_neg n9, if_neg n10, if_neg n11, if_pos z])) lv1) (fun g2 b2 => h g2 (b2.le (by have := nx_gt (T := T) (isW_lt z); omega)))⟩
  · rw [if_pos rfl]
    exact ⟨k9, er (by rw [xpe, if_neg n8, if_neg n9, if_neg n10, if_neg n11, if_neg n12])⟩
end MST
