/-! the reference's call mill: what it leaves -/
def BT (x : Int) : Prop := x = 0 ∨ x = 1
def XB (x : XS) : Prop := 2 ≤ x.1 → x.1 ≠ 91 → BT (x.2.2.1 0 0)
theorem xb_xp {T : Int → Int} {n s : Int} {ph : Nat} {m : GH} {st : List (Int × Int)} (h : XB (ph, s, m, st)) : XB (xp T n ph s m st) := by
  by_cases p0 : ph = 0
  · subst p0
    show XB (if isW T n s (wdl 0) = true then _ else _)
    split
    · intro a; exact absurd (show 2 ≤ 1 from a) (by decide)
    · intro _ a; exact absurd rfl a
  by_cases p1 : ph = 1
  · subst p1
    show XB (if isW T n s (wdl 1) = true then _ else _)
    split
    · intro _ _
      show BT (up m 0 0 1 0 0)
      rw [up_s]; exact Or.inr rfl
    · intro _ _
      show BT (up m 0 0 0 0 0)
      rw [up_s]; exact Or.inl rfl
  have hb : ph = 91 ∨ BT (m 0 0) := by
    by_cases z : ph = 91
    · exact Or.inl z
    · exact Or.inr (h (show 2 ≤ ph by omega) z)
  rcases hb with z | b
  · subst z; exact h
  have key : ∀ (ph' : Nat) (s' : Int) (m' : GH) (st' : List (Int × Int)), m' 0 0 = m 0 0 → XB (ph', s', m', st') := fun ph' s' m' st' e _ _ => by
    show BT (m' 0 0)
    rw [e]; exact b
  have pp : ∀ c, put m c 0 0 = m 0 0 := fun c => put_0 (by decide)
  have u : ∀ (j v : Int), (0 : Int) ≠ j → up m 0 j v 0 0 = m 0 0 := fun j v hj => up_j hj
  unfold xp
  repeat' split
  all_goals first
    | exact key _ _ _ _ rfl
    | exact key _ _ _ _ (pp _)
    | exact key _ _ _ _ (u _ _ (by decide))
    | exact key _ _ _ _ (by rw [up_j (by decide), up_i (by decide), up_i (by decide)])
    | omega
theorem XB.r {T : Int → Int} {n : Int} {x y : XS} (h : XB x) (r : Rch T n x y) : XB y := by
  obtain ⟨k, rfl⟩ := r
  induction k generalizing x with
  | zero => exact h
  | succ k ih => exact ih (xb_xp h)
/-- where the gates' codes end -/
def XGB (x : XS) : Prop := 0 ≤ x.2.2.1 0 11 ∧ 0 ≤ x.2.2.1 0 13 ∧ ∀ k, 0 ≤ k → k < x.2.2.1 0 11 → 0 ≤ x.2.2.1 3 k ∧ x.2.2.1 3 k ≤ x.2.2.1 0 13
theorem xgb_xp {T : Int → Int} {n s : Int} {ph : Nat} {m : GH} {st : List (Int × Int)} (h : XGB (ph, s, m, st)) : XGB (xp T n ph s m st) := by
  have a : 0 ≤ m 0 11 := h.1
  have b : 0 ≤ m 0 13 := h.2.1
  have c : ∀ k, 0 ≤ k → k < m 0 11 → 0 ≤ m 3 k ∧ m 3 k ≤ m 0 13 := h.2.2
  clear h
  by_cases p : ph = 22
  · subst p
    show XGB (14, s, up (up (up m 2 (m 0 11) (m 0 16)) 3 (m 0 11) (m 0 13)) 0 11 (m 0 11 + 1), [])
    have e11 : (up (up (up m 2 (m 0 11) (m 0 16)) 3 (m 0 11) (m 0 13)) 0 11 (m 0 11 + 1)) 0 11 = m 0 11 + 1 := up_s
    have e13 : (up (up (up m 2 (m 0 11) (m 0 16)) 3 (m 0 11) (m 0 13)) 0 11 (m 0 11 + 1)) 0 13 = m 0 13 := by rw [up_j (by decide), up_i (by decide), up_i (by decide)]
    have e3 : ∀ k, (up (up (up m 2 (m 0 11) (m 0 16)) 3 (m 0 11) (m 0 13)) 0 11 (m 0 11 + 1)) 3 k = if k = m 0 11 then m 0 13 else m 3 k := fun k => by
      rw [up_i (by decide)]
      by_cases z : k = m 0 11
      · rw [z, up_s, if_pos rfl]
      · rw [up_j z, up_i (by decide), if_neg z]
    refine ⟨by show 0 ≤ (up (up (up m 2 (m 0 11) (m 0 16)) 3 (m 0 11) (m 0 13)) 0 11 (m 0 11 + 1)) 0 11; rw [e11]; omega, by show 0 ≤ (up (up (up m 2 (m 0 11) (m 0 16)) 3 (m 0 11) (m 0 13)) 0 11 (m 0 11 + 1)) 0 13; rw [e13]; exact b, fun k k0 k1 => ?_⟩
    have k2 : k < m 0 11 + 1 := by rw [← e11]; exact k1
    clear k1
    show 0 ≤ (up (up (up m 2 (m 0 11) (m 0 16)) 3 (m 0 11) (m 0 13)) 0 11 (m 0 11 + 1)) 3 k ∧ (up (up (up m 2 (m 0 11) (m 0 16)) 3 (m 0 11) (m 0 13)) 0 11 (m 0 11 + 1)) 3 k ≤ (up (up (up m 2 (m 0 11) (m 0 16)) 3 (m 0 11) (m 0 13)) 0 11 (m 0 11 + 1)) 0 13
    rw [e3, e13]
    by_cases z : k = m 0 11
    · rw [if_pos z]; omega
    · rw [if_neg z]; exact c k k0 (by omega)
  have key : ∀ (ph' : Nat) (s' : Int) (m' : GH) (st' : List (Int × Int)), m' 0 11 = m 0 11 → m 0 13 ≤ m' 0 13 → (∀ k, m' 3 k = m 3 k) → XGB (ph', s', m', st') := fun ph' s' m' st' e e2 e3 => by
    refine ⟨by show 0 ≤ m' 0 11; omega, by show 0 ≤ m' 0 13; omega, fun k k0 k1 => ?_⟩
    have k1 : k < m' 0 11 := k1
    have := c k k0 (by omega)
    show 0 ≤ m' 3 k ∧ m' 3 k ≤ m' 0 13
    rw [e3]; omega
  have p11 : ∀ c, put m c 0 11 = m 0 11 := fun c => put_0 (by decide)
  have p13 : ∀ c, m 0 13 ≤ put m c 0 13 := fun c => by rw [put_13]; omega
  have p3 : ∀ c k, put m c 3 k = m 3 k := fun c k => by unfold put; rw [up_i (by decide), up_i (by decide)]
  have u : ∀ (j v : Int), (11 : Int) ≠ j → up m 0 j v 0 11 = m 0 11 := fun j v hj => up_j hj
  have u13 : ∀ (j v : Int), (13 : Int) ≠ j → m 0 13 ≤ up m 0 j v 0 13 := fun j v hj => by rw [up_j hj]; exact Int.le_refl _
  have u3 : ∀ (j v k : Int), up m 0 j v 3 k = m 3 k := fun j v k => up_i (by decide)
  unfold xp
  repeat' split
  all_goals first
    | exact key _ _ _ _ rfl (Int.le_refl _) (fun _ => rfl)
    | exact key _ _ _ _ (p11 _) (p13 _) (p3 _)
    | exact key _ _ _ _ (u _ _ (by decide)) (u13 _ _ (by decide)) (u3 _ _)
    | omega
theorem XGB.r {T : Int → Int} {n : Int} {x y : XS} (h : XGB x) (r : Rch T n x y) : XGB y := by
  obtain ⟨k, rfl⟩ := r
  induction k generalizing x with
  | zero => exact h
  | succ k ih => exact ih (xgb_xp h)
theorem gates_b {T : Int → Int} {n s : Int} {x0 : XS} {m : GH} {ph : Nat} {st : List (Int × Int)} (hx : XI T n x0) (hg : XGB x0) (hn : n ≤ 700) (rc : Rch T n x0 (ph, s, m, st)) (k : Int) (k0 : 0 ≤ k) (k1 : k < m 0 11) : (0 ≤ pe m k ∧ pe m k ≤ 350) ∧ (0 ≤ m 3 k ∧ m 3 k ≤ 350) := by
  have c : 0 ≤ m 0 13 ∧ m 0 13 ≤ 350 := (hx.r rc).c350 hn
  have g : ∀ k, 0 ≤ k → k < m 0 11 → 0 ≤ m 3 k ∧ m 3 k ≤ m 0 13 := (hg.r rc).2.2
  have := g k k0 k1
  refine ⟨?_, by omega⟩
  unfold pe
  by_cases z : k = 0
  · rw [if_pos z]; decide
  · rw [if_neg z]
    have := g (k - 1) (by omega) (by omega)
    omega
/-- what a call of mill may write in the reference -/
def FQ (l1 : Int) (g g' : GH) : Prop := ∀ i j, ¬ (i = 165 ∧ ((24 ≤ j ∧ j ≤ 33) ∨ j = 36 ∨ j = 48)) → i ≠ 166 → i ≠ 190 → i ≠ 191 → ¬ (167 ≤ i ∧ i ≤ 180 ∧ (j = l1 ∨ j = 7)) → ¬ (182 ≤ i ∧ i ≤ 184 ∧ (210 ≤ j ∨ (30 * l1 ≤ j ∧ j < 30 * l1 + 30))) → ¬ (185 ≤ i ∧ i ≤ 188 ∧ (2450 ≤ j ∨ (350 * l1 ≤ j ∧ j < 350 * l1 + 350))) → ¬ ((i = 193 ∨ i = 195 ∨ i = 196 ∨ i = 199) ∧ j = l1) → ¬ (i = 201 ∧ j = 0) → g' i j = g i j
/-- the mill that was told, and what goes with it -/
def MTOLD (l1 : Int) (g g' m' : GH) : Prop := g' 167 l1 = 1 ∧ (∀ j, 0 ≤ j → j ≤ 12 → g' (168 + j) l1 = m' 0 j) ∧ (∀ k, 0 ≤ k → k < m' 0 11 → g' 182 (30 * l1 + k) = m' 2 k ∧ g' 183 (30 * l1 + k) = 350 * l1 + pe m' k ∧ g' 184 (30 * l1 + k) = 350 * l1 + m' 3 k) ∧ (∀ c, 0 ≤ c → c < m' 0 13 → RC g' (350 * l1 + c) (m' 1 c)) ∧ g' 193 l1 = 0 ∧ g' 195 l1 = 0 ∧ g' 196 l1 = 0 ∧ g' 199 l1 = 0 ∧ g' 201 0 = wL (g 201 0 + g 193 l1) ∧ g' 165 48 = 0 ∧ g' 165 25 = -1 ∧ g' 165 24 = 0
section MML
variable {sc : SCR} {d : Nat} {Q : QJ} {g r : GH} {l1 l2 n s c : Int} {T : Int → Int} {m g0 m0 : GH} {x0 : XS} {ph ph' : Nat}
theorem f_159c {gA : GH} (hr : RI r) (hx : XI T n x0) (hxb : XB x0) (hxg : XGB x0) (h0 : 0 ≤ l1) (h6 : l1 < 6) (mb0 : MB g0) (mp : MPL T n g0 x0 g 15 s m) (hk : kd T n s = 0) (fr : ∀ i j, WX g0 g → i ≠ 165 → ¬ (168 ≤ i ∧ i ≤ 180 ∧ j = 7) → g0 i j = gA i j) (f5 : ∀ j, ¬ (24 ≤ j ∧ j ≤ 33) → g0 165 j = gA 165 j) (f24 : g0 165 24 = 0)
    (h : ∀ g', Rch T n x0 (90, s, m, []) → MTOLD l1 gA g' m → FQ l1 gA g' → g' 166 2 = gA 166 2 → Q (m 0 12) g' r) : WQ sc (d + 2) 159 Q 157 [(2, 165), (0, l1), (9, 0), (9, 0), (9, 0)] [] g r := by
  have k9 : okr 218 165 9 := okd (by decide +kernel)
  obtain ⟨wx, rc, lv, stm, rgf, gtm, gi⟩ := mp
  have xi := hx.r rc
  have bit : BT (m 0 0) := (hxb.r rc) (show 2 ≤ 15 by decide) (show 15 ≠ 91 by decide)
  have g68 : g 168 7 = m 0 0 := rgf 0 (by decide) (by decide)
  have hn := lv.1.1.1
  have c350 : 0 ≤ m 0 13 ∧ m 0 13 ≤ 350 := xi.c350 hn.2
  have xg : XG 15 m := xi.2.2.2.2.2.2.1
  have b11 : 0 ≤ m 0 11 ∧ m 0 11 ≤ 29 := by unfold XG at xg; omega
  have mb : MB g := by
    obtain ⟨q1, q2, q3, q4, q5⟩ := mb0
    refine ⟨fun k => ?_, fun k => ?_, fun k => ?_, fun s s0 s1 => ?_, fun k => ?_⟩
    · by_cases z : k = 7
      · rw [z, g68]; exact bit
      · rw [wx 168 k (by omega) (by omega) (by omega) (by omega) (by omega) (by omega)]; exact q1 k
    · rw [wx 198 k (by omega) (by omega) (by omega) (by omega) (by omega) (by omega)]; exact q2 k
    · rw [wx 204 k (by omega) (by omega) (by omega) (by omega) (by omega) (by omega)]; exact q3 k
    · rw [wx 197 s (by omega) (by omega) (by omega) (by omega) (by omega) (by omega)]; exact q4 s s0 s1
    · rw [wx 207 k (by omega) (by omega) (by omega) (by omega) (by omega) (by omega)]; exact q5 k
  have ex : xp T n 15 s m [] = (90, s, m, []) := by
    show (if kd T n s = 0 then _ else _) = _
    rw [if_pos hk]
  have hB : wr (350 * wr (7 - l1)) = 350 * (7 - l1) := by rw [wr_id (x := 7 - l1) ⟨by omega, by omega⟩, wr_id ⟨by omega, by omega⟩]
  have h30 : wr (30 * l1) = 30 * l1 := wr_id ⟨by omega, by omega⟩
  refine b_159_157 ⟨k9, ?_⟩
  rw [if_pos lv.2]
  refine ⟨k9, s_141m hr mb h0 h6 (fun _ g1 n1 c1 => ⟨k9, ?_⟩)⟩
  rw [r_165_1 hr, r_165_13 hr, r_165_14 hr, hB]
  refine ⟨Or.inr ⟨i_167.mpr ⟨h0, by omega⟩, Or.inr rfl⟩, fun g2 e2 => ⟨k9, k9, i_179.mpr ⟨by decide, by decide⟩, i_179.mpr ⟨h0, by omega⟩, fun g3 e3 => ⟨k9, k9, i_180.mpr ⟨by decide, by decide⟩, i_180.mpr ⟨h0, by omega⟩, fun G eG => ?_⟩⟩⟩
  have nG : ∀ i j, ¬ (168 ≤ i ∧ i ≤ 180 ∧ j = l1) → ¬ (i = 167 ∧ j = l1) → G i j = g i j := fun i j a b => by
    rw [eG, up_o (by omega), e3, up_o (by omega), e2, up_o (by omega)]; exact n1 i j (by omega)
  have tG : G 167 l1 = 1 := by rw [eG, up_i (by decide), e3, up_i (by decide), e2, up_s]
  have cG : ∀ j, 0 ≤ j → j ≤ 12 → G (168 + j) l1 = m 0 j := fun j a b => by
    by_cases z12 : j = 12
    · rw [z12, show (168 : Int) + 12 = 180 by decide, eG, up_s, e3, up_i (by decide), e2, up_i (by decide), n1 180 7 (by omega)]
      exact rgf 12 (by decide) (by decide)
    · by_cases z11 : j = 11
      · rw [z11, show (168 : Int) + 11 = 179 by decide, eG, up_i (by decide), e3, up_s, e2, up_i (by decide), n1 179 7 (by omega)]
        exact rgf 11 (by decide) (by decide)
      · rw [eG, up_i (by omega), e3, up_i (by omega), e2, up_i (by omega), c1 (168 + j) (by omega) (by omega)]
        exact rgf j a b
  have steps : ∀ l4 : Int, -2147483648 ≤ l4 → 2450 ≤ l4 → l4 ≤ 2800 → ∀ H, (∀ i j, ¬ (182 ≤ i ∧ i ≤ 184 ∧ 30 * l1 ≤ j ∧ j < 30 * l1 + 30) → ¬ (185 ≤ i ∧ i ≤ 188 ∧ 350 * l1 ≤ j ∧ j < 350 * l1 + 350) → H i j = G i j) → (∀ k, 0 ≤ k → k < 30 → H 182 (30 * l1 + k) = G 182 (210 + k) ∧ H 183 (30 * l1 + k) = wr (G 183 (210 + k) - 350 * (7 - l1)) ∧ H 184 (30 * l1 + k) = wr (G 184 (210 + k) - 350 * (7 - l1))) → (∀ i k, 185 ≤ i → i ≤ 188 → 2450 ≤ k → k < l4 → H i (k - 350 * (7 - l1)) = G i k) → WQ sc (d + 2) 159 Q 313 [(2, 165), (0, l1), (9, 0), (0, 350 * (7 - l1)), (0, l4)] [] H r := by
    refine upW 2800 (by decide) fun l4 _ ih b0 b28 H nH gH sH => ?_
    refine b_159_313 ?_
    rw [r_165_19 hr, r_165_20 hr, r_165_21 hr, r_165_22 hr, r_165_46 hr, r_165_38 hr, r_165_44 hr, r_165_40 hr, r_165_41 hr, r_165_14 hr]
    refine ite_c (fun q => ?_) (fun q => ?_)
    · have hxx : wr (l4 - 350 * (7 - l1)) = l4 - 350 * (7 - l1) := wr_id ⟨by omega, by omega⟩
      have hw : wr (l4 + 1) = l4 + 1 := wr_id ⟨by omega, by omega⟩
      rw [hw] at ih
      rw [hxx, hw]
      refine ⟨k9, k9, i_185.mpr ⟨by omega, by omega⟩, i_185.mpr ⟨by omega, by omega⟩, fun h1 a1 => ⟨k9, k9, i_186.mpr ⟨by omega, by omega⟩, i_186.mpr ⟨by omega, by omega⟩, fun h2 a2 => ⟨k9, k9, i_187.mpr ⟨by omega, by omega⟩, i_187.mpr ⟨by omega, by omega⟩, fun h3 a3 => ⟨k9, k9, i_188.mpr ⟨by omega, by omega⟩, i_188.mpr ⟨by omega, by omega⟩, fun h4 a4 => ih q (by omega) (by omega) h4 ?_ ?_ ?_⟩⟩⟩⟩
      · intro i j p1 p2
        rw [a4, up_o (by omega), a3, up_o (by omega), a2, up_o (by omega), a1, up_o (by omega)]
        exact nH i j p1 p2
      · intro k k0 k1
        have o : ∀ i, 182 ≤ i → i ≤ 184 → h4 i (30 * l1 + k) = H i (30 * l1 + k) := fun i a b => by
          rw [a4, up_i (by omega), a3, up_i (by omega), a2, up_i (by omega), a1, up_i (by omega)]
        rw [o 182 (by decide) (by decide), o 183 (by decide) (by decide), o 184 (by decide) (by decide)]
        exact gH k k0 k1
      · intro i k i0 i1 k0 k1
        have v1 : ∀ i, 185 ≤ i → i ≤ 188 → H i l4 = G i l4 := fun i a b => nH i l4 (by omega) (by omega)
        by_cases z : k = l4
        · rw [z]
          have i4 : i = 185 ∨ i = 186 ∨ i = 187 ∨ i = 188 := by omega
          rcases i4 with rfl | rfl | rfl | rfl
          · rw [a4, up_i (by decide), a3, up_i (by decide), a2, up_i (by decide), a1, up_s]; exact v1 185 (by decide) (by decide)
          · rw [a4, up_i (by decide), a3, up_i (by decide), a2, up_s, a1, up_i (by decide)]; exact v1 186 (by decide) (by decide)
          · rw [a4, up_i (by decide), a3, up_s, a2, up_i (by decide), a1, up_i (by decide)]; exact v1 187 (by decide) (by decide)
          · rw [a4, up_s, a3, up_i (by decide), a2, up_i (by decide), a1, up_i (by decide)]; exact v1 188 (by decide) (by decide)
        · rw [a4, up_o (by omega), a3, up_o (by omega), a2, up_o (by omega), a1, up_o (by omega)]
          exact sH i k i0 i1 k0 (by omega)
    · have e28 : l4 = 2800 := by omega
      subst e28
      refine ⟨k9, i_201.mpr ⟨by decide, by decide⟩, k9, i_193.mpr ⟨by omega, by omega⟩, i_201.mpr ⟨by decide, by decide⟩, fun h1 a1 => ⟨k9, i_193.mpr ⟨by omega, by omega⟩, fun h2 a2 => ⟨k9, i_199.mpr ⟨by omega, by omega⟩, fun h3 a3 => ⟨k9, i_195.mpr ⟨by omega, by omega⟩, fun h4 a4 => ⟨k9, i_196.mpr ⟨by omega, by omega⟩, fun h5 a5 => ⟨k9, fun h6 a6 => ⟨k9, i_180.mpr ⟨by omega, by omega⟩, ?_⟩⟩⟩⟩⟩⟩⟩
      have n6 : ∀ i j, ¬ (i = 165 ∧ j = 48) → ¬ ((i = 193 ∨ i = 195 ∨ i = 196 ∨ i = 199) ∧ j = l1) → ¬ (i = 201 ∧ j = 0) → h6 i j = H i j := fun i j p a b => by
        rw [a6, up_o p, a5, up_o (by omega), a4, up_o (by omega), a3, up_o (by omega), a2, up_o (by omega), a1, up_o b]
      have all : ∀ i j, ¬ (i = 165 ∧ j = 48) → ¬ ((i = 193 ∨ i = 195 ∨ i = 196 ∨ i = 199) ∧ j = l1) → ¬ (i = 201 ∧ j = 0) → ¬ (182 ≤ i ∧ i ≤ 184 ∧ 30 * l1 ≤ j ∧ j < 30 * l1 + 30) → ¬ (185 ≤ i ∧ i ≤ 188 ∧ 350 * l1 ≤ j ∧ j < 350 * l1 + 350) → ¬ (167 ≤ i ∧ i ≤ 180 ∧ j = l1) → h6 i j = g i j := fun i j p a b s t u => by
        rw [n6 i j p a b, nH i j s t]; exact nG i j (by omega) (by omega)
      have g0A : ∀ i j, i ≠ 165 → ¬ (168 ≤ i ∧ i ≤ 180 ∧ j = 7) → g0 i j = gA i j := fun i j => fr i j wx
      have v80 : h6 180 l1 = m 0 12 := by
        rw [n6 180 l1 (by omega) (by omega) (by omega), nH 180 l1 (by omega) (by omega)]
        exact cG 12 (by decide) (by decide)
      rw [v80]
      refine h h6 (rc.st ex) ⟨?_, ?_, ?_, ?_, ?_, ?_, ?_, ?_, ?_, ?_, ?_, ?_⟩ ?_ ?_
      · rw [n6 167 l1 (by omega) (by omega) (by omega), nH 167 l1 (by omega) (by omega)]; exact tG
      · intro j a b
        rw [n6 (168 + j) l1 (by omega) (by omega) (by omega), nH (168 + j) l1 (by omega) (by omega)]; exact cG j a b
      · intro k a b
        have gg := gH k a (by omega)
        have gt := gtm k a b
        rw [n6 182 _ (by omega) (by omega) (by omega), n6 183 _ (by omega) (by omega) (by omega), n6 184 _ (by omega) (by omega) (by omega), gg.1, gg.2.1, gg.2.2, nG 182 _ (by omega) (by omega), nG 183 _ (by omega) (by omega), nG 184 _ (by omega) (by omega), gt.1, gt.2.1, gt.2.2]
        have pb := gates_b hx hxg hn.2 rc k a b
        rw [wr_id (x := 2450 + pe m k - 350 * (7 - l1)) ⟨by omega, by omega⟩, wr_id (x := 2450 + m 3 k - 350 * (7 - l1)) ⟨by omega, by omega⟩]
        exact ⟨rfl, by omega, by omega⟩
      · intro c a b
        have rcc := stm.2 c a b
        unfold RC at rcc ⊢
        have v : ∀ i, 185 ≤ i → i ≤ 188 → h6 i (350 * l1 + c) = g i (2450 + c) := fun i x y => by
          rw [n6 i _ (by omega) (by omega) (by omega)]
          have := sH i (2450 + c) x y (by omega) (by omega)
          rw [show 2450 + c - 350 * (7 - l1) = 350 * l1 + c by omega] at this
          rw [this]; exact nG i _ (by omega) (by omega)
        rw [v 185 (by decide) (by decide), v 186 (by decide) (by decide), v 187 (by decide) (by decide), v 188 (by decide) (by decide)]
        exact rcc
      · rw [a6, up_i (by decide), a5, up_i (by decide), a4, up_i (by decide), a3, up_i (by decide), a2, up_s]
      · rw [a6, up_i (by decide), a5, up_i (by decide), a4, up_s]
      · rw [a6, up_i (by decide), a5, up_s]
      · rw [a6, up_i (by decide), a5, up_i (by decide), a4, up_i (by decide), a3, up_s]
      · rw [a6, up_i (by decide), a5, up_i (by decide), a4, up_i (by decide), a3, up_i (by decide), a2, up_i (by decide), a1, up_s, nH 201 0 (by omega) (by omega), nG 201 0 (by omega) (by omega), nH 193 l1 (by omega) (by omega), nG 193 l1 (by omega) (by omega), wx 201 0 (by omega) (by omega) (by omega) (by omega) (by omega) (by omega), wx 193 l1 (by omega) (by omega) (by omega) (by omega) (by omega) (by omega), g0A 201 0 (by omega) (by omega), g0A 193 l1 (by omega) (by omega)]
      · rw [a6, up_s]
      · rw [all 165 25 (by omega) (by omega) (by omega) (by omega) (by omega) (by omega)]; exact lv.1.1.2.2.2
      · rw [all 165 24 (by omega) (by omega) (by omega) (by omega) (by omega) (by omega), wx 165 24 (by omega) (by omega) (by omega) (by omega) (by omega) (by omega)]; exact f24
      · intro i j a b c' e f k l p q
        rw [all i j (by omega) (by omega) (by omega) (by omega) (by omega) (by omega)]
        rw [wx i j (by omega) (by omega) (by omega) (by omega) (by omega) (by omega)]
        by_cases z : i = 165
        · rw [z]; exact f5 j (by omega)
        · exact g0A i j z (by omega)
      · rw [all 166 2 (by omega) (by omega) (by omega) (by omega) (by omega) (by omega), wx 166 2 (by omega) (by omega) (by omega) (by omega) (by omega) (by omega)]
        exact g0A 166 2 (by omega) (by omega)
  have gates : ∀ l4 : Int, -2147483648 ≤ l4 → 0 ≤ l4 → l4 ≤ 30 → ∀ H, (∀ i j, ¬ (182 ≤ i ∧ i ≤ 184 ∧ 30 * l1 ≤ j ∧ j < 30 * l1 + 30) → H i j = G i j) → (∀ k, 0 ≤ k → k < l4 → H 182 (30 * l1 + k) = G 182 (210 + k) ∧ H 183 (30 * l1 + k) = wr (G 183 (210 + k) - 350 * (7 - l1)) ∧ H 184 (30 * l1 + k) = wr (G 184 (210 + k) - 350 * (7 - l1))) → WQ sc (d + 2) 159 Q 222 [(2, 165), (0, l1), (9, 0), (0, 350 * (7 - l1)), (0, l4)] [] H r := by
    refine upW 30 (by decide) fun l4 _ ih b0 hl H nH gH => ?_
    refine b_159_222 ?_
    rw [r_165_16 hr, r_165_17 hr, r_165_18 hr, h30]
    refine ite_c (fun q => ?_) (fun q => ?_)
    · have hxx : wr (30 * l1 + l4) = 30 * l1 + l4 := wr_id ⟨by omega, by omega⟩
      have hy : wr (210 + l4) = 210 + l4 := wr_id ⟨by omega, by omega⟩
      have hw : wr (l4 + 1) = l4 + 1 := wr_id ⟨by omega, by omega⟩
      rw [hw] at ih
      rw [hxx, hy, hw]
      refine ⟨k9, k9, i_182.mpr ⟨by omega, by omega⟩, i_182.mpr ⟨by omega, by omega⟩, fun h1 a1 => ⟨k9, k9, i_183.mpr ⟨by omega, by omega⟩, i_183.mpr ⟨by omega, by omega⟩, fun h2 a2 => ⟨k9, k9, i_184.mpr ⟨by omega, by omega⟩, i_184.mpr ⟨by omega, by omega⟩, fun h3 a3 => ih q (by omega) (by omega) h3 ?_ ?_⟩⟩⟩
      · intro i j p1
        rw [a3, up_o (by omega), a2, up_o (by omega), a1, up_o (by omega)]
        exact nH i j p1
      · intro k k0 k1
        by_cases z : k = l4
        · rw [z, a3, up_i (by decide), up_i (by decide), up_s, a2, up_i (by decide), up_s, up_i (by decide), a1, up_s, up_i (by decide), up_i (by decide), nH 182 (210 + l4) (by omega), nH 183 (210 + l4) (by omega), nH 184 (210 + l4) (by omega)]
          exact ⟨rfl, rfl, rfl⟩
        · rw [a3, up_i (by decide), up_i (by decide), up_j (by omega), a2, up_i (by decide), up_j (by omega), up_i (by decide), a1, up_j (by omega), up_i (by decide), up_i (by decide)]
          exact gH k k0 (by omega)
    · exact steps 2450 (by decide) (by decide) (by decide) H (fun i j p1 _ => nH i j p1) (fun k k0 k1 => gH k k0 (by omega)) (fun i k _ _ k0 k1 => absurd k1 (by omega))
  exact gates 0 (by decide) (by decide) (by decide) G (fun _ _ _ => rfl) (fun k k0 k1 => absurd k1 (by omega))
end MML
