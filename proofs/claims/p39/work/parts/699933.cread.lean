/-! the class's reading of a mill: the machine from its first state to its last -/
/-- the registers that a mill's fields and rows make -/
def cm (M : Int) (g : GH) : GH := fun i j => if i = 0 then (if j ≤ 6 then g (M + 1) j else if j = 7 then g M 2 else if j = 8 then g M 3 else if j = 9 then g (M + 1) 7 else if j = 10 then g (M + 1) 8 else if j = 11 then g (M + 6) 4 else if j = 13 then g (M + 6) 1 else 0) else if i = 1 then g (M + 7) j else if i = 2 then g (M + 8) j else g (M + 9) j
theorem mc_cm (M : Int) (g : GH) : MC M g (cm M g) := ⟨rfl, rfl, rfl, rfl, rfl, rfl, rfl, rfl, rfl, rfl, rfl, rfl, rfl, fun _ => rfl, fun _ => rfl, fun _ => rfl⟩
/-- what a mill is told without a word -/
def I0 (m : GH) : Prop := m 0 5 = 4 ∧ m 0 6 = 10 ∧ m 0 7 = 100 ∧ m 0 8 = 100 ∧ m 0 9 = 50 ∧ m 0 10 = 0 ∧ m 0 11 = 0 ∧ m 0 12 = 0 ∧ m 0 13 = 0
theorem xi_0 {T : Int → Int} {n s : Int} {m : GH} (ts : TS T n s) (h : I0 m) : XI T n (0, s, m, []) := by
  obtain ⟨_, _, _, _, _, _, a, b, c⟩ := h
  refine XI.mk ts (by omega) ?_ (fun x hx => absurd hx List.not_mem_nil) trivial (by decide) ?_ (XL.nil (by decide))
  · have p0 : pd [] = 0 := rfl
    have x0 : xe 0 = 0 := rfl
    have := ts.1
    omega
  · exact ⟨by omega, by omega, fun _ => ⟨a, b⟩, fun z => absurd z (by decide), fun z => absurd z (by decide), fun z => absurd z (by decide)⟩
/-- what the reading of a mill may write -/
def FM (M : Int) (g g' : GH) : Prop := ∀ i j, i ≠ 1 → i ≠ 3 → i ≠ 4 → i ≠ 5 → ¬ (M ≤ i ∧ i ≤ M + 9) → g' i j = g i j
theorem FM.rf (M : Int) (g : GH) : FM M g g := fun _ _ _ _ _ _ _ => rfl
theorem FM.tr {M : Int} {a b c : GH} (h1 : FM M a b) (h2 : FM M b c) : FM M a c := fun i j p q s t u => (h2 i j p q s t u).trans (h1 i j p q s t u)
theorem RF.fm {M : Int} {a b : GH} (h : RF M a b) : FM M a b := fun i j p q s t u => h i j (by omega) (by omega) (by omega) (by omega)
theorem SF.fm {M : Int} {a b : GH} (h : SF a b) : FM M a b := fun i j p q s t u => h i j (by omega) q s t
theorem FM.u {M : Int} {a b : GH} {i j v : Int} (h : FM M a b) (hi : i = 1 ∨ (M ≤ i ∧ i ≤ M + 9)) : FM M a (up b i j v) := fun p q a1 a2 a3 a4 a5 => by
  rw [up_o (by omega)]; exact h p q a1 a2 a3 a4 a5
section CMR
variable {sc : SCR} {d : Nat} {Q : QJ} {g r : GH} {l0 l1 l2 l3 l4 l5 n s M vv : Int} {T : Int → Int} {m : GH} {st : List (Int × Int)} {ph : Nat}
theorem f_20 (hr : RI r) (hM : MO M) (h : ∀ g', RF M g g' → (∀ i j, i < M → g' i j = g i j) → I0 (cm M g') → Q 0 g' r) : Ce sc (d + 2) 20 [(2, M)] g r Q := by
  have m1 := mo_ok hM
  have w1 := mo_w7 hM
  have u1 := mo_u hM
  refine c_20 ⟨m1, Or.inl rfl, fun g1 e1 => ⟨m1, ?_⟩⟩
  rw [mo_1 hr hM]
  refine ⟨w1, c_55 ⟨w1, fun h1 a1 => ⟨w1, fun h2 a2 => ⟨w1, fun h3 a3 => ⟨w1, fun h4 a4 => ⟨m1, fun h5 a5 => ⟨m1, fun h6 a6 => ⟨m1, ?_⟩⟩⟩⟩⟩⟩⟩⟩
  rw [mo_4 hr hM]
  refine ⟨u1, c_47 ⟨u1, fun h7 a7 => ⟨u1, fun h8 a8 => h h8 ?_ (fun i j hi => ?_) ?_⟩⟩⟩
  · rw [a8, a7, a6, a5, a4, a3, a2, a1, e1]
    exact (((((((((RF.rf M g).u (by omega)).u (by omega)).u (by omega)).u (by omega)).u (by omega)).u (by omega)).u (by omega)).u (by omega)).u (by omega)
  · rw [a8, up_i (by omega), a7, up_i (by omega), a6, up_i (by omega), a5, up_i (by omega), a4, up_i (by omega), a3, up_i (by omega), a2, up_i (by omega), a1, up_i (by omega), e1, up_i (by omega)]
  · refine ⟨?_, ?_, ?_, ?_, ?_, ?_, ?_, rfl, ?_⟩
    · show h8 (M + 1) 5 = 4
      rw [a8, up_o (by omega), a7, up_o (by omega), a6, up_o (by omega), a5, up_o (by omega), a4, up_o (by omega), a3, up_o (by omega), a2, up_o (by omega), a1, up_s]
    · show h8 (M + 1) 6 = 10
      rw [a8, up_o (by omega), a7, up_o (by omega), a6, up_o (by omega), a5, up_o (by omega), a4, up_o (by omega), a3, up_o (by omega), a2, up_s]
    · show h8 M 2 = 100
      rw [a8, up_o (by omega), a7, up_o (by omega), a6, up_o (by omega), a5, up_s]
    · show h8 M 3 = 100
      rw [a8, up_o (by omega), a7, up_o (by omega), a6, up_s]
    · show h8 (M + 1) 7 = 50
      rw [a8, up_o (by omega), a7, up_o (by omega), a6, up_o (by omega), a5, up_o (by omega), a4, up_o (by omega), a3, up_s]
    · show h8 (M + 1) 8 = 0
      rw [a8, up_o (by omega), a7, up_o (by omega), a6, up_o (by omega), a5, up_o (by omega), a4, up_s]
    · show h8 (M + 6) 4 = 0
      rw [a8, up_s]
    · show h8 (M + 6) 1 = 0
      rw [a8, up_o (by omega), a7, up_s]
theorem f_21 (hr : RI r) (hM : MO M) (h : ∀ v g', g' M 0 = 1 → (∀ i j, ¬ (i = M ∧ j = 0) → ¬ (M + 2 ≤ i ∧ i ≤ M + 5) → g' i j = g i j) → Q v g' r) : Ce sc (d + 5) 21 [(2, M)] g r Q := by
  have m1 := mo_ok hM
  have w1 := mo_w7 hM
  refine c_21 ⟨m1, Or.inr rfl, fun g1 e1 => ⟨m1, ?_⟩⟩
  rw [mo_1 hr hM, mo_w9 hr hM]
  have hb : BKF (fun i => ¬ (M + 2 ≤ i ∧ i ≤ M + 5)) r (M + 2) := by
    rcases hM with rfl | rfl | rfl | rfl | rfl | rfl | rfl
    · have b := bk_9 hr
      exact ⟨b.1, fun z => z (by omega), b.2.2.1.f (by rw [r_9_5 hr]; omega), b.2.2.2.1.f (by rw [r_9_6 hr]; omega), b.2.2.2.2.f (by rw [r_9_12 hr]; omega)⟩
    · have b := bk_68 hr
      exact ⟨b.1, fun z => z (by omega), b.2.2.1.f (by rw [r_68_5 hr]; omega), b.2.2.2.1.f (by rw [r_68_6 hr]; omega), b.2.2.2.2.f (by rw [r_68_12 hr]; omega)⟩
    · have b := bk_79 hr
      exact ⟨b.1, fun z => z (by omega), b.2.2.1.f (by rw [r_79_5 hr]; omega), b.2.2.2.1.f (by rw [r_79_6 hr]; omega), b.2.2.2.2.f (by rw [r_79_12 hr]; omega)⟩
    · have b := bk_90 hr
      exact ⟨b.1, fun z => z (by omega), b.2.2.1.f (by rw [r_90_5 hr]; omega), b.2.2.2.1.f (by rw [r_90_6 hr]; omega), b.2.2.2.2.f (by rw [r_90_12 hr]; omega)⟩
    · have b := bk_101 hr
      exact ⟨b.1, fun z => z (by omega), b.2.2.1.f (by rw [r_101_5 hr]; omega), b.2.2.2.1.f (by rw [r_101_6 hr]; omega), b.2.2.2.2.f (by rw [r_101_12 hr]; omega)⟩
    · have b := bk_112 hr
      exact ⟨b.1, fun z => z (by omega), b.2.2.1.f (by rw [r_112_5 hr]; omega), b.2.2.2.1.f (by rw [r_112_6 hr]; omega), b.2.2.2.2.f (by rw [r_112_12 hr]; omega)⟩
    · have b := bk_123 hr
      exact ⟨b.1, fun z => z (by omega), b.2.2.1.f (by rw [r_123_5 hr]; omega), b.2.2.2.1.f (by rw [r_123_6 hr]; omega), b.2.2.2.2.f (by rw [r_123_12 hr]; omega)⟩
  have f10 : g1 M 0 = 1 := by rw [e1, up_s]
  refine ⟨w1, m1, hb.1, t_9 hb w1 (by omega) (fun v g2 e2 => h _ _ ?_ (fun i j p q => ?_))⟩
  · rw [e2 M (by omega) 0]; exact f10
  · rw [e2 i q j, e1, up_o p]
theorem f_32 (hr : RI r) (hM : MO M) (hT : ∀ p, g 2 p = T p) (hn : 0 ≤ n) (ht : n ≤ g 1 1) (h7 : g 1 1 ≤ 700)
    (h1 : ∀ g' s' m' m0, I0 m0 → Rch T n (0, tk T n 0, m0, []) (90, s', m', []) → XI T n (90, s', m', []) → MC M g' m' → g' 1 1 = 0 → g' 1 2 = -1 → g' M 0 = 1 → FM M g g' → Q (m' 0 12) g' r)
    (h0 : ∀ g' s' m' st' m0, I0 m0 → Rch T n (0, tk T n 0, m0, []) (91, s', m', st') → g' 1 1 = 0 → g' 1 2 = s' → FM M g g' → Q (-1) g' r) : Ce sc (d + 37) 32 [(2, 1), (2, M), (0, n)] g r Q := by
  have k1 : okr 218 1 5 := okd (by decide +kernel)
  have m1 := mo_ok hM
  have M7 : 7 ≤ M := by unfold MO at hM; omega
  -- a fault
  have bad : ∀ (l4 : Int) (g1 : GH) (s1 : Int) (m2 : GH) (st2 : List (Int × Int)) (m0 : GH), I0 m0 → Rch T n (0, tk T n 0, m0, []) (91, s1, m2, st2) → RD T n g1 s1 → g1 1 1 = 0 → FM M g g1 → WQ sc (d + 36) 32 Q 38 [(2, 1), (2, M), (9, 0), (0, 0), (0, l4)] [] g1 r := by
    intro l4 g1 s1 m2 st2 m0 i0 rc rd f11 fm
    refine b_32_38 ?_
    rw [if_pos rfl]
    refine ⟨k1, k1, fun g2 e2 => h0 g2 s1 m2 st2 m0 i0 rc ?_ ?_ ?_⟩
    · rw [e2, up_j (by decide)]; exact f11
    · rw [e2, up_s]; exact rd.f8
    · rw [e2]; exact fm.u (by omega)
  have loop : ∀ l4 : Int, -2147483648 ≤ l4 → 1 ≤ l4 → ∀ (g1 : GH) (s1 : Int) (m2 : GH) (m0 : GH), I0 m0 → Rch T n (0, tk T n 0, m0, []) (15, s1, m2, []) → KS M T n g1 (15, s1, m2, []) → m2 0 12 = l4 → g1 1 1 = 0 → g1 1 2 = -1 → FM M g g1 → WQ sc (d + 36) 32 Q 38 [(2, 1), (2, M), (9, 0), (0, 1), (0, l4)] [] g1 r := by
    refine upW 31 (by decide) fun l4 _ ih l41 g1 s1 m2 m0 i0 rc ks e12 f11 f12 fm => ?_
    have rd : RD T n g1 s1 := ks.2.1
    have xg : XG 15 m2 := ks.1.2.2.2.2.2.2.1
    have b30 : m2 0 12 ≤ 30 := (xg.2.2.2.2.1 rfl).2
    refine b_32_38 ?_
    rw [if_neg (by decide), if_neg (show ¬ 30 < l4 by omega), rd.f7]
    refine ⟨k1, ite_c (fun z => ⟨m1, f_21 hr hM (fun v g2 t2 e2 => ?_)⟩) (fun z => ?_)⟩
    · have ex : xp T n 15 s1 m2 [] = (90, s1, m2, []) := by
        show (if kd T n s1 = 0 then _ else _) = _
        rw [if_pos z]
      have mc2 : MC M g2 m2 := by
        have mc : MC M g1 m2 := ks.2.2
        obtain ⟨a0, a1, a2, a3, a4, a5, a6, a7, a8, a9, a10, a11, a13, b1, b2, b3⟩ := mc
        refine ⟨?_, ?_, ?_, ?_, ?_, ?_, ?_, ?_, ?_, ?_, ?_, ?_, ?_, fun k => ?_, fun k => ?_, fun k => ?_⟩
        all_goals rw [e2 _ _ (by omega) (by omega)]
        · exact a0
        · exact a1
        · exact a2
        · exact a3
        · exact a4
        · exact a5
        · exact a6
        · exact a7
        · exact a8
        · exact a9
        · exact a10
        · exact a11
        · exact a13
        · exact b1 k
        · exact b2 k
        · exact b3 k
      rw [← e12]
      refine h1 g2 s1 m2 m0 i0 (rc.st ex) (by rw [← ex]; exact xi_xp ks.1) mc2 ?_ ?_ t2 (fm.tr (fun i j p q s t u => ?_))
      · rw [e2 1 1 (by omega) (by omega)]; exact f11
      · rw [e2 1 2 (by omega) (by omega)]; exact f12
      · exact e2 i j (by omega) (by omega)
    · have w4 : wr (l4 + 1) = l4 + 1 := wr_id ⟨by omega, by omega⟩
      refine ite_c (fun q => ⟨k1, f_42 (vv := l4) hr hM e12 ks z (by omega) (fun g2 s2 m3 f2 c2 k2 e2 => ?_) (fun g2 s2 m3 st3 f2 c2 rd2 => ?_)⟩) (fun q => ?_)
      · rw [if_neg (by decide)]
        rw [w4] at ih ⊢
        refine ih (by omega) (by omega) g2 s2 m3 m0 i0 (rc.tr c2) k2 e2 ?_ ?_ (fm.tr f2.fm)
        · rw [f2 1 1 (by omega) (by omega) (by omega) (by omega)]; exact f11
        · rw [f2 1 2 (by omega) (by omega) (by omega) (by omega)]; exact f12
      · rw [if_pos rfl]
        refine bad _ g2 s2 m3 st3 m0 i0 (rc.tr c2) rd2 ?_ (fm.tr f2.fm)
        rw [f2 1 1 (by omega) (by omega) (by omega) (by omega)]; exact f11
      · have ex : xp T n 15 s1 m2 [] = (91, s1, m2, []) := by
          show (if kd T n s1 = 0 then _ else if 30 ≤ m2 0 12 then _ else _) = _
          rw [if_neg z, if_pos (by omega)]
        exact bad _ g1 s1 m2 [] m0 i0 (rc.st ex) rd f11 fm
  have go : Ce sc (d + 36) 33 [(2, 1), (0, n)] g r fun v2 g2 r2 => okr 218 1 5 ∧ ∀ g3, g3 = up g2 1 1 0 → okr 218 1 5 ∧ ∀ g4, g4 = up g3 1 2 (-1) → okr 218 M 2 ∧ Ce sc (d + 36) 20 [(2, M)] g4 r2 fun v3 g5 r3 => okr 218 M 2 ∧ okr 218 1 5 ∧ Ce sc (d + 36) 41 [(2, 1), (2, r3 M 1)] g5 r3 fun v4 g6 r4 => WQ sc (d + 36) 32 Q 38 [(2, 1), (2, M), (9, 0), (0, v4), (0, 1)] [] g6 r4 := by
    refine f_33 hr hT ⟨hn, by omega⟩ (fun v2 g2 s2 rd2 => ⟨k1, fun g3 e3 => ⟨k1, fun g4 e4 => ⟨m1, f_20 hr hM (fun g5 f5 lo5 i0 => ⟨m1, k1, ?_⟩)⟩⟩⟩)
    rw [mo_1 hr hM]
    have fm4 : FM M g g4 := by
      rw [e4, e3]; exact (s2.fm.u (by omega)).u (by omega)
    have rd4 : RD T n g4 (tk T n 0) := rd2.eq (fun i j hi => by rw [e4, up_o (by omega), e3, up_o (by omega)])
    have rd5 : RD T n g5 (tk T n 0) := rd4.eq (fun i j hi => lo5 i j (by omega))
    have f11 : g5 1 1 = 0 := by rw [f5 1 1 (by omega) (by omega) (by omega) (by omega), e4, up_j (by decide), e3, up_s]
    have f12 : g5 1 2 = -1 := by rw [f5 1 2 (by omega) (by omega) (by omega) (by omega), e4, up_s]
    have ks : KS M T n g5 (0, tk T n 0, cm M g5, []) := ⟨xi_0 (tk_ts hn 0) i0, rd5, mc_cm M g5⟩
    have v0 : cm M g5 0 12 = 0 := i0.2.2.2.2.2.2.2.1
    refine f_41 (vv := 0) hr hM v0 ks (fun g6 s6 m6 f6 c6 k6 e6 => ?_) (fun g6 s6 m6 st6 f6 c6 rd6 => ?_)
    · refine loop 1 (by decide) (by decide) g6 s6 m6 _ i0 c6 k6 (by rw [e6]; decide) ?_ ?_ ((fm4.tr f5.fm).tr f6.fm)
      · rw [f6 1 1 (by omega) (by omega) (by omega) (by omega)]; exact f11
      · rw [f6 1 2 (by omega) (by omega) (by omega) (by omega)]; exact f12
    · refine bad 1 g6 s6 m6 st6 _ i0 c6 rd6 ?_ ((fm4.tr f5.fm).tr f6.fm)
      rw [f6 1 1 (by omega) (by omega) (by omega) (by omega)]; exact f11
  refine c_32 ⟨k1, w_250 (fun a => ⟨k1, go⟩) (fun a => ⟨k1, ?_⟩)⟩
  have : g 1 1 = n := by omega
  rw [this]; exact go
end CMR
