/-! the mill just read has its bucket settled -/
def mW (m : GH) : Int → Int := fun j => if 0 ≤ j ∧ j ≤ 12 then m 0 j else 0
section MBK
variable {sc : SCR} {d : Nat} {Q : QJ} {g r : GH} {l0 l1 l2 l3 l4 l5 M n : Int} {T : Int → Int} {W : Int → Int}
theorem whr_mc {m : GH} (h : MC M g m) : WHR g (M + 1) (mW m) := by
  obtain ⟨a0, a1, a2, a3, a4, a5, a6, a7, a8, a9, a10, _⟩ := h
  exact ⟨a0, a1, a2, a3, a4, a5, a6, a9, a10⟩
theorem wbd_of {ph : Nat} {m : GH} (p : 10 ≤ ph) (h : W4 ph m ∧ W6 m) : WBd (mW m) := by
  obtain ⟨⟨a1, a2, a3, a4⟩, b5, b6, b7, b8, b9, b10⟩ := h
  exact ⟨a1 (by omega), a2 (by omega), a3 (by omega), a4 (by omega), b5, b6, b9, b10⟩
theorem f_21b (hr : RI r) (hM : MO M) (wh : WHR g (M + 1) W) (hw : WBd W) (h : ∀ v g', g' M 0 = 1 → (∀ i j, ¬ (i = M ∧ j = 0) → ¬ (M + 2 ≤ i ∧ i ≤ M + 5) → g' i j = g i j) → BK3 g' (M + 1) W → Q v g' r) : Ce sc (d + 5) 21 [(2, M)] g r Q := by
  have m1 := mo_ok hM
  have hx := wxo_of hr hM
  refine c_21 ⟨m1, Or.inr rfl, fun g1 e1 => ⟨m1, ?_⟩⟩
  have wh1 : WHR g1 (M + 1) W := by
    unfold WHR
    have k : ∀ j, g1 (M + 1) j = g (M + 1) j := fun j => by rw [e1, up_i (by omega)]
    rw [k, k, k, k, k, k, k, k, k]
    exact wh
  rw [mo_1 hr hM, mo_w9 hr hM, show M + 2 = M + 1 + 1 by omega]
  refine ⟨hx.1, m1, hx.2.1, f_9 hx wh1 hw (fun g2 e2 b3 => h _ _ ?_ (fun i j p q => ?_) b3)⟩
  · rw [e2 _ _ (by omega), e1, up_s]
  · rw [e2 _ _ (by omega), e1, up_o p]
theorem f_32b (hr : RI r) (hM : MO M) (hT : ∀ p, g 2 p = T p) (hn : 0 ≤ n) (ht : n ≤ g 1 1) (h7 : g 1 1 ≤ 700)
    (h1 : ∀ g' s' m' m0, I0 m0 → Rch T n (0, tk T n 0, m0, []) (90, s', m', []) → XI T n (90, s', m', []) → MC M g' m' → BK3 g' (M + 1) (mW m') → g' 1 1 = 0 → g' 1 2 = -1 → g' M 0 = 1 → FM M g g' → Q (m' 0 12) g' r)
    (h0 : ∀ g' s' m' st' m0, I0 m0 → Rch T n (0, tk T n 0, m0, []) (91, s', m', st') → g' 1 1 = 0 → g' 1 2 = s' → FM M g g' → Q (-1) g' r) : Ce sc (d + 37) 32 [(2, 1), (2, M), (0, n)] g r Q := by
  have k1 : okr 218 1 5 := okd (by decide +kernel)
  have m1 := mo_ok hM
  have M7 : 7 ≤ M := by unfold MO at hM; omega
  -- a fault
  have bad : ∀ (l4 : Int) (g1 : GH) (s1 : Int) (m2 : GH) (st2 : List (Int × Int)) (m0 : GH), I0 m0 → Rch T n (0, tk T n 0, m0, []) (91, s1, m2, st2) → RD T n g1 s1 → g1 1 1 = 0 → FM M g g1 → WQ sc (d + 36) 32 Q 38 [(2, 1), (2, M), (9, 0), (0, 0), (0, l4)] [] g1 r := by
    intro l4 g1 s1 m2 st2 m0 i0 rc rd f11 fm
    refine b_32_38 ?_
    rw [if_pos rfl]
    refine ⟨k1, k1, fun g2 e2 => h0 g2 s1 m2 st2 m0 i0 rc ?_ ?_ ?_⟩
    · rw [e2, up_j (by decide)]; exact f11
    · rw [e2, up_s]; exact rd.f8
    · rw [e2]; exact fm.u (by omega)
  have loop : ∀ l4 : Int, -2147483648 ≤ l4 → 1 ≤ l4 → ∀ (g1 : GH) (s1 : Int) (m2 : GH) (m0 : GH), I0 m0 → Rch T n (0, tk T n 0, m0, []) (15, s1, m2, []) → KS M T n g1 (15, s1, m2, []) → m2 0 12 = l4 → g1 1 1 = 0 → g1 1 2 = -1 → FM M g g1 → WQ sc (d + 36) 32 Q 38 [(2, 1), (2, M), (9, 0), (0, 1), (0, l4)] [] g1 r := by
    refine upW 31 (by decide) fun l4 _ ih l41 g1 s1 m2 m0 i0 rc ks e12 f11 f12 fm => ?_
    have rd : RD T n g1 s1 := ks.2.1
    have xg : XG 15 m2 := ks.1.2.2.2.2.2.2.1
    have b30 : m2 0 12 ≤ 30 := (xg.2.2.2.2.1 rfl).2
    refine b_32_38 ?_
    rw [if_neg (by decide), if_neg (show ¬ 30 < l4 by omega), rd.f7]
    refine ⟨k1, ite_c (fun z => ⟨m1, f_21b hr hM (whr_mc ks.2.2) (wbd_of (ph := 15) (by decide) (XW.r (xw_0 i0) rc (show 15 ≠ 91 by decide))) (fun v g2 t2 e2 b3 => ?_)⟩) (fun z => ?_)⟩
    · have ex : xp T n 15 s1 m2 [] = (90, s1, m2, []) := by
        show (if kd T n s1 = 0 then _ else _) = _
        rw [if_pos z]
      have mc2 : MC M g2 m2 := by
        have mc : MC M g1 m2 := ks.2.2
        obtain ⟨a0, a1, a2, a3, a4, a5, a6, a7, a8, a9, a10, a11, a13, b1, b2, b3⟩ := mc
        refine ⟨?_, ?_, ?_, ?_, ?_, ?_, ?_, ?_, ?_, ?_, ?_, ?_, ?_, fun k => ?_, fun k => ?_, fun k => ?_⟩
        all_goals rw [e2 _ _ (by omega) (by omega)]
        · exact a0
        · exact a1
        · exact a2
        · exact a3
        · exact a4
        · exact a5
        · exact a6
        · exact a7
        · exact a8
        · exact a9
        · exact a10
        · exact a11
        · exact a13
        · exact b1 k
        · exact b2 k
        · exact b3 k
      rw [← e12]
      refine h1 g2 s1 m2 m0 i0 (rc.st ex) (by rw [← ex]; exact xi_xp ks.1) mc2 b3 ?_ ?_ t2 (fm.tr (fun i j p q s t u => ?_))
      · rw [e2 1 1 (by omega) (by omega)]; exact f11
      · rw [e2 1 2 (by omega) (by omega)]; exact f12
      · exact e2 i j (by omega) (by omega)
    · have w4 : wr (l4 + 1) = l4 + 1 := wr_id ⟨by omega, by omega⟩
      refine ite_c (fun q => ⟨k1, f_42 (vv := l4) hr hM e12 ks z (by omega) (fun g2 s2 m3 f2 c2 k2 e2 => ?_) (fun g2 s2 m3 st3 f2 c2 rd2 => ?_)⟩) (fun q => ?_)
      · rw [if_neg (by decide)]
        rw [w4] at ih ⊢
        refine ih (by omega) (by omega) g2 s2 m3 m0 i0 (rc.tr c2) k2 e2 ?_ ?_ (fm.tr f2.fm)
        · rw [f2 1 1 (by omega) (by omega) (by omega) (by omega)]; exact f11
        · rw [f2 1 2 (by omega) (by omega) (by omega) (by omega)]; exact f12
      · rw [if_pos rfl]
        refine bad _ g2 s2 m3 st3 m0 i0 (rc.tr c2) rd2 ?_ (fm.tr f2.fm)
        rw [f2 1 1 (by omega) (by omega) (by omega) (by omega)]; exact f11
      · have ex : xp T n 15 s1 m2 [] = (91, s1, m2, []) := by
          show (if kd T n s1 = 0 then _ else if 30 ≤ m2 0 12 then _ else _) = _
          rw [if_neg z, if_pos (by omega)]
        exact bad _ g1 s1 m2 [] m0 i0 (rc.st ex) rd f11 fm
  have go : Ce sc (d + 36) 33 [(2, 1), (0, n)] g r fun v2 g2 r2 => okr 218 1 5 ∧ ∀ g3, g3 = up g2 1 1 0 → okr 218 1 5 ∧ ∀ g4, g4 = up g3 1 2 (-1) → okr 218 M 2 ∧ Ce sc (d + 36) 20 [(2, M)] g4 r2 fun v3 g5 r3 => okr 218 M 2 ∧ okr 218 1 5 ∧ Ce sc (d + 36) 41 [(2, 1), (2, r3 M 1)] g5 r3 fun v4 g6 r4 => WQ sc (d + 36) 32 Q 38 [(2, 1), (2, M), (9, 0), (0, v4), (0, 1)] [] g6 r4 := by
    refine f_33 hr hT ⟨hn, by omega⟩ (fun v2 g2 s2 rd2 => ⟨k1, fun g3 e3 => ⟨k1, fun g4 e4 => ⟨m1, f_20 hr hM (fun g5 f5 lo5 i0 => ⟨m1, k1, ?_⟩)⟩⟩⟩)
    rw [mo_1 hr hM]
    have fm4 : FM M g g4 := by
      rw [e4, e3]; exact (s2.fm.u (by omega)).u (by omega)
    have rd4 : RD T n g4 (tk T n 0) := rd2.eq (fun i j hi => by rw [e4, up_o (by omega), e3, up_o (by omega)])
    have rd5 : RD T n g5 (tk T n 0) := rd4.eq (fun i j hi => lo5 i j (by omega))
    have f11 : g5 1 1 = 0 := by rw [f5 1 1 (by omega) (by omega) (by omega) (by omega), e4, up_j (by decide), e3, up_s]
    have f12 : g5 1 2 = -1 := by rw [f5 1 2 (by omega) (by omega) (by omega) (by omega), e4, up_s]
    have ks : KS M T n g5 (0, tk T n 0, cm M g5, []) := ⟨xi_0 (tk_ts hn 0) i0, rd5, mc_cm M g5⟩
    have v0 : cm M g5 0 12 = 0 := i0.2.2.2.2.2.2.2.1
    refine f_41 (vv := 0) hr hM v0 ks (fun g6 s6 m6 f6 c6 k6 e6 => ?_) (fun g6 s6 m6 st6 f6 c6 rd6 => ?_)
    · refine loop 1 (by decide) (by decide) g6 s6 m6 _ i0 c6 k6 (by rw [e6]; decide) ?_ ?_ ((fm4.tr f5.fm).tr f6.fm)
      · rw [f6 1 1 (by omega) (by omega) (by omega) (by omega)]; exact f11
      · rw [f6 1 2 (by omega) (by omega) (by omega) (by omega)]; exact f12
    · refine bad 1 g6 s6 m6 st6 _ i0 c6 rd6 ?_ ((fm4.tr f5.fm).tr f6.fm)
      rw [f6 1 1 (by omega) (by omega) (by omega) (by omega)]; exact f11
  refine c_32 ⟨k1, w_250 (fun a => ⟨k1, go⟩) (fun a => ⟨k1, ?_⟩)⟩
  have : g 1 1 = n := by omega
  rw [this]; exact go
def D67b (l1 l2 : Int) (g r : GH) (v1 : Int) (g1 r1 : GH) : Prop := (∀ i j, 165 ≤ i → g1 i j = g i j) ∧ ((¬ (0 ≤ l1 ∧ l1 ≤ 5 ∧ 0 ≤ l2 ∧ l2 ≤ g 1 1) ∧ r1 = r ∧ KE g g1 ∧ (∀ i j, BO i → g1 i j = g i j)) ∨ ((0 ≤ l1 ∧ l1 ≤ 5 ∧ 0 ≤ l2 ∧ l2 ≤ g 1 1) ∧ NM (r 0 2) g g1 ∧ (∀ i j, BO i → ¬ (r 0 2 ≤ i ∧ i ≤ r 0 2 + 9) → g1 i j = g i j) ∧ ∃ m0 s' m' st', I0 m0 ∧ ((Rch (fun p => g 2 p) l2 (0, tk (fun p => g 2 p) l2 0, m0, []) (90, s', m', st') ∧ XI (fun p => g 2 p) l2 (90, s', m', st') ∧ r1 6 l1 = r 0 2 ∧ (∀ k, k ≠ l1 → r1 6 k = r 6 k) ∧ MC (r 0 2) g1 m' ∧ BK3 g1 (r 0 2 + 1) (mW m') ∧ g1 (r 0 2) 0 = 1) ∨ (Rch (fun p => g 2 p) l2 (0, tk (fun p => g 2 p) l2 0, m0, []) (91, s', m', st') ∧ r1 = r))))
theorem d_67b (hr : RI r) (ht : 0 ≤ g 1 1 ∧ g 1 1 ≤ 700) : Ce sc (d + 38) 67 [(2, 0), (0, l1), (0, l2)] g r (D67b l1 l2 g r) := by
  have k0 : okr 218 0 8 := okd (by decide +kernel)
  have k1 : okr 218 1 5 := okd (by decide +kernel)
  have hm := hr.2.2.1
  have M7 : 7 ≤ r 0 2 ∧ r 0 2 ≤ 121 := by unfold MO at hm; omega
  have n65 : ¬ F3 65 := sq3 _ (by unfold SC; omega)
  have bad : ¬ (0 ≤ l1 ∧ l1 ≤ 5 ∧ 0 ≤ l2 ∧ l2 ≤ g 1 1) → D67b l1 l2 g r (-2) (up g 65 0 (wr (g 65 0 + 1))) r := fun z => ⟨fun i j hi => up_i (by omega), Or.inl ⟨z, rfl, ((EQF.rf g).up n65).ke, fun i j hi => up_i (by unfold BO at hi; omega)⟩⟩
  refine c_67 (w_123 (fun q1 q2 => ?_) (fun q => ?_))
  · rw [if_neg (by decide), r_0_0 hr]
    refine ⟨k0, k1, w_123 (fun q3 q4 => ?_) (fun q => ?_)⟩
    · rw [if_neg (by decide), r_0_0 hr]
      have hv : 0 ≤ l1 ∧ l1 ≤ 5 ∧ 0 ≤ l2 ∧ l2 ≤ g 1 1 := ⟨q1, q2, q3, q4⟩
      refine ⟨k0, k0, k1, f_32b (T := fun p => g 2 p) hr hm (fun _ => rfl) q3 q4 ht.2 (fun g1 s' m' m0 i0 rc xi mc b3 f11 f12 tt fm => ?_) (fun g1 s' m' st' m0 i0 rc f11 f12 fm => ?_)⟩
      · have xg : XG 90 m' := xi.2.2.2.2.2.2.1
        have v0 : 0 ≤ m' 0 12 := xg.2.1
        rw [if_neg (show ¬ m' 0 12 = -1 by omega), r_0_1 hr]
        have hI : okI 218 6 14 l1 := i_6.mpr ⟨q1, by omega⟩
        refine ⟨k0, Or.inl hI, k0, k0, Or.inl ⟨hI, mo_ok hm⟩, fun r4 E4 => ?_⟩
        rw [if_neg (mo_ne (hr.2.1 l1 q1 (by omega)))]
        refine ⟨k0, fun r5 E5 => ?_⟩
        have hr5 : RI r5 := by rw [E5, E4]; exact ri_swap hr q1 (by omega)
        have p1 : r5 6 l1 = r 0 2 := by rw [E5, up_i (by decide), E4, up_s]
        have p2 : ∀ k, k ≠ l1 → r5 6 k = r 6 k := fun k hk => by rw [E5, up_i (by decide), E4, up_j hk]
        rw [r_0_4 hr5]
        refine ⟨k0, (br_23 hr5).1, t_2 (F := F4) (brf4_23 hr5) (fun v' g2 e2 => ⟨k0, fun g3 E3 => ⟨fun i j hi => ?_, Or.inr ⟨hv, ?_, fun i j hi hn => ?_, m0, s', m', [], i0, Or.inl ⟨rc, xi, p1, p2, ?_, ?_, ?_⟩⟩⟩⟩)⟩
        · rw [E3, up_i (by omega), e2 i (Or.inl (fp_f3 (Or.inl hi))) j]; exact fm i j (by omega) (by omega) (by omega) (by omega) (by omega)
        · rw [E3]; exact (fm.nm.q (fun i hi j => e2 i (Or.inl hi) j)).u (Or.inr (Or.inl rfl))
        · have z := hi; unfold BO at z
          rw [E3, up_i (by omega), e2 i (Or.inr hi) j]; exact fm i j (by omega) (by omega) (by omega) (by omega) hn
        · refine mc.eq (fun i j hi => ?_)
          rw [E3, up_i (by omega)]
          exact e2 i (Or.inl (by unfold MO at hm; unfold F3 SC; omega)) j
        · refine b3.fr (fun i i0 i1 j => ?_)
          rw [E3, up_i (by omega)]
          exact e2 i (Or.inr (by unfold MO at hm; unfold BO; omega)) j
        · rw [E3, up_i (by omega), e2 _ (Or.inl (by unfold MO at hm; unfold F3 SC; omega)) 0]; exact tt
      · rw [if_pos rfl]
        refine ⟨k0, w_133 hr (by decide) (by decide) ⟨fun i j hi => ?_, Or.inr ⟨hv, ?_, fun i j hi hn => ?_, m0, s', m', st', i0, Or.inr ⟨rc, rfl⟩⟩⟩⟩
        · rw [up_i (by omega)]; exact fm i j (by omega) (by omega) (by omega) (by omega) (by omega)
        · exact fm.nm.u (Or.inl n65)
        · have z := hi; unfold BO at z
          rw [up_i (by omega)]; exact fm i j (by omega) (by omega) (by omega) (by omega) hn
    · rw [if_pos rfl]; exact ⟨k0, w_133 hr (by decide) (by decide) (bad (fun z => q ⟨z.2.2.1, z.2.2.2⟩))⟩
  · rw [if_pos rfl]; exact ⟨k0, w_133 hr (by decide) (by decide) (bad (fun z => q ⟨z.1, z.2.1⟩))⟩
end MBK
