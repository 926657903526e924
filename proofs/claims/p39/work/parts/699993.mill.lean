/-! mill, once more: what both sides keep of the mills told -/
section ML3
variable {sc : SCR} {d : Nat} {Q : QJ} {g r : GH} {l0 l1 l2 l3 l4 l5 : Int}
/-- what is of no mill: the class's own mills' places aside -/
def NM (M : Int) (g g' : GH) : Prop := ∀ i j, i < 165 → F3 i → i ≠ 0 → i ≠ 1 → i ≠ 3 → i ≠ 4 → i ≠ 5 → ¬ (M ≤ i ∧ i ≤ M + 9) → g' i j = g i j
theorem FM.nm {M : Int} {g g' : GH} (h : FM M g g') : NM M g g' := fun i j _ _ _ a b c e f => h i j a b c e f
theorem NM.q {M : Int} {a b c : GH} (h : NM M a b) (k : EQF F3 b c) : NM M a c := fun i j x y p q s t u z => (k i y j).trans (h i j x y p q s t u z)
theorem NM.u {M : Int} {a b : GH} {x j v : Int} (h : NM M a b) (hx : ¬ F3 x ∨ x = 0 ∨ x = 1) : NM M a (up b x j v) := fun i k y f p q s t u z => by
  have hne : i ≠ x := fun w => by
    rcases hx with e | e | e
    · exact e (by rw [← w]; exact f)
    · exact p (w.trans e)
    · exact q (w.trans e)
  rw [up_i hne]; exact h i k y f p q s t u z
def D67 (l1 l2 : Int) (g r : GH) (v1 : Int) (g1 r1 : GH) : Prop := (∀ i j, 165 ≤ i → g1 i j = g i j) ∧ ((¬ (0 ≤ l1 ∧ l1 ≤ 5 ∧ 0 ≤ l2 ∧ l2 ≤ g 1 1) ∧ r1 = r ∧ KE g g1) ∨ ((0 ≤ l1 ∧ l1 ≤ 5 ∧ 0 ≤ l2 ∧ l2 ≤ g 1 1) ∧ NM (r 0 2) g g1 ∧ ∃ m0 s' m' st', I0 m0 ∧ ((Rch (fun p => g 2 p) l2 (0, tk (fun p => g 2 p) l2 0, m0, []) (90, s', m', st') ∧ XI (fun p => g 2 p) l2 (90, s', m', st') ∧ r1 6 l1 = r 0 2 ∧ (∀ k, k ≠ l1 → r1 6 k = r 6 k) ∧ MC (r 0 2) g1 m' ∧ g1 (r 0 2) 0 = 1) ∨ (Rch (fun p => g 2 p) l2 (0, tk (fun p => g 2 p) l2 0, m0, []) (91, s', m', st') ∧ r1 = r))))
theorem d_67 (hr : RI r) (ht : 0 ≤ g 1 1 ∧ g 1 1 ≤ 700) : Ce sc (d + 38) 67 [(2, 0), (0, l1), (0, l2)] g r (D67 l1 l2 g r) := by
  have k0 : okr 218 0 8 := okd (by decide +kernel)
  have k1 : okr 218 1 5 := okd (by decide +kernel)
  have hm := hr.2.2.1
  have M7 : 7 ≤ r 0 2 ∧ r 0 2 ≤ 121 := by unfold MO at hm; omega
  have n65 : ¬ F3 65 := sq3 _ (by unfold SC; omega)
  have bad : ¬ (0 ≤ l1 ∧ l1 ≤ 5 ∧ 0 ≤ l2 ∧ l2 ≤ g 1 1) → D67 l1 l2 g r (-2) (up g 65 0 (wr (g 65 0 + 1))) r := fun z => ⟨fun i j hi => up_i (by omega), Or.inl ⟨z, rfl, ((EQF.rf g).up n65).ke⟩⟩
  refine c_67 (w_123 (fun q1 q2 => ?_) (fun q => ?_))
  · rw [if_neg (by decide), r_0_0 hr]
    refine ⟨k0, k1, w_123 (fun q3 q4 => ?_) (fun q => ?_)⟩
    · rw [if_neg (by decide), r_0_0 hr]
      have hv : 0 ≤ l1 ∧ l1 ≤ 5 ∧ 0 ≤ l2 ∧ l2 ≤ g 1 1 := ⟨q1, q2, q3, q4⟩
      refine ⟨k0, k0, k1, f_32 (T := fun p => g 2 p) hr hm (fun _ => rfl) q3 q4 ht.2 (fun g1 s' m' m0 i0 rc xi mc f11 f12 tt fm => ?_) (fun g1 s' m' st' m0 i0 rc f11 f12 fm => ?_)⟩
      · have xg : XG 90 m' := xi.2.2.2.2.2.2.1
        have v0 : 0 ≤ m' 0 12 := xg.2.1
        rw [if_neg (show ¬ m' 0 12 = -1 by omega), r_0_1 hr]
        have hI : okI 218 6 14 l1 := i_6.mpr ⟨q1, by omega⟩
        refine ⟨k0, Or.inl hI, k0, k0, Or.inl ⟨hI, mo_ok hm⟩, fun r4 E4 => ?_⟩
        rw [if_neg (mo_ne (hr.2.1 l1 q1 (by omega)))]
        refine ⟨k0, fun r5 E5 => ?_⟩
        have hr5 : RI r5 := by rw [E5, E4]; exact ri_swap hr q1 (by omega)
        have p1 : r5 6 l1 = r 0 2 := by rw [E5, up_i (by decide), E4, up_s]
        have p2 : ∀ k, k ≠ l1 → r5 6 k = r 6 k := fun k hk => by rw [E5, up_i (by decide), E4, up_j hk]
        rw [r_0_4 hr5]
        refine ⟨k0, (br_23 hr5).1, t_2 (F := F3) (brf_23 hr5) (fun v' g2 e2 => ⟨k0, fun g3 E3 => ⟨fun i j hi => ?_, Or.inr ⟨hv, ?_, m0, s', m', [], i0, Or.inl ⟨rc, xi, p1, p2, ?_, ?_⟩⟩⟩⟩)⟩
        · rw [E3, up_i (by omega), e2 i (fp_f3 (Or.inl hi)) j]; exact fm i j (by omega) (by omega) (by omega) (by omega) (by omega)
        · rw [E3]; exact (fm.nm.q e2).u (Or.inr (Or.inl rfl))
        · refine mc.eq (fun i j hi => ?_)
          rw [E3, up_i (by omega)]
          exact e2 i (by unfold MO at hm; unfold F3 SC; omega) j
        · rw [E3, up_i (by omega), e2 _ (by unfold MO at hm; unfold F3 SC; omega) 0]; exact tt
      · rw [if_pos rfl]
        refine ⟨k0, w_133 hr (by decide) (by decide) ⟨fun i j hi => ?_, Or.inr ⟨hv, ?_, m0, s', m', st', i0, Or.inr ⟨rc, rfl⟩⟩⟩⟩
        · rw [up_i (by omega)]; exact fm i j (by omega) (by omega) (by omega) (by omega) (by omega)
        · exact fm.nm.u (Or.inl n65)
    · rw [if_pos rfl]; exact ⟨k0, w_133 hr (by decide) (by decide) (bad (fun z => q ⟨z.2.2.1, z.2.2.2⟩))⟩
  · rw [if_pos rfl]; exact ⟨k0, w_133 hr (by decide) (by decide) (bad (fun z => q ⟨z.1, z.2.1⟩))⟩
theorem mo_apart {M N : Int} (h : MO M) (k : MO N) (e : N ≠ M) : N + 9 < M ∨ M + 9 < N := by
  unfold MO at h k
  omega
/-- another mill, what it is told in is not touched -/
theorem TK.nm {k M N : Int} {g g1 g2 : GH} (h : TK k g N) (hM : MO M) (hN : MO N) (ne : N ≠ M) (k0 : 0 ≤ k) (k6 : k < 6) (c : NM M g g1) (hi : ∀ i j, 165 ≤ i → g1 i j = g i j) (lo : ∀ i j, i < 165 → g2 i j = g1 i j) (mo : ∀ i j, 165 ≤ i → NV k N i j → g2 i j = g1 i j) : TK k g2 N := by
  have ap := mo_apart hM hN ne
  refine h.nv (fun i j z => ?_)
  by_cases q : 165 ≤ i
  · rw [mo i j q z]; exact hi i j q
  · rw [lo i j (by omega)]
    have kv := nv_kv hN k0 k6 z
    unfold NV at z
    unfold KPV at kv
    have hN7 : 7 ≤ N ∧ N ≤ 121 := by unfold MO at hN; omega
    have f3 : F3 i := by
      rcases kv with y | y | y | y | y | y | y
      · exact y.2.1
      all_goals omega
    exact c i j (by omega) f3 (by omega) (by omega) (by omega) (by omega) (by omega) (by omega)
theorem qq_67 (hJ : J3 g r) {A1 A2 : Int} (D : Nat) : Ce sc (D + 38) 67 [(2, 0), (0, A1), (0, A2)] g r (fun v1 g1 r1 => Ce sc (D + 38) 159 [(2, 165), (0, A1), (0, A2)] g1 r1 fun v2 g2 r2 => v1 = v2 ∧ J3 g2 r2) := by
  obtain ⟨hj2, ha, hb, hc, hd⟩ := hJ
  obtain ⟨hr, hci, hn, hi, a1, _⟩ := hj2.1
  have hk3 : K3 g r := ⟨ha, hb, hc, hd⟩
  have hf1 : Ce sc (D + 38) 67 [(2, 0), (0, A1), (0, A2)] g r (fun _ _ r1 => RI r1) := Ce_mono (f_67 (d := D) hr hci.1) (fun _ _ _ w => w.1)
  refine Ce_mono (Ce_and (Ce_and (pp_67 hj2 D) hf1) (d_67 (d := D) hr hci.1)) (fun v1 g1 r1 w => ?_)
  obtain ⟨⟨hce, hr1⟩, hi1, w⟩ := w
  have mb1 : MB g1 := mb_eq (fun i j h => hi1 i j (by omega)) hi.2.1
  have c24 : g1 165 24 = g 1 1 := (hi1 165 24 (by decide)).trans a1.symm
  have cb : 0 ≤ g1 165 24 ∧ g1 165 24 ≤ 700 := by rw [c24]; exact hci.1
  rcases w with ⟨nv, er, ke⟩ | ⟨hv, nm, m0, s', m', st', i0, w⟩
  · have fr2 : Ce sc (D + 38) 159 [(2, 165), (0, A1), (0, A2)] g1 r1 (fun _ g2 r2 => r2 = r1 ∧ KE g1 g2) := f_159 (d := D + 29) (T := fun p => i_and (g1 189 p) 255) hr1 mb1 cb (fun _ _ _ => rfl) i0_m00 (fun _ => ⟨rfl, up_ke (by unfold KPV; omega)⟩) (fun z => absurd (by rw [c24] at z; exact z) nv) (fun z => absurd (by rw [c24] at z; exact z) nv)
    refine Ce_mono (Ce_and hce fr2) (fun v2 g2 r2 u => ?_)
    obtain ⟨⟨ev, j⟩, e2, k⟩ := u
    rw [e2, er] at j ⊢
    exact ⟨ev, j, hk3.ke hr (ke.tr k)⟩
  · have hT : ∀ p, 0 ≤ p → p < A2 → i_and (g1 189 p) 255 = (fun p => g 2 p) p := fun p p0 p1 => by
      rw [hi1 189 p (by decide)]; exact (hj2.2.1 p p0 (by omega)).symm
    have hM := hr.2.2.1
    have fr2 : Ce sc (D + 38) 159 [(2, 165), (0, A1), (0, A2)] g1 r1 (fun _ g2 r2 => r2 = r1 ∧ (MI g2 → K3 g2 r1)) := by
      refine f_159 (d := D + 29) (T := fun p => g 2 p) hr1 mb1 cb hT i0 (fun z => absurd (by rw [c24]; exact hv) z) (fun _ g2 s2 m2 rc2 mt fq _ => ⟨rfl, fun mi => ?_⟩) (fun _ g2 s2 m2 st2 rc2 e25 _ _ fl => ⟨rfl, fun mi => ?_⟩)
      · rcases w with ⟨rc, xi, p1, p2, mc, tt⟩ | ⟨rc, er⟩
        · have e := rc.un rc2 (Or.inl rfl) (Or.inl rfl)
          have em : m' = m2 := by injection e with _ e; injection e with _ e; injection e
          subst em
          have lo : ∀ i j, i < 165 → g2 i j = g1 i j := fun i j hi => fq i j (by omega) (by omega) (by omega) (by omega) (by omega) (by omega) (by omega) (by omega) (by omega)
          obtain ⟨t1, t2, t3, t4, _⟩ := mt
          refine ⟨fun k k0 k6 => ?_, fun k k0 k6 => ?_, ?_, fun j j0 j1 => ?_⟩
          · by_cases z : k = A1
            · rw [z, p1]
              refine ⟨?_, fun _ => ⟨m', ⟨xi.2.2.2.2.2.2.1, ?_, ?_, ?_, ?_, ((XW.r (xw_0 i0) rc) (show 90 ≠ 91 by decide)).1, ((XW.r (xw_0 i0) rc) (show 90 ≠ 91 by decide)).2, ((XH.r (xi_0 (tk_ts hv.2.2.1 0) i0) (xh_0 i0) rc) (show 90 ≠ 91 by decide)).1⟩, mc.eq (fun i j hi => lo i j (by unfold MO at hM; omega)), t2, t3, t4⟩⟩
              · rw [lo _ _ (by unfold MO at hM; omega), tt, t1]
              · have xgb : XGB (90, s', m', st') := XGB.r (x := (0, tk (fun p => g 2 p) A2 0, m0, [])) (by
                  obtain ⟨_, _, _, _, _, _, z11, _, z13⟩ := i0
                  exact ⟨by show 0 ≤ m0 0 11; omega, by show 0 ≤ m0 0 13; omega, fun k a b => absurd b (by show ¬ k < m0 0 11; omega)⟩) rc
                exact xgb
              · have xb : XB (90, s', m', st') := XB.r (x := (0, tk (fun p => g 2 p) A2 0, m0, [])) (fun z => absurd z (show ¬ 2 ≤ 0 by decide)) rc
                exact xb (show 2 ≤ 90 by decide) (show 90 ≠ 91 by decide)
              · have mt := mi.2.2 A1 (by omega) (by omega) (by rw [t1]; decide)
                have := mt.2.2.1.2
                have := t2 11 (by decide) (by decide)
                rw [show (168 : Int) + 11 = 179 by decide] at this
                omega
              · have x0 := xi.1
                have x1 := xi.2.2.1
                have x2 : xe 90 = 0 := rfl
                have x3 := pd_b st'
                have x4 : s' ≤ A2 := x0.2.1
                have x5 : 2 * (m' 0 13 + pd st' + xe 90) ≤ s' := x1
                have := hci.1
                omega
            · rw [p2 k z]
              refine (ha k k0 k6).nm hM (hr.2.1 k k0 k6) (hr.2.2.2.1 k k0 k6) k0 k6 nm hi1 lo (fun i j h5 nv => ?_)
              have hN := hr.2.1 k k0 k6
              unfold NV at nv
              unfold MO at hN
              exact fq i j (by omega) (by omega) (by omega) (by omega) (by omega) (by omega) (by omega) (by omega) (by omega)
          · rw [lo 51 k (by decide), fq 181 k (by omega) (by omega) (by omega) (by omega) (by omega) (by omega) (by omega) (by omega) (by omega), nm 51 k (by decide) (f3_of (by decide)) (by decide) (by decide) (by decide) (by decide) (by decide) (by unfold MO at hM; omega), hi1 181 k (by decide)]
            exact hb k k0 k6
          · rw [lo 52 2 (by decide), fq 165 61 (by omega) (by omega) (by omega) (by omega) (by omega) (by omega) (by omega) (by omega) (by omega), nm 52 2 (by decide) (f3_of (by decide)) (by decide) (by decide) (by decide) (by decide) (by decide) (by unfold MO at hM; omega), hi1 165 61 (by decide)]
            exact hc
          · rw [lo 52 2 (by decide), nm 52 2 (by decide) (f3_of (by decide)) (by decide) (by decide) (by decide) (by decide) (by decide) (by unfold MO at hM; omega)] at j1
            rw [lo 53 j (by decide), lo 54 j (by decide), nm 53 j (by decide) (f3_of (by decide)) (by decide) (by decide) (by decide) (by decide) (by decide) (by unfold MO at hM; omega), nm 54 j (by decide) (f3_of (by decide)) (by decide) (by decide) (by decide) (by decide) (by decide) (by unfold MO at hM; omega), fq 209 j (by omega) (by omega) (by omega) (by omega) (by omega) (by omega) (by omega) (by omega) (by omega), fq 210 j (by omega) (by omega) (by omega) (by omega) (by omega) (by omega) (by omega) (by omega) (by omega), hi1 209 j (by decide), hi1 210 j (by decide)]
            refine ⟨(hd j j0 j1).1, (hd j j0 j1).2.1, (hd j j0 j1).2.2.1, (hd j j0 j1).2.2.2.1, ?_⟩
            have hk := (hd j j0 j1).2.2
            by_cases z : g 209 j = A1
            · rw [z, t1]; decide
            · have k0 := hk.1
              have k6 := hk.2.1
              rw [fq 167 _ (by omega) (by omega) (by omega) (by omega) (by omega) (by omega) (by omega) (by omega) (by omega), hi1 167 _ (by decide)]
              exact hk.2.2
        · have e := rc.un rc2 (Or.inr rfl) (Or.inl rfl)
          injection e with e _
          exact absurd e (by decide)
      · rcases w with ⟨rc, _⟩ | ⟨rc, er⟩
        · have e := rc.un rc2 (Or.inl rfl) (Or.inr rfl)
          injection e with e _
          exact absurd e (by decide)
        · have lo : ∀ i j, i < 165 → g2 i j = g1 i j := fun i j hi => fl i j (by omega) (by omega) (by omega) (by omega) (by omega) (by omega) (by omega)
          rw [er]
          refine ⟨fun k k0 k6 => ?_, fun k k0 k6 => ?_, ?_, fun j j0 j1 => ?_⟩
          · refine (ha k k0 k6).nm hM (hr.2.1 k k0 k6) (hr.2.2.2.1 k k0 k6) k0 k6 nm hi1 lo (fun i j h5 nv => ?_)
            have hN := hr.2.1 k k0 k6
            unfold NV at nv
            unfold MO at hN
            exact fl i j (by omega) (by omega) (by omega) (by omega) (by omega) (by omega) (by omega)
          · rw [lo 51 k (by decide), fl 181 k (by omega) (by omega) (by omega) (by omega) (by omega) (by omega) (by omega), nm 51 k (by decide) (f3_of (by decide)) (by decide) (by decide) (by decide) (by decide) (by decide) (by unfold MO at hM; omega), hi1 181 k (by decide)]
            exact hb k k0 k6
          · rw [lo 52 2 (by decide), fl 165 61 (by omega) (by omega) (by omega) (by omega) (by omega) (by omega) (by omega), nm 52 2 (by decide) (f3_of (by decide)) (by decide) (by decide) (by decide) (by decide) (by decide) (by unfold MO at hM; omega), hi1 165 61 (by decide)]
            exact hc
          · rw [lo 52 2 (by decide), nm 52 2 (by decide) (f3_of (by decide)) (by decide) (by decide) (by decide) (by decide) (by decide) (by unfold MO at hM; omega)] at j1
            rw [lo 53 j (by decide), lo 54 j (by decide), nm 53 j (by decide) (f3_of (by decide)) (by decide) (by decide) (by decide) (by decide) (by decide) (by unfold MO at hM; omega), nm 54 j (by decide) (f3_of (by decide)) (by decide) (by decide) (by decide) (by decide) (by decide) (by unfold MO at hM; omega), fl 209 j (by omega) (by omega) (by omega) (by omega) (by omega) (by omega) (by omega), fl 210 j (by omega) (by omega) (by omega) (by omega) (by omega) (by omega) (by omega), hi1 209 j (by decide), hi1 210 j (by decide)]
            refine ⟨(hd j j0 j1).1, (hd j j0 j1).2.1, (hd j j0 j1).2.2.1, (hd j j0 j1).2.2.2.1, ?_⟩
            rw [fl 167 _ (by omega) (by omega) (by omega) (by omega) (by omega) (by omega) (by omega), hi1 167 _ (by decide)]
            exact (hd j j0 j1).2.2.2.2
    refine Ce_mono (Ce_and hce fr2) (fun v2 g2 r2 u => ?_)
    obtain ⟨⟨ev, j⟩, e2, k⟩ := u
    rw [e2] at j ⊢
    exact ⟨ev, j, k j.1.2.2.2.1⟩
end ML3
