/-! mill, over J5 -/
section ML5
variable {sc : SCR} {d : Nat} {Q : QJ} {g r : GH} {l0 l1 l2 l3 l4 l5 : Int}
/-- another mill than the one read -/
theorem T5k.nm {k M : Int} {g g1 g2 r' : GH} (hr : RI r) (h : T5k r g k) (hM : MO M) (ne : r 6 k ≠ M) (k0 : 0 ≤ k) (k6 : k < 6) (hrr : r' 6 k = r 6 k) (c : NM M g g1) (cb : ∀ i j, BO i → ¬ (M ≤ i ∧ i ≤ M + 9) → g1 i j = g i j) (hi : ∀ i j, 165 ≤ i → g1 i j = g i j) (lo : ∀ i j, i < 165 → g2 i j = g1 i j) (mo : ∀ i j, 165 ≤ i → NV k (r 6 k) i j → g2 i j = g1 i j) : T5k r' g2 k := by
  have hN := hr.2.1 k k0 k6
  have ap := mo_apart hM hN ne
  refine T5k.nv hN hrr h (fun i j z => ?_) (fun i j i0 i1 => ?_)
  · by_cases q : 165 ≤ i
    · rw [mo i j q z]; exact hi i j q
    · rw [lo i j (by omega)]
      have f3 := nv_f3 hN k0 k6 z
      unfold NV at z
      have hN7 : 7 ≤ r 6 k ∧ r 6 k ≤ 121 := by unfold MO at hN; omega
      exact c i j (by omega) f3 (by omega) (by omega) (by omega) (by omega) (by omega) (by omega)
  · have b := (mo_f3 hN).2.2 i i0 i1
    have hN7 : 7 ≤ r 6 k ∧ r 6 k ≤ 121 := by unfold MO at hN; omega
    rw [lo i j (by omega)]
    exact cb i j b (by omega)
theorem tt_67 (hJ : J5 g r) {A1 A2 : Int} (D : Nat) : Ce sc (D + 38) 67 [(2, 0), (0, A1), (0, A2)] g r (fun v1 g1 r1 => Ce sc (D + 38) 159 [(2, 165), (0, A1), (0, A2)] g1 r1 fun v2 g2 r2 => v1 = v2 ∧ J5 g2 r2) := by
  have hj2 := hJ.1.1.1
  have ht := hJ.2
  obtain ⟨hr, hci, hn, hi, a1, _⟩ := hj2.1
  have hf1 : Ce sc (D + 38) 67 [(2, 0), (0, A1), (0, A2)] g r (fun _ _ r1 => RI r1) := Ce_mono (f_67 (d := D) hr hci.1) (fun _ _ _ w => w.1)
  refine Ce_mono (Ce_and (Ce_and (rr_67 hJ.1 D) hf1) (d_67b (d := D) hr hci.1)) (fun v1 g1 r1 w => ?_)
  obtain ⟨⟨hce, hr1⟩, hi1, w⟩ := w
  have mb1 : MB g1 := mb_eq (fun i j h => hi1 i j (by omega)) hi.2.1
  have c24 : g1 165 24 = g 1 1 := (hi1 165 24 (by decide)).trans a1.symm
  have cb : 0 ≤ g1 165 24 ∧ g1 165 24 ≤ 700 := by rw [c24]; exact hci.1
  rcases w with ⟨nv, er, ke, kb⟩ | ⟨hv, nm, nb, m0, s', m', st', i0, w⟩
  · have fr2 : Ce sc (D + 38) 159 [(2, 165), (0, A1), (0, A2)] g1 r1 (fun _ g2 r2 => r2 = r1 ∧ KE g1 g2 ∧ KEB g1 g2) := f_159 (d := D + 29) (T := fun p => i_and (g1 189 p) 255) hr1 mb1 cb (fun _ _ _ => rfl) i0_m00 (fun _ => ⟨rfl, up_ke (by unfold KPV; omega), up_kb (by unfold KBV BO; omega)⟩) (fun z => absurd (by rw [c24] at z; exact z) nv) (fun z => absurd (by rw [c24] at z; exact z) nv)
    refine Ce_mono (Ce_and hce fr2) (fun v2 g2 r2 u => ?_)
    obtain ⟨⟨ev, j⟩, e2, k, k'⟩ := u
    rw [e2, er] at j ⊢
    exact ⟨ev, j, ht.kf hr (ke.tr k) (KEB.tr (fun i j z => kb i j z) k')⟩
  · have hT : ∀ p, 0 ≤ p → p < A2 → i_and (g1 189 p) 255 = (fun p => g 2 p) p := fun p p0 p1 => by
      rw [hi1 189 p (by decide)]; exact (hj2.2.1 p p0 (by omega)).symm
    have hM := hr.2.2.1
    have fr2 : Ce sc (D + 38) 159 [(2, 165), (0, A1), (0, A2)] g1 r1 (fun _ g2 r2 => r2 = r1 ∧ T5 r1 g2) := by
      refine f_159 (d := D + 29) (T := fun p => g 2 p) hr1 mb1 cb hT i0 (fun z => absurd (by rw [c24]; exact hv) z) (fun _ g2 s2 m2 rc2 mt fq _ => ⟨rfl, ?_⟩) (fun _ g2 s2 m2 st2 rc2 e25 _ _ fl => ⟨rfl, ?_⟩)
      · rcases w with ⟨rc, xi, p1, p2, mc, b3, tt⟩ | ⟨rc, er⟩
        · have e := rc.un rc2 (Or.inl rfl) (Or.inl rfl)
          have em : m' = m2 := by injection e with _ e; injection e with _ e; injection e
          subst em
          have lo : ∀ i j, i < 165 → g2 i j = g1 i j := fun i j hi => fq i j (by omega) (by omega) (by omega) (by omega) (by omega) (by omega) (by omega) (by omega) (by omega)
          obtain ⟨t1, t2, _⟩ := mt
          intro k k0 k6
          by_cases z : k = A1
          · rw [z, p1]
            have tm : TM g2 A1 := ⟨by omega, by omega, by rw [t1]; decide⟩
            have eV : MWh g2 A1 = mW m' := funext fun j => by
              unfold MWh mW
              by_cases y : 0 ≤ j ∧ j ≤ 12
              · rw [if_pos y, if_pos y]; exact t2 j y.1 y.2
              · rw [if_neg y, if_neg y]
            rw [eV]
            exact ⟨fun _ => tm, fun _ => ⟨whr_mc (mc.eq (fun i j hi => lo i j (by unfold MO at hM; omega))), wbd_of (ph := 90) (by decide) ((XW.r (xw_0 i0) rc) (show 90 ≠ 91 by decide)), b3.fr (fun i i0 i1 j => lo i j (by unfold MO at hM; omega))⟩⟩
          · refine T5k.nm hr (ht k k0 k6) hM (hr.2.2.2.1 k k0 k6) k0 k6 (p2 k z) nm nb hi1 lo (fun i j h5 nv => ?_)
            have hN := hr.2.1 k k0 k6
            unfold NV at nv
            unfold MO at hN
            exact fq i j (by omega) (by omega) (by omega) (by omega) (by omega) (by omega) (by omega) (by omega) (by omega)
        · have e := rc.un rc2 (Or.inr rfl) (Or.inl rfl)
          injection e with e _
          exact absurd e (by decide)
      · rcases w with ⟨rc, _⟩ | ⟨rc, er⟩
        · have e := rc.un rc2 (Or.inl rfl) (Or.inr rfl)
          injection e with e _
          exact absurd e (by decide)
        · have lo : ∀ i j, i < 165 → g2 i j = g1 i j := fun i j hi => fl i j (by omega) (by omega) (by omega) (by omega) (by omega) (by omega) (by omega)
          rw [er]
          intro k k0 k6
          refine T5k.nm hr (ht k k0 k6) hM (hr.2.2.2.1 k k0 k6) k0 k6 rfl nm nb hi1 lo (fun i j h5 nv => ?_)
          have hN := hr.2.1 k k0 k6
          unfold NV at nv
          unfold MO at hN
          exact fl i j (by omega) (by omega) (by omega) (by omega) (by omega) (by omega) (by omega)
    refine Ce_mono (Ce_and hce fr2) (fun v2 g2 r2 u => ?_)
    obtain ⟨⟨ev, j⟩, e2, k⟩ := u
    rw [e2] at j ⊢
    exact ⟨ev, j, k⟩
end ML5
