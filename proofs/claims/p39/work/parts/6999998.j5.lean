/-! J5: the buckets of the mills told are settled -/
section J5S
variable {sc : SCR} {d : Nat} {Q : QJ} {g r : GH} {l0 l1 l2 l3 l4 l5 p a b n : Int}
theorem ME.kb {g g' : GH} (e : ME g g') : KEB g g' := fun i j h => e.1 i j (by unfold KBV BO at h; unfold MV; omega)
theorem mwh_e {g g' : GH} {k : Int} (e : ∀ j, 0 ≤ j → j ≤ 12 → g' (168 + j) k = g (168 + j) k) : MWh g' k = MWh g k := funext fun j => by
  unfold MWh
  by_cases z : 0 ≤ j ∧ j ≤ 12
  · rw [if_pos z, if_pos z]; exact e j z.1 z.2
  · rw [if_neg z, if_neg z]
def T5 (r g : GH) : Prop := T4 r (TM g) (MWh g) g
def J5 (g r : GH) : Prop := J4 g r ∧ T5 r g
/-- one mill's part -/
def T5k (r g : GH) (q : Int) : Prop := (g (r 6 q) 0 ≠ 0 → TM g q) ∧ (TM g q → WHR g (r 6 q + 1) (MWh g q) ∧ WBd (MWh g q) ∧ BK3 g (r 6 q + 1) (MWh g q))
theorem T5k.nv {r' : GH} {g g' : GH} {q : Int} (hm : MO (r 6 q)) (hrr : r' 6 q = r 6 q) (h : T5k r g q) (nv : ∀ i j, NV q (r 6 q) i j → g' i j = g i j) (b : ∀ i j, r 6 q + 2 ≤ i → i ≤ r 6 q + 5 → g' i j = g i j) : T5k r' g' q := by
  obtain ⟨x, y⟩ := h
  unfold T5k
  rw [hrr]
  have e67 : g' 167 q = g 167 q := nv 167 q (by unfold NV; omega)
  have eV : MWh g' q = MWh g q := mwh_e (fun j j0 j1 => nv (168 + j) q (by unfold NV; omega))
  have tm : TM g' q ↔ TM g q := by unfold TM; rw [e67]
  have e0 : g' (r 6 q) 0 = g (r 6 q) 0 := nv _ _ (Or.inl rfl)
  have e1 : ∀ j, g' (r 6 q + 1) j = g (r 6 q + 1) j := fun j => nv _ _ (Or.inr (Or.inl rfl))
  refine ⟨fun z => tm.mpr (x (by rw [← e0]; exact z)), fun s => ?_⟩
  obtain ⟨w1, w2, w3⟩ := y (tm.mp s)
  rw [eV]
  refine ⟨?_, w2, w3.fr (fun i i0 i1 j => b i j (by omega) (by omega))⟩
  unfold WHR
  rw [e1, e1, e1, e1, e1, e1, e1, e1, e1]
  exact w1
theorem T5.nv {g g' : GH} (hr : RI r) (h : T5 r g) (nv : ∀ q, 0 ≤ q → q < 6 → ∀ i j, NV q (r 6 q) i j → g' i j = g i j) (b : KEB g g') : T5 r g' := fun q q0 q6 => T5k.nv (hr.2.1 q q0 q6) rfl (h q q0 q6) (nv q q0 q6) (fun i j i0 i1 => b i j ((mo_f3 (hr.2.1 q q0 q6)).2.2 i i0 i1))
theorem T5.kf {g g' : GH} (hr : RI r) (h : T5 r g) (k : KE g g') (b : KEB g g') : T5 r g' := fun q q0 q6 => by
  have hm := hr.2.1 q q0 q6
  obtain ⟨f0, f1, fb⟩ := mo_f3 hm
  obtain ⟨x, y⟩ := h q q0 q6
  have e67 : g' 167 q = g 167 q := k 167 q (by unfold KPV; omega)
  have eV : MWh g' q = MWh g q := mwh_e (fun j j0 j1 => k (168 + j) q (by unfold KPV; omega))
  have tm : TM g' q ↔ TM g q := by unfold TM; rw [e67]
  have nv := fun i j (z : NV q (r 6 q) i j) => k i j (nv_kv hm q0 q6 z)
  have e0 : g' (r 6 q) 0 = g (r 6 q) 0 := nv _ _ (Or.inl rfl)
  have e1 : ∀ j, g' (r 6 q + 1) j = g (r 6 q + 1) j := fun j => nv _ _ (Or.inr (Or.inl rfl))
  refine ⟨fun z => tm.mpr (x (by rw [← e0]; exact z)), fun s => ?_⟩
  obtain ⟨w1, w2, w3⟩ := y (tm.mp s)
  rw [eV]
  refine ⟨?_, w2, w3.fr (fun i i0 i1 j => b i j (fb i (by omega) (by omega)))⟩
  unfold WHR
  rw [e1, e1, e1, e1, e1, e1, e1, e1, e1]
  exact w1
theorem T5.eb {g g' : GH} (e : EB r (TM g) (MWh g) g g') : T5 r g' := by
  have eS : TM g' = TM g := funext fun k => by unfold TM; rw [e.1 167 (fp_f3 (Or.inl (by decide))) k]
  have eV : MWh g' = MWh g := funext fun k => mwh_e (fun j j0 _ => e.1 (168 + j) (fp_f3 (Or.inl (by omega))) k)
  unfold T5
  rw [eS, eV]
  exact e.2
theorem J5.eb {g g' : GH} (h : J5 g r) (e : EB r (TM g) (MWh g) g g') : J5 g' r := ⟨h.1.eq e.1, T5.eb e⟩
theorem J5.eq {g g' : GH} (h : J5 g r) (e : EQF F4 g g') : J5 g' r := ⟨h.1.eq (f4_3 e), h.2.kf h.1.1.1.1.1 (f4_3 e).ke e.kb⟩
theorem J5.me {g g' : GH} (h : J5 g r) (e : ME g g') : J5 g' r := ⟨h.1.me e, h.2.kf h.1.1.1.1.1 e.ke e.kb⟩
theorem kb_228 (hr : RI r) (hi : MI g) : Ce sc (d + 2) 228 [(2, 165), (0, l1)] g r (KRB g r) := s_228 hr hi (fun _ _ => ⟨rfl, (up_kb (by unfold KBV BO; omega)).tr (up_kb (by unfold KBV BO; omega))⟩) (fun _ g2 e2 => ⟨rfl, e2.kb⟩)
theorem kb_229 (hr : RI r) (hi : MI g) : Ce sc (d + 1) 229 [(2, 165)] g r (KRB g r) := w_229 hr hi (fun _ _ => ⟨rfl, up_kb (by unfold KBV BO; omega)⟩) (fun _ => ⟨rfl, KEB.rf g⟩)
theorem kb_236 (hr : RI r) (hi : MI g) : Ce sc (d + 2) 236 [(2, 165), (0, l1), (0, l2)] g r (KRB g r) := by
  have k9 : okr 218 165 9 := okd (by decide +kernel)
  have c := hi.1.2.2.2.2.1
  refine c_236 (w_137 (fun q1 q2 => ?_) (fun q => ?_))
  · rw [if_neg (by decide)]
    refine w_137 (fun q3 q4 => ?_) (fun q => ?_)
    · rw [if_neg (by decide), r_165_67 hr, r_165_68 hr]
      refine ⟨k9, ite_c (fun q => ⟨k9, s_138 hr (by decide) (by decide) (fun g' e => ⟨rfl, e.kb⟩)⟩) (fun q => ⟨k9, k9, i_212.mpr ⟨by omega, by omega⟩, fun g1 e1 => ⟨k9, k9, ?_, fun g2 e2 => ⟨k9, k9, fun g3 e3 => ⟨k9, rfl, ?_⟩⟩⟩⟩)⟩
      · rw [e1, up_i (by decide)]; exact i_213.mpr ⟨by omega, by omega⟩
      · rw [e3, e2, e1]
        exact ((up_kb (by unfold KBV BO; omega)).tr (up_kb (by unfold KBV BO; omega))).tr (up_kb (by unfold KBV BO; omega))
    · rw [if_pos rfl]; exact ⟨k9, s_138 hr (by decide) (by decide) (fun g' e => ⟨rfl, e.kb⟩)⟩
  · rw [if_pos rfl]; exact ⟨k9, s_138 hr (by decide) (by decide) (fun g' e => ⟨rfl, e.kb⟩)⟩
theorem kb_240 (hr : RI r) (hi : MI g) : Ce sc (d + 2) 240 [(2, 165), (0, l1), (0, l2)] g r (KRB g r) := by
  have k9 : okr 218 165 9 := okd (by decide +kernel)
  have c := hi.1.2.2.2.2.2.1
  refine c_240 (w_137 (fun q1 q2 => ?_) (fun q => ?_))
  · rw [if_neg (by decide)]
    refine w_137 (fun q3 q4 => ?_) (fun q => ?_)
    · rw [if_neg (by decide), r_165_71 hr, r_165_72 hr]
      refine ⟨k9, ite_c (fun q => ⟨k9, s_138 hr (by decide) (by decide) (fun g' e => ⟨rfl, e.kb⟩)⟩) (fun q => ⟨k9, k9, i_215.mpr ⟨by omega, by omega⟩, fun g1 e1 => ⟨k9, k9, ?_, fun g2 e2 => ⟨k9, k9, fun g3 e3 => ⟨k9, rfl, ?_⟩⟩⟩⟩)⟩
      · rw [e1, up_i (by decide)]; exact i_216.mpr ⟨by omega, by omega⟩
      · rw [e3, e2, e1]
        exact ((up_kb (by unfold KBV BO; omega)).tr (up_kb (by unfold KBV BO; omega))).tr (up_kb (by unfold KBV BO; omega))
    · rw [if_pos rfl]; exact ⟨k9, s_138 hr (by decide) (by decide) (fun g' e => ⟨rfl, e.kb⟩)⟩
  · rw [if_pos rfl]; exact ⟨k9, s_138 hr (by decide) (by decide) (fun g' e => ⟨rfl, e.kb⟩)⟩
theorem kb_244 (hr : RI r) (hi : MI g) : Ce sc (d + 2) 244 [(2, 165)] g r (KRB g r) := by
  have k9 : okr 218 165 9 := okd (by decide +kernel)
  have c := hi.1.2.1
  refine c_244 ⟨k9, ite_c (fun _ => ⟨k9, s_138 hr (by decide) (by decide) (fun g' e => ⟨rfl, e.kb⟩)⟩) (fun q => ?_)⟩
  refine ⟨k9, k9, fun g1 e1 => ?_⟩
  rw [wr_id ⟨by omega, by omega⟩] at e1
  have f1 : g1 165 48 = g 165 48 + 1 := by rw [e1, up_s]
  have mb1 : MB g1 := mb_eq (fun i j h => by rw [e1, up_i (by omega)]) hi.2.1
  have k1 : KEB g g1 := by rw [e1]; exact up_kb (by unfold KBV BO; omega)
  rw [f1]
  refine ⟨k9, k9, s_192 hr mb1 (by decide) (by decide) (by omega) (by omega) (fun v g2 e2 => ?_)⟩
  have f2 : g2 165 48 = g 165 48 + 1 := (e2.1 165 48 (by unfold MV; omega)).trans f1
  rw [f2, r_165_47 hr]
  refine ⟨k9, k9, k9, i_202.mpr ⟨by omega, by omega⟩, fun g3 e3 => ⟨k9, rfl, ?_⟩⟩
  rw [e3]
  exact (k1.tr e2.kb).tr (up_kb (by unfold KBV BO; omega))
theorem CEB.mi {g g' : GH} (h : CEB g g') (hi : MI g) : MI g' := hi.hi (fun i j z => h.2 i j z)
theorem ap20_cb {t a b c e f : Int} : CEB g (ap20 g t a b c e f) := by
  have o : ∀ i j, i ≠ 1 → i ≠ 2 → ap20 g t a b c e f i j = g i j := fun i j x y => by
    unfold ap20
    rw [ap4_o x y, ap4_o x y, ap4_o x y, ap4_o x y, ap4_o x y]
  exact ⟨fun i j z => o i j (by unfold KBV BO at z; omega) (by unfold KBV BO at z; omega), fun i j z => o i j (by omega) (by omega)⟩
theorem kb_66 (hr : RI r) (hc : 0 ≤ g 1 1 ∧ g 1 1 ≤ 700) : Ce sc (d + 2) 66 [(2, 0), (0, l1), (0, l2), (0, l3), (0, l4), (0, l5)] g r (KCB g r) := w_66 hr rfl hc.1 hc.2 (fun _ => ⟨rfl, ap20_cb⟩) (fun _ => ⟨rfl, CEB.rf g⟩)
theorem kb_142 (hr : RI r) (hi : MI g) : Ce sc (d + 1) 142 [(2, 165), (0, l1), (0, l2), (0, l3), (0, l4), (0, l5)] g r (KRB g r) := fq_142 hr hi.1.1 (fun _ g2 _ y => ⟨rfl, fun i j z => y i j (by unfold KBV BO at z; omega) (by unfold KBV BO at z; omega)⟩) (fun _ => ⟨rfl, KEB.rf g⟩)
theorem tt_66 (hJ : J5 g r) {A1 A2 A3 A4 A5 : Int} (D : Nat) : Ce sc (D + 2) 66 [(2, 0), (0, A1), (0, A2), (0, A3), (0, A4), (0, A5)] g r (fun v1 g1 r1 => Ce sc (D + 2) 142 [(2, 165), (0, A1), (0, A2), (0, A3), (0, A4), (0, A5)] g1 r1 fun v2 g2 r2 => v1 = v2 ∧ J5 g2 r2) := by
  have hj := hJ.1.1.1.1
  refine Ce_mono (Ce_and (rr_66 hJ.1 D) (Ce_and (ke_66 hj.1 hj.2.1.1) (kb_66 hj.1 hj.2.1.1))) (fun v1 g1 r1 w => ?_)
  obtain ⟨hce, ⟨rfl, e1⟩, _, b1⟩ := w
  refine Ce_mono (Ce_and hce (Ce_and (ke_142 (d := D + 1) hj.1 (e1.mi hj.2.2.2.1)) (kb_142 (d := D + 1) hj.1 (e1.mi hj.2.2.2.1)))) (fun v2 g2 r2 u => ?_)
  obtain ⟨⟨ev, j⟩, ⟨e2, k⟩, _, b2⟩ := u
  subst e2
  exact ⟨ev, j, hJ.2.kf hj.1 (e1.1.tr k) (b1.1.tr b2)⟩
theorem tt_104 (hJ : J5 g r) {A1 : Int} (D : Nat) : Ce sc (D + 4) 104 [(2, 0), (0, A1)] g r (fun v1 g1 r1 => Ce sc (D + 4) 228 [(2, 165), (0, A1)] g1 r1 fun v2 g2 r2 => v1 = v2 ∧ J5 g2 r2) := by
  have hj := hJ.1.1.1.1
  refine Ce_mono (Ce_and (rr_104 hJ.1 D) (Ce_and (ke_104 hj.1 hj.2.1.2.2.2.1.1) (kb_104 hj.1 hj.2.1.2.2.2.1.1))) (fun v1 g1 r1 w => ?_)
  obtain ⟨hce, ⟨rfl, e1⟩, _, b1⟩ := w
  refine Ce_mono (Ce_and hce (Ce_and (ke_228 (d := D + 2) hj.1 (e1.mi hj.2.2.2.1)) (kb_228 (d := D + 2) hj.1 (e1.mi hj.2.2.2.1)))) (fun v2 g2 r2 u => ?_)
  obtain ⟨⟨ev, j⟩, ⟨e2, k⟩, _, b2⟩ := u
  subst e2
  exact ⟨ev, j, hJ.2.kf hj.1 (e1.1.tr k) (b1.1.tr b2)⟩
theorem tt_105 (hJ : J5 g r) (D : Nat) : Ce sc (D + 2) 105 [(2, 0)] g r (fun v1 g1 r1 => Ce sc (D + 2) 229 [(2, 165)] g1 r1 fun v2 g2 r2 => v1 = v2 ∧ J5 g2 r2) := by
  have hj := hJ.1.1.1.1
  refine Ce_mono (Ce_and (rr_105 hJ.1 D) (Ce_and (ke_105 hj.1 hj.2.1.2.2.2.1) (kb_105 hj.1 hj.2.1.2.2.2.1))) (fun v1 g1 r1 w => ?_)
  obtain ⟨hce, ⟨rfl, e1⟩, _, b1⟩ := w
  refine Ce_mono (Ce_and hce (Ce_and (ke_229 (d := D + 1) hj.1 (e1.mi hj.2.2.2.1)) (kb_229 (d := D + 1) hj.1 (e1.mi hj.2.2.2.1)))) (fun v2 g2 r2 u => ?_)
  obtain ⟨⟨ev, j⟩, ⟨e2, k⟩, _, b2⟩ := u
  subst e2
  exact ⟨ev, j, hJ.2.kf hj.1 (e1.1.tr k) (b1.1.tr b2)⟩
theorem tt_111 (hJ : J5 g r) {A1 A2 : Int} (D : Nat) : Ce sc (D + 4) 111 [(2, 0), (0, A1), (0, A2)] g r (fun v1 g1 r1 => Ce sc (D + 4) 236 [(2, 165), (0, A1), (0, A2)] g1 r1 fun v2 g2 r2 => v1 = v2 ∧ J5 g2 r2) := by
  have hj := hJ.1.1.1.1
  refine Ce_mono (Ce_and (rr_111 hJ.1 D) (Ce_and (ke_111 hj.1 hj.2.1.2.2.2.2.1.1) (kb_111 hj.1 hj.2.1.2.2.2.2.1.1))) (fun v1 g1 r1 w => ?_)
  obtain ⟨hce, ⟨rfl, e1⟩, _, b1⟩ := w
  refine Ce_mono (Ce_and hce (Ce_and (ke_236 (d := D + 2) hj.1 (e1.mi hj.2.2.2.1)) (kb_236 (d := D + 2) hj.1 (e1.mi hj.2.2.2.1)))) (fun v2 g2 r2 u => ?_)
  obtain ⟨⟨ev, j⟩, ⟨e2, k⟩, _, b2⟩ := u
  subst e2
  exact ⟨ev, j, hJ.2.kf hj.1 (e1.1.tr k) (b1.1.tr b2)⟩
theorem tt_117 (hJ : J5 g r) {A1 A2 : Int} (D : Nat) : Ce sc (D + 4) 117 [(2, 0), (0, A1), (0, A2)] g r (fun v1 g1 r1 => Ce sc (D + 4) 240 [(2, 165), (0, A1), (0, A2)] g1 r1 fun v2 g2 r2 => v1 = v2 ∧ J5 g2 r2) := by
  have hj := hJ.1.1.1.1
  refine Ce_mono (Ce_and (rr_117 hJ.1 D) (Ce_and (ke_117 hj.1 hj.2.1.2.2.2.2.2.1) (kb_117 hj.1 hj.2.1.2.2.2.2.2.1))) (fun v1 g1 r1 w => ?_)
  obtain ⟨hce, ⟨rfl, e1⟩, _, b1⟩ := w
  refine Ce_mono (Ce_and hce (Ce_and (ke_240 (d := D + 2) hj.1 (e1.mi hj.2.2.2.1)) (kb_240 (d := D + 2) hj.1 (e1.mi hj.2.2.2.1)))) (fun v2 g2 r2 u => ?_)
  obtain ⟨⟨ev, j⟩, ⟨e2, k⟩, _, b2⟩ := u
  subst e2
  exact ⟨ev, j, hJ.2.kf hj.1 (e1.1.tr k) (b1.1.tr b2)⟩
theorem tt_120 (hJ : J5 g r) (D : Nat) : Ce sc (D + 4) 120 [(2, 0)] g r (fun v1 g1 r1 => Ce sc (D + 4) 244 [(2, 165)] g1 r1 fun v2 g2 r2 => v1 = v2 ∧ J5 g2 r2) := by
  have hj := hJ.1.1.1.1
  refine Ce_mono (Ce_and (rr_120 hJ.1 D) (Ce_and (ke_120 hj.1 hj.2.1.2.1) (kb_120 hj.1 hj.2.1.2.1))) (fun v1 g1 r1 w => ?_)
  obtain ⟨hce, ⟨rfl, e1⟩, _, b1⟩ := w
  refine Ce_mono (Ce_and hce (Ce_and (ke_244 (d := D + 2) hj.1 (e1.mi hj.2.2.2.1)) (kb_244 (d := D + 2) hj.1 (e1.mi hj.2.2.2.1)))) (fun v2 g2 r2 u => ?_)
  obtain ⟨⟨ev, j⟩, ⟨e2, k⟩, _, b2⟩ := u
  subst e2
  exact ⟨ev, j, hJ.2.kf hj.1 (e1.1.tr k) (b1.1.tr b2)⟩
theorem nv_5 {q M i j : Int} (hM : MO M) (h : NV q M i j) : i ≠ 51 ∧ i ≠ 52 ∧ i ≠ 53 ∧ i ≠ 54 ∧ i ≠ 181 ∧ i ≠ 209 ∧ i ≠ 210 ∧ i ≠ 165 := by
  unfold NV at h
  unfold MO at hM
  omega
theorem kb_98 (hr : RI r) : Ce sc (d + 4) 98 [(2, 0), (0, l1), (0, l2)] g r (fun _ g1 r1 => r1 = r ∧ (∀ i j, i ≠ 51 → (BO i ∨ F3 i) → g1 i j = g i j)) := u_98 hr (fun _ => ⟨rfl, fun i j h _ => up_i h⟩) (fun _ g' e => ⟨rfl, fun i j _ h => e i (h.elim Or.inr Or.inl) j⟩)
theorem kb_222 (hr : RI r) : Ce sc (d + 2) 222 [(2, 165), (0, l1), (0, l2)] g r (fun _ g1 r1 => r1 = r ∧ (∀ i j, i ≠ 181 → MV i j → g1 i j = g i j)) := w_222 hr (fun _ => ⟨rfl, fun i j h _ => up_i h⟩) (fun _ g' e => ⟨rfl, fun i j _ h => e.1 i j h⟩)
theorem nv_mv {q M i j : Int} (hM : MO M) (q0 : 0 ≤ q) (q6 : q < 6) (h : NV q M i j) : MV i j := by
  unfold NV at h
  unfold MO at hM
  unfold MV
  omega
theorem nv_f3 {q M i j : Int} (hM : MO M) (q0 : 0 ≤ q) (q6 : q < 6) (h : NV q M i j) : F3 i := by
  have k := nv_kv hM q0 q6 h
  rcases k with z | z | z | z | z | z | z
  · exact z.2.1
  all_goals (unfold F3 SC; omega)
theorem tt_98 (hJ : J5 g r) {A1 A2 : Int} (D : Nat) : Ce sc (D + 4) 98 [(2, 0), (0, A1), (0, A2)] g r (fun v1 g1 r1 => Ce sc (D + 4) 222 [(2, 165), (0, A1), (0, A2)] g1 r1 fun v2 g2 r2 => v1 = v2 ∧ J5 g2 r2) := by
  have hr := hJ.1.1.1.1.1
  refine Ce_mono (Ce_and (rr_98 hJ.1 D) (kb_98 hr)) (fun v1 g1 r1 w => ?_)
  obtain ⟨hce, rfl, e1⟩ := w
  refine Ce_mono (Ce_and hce (kb_222 (d := D + 2) hr)) (fun v2 g2 r2 u => ?_)
  obtain ⟨⟨ev, j⟩, e2, k⟩ := u
  subst e2
  refine ⟨ev, j, hJ.2.nv hr (fun q q0 q6 i j z => ?_) (fun i j z => ?_)⟩
  · have hm := hr.2.1 q q0 q6
    have n := nv_5 hm z
    rw [k i j n.2.2.2.2.1 (nv_mv hm q0 q6 z)]
    exact e1 i j n.1 (Or.inr (nv_f3 hm q0 q6 z))
  · have z' : BO i := z
    have z2 := z'
    unfold BO at z2
    rw [k i j (by omega) (by unfold MV; omega)]
    exact e1 i j (by omega) (Or.inl z')
theorem kb_99 (hr : RI r) (hc : 0 ≤ g 52 2) : Ce sc (d + 4) 99 [(2, 0), (0, l1), (0, l2)] g r (fun _ g1 r1 => r1 = r ∧ (∀ i j, i ≠ 52 → i ≠ 53 → i ≠ 54 → (BO i ∨ F3 i) → g1 i j = g i j)) := u_99 hr hc (fun _ => ⟨rfl, fun i j a b c _ => by rw [up_i a, up_i c, up_i b]⟩) (fun _ g' e => ⟨rfl, fun i j _ _ _ h => e i (h.elim Or.inr Or.inl) j⟩)
theorem kb_223 (hr : RI r) (hi : MI g) : Ce sc (d + 2) 223 [(2, 165), (0, l1), (0, l2)] g r (fun _ g1 r1 => r1 = r ∧ (∀ i j, i ≠ 209 → i ≠ 210 → i ≠ 165 → MV i j → g1 i j = g i j)) := w_223 hr hi (fun _ => ⟨rfl, fun i j a b c _ => by rw [up_i c, up_i b, up_i a]⟩) (fun _ g' e => ⟨rfl, fun i j _ _ _ h => e.1 i j h⟩)
theorem tt_99 (hJ : J5 g r) {A1 A2 : Int} (D : Nat) : Ce sc (D + 4) 99 [(2, 0), (0, A1), (0, A2)] g r (fun v1 g1 r1 => Ce sc (D + 4) 223 [(2, 165), (0, A1), (0, A2)] g1 r1 fun v2 g2 r2 => v1 = v2 ∧ J5 g2 r2) := by
  have hj := hJ.1.1.1.1
  have hr := hj.1
  refine Ce_mono (Ce_and (rr_99 hJ.1 D) (kb_99 hr hj.2.1.2.2.1.1)) (fun v1 g1 r1 w => ?_)
  obtain ⟨hce, rfl, e1⟩ := w
  have m1 : MI g1 := hj.2.2.2.1.hi (fun i j h => e1 i j (by omega) (by omega) (by omega) (Or.inr (fp_f3 (Or.inl h))))
  refine Ce_mono (Ce_and hce (kb_223 (d := D + 2) hr m1)) (fun v2 g2 r2 u => ?_)
  obtain ⟨⟨ev, j⟩, e2, k⟩ := u
  subst e2
  refine ⟨ev, j, hJ.2.nv hr (fun q q0 q6 i j z => ?_) (fun i j z => ?_)⟩
  · have hm := hr.2.1 q q0 q6
    have n := nv_5 hm z
    rw [k i j n.2.2.2.2.2.1 n.2.2.2.2.2.2.1 n.2.2.2.2.2.2.2 (nv_mv hm q0 q6 z)]
    exact e1 i j n.2.1 n.2.2.1 n.2.2.2.1 (Or.inr (nv_f3 hm q0 q6 z))
  · have z' : BO i := z
    have z2 := z'
    unfold BO at z2
    rw [k i j (by omega) (by omega) (by omega) (by unfold MV; omega)]
    exact e1 i j (by omega) (by omega) (by omega) (Or.inl z')
theorem tt_68 (hJ : J5 g r) (D : Nat) : Ce sc (D + 1) 68 [(2, 0)] g r (fun v1 g1 r1 => Ce sc (D + 1) 160 [(2, 165)] g1 r1 fun v2 g2 r2 => v1 = v2 ∧ J5 g2 r2) := by
  have hr := hJ.1.1.1.1.1
  refine c_68 ⟨okd (by decide +kernel), ?_⟩
  rw [r_0_0 hr]
  exact ⟨okd (by decide +kernel), c_160 ⟨okd (by decide +kernel), hJ.1.1.1.2.2, hJ⟩⟩
end J5S
