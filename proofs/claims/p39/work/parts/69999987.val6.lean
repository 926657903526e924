/-! night: the same value on both sides -/
def niF (room c hrs op : Int) : Nat → Int → Int → Int → Int × Int
  | 0, _, pond, thr => (pond, thr)
  | n + 1, h, pond, thr => if h < hrs then niF room c hrs op n (h + 1) (if room < wr (pond + c) then room else wr (pond + c)) thr else if (if room < wr (pond + c) then room else wr (pond + c)) < op then (if room < wr (pond + c) then room else wr (pond + c), thr) else niF room c hrs op n (h + 1) (wr ((if room < wr (pond + c) then room else wr (pond + c)) - op)) (wr (thr + 1))
def niC (f : Int) : Int := wr ((wr (60 * f)).tdiv 100)
def niP (W : Int → Int) (f hrs op : Int) : Int × Int := niF (W 7) (niC f) hrs op 24 0 0 0
def niV (W : Int → Int) (f hrs op a : Int) : Int := if a = 1 then wL ((niP W f hrs op).2 * hyE W (wr ((wr (100 * op)).tdiv 60)) (W 9) 60 0) else if a = 0 then (niP W f hrs op).2 else (niP W f hrs op).1
def NIC (g : GH) (A1 A2 A3 A4 A5 : Int) : Prop := TM g A1 ∧ (0 ≤ A2 ∧ A2 ≤ 99999) ∧ (0 ≤ A3 ∧ A3 ≤ 23) ∧ (1 ≤ A4 ∧ A4 ≤ 999) ∧ 0 ≤ A5 ∧ A5 ≤ 2
theorem ni_f {op : Int} (h : 1 ≤ op ∧ op ≤ 999) : 0 ≤ wr ((wr (100 * op)).tdiv 60) ∧ wr ((wr (100 * op)).tdiv 60) ≤ 99999 := by
  have t := tdb (x := 100 * op) (m := 60) (by omega) (by decide)
  rw [wr_id (x := 100 * op) ⟨by omega, by omega⟩, t.1, wr_id (x := 100 * op / 60) ⟨by omega, by omega⟩]
  omega
section VL10
variable {sc : SCR} {d : Nat} {Q : QJ} {g r : GH} {l0 l1 l2 l3 l4 l5 : Int}
theorem f_233 (hJ : J5 g r) {A1 A2 A3 A4 A5 : Int} (D : Nat) (h1 : NIC g A1 A2 A3 A4 A5 → Q (niV (MWh g A1) A2 A3 A4 A5) g r) (h0 : ¬ NIC g A1 A2 A3 A4 A5 → Q (-1) g r) : Ce sc (D + 8) 233 [(2, 165), (0, A1), (0, A2), (0, A3), (0, A4), (0, A5)] g r Q := by
  have hr := hJ.1.1.1.1.1
  have k9 : okr 218 165 9 := okd (by decide +kernel)
  refine c_233 ⟨k9, w_140 hr (fun t => ?_) (fun z => by rw [if_pos rfl]; exact h0 (fun y => z y.1))⟩
  rw [if_neg (by decide)]
  refine w_178 (fun q1 q2 => ?_) (fun z => by rw [if_pos rfl]; exact h0 (fun y => z y.2.1))
  rw [if_neg (by decide)]
  refine w_137 (fun q3 q4 => ?_) (fun z => by rw [if_pos rfl]; exact h0 (fun y => z y.2.2.1))
  rw [if_neg (by decide)]
  refine w_137 (fun q5 q6 => ?_) (fun z => by rw [if_pos rfl]; exact h0 (fun y => z y.2.2.2.1))
  rw [if_neg (by decide)]
  refine w_137 (fun q7 q8 => ?_) (fun z => by rw [if_pos rfl]; exact h0 (fun y => z y.2.2.2.2))
  rw [if_neg (by decide)]
  have hq := h1 ⟨t, ⟨q1, q2⟩, ⟨q3, q4⟩, ⟨q5, q6⟩, q7, q8⟩
  have wb := (t5_of hJ t).2.2.1
  have t6 := t.2.1
  have i75 : okI 218 175 11 A1 := i_175.mpr ⟨t.1, by omega⟩
  have e7 : g 175 A1 = MWh g A1 7 := rfl
  have e9 : g 177 A1 = MWh g A1 9 := rfl
  have ff := ni_f ⟨q5, q6⟩
  have last : ∀ pond thr, (pond, thr) = niP (MWh g A1) A2 A3 A4 → WQ sc (D + 7) 233 Q 164 [(2, 165), (0, A1), (9, 0), (9, 0), (0, A4), (0, A5), (0, pond), (0, thr), (9, 0), (9, 0)] [] g r := fun pond thr e => by
    unfold niV at hq
    rw [← e] at hq
    refine b_233_164 (ite_c (fun z => ?_) (fun z0 => ite_c (fun z => ?_) (fun z2 => ⟨by decide, k9, ?_⟩)))
    · rw [if_neg (by omega), if_pos z] at hq; exact hq
    · rw [if_neg (by omega), if_neg z0] at hq; exact hq
    · rw [if_pos (by omega)] at hq
      rw [r_165_11 hr, e9]
      exact ⟨i_177.mpr ⟨t.1, by omega⟩, k9, f_177 (d := D + 1) hr t.1 (by omega) wb ff.1 ff.2 wb.2.2.2.2.2.2.1.1 wb.2.2.2.2.2.2.1.2 (by decide) (by decide) hq⟩
  have loop : ∀ (n : Nat) (h pond thr : Int), 0 ≤ h → h + n = 24 → niF (MWh g A1 7) (niC A2) A3 A4 n h pond thr = niP (MWh g A1) A2 A3 A4 → WQ sc (D + 7) 233 Q 69 [(2, 165), (0, A1), (0, A2), (0, A3), (0, A4), (0, A5), (0, pond), (0, thr), (0, 1), (0, h)] [] g r := by
    intro n
    induction n with
    | zero =>
      intro h pond thr hh e es
      exact b_233_69 (ite_c (fun z => absurd z (by omega)) (fun _ => last pond thr es))
    | succ n ih =>
      intro h pond thr hh e es
      have wh : wr (h + 1) = h + 1 := wr_id ⟨by omega, by omega⟩
      have step : ∀ t0, t0 = (if MWh g A1 7 < wr (pond + niC A2) then MWh g A1 7 else wr (pond + niC A2)) → WQ sc (D + 7) 233 Q 115 [(2, 165), (0, A1), (0, A2), (0, A3), (0, A4), (0, A5), (9, 0), (0, thr), (0, 1), (0, h)] [(0, t0)] g r := fun t0 et => by
        have es' : (if h < A3 then niF (MWh g A1 7) (niC A2) A3 A4 n (h + 1) t0 thr else if t0 < A4 then (t0, thr) else niF (MWh g A1 7) (niC A2) A3 A4 n (h + 1) (wr (t0 - A4)) (wr (thr + 1))) = niP (MWh g A1) A2 A3 A4 := by rw [et]; exact es
        refine b_233_115 ?_
        rw [wh]
        refine ite_c (fun z => ?_) (fun z => ite_c (fun y => ?_) (fun y => ?_))
        · rw [if_pos z] at es'
          exact ih _ _ _ (by omega) (by omega) es'
        · rw [if_neg z, if_pos y] at es'
          exact b_233_69 (ite_c (fun _ => by rw [if_pos rfl]; exact last _ _ es') (fun _ => last _ _ es'))
        · rw [if_neg z, if_neg y] at es'
          exact ih _ _ _ (by omega) (by omega) es'
      refine b_233_69 (ite_c (fun _ => ?_) (fun z => absurd (by omega) z))
      rw [if_neg (by decide), r_165_9 hr, e7]
      exact ⟨by decide, k9, i75, ite_c (fun z => ⟨k9, i75, step _ (if_pos z).symm⟩) (fun z => step _ (if_neg z).symm)⟩
  exact loop 24 0 0 0 (by decide) (by decide) rfl
theorem tt_108 (hJ : J5 g r) {A1 A2 A3 A4 A5 : Int} (D : Nat) : Ce sc (D + 8) 108 [(2, 0), (0, A1), (0, A2), (0, A3), (0, A4), (0, A5)] g r (fun v1 g1 r1 => Ce sc (D + 8) 233 [(2, 165), (0, A1), (0, A2), (0, A3), (0, A4), (0, A5)] g1 r1 fun v2 g2 r2 => v1 = v2 ∧ J5 g2 r2) := by
  have hr := hJ.1.1.1.1.1
  have k0 : okr 218 0 8 := okd (by decide +kernel)
  have tt := td_tm hJ.1.1 A1
  have mno : ¬ NIC g A1 A2 A3 A4 A5 → Ce sc (D + 8) 233 [(2, 165), (0, A1), (0, A2), (0, A3), (0, A4), (0, A5)] g r (fun v2 g2 r2 => -1 = v2 ∧ J5 g2 r2) := fun n => f_233 hJ D (fun y => absurd y n) (fun _ => ⟨rfl, hJ⟩)
  refine c_108 ⟨k0, w_129 hr (fun u => ?_) (fun u => by rw [if_pos rfl]; exact mno (fun y => u (tt.mpr y.1)))⟩
  have t := tt.mp u
  have hm := hr.2.1 A1 t.1 t.2.1
  rw [if_neg (mo_ne hm)]
  refine w_124 (fun q1 q2 => ?_) (fun q => by rw [if_pos rfl]; exact mno (fun y => q y.2.1))
  rw [if_neg (by decide)]
  refine w_123 (fun q3 q4 => ?_) (fun q => by rw [if_pos rfl]; exact mno (fun y => q y.2.2.1))
  rw [if_neg (by decide)]
  refine w_123 (fun q5 q6 => ?_) (fun q => by rw [if_pos rfl]; exact mno (fun y => q y.2.2.2.1))
  rw [if_neg (by decide)]
  refine w_123 (fun q7 q8 => ?_) (fun q => by rw [if_pos rfl]; exact mno (fun y => q y.2.2.2.2))
  rw [if_neg (by decide)]
  have ni : NIC g A1 A2 A3 A4 A5 := ⟨t, ⟨q1, q2⟩, ⟨q3, q4⟩, ⟨q5, q6⟩, q7, q8⟩
  obtain ⟨hx, wh, wb, b3⟩ := t5_of hJ t
  have F := tk_f hJ.1.1 t
  have e7 : g (r 6 A1) 2 = MWh g A1 7 := F.2.2.2.2.2.2.2.1.trans rfl
  have ff := ni_f ⟨q5, q6⟩
  have last : ∀ pond thr, (pond, thr) = niP (MWh g A1) A2 A3 A4 → WQ sc (D + 7) 108 (fun v1 g1 r1 => Ce sc (D + 8) 233 [(2, 165), (0, A1), (0, A2), (0, A3), (0, A4), (0, A5)] g1 r1 fun v2 g2 r2 => v1 = v2 ∧ J5 g2 r2) 151 [(9, 0), (9, 0), (9, 0), (9, 0), (0, A4), (0, A5), (2, r 6 A1), (9, 0), (0, pond), (0, thr), (9, 0)] [] g r := fun pond thr e => by
    refine b_108_151 (ite_c (fun z => ⟨mo_ok hm, by decide, ?_⟩) (fun z1 => ite_c (fun z => ?_) (fun z0 => ?_)))
    · rw [mo_1 hr hm]
      refine ⟨hx.1, f_63 (d := D + 1) hx wh b3 wb ff.1 ff.2 (fun g1 bu b31 => ?_)⟩
      have j1 := hJ.bu t bu b31
      have eV := mwh_bu hJ t bu A1
      have t1 : TM g1 A1 := (tm_bu hJ t bu A1).mpr t
      refine f_233 j1 D (fun _ => ⟨?_, j1⟩) (fun n => absurd ⟨t1, ni.2⟩ n)
      rw [eV]
      unfold niV
      rw [if_pos z, ← e]
    · refine f_233 hJ D (fun _ => ⟨?_, hJ⟩) (fun n => absurd ni n)
      unfold niV
      rw [if_neg z1, if_pos z, ← e]
    · refine f_233 hJ D (fun _ => ⟨?_, hJ⟩) (fun n => absurd ni n)
      unfold niV
      rw [if_neg z1, if_neg z0, ← e]
  have two : ∀ (n : Nat) (h pond thr : Int), A3 ≤ h → h + n = 24 → niF (MWh g A1 7) (niC A2) A3 A4 n h pond thr = niP (MWh g A1) A2 A3 A4 → WQ sc (D + 7) 108 (fun v1 g1 r1 => Ce sc (D + 8) 233 [(2, 165), (0, A1), (0, A2), (0, A3), (0, A4), (0, A5)] g1 r1 fun v2 g2 r2 => v1 = v2 ∧ J5 g2 r2) 103 [(9, 0), (9, 0), (9, 0), (9, 0), (0, A4), (0, A5), (2, r 6 A1), (0, niC A2), (0, pond), (0, thr), (0, h)] [] g r := by
    intro n
    induction n with
    | zero =>
      intro h pond thr hh e es
      exact b_108_103 (ite_c (fun z => absurd z (by omega)) (fun _ => last pond thr es))
    | succ n ih =>
      intro h pond thr hh e es
      have wh : wr (h + 1) = h + 1 := wr_id ⟨by omega, by omega⟩
      have step : ∀ t0, t0 = (if MWh g A1 7 < wr (pond + niC A2) then MWh g A1 7 else wr (pond + niC A2)) → (if t0 < A4 then WQ sc (D + 7) 108 (fun v1 g1 r1 => Ce sc (D + 8) 233 [(2, 165), (0, A1), (0, A2), (0, A3), (0, A4), (0, A5)] g1 r1 fun v2 g2 r2 => v1 = v2 ∧ J5 g2 r2) 151 [(9, 0), (9, 0), (9, 0), (9, 0), (0, A4), (0, A5), (2, r 6 A1), (9, 0), (0, t0), (0, thr), (9, 0)] [] g r else WQ sc (D + 7) 108 (fun v1 g1 r1 => Ce sc (D + 8) 233 [(2, 165), (0, A1), (0, A2), (0, A3), (0, A4), (0, A5)] g1 r1 fun v2 g2 r2 => v1 = v2 ∧ J5 g2 r2) 103 [(9, 0), (9, 0), (9, 0), (9, 0), (0, A4), (0, A5), (2, r 6 A1), (0, niC A2), (0, wr (t0 - A4)), (0, wr (thr + 1)), (0, h + 1)] [] g r) := fun t0 et => by
        have es' : (if h < A3 then niF (MWh g A1 7) (niC A2) A3 A4 n (h + 1) t0 thr else if t0 < A4 then (t0, thr) else niF (MWh g A1 7) (niC A2) A3 A4 n (h + 1) (wr (t0 - A4)) (wr (thr + 1))) = niP (MWh g A1) A2 A3 A4 := by rw [et]; exact es
        rw [if_neg (by omega)] at es'
        refine ite_c (fun y => ?_) (fun y => ?_)
        · rw [if_pos y] at es'
          exact last _ _ es'
        · rw [if_neg y] at es'
          exact ih _ _ _ (by omega) (by omega) es'
      refine b_108_103 (ite_c (fun _ => ⟨mo_ok hm, ?_⟩) (fun z => absurd (by omega) z))
      rw [e7, wh]
      refine w_250 (fun q => step _ ?_) (fun q => step _ ?_)
      · by_cases z : MWh g A1 7 < wr (pond + niC A2)
        · rw [if_pos z]
        · rw [if_neg z]; omega
      · rw [if_neg (by omega)]
  have one : ∀ (n : Nat) (h pond : Int), 0 ≤ h → h ≤ A3 → h + n = 24 → niF (MWh g A1 7) (niC A2) A3 A4 n h pond 0 = niP (MWh g A1) A2 A3 A4 → WQ sc (D + 7) 108 (fun v1 g1 r1 => Ce sc (D + 8) 233 [(2, 165), (0, A1), (0, A2), (0, A3), (0, A4), (0, A5)] g1 r1 fun v2 g2 r2 => v1 = v2 ∧ J5 g2 r2) 70 [(9, 0), (9, 0), (9, 0), (0, A3), (0, A4), (0, A5), (2, r 6 A1), (0, niC A2), (0, pond), (0, h), (9, 0)] [] g r := by
    intro n
    induction n with
    | zero => intro h pond h0 hh e es; omega
    | succ n ih =>
      intro h pond h0 hh e es
      have wh : wr (h + 1) = h + 1 := wr_id ⟨by omega, by omega⟩
      refine b_108_70 (ite_c (fun z => ⟨mo_ok hm, ?_⟩) (fun z => ?_))
      · have step : ∀ t0, t0 = (if MWh g A1 7 < wr (pond + niC A2) then MWh g A1 7 else wr (pond + niC A2)) → WQ sc (D + 7) 108 (fun v1 g1 r1 => Ce sc (D + 8) 233 [(2, 165), (0, A1), (0, A2), (0, A3), (0, A4), (0, A5)] g1 r1 fun v2 g2 r2 => v1 = v2 ∧ J5 g2 r2) 70 [(9, 0), (9, 0), (9, 0), (0, A3), (0, A4), (0, A5), (2, r 6 A1), (0, niC A2), (0, t0), (0, h + 1), (9, 0)] [] g r := fun t0 et => by
          have es' : (if h < A3 then niF (MWh g A1 7) (niC A2) A3 A4 n (h + 1) t0 0 else if t0 < A4 then (t0, 0) else niF (MWh g A1 7) (niC A2) A3 A4 n (h + 1) (wr (t0 - A4)) (wr (0 + 1))) = niP (MWh g A1) A2 A3 A4 := by rw [et]; exact es
          rw [if_pos z] at es'
          exact ih _ _ (by omega) (by omega) (by omega) es'
        rw [e7, wh]
        refine w_250 (fun q => step _ ?_) (fun q => step _ ?_)
        · by_cases y : MWh g A1 7 < wr (pond + niC A2)
          · rw [if_pos y]
          · rw [if_neg y]; omega
        · rw [if_neg (by omega)]
      · have eh : h = A3 := by omega
        rw [eh] at e es
        exact two (n + 1) A3 pond 0 (Int.le_refl _) e es
  exact ⟨by decide, one 24 0 0 (by decide) q3 (by decide) rfl⟩
end VL10
