/-! the model's work and yield as pure numbers -/
def sumR (W : Int → Int) (p : Int) (c : Int → Int) : Nat → Int → Int → Int → Int
  | 0, acc, _, _ => acc
  | n + 1, acc, had, k => sumR W p c n (wL (acc + (wL ((if helE W p (plcE W k) < had then helE W p (plcE W k) else had) * c k)))) (if helE W p (plcE W k) < had then helE W p (plcE W k) else had) (k + 1)
def drC (W : Int → Int) (k : Int) : Int := wr (cosV (plcE W k) - cosD W k)
def siC (W : Int → Int) (k : Int) : Int := sinV (plcE W k)
def sumE (W : Int → Int) (f p : Int) (c : Int → Int) : Int := sumR W p c (plsE W).toNat 0 (getE W f p) 0
def drpE (W : Int → Int) (f p : Int) : Int := wL ((wL (sumE W f p (drC W) * W 1)).tdiv 2)
def pshE (W : Int → Int) (f p : Int) : Int := wL ((wL (sumE W f p (siC W) * W 1)).tdiv 2000)
/-- the whole root -/
def rtF (v : Int) : Nat → Int → Int
  | 0, s => s
  | n + 1, s => if v < (s + 1) * (s + 1) then s else rtF v n (s + 1)
def rtE (v : Int) : Int := rtF v 2200 0
def rimE (W : Int → Int) (p : Int) : Int := wr ((wr ((wr (3 * W 1)) * p)).tdiv 10)
def hwE (W : Int → Int) (f p hd : Int) : Int := if W 0 = 0 then (if rimE W p < rtE (19200 * hd) then wL ((wL ((wL (f * (wr (rtE (19200 * hd) - rimE W p)))) * rimE W p)).tdiv 2880) else 0) else wL ((wL ((wL ((wL (drpE W f p * 6)) * p)) * W 3)).tdiv 1000)
def hyX (W : Int → Int) (f p hd b : Int) : Int := wL ((wL (hwE W f p hd - (wL ((wL (6 * p)) * W 10)))) - (wL ((wL ((wL ((wL ((wL (6 * p)) * W 2)) * b)) * b)).tdiv 10)))
def hyE (W : Int → Int) (f p hd b : Int) : Int := if hyX W f p hd b < 0 then 0 else hyX W f p hd b
section WHN
variable {sc : SCR} {d : Nat} {Q : QJ} {g r : GH} {l0 l1 l2 l3 l4 l5 : Int}
theorem f_172 (hr : RI r) (k0 : 0 ≤ l1) (k6 : l1 ≤ 6) (h : WBd (MWh g l1)) (f0 : 0 ≤ l2) (f1 : l2 ≤ 99999) (p0 : 1 ≤ l3) (p1 : l3 ≤ 300) (a0 : 0 ≤ l4) (a1 : l4 ≤ 50) (hq : Q (hasE (MWh g l1) l2 l3 l4) g r) : Ce sc (d + 3) 172 [(2, 165), (0, l1), (0, l2), (0, l3), (0, l4)] g r Q := by
  have k9 : okr 218 165 9 := okd (by decide +kernel)
  have loop : ∀ (n : Nat) (k had : Int), 0 ≤ k → k + n = l4 + 1 → hasR (MWh g l1) l3 n had k = hasE (MWh g l1) l2 l3 l4 → WQ sc (d + 2) 172 Q 12 [(2, 165), (0, l1), (9, 0), (0, l3), (0, l4), (0, had), (0, k), (9, 0)] [] g r := by
    intro n
    induction n with
    | zero =>
      intro k had c0 e es
      have es' : had = hasE (MWh g l1) l2 l3 l4 := es
      exact b_172_12 (ite_c (fun _ => by rw [es']; exact hq) (fun q => absurd (by omega) q))
    | succ n ih =>
      intro k had c0 e es
      have es' : hasR (MWh g l1) l3 n (if helE (MWh g l1) l3 (plcE (MWh g l1) k) < had then helE (MWh g l1) l3 (plcE (MWh g l1) k) else had) (k + 1) = hasE (MWh g l1) l2 l3 l4 := es
      have pb := plc_e h c0 (by omega)
      refine b_172_12 (ite_c (fun q => absurd q (by omega)) (fun _ => ⟨k9, f_170 hr k0 k6 h c0 (by omega) ⟨k9, f_169 hr k0 k6 h p0 p1 pb.2.1 (by omega) ?_⟩⟩))
      rw [wr_id (x := k + 1) ⟨by omega, by omega⟩]
      refine ite_c (fun q => ?_) (fun q => ?_)
      · rw [if_pos q] at es'
        exact ih _ _ (by omega) (by omega) es'
      · rw [if_neg q] at es'
        exact ih _ _ (by omega) (by omega) es'
  exact c_172 ⟨k9, f_167 hr k0 k6 h f0 f1 p0 p1 (loop (l4 + 1).toNat 0 _ (by decide) (by omega) rfl)⟩
theorem f_173 (hr : RI r) (k0 : 0 ≤ l1) (k6 : l1 ≤ 6) (h : WBd (MWh g l1)) (f0 : 0 ≤ l2) (f1 : l2 ≤ 99999) (p0 : 1 ≤ l3) (p1 : l3 ≤ 300) (hq : Q (sumE (MWh g l1) l2 l3 (if l4 = 0 then drC (MWh g l1) else siC (MWh g l1))) g r) : Ce sc (d + 3) 173 [(2, 165), (0, l1), (0, l2), (0, l3), (0, l4)] g r Q := by
  have k9 : okr 218 165 9 := okd (by decide +kernel)
  have P := pls_b h
  have loop : ∀ (n : Nat) (k acc had : Int), 0 ≤ k → k + n = plsE (MWh g l1) → sumR (MWh g l1) l3 (if l4 = 0 then drC (MWh g l1) else siC (MWh g l1)) n acc had k = sumE (MWh g l1) l2 l3 (if l4 = 0 then drC (MWh g l1) else siC (MWh g l1)) → WQ sc (d + 2) 173 Q 22 [(2, 165), (0, l1), (9, 0), (0, l3), (0, l4), (1, acc), (8, 0), (0, plsE (MWh g l1)), (0, had), (0, k), (9, 0), (9, 0)] [] g r := by
    intro n
    induction n with
    | zero =>
      intro k acc had c0 e es
      have es' : acc = sumE (MWh g l1) l2 l3 (if l4 = 0 then drC (MWh g l1) else siC (MWh g l1)) := es
      exact b_173_22 (ite_c (fun q => absurd q (by omega)) (fun _ => by rw [es']; exact hq))
    | succ n ih =>
      intro k acc had c0 e es
      have pb := plc_e h c0 (by omega)
      have p180 := P.2.2.1 k c0 (by omega)
      have w1 : wr (k + 1) = k + 1 := wr_id ⟨by omega, by omega⟩
      have fin : ∀ t0, t0 = (if helE (MWh g l1) l3 (plcE (MWh g l1) k) < had then helE (MWh g l1) l3 (plcE (MWh g l1) k) else had) → WQ sc (d + 2) 173 Q 62 [(2, 165), (0, l1), (9, 0), (0, l3), (0, l4), (1, acc), (8, 0), (0, plsE (MWh g l1)), (9, 0), (0, k), (0, plcE (MWh g l1) k), (9, 0)] [(0, t0)] g r := fun t0 et => by
        have es' : sumR (MWh g l1) l3 (if l4 = 0 then drC (MWh g l1) else siC (MWh g l1)) n (wL (acc + (wL (t0 * (if l4 = 0 then drC (MWh g l1) else siC (MWh g l1)) k)))) t0 (k + 1) = sumE (MWh g l1) l2 l3 (if l4 = 0 then drC (MWh g l1) else siC (MWh g l1)) := by rw [et]; exact es
        have nx := fun acc' ea => ih (k + 1) acc' t0 (by omega) (by omega) ((congrArg (fun x => sumR (MWh g l1) l3 (if l4 = 0 then drC (MWh g l1) else siC (MWh g l1)) n x t0 (k + 1)) ea).trans es')
        refine b_173_62 ?_
        rw [w1]
        refine ite_c (fun z => w_162 (by omega) (by omega) (ite_c (fun y => ⟨k9, f_170 hr k0 k6 h (by omega) (by omega) ?_⟩) (fun y => w_162 (by decide) (by decide) ?_))) (fun z => w_161 (by omega) (by omega) ?_)
        · have q180 := P.2.2.1 (k + 1) (by omega) y
          have pb1 := plc_e h (k := k + 1) (by omega) (by omega)
          refine w_162 (by omega) (by omega) (nx _ ?_)
          rw [if_pos z]
          show _ = wL (acc + wL (t0 * wr (cosV (plcE (MWh g l1) k) - cosV (if k + 1 < plsE (MWh g l1) then plcE (MWh g l1) (k + 1) else 180))))
          rw [if_pos y]
        · refine nx _ ?_
          rw [if_pos z]
          show _ = wL (acc + wL (t0 * wr (cosV (plcE (MWh g l1) k) - cosV (if k + 1 < plsE (MWh g l1) then plcE (MWh g l1) (k + 1) else 180))))
          rw [if_neg y]
        · refine nx _ ?_
          rw [if_neg z]
          rfl
      refine b_173_22 (ite_c (fun _ => ⟨k9, f_170 hr k0 k6 h c0 (by omega) ⟨k9, f_169 hr k0 k6 h p0 p1 pb.2.1 (by omega) ?_⟩⟩) (fun q => absurd (by omega) q))
      exact ite_c (fun q => fin _ (if_pos q).symm) (fun q => fin _ (if_neg q).symm)
  exact c_173 ⟨k9, f_171 hr k0 k6 h ⟨k9, f_167 hr k0 k6 h f0 f1 p0 p1 (loop (plsE (MWh g l1)).toNat 0 0 _ (by decide) (by omega) rfl)⟩⟩
theorem f_174 (hr : RI r) (k0 : 0 ≤ l1) (k6 : l1 ≤ 6) (h : WBd (MWh g l1)) (f0 : 0 ≤ l2) (f1 : l2 ≤ 99999) (p0 : 1 ≤ l3) (p1 : l3 ≤ 300) (hq : Q (drpE (MWh g l1) l2 l3) g r) : Ce sc (d + 4) 174 [(2, 165), (0, l1), (0, l2), (0, l3)] g r Q := by
  have k9 : okr 218 165 9 := okd (by decide +kernel)
  refine c_174 ⟨k9, f_173 hr k0 k6 h f0 f1 p0 p1 ⟨k9, ?_⟩⟩
  rw [r_165_3 hr, if_pos rfl]
  exact ⟨i_169.mpr ⟨k0, by omega⟩, by decide, hq⟩
theorem f_175 (v0 : 0 ≤ l0) (v1 : l0 ≤ 4608000) (hq : Q (rtE l0) g r) : Ce sc (d + 1) 175 [(0, l0)] g r Q := by
  have loop : ∀ (n : Nat) (s : Int), 0 ≤ s → s + n = 2200 → rtF l0 n s = rtE l0 → WQ sc d 175 Q 2 [(0, l0), (0, s)] [] g r := by
    intro n
    induction n with
    | zero =>
      intro s s0 e es
      have z : s = 2200 := by omega
      have es' : s = rtE l0 := es
      refine b_175_2 ?_
      rw [z, wr_id (x := (2200 : Int) + 1) ⟨by decide, by decide⟩, wr_id (x := ((2200 : Int) + 1) * (2200 + 1)) ⟨by decide, by decide⟩]
      have er : rtE l0 = 2200 := by omega
      rw [er] at hq
      exact ite_c (fun _ => hq) (fun q => absurd (by omega) q)
    | succ n ih =>
      intro s s0 e es
      have es' : (if l0 < (s + 1) * (s + 1) then s else rtF l0 n (s + 1)) = rtE l0 := es
      have m := mlb (a := s + 1) (b := s + 1) (A := 2200) (B := 2200) (by omega) (by omega) (by omega) (by omega)
      refine b_175_2 ?_
      rw [wr_id (x := s + 1) ⟨by omega, by omega⟩, wr_id (x := (s + 1) * (s + 1)) ⟨by omega, by omega⟩]
      refine ite_c (fun q => ?_) (fun q => ?_)
      · rw [if_pos q] at es'
        rw [es']; exact hq
      · rw [if_neg q] at es'
        exact ih _ (by omega) (by omega) es'
  exact c_175 (loop 2200 0 (by decide) (by decide) rfl)
theorem f_176 (hr : RI r) (k0 : 0 ≤ l1) (k6 : l1 ≤ 6) (h : WBd (MWh g l1)) (f0 : 0 ≤ l2) (f1 : l2 ≤ 99999) (p0 : 1 ≤ l3) (p1 : l3 ≤ 300) (e0 : 0 ≤ l4) (e1 : l4 ≤ 240) (hq : Q (hwE (MWh g l1) l2 l3 l4) g r) : Ce sc (d + 5) 176 [(2, 165), (0, l1), (0, l2), (0, l3), (0, l4)] g r Q := by
  have k9 : okr 218 165 9 := okd (by decide +kernel)
  have g0 : g 168 l1 = MWh g l1 0 := rfl
  have g1 : g 169 l1 = MWh g l1 1 := rfl
  have g3 : g 171 l1 = MWh g l1 3 := rfl
  unfold hwE at hq
  refine c_176 ⟨k9, ?_⟩
  rw [r_165_2 hr, g0, wr_id (x := 19200 * l4) ⟨by omega, by omega⟩]
  refine ⟨Or.inr (i_168.mpr ⟨k0, by omega⟩), ite_c (fun z => f_175 (by omega) (by omega) ⟨k9, ?_⟩) (fun z => ⟨k9, f_174 hr k0 k6 h f0 f1 p0 p1 ⟨k9, ?_⟩⟩)⟩
  · rw [if_pos z] at hq
    rw [r_165_3 hr, g1]
    refine ⟨i_169.mpr ⟨k0, by omega⟩, by decide, ite_c (fun y => ⟨by decide, ?_⟩) (fun y => ?_)⟩
    · have y' : rimE (MWh g l1) l3 < rtE (19200 * l4) := y
      rw [if_pos y'] at hq
      exact hq
    · have y' : ¬ rimE (MWh g l1) l3 < rtE (19200 * l4) := y
      rw [if_neg y'] at hq
      exact hq
  · rw [if_neg z] at hq
    rw [r_165_5 hr, g3]
    exact ⟨i_171.mpr ⟨k0, by omega⟩, by decide, hq⟩
theorem f_177 (hr : RI r) (k0 : 0 ≤ l1) (k6 : l1 ≤ 6) (h : WBd (MWh g l1)) (f0 : 0 ≤ l2) (f1 : l2 ≤ 99999) (p0 : 1 ≤ l3) (p1 : l3 ≤ 300) (e0 : 0 ≤ l4) (e1 : l4 ≤ 240) (hq : Q (hyE (MWh g l1) l2 l3 l4 l5) g r) : Ce sc (d + 6) 177 [(2, 165), (0, l1), (0, l2), (0, l3), (0, l4), (0, l5)] g r Q := by
  have k9 : okr 218 165 9 := okd (by decide +kernel)
  have g2 : g 170 l1 = MWh g l1 2 := rfl
  have g10 : g 178 l1 = MWh g l1 10 := rfl
  refine c_177 ⟨k9, f_176 hr k0 k6 h f0 f1 p0 p1 e0 e1 ⟨k9, ?_⟩⟩
  rw [r_165_12 hr, r_165_4 hr, g2, g10]
  unfold hyE at hq
  refine ⟨i_178.mpr ⟨k0, by omega⟩, k9, i_170.mpr ⟨k0, by omega⟩, by decide, ite_c (fun z => ?_) (fun z => ?_)⟩
  · have z' : hyX (MWh g l1) l2 l3 l4 l5 < 0 := cmp_lt.mp z
    rw [if_pos z'] at hq
    exact hq
  · have z' : ¬ hyX (MWh g l1) l2 l3 l4 l5 < 0 := fun y => z (cmp_lt.mpr y)
    rw [if_neg z'] at hq
    exact hq
end WHN
