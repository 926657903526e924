/-! grid: every wheel of the range tried, both sides -/
theorem td_le {a m : Int} (hm : 1000 ≤ m) (h : rL a) : -9300000000000000 ≤ a.tdiv m ∧ a.tdiv m ≤ 9300000000000000 := by
  unfold rL at h
  by_cases z : 0 ≤ a
  · have e : a.tdiv m = a / m := Int.tdiv_eq_ediv_of_nonneg z
    have e1 : a / m ≤ a / 1000 := by
      have q := Int.ediv_mul_le a (show m ≠ 0 by omega)
      have q0 : 0 ≤ a / m := Int.ediv_nonneg z (by omega)
      have q1 : a / m * 1000 ≤ a / m * m := Int.mul_le_mul_of_nonneg_left hm q0
      omega
    have q0 : 0 ≤ a / m := Int.ediv_nonneg z (by omega)
    rw [e]
    omega
  · have e : a.tdiv m = -((-a).tdiv m) := by rw [Int.neg_tdiv, Int.neg_neg]
    have e2 : (-a).tdiv m = -a / m := Int.tdiv_eq_ediv_of_nonneg (by omega)
    have q0 : 0 ≤ -a / m := Int.ediv_nonneg (by omega) (by omega)
    have q := Int.ediv_mul_le (-a) (show m ≠ 0 by omega)
    have q1 : -a / m * 1000 ≤ -a / m * m := Int.mul_le_mul_of_nonneg_left hm q0
    rw [e, e2]
    omega
theorem hy_le {W : Int → Int} {f p : Int} (w0 : ¬ W 0 = 0) (p0 : 1 ≤ p) (p1 : p ≤ 300) (w10 : 0 ≤ W 10 ∧ W 10 ≤ 9999) : hyE W f p 60 0 ≤ 10000000000000000 := by
  have h : hyX W f p 60 0 ≤ 10000000000000000 := by
    unfold hyX hwE
    rw [if_neg w0, Int.mul_zero, wL_0, show (0 : Int).tdiv 10 = 0 by decide, wL_0, Int.sub_zero]
    have b := td_le (m := 1000) (Int.le_refl _) (wL_rng ((wL ((wL (drpE W f p * 6)) * p)) * W 3))
    have c := mlb (a := 6 * p) (b := W 10) (A := 1800) (B := 9999) (by omega) (by omega) w10.1 w10.2
    rw [wL_id (x := 6 * p) ⟨by omega, by omega⟩, wL_id (x := 6 * p * W 10) ⟨by omega, by omega⟩, wL_id (x := (wL ((wL ((wL (drpE W f p * 6)) * p)) * W 3)).tdiv 1000) ⟨by omega, by omega⟩, wL_id (x := (wL ((wL ((wL (drpE W f p * 6)) * p)) * W 3)).tdiv 1000 - 6 * p * W 10) ⟨by omega, by omega⟩, wL_id (x := (wL ((wL ((wL (drpE W f p * 6)) * p)) * W 3)).tdiv 1000 - 6 * p * W 10) ⟨by omega, by omega⟩]
    omega
  unfold hyE
  split
  · decide
  · exact h
/-- the yield of a wheel of size s with m buckets in the place of the mill's -/
def GY (g : GH) (k f s m : Int) : Int := hyE (MWh (wsH (cpH g k) s m) 6) f (MWh g k 9) 60 0
def gdM (Y : Int → Int → Int) : Nat → Int → Int → Int → Int → Int × Int
  | 0, _, _, bs, bm => (bs, bm)
  | n + 1, s, m, bs, bm => if Y bs bm < Y s m then gdM Y n s (m + 4) s m else gdM Y n s (m + 4) bs bm
def gdS (Y : Int → Int → Int) : Nat → Int → Int → Int → Int × Int
  | 0, _, bs, bm => (bs, bm)
  | n + 1, s, bs, bm => gdS Y n (s + 1) (gdM Y 20 s 4 bs bm).1 (gdM Y 20 s 4 bs bm).2
def cnM (Y : Int → Int → Int) (t : Int) : Nat → Int → Int → Int → Int
  | 0, _, _, c => c
  | n + 1, s, m, c => cnM Y t n s (m + 4) (if t < Y s m then c + 1 else c)
def cnS (Y : Int → Int → Int) (t : Int) : Nat → Int → Int → Int
  | 0, _, c => c
  | n + 1, s, c => cnS Y t n (s + 1) (cnM Y t 20 s 4 c)
theorem cnM_b (Y : Int → Int → Int) (t : Int) : ∀ (n : Nat) (s m c : Int), c ≤ cnM Y t n s m c ∧ cnM Y t n s m c ≤ c + n := by
  intro n
  induction n with
  | zero => intro s m c; exact ⟨Int.le_refl _, by show c ≤ c + ((0 : Nat) : Int); omega⟩
  | succ n ih =>
    intro s m c
    have h := ih s (m + 4) (if t < Y s m then c + 1 else c)
    show c ≤ cnM Y t n s (m + 4) (if t < Y s m then c + 1 else c) ∧ cnM Y t n s (m + 4) (if t < Y s m then c + 1 else c) ≤ c + (n + 1 : Nat)
    by_cases z : t < Y s m
    · rw [if_pos z] at h ⊢; omega
    · rw [if_neg z] at h ⊢; omega
section VG8
variable {sc : SCR} {d : Nat} {Q : QJ} {g r : GH} {W : Int → Int} {l0 l1 l2 l3 l4 l5 x y k n : Int}
/-- the wheel tried -/
theorem ws_v (g : GH) (k s m : Int) : MWh (wsH (cpH g k) s m) 6 0 = 1 ∧ MWh (wsH (cpH g k) s m) 6 1 = s ∧ MWh (wsH (cpH g k) s m) 6 3 = m ∧ ∀ j, j ≠ 0 → j ≠ 1 → j ≠ 3 → 0 ≤ j → j ≤ 10 → MWh (wsH (cpH g k) s m) 6 j = MWh g k j := by
  refine ⟨?_, ?_, ?_, fun j a b c e f => ?_⟩
  · show up (up (up (cpH g k) 169 6 s) 171 6 m) 168 6 1 168 6 = 1
    rw [up_s]
  · show up (up (up (cpH g k) 169 6 s) 171 6 m) 168 6 1 169 6 = s
    rw [up_i (by decide), up_i (by decide), up_s]
  · show up (up (up (cpH g k) 169 6 s) 171 6 m) 168 6 1 171 6 = m
    rw [up_i (by decide), up_s]
  · rw [← mwh_cp g k e f, mwh_v e (by omega), mwh_v e (by omega)]
    unfold wsH
    rw [up_i (by omega), up_i (by omega), up_i (by omega)]
theorem ws_b {s m : Int} (wb : WBd (MWh g k)) (s0 : 2 ≤ s) (s4 : s ≤ 40) (m0 : 4 ≤ m) (m8 : m ≤ 80) : WBd (MWh (wsH (cpH g k) s m) 6) := by
  obtain ⟨_, v1, v3, v⟩ := ws_v g k s m
  obtain ⟨b1, b2, b3, b4, b5, b6, b9, b10⟩ := wb
  unfold WBd
  rw [v1, v3, v 2 (by decide) (by decide) (by decide) (by decide) (by decide), v 4 (by decide) (by decide) (by decide) (by decide) (by decide), v 5 (by decide) (by decide) (by decide) (by decide) (by decide), v 6 (by decide) (by decide) (by decide) (by decide) (by decide), v 9 (by decide) (by decide) (by decide) (by decide) (by decide), v 10 (by decide) (by decide) (by decide) (by decide) (by decide)]
  exact ⟨⟨s0, s4⟩, b2, ⟨m0, m8⟩, b4, b5, b6, b9, b10⟩
theorem gy_b {f s m : Int} (wb : WBd (MWh g k)) : 0 ≤ GY g k f s m ∧ GY g k f s m ≤ 10000000000000000 := by
  obtain ⟨v0, _, _, v⟩ := ws_v g k s m
  have b9 := wb.2.2.2.2.2.2.1
  have b10 := wb.2.2.2.2.2.2.2
  exact ⟨hy_b, hy_le (by rw [v0]; decide) b9.1 b9.2 (by rw [v 10 (by decide) (by decide) (by decide) (by decide) (by decide)]; exact b10)⟩
theorem f_189 (hr : RI r) (hV : WBd (MWh (wsH g l1 l2) 6)) (f0 : 0 ≤ l3) (f1 : l3 ≤ 99999) (hq : Q (hyE (MWh (wsH g l1 l2) 6) l3 (MWh (wsH g l1 l2) 6 9) 60 0) (wsH g l1 l2) r) : Ce sc (d + 7) 189 [(2, 165), (0, l1), (0, l2), (0, l3)] g r Q := by
  have k9 : okr 218 165 9 := okd (by decide +kernel)
  refine c_189 ⟨k9, ?_⟩
  rw [r_165_2 hr, r_165_3 hr, r_165_5 hr, r_165_11 hr]
  refine ⟨i_169.mpr ⟨by decide, by decide⟩, fun g1 e1 => ⟨k9, i_171.mpr ⟨by decide, by decide⟩, fun g2 e2 => ⟨k9, Or.inr ⟨i_168.mpr ⟨by decide, by decide⟩, Or.inr rfl⟩, fun g3 e3 => ⟨k9, i_177.mpr ⟨by decide, by decide⟩, k9, ?_⟩⟩⟩⟩
  have e : g3 = wsH g l1 l2 := by
    unfold wsH
    rw [e3, e2, e1]
  rw [e]
  have e9 : wsH g l1 l2 177 6 = MWh (wsH g l1 l2) 6 9 := rfl
  rw [e9]
  have p := hV.2.2.2.2.2.2.1
  exact f_177 (d := d) hr (by decide) (by decide) hV f0 f1 p.1 p.2 (by decide) (by decide) hq
/-- the seventh mill but for what is set anew each time -/
def HX (g : GH) (k : Int) (h : GH) : Prop := ∀ j, 0 ≤ j → j ≤ 12 → j ≠ 0 → j ≠ 1 → j ≠ 3 → h (168 + j) 6 = cpH g k (168 + j) 6
theorem HX.e {h : GH} {s m : Int} (H : HX g k h) : MWh (wsH h s m) 6 = MWh (wsH (cpH g k) s m) 6 := mwh_e (fun j j0 j1 => by
  unfold wsH
  by_cases y0 : (168 : Int) + j = 168
  · rw [y0, up_s, up_s]
  · rw [up_i y0, up_i y0]
    by_cases y3 : (168 : Int) + j = 171
    · rw [y3, up_s, up_s]
    · rw [up_i y3, up_i y3]
      by_cases y1 : (168 : Int) + j = 169
      · rw [y1, up_s, up_s]
      · rw [up_i y1, up_i y1]
        exact H j j0 j1 (by omega) (by omega) (by omega))
theorem HX.s {h : GH} {s m : Int} (H : HX g k h) : HX g k (wsH h s m) := fun j j0 j1 a b c => by
  unfold wsH
  rw [up_i (by omega), up_i (by omega), up_i (by omega)]
  exact H j j0 j1 a b c
/-- one wheel tried, the reference -/
theorem m_cell {h : GH} {f s m : Int} (hr : RI r) (wb : WBd (MWh g k)) (H : HX g k h) (s0 : 2 ≤ s) (s4 : s ≤ 40) (m0 : 4 ≤ m) (m8 : m ≤ 80) (f0 : 0 ≤ f) (f1 : f ≤ 99999) (hq : ∀ h', HX g k h' → Q (GY g k f s m) h' r) : Ce sc (d + 7) 189 [(2, 165), (0, s), (0, m), (0, f)] h r Q := by
  have e := H.e (s := s) (m := m)
  refine f_189 hr (by rw [e]; exact ws_b wb s0 s4 m0 m8) f0 f1 ?_
  rw [e, (ws_v g k s m).2.2.2 9 (by decide) (by decide) (by decide) (by decide) (by decide)]
  exact hq _ H.s
/-- one wheel tried, the class -/
theorem c_cell {g1 : GH} {s m y : Int} (hr : RI r) (wb : WBd (MWh g k)) (ky : okr 218 y 7) (hy : y < 18 ∨ 22 < y) (wy : WHR g1 y (MWh g k)) (s0 : 2 ≤ s) (s4 : s ≤ 40) (m0 : 4 ≤ m) (m8 : m ≤ 80) (hq : ∀ g', SX g1 g' → WHR g' 18 (MWh (wsH (cpH g k) s m) 6) → BK3 g' 18 (MWh (wsH (cpH g k) s m) 6) → Q 0 g' r) : Ce sc (d + 5) 56 [(2, 18), (2, y), (0, s), (0, m)] g1 r Q := by
  obtain ⟨v0, v1, v3, v⟩ := ws_v g k s m
  exact f_56 hr ky hy wy _ v0 v1 (v 2 (by decide) (by decide) (by decide) (by decide) (by decide)) v3 (v 4 (by decide) (by decide) (by decide) (by decide) (by decide)) (v 5 (by decide) (by decide) (by decide) (by decide) (by decide)) (v 6 (by decide) (by decide) (by decide) (by decide) (by decide)) (v 9 (by decide) (by decide) (by decide) (by decide) (by decide)) (v 10 (by decide) (by decide) (by decide) (by decide) (by decide)) (ws_b wb s0 s4 m0 m8) hq
theorem c_run {g1 : GH} {f s m : Int} (hr : RI r) (wb : WBd (MWh g k)) (wh : WHR g1 18 (MWh (wsH (cpH g k) s m) 6)) (b3 : BK3 g1 18 (MWh (wsH (cpH g k) s m) 6)) (s0 : 2 ≤ s) (s4 : s ≤ 40) (m0 : 4 ≤ m) (m8 : m ≤ 80) (f0 : 0 ≤ f) (f1 : f ≤ 99999) (hq : ∀ g', BUX 18 g1 g' → BK3 g' 18 (MWh (wsH (cpH g k) s m) 6) → Q (GY g k f s m) g' r) : Ce sc (d + 6) 63 [(2, 18), (0, f)] g1 r Q := by
  refine f_63 (wxo_18 hr) wh b3 (ws_b wb s0 s4 m0 m8) f0 f1 (fun g' u b => ?_)
  have q := hq g' u b
  unfold GY at q
  rw [← (ws_v g k s m).2.2.2 9 (by decide) (by decide) (by decide) (by decide) (by decide)] at q
  exact q
/-- a pair that asks, by the value that both give, over J5 -/
theorem pv5 {ka kb D E : Nat} {as bs : List AV} (hJ : J5 g r) (W : Int) (v : Ce sc D ka as g r (fun _ g1 r1 => r1 = r ∧ EB r (TM g) (MWh g) g g1)) (cv : Ce sc D ka as g r (fun v1 _ _ => v1 = W)) (mv : ∀ g1, (∀ i j, 165 ≤ i → g1 i j = g i j) → Ce sc E kb bs g1 r (fun v2 _ _ => v2 = W)) (mz : ∀ g1, MI g1 → Ce sc E kb bs g1 r (fun _ g2 r2 => r2 = r ∧ ME g1 g2)) : Ce sc D ka as g r (fun v1 g1 r1 => Ce sc E kb bs g1 r1 fun v2 g2 r2 => v1 = v2 ∧ J5 g2 r2) := by
  refine Ce_mono (Ce_and v cv) (fun v1 g1 r1 w => ?_)
  obtain ⟨⟨er, eb⟩, ev⟩ := w
  have er' := er.symm
  subst er'
  have j1 : J5 g1 r := hJ.eb eb
  refine Ce_mono (Ce_and (mv g1 (fun i j h => eb.1 i (fp_f3 (Or.inl h)) j)) (mz g1 j1.1.1.1.1.2.2.2.1)) (fun v2 g2 r2 u => ?_)
  obtain ⟨ev2, er2, me⟩ := u
  subst er2
  exact ⟨ev.trans ev2.symm, j1.me me⟩
/-- the value of a grid -/
def GVy (Y1 Y2 : Int → Int → Int) (a b w : Int) : Int := if w = 0 then (gdS (fun s m => Y1 s m + Y2 s m) (b + 1 - a).toNat a a 4).1 else if w = 1 then (gdS (fun s m => Y1 s m + Y2 s m) (b + 1 - a).toNat a a 4).2 else cnS Y1 (Y1 (gdS (fun s m => Y1 s m + Y2 s m) (b + 1 - a).toNat a a 4).1 (gdS (fun s m => Y1 s m + Y2 s m) (b + 1 - a).toNat a a 4).2) (b + 1 - a).toNat a 0
def GV (g : GH) (k f1 f2 a b w : Int) : Int := GVy (GY g k f1) (GY g k f2) a b w
theorem gdM_b {Y : Int → Int → Int} {a b : Int} : ∀ (n : Nat) (s m bs bm : Int), a ≤ s → s ≤ b → 4 ≤ m → m + 4 * n ≤ 84 → (a ≤ bs ∧ bs ≤ b ∧ 4 ≤ bm ∧ bm ≤ 80) → (a ≤ (gdM Y n s m bs bm).1 ∧ (gdM Y n s m bs bm).1 ≤ b ∧ 4 ≤ (gdM Y n s m bs bm).2 ∧ (gdM Y n s m bs bm).2 ≤ 80) := by
  intro n
  induction n with
  | zero => intro s m bs bm _ _ _ _ h; exact h
  | succ n ih =>
    intro s m bs bm s0 s1 m0 m1 h
    show a ≤ (if Y bs bm < Y s m then gdM Y n s (m + 4) s m else gdM Y n s (m + 4) bs bm).1 ∧ (if Y bs bm < Y s m then gdM Y n s (m + 4) s m else gdM Y n s (m + 4) bs bm).1 ≤ b ∧ 4 ≤ (if Y bs bm < Y s m then gdM Y n s (m + 4) s m else gdM Y n s (m + 4) bs bm).2 ∧ (if Y bs bm < Y s m then gdM Y n s (m + 4) s m else gdM Y n s (m + 4) bs bm).2 ≤ 80
    by_cases z : Y bs bm < Y s m
    · rw [if_pos z]; exact ih s (m + 4) s m s0 s1 (by omega) (by omega) ⟨s0, s1, by omega, by omega⟩
    · rw [if_neg z]; exact ih s (m + 4) bs bm s0 s1 (by omega) (by omega) h
/-- the class's loops over the range -/
theorem f_77y {Y1 Y2 : Int → Int → Int} {F1 F2 : Int} (hJ : J5 g r) (t : TM g l1) (a2 : 2 ≤ l2) (a3 : l3 ≤ 40) (a23 : l2 ≤ l3) (a5 : 0 ≤ l5 ∧ l5 ≤ 2) (fb : (0 ≤ F1 ∧ F1 ≤ 99999) ∧ 0 ≤ F2 ∧ F2 ≤ 99999) (hY1 : GY g l1 F1 = Y1) (hY2 : GY g l1 F2 = Y2) (hq : ∀ g', Q (GVy Y1 Y2 l2 l3 l5) g' r) : WQ sc (d + 7) 77 Q 91 [(2, 0), (9, 0), (0, l2), (0, l3), (9, 0), (0, l5), (2, r 6 l1), (0, F1), (0, F2), (0, l2), (0, 4), (1, 0), (8, 0), (1, -1), (8, 0), (0, l2), (9, 0), (9, 0), (9, 0), (9, 0), (9, 0)] [] g r := by
  have hr := hJ.1.1.1.1.1
  have k0 : okr 218 0 8 := okd (by decide +kernel)
  have kx : okr 218 18 7 := okd (by decide +kernel)
  have hm := hr.2.1 l1 t.1 t.2.1
  obtain ⟨hx, wh, wb, b3⟩ := t5_of hJ t
  have yb : (r 6 l1 + 1 < 18 ∨ 22 < r 6 l1 + 1) := by unfold MO at hm; omega
  have whs : ∀ g1, SX g g1 → WHR g1 (r 6 l1 + 1) (MWh g l1) := fun g1 sx => by
    unfold WHR at wh ⊢
    have s : ∀ j, g1 (r 6 l1 + 1) j = g (r 6 l1 + 1) j := fun j => sx _ j (by omega)
    rw [s 0, s 1, s 2, s 3, s 4, s 5, s 6, s 7, s 8]
    exact wh
  have y1b : ∀ s m, 0 ≤ Y1 s m ∧ Y1 s m ≤ 10000000000000000 := fun s m => by
    rw [← hY1]; exact gy_b wb
  have y2b : ∀ s m, 0 ≤ Y2 s m ∧ Y2 s m ≤ 10000000000000000 := fun s m => by
    rw [← hY2]; exact gy_b wb
  have N : ((l3 + 1 - l2).toNat : Int) = l3 + 1 - l2 := Int.toNat_of_nonneg (by omega)
  -- counting
  have count : ∀ (b1 : Int) (Q : QJ), (∀ g', Q (cnS Y1 b1 (l3 + 1 - l2).toNat l2 0) g' r) → ∀ g1, SX g g1 → Ce sc (d + 7) 78 [(2, 0), (2, r 6 l1 + 1), (0, l2), (0, l3), (0, F1), (1, b1)] g1 r Q := by
    intro b1 Q hq g1 sx1
    have outer : ∀ (n : Nat) (s c : Int) (g2 : GH), l2 ≤ s → s + n = l3 + 1 → 0 ≤ c → c + 20 * n ≤ 10000 → SX g g2 → cnS Y1 b1 n s c = cnS Y1 b1 (l3 + 1 - l2).toNat l2 0 → WQ sc (d + 6) 78 Q 6 [(2, 0), (2, r 6 l1 + 1), (9, 0), (0, l3), (0, F1), (1, b1), (8, 0), (0, c), (0, s), (9, 0)] [] g2 r := by
      intro n
      induction n with
      | zero =>
        intro s c g2 s0 e c0 c9 sx es
        have es' : c = cnS Y1 b1 (l3 + 1 - l2).toNat l2 0 := es
        refine b_78_6 (ite_c (fun _ => ?_) (fun z => absurd (by omega) z))
        rw [es']; exact hq g2
      | succ n ih =>
        intro s c g2 s0 e c0 c9 sx es
        have es' : cnS Y1 b1 n (s + 1) (cnM Y1 b1 20 s 4 c) = cnS Y1 b1 (l3 + 1 - l2).toNat l2 0 := es
        have inner : ∀ (n' : Nat) (m c' : Int) (g3 : GH), 4 ≤ m → m + 4 * n' = 84 → 0 ≤ c' → c' + n' + 20 * n ≤ 10000 → SX g g3 → cnM Y1 b1 n' s m c' = cnM Y1 b1 20 s 4 c → WQ sc (d + 6) 78 Q 15 [(2, 0), (2, r 6 l1 + 1), (9, 0), (0, l3), (0, F1), (1, b1), (8, 0), (0, c'), (0, s), (0, m)] [] g3 r := by
          intro n'
          induction n' with
          | zero =>
            intro m c' g3 m0 em c0' c9' sx3 ec
            have ec' : c' = cnM Y1 b1 20 s 4 c := ec
            rw [← ec'] at es'
            refine b_78_15 (ite_c (fun _ => ?_) (fun z => absurd (by omega) z))
            rw [wr_id (x := s + 1) ⟨by omega, by omega⟩]
            exact ih (s + 1) c' g3 (by omega) (by omega) c0' (by omega) sx3 es'
          | succ n' ih' =>
            intro m c' g3 m0 em c0' c9' sx3 ec
            have ec' : cnM Y1 b1 n' s (m + 4) (if b1 < Y1 s m then c' + 1 else c') = cnM Y1 b1 20 s 4 c := ec
            refine b_78_15 (ite_c (fun z => absurd z (by omega)) (fun _ => ⟨k0, ?_⟩))
            rw [r_0_3 hr]
            refine ⟨kx, c_cell (d := d + 1) hr wb hx.1 yb (whs g3 sx3) (by omega) (by omega) m0 (by omega) (fun g4 sx4 wh4 b4 => ⟨k0, ?_⟩)⟩
            rw [r_0_3 hr]
            refine ⟨kx, c_run (d := d) hr wb wh4 b4 (by omega) (by omega) m0 (by omega) fb.1.1 fb.1.2 (fun g5 u5 _ => ?_)⟩
            have sx5 : SX g g5 := (sx3.tr sx4).bu u5
            rw [hY1, wr_id (x := c' + 1) ⟨by omega, by omega⟩, wr_id (x := m + 4) ⟨by omega, by omega⟩]
            refine ite_c (fun z => ?_) (fun z => ?_)
            · rw [if_pos (cmp_gt.mp z)] at ec'
              exact ih' (m + 4) (c' + 1) g5 (by omega) (by omega) (by omega) (by omega) sx5 ec'
            · rw [if_neg (fun q => z (cmp_gt.mpr q))] at ec'
              exact ih' (m + 4) c' g5 (by omega) (by omega) c0' (by omega) sx5 ec'
        exact b_78_6 (ite_c (fun z => absurd z (by omega)) (fun _ => inner 20 4 c g2 (by decide) (by decide) c0 (by omega) sx rfl))
    exact c_78 (outer (l3 + 1 - l2).toNat l2 0 g1 (Int.le_refl _) (by omega) (by decide) (by omega) sx1 rfl)
  have tot : ∀ s m, wL (Y1 s m + Y2 s m) = Y1 s m + Y2 s m := fun s m => by
    have b1 := y1b s m
    have b2 := y2b s m
    exact wL_id ⟨by omega, by omega⟩
  have outer : ∀ (n : Nat) (s bs bm b1 sum : Int) (g2 : GH), l2 ≤ s → s + n = l3 + 1 → (l2 ≤ bs ∧ bs ≤ l3 ∧ 4 ≤ bm ∧ bm ≤ 80) → ((sum = Y1 bs bm + Y2 bs bm ∧ b1 = Y1 bs bm) ∨ (sum = -1 ∧ bs = l2 ∧ bm = 4 ∧ s = l2)) → SX g g2 → gdS (fun s m => Y1 s m + Y2 s m) n s bs bm = gdS (fun s m => Y1 s m + Y2 s m) (l3 + 1 - l2).toNat l2 l2 4 → WQ sc (d + 7) 77 Q 91 [(2, 0), (9, 0), (0, l2), (0, l3), (9, 0), (0, l5), (2, r 6 l1), (0, F1), (0, F2), (0, bs), (0, bm), (1, b1), (8, 0), (1, sum), (8, 0), (0, s), (9, 0), (9, 0), (9, 0), (9, 0), (9, 0)] [] g2 r := by
    intro n
    induction n with
    | zero =>
      intro s bs bm b1 sum g2 s0 e hb st sx es
      have es' : (bs, bm) = gdS (fun s m => Y1 s m + Y2 s m) (l3 + 1 - l2).toNat l2 l2 4 := es
      have st' : b1 = Y1 bs bm := by
        rcases st with st | st
        · exact st.2
        · omega
      have hq' := hq
      unfold GVy at hq'
      rw [← es'] at hq'
      refine b_77_91 (ite_c (fun _ => ite_c (fun z => ?_) (fun z => ite_c (fun y => ?_) (fun y => ?_))) (fun z => absurd (by omega) z))
      · refine ⟨mo_ok hm, k0, ?_⟩
        rw [mo_1 hr hm]
        refine count b1 Q (fun g' => ?_) g2 sx
        have q := hq' g'
        rw [if_neg (by omega), if_neg (by omega)] at q
        rw [st']
        exact q
      · have q := hq' g2
        rw [if_pos y] at q
        exact q
      · have q := hq' g2
        rw [if_neg y, if_pos (by omega)] at q
        exact q
    | succ n ih =>
      intro s bs bm b1 sum g2 s0 e hb st sx es
      have es' : gdS (fun s m => Y1 s m + Y2 s m) n (s + 1) (gdM (fun s m => Y1 s m + Y2 s m) 20 s 4 bs bm).1 (gdM (fun s m => Y1 s m + Y2 s m) 20 s 4 bs bm).2 = gdS (fun s m => Y1 s m + Y2 s m) (l3 + 1 - l2).toNat l2 l2 4 := es
      have inner : ∀ (n' : Nat) (m bs' bm' b1' sum' : Int) (g3 : GH), 4 ≤ m → m + 4 * n' = 84 → (l2 ≤ bs' ∧ bs' ≤ l3 ∧ 4 ≤ bm' ∧ bm' ≤ 80) → ((sum' = Y1 bs' bm' + Y2 bs' bm' ∧ b1' = Y1 bs' bm') ∨ (sum' = -1 ∧ bs' = l2 ∧ bm' = 4 ∧ s = l2 ∧ m = 4)) → SX g g3 → gdM (fun s m => Y1 s m + Y2 s m) n' s m bs' bm' = gdM (fun s m => Y1 s m + Y2 s m) 20 s 4 bs bm → WQ sc (d + 7) 77 Q 100 [(2, 0), (9, 0), (0, l2), (0, l3), (9, 0), (0, l5), (2, r 6 l1), (0, F1), (0, F2), (0, bs'), (0, bm'), (1, b1'), (8, 0), (1, sum'), (8, 0), (0, s), (0, m), (9, 0), (9, 0), (9, 0), (9, 0)] [] g3 r := by
        intro n'
        induction n' with
        | zero =>
          intro m bs' bm' b1' sum' g3 m0 em hb' st' sx3 ec
          have ec' : (bs', bm') = gdM (fun s m => Y1 s m + Y2 s m) 20 s 4 bs bm := ec
          rw [← ec'] at es'
          refine b_77_100 (ite_c (fun _ => ?_) (fun z => absurd (by omega) z))
          rw [wr_id (x := s + 1) ⟨by omega, by omega⟩]
          refine ih (s + 1) bs' bm' b1' sum' g3 (by omega) (by omega) hb' (Or.inl ?_) sx3 es'
          rcases st' with st' | st'
          · exact st'
          · omega
        | succ n' ih' =>
          intro m bs' bm' b1' sum' g3 m0 em hb' st' sx3 ec
          have ec' : (if Y1 bs' bm' + Y2 bs' bm' < Y1 s m + Y2 s m then gdM (fun s m => Y1 s m + Y2 s m) n' s (m + 4) s m else gdM (fun s m => Y1 s m + Y2 s m) n' s (m + 4) bs' bm') = gdM (fun s m => Y1 s m + Y2 s m) 20 s 4 bs bm := ec
          have q1 := y1b s m
          have q2 := y2b s m
          refine b_77_100 (ite_c (fun z => absurd z (by omega)) (fun _ => ⟨k0, mo_ok hm, ?_⟩))
          rw [r_0_3 hr, mo_1 hr hm]
          refine ⟨kx, c_cell (d := d + 2) hr wb hx.1 yb (whs g3 sx3) (by omega) (by omega) m0 (by omega) (fun g4 sx4 wh4 b4 => ⟨k0, ?_⟩)⟩
          rw [r_0_3 hr]
          refine ⟨kx, c_run (d := d + 1) hr wb wh4 b4 (by omega) (by omega) m0 (by omega) fb.1.1 fb.1.2 (fun g5 u5 b5 => ⟨k0, ?_⟩)⟩
          rw [r_0_3 hr]
          refine ⟨kx, c_run (d := d + 1) hr wb (wh4.b u5) b5 (by omega) (by omega) m0 (by omega) fb.2.1 fb.2.2 (fun g6 u6 _ => ?_)⟩
          have sx6 : SX g g6 := ((sx3.tr sx4).bu u5).bu u6
          rw [hY1, hY2, tot, wr_id (x := m + 4) ⟨by omega, by omega⟩]
          rcases st' with ⟨st1, st2⟩ | ⟨st1, st2, st3, st4, st5⟩
          · rw [st1]
            refine ite_c (fun z => ?_) (fun z => ?_)
            · rw [if_pos (cmp_gt.mp z)] at ec'
              exact ih' (m + 4) s m _ _ g6 (by omega) (by omega) ⟨by omega, by omega, m0, by omega⟩ (Or.inl ⟨rfl, rfl⟩) sx6 ec'
            · rw [if_neg (fun q => z (cmp_gt.mpr q))] at ec'
              rw [← st1]
              exact ih' (m + 4) bs' bm' b1' sum' g6 (by omega) (by omega) hb' (Or.inl ⟨st1, st2⟩) sx6 ec'
          · refine ite_c (fun z => ?_) (fun z => absurd (cmp_gt.mpr (by omega)) z)
            rw [st2, st3, ← st4, if_neg (by rw [st5, st4]; omega)] at ec'
            have ih2 := ih' (m + 4) s m (Y1 s m) (Y1 s m + Y2 s m) g6 (by omega) (by omega) ⟨by omega, by omega, m0, by omega⟩ (Or.inl ⟨rfl, rfl⟩) sx6
            refine ih2 ?_
            rw [st5]
            rw [st5] at ec'
            exact ec'
      refine b_77_91 (ite_c (fun z => absurd z (by omega)) (fun _ => inner 20 4 bs bm b1 sum g2 (by decide) (by decide) hb ?_ sx rfl))
      rcases st with st | ⟨u1, u2, u3, u4⟩
      · exact Or.inl st
      · exact Or.inr ⟨u1, u2, u3, u4, rfl⟩
  exact outer (l3 + 1 - l2).toNat l2 l2 4 0 (-1) g (Int.le_refl _) (by omega) ⟨Int.le_refl _, a23, by decide, by decide⟩ (Or.inr ⟨rfl, rfl, rfl, rfl⟩) (fun _ _ _ => rfl) rfl
/-- the class's grid -/
theorem f_77 (hJ : J5 g r) (t : TM g l1) (a2 : 2 ≤ l2) (a3 : l3 ≤ 40) (a23 : l2 ≤ l3) (a4 : 0 ≤ l4 ∧ l4 ≤ 999999) (a5 : 0 ≤ l5 ∧ l5 ≤ 2) (hq : ∀ g', Q (GV g l1 (l4 / 1000 * 100) (l4 % 1000 * 100) l2 l3 l5) g' r) : Ce sc (d + 8) 77 [(2, 0), (0, l1), (0, l2), (0, l3), (0, l4), (0, l5)] g r Q := by
  have hr := hJ.1.1.1.1.1
  have k0 : okr 218 0 8 := okd (by decide +kernel)
  have hm := hr.2.1 l1 t.1 t.2.1
  refine c_77 ⟨k0, w_129 hr (fun _ => ?_) (fun z => absurd ((td_tm hJ.1.1 l1).mpr t) z)⟩
  rw [if_neg (mo_ne hm)]
  refine ite_c (fun z => absurd z (by omega)) (fun _ => ite_c (fun z => absurd z (by omega)) (fun _ => ite_c (fun z => absurd z (by omega)) (fun _ => w_123 (fun _ _ => ?_) (fun z => absurd a4 z))))
  rw [if_neg (by decide)]
  refine w_123 (fun _ _ => ?_) (fun z => absurd a5 z)
  rw [if_neg (by decide), Int.tdiv_eq_ediv_of_nonneg a4.1, Int.tmod_eq_emod_of_nonneg a4.1, wr_id (x := l4 / 1000) ⟨by omega, by omega⟩, wr_id (x := l4 / 1000 * 100) ⟨by omega, by omega⟩, wr_id (x := l4 % 1000 * 100) ⟨by omega, by omega⟩]
  exact ⟨by decide, by decide, f_77y (d := d) hJ t a2 a3 a23 a5 (by omega) rfl rfl hq⟩
/-- the reference's loops over the range -/
theorem f_190y {Y1 Y2 : Int → Int → Int} {F1 F2 : Int} {h0 : GH} (hJ : J5 g r) (t : TM g l1) (a2 : 2 ≤ l2) (a3 : l3 ≤ 40) (a23 : l2 ≤ l3) (a5 : 0 ≤ l5 ∧ l5 ≤ 2) (fb : (0 ≤ F1 ∧ F1 ≤ 99999) ∧ 0 ≤ F2 ∧ F2 ≤ 99999) (hY1 : GY g l1 F1 = Y1) (hY2 : GY g l1 F2 = Y2) (H0 : HX g l1 h0) (hq : ∀ g', Q (GVy Y1 Y2 l2 l3 l5) g' r) : WQ sc (d + 7) 190 Q 93 [(2, 165), (9, 0), (0, l2), (0, l3), (9, 0), (0, l5), (0, F1), (0, F2), (0, -1), (0, 0), (1, 0), (8, 0), (0, l2), (9, 0), (9, 0), (9, 0), (9, 0)] [] h0 r := by
  have hr := hJ.1.1.1.1.1
  have k9 : okr 218 165 9 := okd (by decide +kernel)
  obtain ⟨hx, wh, wb, b3⟩ := t5_of hJ t
  have y1b : ∀ s m, 0 ≤ Y1 s m ∧ Y1 s m ≤ 10000000000000000 := fun s m => by
    rw [← hY1]; exact gy_b wb
  have y2b : ∀ s m, 0 ≤ Y2 s m ∧ Y2 s m ≤ 10000000000000000 := fun s m => by
    rw [← hY2]; exact gy_b wb
  have N : ((l3 + 1 - l2).toNat : Int) = l3 + 1 - l2 := Int.toNat_of_nonneg (by omega)
  have tot : ∀ s m, wL (Y1 s m + Y2 s m) = Y1 s m + Y2 s m := fun s m => by
    have b1 := y1b s m
    have b2 := y2b s m
    exact wL_id ⟨by omega, by omega⟩
  -- counting
  have count : ∀ (b1 : Int) (Q : QJ), (∀ g', Q (cnS Y1 b1 (l3 + 1 - l2).toNat l2 0) g' r) → ∀ h, HX g l1 h → WQ sc (d + 7) 190 Q 209 [(2, 165), (9, 0), (9, 0), (0, l3), (9, 0), (9, 0), (0, F1), (9, 0), (9, 0), (9, 0), (9, 0), (9, 0), (1, b1), (8, 0), (0, 0), (0, l2), (9, 0)] [] h r := by
    intro b1 Q hq h H
    have outer : ∀ (n : Nat) (s c : Int) (h : GH), l2 ≤ s → s + n = l3 + 1 → 0 ≤ c → c + 20 * n ≤ 10000 → HX g l1 h → cnS Y1 b1 n s c = cnS Y1 b1 (l3 + 1 - l2).toNat l2 0 → WQ sc (d + 7) 190 Q 209 [(2, 165), (9, 0), (9, 0), (0, l3), (9, 0), (9, 0), (0, F1), (9, 0), (9, 0), (9, 0), (9, 0), (9, 0), (1, b1), (8, 0), (0, c), (0, s), (9, 0)] [] h r := by
      intro n
      induction n with
      | zero =>
        intro s c h s0 e c0 c9 H es
        have es' : c = cnS Y1 b1 (l3 + 1 - l2).toNat l2 0 := es
        refine b_190_209 (ite_c (fun _ => ?_) (fun z => absurd (by omega) z))
        rw [es']; exact hq h
      | succ n ih =>
        intro s c h s0 e c0 c9 H es
        have es' : cnS Y1 b1 n (s + 1) (cnM Y1 b1 20 s 4 c) = cnS Y1 b1 (l3 + 1 - l2).toNat l2 0 := es
        have inner : ∀ (n' : Nat) (m c' : Int) (h : GH), 4 ≤ m → m + 4 * n' = 84 → 0 ≤ c' → c' + n' + 20 * n ≤ 10000 → HX g l1 h → cnM Y1 b1 n' s m c' = cnM Y1 b1 20 s 4 c → WQ sc (d + 7) 190 Q 218 [(2, 165), (9, 0), (9, 0), (0, l3), (9, 0), (9, 0), (0, F1), (9, 0), (9, 0), (9, 0), (9, 0), (9, 0), (1, b1), (8, 0), (0, c'), (0, s), (0, m)] [] h r := by
          intro n'
          induction n' with
          | zero =>
            intro m c' h m0 em c0' c9' H ec
            have ec' : c' = cnM Y1 b1 20 s 4 c := ec
            rw [← ec'] at es'
            refine b_190_218 (ite_c (fun _ => ?_) (fun z => absurd (by omega) z))
            rw [wr_id (x := s + 1) ⟨by omega, by omega⟩]
            exact ih (s + 1) c' h (by omega) (by omega) c0' (by omega) H es'
          | succ n' ih' =>
            intro m c' h m0 em c0' c9' H ec
            have ec' : cnM Y1 b1 n' s (m + 4) (if b1 < Y1 s m then c' + 1 else c') = cnM Y1 b1 20 s 4 c := ec
            refine b_190_218 (ite_c (fun z => absurd z (by omega)) (fun _ => ⟨k9, m_cell (d := d) hr wb H (by omega) (by omega) m0 (by omega) fb.1.1 fb.1.2 (fun h' H' => ?_)⟩))
            rw [hY1, wr_id (x := c' + 1) ⟨by omega, by omega⟩, wr_id (x := m + 4) ⟨by omega, by omega⟩, wr_id (x := c' + 0) ⟨by omega, by omega⟩]
            refine ite_c (fun z => ?_) (fun z => ?_)
            · rw [if_pos (cmp_gt.mp z)] at ec'
              exact ih' (m + 4) (c' + 1) h' (by omega) (by omega) (by omega) (by omega) H' ec'
            · rw [if_neg (fun q => z (cmp_gt.mpr q))] at ec'
              have ih2 := ih' (m + 4) c' h' (by omega) (by omega) c0' (by omega) H' ec'
              rw [show c' + 0 = c' by omega]
              exact ih2
        exact b_190_209 (ite_c (fun z => absurd z (by omega)) (fun _ => inner 20 4 c h (by decide) (by decide) c0 (by omega) H rfl))
    exact outer (l3 + 1 - l2).toNat l2 0 h (Int.le_refl _) (by omega) (by decide) (by omega) H rfl
  have outer : ∀ (n : Nat) (s bs bm l8 l9 l10 : Int) (h : GH), l2 ≤ s → s + n = l3 + 1 → (l2 ≤ bs ∧ bs ≤ l3 ∧ 4 ≤ bm ∧ bm ≤ 80) → ((l8 = bs ∧ l9 = bm ∧ l10 = Y1 bs bm + Y2 bs bm) ∨ (l8 = -1 ∧ bs = l2 ∧ bm = 4 ∧ s = l2)) → HX g l1 h → gdS (fun s m => Y1 s m + Y2 s m) n s bs bm = gdS (fun s m => Y1 s m + Y2 s m) (l3 + 1 - l2).toNat l2 l2 4 → WQ sc (d + 7) 190 Q 93 [(2, 165), (9, 0), (0, l2), (0, l3), (9, 0), (0, l5), (0, F1), (0, F2), (0, l8), (0, l9), (1, l10), (8, 0), (0, s), (9, 0), (9, 0), (9, 0), (9, 0)] [] h r := by
    intro n
    induction n with
    | zero =>
      intro s bs bm l8 l9 l10 h s0 e hb st H es
      have es' : (bs, bm) = gdS (fun s m => Y1 s m + Y2 s m) (l3 + 1 - l2).toNat l2 l2 4 := es
      have st' : l8 = bs ∧ l9 = bm := by
        rcases st with st | st
        · exact ⟨st.1, st.2.1⟩
        · omega
      have hq' := hq
      unfold GVy at hq'
      rw [← es'] at hq'
      rw [st'.1, st'.2]
      refine b_190_93 (ite_c (fun _ => ite_c (fun z => ite_c (fun y => ?_) (fun y => ?_)) (fun z => ⟨k9, m_cell (d := d) hr wb H (by omega) (by omega) hb.2.2.1 hb.2.2.2 fb.1.1 fb.1.2 (fun h' H' => ?_)⟩)) (fun z => absurd (by omega) z))
      · have q := hq' h
        rw [if_pos y] at q
        exact q
      · have q := hq' h
        rw [if_neg y, if_pos (by omega)] at q
        exact q
      · rw [hY1]
        refine count _ Q (fun g' => ?_) h' H'
        have q := hq' g'
        rw [if_neg (by omega), if_neg (by omega)] at q
        exact q
    | succ n ih =>
      intro s bs bm l8 l9 l10 h s0 e hb st H es
      have es' : gdS (fun s m => Y1 s m + Y2 s m) n (s + 1) (gdM (fun s m => Y1 s m + Y2 s m) 20 s 4 bs bm).1 (gdM (fun s m => Y1 s m + Y2 s m) 20 s 4 bs bm).2 = gdS (fun s m => Y1 s m + Y2 s m) (l3 + 1 - l2).toNat l2 l2 4 := es
      have inner : ∀ (n' : Nat) (m bs' bm' l8' l9' l10' : Int) (h : GH), 4 ≤ m → m + 4 * n' = 84 → (l2 ≤ bs' ∧ bs' ≤ l3 ∧ 4 ≤ bm' ∧ bm' ≤ 80) → ((l8' = bs' ∧ l9' = bm' ∧ l10' = Y1 bs' bm' + Y2 bs' bm') ∨ (l8' = -1 ∧ bs' = l2 ∧ bm' = 4 ∧ s = l2 ∧ m = 4)) → HX g l1 h → gdM (fun s m => Y1 s m + Y2 s m) n' s m bs' bm' = gdM (fun s m => Y1 s m + Y2 s m) 20 s 4 bs bm → WQ sc (d + 7) 190 Q 102 [(2, 165), (9, 0), (0, l2), (0, l3), (9, 0), (0, l5), (0, F1), (0, F2), (0, l8'), (0, l9'), (1, l10'), (8, 0), (0, s), (0, m), (9, 0), (9, 0), (9, 0)] [] h r := by
        intro n'
        induction n' with
        | zero =>
          intro m bs' bm' l8' l9' l10' h m0 em hb' st' H ec
          have ec' : (bs', bm') = gdM (fun s m => Y1 s m + Y2 s m) 20 s 4 bs bm := ec
          rw [← ec'] at es'
          refine b_190_102 (ite_c (fun _ => ?_) (fun z => absurd (by omega) z))
          rw [wr_id (x := s + 1) ⟨by omega, by omega⟩]
          refine ih (s + 1) bs' bm' l8' l9' l10' h (by omega) (by omega) hb' (Or.inl ?_) H es'
          rcases st' with st' | st'
          · exact st'
          · omega
        | succ n' ih' =>
          intro m bs' bm' l8' l9' l10' h m0 em hb' st' H ec
          have ec' : (if Y1 bs' bm' + Y2 bs' bm' < Y1 s m + Y2 s m then gdM (fun s m => Y1 s m + Y2 s m) n' s (m + 4) s m else gdM (fun s m => Y1 s m + Y2 s m) n' s (m + 4) bs' bm') = gdM (fun s m => Y1 s m + Y2 s m) 20 s 4 bs bm := ec
          refine b_190_102 (ite_c (fun z => absurd z (by omega)) (fun _ => ⟨k9, m_cell (d := d) hr wb H (by omega) (by omega) m0 (by omega) fb.1.1 fb.1.2 (fun h1 H1 => ⟨k9, m_cell (d := d) hr wb H1 (by omega) (by omega) m0 (by omega) fb.2.1 fb.2.2 (fun h2 H2 => ?_)⟩)⟩))
          rw [hY1, hY2, tot, wr_id (x := m + 4) ⟨by omega, by omega⟩]
          rcases st' with ⟨st1, st2, st3⟩ | ⟨st1, st2, st3, st4, st5⟩
          · refine ite_c (fun z => absurd z (by omega)) (fun _ => ite_c (fun z => ?_) (fun z => ?_))
            · rw [st3] at z
              rw [if_pos (cmp_gt.mp z)] at ec'
              exact ih' (m + 4) s m _ _ _ h2 (by omega) (by omega) ⟨by omega, by omega, m0, by omega⟩ (Or.inl ⟨rfl, rfl, rfl⟩) H2 ec'
            · rw [st3] at z
              rw [if_neg (fun q => z (cmp_gt.mpr q))] at ec'
              exact ih' (m + 4) bs' bm' l8' l9' l10' h2 (by omega) (by omega) hb' (Or.inl ⟨st1, st2, st3⟩) H2 ec'
          · refine ite_c (fun _ => ?_) (fun z => absurd (by omega) z)
            rw [st2, st3, ← st4, if_neg (by rw [st5]; omega)] at ec'
            have ih2 := ih' (m + 4) s m s m (Y1 s m + Y2 s m) h2 (by omega) (by omega) ⟨by omega, by omega, m0, by omega⟩ (Or.inl ⟨rfl, rfl, rfl⟩) H2
            refine ih2 ?_
            rw [st5]
            rw [st5] at ec'
            exact ec'
      refine b_190_93 (ite_c (fun z => absurd z (by omega)) (fun _ => inner 20 4 bs bm l8 l9 l10 h (by decide) (by decide) hb ?_ H rfl))
      rcases st with st | ⟨u1, u2, u3, u4⟩
      · exact Or.inl st
      · exact Or.inr ⟨u1, u2, u3, u4, rfl⟩
  exact outer (l3 + 1 - l2).toNat l2 l2 4 (-1) 0 0 h0 (Int.le_refl _) (by omega) ⟨Int.le_refl _, a23, by decide, by decide⟩ (Or.inr ⟨rfl, rfl, rfl, rfl⟩) H0 rfl
/-- the reference's grid -/
theorem f_190 {g1 : GH} (hJ : J5 g r) (t : TM g l1) (hi1 : ∀ i j, 165 ≤ i → g1 i j = g i j) (a2 : 2 ≤ l2) (a3 : l3 ≤ 40) (a23 : l2 ≤ l3) (a4 : 0 ≤ l4 ∧ l4 ≤ 999999) (a5 : 0 ≤ l5 ∧ l5 ≤ 2) (hq : ∀ g', Q (GV g l1 (l4 / 1000 * 100) (l4 % 1000 * 100) l2 l3 l5) g' r) : Ce sc (d + 8) 190 [(2, 165), (0, l1), (0, l2), (0, l3), (0, l4), (0, l5)] g1 r Q := by
  have hr := hJ.1.1.1.1.1
  have k9 : okr 218 165 9 := okd (by decide +kernel)
  have tm1 : TM g1 l1 := ⟨t.1, t.2.1, by rw [hi1 167 l1 (by decide)]; exact t.2.2⟩
  refine c_190 ⟨k9, w_140 hr (fun _ => ?_) (fun z => absurd tm1 z)⟩
  rw [if_neg (by decide)]
  refine ite_c (fun z => absurd z (by omega)) (fun _ => ite_c (fun z => absurd z (by omega)) (fun _ => ite_c (fun z => absurd z (by omega)) (fun _ => w_137 (fun _ _ => ?_) (fun z => absurd a4 z))))
  rw [if_neg (by decide)]
  refine w_137 (fun _ _ => ?_) (fun z => absurd a5 z)
  rw [if_neg (by decide), Int.tdiv_eq_ediv_of_nonneg a4.1, Int.tmod_eq_emod_of_nonneg a4.1, wr_id (x := l4 / 1000) ⟨by omega, by omega⟩, Int.mul_comm 100 (l4 / 1000), Int.mul_comm 100 (l4 % 1000), wr_id (x := l4 / 1000 * 100) ⟨by omega, by omega⟩, wr_id (x := l4 % 1000 * 100) ⟨by omega, by omega⟩]
  refine ⟨by decide, by decide, k9, f_141 (d := d + 6) hr t.1 t.2.1 (by rw [hi1 168 l1 (by decide)]; exact hJ.1.1.1.1.2.2.2.1.2.1.1 l1) ?_⟩
  refine f_190y (d := d) hJ t a2 a3 a23 a5 (by omega) rfl rfl (fun j j0 j1 _ _ _ => ?_) hq
  unfold cpH
  rw [hi1 (168 + j) l1 (by omega), hi1 (168 + j) 6 (by omega)]
theorem tt_77 (hJ : J5 g r) {A1 A2 A3 A4 A5 : Int} (D : Nat) : Ce sc (D + 8) 77 [(2, 0), (0, A1), (0, A2), (0, A3), (0, A4), (0, A5)] g r (fun v1 g1 r1 => Ce sc (D + 8) 190 [(2, 165), (0, A1), (0, A2), (0, A3), (0, A4), (0, A5)] g1 r1 fun v2 g2 r2 => v1 = v2 ∧ J5 g2 r2) := by
  have hr := hJ.1.1.1.1.1
  have k0 : okr 218 0 8 := okd (by decide +kernel)
  have k9 : okr 218 165 9 := okd (by decide +kernel)
  have V := v_77 (sc := sc) (d := D) (l1 := A1) (l2 := A2) (l3 := A3) (l4 := A4) (l5 := A5) (Q := fun _ g1 r1 => r1 = r ∧ EB r (TM g) (MWh g) g g1) hr hJ.2 (fun _ _ e => ⟨rfl, e⟩)
  have Y : ∀ g1, MI g1 → Ce sc (D + 8) 190 [(2, 165), (0, A1), (0, A2), (0, A3), (0, A4), (0, A5)] g1 r (fun _ g2 r2 => r2 = r ∧ ME g1 g2) := fun g1 mi => s_190 (d := D) hr mi (fun _ _ e => ⟨rfl, e⟩)
  by_cases P : TM g A1 ∧ 2 ≤ A2 ∧ A3 ≤ 40 ∧ A2 ≤ A3 ∧ (0 ≤ A4 ∧ A4 ≤ 999999) ∧ 0 ≤ A5 ∧ A5 ≤ 2
  · obtain ⟨t, a2, a3, a23, a4, a5⟩ := P
    exact pv5 hJ (GV g A1 (A4 / 1000 * 100) (A4 % 1000 * 100) A2 A3 A5) V (f_77 (d := D) hJ t a2 a3 a23 a4 a5 (fun _ => rfl)) (fun g1 hi1 => f_190 (d := D) hJ t hi1 a2 a3 a23 a4 a5 (fun _ => rfl)) Y
  · refine pv5 hJ (-1) V ?_ (fun g1 hi1 => ?_) Y
    · refine c_77 ⟨k0, w_129 hr (fun td => ?_) (fun _ => by rw [if_pos rfl])⟩
      have t := (td_tm hJ.1.1 A1).mp td
      rw [if_neg (mo_ne (hr.2.1 A1 t.1 t.2.1))]
      refine ite_c (fun _ => rfl) (fun a2 => ite_c (fun _ => rfl) (fun a3 => ite_c (fun _ => rfl) (fun a23 => w_123 (fun p q => ?_) (fun _ => by rw [if_pos rfl]))))
      rw [if_neg (by decide)]
      exact w_123 (fun u v => absurd ⟨t, by omega, by omega, by omega, ⟨p, q⟩, u, v⟩ P) (fun _ => by rw [if_pos rfl])
    · refine c_190 ⟨k9, w_140 hr (fun t1 => ?_) (fun _ => by rw [if_pos rfl])⟩
      have t : TM g A1 := ⟨t1.1, t1.2.1, by rw [← hi1 167 A1 (by decide)]; exact t1.2.2⟩
      rw [if_neg (by decide)]
      refine ite_c (fun _ => rfl) (fun a2 => ite_c (fun _ => rfl) (fun a3 => ite_c (fun _ => rfl) (fun a23 => w_137 (fun p q => ?_) (fun _ => by rw [if_pos rfl]))))
      rw [if_neg (by decide)]
      exact w_137 (fun u v => absurd ⟨t, by omega, by omega, by omega, ⟨p, q⟩, u, v⟩ P) (fun _ => by rw [if_pos rfl])
end VG8
