/-! the class's bucket computes the same numbers, and keeps them -/
/-- a wheel, its bucket and the bucket's arrays -/
def WXO (r : GH) (x : Int) : Prop := okr 218 x 7 ∧ okr 218 (x + 1) 1 ∧ r x 9 = x + 1 ∧ r (x + 1) 5 = x + 2 ∧ r (x + 1) 6 = x + 3 ∧ r (x + 1) 12 = x + 4 ∧ AL (x + 2) 11 40 ∧ AL (x + 3) 11 40 ∧ AL (x + 4) 11 40
/-- what is settled of a bucket -/
def BKS (g : GH) (x : Int) (W : Int → Int) : Prop := g (x + 1) 0 = W 1 ∧ g (x + 1) 1 = W 3 ∧ g (x + 1) 2 = W 5 ∧ g (x + 1) 3 = capE W ∧ g (x + 1) 4 = plsE W ∧ ∀ k, 0 ≤ k → k < plsE W → g (x + 2) k = plcE W k ∧ g (x + 3) k = drC W k
/-- what filling leaves -/
def FIL (g : GH) (x : Int) (W : Int → Int) (f p : Int) : Prop := g (x + 1) 7 = offE W f p ∧ g (x + 1) 8 = splE W p ∧ g (x + 1) 9 = getE W f p ∧ g (x + 1) 10 = thrE W p ∧ g (x + 1) 11 = whoE W p ∧ ∀ k, 0 ≤ k → k < plsE W → g (x + 4) k = hasE W f p k
def BK3 (g : GH) (x : Int) (W : Int → Int) : Prop := BKS g x W ∧ (0 ≤ g (x + 1) 13 → g (x + 1) 13 ≤ 99999 → 1 ≤ g (x + 1) 14 → g (x + 1) 14 ≤ 300 → FIL g x W (g (x + 1) 13) (g (x + 1) 14))
/-- only the bucket changes -/
def BUX (x : Int) (g g' : GH) : Prop := ∀ i j, ¬ (i = x + 1 ∨ i = x + 4) → g' i j = g i j
theorem BUX.rf (x : Int) (g : GH) : BUX x g g := fun _ _ _ => rfl
theorem BUX.tr {x : Int} {a b c : GH} (h : BUX x a b) (k : BUX x b c) : BUX x a c := fun i j z => (k i j z).trans (h i j z)
theorem BUX.u {x : Int} {a b : GH} {i j v : Int} (h : BUX x a b) (hi : i = x + 1 ∨ i = x + 4) : BUX x a (up b i j v) := fun y k z => by
  rw [up_i (by omega)]; exact h y k z
theorem hasR_s {W : Int → Int} {p : Int} : ∀ (n : Nat) (h k : Int), hasR W p (n + 1) h k = (if helE W p (plcE W (k + n)) < hasR W p n h k then helE W p (plcE W (k + n)) else hasR W p n h k) := by
  intro n
  induction n with
  | zero =>
    intro h k
    show hasR W p 0 (if helE W p (plcE W k) < h then helE W p (plcE W k) else h) (k + 1) = (if helE W p (plcE W (k + (0 : Nat))) < h then helE W p (plcE W (k + (0 : Nat))) else h)
    rw [show k + ((0 : Nat) : Int) = k by omega]
    rfl
  | succ n ih =>
    intro h k
    have e := ih (if helE W p (plcE W k) < h then helE W p (plcE W k) else h) (k + 1)
    rw [show k + 1 + (n : Int) = k + ((n + 1 : Nat) : Int) by omega] at e
    exact e
/-- before bucket k -/
def hdE (W : Int → Int) (f p k : Int) : Int := hasR W p k.toNat (getE W f p) 0
theorem hdE_s {W : Int → Int} {f p k : Int} (k0 : 0 ≤ k) : hdE W f p (k + 1) = (if helE W p (plcE W k) < hdE W f p k then helE W p (plcE W k) else hdE W f p k) ∧ hasE W f p k = hdE W f p (k + 1) := by
  refine ⟨?_, rfl⟩
  have e := hasR_s (W := W) (p := p) k.toNat (getE W f p) 0
  rw [show (0 : Int) + (k.toNat : Int) = k by omega] at e
  unfold hdE
  rw [show (k + 1).toNat = k.toNat + 1 by omega]
  exact e
section BKT
variable {sc : SCR} {d : Nat} {Q : QJ} {g r : GH} {l0 l1 l2 l3 l4 l5 x : Int} {W : Int → Int}
theorem f_10 (hx : WXO r x) (hb : BKS g x W) (h : WBd W) (p0 : 1 ≤ l1) (p1 : l1 ≤ 300) (hq : Q 0 (up (up (up g (x + 1) 14 (-1)) (x + 1) 10 (thrE W l1)) (x + 1) 11 (whoE W l1)) r) : Ce sc (d + 2) 10 [(2, x + 1), (0, l1)] g r Q := by
  have k1 := hx.2.1
  have t := thr_e h p0 p1
  have w := who_e h p0 p1
  refine c_10 ⟨k1, fun g1 e1 => ⟨k1, by decide, ?_⟩⟩
  have f0 : g1 (x + 1) 0 = W 1 := by rw [e1, up_j (by decide)]; exact hb.1
  rw [f0, t.1]
  have fin : Q 0 (up (up g1 (x + 1) 10 (thrE W l1)) (x + 1) 11 (whoE W l1)) r := by rw [e1]; exact hq
  have key : ∀ v, v = thrE W l1 → okr 218 (x + 1) 1 ∧ ∀ g3, g3 = up g1 (x + 1) 10 v → okr 218 (x + 1) 1 ∧ okr 218 (x + 1) 1 ∧ (1000 : Int) ≠ 0 ∧ okr 218 (x + 1) 1 ∧ ∀ g4, g4 = up g3 (x + 1) 11 (wr ((wr ((g3 (x + 1) 3) * (wr (1000 - (g3 (x + 1) 10))))).tdiv 1000)) → Q 0 g4 r := fun v ev => ⟨k1, fun g3 e3 => ⟨k1, k1, by decide, k1, fun g4 e4 => by
    have f3 : g3 (x + 1) 3 = capE W := by rw [e3, up_j (by decide), e1, up_j (by decide)]; exact hb.2.2.2.1
    have f10 : g3 (x + 1) 10 = thrE W l1 := by rw [e3, up_s, ev]
    rw [f3, f10, w.1] at e4
    rw [e4, e3, ev]
    exact fin⟩⟩
  refine w_250 (fun q => key _ ?_) (fun q => key _ ?_)
  · unfold thrE
    by_cases z : 1000 < l1 * l1 * W 1 / 1000
    · rw [if_pos z]
    · rw [if_neg z]; omega
  · unfold thrE
    by_cases z : 1000 < l1 * l1 * W 1 / 1000
    · rw [if_pos z]; omega
    · rw [if_neg z]
theorem f_11 (hx : WXO r x) (e2 : g (x + 1) 2 = W 5) (e11 : g (x + 1) 11 = whoE W l2) (h : WBd W) (p0 : 1 ≤ l2) (p1 : l2 ≤ 300) (a0 : 0 ≤ l1) (a1 : l1 ≤ 1000) (hq : Q (helE W l2 l1) g r) : Ce sc (d + 1) 11 [(2, x + 1), (0, l1)] g r Q := by
  have k1 := hx.2.1
  have w5 := h.2.2.2.2.1
  have w := who_e h p0 p1
  refine c_11 ?_
  rw [e2, e11, wr_id (x := 8 * W 5) ⟨by omega, by omega⟩, wr_id (x := 100 + 8 * W 5) ⟨by omega, by omega⟩, wr_id (x := 100 + 8 * W 5 - l1) ⟨by omega, by omega⟩]
  refine ⟨k1, k1, by decide, ?_⟩
  unfold helE at hq
  by_cases z : 60 < 100 + 8 * W 5 - l1
  · rw [if_pos z] at hq
    have m := mlb (a := whoE W l2) (b := 100 + 8 * W 5 - l1) (A := 230400) (B := 172) w.2.1 w.2.2 (by omega) (by omega)
    have t := tdb (x := whoE W l2 * (100 + 8 * W 5 - l1)) (m := 60) m.1 (by decide)
    have m2 : whoE W l2 * 60 ≤ whoE W l2 * (100 + 8 * W 5 - l1) := Int.mul_le_mul_of_nonneg_left (by omega) w.2.1
    have m3 : whoE W l2 ≤ whoE W l2 * (100 + 8 * W 5 - l1) / 60 := (Int.le_ediv_iff_mul_le (by decide)).mpr m2
    rw [wr_id (x := whoE W l2 * (100 + 8 * W 5 - l1)) ⟨by omega, by omega⟩, t.1, wr_id (x := whoE W l2 * (100 + 8 * W 5 - l1) / 60) ⟨by omega, by omega⟩]
    refine ite_c (fun q => absurd q (by omega)) (fun _ => ⟨k1, ite_c (fun _ => ⟨k1, hq⟩) (fun q => ?_)⟩)
    rw [show whoE W l2 * (100 + 8 * W 5 - l1) / 60 = whoE W l2 by omega]
    exact hq
  · rw [if_neg z] at hq
    by_cases y : 100 + 8 * W 5 - l1 < 0
    · rw [if_pos y] at hq
      have m := mlb (a := whoE W l2) (b := -(100 + 8 * W 5 - l1)) (A := 230400) (B := 1000) w.2.1 w.2.2 (by omega) (by omega)
      rw [Int.mul_neg] at m
      have t : (whoE W l2 * (100 + 8 * W 5 - l1)).tdiv 60 = -(-(whoE W l2 * (100 + 8 * W 5 - l1)) / 60) := by
        rw [← Int.tdiv_eq_ediv_of_nonneg (by omega), Int.neg_tdiv, Int.neg_neg]
      have n := tdb (x := -(whoE W l2 * (100 + 8 * W 5 - l1))) (m := 60) (by omega) (by decide)
      rw [wr_id (x := whoE W l2 * (100 + 8 * W 5 - l1)) ⟨by omega, by omega⟩, t, wr_id (x := -(-(whoE W l2 * (100 + 8 * W 5 - l1)) / 60)) ⟨by omega, by omega⟩]
      refine ite_c (fun _ => hq) (fun q => ⟨k1, ite_c (fun q2 => absurd q2 (by omega)) (fun _ => ?_)⟩)
      rw [show -(-(whoE W l2 * (100 + 8 * W 5 - l1)) / 60) = 0 by omega]
      exact hq
    · rw [if_neg y] at hq
      have m := mlb (a := whoE W l2) (b := 100 + 8 * W 5 - l1) (A := whoE W l2) (B := 60) w.2.1 (Int.le_refl _) (by omega) (by omega)
      have t := tdb (x := whoE W l2 * (100 + 8 * W 5 - l1)) (m := 60) m.1 (by decide)
      rw [wr_id (x := whoE W l2 * (100 + 8 * W 5 - l1)) ⟨by omega, by omega⟩, t.1, wr_id (x := whoE W l2 * (100 + 8 * W 5 - l1) / 60) ⟨by omega, by omega⟩]
      exact ite_c (fun q => absurd q (by omega)) (fun _ => ⟨k1, ite_c (fun q => absurd q (by omega)) (fun _ => hq)⟩)
/-- fill -/
theorem f_13 (hx : WXO r x) (hb : BK3 g x W) (h : WBd W) (f0 : 0 ≤ l1) (f1 : l1 ≤ 99999) (p0 : 1 ≤ l2) (p1 : l2 ≤ 300) (hq : ∀ g', BUX x g g' → BK3 g' x W → FIL g' x W l1 l2 → Q 0 g' r) : Ce sc (d + 3) 13 [(2, x + 1), (0, l1), (0, l2)] g r Q := by
  have k1 := hx.2.1
  have P := pls_b h
  obtain ⟨s0, s1, s2, s3, s4, sk⟩ := hb.1
  have o := off_e h f0 f1 p0 p1
  have sp := spl_e h p0 p1
  have ge := get_e h f0 f1 p0 p1
  have w1 := h.1
  have w3 := h.2.2.1
  have wh := who_e h p0 p1
  have a4 : okI 218 (x + 4) 11 0 ↔ _ := Iff.rfl
  have loop : ∀ (n : Nat) (k : Int) (gk : GH), 0 ≤ k → k + n = plsE W → BUX x g gk → gk (x + 1) 0 = W 1 → gk (x + 1) 1 = W 3 → gk (x + 1) 2 = W 5 → gk (x + 1) 3 = capE W → gk (x + 1) 4 = plsE W → gk (x + 1) 7 = offE W l1 l2 → gk (x + 1) 8 = splE W l2 → gk (x + 1) 9 = getE W l1 l2 → gk (x + 1) 10 = thrE W l2 → gk (x + 1) 11 = whoE W l2 → (∀ j, 0 ≤ j → j < k → gk (x + 4) j = hasE W l1 l2 j) → WQ sc (d + 2) 13 Q 105 [(2, x + 1), (0, l1), (0, l2), (0, hdE W l1 l2 k), (0, k)] [] gk r := by
    intro n
    induction n with
    | zero =>
      intro k gk c0 e bu c00 c1 c2 c3 c4 c7 c8 c9 c10 c11 ch
      have ek : k = plsE W := by omega
      refine b_13_105 ⟨k1, ?_⟩
      rw [c4]
      refine ite_c (fun q => absurd q (by omega)) (fun _ => ⟨k1, fun g1 e1 => ⟨k1, fun g2 e2 => ?_⟩⟩)
      have u : ∀ j, j ≠ 13 → j ≠ 14 → g2 (x + 1) j = gk (x + 1) j := fun j y z => by rw [e2, up_j z, e1, up_j y]
      have v : ∀ i j, i ≠ x + 1 → g2 i j = gk i j := fun i j y => by rw [e2, up_i y, e1, up_i y]
      have e13 : g2 (x + 1) 13 = l1 := by rw [e2, up_j (by decide), e1, up_s]
      have e14 : g2 (x + 1) 14 = l2 := by rw [e2, up_s]
      have fil : FIL g2 x W l1 l2 := ⟨by rw [u 7 (by decide) (by decide)]; exact c7, by rw [u 8 (by decide) (by decide)]; exact c8, by rw [u 9 (by decide) (by decide)]; exact c9, by rw [u 10 (by decide) (by decide)]; exact c10, by rw [u 11 (by decide) (by decide)]; exact c11, fun j j0 j1 => by rw [v (x + 4) j (by omega)]; exact ch j j0 (by omega)⟩
      refine hq g2 (bu.tr (by rw [e2, e1]; exact ((BUX.rf x gk).u (Or.inl rfl)).u (Or.inl rfl))) ⟨⟨by rw [u 0 (by decide) (by decide)]; exact c00, by rw [u 1 (by decide) (by decide)]; exact c1, by rw [u 2 (by decide) (by decide)]; exact c2, by rw [u 3 (by decide) (by decide)]; exact c3, by rw [u 4 (by decide) (by decide)]; exact c4, fun j j0 j1 => ?_⟩, fun _ _ _ _ => by rw [e13, e14]; exact fil⟩ fil
      rw [v (x + 2) j (by omega), v (x + 3) j (by omega), bu (x + 2) j (by omega), bu (x + 3) j (by omega)]
      exact sk j j0 j1
    | succ n ih =>
      intro k gk c0 e bu c00 c1 c2 c3 c4 c7 c8 c9 c10 c11 ch
      have dg : gk (x + 2) k = plcE W k := (bu (x + 2) k (by omega)).trans (sk k c0 (by omega)).1
      have p180 := P.2.2.1 k c0 (by omega)
      have pb := plc_e h c0 (by omega)
      have hs := hdE_s (W := W) (f := l1) (p := l2) c0
      refine b_13_105 ⟨k1, ?_⟩
      rw [c4, hx.2.2.2.1, dg]
      refine ite_c (fun _ => ite_c (fun _ => ⟨k1, ⟨hx.2.2.2.2.2.2.1.1, c0, by rw [hx.2.2.2.2.2.2.1.2]; omega⟩, k1, f_11 hx c2 c11 h p0 p1 pb.2.1 (by omega) ?_⟩) (fun q => absurd (by omega) q)) (fun q => absurd (by omega) q)
      rw [wr_id (x := k + 1) ⟨by omega, by omega⟩]
      have nx : ∀ v, v = hdE W l1 l2 (k + 1) → okr 218 (x + 1) 1 ∧ okI 218 (r (x + 1) 12) 11 k ∧ ∀ g3, g3 = up gk (r (x + 1) 12) k v → WQ sc (d + 2) 13 Q 105 [(2, x + 1), (0, l1), (0, l2), (0, v), (0, k + 1)] [] g3 r := fun v ev => by
        rw [hx.2.2.2.2.2.1]
        refine ⟨k1, ⟨hx.2.2.2.2.2.2.2.2.1, c0, by rw [hx.2.2.2.2.2.2.2.2.2]; omega⟩, fun g3 e3 => ?_⟩
        rw [ev] at e3 ⊢
        have u : ∀ j, g3 (x + 1) j = gk (x + 1) j := fun j => by rw [e3, up_i (by omega)]
        refine ih (k + 1) g3 (by omega) (by omega) (by rw [e3]; exact bu.u (Or.inr rfl)) (by rw [u]; exact c00) (by rw [u]; exact c1) (by rw [u]; exact c2) (by rw [u]; exact c3) (by rw [u]; exact c4) (by rw [u]; exact c7) (by rw [u]; exact c8) (by rw [u]; exact c9) (by rw [u]; exact c10) (by rw [u]; exact c11) (fun j j0 j1 => ?_)
        rw [e3]
        by_cases z : j = k
        · rw [z, up_s, hs.2]
        · rw [up_j z]; exact ch j j0 (by omega)
      refine w_250 (fun q => nx _ ?_) (fun q => nx _ ?_)
      · rw [hs.1, if_neg (by omega)]
      · rw [hs.1]
        by_cases z : helE W l2 (plcE W k) < hdE W l1 l2 k
        · rw [if_pos z]
        · rw [if_neg z]; omega
  have go : WQ sc (d + 2) 13 Q 17 [(2, x + 1), (0, l1), (0, l2), (9, 0), (9, 0)] [] g r := by
    refine b_13_17 ⟨k1, ?_⟩
    rw [s1, o.1]
    have m2 : 1 * 4 ≤ l2 * W 3 := Int.mul_le_mul p0 w3.1 (by decide) (by omega)
    have key : ∀ v1, v1 = l2 * W 3 → v1 ≠ 0 ∧ okr 218 (x + 1) 1 ∧ ∀ g2, g2 = up g (x + 1) 7 (wr ((wr (10 * l1)).tdiv v1)) → okr 218 (x + 1) 1 ∧ okr 218 (x + 1) 1 ∧ Ce sc (d + 2) 248 [(0, 0), (0, wr ((g2 (x + 1) 1) - (wr (3 * (g2 (x + 1) 0)))))] g2 r fun v2 g3 r2 => okr 218 (x + 1) 1 ∧ (200 : Int) ≠ 0 ∧ Ce sc (d + 2) 250 [(0, 100), (0, wr ((wr (2 * v2)) + (wr ((wr (l2 * (g3 (x + 1) 0))).tdiv 200))))] g3 r2 fun v3 g4 r3 => okr 218 (x + 1) 1 ∧ ∀ g5, g5 = up g4 (x + 1) 8 v3 → okr 218 (x + 1) 1 ∧ okr 218 (x + 1) 1 ∧ (100 : Int) ≠ 0 ∧ okr 218 (x + 1) 1 ∧ ∀ g6, g6 = up g5 (x + 1) 9 (wr ((wr ((g5 (x + 1) 7) * (wr (100 - (g5 (x + 1) 8))))).tdiv 100)) → okr 218 (x + 1) 1 ∧ Ce sc (d + 2) 10 [(2, x + 1), (0, l2)] g6 r3 fun v4 g7 r4 => okr 218 (x + 1) 1 ∧ WQ sc (d + 2) 13 Q 105 [(2, x + 1), (0, l1), (0, l2), (0, g7 (x + 1) 9), (0, 0)] [] g7 r4 := fun v1 ev => by
      rw [ev, o.2.2.1]
      refine ⟨o.2.1, k1, fun g2 e2 => ⟨k1, k1, ?_⟩⟩
      have a1 : g2 (x + 1) 1 = W 3 := by rw [e2, up_j (by decide)]; exact s1
      have a0 : g2 (x + 1) 0 = W 1 := by rw [e2, up_j (by decide)]; exact s0
      rw [a1, a0, sp.1, wr_id (x := W 3 - 3 * W 1) ⟨by omega, by omega⟩]
      have fin : ∀ v3, v3 = splE W l2 → okr 218 (x + 1) 1 ∧ ∀ g5, g5 = up g2 (x + 1) 8 v3 → okr 218 (x + 1) 1 ∧ okr 218 (x + 1) 1 ∧ (100 : Int) ≠ 0 ∧ okr 218 (x + 1) 1 ∧ ∀ g6, g6 = up g5 (x + 1) 9 (wr ((wr ((g5 (x + 1) 7) * (wr (100 - (g5 (x + 1) 8))))).tdiv 100)) → okr 218 (x + 1) 1 ∧ Ce sc (d + 2) 10 [(2, x + 1), (0, l2)] g6 r fun v4 g7 r4 => okr 218 (x + 1) 1 ∧ WQ sc (d + 2) 13 Q 105 [(2, x + 1), (0, l1), (0, l2), (0, g7 (x + 1) 9), (0, 0)] [] g7 r4 := fun v3 e3 => ⟨k1, fun g5 e5 => ⟨k1, k1, by decide, k1, fun g6 e6 => ⟨k1, by
        have b7 : g5 (x + 1) 7 = offE W l1 l2 := by rw [e5, up_j (by decide), e2, up_s]
        have b8 : g5 (x + 1) 8 = splE W l2 := by rw [e5, up_s, e3]
        rw [b7, b8, ge.1] at e6
        have u6 : ∀ j, j ≠ 7 → j ≠ 8 → j ≠ 9 → g6 (x + 1) j = g (x + 1) j := fun j y z t => by rw [e6, up_j t, e5, up_j z, e2, up_j y]
        have bu6 : BUX x g g6 := by rw [e6, e5, e2]; exact (((BUX.rf x g).u (Or.inl rfl)).u (Or.inl rfl)).u (Or.inl rfl)
        have bs6 : BKS g6 x W := ⟨by rw [u6 0 (by decide) (by decide) (by decide)]; exact s0, by rw [u6 1 (by decide) (by decide) (by decide)]; exact s1, by rw [u6 2 (by decide) (by decide) (by decide)]; exact s2, by rw [u6 3 (by decide) (by decide) (by decide)]; exact s3, by rw [u6 4 (by decide) (by decide) (by decide)]; exact s4, fun j j0 j1 => by rw [bu6 (x + 2) j (by omega), bu6 (x + 3) j (by omega)]; exact sk j j0 j1⟩
        refine f_10 hx bs6 h p0 p1 ⟨k1, ?_⟩
        have u7 : ∀ j, j ≠ 14 → j ≠ 10 → j ≠ 11 → up (up (up g6 (x + 1) 14 (-1)) (x + 1) 10 (thrE W l2)) (x + 1) 11 (whoE W l2) (x + 1) j = g6 (x + 1) j := fun j y z t => by rw [up_j t, up_j z, up_j y]
        have d9 : up (up (up g6 (x + 1) 14 (-1)) (x + 1) 10 (thrE W l2)) (x + 1) 11 (whoE W l2) (x + 1) 9 = getE W l1 l2 := by rw [u7 9 (by decide) (by decide) (by decide), e6, up_s]
        rw [d9]
        refine loop (plsE W).toNat 0 _ (by decide) (by omega) (((bu6.u (Or.inl rfl)).u (Or.inl rfl)).u (Or.inl rfl)) ?_ ?_ ?_ ?_ ?_ ?_ ?_ d9 ?_ ?_ (fun j j0 j1 => absurd j1 (by omega))
        · rw [u7 0 (by decide) (by decide) (by decide)]; exact bs6.1
        · rw [u7 1 (by decide) (by decide) (by decide)]; exact bs6.2.1
        · rw [u7 2 (by decide) (by decide) (by decide)]; exact bs6.2.2.1
        · rw [u7 3 (by decide) (by decide) (by decide)]; exact bs6.2.2.2.1
        · rw [u7 4 (by decide) (by decide) (by decide)]; exact bs6.2.2.2.2.1
        · rw [u7 7 (by decide) (by decide) (by decide), e6, up_j (by decide)]; exact b7
        · rw [u7 8 (by decide) (by decide) (by decide), e6, up_j (by decide)]; exact b8
        · rw [up_j (by decide), up_s]
        · rw [up_s]⟩⟩⟩
      have two : ∀ v2, v2 = (if 3 * W 1 < W 3 then W 3 - 3 * W 1 else 0) → okr 218 (x + 1) 1 ∧ (200 : Int) ≠ 0 ∧ Ce sc (d + 2) 250 [(0, 100), (0, wr ((wr (2 * v2)) + (wr ((wr (l2 * (g2 (x + 1) 0))).tdiv 200))))] g2 r fun v3 g4 r3 => okr 218 (x + 1) 1 ∧ ∀ g5, g5 = up g4 (x + 1) 8 v3 → okr 218 (x + 1) 1 ∧ okr 218 (x + 1) 1 ∧ (100 : Int) ≠ 0 ∧ okr 218 (x + 1) 1 ∧ ∀ g6, g6 = up g5 (x + 1) 9 (wr ((wr ((g5 (x + 1) 7) * (wr (100 - (g5 (x + 1) 8))))).tdiv 100)) → okr 218 (x + 1) 1 ∧ Ce sc (d + 2) 10 [(2, x + 1), (0, l2)] g6 r3 fun v4 g7 r4 => okr 218 (x + 1) 1 ∧ WQ sc (d + 2) 13 Q 105 [(2, x + 1), (0, l1), (0, l2), (0, g7 (x + 1) 9), (0, 0)] [] g7 r4 := fun v2 e2' => by
        have t0 : 2 * v2 = (if 3 * W 1 < W 3 then 2 * (W 3 - 3 * W 1) else 0) := by
          rw [e2']
          by_cases z : 3 * W 1 < W 3
          · rw [if_pos z, if_pos z]
          · rw [if_neg z, if_neg z]; rfl
        have v20 : 0 ≤ v2 ∧ v2 ≤ 80 := by
          rw [e2']
          by_cases z : 3 * W 1 < W 3
          · rw [if_pos z]; omega
          · rw [if_neg z]; omega
        refine ⟨k1, by decide, ?_⟩
        rw [a0, sp.2.2.1, wr_id (x := 2 * v2) ⟨by omega, by omega⟩, wr_id (x := 2 * v2 + l2 * W 1 / 200) ⟨by omega, by omega⟩]
        have es : splE W l2 = if 100 < 2 * v2 + l2 * W 1 / 200 then 100 else 2 * v2 + l2 * W 1 / 200 := by
          unfold splE
          rw [← t0]
        refine w_250 (fun q => fin _ ?_) (fun q => fin _ ?_)
        · rw [es]
          by_cases z : 100 < 2 * v2 + l2 * W 1 / 200
          · rw [if_pos z]
          · rw [if_neg z]; omega
        · rw [es]
          by_cases z : 100 < 2 * v2 + l2 * W 1 / 200
          · rw [if_pos z]; omega
          · rw [if_neg z]
      refine w_248 (fun q => two _ ?_) (fun q => two _ ?_)
      · rw [if_neg (by omega)]
      · by_cases z : 3 * W 1 < W 3
        · rw [if_pos z]
        · rw [if_neg z]; omega
    exact w_248 (fun q => key _ (by omega)) (fun _ => key _ rfl)
  refine c_13 ⟨k1, ite_c (fun q => ⟨k1, ite_c (fun q2 => ?_) (fun _ => go)⟩) (fun _ => go)⟩
  have fil := hb.2 (by omega) (by omega) (by omega) (by omega)
  rw [← q, ← q2] at fil
  exact hq g (BUX.rf x g) hb fil
end BKT
