/-! the class's wheel by any numbers: the bucket stays settled, and what it keeps of a filling is right -/
section ANY
variable {sc : SCR} {d : Nat} {Q : QJ} {g r : GH} {l0 l1 l2 l3 l4 l5 x f p : Int} {W : Int → Int}
theorem BKS.fr {g g' : GH} {x : Int} {W : Int → Int} (h : BKS g x W) (e1 : ∀ j, 0 ≤ j → j ≤ 4 → g' (x + 1) j = g (x + 1) j) (e2 : ∀ j, g' (x + 2) j = g (x + 2) j) (e3 : ∀ j, g' (x + 3) j = g (x + 3) j) : BKS g' x W := by
  unfold BKS
  rw [e1 0 (by decide) (by decide), e1 1 (by decide) (by decide), e1 2 (by decide) (by decide), e1 3 (by decide) (by decide), e1 4 (by decide) (by decide)]
  obtain ⟨a, b, c, f, e, k⟩ := h
  exact ⟨a, b, c, f, e, fun j j0 j1 => by rw [e2, e3]; exact k j j0 j1⟩
theorem ay_10 (hx : WXO r x) (hb : BKS g x W) (hq : ∀ g', BUX x g g' → BKS g' x W → g' (x + 1) 14 = -1 → (∀ j, j ≠ 14 → j ≠ 10 → j ≠ 11 → g' (x + 1) j = g (x + 1) j) → Q 0 g' r) : Ce sc (d + 2) 10 [(2, x + 1), (0, l1)] g r Q := by
  have k1 := hx.2.1
  refine c_10 ⟨k1, fun g1 e1 => ⟨k1, by decide, ?_⟩⟩
  have key : ∀ v, okr 218 (x + 1) 1 ∧ ∀ g3, g3 = up g1 (x + 1) 10 v → okr 218 (x + 1) 1 ∧ okr 218 (x + 1) 1 ∧ (1000 : Int) ≠ 0 ∧ okr 218 (x + 1) 1 ∧ ∀ g4, g4 = up g3 (x + 1) 11 (wr ((wr ((g3 (x + 1) 3) * (wr (1000 - (g3 (x + 1) 10))))).tdiv 1000)) → Q 0 g4 r := fun v => ⟨k1, fun g3 e3 => ⟨k1, k1, by decide, k1, fun g4 e4 => by
    have u : ∀ j, j ≠ 14 → j ≠ 10 → j ≠ 11 → g4 (x + 1) j = g (x + 1) j := fun j a b c => by rw [e4, up_j c, e3, up_j b, e1, up_j a]
    have bu : BUX x g g4 := by rw [e4, e3, e1]; exact (((BUX.rf x g).u (Or.inl rfl)).u (Or.inl rfl)).u (Or.inl rfl)
    exact hq g4 bu (hb.fr (fun j j0 j4 => u j (by omega) (by omega) (by omega)) (fun j => bu _ _ (by omega)) (fun j => bu _ _ (by omega))) (by rw [e4, up_j (by decide), e3, up_j (by decide), e1, up_s]) u⟩⟩
  exact w_250 (fun _ => key _) (fun _ => key _)
theorem ay_11 (hx : WXO r x) (h : ∀ v, Q v g r) : Ce sc (d + 1) 11 [(2, x + 1), (0, l1)] g r Q :=
  c_11 ⟨hx.2.1, hx.2.1, by decide, ite_c (fun _ => h _) (fun _ => ⟨hx.2.1, ite_c (fun _ => ⟨hx.2.1, h _⟩) (fun _ => h _)⟩)⟩
theorem ay_12 (hx : WXO r x) (hb : BKS g x W) (hq : ∀ v g', BUX x g g' → BK3 g' x W → Q v g' r) : Ce sc (d + 3) 12 [(2, x + 1), (0, l1)] g r Q := by
  have k1 := hx.2.1
  refine c_12 ⟨k1, ay_10 hx hb (fun g' bu bs e14 _ => ?_)⟩
  have b3 : BK3 g' x W := ⟨bs, fun _ _ a _ => absurd a (by omega)⟩
  have loop : ∀ (n : Nat) (a : Int), 0 ≤ a → a + n = 180 → WQ sc (d + 2) 12 Q 7 [(2, x + 1), (9, 0), (0, a)] [] g' r := by
    intro n
    induction n with
    | zero => intro a a0 e; exact b_12_7 (ite_c (fun q => absurd q (by omega)) (fun _ => hq _ _ bu b3))
    | succ n ih =>
      intro a a0 e
      refine b_12_7 (ite_c (fun _ => ⟨k1, ay_11 hx (fun v => ite_c (fun _ => hq _ _ bu b3) (fun _ => ?_))⟩) (fun q => absurd (by omega) q))
      rw [wr_id (x := a + 1) ⟨by omega, by omega⟩]
      exact ih _ (by omega) (by omega)
  exact loop 180 0 (by decide) (by decide)
theorem ay_13 (hx : WXO r x) (hb : BK3 g x W) (h : WBd W) (hq : ∀ g', BUX x g g' → BK3 g' x W → Q 0 g' r) : Ce sc (d + 3) 13 [(2, x + 1), (0, l1), (0, l2)] g r Q := by
  by_cases ok : (0 ≤ l1 ∧ l1 ≤ 99999) ∧ 1 ≤ l2 ∧ l2 ≤ 300
  · exact f_13 hx hb h ok.1.1 ok.1.2 ok.2.1 ok.2.2 (fun g' bu b3 _ => hq g' bu b3)
  have k1 := hx.2.1
  have P := pls_b h
  have loop : ∀ (n : Nat) (k had : Int) (gk : GH), 0 ≤ k → k + n = plsE W → BUX x g gk → BKS gk x W → WQ sc (d + 2) 13 Q 105 [(2, x + 1), (0, l1), (0, l2), (0, had), (0, k)] [] gk r := by
    intro n
    induction n with
    | zero =>
      intro k had gk c0 e bu bs
      refine b_13_105 ⟨k1, ?_⟩
      rw [bs.2.2.2.2.1]
      refine ite_c (fun q => absurd q (by omega)) (fun _ => ⟨k1, fun g1 e1 => ⟨k1, fun g2 e2 => ?_⟩⟩)
      have e13 : g2 (x + 1) 13 = l1 := by rw [e2, up_j (by decide), e1, up_s]
      have e14 : g2 (x + 1) 14 = l2 := by rw [e2, up_s]
      refine hq g2 (bu.tr (by rw [e2, e1]; exact ((BUX.rf x gk).u (Or.inl rfl)).u (Or.inl rfl))) ⟨bs.fr (fun j j0 j4 => by rw [e2, up_j (by omega), e1, up_j (by omega)]) (fun j => by rw [e2, up_i (by omega), e1, up_i (by omega)]) (fun j => by rw [e2, up_i (by omega), e1, up_i (by omega)]), fun a b c f => ?_⟩
      rw [e13] at a b
      rw [e14] at c f
      exact absurd ⟨⟨a, b⟩, c, f⟩ ok
    | succ n ih =>
      intro k had gk c0 e bu bs
      refine b_13_105 ⟨k1, ?_⟩
      rw [bs.2.2.2.2.1, hx.2.2.2.1]
      refine ite_c (fun _ => ite_c (fun _ => ⟨k1, ⟨hx.2.2.2.2.2.2.1.1, c0, by rw [hx.2.2.2.2.2.2.1.2]; omega⟩, k1, ay_11 hx (fun v => ?_)⟩) (fun q => absurd (by omega) q)) (fun q => absurd (by omega) q)
      rw [wr_id (x := k + 1) ⟨by omega, by omega⟩]
      have nx : ∀ v, okr 218 (x + 1) 1 ∧ okI 218 (r (x + 1) 12) 11 k ∧ ∀ g3, g3 = up gk (r (x + 1) 12) k v → WQ sc (d + 2) 13 Q 105 [(2, x + 1), (0, l1), (0, l2), (0, v), (0, k + 1)] [] g3 r := fun v => by
        rw [hx.2.2.2.2.2.1]
        exact ⟨k1, ⟨hx.2.2.2.2.2.2.2.2.1, c0, by rw [hx.2.2.2.2.2.2.2.2.2]; omega⟩, fun g3 e3 => ih (k + 1) v g3 (by omega) (by omega) (by rw [e3]; exact bu.u (Or.inr rfl)) (bs.fr (fun j _ _ => by rw [e3, up_i (by omega)]) (fun j => by rw [e3, up_i (by omega)]) (fun j => by rw [e3, up_i (by omega)]))⟩
      exact w_250 (fun _ => nx _) (fun _ => nx _)
  have go : WQ sc (d + 2) 13 Q 17 [(2, x + 1), (0, l1), (0, l2), (9, 0), (9, 0)] [] g r := by
    refine b_13_17 ⟨k1, ?_⟩
    have key : ∀ v1, 1 ≤ v1 → v1 ≠ 0 ∧ okr 218 (x + 1) 1 ∧ ∀ g2, g2 = up g (x + 1) 7 (wr ((wr (10 * l1)).tdiv v1)) → okr 218 (x + 1) 1 ∧ okr 218 (x + 1) 1 ∧ Ce sc (d + 2) 248 [(0, 0), (0, wr ((g2 (x + 1) 1) - (wr (3 * (g2 (x + 1) 0)))))] g2 r fun v2 g3 r2 => okr 218 (x + 1) 1 ∧ (200 : Int) ≠ 0 ∧ Ce sc (d + 2) 250 [(0, 100), (0, wr ((wr (2 * v2)) + (wr ((wr (l2 * (g3 (x + 1) 0))).tdiv 200))))] g3 r2 fun v3 g4 r3 => okr 218 (x + 1) 1 ∧ ∀ g5, g5 = up g4 (x + 1) 8 v3 → okr 218 (x + 1) 1 ∧ okr 218 (x + 1) 1 ∧ (100 : Int) ≠ 0 ∧ okr 218 (x + 1) 1 ∧ ∀ g6, g6 = up g5 (x + 1) 9 (wr ((wr ((g5 (x + 1) 7) * (wr (100 - (g5 (x + 1) 8))))).tdiv 100)) → okr 218 (x + 1) 1 ∧ Ce sc (d + 2) 10 [(2, x + 1), (0, l2)] g6 r3 fun v4 g7 r4 => okr 218 (x + 1) 1 ∧ WQ sc (d + 2) 13 Q 105 [(2, x + 1), (0, l1), (0, l2), (0, g7 (x + 1) 9), (0, 0)] [] g7 r4 := fun v1 h1 => ⟨by omega, k1, fun g2 e2 => ⟨k1, k1, by
      have fin : ∀ v3, okr 218 (x + 1) 1 ∧ ∀ g5, g5 = up g2 (x + 1) 8 v3 → okr 218 (x + 1) 1 ∧ okr 218 (x + 1) 1 ∧ (100 : Int) ≠ 0 ∧ okr 218 (x + 1) 1 ∧ ∀ g6, g6 = up g5 (x + 1) 9 (wr ((wr ((g5 (x + 1) 7) * (wr (100 - (g5 (x + 1) 8))))).tdiv 100)) → okr 218 (x + 1) 1 ∧ Ce sc (d + 2) 10 [(2, x + 1), (0, l2)] g6 r fun v4 g7 r4 => okr 218 (x + 1) 1 ∧ WQ sc (d + 2) 13 Q 105 [(2, x + 1), (0, l1), (0, l2), (0, g7 (x + 1) 9), (0, 0)] [] g7 r4 := fun v3 => ⟨k1, fun g5 e5 => ⟨k1, k1, by decide, k1, fun g6 e6 => ⟨k1, by
        have bu6 : BUX x g g6 := by rw [e6, e5, e2]; exact (((BUX.rf x g).u (Or.inl rfl)).u (Or.inl rfl)).u (Or.inl rfl)
        have bs6 : BKS g6 x W := hb.1.fr (fun j j0 j4 => by rw [e6, up_j (by omega), e5, up_j (by omega), e2, up_j (by omega)]) (fun j => bu6 _ _ (by omega)) (fun j => bu6 _ _ (by omega))
        exact ay_10 hx bs6 (fun g7 bu7 bs7 _ _ => ⟨k1, loop (plsE W).toNat 0 _ g7 (by decide) (by omega) (bu6.tr bu7) bs7⟩)⟩⟩⟩
      have two : ∀ v2, okr 218 (x + 1) 1 ∧ (200 : Int) ≠ 0 ∧ Ce sc (d + 2) 250 [(0, 100), (0, wr ((wr (2 * v2)) + (wr ((wr (l2 * (g2 (x + 1) 0))).tdiv 200))))] g2 r fun v3 g4 r3 => okr 218 (x + 1) 1 ∧ ∀ g5, g5 = up g4 (x + 1) 8 v3 → okr 218 (x + 1) 1 ∧ okr 218 (x + 1) 1 ∧ (100 : Int) ≠ 0 ∧ okr 218 (x + 1) 1 ∧ ∀ g6, g6 = up g5 (x + 1) 9 (wr ((wr ((g5 (x + 1) 7) * (wr (100 - (g5 (x + 1) 8))))).tdiv 100)) → okr 218 (x + 1) 1 ∧ Ce sc (d + 2) 10 [(2, x + 1), (0, l2)] g6 r3 fun v4 g7 r4 => okr 218 (x + 1) 1 ∧ WQ sc (d + 2) 13 Q 105 [(2, x + 1), (0, l1), (0, l2), (0, g7 (x + 1) 9), (0, 0)] [] g7 r4 := fun v2 => ⟨k1, by decide, w_250 (fun _ => fin _) (fun _ => fin _)⟩
      exact w_248 (fun _ => two _) (fun _ => two _)⟩⟩
    exact w_248 (fun _ => key _ (Int.le_refl _)) (fun q => key _ q)
  exact c_13 ⟨k1, ite_c (fun _ => ⟨k1, ite_c (fun _ => hq g (BUX.rf x g) hb) (fun _ => go)⟩) (fun _ => go)⟩
theorem ay_16 (hx : WXO r x) (bs : BKS g x W) (h : WBd W) (hq : ∀ v, Q v g r) : Ce sc (d + 1) 16 [(2, x + 1)] g r Q := by
  have k1 := hx.2.1
  have P := pls_b h
  have a3 := hx.2.2.2.2.2.2.2.1
  have a4 := hx.2.2.2.2.2.2.2.2
  have loop : ∀ (n : Nat) (k acc : Int), 0 ≤ k → k + n = plsE W → WQ sc d 16 Q 4 [(2, x + 1), (1, acc), (8, 0), (0, k)] [] g r := by
    intro n
    induction n with
    | zero =>
      intro k acc c0 e
      refine b_16_4 ⟨k1, ?_⟩
      rw [bs.2.2.2.2.1]
      exact ite_c (fun q => absurd q (by omega)) (fun _ => ⟨k1, by decide, hq _⟩)
    | succ n ih =>
      intro k acc c0 e
      refine b_16_4 ⟨k1, ?_⟩
      rw [bs.2.2.2.2.1, hx.2.2.2.2.2.1, hx.2.2.2.2.1, wr_id (x := k + 1) ⟨by omega, by omega⟩]
      exact ite_c (fun _ => ite_c (fun _ => ⟨k1, ⟨a4.1, c0, by rw [a4.2]; omega⟩, k1, ⟨a3.1, c0, by rw [a3.2]; omega⟩, ih _ _ (by omega) (by omega)⟩) (fun q => absurd (by omega) q)) (fun q => absurd (by omega) q)
  exact c_16 (loop (plsE W).toNat 0 0 (by decide) (by omega))
theorem ay_60 (hx : okr 218 x 7) (h : ∀ v, Q v g r) : Ce sc (d + 2) 60 [(2, x), (0, l1), (0, l2), (0, l3)] g r Q := by
  refine c_60 ⟨hx, by decide, s_61 (fun v => ?_)⟩
  exact w_248 (fun _ => ⟨by decide, h _⟩) (fun _ => ⟨by decide, h _⟩)
theorem ay_59 (hx : WXO r x) (hb : BK3 g x W) (h : WBd W) (hq : ∀ v g', BUX x g g' → BK3 g' x W → Q v g' r) : Ce sc (d + 4) 59 [(2, x), (0, l1), (0, l2), (0, l3)] g r Q := by
  have kx := hx.1
  refine c_59 (ite_c (fun z => hq _ g (BUX.rf x g) hb) (fun _ => ⟨kx, ite_c (fun z => ⟨kx, ay_60 kx (fun v => hq _ g (BUX.rf x g) hb)⟩) (fun z => ⟨kx, ?_⟩)⟩))
  rw [hx.2.2.1]
  refine ⟨hx.2.1, ay_13 hx hb h (fun g' bu b3 => ⟨kx, ?_⟩)⟩
  rw [hx.2.2.1]
  exact ⟨hx.2.1, ay_16 hx b3.1 h (fun v => ⟨kx, by decide, hq _ g' bu b3⟩)⟩
theorem ay_62 (hx : WXO r x) (hb : BK3 g x W) (h : WBd W) (hq : ∀ v g', BUX x g g' → BK3 g' x W → Q v g' r) : Ce sc (d + 5) 62 [(2, x), (0, l1), (0, l2), (0, l3), (0, l4)] g r Q := by
  have kx := hx.1
  refine c_62 ⟨kx, kx, by decide, kx, ay_59 hx hb h (fun v g' bu b3 => ?_)⟩
  exact w_249 (fun _ => hq _ g' bu b3) (fun _ => hq _ g' bu b3)
theorem ay_63 (hx : WXO r x) (hb : BK3 g x W) (h : WBd W) (hq : ∀ v g', BUX x g g' → BK3 g' x W → Q v g' r) : Ce sc (d + 6) 63 [(2, x), (0, l1)] g r Q :=
  c_63 ⟨hx.1, hx.1, ay_62 hx hb h hq⟩
theorem ay_64 (hx : WXO r x) (hb : BK3 g x W) (h : WBd W) (hq : ∀ v g', BUX x g g' → BK3 g' x W → Q v g' r) : Ce sc (d + 6) 64 [(2, x), (0, l1), (0, l2), (0, l3)] g r Q := by
  have kx := hx.1
  have loop : ∀ (n : Nat) (p b y : Int) (gk : GH), 1 ≤ p → p + n = 301 → BUX x g gk → BK3 gk x W → WQ sc (d + 5) 64 Q 11 [(2, x), (0, l1), (0, l2), (0, l3), (0, b), (1, y), (8, 0), (0, p), (9, 0), (9, 0)] [] gk r := by
    intro n
    induction n with
    | zero => intro p b y gk pp e bu b3; exact b_64_11 (ite_c (fun _ => hq _ gk bu b3) (fun q => absurd (by omega) q))
    | succ n ih =>
      intro p b y gk pp e bu b3
      refine b_64_11 (ite_c (fun q => absurd q (by omega)) (fun _ => ⟨kx, ay_62 hx b3 h (fun v g' bu' b3' => ?_)⟩))
      rw [wr_id (x := p + 1) ⟨by omega, by omega⟩]
      exact ite_c (fun _ => ih _ _ _ g' (by omega) (by omega) (bu.tr bu') b3') (fun _ => ih _ _ _ g' (by omega) (by omega) (bu.tr bu') b3')
  exact c_64 (loop 300 1 1 (-1) g (by decide) (by decide) (BUX.rf x g) hb)
end ANY
