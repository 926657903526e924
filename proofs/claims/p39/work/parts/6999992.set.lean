/-! a bucket settled; a bucket filled by any numbers; the last degree -/
theorem cosD_e {W : Int → Int} (h : WBd W) {k v : Int} (k0 : 0 ≤ k) (e : v = (if plcE W (k + 1) < 180 then plcE W (k + 1) else 180)) : cosV v = cosD W k := by
  have P := pls_b h
  unfold cosD
  by_cases z : plcE W (k + 1) < 180
  · have y : k + 1 < plsE W := Decidable.byContradiction fun q => by
      have := P.2.2.2 (k + 1) (by omega)
      omega
    rw [if_pos y, e, if_pos z]
  · have y : ¬ k + 1 < plsE W := fun q => z (P.2.2.1 (k + 1) (by omega) q)
    rw [if_neg y, e, if_neg z]
/-- the last degree at which a bucket holds nothing -/
def ldR (W : Int → Int) (p : Int) : Nat → Int → Int
  | 0, _ => 180
  | n + 1, a => if helE W p a = 0 then a else ldR W p n (a + 1)
def ldE (W : Int → Int) (p : Int) : Int := ldR W p 180 0
section SET
variable {sc : SCR} {d : Nat} {Q : QJ} {g r : GH} {l0 l1 l2 l3 l4 l5 x f p : Int} {W : Int → Int}
theorem f_9 (hx : WXO r x) (wh : WHR g x W) (h : WBd W) (hq : ∀ g', (∀ i j, ¬ (x + 1 ≤ i ∧ i ≤ x + 3) → g' i j = g i j) → BK3 g' x W → Q 0 g' r) : Ce sc (d + 4) 9 [(2, x + 1), (2, x)] g r Q := by
  have kx := hx.1
  have k1 := hx.2.1
  have P := pls_b h
  have w3 := h.2.2.1
  have w6 := h.2.2.2.2.2.1
  have a2 := hx.2.2.2.2.2.2.1
  have a3 := hx.2.2.2.2.2.2.2.1
  have fr1 : ∀ {a b : GH} {i j v : Int}, (∀ i j, ¬ (x + 1 ≤ i ∧ i ≤ x + 3) → b i j = a i j) → (x + 1 ≤ i ∧ i ≤ x + 3) → ∀ y z, ¬ (x + 1 ≤ y ∧ y ≤ x + 3) → up b i j v y z = a y z := fun hb hi y z hy => by rw [up_i (by omega)]; exact hb y z hy
  have loop : ∀ (n : Nat) (k : Int) (gk : GH), 0 ≤ k → k + n = 40 → (∀ i j, ¬ (x + 1 ≤ i ∧ i ≤ x + 3) → gk i j = g i j) → gk (x + 1) 0 = W 1 → gk (x + 1) 1 = W 3 → gk (x + 1) 2 = W 5 → gk (x + 1) 3 = capE W → gk (x + 1) 4 = k → gk (x + 1) 13 = -1 → (∀ j, 0 ≤ j → j < k → plcE W j < 180 ∧ gk (x + 2) j = plcE W j ∧ gk (x + 3) j = drC W j) → WQ sc (d + 3) 9 Q 66 [(2, x + 1), (2, x), (0, k), (9, 0), (9, 0)] [] gk r := by
    intro n
    have last : ∀ (k : Int) (gk : GH), 0 ≤ k → k ≤ 40 → (k = 40 ∨ 180 ≤ plcE W k) → (∀ i j, ¬ (x + 1 ≤ i ∧ i ≤ x + 3) → gk i j = g i j) → gk (x + 1) 0 = W 1 → gk (x + 1) 1 = W 3 → gk (x + 1) 2 = W 5 → gk (x + 1) 3 = capE W → gk (x + 1) 4 = k → gk (x + 1) 13 = -1 → (∀ j, 0 ≤ j → j < k → plcE W j < 180 ∧ gk (x + 2) j = plcE W j ∧ gk (x + 3) j = drC W j) → Q 0 gk r := fun k gk c0 c40 hk bu c00 c1 c2 c3 c4 c13 ch => by
      have ge : k ≤ plsE W := Decidable.byContradiction fun q => by
        have a := P.2.2.2 (plsE W) (Int.le_refl _)
        have b := (ch (plsE W) P.1 (by omega)).1
        omega
      have le : plsE W ≤ k := Decidable.byContradiction fun q => by
        rcases hk with y | y
        · have := P.2.1; omega
        · have := P.2.2.1 k c0 (by omega); omega
      have ek : k = plsE W := by omega
      exact hq gk bu ⟨⟨c00, c1, c2, c3, by rw [c4]; exact ek, fun j j0 j1 => (ch j j0 (by omega)).2⟩, fun a _ _ _ => absurd a (by omega)⟩
    induction n with
    | zero =>
      intro k gk c0 e bu c00 c1 c2 c3 c4 c13 ch
      exact b_9_66 (ite_c (fun q => absurd q (by omega)) (fun _ => last k gk c0 (by omega) (Or.inl (by omega)) bu c00 c1 c2 c3 c4 c13 ch))
    | succ n ih =>
      intro k gk c0 e bu c00 c1 c2 c3 c4 c13 ch
      have pb := plc_e h c0 (by omega)
      have pb1 := plc_e h (k := k + 1) (by omega) (by omega)
      have g6 : gk x 6 = W 6 := (bu x 6 (by omega)).trans wh.2.2.2.2.2.2.1
      have wk : wr (k + 1) = k + 1 := wr_id ⟨by omega, by omega⟩
      refine b_9_66 (ite_c (fun _ => ⟨kx, k1, ?_, ?_⟩) (fun q => absurd (by omega) q))
      · rw [c1]; omega
      rw [c1, g6, pb.1, wk, pb1.1]
      refine ite_c (fun q => ⟨kx, k1, by omega, ?_⟩) (fun q => last k gk c0 (by omega) (Or.inr (by omega)) bu c00 c1 c2 c3 c4 c13 ch)
      have key : ∀ v1, v1 = (if plcE W (k + 1) < 180 then plcE W (k + 1) else 180) → 0 ≤ v1 → v1 ≤ 180 → okr 218 (x + 1) 1 ∧ okI 218 (r (x + 1) 5) 11 k ∧ ∀ g2, g2 = up gk (r (x + 1) 5) k (plcE W k) → okr 218 (x + 1) 1 ∧ Ce sc (d + 3) 18 [(0, plcE W k)] g2 r fun v2 g3 r2 => Ce sc (d + 3) 18 [(0, v1)] g3 r2 fun v3 g4 r3 => okI 218 (r (x + 1) 6) 11 k ∧ ∀ g5, g5 = up g4 (r (x + 1) 6) k (wr (v2 - v3)) → okr 218 (x + 1) 1 ∧ ∀ g6, g6 = up g5 (x + 1) 4 (k + 1) → WQ sc (d + 3) 9 Q 66 [(2, x + 1), (2, x), (0, k + 1), (9, 0), (9, 0)] [] g6 r3 := fun v1 ev v10 v11 => by
        rw [hx.2.2.2.1, hx.2.2.2.2.1]
        refine ⟨k1, ⟨a2.1, c0, by rw [a2.2]; omega⟩, fun g2 e2 => ⟨k1, w_18 pb.2.1 (by omega) (w_18 v10 v11 ⟨⟨a3.1, c0, by rw [a3.2]; omega⟩, fun g5 e5 => ⟨k1, fun g6 e6 => ?_⟩⟩)⟩⟩
        rw [cosD_e h c0 ev] at e5
        have u : ∀ j, j ≠ 4 → g6 (x + 1) j = gk (x + 1) j := fun j hj => by rw [e6, up_j hj, e5, up_i (by omega), e2, up_i (by omega)]
        refine ih (k + 1) g6 (by omega) (by omega) (by rw [e6, e5, e2]; exact fr1 (fr1 (fr1 bu (by omega)) (by omega)) (by omega)) (by rw [u 0 (by decide)]; exact c00) (by rw [u 1 (by decide)]; exact c1) (by rw [u 2 (by decide)]; exact c2) (by rw [u 3 (by decide)]; exact c3) (by rw [e6, up_s]) (by rw [u 13 (by decide)]; exact c13) (fun j j0 j1 => ?_)
        by_cases z : j = k
        · rw [z]
          refine ⟨q, ?_, ?_⟩
          · rw [e6, up_i (by omega), e5, up_i (by omega), e2, up_s]
          · rw [e6, up_i (by omega), e5, up_s]; rfl
        · have o := ch j j0 (by omega)
          refine ⟨o.1, ?_, ?_⟩
          · rw [e6, up_i (by omega), e5, up_i (by omega), e2, up_j z]; exact o.2.1
          · rw [e6, up_i (by omega), e5, up_j z, e2, up_i (by omega)]; exact o.2.2
      refine w_250 (fun y => key _ ?_ (by decide) (by decide)) (fun y => key _ ?_ (by omega) (by omega))
      · rw [if_neg (by omega)]
      · by_cases z : plcE W (k + 1) < 180
        · rw [if_pos z]
        · rw [if_neg z]; omega
  have key : ∀ v1, v1 = W 3 → okr 218 (x + 1) 1 ∧ ∀ g3, g3 = up (up g (x + 1) 0 (g x 1)) (x + 1) 1 v1 → okr 218 x 7 ∧ okr 218 (x + 1) 1 ∧ ∀ g4, g4 = up g3 (x + 1) 2 (g3 x 5) → okr 218 x 7 ∧ okr 218 x 7 ∧ okr 218 (x + 1) 1 ∧ okr 218 (x + 1) 1 ∧ (g4 (x + 1) 1) ≠ 0 ∧ okr 218 (x + 1) 1 ∧ ∀ g5, g5 = up g4 (x + 1) 3 (wr ((wr ((wr ((wr (12 * (g4 x 2))) * (g4 x 4))) * (g4 (x + 1) 0))).tdiv (g4 (x + 1) 1))) → okr 218 (x + 1) 1 ∧ ∀ g6, g6 = up g5 (x + 1) 4 0 → okr 218 (x + 1) 1 ∧ ∀ g7, g7 = up g6 (x + 1) 13 (-1) → WQ sc (d + 3) 9 Q 66 [(2, x + 1), (2, x), (0, 0), (9, 0), (9, 0)] [] g7 r := fun v1 ev => ⟨k1, fun g3 e3 => ⟨kx, k1, fun g4 e4 => by
    have y3 : ∀ j, g3 x j = g x j := fun j => by rw [e3, up_i (by omega), up_i (by omega)]
    have y4 : ∀ j, g4 x j = g x j := fun j => by rw [e4, up_i (by omega), y3]
    have b1 : g4 (x + 1) 1 = W 3 := by rw [e4, up_j (by decide), e3, up_s, ev]
    have b0 : g4 (x + 1) 0 = W 1 := by rw [e4, up_j (by decide), e3, up_j (by decide), up_s]; exact wh.2.1
    rw [b1, b0, y4, y4, wh.2.2.1, wh.2.2.2.2.1, (cap_e h).1]
    refine ⟨kx, kx, k1, k1, by omega, k1, fun g5 e5 => ⟨k1, fun g6 e6 => ⟨k1, fun g7 e7 => ?_⟩⟩⟩
    refine loop 40 0 g7 (by decide) (by decide) ?_ ?_ ?_ ?_ ?_ ?_ ?_ (fun j j0 j1 => absurd j1 (by omega))
    · rw [e7, e6, e5, e4, e3]
      exact fr1 (fr1 (fr1 (fr1 (fr1 (fr1 (fun _ _ _ => rfl) (by omega)) (by omega)) (by omega)) (by omega)) (by omega)) (by omega)
    · rw [e7, up_j (by decide), e6, up_j (by decide), e5, up_j (by decide)]; exact b0
    · rw [e7, up_j (by decide), e6, up_j (by decide), e5, up_j (by decide)]; exact b1
    · rw [e7, up_j (by decide), e6, up_j (by decide), e5, up_j (by decide), e4, up_s, y3]; exact wh.2.2.2.2.2.1
    · rw [e7, up_j (by decide), e6, up_j (by decide), e5, up_s]
    · rw [e7, up_j (by decide), e6, up_s]
    · rw [e7, up_s]⟩⟩
  refine c_9 ⟨kx, k1, fun g1 e1 => ⟨kx, ?_⟩⟩
  have m3 : g1 x 3 = W 3 := by rw [e1, up_i (by omega)]; exact wh.2.2.2.1
  rw [m3, e1]
  exact w_248 (fun q => key _ (by omega)) (fun _ => key _ rfl)
theorem f_12 (hx : WXO r x) (hb : BKS g x W) (h : WBd W) (p0 : 1 ≤ l1) (p1 : l1 ≤ 300) (hq : ∀ g', BUX x g g' → BK3 g' x W → Q (ldE W l1) g' r) : Ce sc (d + 3) 12 [(2, x + 1), (0, l1)] g r Q := by
  have k1 := hx.2.1
  refine c_12 ⟨k1, f_10 hx hb h p0 p1 ?_⟩
  have bu : BUX x g (up (up (up g (x + 1) 14 (-1)) (x + 1) 10 (thrE W l1)) (x + 1) 11 (whoE W l1)) := (((BUX.rf x g).u (Or.inl rfl)).u (Or.inl rfl)).u (Or.inl rfl)
  have u : ∀ j, j ≠ 14 → j ≠ 10 → j ≠ 11 → up (up (up g (x + 1) 14 (-1)) (x + 1) 10 (thrE W l1)) (x + 1) 11 (whoE W l1) (x + 1) j = g (x + 1) j := fun j a b c => by rw [up_j c, up_j b, up_j a]
  have e11 : up (up (up g (x + 1) 14 (-1)) (x + 1) 10 (thrE W l1)) (x + 1) 11 (whoE W l1) (x + 1) 11 = whoE W l1 := up_s
  have e14 : up (up (up g (x + 1) 14 (-1)) (x + 1) 10 (thrE W l1)) (x + 1) 11 (whoE W l1) (x + 1) 14 = -1 := by rw [up_j (by decide), up_j (by decide), up_s]
  have b3 : BK3 (up (up (up g (x + 1) 14 (-1)) (x + 1) 10 (thrE W l1)) (x + 1) 11 (whoE W l1)) x W := ⟨⟨by rw [u 0 (by decide) (by decide) (by decide)]; exact hb.1, by rw [u 1 (by decide) (by decide) (by decide)]; exact hb.2.1, by rw [u 2 (by decide) (by decide) (by decide)]; exact hb.2.2.1, by rw [u 3 (by decide) (by decide) (by decide)]; exact hb.2.2.2.1, by rw [u 4 (by decide) (by decide) (by decide)]; exact hb.2.2.2.2.1, fun j j0 j1 => by rw [bu (x + 2) j (by omega), bu (x + 3) j (by omega)]; exact hb.2.2.2.2.2 j j0 j1⟩, fun _ _ a _ => absurd a (by omega)⟩
  have hq' := hq _ bu b3
  have e2 := b3.1.2.2.1
  have loop : ∀ (n : Nat) (a : Int), 0 ≤ a → a + n = 180 → ldR W l1 n a = ldE W l1 → WQ sc (d + 2) 12 Q 7 [(2, x + 1), (9, 0), (0, a)] [] (up (up (up g (x + 1) 14 (-1)) (x + 1) 10 (thrE W l1)) (x + 1) 11 (whoE W l1)) r := by
    intro n
    induction n with
    | zero =>
      intro a a0 e es
      have es' : 180 = ldE W l1 := es
      refine b_12_7 (ite_c (fun q => absurd q (by omega)) (fun _ => ?_))
      rw [es']; exact hq'
    | succ n ih =>
      intro a a0 e es
      have es' : (if helE W l1 a = 0 then a else ldR W l1 n (a + 1)) = ldE W l1 := es
      refine b_12_7 (ite_c (fun _ => ⟨k1, f_11 hx e2 e11 h p0 p1 a0 (by omega) (ite_c (fun q => ?_) (fun q => ?_))⟩) (fun q => absurd (by omega) q))
      · rw [if_pos q] at es'
        rw [es']; exact hq'
      · rw [if_neg q] at es'
        rw [wr_id (x := a + 1) ⟨by omega, by omega⟩]
        exact ih _ (by omega) (by omega) es'
  exact loop 180 0 (by decide) (by decide) rfl
end SET
