/-! the reference's reading comes to its end: statements and conditions -/
/-- all but the reader's own numbers -/
def RX (g g' : GH) : Prop := ∀ i j, ¬ (i = 165 ∧ (j = 25 ∨ j = 27 ∨ j = 28 ∨ j = 29 ∨ j = 30 ∨ j = 32 ∨ j = 33)) → g' i j = g i j
theorem RX.rf (g : GH) : RX g g := fun _ _ _ => rfl
theorem RX.tr {a b c : GH} (h1 : RX a b) (h2 : RX b c) : RX a c := fun i j h => (h2 i j h).trans (h1 i j h)
theorem OX.rx {a b : GH} (h : OX a b) : RX a b := fun i j hi => h i j (fun q => hi ⟨q.1, by have := q.2; omega⟩)
theorem RX.u {a b : GH} {j v : Int} (h : RX a b) (hj : j = 25 ∨ j = 27 ∨ j = 28 ∨ j = 29 ∨ j = 30 ∨ j = 32 ∨ j = 33) : RX a (up b 165 j v) := fun i k hi => by
  have : ¬ (i = 165 ∧ k = j) := fun q => hi ⟨q.1, by rw [q.2]; exact hj⟩
  rw [up_o this]; exact h i k hi
/-- one step of the reading: forward, and a fault stays -/
def RS2 (g g' : GH) : Prop := RX g g' ∧ RV g' ∧ g 165 28 ≤ g' 165 28 ∧ (g 165 33 ≠ 0 → g' 165 33 ≠ 0)
theorem RS2.tr {a b c : GH} (h1 : RS2 a b) (h2 : RS2 b c) : RS2 a c := ⟨h1.1.tr h2.1, h2.2.1, Int.le_trans h1.2.2.1 h2.2.2.1, fun q => h2.2.2.2 (h1.2.2.2 q)⟩
theorem RS2.rf {g : GH} (h : RV g) : RS2 g g := ⟨RX.rf g, h, Int.le_refl _, fun q => q⟩
section MPS
variable {sc : SCR} {d : Nat} {Q : QJ} {g r : GH} {l0 l1 l2 l3 l4 l5 l6 l7 l8 l9 l10 l11 l12 t0 : Int}
/-- next, from a token that stands -/
theorem x_144 (hr : RI r) (hv : RV g) (h : ∀ v g', OX g g' → g 165 27 ≤ g' 165 28 → RV g' → RS2 g g' → Q v g' r) : Ce sc (d + 2) 144 [(2, 165)] g r Q := by
  have hv0 := hv
  obtain ⟨a1, a2, a3, a4, a5, a6, a7⟩ := hv
  exact s_144 hr a1 a2 (by omega) (by omega) (fun v g' e f rv => h v g' e f rv ⟨e.rx, rv, by omega, fun q => by rw [e 165 33 (by decide)]; exact q⟩)
theorem s_145 (hv : RV g) (h : ∀ v g', RS2 g g' → g' 165 33 ≠ 0 → (∀ j, j = 27 ∨ j = 28 ∨ j = 29 ∨ j = 30 ∨ j = 32 → g' 165 j = g 165 j) → Q v g' r) : Ce sc (d + 1) 145 [(2, 165)] g r Q := by
  have k9 : okr 218 165 9 := okd (by decide +kernel)
  refine c_145 ⟨k9, ite_c (fun z => ⟨k9, Or.inr rfl, fun g1 e1 => ⟨k9, k9, fun g2 e2 => ?_⟩⟩) (fun z => h _ _ (RS2.rf hv) z (fun _ _ => rfl))⟩
  have key : ∀ j, j = 26 ∨ j = 27 ∨ j = 28 ∨ j = 29 ∨ j = 30 ∨ j = 32 → g2 165 j = g 165 j := fun j hj => by
    rw [e2, up_j (by omega), e1, up_j (by omega)]
  have h33 : g2 165 33 ≠ 0 := by rw [e2, up_j (by decide), e1, up_s]; decide
  refine h _ _ ⟨?_, ?_, by rw [key 28 (by decide)]; exact Int.le_refl _, fun _ => h33⟩ h33 (fun j hj => key j (by omega))
  · rw [e2, e1]; exact ((RX.rf g).u (by decide)).u (by decide)
  · unfold RV at hv ⊢
    rw [key 26 (by decide), key 27 (by decide), key 28 (by decide), key 29 (by decide), key 32 (by decide)]
    exact hv
theorem s_146 (h1 : g 165 33 = 0 → g 165 29 = 1 → g 165 32 = l1 → Q 1 g r) (h0 : Q 0 g r) : Ce sc (d + 1) 146 [(2, 165), (1, l1)] g r Q := by
  have k9 : okr 218 165 9 := okd (by decide +kernel)
  exact c_146 ⟨k9, ite_c (fun a => ⟨k9, ite_c (fun b => ⟨k9, ite_c (fun c => ⟨Or.inr rfl, h1 a b (cmp_eq.mp c)⟩) (fun _ => ⟨Or.inl rfl, h0⟩)⟩) (fun _ => ⟨Or.inl rfl, h0⟩)⟩) (fun _ => ⟨Or.inl rfl, h0⟩)⟩
/-- takes: a word of two letters at least is passed, or nothing -/
theorem s_147 (hr : RI r) (hv : RV g) (hl : 26 < l1) (h1 : ∀ g', g 165 33 = 0 → OX g g' → RS2 g g' → g 165 28 + 2 ≤ g' 165 28 → Q 1 g' r) (h0 : Q 0 g r) : Ce sc (d + 3) 147 [(2, 165), (1, l1)] g r Q := by
  have k9 : okr 218 165 9 := okd (by decide +kernel)
  refine c_147 ⟨k9, s_146 (fun a b c => ?_) ?_⟩
  · rw [if_neg (by decide)]
    refine ⟨k9, x_144 hr hv (fun v g' e f rv rs => ⟨Or.inr rfl, h1 g' a e rs ?_⟩)⟩
    have := hv.2.2.2.2.2.1 b
    omega
  · rw [if_pos rfl]; exact ⟨Or.inl rfl, h0⟩
theorem s_148 (hr : RI r) (hv : RV g) (hl : 26 < l1) (h : ∀ v g', RS2 g g' → Q v g' r) : Ce sc (d + 4) 148 [(2, 165), (1, l1)] g r Q := by
  have k9 : okr 218 165 9 := okd (by decide +kernel)
  refine c_148 ⟨k9, s_147 hr hv hl (fun g' _ _ rs _ => ?_) ?_⟩
  · rw [if_neg (by decide)]; exact h _ _ rs
  · rw [if_pos rfl]; exact ⟨k9, s_145 hv (fun v g' rs _ _ => h _ _ rs)⟩
theorem s_149 (hr : RI r) (hv : RV g) (h : ∀ v g', RS2 g g' → (g' 165 33 = 0 → l1 ≤ v ∧ v ≤ l2) → Q v g' r) : Ce sc (d + 3) 149 [(2, 165), (0, l1), (0, l2)] g r Q := by
  have k9 : okr 218 165 9 := okd (by decide +kernel)
  have er : Ce sc (d + 2) 145 [(2, 165)] g r (fun v1 g1 r1 => Q 0 g1 r1) := s_145 hv (fun v g' rs z _ => h _ _ rs (fun q => absurd q z))
  exact c_149 ⟨k9, k9, ite_c (fun _ => ⟨k9, ite_c (fun _ => ite_c (fun _ => ⟨k9, er⟩) (fun _ => ite_c (fun _ => ⟨k9, er⟩) (fun _ => ⟨k9, x_144 hr hv (fun v g' e f rv rs => h _ _ rs (fun _ => ⟨by omega, by omega⟩))⟩))) (fun _ => ⟨k9, er⟩)⟩) (fun z => h _ _ (RS2.rf hv) (fun q => absurd q z))⟩
/-- the word that stands is one of the five -/
theorem s_150 (h : ∀ v, (v < 0 ∨ (0 ≤ v ∧ v ≤ 4 ∧ g 165 33 = 0 ∧ g 165 29 = 1 ∧ 26 < g 165 32)) → Q v g r) : Ce sc (d + 1) 150 [(2, 165)] g r Q := by
  have k9 : okr 218 165 9 := okd (by decide +kernel)
  refine c_150 ⟨k9, ite_c (fun a => ⟨k9, ite_c (fun b => ⟨k9, ite_c (fun c => h _ ?_) (fun _ => ⟨k9, ite_c (fun c => h _ ?_) (fun _ => ⟨k9, ite_c (fun c => h _ ?_) (fun _ => ⟨k9, ite_c (fun c => h _ ?_) (fun _ => ⟨k9, ite_c (fun c => h _ ?_) (fun _ => h _ (Or.inl (by decide)))⟩)⟩)⟩)⟩)⟩) (fun _ => h _ (Or.inl (by decide)))⟩) (fun _ => h _ (Or.inl (by decide)))⟩
  all_goals
    have c' := cmp_eq.mp c
    exact Or.inr ⟨by decide, by decide, a, b, by omega⟩
/-- one step written -/
def WS (g : GH) (k a s n : Int) : GH := up (up (up (up (up g 185 (g 165 31) k) 186 (g 165 31) a) 187 (g 165 31) s) 188 (g 165 31) n) 165 31 (g 165 31 + 1)
theorem s_151 (hr : RI r) (w0 : 0 ≤ g 165 31) (w1 : g 165 31 < 2800) (h : ∀ v, Q v (WS g l1 l2 l3 l4) r) : Ce sc (d + 1) 151 [(2, 165), (0, l1), (0, l2), (0, l3), (0, l4)] g r Q := by
  have k9 : okr 218 165 9 := okd (by decide +kernel)
  refine c_151 ?_
  rw [r_165_19 hr, r_165_20 hr, r_165_21 hr, r_165_22 hr]
  refine ⟨k9, k9, i_185.mpr ⟨w0, w1⟩, fun g1 e1 => ?_⟩
  have f1 : g1 165 31 = g 165 31 := by rw [e1, up_i (by decide)]
  rw [f1]
  refine ⟨k9, k9, i_186.mpr ⟨w0, w1⟩, fun g2 e2 => ?_⟩
  have f2 : g2 165 31 = g 165 31 := by rw [e2, up_i (by decide), f1]
  rw [f2]
  refine ⟨k9, k9, i_187.mpr ⟨w0, w1⟩, fun g3 e3 => ?_⟩
  have f3 : g3 165 31 = g 165 31 := by rw [e3, up_i (by decide), f2]
  rw [f3]
  refine ⟨k9, k9, i_188.mpr ⟨w0, w1⟩, fun g4 e4 => ?_⟩
  have f4 : g4 165 31 = g 165 31 := by rw [e4, up_i (by decide), f3]
  rw [f4, wr_id ⟨by omega, by omega⟩]
  refine ⟨k9, k9, fun g5 e5 => ?_⟩
  rw [e5, e4, e3, e2, e1]
  exact h _
end MPS
/-- what a program of steps from a to b leaves on the pile -/
def PG2 (g : GH) (a b hh : Int) : Prop := ∃ ht : Int → Int, ht a = 0 ∧ ht b = hh ∧ ∀ k, a ≤ k → k < b → 0 ≤ ht k ∧ ht k ≤ 190 ∧ ((g 185 k = 0 ∧ 0 ≤ g 186 k ∧ g 186 k ≤ 4 ∧ ht (k + 1) = ht k + 1) ∨ (g 185 k = 1 ∧ 1 ≤ ht k ∧ ht (k + 1) = ht k) ∨ (g 185 k ≠ 0 ∧ g 185 k ≠ 1 ∧ 2 ≤ ht k ∧ ht (k + 1) = ht k - 1))
theorem PG2.pgf {g : GH} {a b hh : Int} (h : PG2 g a b hh) : PGF g a b := by
  obtain ⟨ht, h1, _, h2⟩ := h
  exact ⟨ht, h1, h2⟩
theorem PG2.eq {g g' : GH} {a b hh : Int} (h : PG2 g a b hh) (e : ∀ k, k < b → g' 185 k = g 185 k ∧ g' 186 k = g 186 k) : PG2 g' a b hh := by
  obtain ⟨ht, h1, h2, h3⟩ := h
  refine ⟨ht, h1, h2, fun k k0 k1 => ?_⟩
  obtain ⟨x, y⟩ := e k k1
  rw [x, y]; exact h3 k k0 k1
theorem PGF.eq {g g' : GH} {a b : Int} (h : PGF g a b) (e : ∀ k, k < b → g' 185 k = g 185 k ∧ g' 186 k = g 186 k) : PGF g' a b := by
  obtain ⟨ht, h1, h3⟩ := h
  refine ⟨ht, h1, fun k k0 k1 => ?_⟩
  obtain ⟨x, y⟩ := e k k1
  rw [x, y]; exact h3 k k0 k1
theorem ws_31 {g : GH} {k a s n : Int} : WS g k a s n 165 31 = g 165 31 + 1 := up_s
theorem ws_o {g : GH} {k a s n i j : Int} (h : ¬ (i = 165 ∧ j = 31) ∧ ¬ (185 ≤ i ∧ i ≤ 188 ∧ j = g 165 31)) : WS g k a s n i j = g i j := by
  unfold WS
  rw [up_o (by omega), up_o (by omega), up_o (by omega), up_o (by omega), up_o (by omega)]
theorem ws_185 {g : GH} {k a s n : Int} : WS g k a s n 185 (g 165 31) = k := by
  unfold WS
  rw [up_i (by decide), up_i (by decide), up_i (by decide), up_i (by decide), up_s]
theorem ws_186 {g : GH} {k a s n : Int} : WS g k a s n 186 (g 165 31) = a := by
  unfold WS
  rw [up_i (by decide), up_i (by decide), up_i (by decide), up_s]
/-- one step more -/
theorem PG2.st {g : GH} {a hh h' k w s n : Int} (h : PG2 g a (g 165 31) hh) (ha : a ≤ g 165 31) (hb : 0 ≤ hh ∧ hh ≤ 190) (hk : (k = 0 ∧ 0 ≤ w ∧ w ≤ 4 ∧ h' = hh + 1) ∨ (k = 1 ∧ 1 ≤ hh ∧ h' = hh) ∨ (k ≠ 0 ∧ k ≠ 1 ∧ 2 ≤ hh ∧ h' = hh - 1)) : PG2 (WS g k w s n) a (g 165 31 + 1) h' := by
  obtain ⟨ht, h1, h2, h3⟩ := h
  refine ⟨fun q => if q = g 165 31 + 1 then h' else ht q, ?_, ?_, fun q q0 q1 => ?_⟩
  · show (if a = g 165 31 + 1 then h' else ht a) = 0
    rw [if_neg (by omega)]; exact h1
  · show (if g 165 31 + 1 = g 165 31 + 1 then h' else _) = h'
    rw [if_pos rfl]
  · show 0 ≤ (if q = g 165 31 + 1 then h' else ht q) ∧ (if q = g 165 31 + 1 then h' else ht q) ≤ 190 ∧ _
    rw [if_neg (by omega)]
    by_cases z : q = g 165 31
    · subst z
      show 0 ≤ ht (g 165 31) ∧ ht (g 165 31) ≤ 190 ∧ ((WS g k w s n 185 (g 165 31) = 0 ∧ 0 ≤ WS g k w s n 186 (g 165 31) ∧ WS g k w s n 186 (g 165 31) ≤ 4 ∧ (if g 165 31 + 1 = g 165 31 + 1 then h' else ht (g 165 31 + 1)) = (if g 165 31 = g 165 31 + 1 then h' else ht (g 165 31)) + 1) ∨ (WS g k w s n 185 (g 165 31) = 1 ∧ 1 ≤ (if g 165 31 = g 165 31 + 1 then h' else ht (g 165 31)) ∧ (if g 165 31 + 1 = g 165 31 + 1 then h' else ht (g 165 31 + 1)) = (if g 165 31 = g 165 31 + 1 then h' else ht (g 165 31))) ∨ (WS g k w s n 185 (g 165 31) ≠ 0 ∧ WS g k w s n 185 (g 165 31) ≠ 1 ∧ 2 ≤ (if g 165 31 = g 165 31 + 1 then h' else ht (g 165 31)) ∧ (if g 165 31 + 1 = g 165 31 + 1 then h' else ht (g 165 31 + 1)) = (if g 165 31 = g 165 31 + 1 then h' else ht (g 165 31)) - 1))
      rw [ws_185, ws_186, if_pos rfl, if_neg (by omega), h2]
      exact ⟨hb.1, hb.2, hk⟩
    · have y := h3 q q0 (by omega)
      have e5 : WS g k w s n 185 q = g 185 q := ws_o (by omega)
      have e6 : WS g k w s n 186 q = g 186 q := ws_o (by omega)
      show 0 ≤ ht q ∧ ht q ≤ 190 ∧ ((WS g k w s n 185 q = 0 ∧ 0 ≤ WS g k w s n 186 q ∧ WS g k w s n 186 q ≤ 4 ∧ (if q + 1 = g 165 31 + 1 then h' else ht (q + 1)) = (if q = g 165 31 + 1 then h' else ht q) + 1) ∨ (WS g k w s n 185 q = 1 ∧ 1 ≤ (if q = g 165 31 + 1 then h' else ht q) ∧ (if q + 1 = g 165 31 + 1 then h' else ht (q + 1)) = (if q = g 165 31 + 1 then h' else ht q)) ∨ (WS g k w s n 185 q ≠ 0 ∧ WS g k w s n 185 q ≠ 1 ∧ 2 ≤ (if q = g 165 31 + 1 then h' else ht q) ∧ (if q + 1 = g 165 31 + 1 then h' else ht (q + 1)) = (if q = g 165 31 + 1 then h' else ht q) - 1))
      rw [if_neg (by omega), if_neg (by omega), e5, e6]
      exact y
