/-! the reference's reading of a condition comes to its end, and the steps that it leaves keep their pile -/
def jn (x : Int) : Int := if x = 0 then 0 else if x = 3 then 2 else 1
def hsF (g : GH) : Nat → Int
  | 0 => jn (g 191 ((0 : Nat) : Int))
  | n + 1 => hsF g n + jn (g 191 ((n + 1 : Nat) : Int))
def nF (g : GH) : Nat → Int
  | 0 => 0
  | n + 1 => nF g n + (if g 190 (n : Int) = 1 then 1 else 0)
theorem jn_b (x : Int) : 0 ≤ jn x ∧ jn x ≤ 2 := by unfold jn; split; omega; split <;> omega
theorem hsF_b (g : GH) : ∀ n : Nat, 0 ≤ hsF g n ∧ hsF g n ≤ 2 * (n + 1) := by
  intro n
  induction n with
  | zero =>
    have := jn_b (g 191 ((0 : Nat) : Int))
    show 0 ≤ jn (g 191 ((0 : Nat) : Int)) ∧ jn (g 191 ((0 : Nat) : Int)) ≤ _
    omega
  | succ n ih =>
    have := jn_b (g 191 ((n + 1 : Nat) : Int))
    show 0 ≤ hsF g n + jn (g 191 ((n + 1 : Nat) : Int)) ∧ hsF g n + jn (g 191 ((n + 1 : Nat) : Int)) ≤ _
    have e : ((n + 1 : Nat) : Int) = (n : Int) + 1 := by omega
    rw [e] at this ⊢
    omega
theorem nF_b (g : GH) : ∀ n : Nat, 0 ≤ nF g n := by
  intro n
  induction n with
  | zero => exact Int.le_refl 0
  | succ n ih =>
    show 0 ≤ nF g n + (if g 190 (n : Int) = 1 then 1 else 0)
    split <;> omega
theorem hsF_eq {g g' : GH} : ∀ n : Nat, (∀ i : Nat, i ≤ n → g' 191 (i : Int) = g 191 (i : Int)) → hsF g' n = hsF g n := by
  intro n
  induction n with
  | zero =>
    intro h
    show jn (g' 191 ((0 : Nat) : Int)) = jn (g 191 ((0 : Nat) : Int))
    rw [h 0 (Nat.le_refl 0)]
  | succ n ih =>
    intro h
    show hsF g' n + jn (g' 191 ((n + 1 : Nat) : Int)) = hsF g n + jn (g 191 ((n + 1 : Nat) : Int))
    rw [ih (fun i hi => h i (by omega)), h (n + 1) (Nat.le_refl _)]
theorem nF_eq {g g' : GH} : ∀ n : Nat, (∀ i : Nat, i < n → g' 190 (i : Int) = g 190 (i : Int)) → nF g' n = nF g n := by
  intro n
  induction n with
  | zero => intro _; rfl
  | succ n ih =>
    intro h
    show nF g' n + (if g' 190 (n : Int) = 1 then 1 else 0) = nF g n + (if g 190 (n : Int) = 1 then 1 else 0)
    rw [ih (fun i hi => h i (by omega)), h n (by omega)]
theorem hsF_top {g : GH} {v : Int} : ∀ n : Nat, hsF (up g 191 (n : Int) v) n = hsF g n - jn (g 191 (n : Int)) + jn v := by
  intro n
  cases n with
  | zero =>
    show jn (up g 191 ((0 : Nat) : Int) v 191 ((0 : Nat) : Int)) = jn (g 191 ((0 : Nat) : Int)) - jn (g 191 ((0 : Nat) : Int)) + jn v
    rw [up_s]; omega
  | succ n =>
    show hsF (up g 191 ((n + 1 : Nat) : Int) v) n + jn (up g 191 ((n + 1 : Nat) : Int) v 191 ((n + 1 : Nat) : Int)) = hsF g n + jn (g 191 ((n + 1 : Nat) : Int)) - jn (g 191 ((n + 1 : Nat) : Int)) + jn v
    rw [up_s, hsF_eq (g := g) n (fun i hi => up_j (by omega))]
    omega
/-- a condition is being read from step a on: n brackets stand open, x operands wait -/
def CS (a : Int) (n : Nat) (x : Int) (g : GH) : Prop := RV g ∧ g 165 36 = n ∧ n ≤ 9 ∧ (∀ i : Nat, i ≤ n → 0 ≤ g 191 (i : Int) ∧ g 191 (i : Int) ≤ 3) ∧ (∀ i : Nat, i < n → g 190 (i : Int) = 1 → g 191 ((i + 1 : Nat) : Int) = 0) ∧ 2450 ≤ a ∧ a ≤ g 165 31 ∧ PG2 g a (g 165 31) (hsF g n + x) ∧ 2 * (g 165 31 - 2450) + 2 * (hsF g n + nF g n) ≤ g 165 28
theorem CS.w {a x : Int} {n : Nat} {g : GH} (h : CS a n x g) : 0 ≤ g 165 31 ∧ g 165 31 ≤ 2800 := by
  obtain ⟨rv, _, _, _, _, a0, a1, _, b⟩ := h
  have := hsF_b g n
  have := nF_b g n
  have := rv.2.1
  have := rv.2.2.2.1
  have := rv.2.2.2.2.1
  omega
/-- the same state, read on -/
theorem CS.mv {a x : Int} {n : Nat} {g g' : GH} (h : CS a n x g) (rv : RV g') (f : g 165 28 ≤ g' 165 28) (e : ∀ i j, (i = 165 ∧ (j = 31 ∨ j = 36)) ∨ i = 185 ∨ i = 186 ∨ i = 190 ∨ i = 191 → g' i j = g i j) : CS a n x g' := by
  obtain ⟨_, b1, b2, b3, b4, b5, b6, b7, b8⟩ := h
  have e31 := e 165 31 (by omega)
  have hh : hsF g' n = hsF g n := hsF_eq n (fun i _ => e 191 i (by omega))
  have hn : nF g' n = nF g n := nF_eq n (fun i _ => e 190 i (by omega))
  refine ⟨rv, by rw [e 165 36 (by omega)]; exact b1, b2, fun i hi => by rw [e 191 i (by omega)]; exact b3 i hi, fun i hi => by rw [e 190 i (by omega), e 191 _ (by omega)]; exact b4 i hi, b5, by rw [e31]; exact b6, ?_, by rw [e31, hh, hn]; omega⟩
  rw [e31, hh]
  exact b7.eq (fun k _ => ⟨e 185 k (by omega), e 186 k (by omega)⟩)
theorem RS2.e {g g' : GH} (h : RS2 g g') : ∀ i j, (i = 165 ∧ (j = 31 ∨ j = 36)) ∨ i = 185 ∨ i = 186 ∨ i = 190 ∨ i = 191 → g' i j = g i j := fun i j hi => h.1 i j (by omega)
/-- joined n is set to v, the operands that wait become y -/
theorem CS.jo {a x y v : Int} {n : Nat} {g : GH} (h : CS a n x g) (v0 : 0 ≤ v ∧ v ≤ 3) (hv : n = 0 ∨ v = 0 ∨ (∀ m : Nat, n = m + 1 → g 190 (m : Int) ≠ 1)) (e : jn (g 191 (n : Int)) + x = jn v + y) (b : 2 * (g 165 31 - 2450) + 2 * (hsF g n + nF g n) + 2 * (jn v - jn (g 191 (n : Int))) ≤ g 165 28) : CS a n y (up g 191 (n : Int) v) := by
  obtain ⟨b0, b1, b2, b3, b4, b5, b6, b7, b8⟩ := h
  have ne : ∀ i j, i ≠ 191 → up g 191 (n : Int) v i j = g i j := fun i j hi => up_i hi
  have hh := hsF_top (g := g) (v := v) n
  have hn : nF (up g 191 (n : Int) v) n = nF g n := nF_eq n (fun i _ => ne _ _ (by decide))
  refine ⟨?_, by rw [ne _ _ (by decide)]; exact b1, b2, fun i hi => ?_, fun i hi => ?_, b5, by rw [ne _ _ (by decide)]; exact b6, ?_, ?_⟩
  · unfold RV at b0 ⊢
    simp only [ne 165 _ (by decide)]; exact b0
  · by_cases z : i = n
    · rw [z, up_s]; exact v0
    · rw [up_j (by omega)]; exact b3 i hi
  · rw [ne _ _ (by decide)]
    intro q
    by_cases z : i + 1 = n
    · rw [z, up_s]
      rcases hv with r | r | r
      · omega
      · exact r
      · exact absurd q (r i z.symm)
    · rw [up_j (by omega)]; exact b4 i hi q
  · rw [ne _ _ (by decide), hh, show hsF g n - jn (g 191 (n : Int)) + jn v + y = hsF g n + x by omega]
    exact b7.eq (fun k _ => ⟨ne _ _ (by decide), ne _ _ (by decide)⟩)
  · rw [ne _ _ (by decide), ne _ _ (by decide), hh, hn]; omega
/-- a step of two operands or one is written -/
theorem CS.ws {a x y k w s m : Int} {n : Nat} {g : GH} (h : CS a n x g) (x0 : 0 ≤ x ∧ x ≤ 2) (hk : (k = 0 ∧ 0 ≤ w ∧ w ≤ 4 ∧ y = x + 1) ∨ (k = 1 ∧ 1 ≤ hsF g n + x ∧ y = x) ∨ (k ≠ 0 ∧ k ≠ 1 ∧ 2 ≤ hsF g n + x ∧ y = x - 1)) (b : 2 * (g 165 31 + 1 - 2450) + 2 * (hsF g n + nF g n) ≤ g 165 28) : CS a n y (WS g k w s m) := by
  obtain ⟨b0, b1, b2, b3, b4, b5, b6, b7, b8⟩ := h
  have hb := hsF_b g n
  have n0 := nF_b g n
  have ne : ∀ i j, (i = 165 ∧ j ≠ 31) ∨ i = 190 ∨ i = 191 → WS g k w s m i j = g i j := fun i j hi => ws_o (by omega)
  have hh : hsF (WS g k w s m) n = hsF g n := hsF_eq n (fun i _ => ne 191 i (by omega))
  have hn : nF (WS g k w s m) n = nF g n := nF_eq n (fun i _ => ne 190 i (by omega))
  refine ⟨?_, by rw [ne 165 36 (by omega)]; exact b1, b2, fun i hi => by rw [ne 191 i (by omega)]; exact b3 i hi, fun i hi => by rw [ne 190 i (by omega), ne 191 _ (by omega)]; exact b4 i hi, b5, by rw [ws_31]; omega, ?_, by rw [ws_31, hh, hn, ne 165 28 (by omega)]; omega⟩
  · unfold RV at b0 ⊢
    rw [ne 165 26 (by omega), ne 165 27 (by omega), ne 165 28 (by omega), ne 165 29 (by omega), ne 165 32 (by omega)]; exact b0
  · rw [ws_31, hh]
    exact b7.st b6 (by omega) (by omega)
/-- a bracket, or a word before an operand, is left -/
theorem CS.dn {a x : Int} {n : Nat} {g : GH} (h : CS a (n + 1) x g) (hz : g 191 ((n + 1 : Nat) : Int) = 0) : CS a n x (up g 165 36 (n : Int)) := by
  obtain ⟨b0, b1, b2, b3, b4, b5, b6, b7, b8⟩ := h
  have ne : ∀ i j, ¬ (i = 165 ∧ j = 36) → up g 165 36 (n : Int) i j = g i j := fun i j hi => up_o hi
  have hh : hsF (up g 165 36 (n : Int)) n = hsF g n := hsF_eq n (fun i _ => ne 191 i (by omega))
  have hn : nF (up g 165 36 (n : Int)) n = nF g n := nF_eq n (fun i _ => ne 190 i (by omega))
  have h1 : hsF g (n + 1) = hsF g n + jn (g 191 ((n + 1 : Nat) : Int)) := rfl
  have n1 : nF g (n + 1) = nF g n + (if g 190 (n : Int) = 1 then 1 else 0) := rfl
  have j0 : jn (g 191 ((n + 1 : Nat) : Int)) = 0 := by rw [hz]; decide
  have n2 : nF g n ≤ nF g (n + 1) := by rw [n1]; split <;> omega
  refine ⟨?_, up_s, by omega, fun i hi => by rw [ne 191 i (by omega)]; exact b3 i (by omega), fun i hi => by rw [ne 190 i (by omega), ne 191 _ (by omega)]; exact b4 i (by omega), b5, by rw [ne 165 31 (by omega)]; exact b6, ?_, by rw [ne 165 31 (by omega), ne 165 28 (by omega), hh, hn]; omega⟩
  · unfold RV at b0 ⊢
    rw [ne 165 26 (by omega), ne 165 27 (by omega), ne 165 28 (by omega), ne 165 29 (by omega), ne 165 32 (by omega)]; exact b0
  · rw [ne 165 31 (by omega), hh, show hsF g n + x = hsF g (n + 1) + x by omega]
    exact b7.eq (fun k _ => ⟨ne _ _ (by omega), ne _ _ (by omega)⟩)
/-- a bracket, or the word not, is opened and passed -/
theorem CS.op {a o : Int} {n : Nat} {g g3 g4 : GH} (h : CS a n 0 g) (n9 : n < 9) (e3 : g3 = up (up (up g 190 (n : Int) o) 165 36 ((n + 1 : Nat) : Int)) 191 ((n + 1 : Nat) : Int) 0) (rv : RV g4) (e4 : RX g3 g4) (f : g 165 28 ≤ g4 165 28) (f2 : o = 1 → g 165 28 + 2 ≤ g4 165 28) : CS a (n + 1) 0 g4 := by
  obtain ⟨b0, b1, b2, b3, b4, b5, b6, b7, b8⟩ := h
  have ne : ∀ i j : Int, i = 185 ∨ i = 186 ∨ (i = 165 ∧ j = 31) ∨ (i = 190 ∧ j ≠ n) ∨ (i = 191 ∧ j ≠ ((n + 1 : Nat) : Int)) → g4 i j = g i j := fun i j hi => by
    rw [e4 i j (by omega), e3, up_o (by omega), up_o (by omega), up_o (by omega)]
  have e36 : g4 165 36 = ((n + 1 : Nat) : Int) := by rw [e4 165 36 (by decide), e3, up_i (by decide), up_s]
  have e90 : g4 190 (n : Int) = o := by rw [e4 190 _ (by omega), e3, up_i (by decide), up_i (by decide), up_s]
  have e91 : g4 191 ((n + 1 : Nat) : Int) = 0 := by rw [e4 191 _ (by omega), e3, up_s]
  have hh : hsF g4 n = hsF g n := hsF_eq n (fun i hi => ne 191 i (by omega))
  have hn : nF g4 n = nF g n := nF_eq n (fun i hi => ne 190 i (by omega))
  have h1 : hsF g4 (n + 1) = hsF g4 n + jn (g4 191 ((n + 1 : Nat) : Int)) := rfl
  have n1 : nF g4 (n + 1) = nF g4 n + (if g4 190 (n : Int) = 1 then 1 else 0) := rfl
  have j0 : jn (g4 191 ((n + 1 : Nat) : Int)) = 0 := by rw [e91]; decide
  have hs : hsF g4 (n + 1) = hsF g n := by omega
  have ns : nF g4 (n + 1) = nF g n + (if o = 1 then 1 else 0) := by rw [n1, hn, e90]
  refine ⟨rv, e36, by omega, fun i hi => ?_, fun i hi q => ?_, b5, by rw [ne 165 31 (by omega)]; exact b6, ?_, ?_⟩
  · by_cases z : i = n + 1
    · rw [z, e91]; decide
    · rw [ne 191 i (by omega)]; exact b3 i (by omega)
  · by_cases z : i = n
    · rw [z]; exact e91
    · rw [ne 191 _ (by omega)]
      rw [ne 190 i (by omega)] at q
      exact b4 i (by omega) q
  · rw [ne 165 31 (by omega), hs]
    exact b7.eq (fun k _ => ⟨ne _ _ (by omega), ne _ _ (by omega)⟩)
  · rw [ne 165 31 (by omega), hs, ns]
    by_cases z : o = 1
    · have := f2 z
      rw [if_pos z]; omega
    · rw [if_neg z]; omega
theorem jt {j : Int} (h0 : 0 ≤ j) (h3 : j ≤ 3) : (j = 0 ∨ j = 1 ∨ j = 2 ∨ j = 3) := by omega
/-- what the reading of a condition from step a on may write -/
def CK (a : Int) (g g' : GH) : Prop := ∀ i j, ¬ (i = 165 ∧ ((25 ≤ j ∧ j ≤ 33) ∨ j = 36)) → i ≠ 190 → i ≠ 191 → ¬ (185 ≤ i ∧ i ≤ 188 ∧ a ≤ j) → g' i j = g i j
theorem CK.rf (a : Int) (g : GH) : CK a g g := fun _ _ _ _ _ _ => rfl
theorem CK.tr {a : Int} {x y z : GH} (h1 : CK a x y) (h2 : CK a y z) : CK a x z := fun i j p q r s => (h2 i j p q r s).trans (h1 i j p q r s)
theorem CK.rx {a : Int} {x y z : GH} (h : CK a x y) (e : RX y z) : CK a x z := fun i j p q r s => (e i j (by omega)).trans (h i j p q r s)
theorem CK.u {a : Int} {x y : GH} {i j v : Int} (h : CK a x y) (hi : (i = 165 ∧ ((25 ≤ j ∧ j ≤ 33) ∨ j = 36)) ∨ i = 190 ∨ i = 191) : CK a x (up y i j v) := fun p q a1 a2 a3 a4 => by
  rw [up_o (by omega)]; exact h p q a1 a2 a3 a4
theorem CK.ws {a : Int} {x y : GH} {k w s n : Int} (h : CK a x y) (ha : a ≤ y 165 31) : CK a x (WS y k w s n) := fun p q a1 a2 a3 a4 => by
  rw [ws_o (by omega)]; exact h p q a1 a2 a3 a4
/-- how the reading of a condition ends -/
def EXC (a : Int) (g g' : GH) : Prop := CK a g g' ∧ RV g' ∧ a ≤ g' 165 31 ∧ g' 165 31 ≤ 2800 ∧ g 165 28 ≤ g' 165 28 ∧ (g' 165 33 = 0 → PGF g' a (g' 165 31) ∧ 2 * (g' 165 31 - 2450) ≤ g' 165 28)
theorem CS.ex {a x : Int} {n : Nat} {g0 g g' : GH} (h : CS a n x g) (c : CK a g0 g) (f : g0 165 28 ≤ g 165 28) (rs : RS2 g g') (bad : g' 165 33 ≠ 0) : EXC a g0 g' := by
  have hw := h.w
  have e31 := rs.1 165 31 (by decide)
  refine ⟨c.rx rs.1, rs.2.1, by rw [e31]; exact h.2.2.2.2.2.2.1, by rw [e31]; exact hw.2, Int.le_trans f rs.2.2.1, fun q => absurd q bad⟩
theorem up_comm {f : GH} {i j v a b c : Int} (h : i ≠ a) : up (up f i j v) a b c = up (up f a b c) i j v := by
  funext p q
  by_cases z : p = i ∧ q = j
  · rw [z.1, z.2, up_i h, up_s, up_s]
  · rw [up_o (f := up f a b c) z]
    by_cases y : p = a ∧ q = b
    · rw [y.1, y.2, up_s, up_s]
    · rw [up_o y, up_o z, up_o y]
theorem ws_comm {f : GH} {j v k w s n : Int} : up (WS f k w s n) 191 j v = WS (up f 191 j v) k w s n := by
  unfold WS
  rw [up_i (f := f) (i := 191) (j := j) (v := v) (a := 165) (by decide), up_comm (by decide), up_comm (f := up (up (up f 185 _ _) 186 _ _) 187 _ _) (by decide), up_comm (f := up (up f 185 _ _) 186 _ _) (by decide), up_comm (f := up f 185 _ _) (by decide), up_comm (f := f) (by decide)]
theorem hsF_ge (g : GH) : ∀ n : Nat, jn (g 191 (n : Int)) ≤ hsF g n := by
  intro n
  cases n with
  | zero => exact Int.le_refl _
  | succ n =>
    have := hsF_b g n
    show jn (g 191 ((n + 1 : Nat) : Int)) ≤ hsF g n + jn (g 191 ((n + 1 : Nat) : Int))
    omega
/-- the same, with the room that was won -/
theorem CS.sl {a x s : Int} {n : Nat} {g g' : GH} (h : CS a n x g) (f : g 165 28 + s ≤ g' 165 28) (e : ∀ i j, (i = 165 ∧ (j = 31 ∨ j = 36)) ∨ i = 185 ∨ i = 186 ∨ i = 190 ∨ i = 191 → g' i j = g i j) : 2 * (g' 165 31 - 2450) + 2 * (hsF g' n + nF g' n) + s ≤ g' 165 28 := by
  have hh : hsF g' n = hsF g n := hsF_eq n (fun i _ => e 191 i (by omega))
  have hn : nF g' n = nF g n := nF_eq n (fun i _ => e 190 i (by omega))
  have := h.2.2.2.2.2.2.2.2
  rw [e 165 31 (by omega), hh, hn]
  omega
/-- an operator's step is written, and joined n set to v after it: the pending one is paid -/
theorem CS.pay {a k v : Int} {n : Nat} {g : GH} (h : CS a n 1 g) (hk : k = 2 ∨ k = 3) (hj : (g 191 (n : Int) = 1 ∧ v = 0) ∨ (g 191 (n : Int) = 2 ∧ v = 0) ∨ (g 191 (n : Int) = 3 ∧ v = 2)) (ht : n = 0 ∨ v = 0 ∨ ∀ m : Nat, n = m + 1 → g 190 (m : Int) ≠ 1) : CS a n 1 (up (WS g k 0 0 0) 191 (n : Int) v) := by
  have ev : jn (g 191 (n : Int)) = jn v + 1 := by
    rcases hj with ⟨p, q⟩ | ⟨p, q⟩ | ⟨p, q⟩ <;> rw [p, q] <;> decide
  have h2 : CS a n 2 (up g 191 (n : Int) v) := h.jo (by omega) ht (by omega) (by have := h.2.2.2.2.2.2.2.2; omega)
  rw [ws_comm]
  have hh := hsF_top (g := g) (v := v) n
  have hn : nF (up g 191 (n : Int) v) n = nF g n := nF_eq n (fun i _ => up_i (by decide))
  have b := h.2.2.2.2.2.2.2.2
  have hb := hsF_b (up g 191 (n : Int) v) n
  refine h2.ws (by decide) (Or.inr (Or.inr ⟨by omega, by omega, by omega, by decide⟩)) ?_
  rw [up_i (f := g) (i := 191) (j := (n : Int)) (v := v) (a := 165) (by decide), up_i (f := g) (i := 191) (j := (n : Int)) (v := v) (a := 165) (by decide), hh, hn]
  omega
section MPC
variable {sc : SCR} {d : Nat} {Q : QJ} {g r : GH} {l0 l1 l2 l3 l4 l5 l6 l7 l8 l9 l10 l11 l12 t0 : Int}
theorem s_152 {a : Int} {n : Nat} {g0 : GH} (hr : RI r) (hc : CS a n 0 g) (c : CK a g0 g) (f : g0 165 28 ≤ g 165 28) (hE : ∀ v g', EXC a g0 g' → g' 165 33 ≠ 0 → Q v g' r) (hN : ∀ v g', CS a n 1 g' → CK a g0 g' → g 165 28 + 2 ≤ g' 165 28 → Q v g' r) : Ce sc (d + 4) 152 [(2, 165)] g r Q := by
  have k9 : okr 218 165 9 := okd (by decide +kernel)
  have hv := hc.1
  refine c_152 ⟨k9, s_150 (fun v1 h1 => ite_c (fun _ => ⟨k9, s_145 hv (fun v g' rs z _ => hE _ _ (hc.ex c f rs z) z)⟩) (fun q => ⟨k9, ?_⟩))⟩
  rcases h1 with z | ⟨v0, v4, z33, z29, z32⟩
  · exact absurd z q
  have f2 := hv.2.2.2.2.2.1 z29
  refine x_144 hr hv (fun _ g2 o2 p2 rv2 rs2 => ⟨k9, ?_⟩)
  have fin : ∀ s : Int, okr 218 165 9 ∧ Ce sc (d + 3) 144 [(2, 165)] g2 r fun v3 g3 r3 => okr 218 165 9 ∧ Ce sc (d + 3) 149 [(2, 165), (0, 0), (0, 9999)] g3 r3 fun v4 g4 r4 => okr 218 165 9 ∧ Ce sc (d + 3) 151 [(2, 165), (0, 0), (0, v1), (0, s), (0, v4)] g4 r4 fun v5 g5 r5 => Q 0 g5 r5 := by
    intro s
    refine ⟨k9, x_144 hr rv2 (fun _ g3 o3 p3 rv3 rs3 => ⟨k9, s_149 hr rv3 (fun v4 g4 rs4 _ => ⟨k9, ?_⟩)⟩)⟩
    have rs := (rs2.tr rs3).tr rs4
    have ff : g 165 28 + 2 ≤ g4 165 28 := by
      have := rs3.2.2.1
      have := rs4.2.2.1
      omega
    have h4 : CS a n 0 g4 := hc.mv rs4.2.1 (by omega) rs.e
    have b := hc.sl ff rs.e
    have hb := hsF_b g4 n
    have nb := nF_b g4 n
    have w := rs4.2.1.2.1
    have w2 := rs4.2.1.2.2.2.1
    have w3 := rs4.2.1.2.2.2.2.1
    have h31 : 2450 ≤ g4 165 31 := by have := h4.2.2.2.2.2.2.1; have := h4.2.2.2.2.2.1; omega
    refine s_151 hr (by omega) (by omega) (fun v => hN _ _ (h4.ws (by decide) (Or.inl ⟨rfl, v0, by omega, rfl⟩) (by omega)) ((c.rx rs.1).ws h4.2.2.2.2.2.2.1) ?_)
    rw [ws_o (by omega)]
    exact ff
  refine ite_c (fun _ => fin _) (fun _ => ite_c (fun _ => fin _) (fun _ => ite_c (fun _ => fin _) (fun _ => ⟨k9, s_145 rv2 (fun v g' rs z _ => ?_)⟩)))
  exact hE _ _ (hc.ex c f (rs2.tr rs) z) z
theorem s_153 {a : Int} {g0 : GH} (hr : RI r) (h1 : ∀ n g', CS a n 0 g' → CK a g0 g' → g0 165 28 ≤ g' 165 28 → Q 1 g' r) (h0 : ∀ g', EXC a g0 g' → Q 0 g' r) : ∀ (n : Nat) (g : GH), CS a n 1 g → CK a g0 g → g0 165 28 ≤ g 165 28 → Ce sc (d + 4) 153 [(2, 165)] g r Q := by
  have k9 : okr 218 165 9 := okd (by decide +kernel)
  have wrong : ∀ (n : Nat) (g : GH), CS a n 1 g → CK a g0 g → g0 165 28 ≤ g 165 28 → ¬ g 165 33 = 0 → Q 0 g r := fun n g hc c f z => h0 _ (hc.ex c f (RS2.rf hc.1) z)
  have loop : ∀ (n : Nat) (g : GH), CS a n 1 g → CK a g0 g → g0 165 28 ≤ g 165 28 → WQ sc (d + 3) 153 Q 13 [(2, 165), (9, 0)] [] g r := by
    have body : ∀ n : Nat, (∀ m : Nat, n = m + 1 → ∀ g, CS a m 1 g → CK a g0 g → g0 165 28 ≤ g 165 28 → WQ sc (d + 3) 153 Q 13 [(2, 165), (9, 0)] [] g r) → ∀ g, CS a n 1 g → CK a g0 g → g0 165 28 ≤ g 165 28 → (n = 0 ∨ ∀ m : Nat, n = m + 1 → g 190 (m : Int) ≠ 1) → WQ sc (d + 3) 153 Q 56 [(2, 165), (9, 0)] [] g r := by
      intro n nx g hc c f ht
      have n9 := hc.2.2.1
      have iJ : okI 218 191 11 (n : Int) := i_191.mpr ⟨by omega, by omega⟩
      have e225 : ∀ X, CS a n 1 X → CK a g0 X → g0 165 28 ≤ X 165 28 → X 191 (n : Int) = 0 → WQ sc (d + 3) 153 Q 225 [(2, 165), (9, 0)] [(0, if 0 < X 165 36 then 1 else 0)] X r := by
        intro X hX cX fX zX
        have e36 := hX.2.1
        refine b_153_225 (ite_c (fun q => ?_) (fun q => ⟨k9, ite_c (fun q41 => ⟨k9, k9, fun g1 e1 => ⟨k9, ?_⟩⟩) (fun _ => ⟨k9, s_145 hX.1 (fun v g' rs z _ => ⟨Or.inl rfl, h0 _ (hX.ex cX fX rs z)⟩)⟩)⟩))
        · have n0 : n = 0 := by
            by_cases z : 0 < X 165 36
            · rw [if_pos z] at q; exact absurd q (by decide)
            · omega
          have hw := hX.w
          have hb := hsF_b X n
          have nb := nF_b X n
          refine ⟨Or.inl rfl, h0 _ ⟨cX, hX.1, hX.2.2.2.2.2.2.1, hw.2, fX, fun _ => ⟨hX.2.2.2.2.2.2.2.1.pgf, ?_⟩⟩⟩
          have := hX.2.2.2.2.2.2.2.2
          omega
        · have np : 0 < X 165 36 := by
            by_cases z : 0 < X 165 36
            · exact z
            · rw [if_neg z] at q; exact absurd rfl q
          obtain ⟨m, rfl⟩ : ∃ m, n = m + 1 := ⟨n - 1, by omega⟩
          have ew : wr (X 165 36 - 1) = (m : Int) := by rw [e36, wr_id ⟨by omega, by omega⟩]; omega
          rw [ew] at e1
          have h1' : CS a m 1 g1 := by rw [e1]; exact hX.dn zX
          have c1 : CK a g0 g1 := by rw [e1]; exact cX.u (by omega)
          have f1 : g1 165 28 = X 165 28 := by rw [e1, up_j (by decide)]
          refine x_144 hr h1'.1 (fun _ g2 o2 p2 rv2 rs2 => ?_)
          have h2 : CS a m 1 g2 := h1'.mv rv2 rs2.2.2.1 rs2.e
          have c2 : CK a g0 g2 := c1.rx rs2.1
          have f2 : g0 165 28 ≤ g2 165 28 := by have := rs2.2.2.1; omega
          refine b_153_2 (ite_c (fun z => ⟨Or.inl rfl, ?_⟩) (fun _ => ⟨k9, ite_c (fun _ => nx m rfl g2 h2 c2 f2) (fun z => ⟨Or.inl rfl, wrong m g2 h2 c2 f2 z⟩)⟩))
          rw [if_pos np] at z; exact absurd z (by decide)
      have e181 : ∀ g1, CS a n 1 (up g1 191 (n : Int) 0) → CK a g0 g1 → g0 165 28 ≤ g1 165 28 → (n = 0 ∨ ∀ m : Nat, n = m + 1 → g1 190 (m : Int) ≠ 1) → WQ sc (d + 3) 153 Q 181 [(2, 165), (9, 0)] [] g1 r := by
        intro g1 hX c1 f1 ht1
        have e36 : g1 165 36 = (n : Int) := by have := hX.2.1; rwa [up_i (by decide)] at this
        refine b_153_181 ?_
        rw [r_165_35 hr, e36]
        refine ⟨k9, k9, iJ, fun g2 e2 => ⟨k9, ?_⟩⟩
        have cX : CK a g0 (up g1 191 (n : Int) 0) := c1.u (by omega)
        have fX : g0 165 28 ≤ up g1 191 (n : Int) 0 165 28 := by rw [up_i (by decide)]; exact f1
        rw [e2]
        refine s_147 hr hX.1 (by decide) (fun g3 _ o3 rs3 p3 => ?_) ?_
        · rw [if_neg (by decide), r_165_35 hr]
          have h3 : CS a n 1 g3 := hX.mv rs3.2.1 rs3.2.2.1 rs3.e
          have sl := hX.sl p3 rs3.e
          have z3 : g3 191 (n : Int) = 0 := by rw [rs3.e 191 _ (by omega), up_s]
          have e363 := h3.2.1
          rw [e363]
          refine ⟨k9, k9, iJ, fun g4 e4 => ⟨Or.inr rfl, h1 n g4 ?_ ?_ ?_⟩⟩
          · rw [e4]
            have j0 : jn (g3 191 (n : Int)) = 0 := by rw [z3]; decide
            have j2 : jn 2 = 1 := by decide
            refine h3.jo (by decide) ?_ (by omega) (by omega)
            rcases ht1 with z | z
            · exact Or.inl z
            · exact Or.inr (Or.inr (fun m hm => by rw [rs3.e 190 _ (by omega), up_i (by decide)]; exact z m hm))
          · rw [e4]; exact (cX.rx rs3.1).u (by omega)
          · rw [e4, up_i (by decide)]
            have := rs3.2.2.1
            omega
        · rw [if_pos rfl]
          have := e225 _ hX cX fX up_s
          refine ⟨k9, ite_c (fun z => ?_) (fun z => ?_)⟩
          · rw [if_pos z] at this; exact this
          · rw [if_neg z] at this; exact this
      have e138 : ∀ g1, (0 ≤ g1 191 (n : Int) ∧ g1 191 (n : Int) ≤ 3) → CS a n 1 (up g1 191 (n : Int) (wr ((wr ((g1 191 (n : Int)).tdiv 2)) * 2))) → CK a g0 g1 → g0 165 28 ≤ g1 165 28 → (n = 0 ∨ ∀ m : Nat, n = m + 1 → g1 190 (m : Int) ≠ 1) → WQ sc (d + 3) 153 Q 138 [(2, 165), (9, 0)] [] g1 r := by
        intro g1 hj hX c1 f1 ht1
        have e36 : g1 165 36 = (n : Int) := by have := hX.2.1; rwa [up_i (by decide)] at this
        have hv : wr ((wr ((g1 191 (n : Int)).tdiv 2)) * 2) = 0 ∨ wr ((wr ((g1 191 (n : Int)).tdiv 2)) * 2) = 2 := by
          rcases jt hj.1 hj.2 with z | z | z | z <;> rw [z] <;> decide
        refine b_153_138 ?_
        rw [r_165_35 hr, e36]
        refine ⟨k9, k9, k9, k9, iJ, by decide, iJ, fun g2 e2 => ?_⟩
        rw [← e2] at hX
        have e362 := hX.2.1
        have c2 : CK a g0 g2 := by rw [e2]; exact c1.u (by omega)
        have f2 : g0 165 28 ≤ g2 165 28 := by rw [e2, up_i (by decide)]; exact f1
        have ht2 : n = 0 ∨ ∀ m : Nat, n = m + 1 → g2 190 (m : Int) ≠ 1 := by
          rcases ht1 with z | z
          · exact Or.inl z
          · exact Or.inr (fun m hm => by rw [e2, up_i (by decide)]; exact z m hm)
        have v2 : g2 191 (n : Int) = 0 ∨ g2 191 (n : Int) = 2 := by rw [e2, up_s]; exact hv
        rw [e362]
        refine ⟨k9, k9, iJ, ite_c (fun q => ⟨k9, ?_⟩) (fun q => ?_)⟩
        · have w := hX.w
          have hp := hX.pay (k := 3) (v := 0) (Or.inr rfl) (by omega) (Or.inr (Or.inl rfl))
          have hpw := hp.w
          rw [up_i (by decide), ws_31] at hpw
          refine s_151 hr w.1 (by omega) (fun v => e181 _ hp (c2.ws hX.2.2.2.2.2.2.1) (by rw [ws_o (by omega)]; exact f2) ?_)
          rcases ht2 with z | z
          · exact Or.inl z
          · exact Or.inr (fun m hm => by rw [ws_o (by omega)]; exact z m hm)
        · have z0 : g2 191 (n : Int) = 0 := by omega
          refine e181 g2 ?_ c2 f2 ht2
          have : up g2 191 (n : Int) 0 = g2 := up_id z0
          rw [this]; exact hX
      have e89 : ∀ g1, CS a n 0 (up g1 191 (n : Int) (wr ((wr ((wr ((g1 191 (n : Int)).tdiv 2)) * 2)) + 1))) → CK a g0 g1 → g0 165 28 ≤ g1 165 28 → WQ sc (d + 3) 153 Q 89 [(2, 165), (9, 0)] [] g1 r := by
        intro g1 hX c1 f1
        have e36 : g1 165 36 = (n : Int) := by have := hX.2.1; rwa [up_i (by decide)] at this
        refine b_153_89 ?_
        rw [r_165_35 hr, e36]
        refine ⟨k9, k9, k9, k9, iJ, by decide, iJ, fun g2 e2 => ⟨Or.inr rfl, h1 n g2 ?_ ?_ ?_⟩⟩
        · rw [e2]; exact hX
        · rw [e2]; exact c1.u (by omega)
        · rw [e2, up_i (by decide)]; exact f1
      refine b_153_56 ⟨k9, s_147 hr hc.1 (by decide) (fun g1 _ o1 rs1 p1 => ?_) ?_⟩
      · rw [if_neg (by decide), r_165_35 hr]
        have hc1 : CS a n 1 g1 := hc.mv rs1.2.1 rs1.2.2.1 rs1.e
        have sl := hc.sl p1 rs1.e
        have e36 := hc1.2.1
        have hj := hc1.2.2.2.1 n (Nat.le_refl n)
        have c1 : CK a g0 g1 := c.rx rs1.1
        have f1 : g0 165 28 ≤ g1 165 28 := by have := rs1.2.2.1; omega
        have hg := hsF_ge g1 n
        have ht1 : ∀ v : Int, n = 0 ∨ v = 0 ∨ ∀ m : Nat, n = m + 1 → g1 190 (m : Int) ≠ 1 := fun v => by
          rcases ht with z | z
          · exact Or.inl z
          · exact Or.inr (Or.inr (fun m hm => by rw [rs1.e 190 _ (by omega)]; exact z m hm))
        rw [e36]
        refine ⟨k9, k9, iJ, by decide, ite_c (fun q => ⟨k9, ?_⟩) (fun q => ?_)⟩
        · have w := hc1.w
          have hb := hsF_b g1 n
          have nb := nF_b g1 n
          have w2 := hc1.1.2.1
          have w3 := hc1.1.2.2.2.1
          have w4 := hc1.1.2.2.2.2.1
          have jo : (g1 191 (n : Int) = 1 ∨ g1 191 (n : Int) = 3) := by
            rcases jt hj.1 hj.2 with z | z | z | z
            · rw [z] at q; exact absurd q (by decide)
            · exact Or.inl z
            · rw [z] at q; exact absurd q (by decide)
            · exact Or.inr z
          have jp : 1 ≤ jn (g1 191 (n : Int)) := by rcases jo with z | z <;> rw [z] <;> decide
          refine s_151 hr w.1 (by omega) (fun v => e89 _ ?_ (c1.ws hc1.2.2.2.2.2.2.1) (by rw [ws_o (by omega)]; exact f1))
          have hw : CS a n 0 (WS g1 2 0 0 0) := hc1.ws (by decide) (Or.inr (Or.inr ⟨by decide, by decide, by omega, by decide⟩)) (by omega)
          have e91 : WS g1 2 0 0 0 191 (n : Int) = g1 191 (n : Int) := ws_o (by omega)
          have ev : wr ((wr ((wr ((WS g1 2 0 0 0 191 (n : Int)).tdiv 2)) * 2)) + 1) = WS g1 2 0 0 0 191 (n : Int) := by
            rw [e91]; rcases jo with z | z <;> rw [z] <;> decide
          rw [ev, up_id rfl]
          exact hw
        · refine e89 _ ?_ c1 f1
          have jo : (g1 191 (n : Int) = 0 ∨ g1 191 (n : Int) = 2) := by
            rcases jt hj.1 hj.2 with z | z | z | z
            · exact Or.inl z
            · rw [z] at q; exact absurd (by decide) q
            · exact Or.inr z
            · rw [z] at q; exact absurd (by decide) q
          rcases jo with z | z
          · have ev : wr ((wr ((wr ((g1 191 (n : Int)).tdiv 2)) * 2)) + 1) = 1 := by rw [z]; decide
            have j0 : jn (g1 191 (n : Int)) = 0 := by rw [z]; decide
            have j1 : jn 1 = 1 := by decide
            rw [ev]
            exact hc1.jo (by decide) (ht1 1) (by omega) (by omega)
          · have ev : wr ((wr ((wr ((g1 191 (n : Int)).tdiv 2)) * 2)) + 1) = 3 := by rw [z]; decide
            have j0 : jn (g1 191 (n : Int)) = 1 := by rw [z]; decide
            have j1 : jn 3 = 2 := by decide
            rw [ev]
            exact hc1.jo (by decide) (ht1 3) (by omega) (by omega)
      · rw [if_pos rfl, r_165_35 hr, hc.2.1]
        have hj := hc.2.2.2.1 n (Nat.le_refl n)
        refine ⟨k9, k9, iJ, by decide, ite_c (fun q => ⟨k9, ?_⟩) (fun q => ?_)⟩
        · have w := hc.w
          have jo : (g 191 (n : Int) = 1 ∨ g 191 (n : Int) = 3) := by
            rcases jt hj.1 hj.2 with z | z | z | z
            · rw [z] at q; exact absurd q (by decide)
            · exact Or.inl z
            · rw [z] at q; exact absurd q (by decide)
            · exact Or.inr z
          have e91 : WS g 2 0 0 0 191 (n : Int) = g 191 (n : Int) := ws_o (by omega)
          have hp : CS a n 1 (up (WS g 2 0 0 0) 191 (n : Int) (wr ((wr ((WS g 2 0 0 0 191 (n : Int)).tdiv 2)) * 2))) := by
            rw [e91]
            refine hc.pay (Or.inl rfl) ?_ ?_
            · rcases jo with z | z
              · exact Or.inl ⟨z, by rw [z]; decide⟩
              · exact Or.inr (Or.inr ⟨z, by rw [z]; decide⟩)
            · rcases ht with z | z
              · exact Or.inl z
              · exact Or.inr (Or.inr z)
          have hpw := hp.w
          rw [up_i (by decide), ws_31] at hpw
          refine s_151 hr w.1 (by omega) (fun v => e138 _ (by rw [e91]; exact hj) hp (c.ws hc.2.2.2.2.2.2.1) (by rw [ws_o (by omega)]; exact f) ?_)
          rcases ht with z | z
          · exact Or.inl z
          · exact Or.inr (fun m hm => by rw [ws_o (by omega)]; exact z m hm)
        · refine e138 _ hj ?_ c f ht
          have ev : wr ((wr ((g 191 (n : Int)).tdiv 2)) * 2) = g 191 (n : Int) := by
            rcases jt hj.1 hj.2 with z | z | z | z
            · rw [z]; decide
            · rw [z] at q; exact absurd (by decide) q
            · rw [z]; decide
            · rw [z] at q; exact absurd (by decide) q
          rw [ev, up_id rfl]
          exact hc
    intro n
    induction n with
    | zero =>
      intro g hc c f
      have e36 := hc.2.1
      have b := body 0 (fun m hm => by omega) g hc c f (Or.inl rfl)
      exact b_153_13 ⟨k9, ite_c (fun q => absurd q (by omega)) (fun _ => b)⟩
    | succ m ih =>
      intro g hc c f
      have e36 := hc.2.1
      have n9 := hc.2.2.1
      have ew : wr (g 165 36 - 1) = (m : Int) := by rw [e36, wr_id ⟨by omega, by omega⟩]; omega
      have nx : ∀ k : Nat, m + 1 = k + 1 → ∀ g, CS a k 1 g → CK a g0 g → g0 165 28 ≤ g 165 28 → WQ sc (d + 3) 153 Q 13 [(2, 165), (9, 0)] [] g r := fun k hk g h1 h2 h3 => by
        have : k = m := by omega
        subst this
        exact ih g h1 h2 h3
      refine b_153_13 ?_
      rw [r_165_34 hr, ew]
      refine ⟨k9, ite_c (fun _ => ⟨k9, k9, i_190.mpr ⟨by omega, by omega⟩, ite_c (fun q => ⟨k9, k9, fun g1 e1 => ⟨k9, ?_⟩⟩) (fun q => ?_)⟩) (fun q => absurd (by omega) q)⟩
      · have z0 := hc.2.2.2.2.1 m (by omega) q
        have n1 : nF g (m + 1) = nF g m + (if g 190 (m : Int) = 1 then 1 else 0) := rfl
        rw [if_pos q] at n1
        have hd := hc.dn z0
        have h1s : hsF g (m + 1) = hsF g m + jn (g 191 ((m + 1 : Nat) : Int)) := rfl
        have j0 : jn (g 191 ((m + 1 : Nat) : Int)) = 0 := by rw [z0]; decide
        rw [← e1] at hd
        have hh : hsF g1 m = hsF g m := hsF_eq m (fun i _ => by rw [e1, up_i (by decide)])
        have hn : nF g1 m = nF g m := nF_eq m (fun i _ => by rw [e1, up_i (by decide)])
        have b := hc.2.2.2.2.2.2.2.2
        have f31 : g1 165 31 = g 165 31 := by rw [e1, up_j (by decide)]
        have f28 : g1 165 28 = g 165 28 := by rw [e1, up_j (by decide)]
        have hb := hsF_b g1 m
        have nb := nF_b g1 m
        have w2 := hd.1.2.1
        have w3 := hd.1.2.2.2.1
        have w4 := hd.1.2.2.2.2.1
        have w := hd.w
        have c1 : CK a g0 g1 := by rw [e1]; exact c.u (by omega)
        refine s_151 hr w.1 (by omega) (fun v => ih _ (hd.ws (by decide) (Or.inr (Or.inl ⟨rfl, by omega, rfl⟩)) (by omega)) (c1.ws hd.2.2.2.2.2.2.1) ?_)
        rw [ws_o (by omega)]; omega
      · exact body (m + 1) nx g hc c f (Or.inr (fun k hk => by cases (show k = m by omega); exact q))
  intro n g hc c f
  exact c_153 (b_153_2 (ite_c (fun z => absurd z (by decide)) (fun _ => ⟨k9, ite_c (fun _ => loop n g hc c f) (fun z => ⟨Or.inl rfl, wrong n g hc c f z⟩)⟩)))
end MPC
