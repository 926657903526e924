/-! the calls of the class that what the law keeps speaks of: seen, load, rim, fall, order, image, restore, mill -/
/-- all that is asked but the object x -/
def EX (x : Int) (g g' : GH) : Prop := ∀ i, FP i → i ≠ x → ∀ j, g' i j = g i j
theorem EQ.ex {g g' : GH} {x : Int} (h : EQ g g') : EX x g g' := fun i hi _ j => h i hi j
theorem EX.up {a b : GH} {x y j v : Int} (h : EX x a b) (hy : NF y ∨ y = x) : EX x a (up b y j v) := fun i hi hx k => by
  have hne : i ≠ y := fun q => by
    rcases hy with e | e
    · exact e (by rw [← q]; exact hi)
    · exact hx (q.trans e)
  rw [up_i hne]; exact h i hi hx k
/-- sum, and the height of the rim -/
def rsum (f : Int → Int) : Nat → Int → Int → Int
  | 0, s, _ => s
  | n + 1, s, i => rsum f n (wr (s + f i)) (i + 1)
def rend (f : Int → Int) (mean : Int) : Nat → Int → Int → Int → Int → Int
  | 0, _, le, mo, _ => wr (mo - le)
  | n + 1, now, le, mo, i => rend f mean n (wr (now + wr (mean - f i))) (if wr (now + wr (mean - f i)) < le then wr (now + wr (mean - f i)) else le) (if mo < wr (now + wr (mean - f i)) then wr (now + wr (mean - f i)) else mo) (i + 1)
def rimV (f : Int → Int) (n : Nat) : Int := rend f (wr ((rsum f n 0 0).tdiv n)) n 0 0 0 0
section SRW
variable {sc : SCR} {d : Nat} {Q : QJ} {g r : GH} {l0 l1 l2 l3 l4 l5 l6 p a b n : Int}
theorem w_24 (k : okr 218 p 3) (e0 : r p 0 = a) (e1 : r p 1 = b) (A : AL a 11 n) (B : AL b 11 n) (na : p ≠ a) (nb : p ≠ b) (hn : n < 100) (c0 : 0 ≤ g p 2) (h1 : g p 2 < n → Q 1 (up (up (up g a (g p 2) l1) b (g p 2) l2) p 2 (g p 2 + 1)) r) (h0 : ¬ g p 2 < n → Q 0 g r) : Ce sc (d + 1) 24 [(2, p), (0, l1), (0, l2)] g r Q := by
  refine c_24 ⟨k, ite_c (fun q => absurd q (by omega)) (fun _ => ⟨k, k, by rw [e0]; exact ⟨A.1.1, A.1.2.1, by rw [A.1.2.2]; decide, by rw [A.1.2.2]; decide⟩, ?_⟩)⟩
  rw [e0, e1, A.2]
  refine ite_c (fun q => ⟨k, k, ⟨A.1, c0, by rw [A.2]; exact q⟩, fun g1 E1 => ⟨k, k, ?_, fun g2 E2 => ⟨k, k, fun g3 E3 => ⟨Or.inr rfl, ?_⟩⟩⟩⟩) (fun q => ⟨Or.inl rfl, h0 q⟩)
  · rw [E1, up_i na]
    exact ⟨B.1, c0, by rw [B.2]; exact q⟩
  · have hq := h1 q
    have f1 : g1 p 2 = g p 2 := by rw [E1, up_i na]
    have f2 : g2 p 2 = g p 2 := by rw [E2, up_i nb, f1]
    rw [E3, f2, E2, f1, E1, wr_id ⟨by omega, by omega⟩]
    exact hq
theorem s_133n (hr : RI r) (h0 : 0 ≤ l1) (h2 : l1 ≤ 2) (h : ∀ g', EQ g g' → Q (-1) g' r) : Ce sc (d + 2) 133 [(2, 0), (0, l1)] g r Q := w_133 hr h0 h2 (h _ ((EQ.rf g).up (nf_of (by decide +kernel))))
theorem w_132 (hr : RI r) (k : okr 218 p 3) (e0 : r p 0 = a) (e1 : r p 1 = b) (A : AL a 11 n) (B : AL b 11 n) (na : p ≠ a) (nb : p ≠ b) (hn : n < 100) (c0 : 0 ≤ g p 2) (h1 : g p 2 < n → Q (g p 2 + 1) (up (up (up g a (g p 2) l2) b (g p 2) l3) p 2 (g p 2 + 1)) r) (h0 : ¬ g p 2 < n → ∀ g', EQ g g' → Q (-1) g' r) : Ce sc (d + 3) 132 [(2, 0), (2, p), (0, l2), (0, l3)] g r Q := by
  have k0 : okr 218 0 8 := okd (by decide +kernel)
  refine c_132 ⟨k, w_24 k e0 e1 A B na nb hn c0 (fun q => ?_) (fun q => ?_)⟩
  · rw [if_neg (by decide)]
    refine ⟨k, ?_⟩
    rw [up_s]
    exact h1 q
  · rw [if_pos rfl]
    exact ⟨k0, s_133n hr (by decide) (by decide) (h0 q)⟩
theorem s_99 (hr : RI r) (hc : 0 ≤ g 52 2 ∧ g 52 2 ≤ 30) (h : ∀ v g', EX 52 g g' → 0 ≤ g' 52 2 ∧ g' 52 2 ≤ 30 → Q v g' r) : Ce sc (d + 4) 99 [(2, 0), (0, l1), (0, l2)] g r Q := by
  have k0 : okr 218 0 8 := okd (by decide +kernel)
  have k52 : okr 218 52 3 := okd (by decide +kernel)
  have A : AL 53 11 30 := ⟨okd (by decide +kernel), n_53⟩
  have B : AL 54 11 30 := ⟨okd (by decide +kernel), n_54⟩
  have hq : ∀ v g', EQ g g' → Q v g' r := fun v g' e => h v g' e.ex (by rw [e 52 (by unfold FP; omega) 2]; exact hc)
  have no : Ce sc (d + 3) 133 [(2, 0), (0, 0)] g r (fun v2 g2 r2 => Q v2 g2 r2) := s_133 hr (by decide) (by decide) hq
  refine c_99 ⟨k0, w_129 hr (fun t => ?_) (fun t => ?_)⟩
  · rw [if_neg (mo_ne (hr.2.1 l1 t.1 t.2.1))]
    refine w_123 (fun _ _ => ?_) (fun _ => ?_)
    · rw [if_neg (by decide), r_0_12 hr]
      refine ⟨k0, k0, w_132 hr k52 (r_52_0 hr) (r_52_1 hr) A B (by decide) (by decide) (by decide) hc.1 (fun q => h _ _ ?_ ?_) (fun _ g' e => hq _ _ e)⟩
      · exact (((EQ.rf g).ex.up (Or.inl (nf_of (by decide +kernel)))).up (Or.inl (nf_of (by decide +kernel)))).up (Or.inr rfl)
      · rw [up_s]; omega
    · rw [if_pos rfl]; exact ⟨k0, no⟩
  · rw [if_pos rfl]; exact ⟨k0, no⟩
theorem s_104 (hr : RI r) (hc : 0 ≤ g 55 2 ∧ g 55 2 ≤ 24) (h1 : 0 ≤ l1 ∧ l1 ≤ 9999 ∧ g 55 2 < 24 → Q (g 55 2 + 1) (up (up (up g 56 (g 55 2) l1) 57 (g 55 2) 0) 55 2 (g 55 2 + 1)) r) (h0 : ¬ (0 ≤ l1 ∧ l1 ≤ 9999 ∧ g 55 2 < 24) → ∀ g', EQ g g' → Q (-1) g' r) : Ce sc (d + 4) 104 [(2, 0), (0, l1)] g r Q := by
  have k0 : okr 218 0 8 := okd (by decide +kernel)
  have k55 : okr 218 55 3 := okd (by decide +kernel)
  have A : AL 56 11 24 := ⟨okd (by decide +kernel), n_56⟩
  have B : AL 57 11 24 := ⟨okd (by decide +kernel), n_57⟩
  refine c_104 (w_123 (fun q1 q2 => ?_) (fun q => ?_))
  · rw [if_neg (by decide), r_0_13 hr]
    exact ⟨k0, k0, w_132 hr k55 (r_55_0 hr) (r_55_1 hr) A B (by decide) (by decide) (by decide) hc.1 (fun q => h1 ⟨q1, q2, q⟩) (fun q => h0 (fun z => q z.2.2))⟩
  · rw [if_pos rfl]; exact ⟨k0, s_133n hr (by decide) (by decide) (h0 (fun z => q ⟨z.1, z.2.1⟩))⟩
theorem s_111 (hr : RI r) (hc : 0 ≤ g 58 2 ∧ g 58 2 ≤ 9) (h1 : (2 ≤ l1 ∧ l1 ≤ 40 ∧ 1 ≤ l2 ∧ l2 ≤ 9999) ∧ g 58 2 < 9 → ∀ g', EX 58 g g' → g' 58 2 = g 58 2 + 1 → Q (g 58 2 + 1) g' r) (h0 : ¬ ((2 ≤ l1 ∧ l1 ≤ 40 ∧ 1 ≤ l2 ∧ l2 ≤ 9999) ∧ g 58 2 < 9) → ∀ g', EQ g g' → Q (-1) g' r) : Ce sc (d + 4) 111 [(2, 0), (0, l1), (0, l2)] g r Q := by
  have k0 : okr 218 0 8 := okd (by decide +kernel)
  have k58 : okr 218 58 3 := okd (by decide +kernel)
  have A : AL 59 11 9 := ⟨okd (by decide +kernel), n_59⟩
  have B : AL 60 11 9 := ⟨okd (by decide +kernel), n_60⟩
  refine c_111 (w_123 (fun q1 q2 => ?_) (fun q => ?_))
  · rw [if_neg (by decide)]
    refine w_123 (fun q3 q4 => ?_) (fun q => ?_)
    · rw [if_neg (by decide), r_0_14 hr]
      refine ⟨k0, k0, w_132 hr k58 (r_58_0 hr) (r_58_1 hr) A B (by decide) (by decide) (by decide) hc.1 (fun q => h1 ⟨⟨q1, q2, q3, q4⟩, q⟩ _ ?_ ?_) (fun q => h0 (fun z => q z.2))⟩
      · exact (((EQ.rf g).ex.up (Or.inl (nf_of (by decide +kernel)))).up (Or.inl (nf_of (by decide +kernel)))).up (Or.inr rfl)
      · rw [up_s]
    · rw [if_pos rfl]; exact ⟨k0, s_133n hr (by decide) (by decide) (h0 (fun z => q ⟨z.1.2.2.1, z.1.2.2.2⟩))⟩
  · rw [if_pos rfl]; exact ⟨k0, s_133n hr (by decide) (by decide) (h0 (fun z => q ⟨z.1.1, z.1.2.1⟩))⟩
theorem s_117 (hr : RI r) (hc : 0 ≤ g 62 2 ∧ g 62 2 ≤ 8) (h1 : (1 ≤ l1 ∧ l1 ≤ 24 ∧ 1 ≤ l2 ∧ l2 ≤ 999999999) ∧ g 62 2 < 8 → ∀ g', EX 62 g g' → g' 62 2 = g 62 2 + 1 → Q (g 62 2 + 1) g' r) (h0 : ¬ ((1 ≤ l1 ∧ l1 ≤ 24 ∧ 1 ≤ l2 ∧ l2 ≤ 999999999) ∧ g 62 2 < 8) → ∀ g', EQ g g' → Q (-1) g' r) : Ce sc (d + 4) 117 [(2, 0), (0, l1), (0, l2)] g r Q := by
  have k0 : okr 218 0 8 := okd (by decide +kernel)
  have k62 : okr 218 62 3 := okd (by decide +kernel)
  have A : AL 63 11 8 := ⟨okd (by decide +kernel), n_63⟩
  have B : AL 64 11 8 := ⟨okd (by decide +kernel), n_64⟩
  refine c_117 (w_123 (fun q1 q2 => ?_) (fun q => ?_))
  · rw [if_neg (by decide)]
    refine w_123 (fun q3 q4 => ?_) (fun q => ?_)
    · rw [if_neg (by decide), r_0_16 hr]
      refine ⟨k0, k0, w_132 hr k62 (r_62_0 hr) (r_62_1 hr) A B (by decide) (by decide) (by decide) hc.1 (fun q => h1 ⟨⟨q1, q2, q3, q4⟩, q⟩ _ ?_ ?_) (fun q => h0 (fun z => q z.2))⟩
      · exact (((EQ.rf g).ex.up (Or.inl (nf_of (by decide +kernel)))).up (Or.inl (nf_of (by decide +kernel)))).up (Or.inr rfl)
      · rw [up_s]
    · rw [if_pos rfl]; exact ⟨k0, s_133n hr (by decide) (by decide) (h0 (fun z => q ⟨z.1.2.2.1, z.1.2.2.2⟩))⟩
  · rw [if_pos rfl]; exact ⟨k0, s_133n hr (by decide) (by decide) (h0 (fun z => q ⟨z.1.1, z.1.2.1⟩))⟩
theorem w_25 (k : okr 218 p 3) (e0 : r p 0 = a) (A : AL a 11 n) (h0 : 0 ≤ l1) (h1 : l1 < n) (h : Q (g a l1) g r) : Ce sc (d + 1) 25 [(2, p), (0, l1)] g r Q := by
  refine c_25 (ite_c (fun q => absurd q (by omega)) (fun _ => ⟨k, ?_⟩))
  rw [e0, A.2]
  exact ⟨⟨A.1.1, A.1.2.1, by rw [A.1.2.2]; decide, by rw [A.1.2.2]; decide⟩, ite_c (fun q => ⟨k, ⟨A.1, h0, by rw [A.2]; exact q⟩, h⟩) (fun q => absurd h1 q)⟩
theorem w_105 (hr : RI r) (hc : 0 ≤ g 55 2 ∧ g 55 2 ≤ 24) (h1 : 0 < g 55 2 → Q (rimV (fun j => g 56 j) (g 55 2).toNat) (up g 55 2 0) r) (h0 : g 55 2 = 0 → Q (-1) g r) : Ce sc (d + 2) 105 [(2, 0)] g r Q := by
  have k0 : okr 218 0 8 := okd (by decide +kernel)
  have k55 : okr 218 55 3 := okd (by decide +kernel)
  have A : AL 56 11 24 := ⟨okd (by decide +kernel), n_56⟩
  obtain ⟨c0, c1⟩ := hc
  have two : ∀ (m : Nat) (i l2 l3 l4 l5 : Int), i + m = g 55 2 → 0 ≤ i → (Q (rend (fun j => g 56 j) l2 m l3 l4 l5 i) (up g 55 2 0) r) → WQ sc (d + 1) 105 Q 65 [(2, 0), (9, 0), (0, l2), (0, l3), (0, l4), (0, l5), (0, i)] [] g r := by
    intro m
    induction m with
    | zero =>
      intro i l2 l3 l4 l5 e hi hq
      refine b_105_65 ⟨k0, ?_⟩
      rw [r_0_13 hr]
      refine ⟨k55, ite_c (fun q => absurd q (by omega)) (fun _ => ⟨k0, k55, fun g1 E1 => ?_⟩)⟩
      rw [E1]; exact hq
    | succ m ih =>
      intro i l2 l3 l4 l5 e hi hq
      refine b_105_65 ⟨k0, ?_⟩
      rw [r_0_13 hr]
      refine ⟨k55, ite_c (fun q => ⟨k0, k55, w_25 k55 (r_55_0 hr) A hi (by omega) ?_⟩) (fun q => absurd (by omega) q)⟩
      have hw : wr (i + 1) = i + 1 := wr_id ⟨by omega, by omega⟩
      rw [hw]
      have a1 : ∀ x y : Int, (if x < y then x else y) = y ∨ x < y := fun x y => by by_cases hh : x < y; exact Or.inr hh; exact Or.inl (if_neg hh)
      have hq2 : Q (rend (fun j => g 56 j) l2 m (wr (l3 + wr (l2 - g 56 i))) (if wr (l3 + wr (l2 - g 56 i)) < l4 then wr (l3 + wr (l2 - g 56 i)) else l4) (if l5 < wr (l3 + wr (l2 - g 56 i)) then wr (l3 + wr (l2 - g 56 i)) else l5) (i + 1)) (up g 55 2 0) r := hq
      generalize wr (l3 + wr (l2 - g 56 i)) = y at hq2 ⊢
      refine w_250 (fun t => ?_) (fun t => ?_)
      · refine w_248 (fun s => ?_) (fun s => ?_)
        · refine ih _ _ _ _ _ (by omega) (by omega) ?_
          rw [if_neg (by omega), if_neg (by omega)] at hq2; exact hq2
        · refine ih _ _ _ _ _ (by omega) (by omega) ?_
          rw [if_neg (by omega)] at hq2
          by_cases z : l5 < y
          · rw [if_pos z] at hq2; exact hq2
          · have : l5 = y := by omega
            rw [if_neg z, this] at hq2; exact hq2
      · have e4 : (if y < l4 then y else l4) = y := by split <;> omega
        rw [e4] at hq2
        refine w_248 (fun s => ?_) (fun s => ?_)
        · refine ih _ _ _ _ _ (by omega) (by omega) ?_
          rw [if_neg (by omega)] at hq2; exact hq2
        · refine ih _ _ _ _ _ (by omega) (by omega) ?_
          by_cases z : l5 < y
          · rw [if_pos z] at hq2; exact hq2
          · have : l5 = y := by omega
            rw [if_neg z, this] at hq2; exact hq2
  have one : 0 < g 55 2 → ∀ (m : Nat) (i l1 : Int), i + m = g 55 2 → 0 ≤ i → (rsum (fun j => g 56 j) m l1 i = rsum (fun j => g 56 j) (g 55 2).toNat 0 0) → WQ sc (d + 1) 105 Q 16 [(2, 0), (0, l1), (0, i), (9, 0), (9, 0), (9, 0), (9, 0)] [] g r := by
    intro hp m
    induction m with
    | zero =>
      intro i l1 e hi hs
      refine b_105_16 ⟨k0, ?_⟩
      rw [r_0_13 hr]
      refine ⟨k55, ite_c (fun q => absurd q (by omega)) (fun _ => ⟨k0, k55, by omega, ?_⟩)⟩
      have hs2 : l1 = rsum (fun j => g 56 j) (g 55 2).toNat 0 0 := hs
      refine two (g 55 2).toNat 0 _ _ _ _ (by omega) (by decide) ?_
      have hq := h1 hp
      unfold rimV at hq
      rw [show (((g 55 2).toNat : Nat) : Int) = g 55 2 by omega, ← hs2] at hq
      exact hq
    | succ m ih =>
      intro i l1 e hi hs
      refine b_105_16 ⟨k0, ?_⟩
      rw [r_0_13 hr]
      refine ⟨k55, ite_c (fun q => ⟨k0, k55, w_25 k55 (r_55_0 hr) A hi (by omega) ?_⟩) (fun q => absurd (by omega) q)⟩
      have hw : wr (i + 1) = i + 1 := wr_id ⟨by omega, by omega⟩
      rw [hw]
      exact ih _ _ (by omega) (by omega) hs
  refine c_105 ⟨k0, ?_⟩
  rw [r_0_13 hr]
  exact ⟨k55, ite_c (fun q => one q (g 55 2).toNat 0 0 (by omega) (by decide) rfl) (fun q => h0 (by omega))⟩
theorem s_120 (hr : RI r) (hc : 0 ≤ g 0 7 ∧ g 0 7 ≤ 3) (h : ∀ v g', EX 0 g g' → 0 ≤ g' 0 7 ∧ g' 0 7 ≤ 3 → Q v g' r) : Ce sc (d + 4) 120 [(2, 0)] g r Q := by
  have k0 : okr 218 0 8 := okd (by decide +kernel)
  have hq : ∀ v g', EQ g g' → Q v g' r := fun v g' e => h v g' e.ex (by rw [e 0 (by unfold FP; omega) 7]; exact hc)
  have no : Ce sc (d + 3) 133 [(2, 0), (0, 1)] g r (fun v2 g2 r2 => Q v2 g2 r2) := s_133 hr (by decide) (by decide) hq
  refine c_120 ⟨k0, ite_c (fun q => ?_) (fun _ => ⟨k0, no⟩)⟩
  rw [r_0_6 hr, r_0_4 hr]
  have hi := im_of hr hc.1 q
  have hI : okI 218 45 14 (g 0 7) ∨ okI 218 45 15 (g 0 7) := by
    have : okI 218 45 15 (g 0 7) ↔ _ := i_45
    first | exact Or.inr (i_45.mpr ⟨hc.1, q⟩) | exact Or.inl (i_45.mpr ⟨hc.1, q⟩)
  rw [if_neg hi.2.2]
  refine ⟨k0, k0, hI, k0, k0, hI, k0, hi.2.1, s_1 hi.1 (br_23 hr) (fun v g' e => ⟨k0, k0, fun g2 E2 => ⟨k0, h _ _ ?_ ?_⟩⟩)⟩
  · rw [E2]; exact e.ex.up (Or.inr rfl)
  · rw [E2, up_s, e 0 (by unfold FP; omega) 7, wr_id ⟨by omega, by omega⟩]; omega
theorem s_121 (hr : RI r) (h : ∀ v g', (v = 0 ∨ v = 1) → EQ g g' → Q v g' r) : Ce sc (d + 4) 121 [(2, 0), (0, l1)] g r Q := by
  have k0 : okr 218 0 8 := okd (by decide +kernel)
  have no : Ce sc (d + 3) 134 [(2, 0), (0, 0)] g r (fun v2 g2 r2 => (v2 = 0 ∨ v2 = 1) ∧ Q v2 g2 r2) := s_134 hr (by decide) (by decide) (fun g' e => ⟨Or.inl rfl, h _ _ (Or.inl rfl) e⟩)
  refine c_121 ⟨k0, w_123 (fun q1 q2 => ?_) (fun _ => ?_)⟩
  · rw [if_neg (by decide)]
    refine w_123 (fun q3 q4 => ?_) (fun _ => ?_)
    · rw [if_neg (by decide), r_0_6 hr, r_0_4 hr]
      have hi := im_of hr q3 (by omega)
      have hI : okI 218 45 14 l1 ∨ okI 218 45 15 l1 := by
        first | exact Or.inr (i_45.mpr ⟨q3, by omega⟩) | exact Or.inl (i_45.mpr ⟨q3, by omega⟩)
      exact ⟨k0, k0, hI, (br_23 hr).1, s_1 (br_23 hr) hi.1 (fun v g' e => ⟨Or.inr rfl, h _ _ (Or.inr rfl) e⟩)⟩
    · rw [if_pos rfl]; exact ⟨k0, no⟩
  · rw [if_pos rfl]; exact ⟨k0, no⟩
end SRW
/-- the Rules of the seven Mills -/
def RS (u : Int) : Prop := u = 13 ∨ u = 72 ∨ u = 83 ∨ u = 94 ∨ u = 105 ∨ u = 116 ∨ u = 127
def RNS (g : GH) : Prop := ∀ u, RS u → RN g u
def MF (g g' : GH) : Prop := (∀ i, FP i → i ≠ 0 → i ≠ 1 → ¬ RS i → ∀ j, g' i j = g i j) ∧ (RNS g → RNS g') ∧ g' 1 1 = 0 ∧ (0 ≤ g 0 7 ∧ g 0 7 ≤ 3 → 0 ≤ g' 0 7 ∧ g' 0 7 ≤ 3)
theorem rs_fp {u : Int} (h : RS u) : FP u ∧ u ≠ 1 ∧ u ≠ 0 := by unfold RS at h; unfold FP; omega
theorem pf2_mf {u : Int} {g g1 g' : GH} (hu : RS u) (h : PF2 u g g1) (e : EQ g1 g') : MF g g' := by
  refine ⟨fun i hi y z w j => (e i hi j).trans (h.1 i hi z (fun q => w (by rw [q]; exact hu)) j), fun q u' hu' => ?_, (e 1 (by unfold FP; omega) 1).trans h.2.2, fun q => ?_⟩
  · obtain ⟨a1, a2, a3⟩ := rs_fp hu'
    have hh : RN g1 u' := by
      by_cases z : u' = u
      · rw [z]; exact h.2.1 (q u hu)
      · have := q u' hu'
        unfold RN at this ⊢
        rw [h.1 u' a1 a2 z, h.1 u' a1 a2 z]; exact this
    unfold RN at hh ⊢
    rw [e u' a1, e u' a1]; exact hh
  · have hne : (0 : Int) ≠ u := fun z => (rs_fp hu).2.2 z.symm
    rw [e 0 (by unfold FP; omega) 7, h.1 0 (by unfold FP; omega) (by decide) hne 7]; exact q
theorem up_o {f : GH} {i j v a b : Int} (h : ¬ (a = i ∧ b = j)) : up f i j v a b = f a b := if_neg h
theorem ri_swap {r : GH} {m : Int} (hr : RI r) (h0 : 0 ≤ m) (h6 : m < 6) : RI (up (up r 6 m (r 0 2)) 0 2 (r 6 m)) := by
  obtain ⟨a1, a2, a3, a4, a5⟩ := hr
  have e6 : ∀ j, up (up r 6 m (r 0 2)) 0 2 (r 6 m) 6 j = if j = m then r 0 2 else r 6 j := fun j => by
    rw [up_o (fun q => absurd q.1 (by decide))]
    by_cases z : j = m
    · rw [z, up_s, if_pos rfl]
    · rw [up_j z, if_neg z]
  have e2 : up (up r 6 m (r 0 2)) 0 2 (r 6 m) 0 2 = r 6 m := up_s
  refine ⟨fun i j y z => ?_, fun j x y => ?_, ?_, fun j x y => ?_, fun i j x y z w ne => ?_⟩
  · rw [up_o z, up_i y]; exact a1 i j y z
  · rw [e6]; split
    · exact a3
    · exact a2 j x y
  · rw [e2]; exact a2 m h0 h6
  · rw [e6, e2]; split
    · exact fun q => a4 m h0 h6 q.symm
    · exact a5 j m x y h0 h6 (by assumption)
  · rw [e6, e6]
    split <;> split
    · omega
    · exact fun q => a4 j z w q.symm
    · exact a4 i x y
    · exact a5 i j x y z w ne
theorem mo_rs {m : Int} (h : MO m) : RS (m + 6) := by unfold MO at h; unfold RS; omega
section SML67
variable {sc : SCR} {d : Nat} {Q : QJ} {g r : GH} {l0 l1 l2 : Int}
theorem s_67 (hr : RI r) (hn : RNS g) (ht : 0 ≤ g 1 1 ∧ g 1 1 ≤ 700) (hbad : ¬ (0 ≤ l1 ∧ l1 ≤ 5 ∧ 0 ≤ l2 ∧ l2 ≤ g 1 1) → ∀ g', EQ g g' → Q (-2) g' r) (hok : (0 ≤ l1 ∧ l1 ≤ 5 ∧ 0 ≤ l2 ∧ l2 ≤ g 1 1) → ∀ v g' r', RI r' → MF g g' → Q v g' r') : Ce sc (d + 38) 67 [(2, 0), (0, l1), (0, l2)] g r Q := by
  have k0 : okr 218 0 8 := okd (by decide +kernel)
  have k1 : okr 218 1 5 := okd (by decide +kernel)
  have hm := hr.2.2.1
  have hM := ml_of hr hm
  have hu := uu_of hr hm
  have hrs : RS (r (r 0 2) 4) := by rw [mo_4 hr hm]; exact mo_rs hm
  refine c_67 (w_123 (fun q1 q2 => ?_) (fun q => ?_))
  · rw [if_neg (by decide), r_0_0 hr]
    refine ⟨k0, k1, w_123 (fun q3 q4 => ?_) (fun q => ?_)⟩
    · rw [if_neg (by decide)]
      have hh := hok ⟨q1, q2, q3, q4⟩
      rw [r_0_0 hr]
      refine ⟨k0, k0, k1, ?_⟩
      refine s_32 hr hM hu (hn _ hrs) ht q3 (fun v g1 e1 => ?_)
      refine ite_c (fun _ => ⟨k0, s_133 hr (by decide) (by decide) (fun v' g' e => hh _ _ _ hr (pf2_mf hrs e1 e))⟩) (fun _ => ?_)
      rw [r_0_1 hr]
      have hI : okI 218 6 14 l1 := i_6.mpr ⟨q1, by omega⟩
      refine ⟨k0, Or.inl hI, k0, k0, Or.inl ⟨hI, mo_ok hm⟩, fun r4 E4 => ?_⟩
      rw [if_neg (mo_ne (hr.2.1 l1 q1 (by omega)))]
      refine ⟨k0, fun r5 E5 => ?_⟩
      have hr5 : RI r5 := by rw [E5, E4]; exact ri_swap hr q1 (by omega)
      rw [r_0_4 hr5]
      refine ⟨k0, (br_23 hr5).1, s_2 (br_23 hr5) (fun v' g2 e2 => ⟨k0, fun g3 E3 => hh _ _ _ hr5 ?_⟩)⟩
      obtain ⟨f1, f2, f3, -⟩ := pf2_mf hrs e1 e2
      refine ⟨fun i hi y z w j => ?_, fun q u' hu' => ?_, ?_, fun _ => ?_⟩
      · rw [E3, up_i y]; exact f1 i hi y z w j
      · have hx := (rs_fp hu').2.2
        have := f2 q u' hu'
        unfold RN at this ⊢
        rw [E3, up_i hx, up_i hx]; exact this
      · rw [E3, up_i (by decide)]; exact f3
      · rw [E3, up_s]; decide
    · rw [if_pos rfl]; exact ⟨k0, s_133n hr (by decide) (by decide) (hbad (fun z => q ⟨z.2.2.1, z.2.2.2⟩))⟩
  · rw [if_pos rfl]; exact ⟨k0, s_133n hr (by decide) (by decide) (hbad (fun z => q ⟨z.1, z.2.1⟩))⟩
end SML67
