/-! the reference's reading comes to its end: the tokens; printed by a program (wip/gen/gen_m7.py) -/
/-- all but what next writes -/
def OX (g g' : GH) : Prop := ∀ i j, ¬ (i = 165 ∧ (j = 27 ∨ j = 28 ∨ j = 29 ∨ j = 30 ∨ j = 32)) → g' i j = g i j
theorem OX.rf (g : GH) : OX g g := fun _ _ _ => rfl
theorem OX.tr {a b c : GH} (h1 : OX a b) (h2 : OX b c) : OX a c := fun i j h => (h2 i j h).trans (h1 i j h)
theorem OX.u {a b : GH} {j v : Int} (h : OX a b) (hj : j = 27 ∨ j = 28 ∨ j = 29 ∨ j = 30 ∨ j = 32) : OX a (up b 165 j v) := fun i k hi => by
  have : ¬ (i = 165 ∧ k = j) := fun q => hi ⟨q.1, by rw [q.2]; exact hj⟩
  rw [up_o this]; exact h i k hi
/-- the token that stands -/
def RV (g : GH) : Prop := 0 ≤ g 165 26 ∧ g 165 26 ≤ 700 ∧ 0 ≤ g 165 28 ∧ g 165 28 ≤ g 165 27 ∧ g 165 27 ≤ g 165 26 ∧ (g 165 29 = 1 → g 165 32 ≤ 26 ∨ g 165 28 + 2 ≤ g 165 27) ∧ (g 165 29 ≠ 0 → g 165 28 < g 165 27)
def hV (g : GH) : Int := if g 165 27 < g 165 26 then i_and (g 189 (g 165 27)) 255 else -1
theorem hV_lt {g : GH} (h : hV g ≠ -1) : g 165 27 < g 165 26 := by
  unfold hV at h
  by_cases z : g 165 27 < g 165 26
  · exact z
  · rw [if_neg z] at h; exact absurd rfl h
theorem hV_eq {a b : GH} (h : OX a b) (e : b 165 27 = a 165 27) : hV b = hV a := by
  unfold hV
  rw [e, h 165 26 (by decide), h 189 (a 165 27) (by omega)]
section MPR
variable {sc : SCR} {d : Nat} {Q : QJ} {g r : GH} {l0 l1 l2 l3 l4 l5 l6 l7 l8 l9 l10 l11 l12 t0 : Int}
theorem s_143 (hr : RI r) (hL : g 165 26 ≤ 700) (h0 : 0 ≤ g 165 27) (h : Q (hV g) g r) : Ce sc (d + 1) 143 [(2, 165)] g r Q := by
  have k9 : okr 218 165 9 := okd (by decide +kernel)
  refine c_143 ⟨k9, k9, ?_⟩
  rw [r_165_23 hr]
  refine ite_c (fun q => ⟨k9, k9, Or.inl (i_189.mpr ⟨h0, by omega⟩), ?_⟩) (fun q => ?_)
  · unfold hV at h; rw [if_pos q] at h; exact h
  · unfold hV at h; rw [if_neg q] at h; exact h
theorem s_144 (hr : RI r) (hL0 : 0 ≤ g 165 26) (hL : g 165 26 ≤ 700) (h0 : 0 ≤ g 165 27) (h1 : g 165 27 ≤ g 165 26) (h : ∀ v g', OX g g' → g 165 27 ≤ g' 165 28 → RV g' → Q v g' r) : Ce sc (d + 2) 144 [(2, 165)] g r Q := by
  have k9 : okr 218 165 9 := okd (by decide +kernel)
  have num : ∀ i : Int, ∀ g1, OX g g1 → g1 165 27 = i → g 165 27 ≤ g1 165 28 → g1 165 28 ≤ i → (i ≤ g 165 26) → (g1 165 28 < i ∨ hV g1 ≠ -1 ∧ 48 ≤ hV g1 ∧ hV g1 ≤ 57) → WQ sc (d + 1) 144 Q 177 [(2, 165), (9, 0)] [] g1 r := by
    refine upG (g 165 26) fun i ih g1 e0 ei ef ef2 el en => ?_
    have f26 : g1 165 26 = g 165 26 := e0 165 26 (by decide)
    have h27 : 0 ≤ g1 165 27 := by omega
    refine b_144_177 ⟨k9, s_143 hr (by omega) h27 (w_137 (fun a b => ?_) (fun c => ?_))⟩
    · rw [if_neg (by decide)]
      have lt := hV_lt (g := g1) (by omega)
      have hw : wr (g1 165 27 + 1) = g1 165 27 + 1 := wr_id ⟨by omega, by omega⟩
      refine ⟨k9, ite_c (fun _ => ⟨k9, k9, s_143 hr (by omega) h27 ⟨k9, fun g4 e4 => ⟨k9, k9, fun g5 e5 => ?_⟩⟩⟩) (fun _ => ⟨k9, k9, fun g3 e3 => ?_⟩)⟩
      · have f4 : g4 165 27 = g1 165 27 := by rw [e4, up_j (by decide)]
        rw [f4, hw] at e5
        refine ih (by omega) (i + 1) (by omega) g5 ?_ ?_ ?_ ?_ (by omega) ?_
        · rw [e5, e4]; exact (e0.u (by decide)).u (by decide)
        · rw [e5, up_s]; omega
        all_goals rw [e5, up_j (by decide), e4, up_j (by decide)]; omega
      · rw [hw] at e3
        refine ih (by omega) (i + 1) (by omega) g3 ?_ ?_ ?_ ?_ (by omega) ?_
        · rw [e3]; exact e0.u (by decide)
        · rw [e3, up_s]; omega
        all_goals rw [e3, up_j (by decide)]; omega
    · rw [if_pos rfl]
      have lt : g1 165 28 < g1 165 27 := by
        rcases en with z | z
        · omega
        · exact absurd ⟨z.2.1, z.2.2⟩ c
      refine ⟨k9, k9, ite_c (fun _ => ⟨k9, fun g3 e3 => h _ _ ?_ ?_ ?_⟩) (fun _ => ⟨k9, fun g3 e3 => h _ _ ?_ ?_ ?_⟩)⟩
      · rw [e3]; exact e0.u (by decide)
      · rw [e3, up_j (by decide)]; exact ef
      · unfold RV
        rw [e3, up_s, up_j (by decide), up_j (by decide), up_j (by decide), up_j (by decide)]; omega
      · rw [e3]; exact e0.u (by decide)
      · rw [e3, up_j (by decide)]; exact ef
      · unfold RV
        rw [e3, up_s, up_j (by decide), up_j (by decide), up_j (by decide), up_j (by decide)]; omega
  have wrd : ∀ i : Int, ∀ g1, OX g g1 → g1 165 27 = i → g 165 27 ≤ g1 165 28 → g1 165 29 = 1 → (i ≤ g 165 26) → ((g1 165 28 = i ∧ g1 165 32 = 0 ∧ hV g1 ≠ -1 ∧ 97 ≤ hV g1 ∧ hV g1 ≤ 122) ∨ (g1 165 28 + 1 = i ∧ g1 165 32 ≤ 26) ∨ g1 165 28 + 2 ≤ i) → WQ sc (d + 1) 144 Q 92 [(2, 165), (9, 0)] [] g1 r := by
    refine upG (g 165 26) fun i ih g1 e0 ei ef et el en => ?_
    have f26 : g1 165 26 = g 165 26 := e0 165 26 (by decide)
    have h27 : 0 ≤ g1 165 27 := by omega
    refine b_144_92 ⟨k9, s_143 hr (by omega) h27 (w_137 (fun a b => ?_) (fun c => ?_))⟩
    · rw [if_neg (by decide)]
      have lt := hV_lt (g := g1) (by omega)
      have hw : wr (g1 165 27 + 1) = g1 165 27 + 1 := wr_id ⟨by omega, by omega⟩
      refine ⟨k9, k9, ite_c (fun _ => ⟨k9, k9, s_143 hr (by omega) h27 ⟨k9, fun g4 e4 => ⟨k9, k9, fun g5 e5 => ?_⟩⟩⟩) (fun _ => ⟨k9, fun g4 e4 => ⟨k9, k9, fun g5 e5 => ?_⟩⟩)⟩
      · have f4 : g4 165 27 = g1 165 27 := by rw [e4, up_j (by decide)]
        rw [f4, hw] at e5
        have c27 : g5 165 27 = i + 1 := by rw [e5, up_s]; omega
        have c28 : g5 165 28 = g1 165 28 := by rw [e5, up_j (by decide), e4, up_j (by decide)]
        have c29 : g5 165 29 = 1 := by rw [e5, up_j (by decide), e4, up_j (by decide)]; exact et
        have c32 : g5 165 32 = wL (wL (g1 165 32 * 27) + wr (hV g1 - 96)) := by rw [e5, up_j (by decide), e4, up_s]
        refine ih (by omega) (i + 1) (by omega) g5 (by rw [e5, e4]; exact (e0.u (by decide)).u (by decide)) c27 (by omega) c29 (by omega) ?_
        rcases en with ⟨z1, z2, z3⟩ | z | z
        · refine Or.inr (Or.inl ⟨by omega, ?_⟩)
          rw [c32, z2, wr_id (x := hV g1 - 96) ⟨by omega, by omega⟩, show (0 : Int) * 27 = 0 by decide, wL_id (x := 0) ⟨by decide, by decide⟩, wL_id ⟨by omega, by omega⟩]
          omega
        · exact Or.inr (Or.inr (by omega))
        · exact Or.inr (Or.inr (by omega))
      · have f4 : g4 165 27 = g1 165 27 := by rw [e4, up_j (by decide)]
        rw [f4, hw] at e5
        have c27 : g5 165 27 = i + 1 := by rw [e5, up_s]; omega
        have c28 : g5 165 28 = g1 165 28 := by rw [e5, up_j (by decide), e4, up_j (by decide)]
        have c29 : g5 165 29 = 1 := by rw [e5, up_j (by decide), e4, up_j (by decide)]; exact et
        have c32 : g5 165 32 = -1 := by rw [e5, up_j (by decide), e4, up_s]
        refine ih (by omega) (i + 1) (by omega) g5 (by rw [e5, e4]; exact (e0.u (by decide)).u (by decide)) c27 (by omega) c29 (by omega) ?_
        rcases en with ⟨z1, z2, z3⟩ | z | z
        · exact Or.inr (Or.inl ⟨by omega, by omega⟩)
        · exact Or.inr (Or.inr (by omega))
        · exact Or.inr (Or.inr (by omega))
    · rw [if_pos rfl]
      refine h _ _ e0 ef ?_
      unfold RV
      rcases en with ⟨z1, z2, z3, z4⟩ | z | z
      · exact absurd z4 c
      · omega
      · omega
  have blank : ∀ i : Int, ∀ g1, OX g g1 → g1 165 27 = i → g 165 27 ≤ i → (i ≤ g 165 26) → WQ sc (d + 1) 144 Q 0 [(2, 165), (9, 0)] [] g1 r := by
    refine upG (g 165 26) fun i ih g1 e0 ei ef el => ?_
    have f26 : g1 165 26 = g 165 26 := e0 165 26 (by decide)
    have h27 : 0 ≤ g1 165 27 := by omega
    have hw : hV g1 ≠ -1 → wr (g1 165 27 + 1) = g1 165 27 + 1 := fun z => by
      have := hV_lt z
      exact wr_id ⟨by omega, by omega⟩
    refine b_144_0 ⟨k9, s_143 hr (by omega) h27 (ite_c (fun z => ⟨k9, k9, fun g2 e2 => ?_⟩) (fun _ => ⟨k9, s_143 hr (by omega) h27 (ite_c (fun z => ⟨k9, k9, fun g2 e2 => ?_⟩) (fun _ => ⟨k9, k9, fun g3 e3 => ⟨k9, ?_⟩⟩))⟩))⟩
    · have lt := hV_lt (g := g1) (by omega)
      rw [hw (by omega)] at e2
      exact ih (by omega) (i + 1) (by omega) g2 (by rw [e2]; exact e0.u (by decide)) (by rw [e2, up_s]; omega) (by omega) (by omega)
    · have lt := hV_lt (g := g1) (by omega)
      rw [hw (by omega)] at e2
      exact ih (by omega) (i + 1) (by omega) g2 (by rw [e2]; exact e0.u (by decide)) (by rw [e2, up_s]; omega) (by omega) (by omega)
    · have x3 : OX g g3 := by rw [e3]; exact e0.u (by decide)
      have x13 : OX g1 g3 := by rw [e3]; exact (OX.rf g1).u (by decide)
      have c27 : g3 165 27 = i := by rw [e3, up_j (by decide)]; exact ei
      have c28 : g3 165 28 = i := by rw [e3, up_s]; exact ei
      have hv : hV g3 = hV g1 := hV_eq x13 (by omega)
      refine s_143 hr (by rw [x3 165 26 (by decide)]; exact hL) (by omega) ⟨k9, fun g5 e5 => ⟨k9, fun g6 e6 => ?_⟩⟩
      have x6 : OX g g6 := by rw [e6, e5]; exact (x3.u (by decide)).u (by decide)
      have x36 : OX g3 g6 := by rw [e6, e5]; exact ((OX.rf g3).u (by decide)).u (by decide)
      have d27 : g6 165 27 = i := by rw [e6, up_j (by decide), e5, up_j (by decide)]; exact c27
      have d28 : g6 165 28 = i := by rw [e6, up_j (by decide), e5, up_j (by decide)]; exact c28
      have d32 : g6 165 32 = -1 := by rw [e6, up_j (by decide), e5, up_s]
      have d26 : g6 165 26 = g 165 26 := x6 165 26 (by decide)
      have hv6 : hV g6 = hV g3 := hV_eq x36 (by omega)
      have sgn : hV g3 ≠ -1 → ∀ t : Int, ∀ g9, g9 = up g6 165 29 t → ∀ g10, g10 = up g9 165 27 (wr (g9 165 27 + 1)) → Q 0 g10 r := by
        intro z t g9 e9 g10 e10
        have lt := hV_lt (g := g3) z
        rw [x3 165 26 (by decide)] at lt
        have e97 : g9 165 27 = i := by rw [e9, up_j (by decide)]; exact d27
        rw [e97, wr_id ⟨by omega, by omega⟩] at e10
        refine h _ _ ?_ ?_ ?_
        · rw [e10, e9]; exact (x6.u (by decide)).u (by decide)
        · rw [e10, up_j (by decide), e9, up_j (by decide)]; omega
        · unfold RV
          rw [e10, up_s, up_j (by decide), up_j (by decide), up_j (by decide), up_j (by decide), e9, up_s, up_j (by decide), up_j (by decide), up_j (by decide)]
          omega
      refine ite_c (fun z => ⟨k9, fun g7 e7 => h _ _ ?_ ?_ ?_⟩) (fun z => w_137 (fun a b => ?_) (fun _ => ?_))
      · rw [e7]; exact x6.u (by decide)
      · rw [e7, up_j (by decide)]; omega
      · unfold RV
        rw [e7, up_s, up_j (by decide), up_j (by decide), up_j (by decide), up_j (by decide)]
        omega
      · rw [if_neg (by decide)]
        refine ⟨k9, fun g8 e8 => ⟨k9, fun g9 e9 => ?_⟩⟩
        have x9 : OX g6 g9 := by rw [e9, e8]; exact ((OX.rf g6).u (by decide)).u (by decide)
        have y27 : g9 165 27 = i := by rw [e9, up_j (by decide), e8, up_j (by decide)]; exact d27
        have y28 : g9 165 28 = i := by rw [e9, up_j (by decide), e8, up_j (by decide)]; exact d28
        have y29 : g9 165 29 = 1 := by rw [e9, up_j (by decide), e8, up_s]
        have y32 : g9 165 32 = 0 := by rw [e9, up_s]
        have hv9 : hV g9 = hV g6 := hV_eq x9 (by omega)
        exact wrd i g9 (x6.tr x9) y27 (by omega) y29 el (Or.inl ⟨y28, y32, by omega, by omega, by omega⟩)
      · rw [if_pos rfl]
        refine w_137 (fun a b => ?_) (fun _ => ?_)
        · rw [if_neg (by decide)]
          exact num i g6 x6 d27 (by omega) (by omega) el (Or.inr ⟨by omega, by omega, by omega⟩)
        · rw [if_pos rfl]
          have s := sgn (by omega)
          exact ite_c (fun _ => ⟨k9, fun g9 e9 => ⟨k9, k9, fun g10 e10 => s _ g9 e9 g10 e10⟩⟩) (fun _ => ite_c (fun _ => ⟨k9, fun g9 e9 => ⟨k9, k9, fun g10 e10 => s _ g9 e9 g10 e10⟩⟩) (fun _ => ite_c (fun _ => ⟨k9, fun g9 e9 => ⟨k9, k9, fun g10 e10 => s _ g9 e9 g10 e10⟩⟩) (fun _ => ite_c (fun _ => ⟨k9, fun g9 e9 => ⟨k9, k9, fun g10 e10 => s _ g9 e9 g10 e10⟩⟩) (fun _ => ite_c (fun _ => ⟨k9, fun g9 e9 => ⟨k9, k9, fun g10 e10 => s _ g9 e9 g10 e10⟩⟩) (fun _ => ite_c (fun _ => ⟨k9, fun g9 e9 => ⟨k9, k9, fun g10 e10 => s _ g9 e9 g10 e10⟩⟩) (fun _ => ⟨k9, fun g9 e9 => ⟨k9, k9, fun g10 e10 => s _ g9 e9 g10 e10⟩⟩))))))
  have hb := blank (g 165 27) g (OX.rf g) rfl (Int.le_refl _) h1
  exact Ce_of rfl hb
end MPR
