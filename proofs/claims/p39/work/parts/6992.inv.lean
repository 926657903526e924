/-! what holds between the calls of the law -/
def R0 (g : GH) : Prop := g 1 1 = g 165 24 ∧ g 55 2 = g 165 64 ∧ (∀ j, 0 ≤ j → j < g 55 2 → g 56 j = g 211 j) ∧ g 58 2 = g 165 66 ∧ g 62 2 = g 165 70
def J (g r : GH) : Prop := RI r ∧ CI g ∧ RNS g ∧ MI g ∧ R0 g
theorem MI.hi {g g' : GH} (h : MI g) (e : ∀ i j, 165 ≤ i → g' i j = g i j) : MI g' := ⟨mn_eq h.1 (fun i j z => e i j (by omega)), mb_eq (fun i j z => e i j (by omega)) h.2.1, fun m a b mt => by
  rw [e 167 m (by decide)] at mt
  exact (h.2.2 m a b mt).pt (fun i x y => e i m (by omega)) (fun i j x y z w => e i j (by omega)) (fun i j x y z w => e i j (by omega))⟩
theorem rns_eq {g g' : GH} (h : RNS g) (e : ∀ i j, RS i → g' i j = g i j) : RNS g' := fun u hu => by
  have := h u hu
  unfold RN at this ⊢
  rw [e u 1 hu, e u 4 hu]; exact this
theorem rs_rng {u : Int} (h : RS u) : u = 13 ∨ u = 72 ∨ u = 83 ∨ u = 94 ∨ u = 105 ∨ u = 116 ∨ u = 127 := h
theorem J.eq {g g' r : GH} (h : J g r) (e : EQ g g') : J g' r := by
  obtain ⟨h1, h2, h3, h4, a1, a2, a3, a4, a5⟩ := h
  refine ⟨h1, h2.eq e, rns_eq h3 (fun i j hi => e i (rs_fp hi).1 j), h4.hi (fun i j q => e i (Or.inl q) j), ?_⟩
  unfold R0
  have k : ∀ j, g' 165 j = g 165 j := fun j => e 165 (by unfold FP; omega) j
  rw [e 1 (by unfold FP; omega) 1, e 55 (by unfold FP; omega) 2, e 58 (by unfold FP; omega) 2, e 62 (by unfold FP; omega) 2, k, k, k, k]
  refine ⟨a1, a2, fun j j0 j1 => ?_, a4, a5⟩
  rw [e 56 (by unfold FP; omega) j, e 211 (by unfold FP; omega) j]
  exact a3 j j0 j1
theorem J.me {g g' r : GH} (h : J g r) (e : ME g g') : J g' r := by
  obtain ⟨h1, h2, h3, h4, a1, a2, a3, a4, a5⟩ := h
  have k : ∀ i j, i < 165 → g' i j = g i j := fun i j q => e.1 i j (Or.inl q)
  refine ⟨h1, ?_, rns_eq h3 (fun i j hi => k i j (by have := rs_rng hi; omega)), h4.me e, ?_⟩
  · unfold CI at h2 ⊢
    rw [k 1 1 (by decide), k 0 7 (by decide), k 52 2 (by decide), k 55 2 (by decide), k 58 2 (by decide), k 62 2 (by decide)]; exact h2
  · unfold R0
    rw [k 1 1 (by decide), k 55 2 (by decide), k 58 2 (by decide), k 62 2 (by decide), e.1 165 24 (by unfold MV; omega), e.1 165 64 (by unfold MV; omega), e.1 165 66 (by unfold MV; omega), e.1 165 70 (by unfold MV; omega)]
    refine ⟨a1, a2, fun j j0 j1 => ?_, a4, a5⟩
    rw [k 56 j (by decide), e.1 211 j (by unfold MV; omega)]
    exact a3 j j0 j1
section JSP
variable {sc : SCR} {d : Nat} {Q : QJ} {g r : GH} {l0 l1 l2 l3 l4 l5 : Int}
theorem s_66 (hr : RI r) (hc : 0 ≤ g 1 1 ∧ g 1 1 ≤ 700) (h1 : g 1 1 + 20 ≤ 700 → ∀ g', (∀ i, FP i → i ≠ 1 → i ≠ 2 → ∀ j, g' i j = g i j) → g' 1 1 = g 1 1 + 20 → Q (g 1 1 + 20) g' r) (h0 : ¬ g 1 1 + 20 ≤ 700 → Q (-1) g r) : Ce sc (d + 2) 66 [(2, 0), (0, l1), (0, l2), (0, l3), (0, l4), (0, l5)] g r Q := by
  refine w_66 hr rfl hc.1 hc.2 (fun q => h1 q _ (fun i hi hx h2 j => ?_) ?_) h0
  · unfold ap20
    rw [ap4_o hx h2, ap4_o hx h2, ap4_o hx h2, ap4_o hx h2, ap4_o hx h2]
  · unfold ap20
    rw [ap4_1]; omega
theorem s_226' (hr : RI r) (hi : MI g) (h : ∀ v, Q v g r) : Ce sc (d + 2) 226 [(2, 165), (0, l1)] g r Q := by
  by_cases q : 0 ≤ l1 ∧ l1 < 6
  · exact s_226 hr hi q.1 q.2 h
  · refine c_226 ⟨okd (by decide +kernel), s_140 hr hi (fun a b _ _ _ _ _ _ _ => absurd ⟨a, b⟩ q) ?_⟩
    rw [if_pos rfl]; exact h _
/-- both calls feed -/
theorem p_66 (hJ : J g r) {A1 A2 A3 A4 A5 : Int} (D : Nat) (h : ∀ v g', J g' r → Q v g' r) : Ce sc (D + 2) 66 [(2, 0), (0, A1), (0, A2), (0, A3), (0, A4), (0, A5)] g r (fun v1 g1 r1 => Ce sc (D + 2) 142 [(2, 165), (0, A1), (0, A2), (0, A3), (0, A4), (0, A5)] g1 r1 fun v2 g2 r2 => v1 = v2 ∧ Q v1 g2 r2) := by
  obtain ⟨hr, hc, hn, hi, a1, a2, a3, a4, a5⟩ := hJ
  refine s_66 hr hc.1 (fun big g1 x1 f1 => ?_) (fun small => ?_)
  · have m1 : MI g1 := hi.hi (fun i j q => x1 i (Or.inl q) (by omega) (by omega) j)
    have f24 : g1 165 24 = g 165 24 := x1 165 (by unfold FP; omega) (by decide) (by decide) 24
    refine s_142 hr m1 (fun _ g2 m2 e2 f2 => ⟨by omega, h _ _ ⟨hr, ?_, rns_eq hn (fun i j hi => ?_), m2, ?_⟩⟩) (fun nb => absurd (by omega) nb)
    · obtain ⟨_, y1, y2, y3, y4⟩ := e2
      unfold CI at hc ⊢
      rw [y1 1 1 (by decide), y1 0 7 (by decide), y1 52 2 (by decide), y1 55 2 (by decide), y1 58 2 (by decide), y1 62 2 (by decide), f1, x1 0 (by unfold FP; omega) (by decide) (by decide) 7, x1 52 (by unfold FP; omega) (by decide) (by decide) 2, x1 55 (by unfold FP; omega) (by decide) (by decide) 2, x1 58 (by unfold FP; omega) (by decide) (by decide) 2, x1 62 (by unfold FP; omega) (by decide) (by decide) 2]
      exact ⟨⟨by omega, by omega⟩, hc.2⟩
    · have hx := rs_fp hi
      have := rs_rng hi
      rw [e2.2.1 i j (by omega)]; exact x1 i hx.1 hx.2.1 (by omega) j
    · obtain ⟨_, y1, y2, y3, y4⟩ := e2
      unfold R0
      rw [y1 1 1 (by decide), y1 55 2 (by decide), y1 58 2 (by decide), y1 62 2 (by decide), f1, f2, y2 64 (by decide), y2 66 (by decide), y2 70 (by decide), x1 55 (by unfold FP; omega) (by decide) (by decide) 2, x1 58 (by unfold FP; omega) (by decide) (by decide) 2, x1 62 (by unfold FP; omega) (by decide) (by decide) 2, x1 165 (by unfold FP; omega) (by decide) (by decide) 64, x1 165 (by unfold FP; omega) (by decide) (by decide) 66, x1 165 (by unfold FP; omega) (by decide) (by decide) 70]
      refine ⟨by omega, a2, fun j j0 j1 => ?_, a4, a5⟩
      rw [y1 56 j (by omega), y4 j, x1 56 (by unfold FP; omega) (by decide) (by decide) j, x1 211 (by unfold FP; omega) (by decide) (by decide) j]
      exact a3 j j0 j1
  · exact s_142 hr hi (fun nb => absurd (by omega) small) (fun _ => ⟨rfl, h _ _ ⟨hr, hc, hn, hi, a1, a2, a3, a4, a5⟩⟩)
theorem p_67 (hJ : J g r) {A1 A2 : Int} (D : Nat) (h : ∀ (v2 : Int) g' r', J g' r' → Q v2 g' r') : Ce sc (D + 38) 67 [(2, 0), (0, A1), (0, A2)] g r (fun _ g1 r1 => Ce sc (D + 38) 159 [(2, 165), (0, A1), (0, A2)] g1 r1 fun v2 g2 r2 => Q v2 g2 r2) := by
  have hJ0 := hJ
  obtain ⟨hr, hc, hn, hi, a1, a2, a3, a4, a5⟩ := hJ
  refine s_67 hr hn hc.1 (fun bad g1 e1 => ?_) (fun ok v1 g1 r1 hr1 mf => ?_)
  · have j1 := hJ0.eq e1
    have f24 : g1 165 24 = g 165 24 := e1 165 (by unfold FP; omega) 24
    exact s_159 (d := D + 29) hr j1.2.2.2.1 (fun _ g2 e2 => h _ _ _ (j1.me e2)) (fun ok => absurd (by omega) bad)
  · obtain ⟨y1, y2, y3, y4⟩ := mf
    have m1 : MI g1 := hi.hi (fun i j q => y1 i (Or.inl q) (by omega) (by omega) (fun z => by have := rs_rng z; omega) j)
    have f24 : g1 165 24 = g 165 24 := y1 165 (by unfold FP; omega) (by decide) (by decide) (fun z => by have := rs_rng z; omega) 24
    refine s_159 (d := D + 29) hr1 m1 (fun bad => absurd (by omega) bad) (fun _ v g2 m2 x1 x2 x3 x4 => h _ _ _ ⟨hr1, ?_, rns_eq (y2 hn) (fun i j hi => x1 i j (by have := rs_rng hi; omega)), m2, ?_⟩)
    · unfold CI at hc ⊢
      rw [x1 1 1 (by decide), x1 0 7 (by decide), x1 52 2 (by decide), x1 55 2 (by decide), x1 58 2 (by decide), x1 62 2 (by decide), y3, y1 52 (by unfold FP; omega) (by decide) (by decide) (fun z => by have := rs_rng z; omega) 2, y1 55 (by unfold FP; omega) (by decide) (by decide) (fun z => by have := rs_rng z; omega) 2, y1 58 (by unfold FP; omega) (by decide) (by decide) (fun z => by have := rs_rng z; omega) 2, y1 62 (by unfold FP; omega) (by decide) (by decide) (fun z => by have := rs_rng z; omega) 2]
      exact ⟨by decide, y4 hc.2.1, hc.2.2⟩
    · unfold R0
      rw [x1 1 1 (by decide), x1 55 2 (by decide), x1 58 2 (by decide), x1 62 2 (by decide), y3, x2, x3 64 (by decide), x3 66 (by decide), x3 70 (by decide), y1 55 (by unfold FP; omega) (by decide) (by decide) (fun z => by have := rs_rng z; omega) 2, y1 58 (by unfold FP; omega) (by decide) (by decide) (fun z => by have := rs_rng z; omega) 2, y1 62 (by unfold FP; omega) (by decide) (by decide) (fun z => by have := rs_rng z; omega) 2, y1 165 (by unfold FP; omega) (by decide) (by decide) (fun z => by have := rs_rng z; omega) 64, y1 165 (by unfold FP; omega) (by decide) (by decide) (fun z => by have := rs_rng z; omega) 66, y1 165 (by unfold FP; omega) (by decide) (by decide) (fun z => by have := rs_rng z; omega) 70]
      refine ⟨rfl, a2, fun j j0 j1 => ?_, a4, a5⟩
      rw [x1 56 j (by omega), x4 j, y1 56 (by unfold FP; omega) (by decide) (by decide) (fun z => by have := rs_rng z; omega) j, y1 211 (by unfold FP; omega) (by decide) (by decide) (fun z => by have := rs_rng z; omega) j]
      exact a3 j j0 j1
/-- J where the class changed but one object x of its own, and the model nothing of the comparison -/
theorem J.ex {x : Int} {g1 g2 : GH} (hJ : J g r) (hx : x = 0 ∨ x = 52) (x1 : EX x g g1) (c1 : CI g1) (m2 : MI g2) (k : RK g1 g2) : J g2 r := by
  obtain ⟨hr, hc, hn, hi, a1, a2, a3, a4, a5⟩ := hJ
  obtain ⟨y1, y2, y3, y4, y5, y6⟩ := k
  refine ⟨hr, ?_, rns_eq hn (fun i j hi => ?_), m2, ?_⟩
  · unfold CI at c1 ⊢
    rw [y1 1 1 (by decide), y1 0 7 (by decide), y1 52 2 (by decide), y1 55 2 (by decide), y1 58 2 (by decide), y1 62 2 (by decide)]; exact c1
  · have := rs_rng hi
    rw [y1 i j (by omega)]; exact x1 i (rs_fp hi).1 (by omega) j
  · unfold R0
    rw [y1 1 1 (by decide), y1 55 2 (by decide), y1 58 2 (by decide), y1 62 2 (by decide), y2, y3, y4, y5, x1 1 (by unfold FP; omega) (by omega) 1, x1 55 (by unfold FP; omega) (by omega) 2, x1 58 (by unfold FP; omega) (by omega) 2, x1 62 (by unfold FP; omega) (by omega) 2, x1 165 (by unfold FP; omega) (by omega) 24, x1 165 (by unfold FP; omega) (by omega) 64, x1 165 (by unfold FP; omega) (by omega) 66, x1 165 (by unfold FP; omega) (by omega) 70]
    refine ⟨a1, a2, fun j j0 j1 => ?_, a4, a5⟩
    rw [y1 56 j (by omega), y6 j, x1 56 (by unfold FP; omega) (by omega) j, x1 211 (by unfold FP; omega) (by omega) j]
    exact a3 j j0 j1
theorem ci_ex {x : Int} {g1 : GH} (hc : CI g) (x1 : EX x g g1) (hx : x = 0 ∨ x = 52) (c0 : 0 ≤ g1 0 7 ∧ g1 0 7 ≤ 3) (c52 : 0 ≤ g1 52 2 ∧ g1 52 2 ≤ 30) : CI g1 := by
  unfold CI at hc ⊢
  rw [x1 1 (by unfold FP; omega) (by omega) 1, x1 55 (by unfold FP; omega) (by omega) 2, x1 58 (by unfold FP; omega) (by omega) 2, x1 62 (by unfold FP; omega) (by omega) 2]
  exact ⟨hc.1, c0, c52, hc.2.2.2⟩
theorem p_99 (hJ : J g r) {A1 A2 : Int} (D : Nat) (h : ∀ v2 g', J g' r → Q v2 g' r) : Ce sc (D + 4) 99 [(2, 0), (0, A1), (0, A2)] g r (fun _ g1 r1 => Ce sc (D + 4) 223 [(2, 165), (0, A1), (0, A2)] g1 r1 fun v2 g2 r2 => Q v2 g2 r2) := by
  have hc := hJ.2.1
  refine s_99 hJ.1 hc.2.2.1 (fun v1 g1 x1 b1 => ?_)
  have m1 : MI g1 := hJ.2.2.2.1.hi (fun i j q => x1 i (Or.inl q) (by omega) j)
  have c1 : CI g1 := ci_ex hc x1 (by decide) (by rw [x1 0 (by unfold FP; omega) (by decide) 7]; exact hc.2.1) b1
  exact s_223 (d := D + 2) hJ.1 m1 (fun v2 g2 m2 k => h _ _ (hJ.ex (by decide) x1 c1 m2 k))
theorem p_120 (hJ : J g r) (D : Nat) (h : ∀ v2 g', J g' r → Q v2 g' r) : Ce sc (D + 4) 120 [(2, 0)] g r (fun _ g1 r1 => Ce sc (D + 4) 244 [(2, 165)] g1 r1 fun v2 g2 r2 => Q v2 g2 r2) := by
  have hc := hJ.2.1
  refine s_120 hJ.1 hc.2.1 (fun v1 g1 x1 b1 => ?_)
  have m1 : MI g1 := hJ.2.2.2.1.hi (fun i j q => x1 i (Or.inl q) (by omega) j)
  have c1 : CI g1 := ci_ex hc x1 (by decide) b1 (by rw [x1 52 (by unfold FP; omega) (by decide) 2]; exact hc.2.2.1)
  exact s_244 (d := D + 2) hJ.1 m1 (fun v2 g2 m2 k => h _ _ (hJ.ex (by decide) x1 c1 m2 k))
theorem p_104 (hJ : J g r) {A1 : Int} (D : Nat) (h : ∀ v g', J g' r → Q v g' r) : Ce sc (D + 4) 104 [(2, 0), (0, A1)] g r (fun v1 g1 r1 => Ce sc (D + 4) 228 [(2, 165), (0, A1)] g1 r1 fun v2 g2 r2 => v1 = v2 ∧ Q v1 g2 r2) := by
  have hJ0 := hJ
  obtain ⟨hr, hc, hn, hi, a1, a2, a3, a4, a5⟩ := hJ
  refine s_104 hr hc.2.2.2.1 (fun q => ?_) (fun q g1 e1 => ?_)
  · have n1 : ∀ i j, i ≠ 55 → i ≠ 56 → i ≠ 57 → (up (up (up g 56 (g 55 2) A1) 57 (g 55 2) 0) 55 2 (g 55 2 + 1)) i j = g i j := fun i j a b c => by rw [up_i a, up_i c, up_i b]
    have s2 : (up (up (up g 56 (g 55 2) A1) 57 (g 55 2) 0) 55 2 (g 55 2 + 1)) 55 2 = g 55 2 + 1 := up_s
    have s56 : ∀ j, (up (up (up g 56 (g 55 2) A1) 57 (g 55 2) 0) 55 2 (g 55 2 + 1)) 56 j = (up g 56 (g 55 2) A1) 56 j := fun j => by rw [up_i (by decide), up_i (by decide)]
    generalize (up (up (up g 56 (g 55 2) A1) 57 (g 55 2) 0) 55 2 (g 55 2 + 1)) = g1 at n1 s2 s56 ⊢
    have m1 : MI g1 := hi.hi (fun i j z => n1 i j (by omega) (by omega) (by omega))
    have f64 : g1 165 64 = g 165 64 := n1 165 64 (by decide) (by decide) (by decide)
    refine s_228 (d := D + 2) hr m1 (fun _ m2 => ⟨by omega, h _ _ ⟨hr, ?_, rns_eq hn (fun i j hi => ?_), m2, ?_⟩⟩) (fun nq => absurd (by omega) nq)
    · unfold CI at hc ⊢
      rw [up_i (by decide), up_i (by decide), up_i (by decide), up_i (by decide), up_i (by decide), up_i (by decide), up_i (by decide), up_i (by decide), up_i (by decide), up_i (by decide), up_i (by decide), up_i (by decide), s2, n1 1 1 (by decide) (by decide) (by decide), n1 0 7 (by decide) (by decide) (by decide), n1 52 2 (by decide) (by decide) (by decide), n1 58 2 (by decide) (by decide) (by decide), n1 62 2 (by decide) (by decide) (by decide)]
      exact ⟨hc.1, hc.2.1, hc.2.2.1, ⟨by omega, by omega⟩, hc.2.2.2.2⟩
    · have := rs_rng hi
      rw [up_i (by omega), up_i (by omega)]; exact n1 i j (by omega) (by omega) (by omega)
    · have z : ∀ i j, i < 165 → (up (up g1 211 (g1 165 64) A1) 165 64 (g1 165 64 + 1)) i j = g1 i j := fun i j p => by rw [up_i (by omega), up_i (by omega)]
      have z5 : ∀ j, j ≠ 64 → (up (up g1 211 (g1 165 64) A1) 165 64 (g1 165 64 + 1)) 165 j = g 165 j := fun j p => by rw [up_j p, up_i (by decide)]; exact n1 165 j (by decide) (by decide) (by decide)
      have z64 : (up (up g1 211 (g1 165 64) A1) 165 64 (g1 165 64 + 1)) 165 64 = g1 165 64 + 1 := up_s
      have z11 : ∀ j, (up (up g1 211 (g1 165 64) A1) 165 64 (g1 165 64 + 1)) 211 j = (up g1 211 (g1 165 64) A1) 211 j := fun j => up_i (by decide)
      simp only [f64] at z z5 z64 z11 ⊢
      unfold R0
      rw [z 1 1 (by decide), z 55 2 (by decide), z 58 2 (by decide), z 62 2 (by decide), z5 24 (by decide), z5 66 (by decide), z5 70 (by decide), z64, s2, n1 1 1 (by decide) (by decide) (by decide), n1 58 2 (by decide) (by decide) (by decide), n1 62 2 (by decide) (by decide) (by decide)]
      refine ⟨a1, by omega, fun j j0 j1 => ?_, a4, a5⟩
      rw [z 56 j (by decide), s56]
      rw [z11]
      by_cases y : j = g 55 2
      · rw [y, up_s, a2, up_s]
      · rw [up_j y, up_j (by omega), n1 211 j (by decide) (by decide) (by decide)]
        exact a3 j j0 (by omega)
  · have j1 := hJ0.eq e1
    have f64 : g1 165 64 = g 165 64 := e1 165 (by unfold FP; omega) 64
    exact s_228 (d := D + 2) hr j1.2.2.2.1 (fun nq _ => absurd (by omega) q) (fun _ g2 e2 => ⟨rfl, h _ _ (j1.me e2)⟩)
theorem rimV_eq {f f' : Int → Int} {n : Nat} (h : ∀ j : Int, 0 ≤ j → j < n → f j = f' j) : rimV f n = rimV f' n := by
  have h1 : ∀ (m : Nat) (s i : Int), 0 ≤ i → i + m ≤ n → rsum f m s i = rsum f' m s i := by
    intro m
    induction m with
    | zero => intro s i _ _; rfl
    | succ m ih =>
      intro s i i0 i1
      show rsum f m (wr (s + f i)) (i + 1) = rsum f' m (wr (s + f' i)) (i + 1)
      rw [h i i0 (by omega)]
      exact ih _ _ (by omega) (by omega)
  have h2 : ∀ (mean : Int) (m : Nat) (a b c i : Int), 0 ≤ i → i + m ≤ n → rend f mean m a b c i = rend f' mean m a b c i := by
    intro mean m
    induction m with
    | zero => intro a b c i _ _; rfl
    | succ m ih =>
      intro a b c i i0 i1
      show rend f mean m (wr (a + wr (mean - f i))) _ _ (i + 1) = rend f' mean m (wr (a + wr (mean - f' i))) _ _ (i + 1)
      rw [h i i0 (by omega)]
      exact ih _ _ _ _ (by omega) (by omega)
  unfold rimV
  rw [h1 n 0 0 (by decide) (by omega)]
  exact h2 _ n 0 0 0 0 (by decide) (by omega)
theorem p_105 (hJ : J g r) (D : Nat) (h : ∀ v g', J g' r → Q v g' r) : Ce sc (D + 2) 105 [(2, 0)] g r (fun v1 g1 r1 => Ce sc (D + 2) 229 [(2, 165)] g1 r1 fun v2 g2 r2 => v1 = v2 ∧ Q v1 g2 r2) := by
  have hJ0 := hJ
  obtain ⟨hr, hc, hn, hi, a1, a2, a3, a4, a5⟩ := hJ
  refine w_105 hr hc.2.2.2.1 (fun q => ?_) (fun q => ?_)
  · have n1 : ∀ i j, i ≠ 55 → up g 55 2 0 i j = g i j := fun i j a => up_i a
    have s2 : up g 55 2 0 55 2 = 0 := up_s
    have m1 : MI (up g 55 2 0) := hi.hi (fun i j z => n1 i j (by omega))
    have f64 : up g 55 2 0 165 64 = g 165 64 := n1 165 64 (by decide)
    refine w_229 (d := D + 1) hr m1 (fun _ m2 => ⟨?_, h _ _ ⟨hr, ?_, rns_eq hn (fun i j hi => ?_), m2, ?_⟩⟩) (fun z => absurd z (by omega))
    · rw [f64, ← a2]
      refine rimV_eq (fun j j0 j1 => ?_)
      show g 56 j = up g 55 2 0 211 j
      rw [n1 211 j (by decide)]
      exact a3 j j0 (by omega)
    · have z : ∀ i j, i < 165 → up (up g 55 2 0) 165 64 0 i j = up g 55 2 0 i j := fun i j p => up_i (by omega)
      unfold CI at hc ⊢
      rw [z 1 1 (by decide), z 0 7 (by decide), z 52 2 (by decide), z 55 2 (by decide), z 58 2 (by decide), z 62 2 (by decide), s2, n1 1 1 (by decide), n1 0 7 (by decide), n1 52 2 (by decide), n1 58 2 (by decide), n1 62 2 (by decide)]
      exact ⟨hc.1, hc.2.1, hc.2.2.1, by decide, hc.2.2.2.2⟩
    · have := rs_rng hi
      rw [up_i (by omega)]; exact n1 i j (by omega)
    · have z : ∀ i j, i < 165 → up (up g 55 2 0) 165 64 0 i j = up g 55 2 0 i j := fun i j p => up_i (by omega)
      have z5 : ∀ j, j ≠ 64 → up (up g 55 2 0) 165 64 0 165 j = g 165 j := fun j p => by rw [up_j p]; exact n1 165 j (by decide)
      have z64 : up (up g 55 2 0) 165 64 0 165 64 = 0 := up_s
      unfold R0
      rw [z 1 1 (by decide), z 55 2 (by decide), z 58 2 (by decide), z 62 2 (by decide), z5 24 (by decide), z64, z5 66 (by decide), z5 70 (by decide), s2, n1 1 1 (by decide), n1 58 2 (by decide), n1 62 2 (by decide)]
      exact ⟨a1, rfl, fun j j0 j1 => absurd j1 (by omega), a4, a5⟩
  · exact w_229 (d := D + 1) hr hi (fun z _ => absurd z (by omega)) (fun _ => ⟨rfl, h _ _ hJ0⟩)
theorem p_111 (hJ : J g r) {A1 A2 : Int} (D : Nat) (h : ∀ v g', J g' r → Q v g' r) : Ce sc (D + 4) 111 [(2, 0), (0, A1), (0, A2)] g r (fun v1 g1 r1 => Ce sc (D + 4) 236 [(2, 165), (0, A1), (0, A2)] g1 r1 fun v2 g2 r2 => v1 = v2 ∧ Q v1 g2 r2) := by
  have hJ0 := hJ
  obtain ⟨hr, hc, hn, hi, a1, a2, a3, a4, a5⟩ := hJ
  refine s_111 hr hc.2.2.2.2.1 (fun q g1 x1 f1 => ?_) (fun q g1 e1 => ?_)
  · have m1 : MI g1 := hi.hi (fun i j z => x1 i (Or.inl z) (by omega) j)
    have ff : g1 165 66 = g 165 66 := x1 165 (by unfold FP; omega) (by decide) 66
    refine s_236 (d := D + 2) hr m1 (fun _ g2 m2 y1 y2 y3 y4 y5 => ⟨by omega, h _ _ ⟨hr, ?_, rns_eq hn (fun i j hi => ?_), m2, ?_⟩⟩) (fun nq => absurd (by omega) nq)
    · unfold CI at hc ⊢
      rw [y1 1 1 (by decide), y1 0 7 (by decide), y1 52 2 (by decide), y1 55 2 (by decide), y1 58 2 (by decide), y1 62 2 (by decide), f1, x1 1 (by unfold FP; omega) (by decide) 1, x1 0 (by unfold FP; omega) (by decide) 7, x1 52 (by unfold FP; omega) (by decide) 2, x1 55 (by unfold FP; omega) (by decide) 2, x1 62 (by unfold FP; omega) (by decide) 2]
      exact ⟨hc.1, hc.2.1, hc.2.2.1, hc.2.2.2.1, by omega, by omega⟩
    · have := rs_rng hi
      rw [y1 i j (by omega)]; exact x1 i (rs_fp hi).1 (by omega) j
    · have t66 := y5 66 (by decide)
      have t70 := y5 70 (by decide)
      unfold R0
      rw [y1 1 1 (by decide), y1 55 2 (by decide), y1 58 2 (by decide), y1 62 2 (by decide), y2, y3, t66, t70, f1, x1 1 (by unfold FP; omega) (by decide) 1, x1 55 (by unfold FP; omega) (by decide) 2, x1 62 (by unfold FP; omega) (by decide) 2, x1 165 (by unfold FP; omega) (by decide) 24, x1 165 (by unfold FP; omega) (by decide) 64]
      have k66 : g1 165 66 = g 165 66 := x1 165 (by unfold FP; omega) (by decide) 66
      have k70 : g1 165 70 = g 165 70 := x1 165 (by unfold FP; omega) (by decide) 70
      refine ⟨a1, a2, fun j j0 j1 => ?_, ?_, ?_⟩
      · rw [y1 56 j (by omega), y4 j, x1 56 (by unfold FP; omega) (by decide) j, x1 211 (by unfold FP; omega) (by decide) j]
        exact a3 j j0 j1
      · first | (rw [if_pos rfl]; omega) | (rw [if_neg (by decide)]; omega)
      · first | (rw [if_pos rfl]; omega) | (rw [if_neg (by decide)]; omega)
  · have j1 := hJ0.eq e1
    have ff : g1 165 66 = g 165 66 := e1 165 (by unfold FP; omega) 66
    exact s_236 (d := D + 2) hr j1.2.2.2.1 (fun nq _ _ _ _ _ _ _ => absurd (by omega) q) (fun _ g2 e2 => ⟨rfl, h _ _ (j1.me e2)⟩)
theorem p_117 (hJ : J g r) {A1 A2 : Int} (D : Nat) (h : ∀ v g', J g' r → Q v g' r) : Ce sc (D + 4) 117 [(2, 0), (0, A1), (0, A2)] g r (fun v1 g1 r1 => Ce sc (D + 4) 240 [(2, 165), (0, A1), (0, A2)] g1 r1 fun v2 g2 r2 => v1 = v2 ∧ Q v1 g2 r2) := by
  have hJ0 := hJ
  obtain ⟨hr, hc, hn, hi, a1, a2, a3, a4, a5⟩ := hJ
  refine s_117 hr hc.2.2.2.2.2 (fun q g1 x1 f1 => ?_) (fun q g1 e1 => ?_)
  · have m1 : MI g1 := hi.hi (fun i j z => x1 i (Or.inl z) (by omega) j)
    have ff : g1 165 70 = g 165 70 := x1 165 (by unfold FP; omega) (by decide) 70
    refine s_240 (d := D + 2) hr m1 (fun _ g2 m2 y1 y2 y3 y4 y5 => ⟨by omega, h _ _ ⟨hr, ?_, rns_eq hn (fun i j hi => ?_), m2, ?_⟩⟩) (fun nq => absurd (by omega) nq)
    · unfold CI at hc ⊢
      rw [y1 1 1 (by decide), y1 0 7 (by decide), y1 52 2 (by decide), y1 55 2 (by decide), y1 58 2 (by decide), y1 62 2 (by decide), f1, x1 1 (by unfold FP; omega) (by decide) 1, x1 0 (by unfold FP; omega) (by decide) 7, x1 52 (by unfold FP; omega) (by decide) 2, x1 55 (by unfold FP; omega) (by decide) 2, x1 58 (by unfold FP; omega) (by decide) 2]
      exact ⟨hc.1, hc.2.1, hc.2.2.1, hc.2.2.2.1, by omega, by omega⟩
    · have := rs_rng hi
      rw [y1 i j (by omega)]; exact x1 i (rs_fp hi).1 (by omega) j
    · have t66 := y5 66 (by decide)
      have t70 := y5 70 (by decide)
      unfold R0
      rw [y1 1 1 (by decide), y1 55 2 (by decide), y1 58 2 (by decide), y1 62 2 (by decide), y2, y3, t66, t70, f1, x1 1 (by unfold FP; omega) (by decide) 1, x1 55 (by unfold FP; omega) (by decide) 2, x1 58 (by unfold FP; omega) (by decide) 2, x1 165 (by unfold FP; omega) (by decide) 24, x1 165 (by unfold FP; omega) (by decide) 64]
      have k66 : g1 165 66 = g 165 66 := x1 165 (by unfold FP; omega) (by decide) 66
      have k70 : g1 165 70 = g 165 70 := x1 165 (by unfold FP; omega) (by decide) 70
      refine ⟨a1, a2, fun j j0 j1 => ?_, ?_, ?_⟩
      · rw [y1 56 j (by omega), y4 j, x1 56 (by unfold FP; omega) (by decide) j, x1 211 (by unfold FP; omega) (by decide) j]
        exact a3 j j0 j1
      · first | (rw [if_pos rfl]; omega) | (rw [if_neg (by decide)]; omega)
      · first | (rw [if_pos rfl]; omega) | (rw [if_neg (by decide)]; omega)
  · have j1 := hJ0.eq e1
    have ff : g1 165 70 = g 165 70 := e1 165 (by unfold FP; omega) 70
    exact s_240 (d := D + 2) hr j1.2.2.2.1 (fun nq _ _ _ _ _ _ _ => absurd (by omega) q) (fun _ g2 e2 => ⟨rfl, h _ _ (j1.me e2)⟩)
end JSP
