/-! brooks copied, days told, a mill emptied: both sides -/
theorem cpy_in {f : GH} {s d n b : Int} (h0 : 0 ≤ b) (h1 : b < n) : cpy f s 0 d 0 n d b = f s b := by
  unfold cpy
  rw [if_pos ⟨rfl, h0, by omega⟩, show (0 : Int) + (b - 0) = b by omega]
/-- what a copy of a state writes -/
def FCP (s : Int) (g g' : GH) : Prop := ∀ i j, ¬ ((i = 192 ∨ i = 198) ∧ 40 * s ≤ j ∧ j < 40 * s + 40) → ¬ (193 ≤ i ∧ i ≤ 199 ∧ i ≠ 197 ∧ i ≠ 198 ∧ 6 * s ≤ j ∧ j < 6 * s + 6) → ¬ ((i = 197 ∨ i = 200 ∨ i = 201) ∧ j = s) → g' i j = g i j
section CPS
variable {sc : SCR} {d : Nat} {Q : QJ} {g r b : GH} {l0 l1 l2 l3 l4 l5 x y s m : Int}
theorem bx_ap (hx : BX x) (hy : BX y) (hne : x ≠ y) : x + 10 < y ∨ y + 10 < x := by
  unfold BX at hx hy
  omega
theorem bx_1 (hy : BX y) : ¬ y = -1 := by
  unfold BX at hy
  omega
def CPN (k : Int) : Int := if k ≤ 2 then 40 else 6
theorem cpn_lo {k j : Int} (h : k ≤ 2) (j1 : j < 40) : j < CPN k := by
  unfold CPN
  rw [if_pos h]; exact j1
theorem cpn_hi {k j : Int} (h : ¬ k ≤ 2) (j1 : j < 6) : j < CPN k := by
  unfold CPN
  rw [if_neg h]; exact j1
def CPI (x y K : Int) (h0 h : GH) : Prop := (∀ i j, ¬ (x + 1 ≤ i ∧ i ≤ x + K) → h i j = h0 i j) ∧ ∀ k j, 1 ≤ k → k ≤ K → 0 ≤ j → j < CPN k → h (x + k) j = h0 (y + k) j
theorem cpi_0 {h : GH} : CPI x y 0 h h := ⟨fun _ _ _ => rfl, fun k j a c => absurd c (by omega)⟩
theorem cpi_s {K K' n : Int} {h0 h h' : GH} (ap : x + 10 < y ∨ y + 10 < x) (I : CPI x y K h0 h) (e : h' = cpy h (y + K') 0 (x + K') 0 n) (k1 : K' = K + 1) (k0 : 0 ≤ K) (k7 : K ≤ 6) (hn : n = CPN K') : CPI x y K' h0 h' := by
  refine ⟨fun i j z => ?_, fun k j a c j0 f => ?_⟩
  · rw [e, cpy_off i (by omega)]; exact I.1 i j (by omega)
  · by_cases z : k = K'
    · rw [z] at f
      rw [z, e, cpy_in j0 (by rw [hn]; exact f)]; exact I.1 _ _ (by omega)
    · rw [e, cpy_off (x + k) (by omega)]; exact I.2 k j a (by omega) j0 f
theorem cpi_cbr {g4 g11 : GH} (ap : x + 10 < y ∨ y + 10 < x) (I : CPI x y 7 g4 g11) (f4 : ∀ i j, i ≠ x → g4 i j = g i j) (s0 : g4 x 0 = g y 0) (s1 : g4 x 1 = g y 1) (s2 : g4 x 2 = g y 2) (cb : CBR y g b) : CBR x g11 b := by
  have fy : ∀ k j, 1 ≤ k → k ≤ 7 → g4 (y + k) j = g (y + k) j := fun k j a c => f4 _ j (by omega)
  obtain ⟨⟨q1, q2, q3⟩, q4, q5⟩ := cb
  have lo : ∀ k j, 1 ≤ k → k ≤ 2 → 0 ≤ j → j < 40 → g11 (x + k) j = g (y + k) j := fun k j a c j0 j1 => (I.2 k j a (by omega) j0 (cpn_lo c j1)).trans (fy k j a (by omega))
  have hi : ∀ k j, 3 ≤ k → k ≤ 7 → 0 ≤ j → j < 6 → g11 (x + k) j = g (y + k) j := fun k j a c j0 j1 => (I.2 k j (by omega) c j0 (cpn_hi (by omega) j1)).trans (fy k j (by omega) c)
  refine ⟨⟨?_, ?_, ?_⟩, fun j j0 j1 => ⟨?_, ?_⟩, fun j j0 j1 => ⟨?_, ?_, ?_, ?_, ?_⟩⟩
  · rw [I.1 x 0 (by omega), s0]; exact q1
  · rw [I.1 x 1 (by omega), s1]; exact q2
  · rw [I.1 x 2 (by omega), s2]; exact q3
  · rw [lo 1 j (by decide) (by decide) j0 j1]; exact (q4 j j0 j1).1
  · rw [lo 2 j (by decide) (by decide) j0 j1]; exact (q4 j j0 j1).2
  · rw [hi 3 j (by decide) (by decide) j0 j1]; exact (q5 j j0 j1).1
  · rw [hi 4 j (by decide) (by decide) j0 j1]; exact (q5 j j0 j1).2.1
  · rw [hi 5 j (by decide) (by decide) j0 j1]; exact (q5 j j0 j1).2.2.1
  · rw [hi 6 j (by decide) (by decide) j0 j1]; exact (q5 j j0 j1).2.2.2.1
  · rw [hi 7 j (by decide) (by decide) j0 j1]; exact (q5 j j0 j1).2.2.2.2
theorem f_1 (hr : RI r) (hx : BX x) (hy : BX y) (hne : x ≠ y) (hq : ∀ g', (∀ i j, ¬ (x ≤ i ∧ i ≤ x + 7) → g' i j = g i j) → g' x 3 = g y 3 → (∀ b, CBR y g b → CBR x g' b) → Q 0 g' r) : Ce sc (d + 1) 1 [(2, x), (2, y)] g r Q := by
  have hb := bro_of hr hx
  have hc := bro_of hr hy
  have kx := hb.1
  have ky := hc.1
  obtain ⟨e4, e5, e6, e7, e8, e9, e10, _⟩ := hb.2.1
  obtain ⟨c4, c5, c6, c7, c8, c9, c10, _⟩ := hc.2.1
  obtain ⟨A1, A2, A3, A4, A5, A6, A7, _⟩ := hb.2.2
  obtain ⟨C1, C2, C3, C4, C5, C6, C7, _⟩ := hc.2.2
  have ap := bx_ap hx hy hne
  have y0 : ¬ y = -1 := bx_1 hy
  have ok : ∀ {a c : Int} {k : Nat} {n : Int}, AL a k n → AL c k n → (k = 11 ∨ k = 12) → 0 ≤ n → (0 ≤ (0 : Int) ∧ 0 ≤ (0 : Int) ∧ 0 ≤ n ∧ (0 : Int) + n ≤ am_ln c ∧ (0 : Int) + n ≤ am_ln a ∧ ((okr 218 c 11 ∧ okr 218 a 11) ∨ (okr 218 c 12 ∧ okr 218 a 12))) := fun {a c k n} p q hk hn => by
    refine ⟨Int.le_refl 0, Int.le_refl 0, hn, by rw [q.2]; omega, by rw [p.2]; omega, ?_⟩
    rcases hk with rfl | rfl
    · exact Or.inl ⟨q.1, p.1⟩
    · exact Or.inr ⟨q.1, p.1⟩
  refine c_1 (ite_c (fun z => absurd z y0) (fun _ => ⟨ky, kx, fun g1 x1 => ⟨ky, kx, fun g2 x2 => ⟨ky, kx, fun g3 x3 => ⟨ky, kx, fun g4 x4 => ⟨ky, kx, ?_⟩⟩⟩⟩⟩))
  rw [e4, e5, e6, e7, e8, e9, e10, c4, c5, c6, c7, c8, c9, c10]
  refine ⟨ok A1 C1 (by decide) (by decide), fun g5 x5 => ⟨ky, kx, ok A2 C2 (by decide) (by decide), fun g6 x6 => ⟨ky, kx, ok A3 C3 (by decide) (by decide), fun g7 x7 => ⟨ky, kx, ok A4 C4 (by decide) (by decide), fun g8 x8 => ⟨ky, kx, ok A5 C5 (by decide) (by decide), fun g9 x9 => ⟨ky, kx, ok A6 C6 (by decide) (by decide), fun g10 x10 => ⟨ky, kx, ok A7 C7 (by decide) (by decide), fun g11 x11 => ?_⟩⟩⟩⟩⟩⟩⟩
  have f4 : ∀ i j, i ≠ x → g4 i j = g i j := fun i j h => by rw [x4, up_i h, x3, up_i h, x2, up_i h, x1, up_i h]
  have s0 : g4 x 0 = g y 0 := by rw [x4, up_j (by decide), x3, up_j (by decide), x2, up_j (by decide), x1, up_s]
  have s1 : g4 x 1 = g y 1 := by rw [x4, up_j (by decide), x3, up_j (by decide), x2, up_s, x1, up_i (by omega)]
  have s2 : g4 x 2 = g y 2 := by rw [x4, up_j (by decide), x3, up_s, x2, up_i (by omega), x1, up_i (by omega)]
  have s3 : g4 x 3 = g y 3 := by rw [x4, up_s, x3, up_i (by omega), x2, up_i (by omega), x1, up_i (by omega)]
  have I := cpi_s (K := 6) ap (cpi_s (K := 5) ap (cpi_s (K := 4) ap (cpi_s (K := 3) ap (cpi_s (K := 2) ap (cpi_s (K := 1) ap (cpi_s (K := 0) ap cpi_0 x5 (by decide) (by decide) (by decide) (by decide)) x6 (by decide) (by decide) (by decide) (by decide)) x7 (by decide) (by decide) (by decide) (by decide)) x8 (by decide) (by decide) (by decide) (by decide)) x9 (by decide) (by decide) (by decide) (by decide)) x10 (by decide) (by decide) (by decide) (by decide)) x11 (by decide) (by decide) (by decide) (by decide)
  clear x1 x2 x3 x4 x5 x6 x7 x8 x9 x10 x11
  exact hq g11 (fun i j h => (I.1 i j (by omega)).trans (f4 i j (by omega))) ((I.1 x 3 (by omega)).trans s3) (fun b cb => cpi_cbr ap I f4 s0 s1 s2 cb)
theorem f_192 (hr : RI r) (a0 : 0 ≤ l1) (a4 : l1 ≤ 4) (b0 : 0 ≤ l2) (b4 : l2 ≤ 4) (hne : l1 ≠ l2) (h98 : ∀ k, g 198 k = 0 ∨ g 198 k = 1) (hq : ∀ g', FCP l2 g g' → (∀ b, MBR l1 g b → MBR l2 g' b) → Q 0 g' r) : Ce sc (d + 1) 192 [(2, 165), (0, l1), (0, l2)] g r Q := by
  have k9 : okr 218 165 9 := okd (by decide +kernel)
  have w40 : ∀ t, 0 ≤ t → t ≤ 4 → wr (40 * t) = 40 * t := fun t x y => wr_id ⟨by omega, by omega⟩
  have w6 : ∀ t, 0 ≤ t → t ≤ 4 → wr (6 * t) = 6 * t := fun t x y => wr_id ⟨by omega, by omega⟩
  have in2 : ∀ (n : Nat) (k : Int) (g1 : GH), 0 ≤ k → k + n = 6 → (∀ i j, ¬ ((i = 192 ∨ i = 198) ∧ 40 * l2 ≤ j ∧ j < 40 * l2 + 40) → ¬ (193 ≤ i ∧ i ≤ 199 ∧ i ≠ 197 ∧ i ≠ 198 ∧ 6 * l2 ≤ j ∧ j < 6 * l2 + 6) → g1 i j = g i j) → (∀ j, 0 ≤ j → j < 40 → g1 192 (40 * l2 + j) = g 192 (40 * l1 + j) ∧ g1 198 (40 * l2 + j) = g 198 (40 * l1 + j)) → (∀ i j, 193 ≤ i ∧ i ≤ 199 ∧ i ≠ 197 ∧ i ≠ 198 → 0 ≤ j → j < k → g1 i (6 * l2 + j) = g i (6 * l1 + j)) → WQ sc d 192 Q 60 [(2, 165), (0, l1), (0, l2), (0, k)] [] g1 r := by
    intro n
    induction n with
    | zero =>
      intro k g1 k0 e fr v1 v2
      refine b_192_60 (ite_c (fun z => absurd z (by omega)) (fun _ => ⟨k9, k9, ?_⟩))
      rw [r_165_45 hr, r_165_46 hr, r_165_42 hr]
      refine ⟨i_200.mpr ⟨a0, by omega⟩, i_200.mpr ⟨b0, by omega⟩, fun g2 x2 => ⟨k9, k9, i_201.mpr ⟨a0, by omega⟩, i_201.mpr ⟨b0, by omega⟩, fun g3 x3 => ⟨k9, k9, i_197.mpr ⟨a0, by omega⟩, i_197.mpr ⟨b0, by omega⟩, fun g4 x4 => hq g4 (fun i j p q s => ?_) (fun b mb => ?_)⟩⟩⟩
      · rw [x4, up_o (by omega), x3, up_o (by omega), x2, up_o (by omega)]; exact fr i j p q
      · obtain ⟨⟨q1, q2, q3⟩, q4, q5⟩ := mb
        have o : ∀ i j, i ≠ 197 → i ≠ 200 → i ≠ 201 → g4 i j = g1 i j := fun i j p q s => by rw [x4, up_i p, x3, up_i s, x2, up_i q]
        refine ⟨⟨?_, ?_, ?_⟩, fun j j0 j1 => ?_, fun j j0 j1 => ?_⟩
        · rw [x4, up_s, x3, up_i (by decide), x2, up_i (by decide), fr 197 _ (by omega) (by omega)]; exact q1
        · rw [x4, up_i (by decide), x3, up_i (by decide), x2, up_s, fr 200 _ (by omega) (by omega)]; exact q2
        · rw [x4, up_i (by decide), x3, up_s, x2, up_i (by decide), fr 201 _ (by omega) (by omega)]; exact q3
        · rw [o 192 _ (by decide) (by decide) (by decide), o 198 _ (by decide) (by decide) (by decide), (v1 j j0 j1).1, (v1 j j0 j1).2]; exact q4 j j0 j1
        · rw [o 193 _ (by decide) (by decide) (by decide), o 194 _ (by decide) (by decide) (by decide), o 199 _ (by decide) (by decide) (by decide), o 195 _ (by decide) (by decide) (by decide), o 196 _ (by decide) (by decide) (by decide), v2 193 j (by decide) j0 (by omega), v2 194 j (by decide) j0 (by omega), v2 199 j (by decide) j0 (by omega), v2 195 j (by decide) j0 (by omega), v2 196 j (by decide) j0 (by omega)]; exact q5 j j0 j1
    | succ n ih =>
      intro k g1 k0 e fr v1 v2
      have ga : wr (6 * l1 + k) = 6 * l1 + k := wr_id ⟨by omega, by omega⟩
      have gb : wr (6 * l2 + k) = 6 * l2 + k := wr_id ⟨by omega, by omega⟩
      have w1 : wr (k + 1) = k + 1 := wr_id ⟨by omega, by omega⟩
      have ra : 0 ≤ 6 * l1 + k ∧ 6 * l1 + k < 30 := by omega
      have rb : 0 ≤ 6 * l2 + k ∧ 6 * l2 + k < 30 := by omega
      refine b_192_60 (ite_c (fun _ => ⟨k9, k9, ?_⟩) (fun z => absurd (by omega) z))
      rw [r_165_38 hr, r_165_39 hr, r_165_44 hr, r_165_40 hr, r_165_41 hr, w6 l1 a0 a4, w6 l2 b0 b4, ga, gb, w1]
      refine ⟨i_193.mpr ra, i_193.mpr rb, fun g2 x2 => ⟨k9, k9, i_194.mpr ra, i_194.mpr rb, fun g3 x3 => ⟨k9, k9, i_199.mpr ra, i_199.mpr rb, fun g4 x4 => ⟨k9, k9, i_195.mpr ra, i_195.mpr rb, fun g5 x5 => ⟨k9, k9, i_196.mpr ra, i_196.mpr rb, fun g6 x6 => ?_⟩⟩⟩⟩⟩
      have src : ∀ i, 193 ≤ i ∧ i ≤ 199 ∧ i ≠ 197 ∧ i ≠ 198 → g1 i (6 * l1 + k) = g i (6 * l1 + k) := fun i hi => fr i _ (by omega) (by omega)
      have t3 : g2 194 (6 * l1 + k) = g 194 (6 * l1 + k) := by rw [x2, up_i (by decide)]; exact src 194 (by decide)
      have t4 : g3 199 (6 * l1 + k) = g 199 (6 * l1 + k) := by rw [x3, up_i (by decide), x2, up_i (by decide)]; exact src 199 (by decide)
      have t5 : g4 195 (6 * l1 + k) = g 195 (6 * l1 + k) := by rw [x4, up_i (by decide), x3, up_i (by decide), x2, up_i (by decide)]; exact src 195 (by decide)
      have t6 : g5 196 (6 * l1 + k) = g 196 (6 * l1 + k) := by rw [x5, up_i (by decide), x4, up_i (by decide), x3, up_i (by decide), x2, up_i (by decide)]; exact src 196 (by decide)
      rw [src 193 (by decide)] at x2
      rw [t3] at x3
      rw [t4] at x4
      rw [t5] at x5
      rw [t6] at x6
      refine ih (k + 1) g6 (by omega) (by omega) (fun i j p q => ?_) (fun j j0 j1 => ?_) (fun i j hi j0 j1 => ?_)
      · rw [x6, up_o (by omega), x5, up_o (by omega), x4, up_o (by omega), x3, up_o (by omega), x2, up_o (by omega)]; exact fr i j p q
      · rw [x6, up_i (by decide), up_i (by decide), x5, up_i (by decide), up_i (by decide), x4, up_i (by decide), up_i (by decide), x3, up_i (by decide), up_i (by decide), x2, up_i (by decide), up_i (by decide)]; exact v1 j j0 j1
      · by_cases z : j = k
        · rw [z]
          have i5 : i = 193 ∨ i = 194 ∨ i = 195 ∨ i = 196 ∨ i = 199 := by omega
          rcases i5 with rfl | rfl | rfl | rfl | rfl
          · rw [x6, up_i (by decide), x5, up_i (by decide), x4, up_i (by decide), x3, up_i (by decide), x2, up_s]
          · rw [x6, up_i (by decide), x5, up_i (by decide), x4, up_i (by decide), x3, up_s]
          · rw [x6, up_i (by decide), x5, up_s]
          · rw [x6, up_s]
          · rw [x6, up_i (by decide), x5, up_i (by decide), x4, up_s]
        · rw [x6, up_o (by omega), x5, up_o (by omega), x4, up_o (by omega), x3, up_o (by omega), x2, up_o (by omega)]; exact v2 i j hi j0 (by omega)
  have in1 : ∀ (n : Nat) (k : Int) (g1 : GH), 0 ≤ k → k + n = 40 → (∀ i j, ¬ ((i = 192 ∨ i = 198) ∧ 40 * l2 ≤ j ∧ j < 40 * l2 + 40) → g1 i j = g i j) → (∀ j, 0 ≤ j → j < k → g1 192 (40 * l2 + j) = g 192 (40 * l1 + j) ∧ g1 198 (40 * l2 + j) = g 198 (40 * l1 + j)) → WQ sc d 192 Q 2 [(2, 165), (0, l1), (0, l2), (0, k)] [] g1 r := by
    intro n
    induction n with
    | zero =>
      intro k g1 k0 e fr v1
      exact b_192_2 (ite_c (fun z => absurd z (by omega)) (fun _ => in2 6 0 g1 (by decide) (by decide) (fun i j p _ => fr i j p) (fun j j0 j1 => v1 j j0 (by omega)) (fun i j _ j0 j1 => absurd j1 (by omega))))
    | succ n ih =>
      intro k g1 k0 e fr v1
      have ga : wr (40 * l1 + k) = 40 * l1 + k := wr_id ⟨by omega, by omega⟩
      have gb : wr (40 * l2 + k) = 40 * l2 + k := wr_id ⟨by omega, by omega⟩
      have w1 : wr (k + 1) = k + 1 := wr_id ⟨by omega, by omega⟩
      have ra : 0 ≤ 40 * l1 + k ∧ 40 * l1 + k < 200 := by omega
      have rb : 0 ≤ 40 * l2 + k ∧ 40 * l2 + k < 200 := by omega
      refine b_192_2 (ite_c (fun _ => ⟨k9, k9, ?_⟩) (fun z => absurd (by omega) z))
      rw [r_165_37 hr, r_165_43 hr, w40 l1 a0 a4, w40 l2 b0 b4, ga, gb, w1]
      refine ⟨i_192.mpr ra, i_192.mpr rb, fun g2 x2 => ⟨k9, k9, Or.inr (i_198.mpr ra), ?_⟩⟩
      have t3 : g2 198 (40 * l1 + k) = g 198 (40 * l1 + k) := by rw [x2, up_i (by decide)]; exact fr 198 _ (by omega)
      have t2 : g1 192 (40 * l1 + k) = g 192 (40 * l1 + k) := fr 192 _ (by omega)
      rw [t3]
      rw [t2] at x2
      refine ⟨Or.inr ⟨i_198.mpr rb, h98 _⟩, fun g3 x3 => ih (k + 1) g3 (by omega) (by omega) (fun i j p => ?_) (fun j j0 j1 => ?_)⟩
      · rw [x3, up_o (by omega), x2, up_o (by omega)]; exact fr i j p
      · by_cases z : j = k
        · rw [z, x3, up_i (by decide), up_s, x2, up_s]
          exact ⟨rfl, rfl⟩
        · rw [x3, up_i (by decide), up_j (by omega), x2, up_j (by omega), up_i (by decide)]; exact v1 j j0 (by omega)
  exact c_192 (in1 40 0 g (by decide) (by decide) (fun _ _ _ => rfl) (fun j j0 j1 => absurd j1 (by omega)))
/-- a mill emptied -/
def emE (b : GH) (m : Int) : GH := up (up (up (up (up b 0 2 (wL (b 0 2 + b 6 m))) 6 m 0) 8 m 0) 9 m 0) 10 m 0
theorem em_o {i j : Int} (h : ¬ (i = 0 ∧ j = 2)) (h2 : ¬ ((i = 6 ∨ i = 8 ∨ i = 9 ∨ i = 10) ∧ j = m)) : emE b m i j = b i j := by
  unfold emE
  rw [up_o (by omega), up_o (by omega), up_o (by omega), up_o (by omega), up_o h]
theorem em_02 : emE b m 0 2 = wL (b 0 2 + b 6 m) := by
  unfold emE
  rw [up_i (by decide), up_i (by decide), up_i (by decide), up_i (by decide), up_s]
theorem em_z {i : Int} (h : i = 6 ∨ i = 8 ∨ i = 9 ∨ i = 10) : emE b m i m = 0 := by
  unfold emE
  rcases h with rfl | rfl | rfl | rfl
  · rw [up_i (by decide), up_i (by decide), up_i (by decide), up_s]
  · rw [up_i (by decide), up_i (by decide), up_s]
  · rw [up_i (by decide), up_s]
  · rw [up_s]
theorem em_b (hb : HB b) : HB (emE b m) := by
  obtain ⟨h1, h2, h3⟩ := hb
  refine ⟨by rw [em_o (by omega) (by omega)]; exact h1, fun j j0 j1 => by rw [em_o (by omega) (by omega), em_o (by omega) (by omega)]; exact h2 j j0 j1, fun k k0 k1 => ?_⟩
  rw [em_o (i := 7) (by omega) (by omega)]
  by_cases z : k = m
  · rw [z, em_z (by omega)]
    rw [z] at k0 k1
    exact ⟨by decide, (h3 m k0 k1).2⟩
  · rw [em_o (by omega) (by omega)]; exact h3 k k0 k1
/-- what emptying leaves of the class's brook -/
def EMC (m : Int) (g g' : GH) : Prop := g' 23 2 = wL (g 23 2 + g 26 m) ∧ (g' 26 m = 0 ∧ g' 28 m = 0 ∧ g' 29 m = 0 ∧ g' 30 m = 0) ∧ ∀ i j, (23 ≤ i ∧ i ≤ 33) ∨ (132 ≤ i ∧ i ≤ 164) → ¬ (i = 23 ∧ j = 2) → ¬ ((i = 26 ∨ i = 28 ∨ i = 29 ∨ i = 30) ∧ j = m) → g' i j = g i j
theorem EMC.cb {g' : GH} (h : EMC m g g') (m0 : 0 ≤ m) (m6 : m < 6) (cb : CBR 23 g b) : CBR 23 g' (emE b m) := by
  obtain ⟨a, ⟨z6, z8, z9, z10⟩, fr⟩ := h
  obtain ⟨⟨q1, q2, q3⟩, q4, q5⟩ := cb
  refine ⟨⟨?_, ?_, ?_⟩, fun j j0 j1 => ?_, fun j j0 j1 => ?_⟩
  · rw [em_o (by omega) (by omega), fr 23 0 (by omega) (by omega) (by omega)]; exact q1
  · rw [em_o (by omega) (by omega), fr 23 1 (by omega) (by omega) (by omega)]; exact q2
  · rw [em_02, a, q3]
    have := (q5 m m0 m6).1
    rw [show (23 : Int) + 3 = 26 by decide] at this
    rw [this]
  · rw [em_o (by omega) (by omega), em_o (by omega) (by omega), fr (23 + 1) j (by omega) (by omega) (by omega), fr (23 + 2) j (by omega) (by omega) (by omega)]; exact q4 j j0 j1
  · by_cases z : j = m
    · rw [z, em_z (i := 6) (by omega), em_z (i := 8) (by omega), em_z (i := 9) (by omega), em_z (i := 10) (by omega), em_o (by omega) (by omega), fr (23 + 4) m (by omega) (by omega) (by omega)]
      exact ⟨z6, (q5 m m0 m6).2.1, z8, z9, z10⟩
    · rw [em_o (by omega) (by omega), em_o (by omega) (by omega), em_o (by omega) (by omega), em_o (by omega) (by omega), em_o (by omega) (by omega), fr (23 + 3) j (by omega) (by omega) (by omega), fr (23 + 4) j (by omega) (by omega) (by omega), fr (23 + 5) j (by omega) (by omega) (by omega), fr (23 + 6) j (by omega) (by omega) (by omega), fr (23 + 7) j (by omega) (by omega) (by omega)]; exact q5 j j0 j1
theorem f_2 (hr : RI r) (m0 : 0 ≤ l1) (m6 : l1 < 6) (hq : ∀ g', EMC l1 g g' → (∀ i j, ¬ (23 ≤ i ∧ i ≤ 33) → g' i j = g i j) → Q 0 g' r) : Ce sc (d + 2) 2 [(2, 23), (0, l1)] g r Q := by
  have k : okr 218 23 0 := okd (by decide +kernel)
  refine c_2 (w_123 (fun _ _ => ?_) (fun z => absurd ⟨m0, by omega⟩ z))
  rw [if_neg (by decide), r_23_6 hr, r_23_8 hr, r_23_9 hr, r_23_10 hr]
  refine ⟨k, k, i_26.mpr ⟨m0, m6⟩, k, fun g2 x2 => ⟨k, i_26.mpr ⟨m0, m6⟩, fun g3 x3 => ⟨k, i_28.mpr ⟨m0, m6⟩, fun g4 x4 => ⟨k, i_29.mpr ⟨m0, m6⟩, fun g5 x5 => ⟨k, i_30.mpr ⟨m0, m6⟩, fun g6 x6 => hq g6 ⟨?_, ⟨?_, ?_, ?_, ?_⟩, fun i j _ p q => ?_⟩ (fun i j h => ?_)⟩⟩⟩⟩⟩
  · rw [x6, up_i (by decide), x5, up_i (by decide), x4, up_i (by decide), x3, up_i (by decide), x2, up_s]
  · rw [x6, up_i (by decide), x5, up_i (by decide), x4, up_i (by decide), x3, up_s]
  · rw [x6, up_i (by decide), x5, up_i (by decide), x4, up_s]
  · rw [x6, up_i (by decide), x5, up_s]
  · rw [x6, up_s]
  · rw [x6, up_o (by omega), x5, up_o (by omega), x4, up_o (by omega), x3, up_o (by omega), x2, up_o p]
  · rw [x6, up_i (by omega), x5, up_i (by omega), x4, up_i (by omega), x3, up_i (by omega), x2, up_i (by omega)]
end CPS
