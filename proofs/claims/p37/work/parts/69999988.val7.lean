/-! model: the scratch wheel is the reference's seventh mill -/
theorem wL_ml (a c : Int) : wL (wL a * c) = wL (a * c) := by
  have h : Int64.ofInt (wL a * c) = Int64.ofInt (a * c) := by rw [Int64.ofInt_mul, wL_of, ← Int64.ofInt_mul]
  unfold wL at h ⊢
  rw [h]
theorem wL_mr (a c : Int) : wL (c * wL a) = wL (c * a) := by rw [Int.mul_comm, wL_ml, Int.mul_comm]
theorem wL_4 (v l : Int) : wL ((wL ((wL ((wL (v * l)) * l)) * l)) * l) = wL ((wL ((wL ((wL (l * l)) * l)) * l)) * v) := by
  rw [wL_ml, Int.mul_assoc (wL ((wL (v * l)) * l)), wL_ml, Int.mul_assoc (wL (v * l)), wL_ml, wL_ml, Int.mul_assoc (wL ((wL (l * l)) * l)), wL_ml, Int.mul_assoc (wL (l * l)), wL_ml]
  congr 1
  simp only [Int.mul_comm, Int.mul_left_comm, Int.mul_assoc]
/-- the reference's heap behind its copy of mill k -/
def cpH (g : GH) (k : Int) : GH := fun i j => if 168 ≤ i ∧ i ≤ 178 ∧ j = 6 then g i k else g i j
def CPM (k : Int) (g : GH) (n : Int) (h : GH) : Prop := (∀ i j, ¬ (168 ≤ i ∧ i < 168 + n ∧ j = 6) → h i j = g i j) ∧ ∀ i, 168 ≤ i → i < 168 + n → h i 6 = g i k
/-- a wheel of another size and so many buckets -/
def wsH (h : GH) (size many : Int) : GH := up (up (up h 169 6 size) 171 6 many) 168 6 1
/-- k times as large -/
def wmH (h : GH) (a b c : Int) : GH := up (up (up h 169 6 a) 170 6 b) 172 6 c
section VL9
variable {sc : SCR} {d : Nat} {Q : QJ} {g r : GH} {W : Int → Int} {l0 l1 l2 l3 l4 l5 x y k n : Int}
theorem cpm_0 : CPM k g 0 g := ⟨fun _ _ _ => rfl, fun i a c => absurd c (by omega)⟩
theorem cpm_s {h h' : GH} {i : Int} (I : CPM k g n h) (e : h' = up h i 6 (h i k)) (hx : i = 168 + n) (n0 : 0 ≤ n) (k6 : k ≠ 6) : CPM k g (n + 1) h' := by
  refine ⟨fun a j z => ?_, fun a a0 a1 => ?_⟩
  · rw [e, up_o (by omega)]; exact I.1 a j (by omega)
  · by_cases z : a = i
    · rw [z, e, up_s]; exact I.1 i k (by omega)
    · rw [e, up_i z]; exact I.2 a a0 (by omega)
theorem cpm_e {h : GH} (I : CPM k g 11 h) : h = cpH g k := by
  funext i j
  unfold cpH
  by_cases z : 168 ≤ i ∧ i ≤ 178 ∧ j = 6
  · rw [if_pos z, z.2.2]; exact I.2 i z.1 (by omega)
  · rw [if_neg z]; exact I.1 i j (by omega)
/-- a mill copied -/
theorem f_141 (hr : RI r) (k0 : 0 ≤ l1) (k6 : l1 < 6) (hb : g 168 l1 = 0 ∨ g 168 l1 = 1) (hq : Q 0 (cpH g l1) r) : Ce sc (d + 1) 141 [(2, 165), (0, l1), (0, 6)] g r Q := by
  have k9 : okr 218 165 9 := okd (by decide +kernel)
  refine c_141 ⟨k9, k9, ?_⟩
  rw [r_165_2 hr, r_165_3 hr, r_165_4 hr, r_165_5 hr, r_165_6 hr, r_165_7 hr, r_165_8 hr, r_165_9 hr, r_165_10 hr, r_165_11 hr, r_165_12 hr]
  refine ⟨Or.inr (i_168.mpr ⟨k0, by omega⟩), Or.inr ⟨i_168.mpr ⟨by decide, by decide⟩, hb⟩, fun g1 e1 => ⟨k9, k9, i_169.mpr ⟨k0, by omega⟩, i_169.mpr ⟨by decide, by decide⟩, fun g2 e2 => ⟨k9, k9, i_170.mpr ⟨k0, by omega⟩, i_170.mpr ⟨by decide, by decide⟩, fun g3 e3 => ⟨k9, k9, i_171.mpr ⟨k0, by omega⟩, i_171.mpr ⟨by decide, by decide⟩, fun g4 e4 => ⟨k9, k9, i_172.mpr ⟨k0, by omega⟩, i_172.mpr ⟨by decide, by decide⟩, fun g5 e5 => ⟨k9, k9, i_173.mpr ⟨k0, by omega⟩, i_173.mpr ⟨by decide, by decide⟩, fun g6 e6 => ⟨k9, k9, i_174.mpr ⟨k0, by omega⟩, i_174.mpr ⟨by decide, by decide⟩, fun g7 e7 => ⟨k9, k9, i_175.mpr ⟨k0, by omega⟩, i_175.mpr ⟨by decide, by decide⟩, fun g8 e8 => ⟨k9, k9, i_176.mpr ⟨k0, by omega⟩, i_176.mpr ⟨by decide, by decide⟩, fun g9 e9 => ⟨k9, k9, i_177.mpr ⟨k0, by omega⟩, i_177.mpr ⟨by decide, by decide⟩, fun g10 e10 => ⟨k9, k9, i_178.mpr ⟨k0, by omega⟩, i_178.mpr ⟨by decide, by decide⟩, fun g11 e11 => ?_⟩⟩⟩⟩⟩⟩⟩⟩⟩⟩⟩
  have n6 : l1 ≠ 6 := by omega
  have I1 : CPM l1 g 1 g1 := cpm_s (n := 0) cpm_0 e1 (by decide) (by decide) n6
  have I2 : CPM l1 g 2 g2 := cpm_s (n := 1) I1 e2 (by decide) (by decide) n6
  have I3 : CPM l1 g 3 g3 := cpm_s (n := 2) I2 e3 (by decide) (by decide) n6
  have I4 : CPM l1 g 4 g4 := cpm_s (n := 3) I3 e4 (by decide) (by decide) n6
  have I5 : CPM l1 g 5 g5 := cpm_s (n := 4) I4 e5 (by decide) (by decide) n6
  have I6 : CPM l1 g 6 g6 := cpm_s (n := 5) I5 e6 (by decide) (by decide) n6
  have I7 : CPM l1 g 7 g7 := cpm_s (n := 6) I6 e7 (by decide) (by decide) n6
  have I8 : CPM l1 g 8 g8 := cpm_s (n := 7) I7 e8 (by decide) (by decide) n6
  have I9 : CPM l1 g 9 g9 := cpm_s (n := 8) I8 e9 (by decide) (by decide) n6
  have I10 : CPM l1 g 10 g10 := cpm_s (n := 9) I9 e10 (by decide) (by decide) n6
  have I11 : CPM l1 g 11 g11 := cpm_s (n := 10) I10 e11 (by decide) (by decide) n6
  rw [cpm_e I11]
  exact hq
/-- the scratch wheel and its bucket -/
theorem wxo_18 (hr : RI r) : WXO r 18 := ⟨okd (by decide +kernel), okd (by decide +kernel), r_18_9 hr, r_19_5 hr, r_19_6 hr, r_19_12 hr, ⟨okd (by decide +kernel), n_20⟩, ⟨okd (by decide +kernel), n_21⟩, ⟨okd (by decide +kernel), n_22⟩⟩
def SX (g g' : GH) : Prop := ∀ i j, ¬ (18 ≤ i ∧ i ≤ 22) → g' i j = g i j
theorem SX.tr {a b c : GH} (h : SX a b) (k : SX b c) : SX a c := fun i j z => (k i j z).trans (h i j z)
theorem f_56 (hr : RI r) (ky : okr 218 y 7) (hy : y < 18 ∨ 22 < y) (wy : WHR g y W) (V : Int → Int) (v0 : V 0 = 1) (v1 : V 1 = l2) (v2 : V 2 = W 2) (v3 : V 3 = l3) (v4 : V 4 = W 4) (v5 : V 5 = W 5) (v6 : V 6 = W 6) (v9 : V 9 = W 9) (v10 : V 10 = W 10) (hV : WBd V) (hq : ∀ g', SX g g' → WHR g' 18 V → BK3 g' 18 V → Q 0 g' r) : Ce sc (d + 5) 56 [(2, 18), (2, y), (0, l2), (0, l3)] g r Q := by
  have kx : okr 218 18 7 := okd (by decide +kernel)
  have kb : okr 218 19 1 := okd (by decide +kernel)
  obtain ⟨w0, w1, w2, w3, w4, w5, w6, w7, w8⟩ := wy
  refine c_56 ⟨kx, Or.inr rfl, fun g1 e1 => ⟨kx, fun g2 e2 => ⟨ky, kx, fun g3 e3 => ⟨kx, fun g4 e4 => ⟨ky, kx, fun g5 e5 => ⟨ky, kx, fun g6 e6 => ⟨ky, kx, fun g7 e7 => ⟨ky, kx, fun g8 e8 => ⟨ky, kx, fun g9 e9 => ?_⟩⟩⟩⟩⟩⟩⟩⟩⟩
  have ne : y ≠ 18 := by omega
  have o : ∀ j, g9 y j = g y j := fun j => by rw [e9, up_i ne, e8, up_i ne, e7, up_i ne, e6, up_i ne, e5, up_i ne, e4, up_i ne, e3, up_i ne, e2, up_i ne, e1, up_i ne]
  have x2 : g2 y 2 = W 2 := by rw [e2, up_i ne, e1, up_i ne]; exact w2
  have x4 : g4 y 4 = W 4 := by rw [e4, up_i ne, e3, up_i ne, e2, up_i ne, e1, up_i ne]; exact w4
  have x5 : g5 y 5 = W 5 := by rw [e5, up_i ne, e4, up_i ne, e3, up_i ne, e2, up_i ne, e1, up_i ne]; exact w5
  have x6 : g6 y 6 = W 6 := by rw [e6, up_i ne, e5, up_i ne, e4, up_i ne, e3, up_i ne, e2, up_i ne, e1, up_i ne]; exact w6
  have x7 : g7 y 7 = W 9 := by rw [e7, up_i ne, e6, up_i ne, e5, up_i ne, e4, up_i ne, e3, up_i ne, e2, up_i ne, e1, up_i ne]; exact w7
  have x8 : g8 y 8 = W 10 := by rw [e8, up_i ne, e7, up_i ne, e6, up_i ne, e5, up_i ne, e4, up_i ne, e3, up_i ne, e2, up_i ne, e1, up_i ne]; exact w8
  rw [x2] at e3
  rw [x4] at e5
  rw [x5] at e6
  rw [x6] at e7
  rw [x7] at e8
  rw [x8] at e9
  have wh : WHR g9 18 V := by
    refine ⟨?_, ?_, ?_, ?_, ?_, ?_, ?_, ?_, ?_⟩
    · rw [v0, e9, up_j (by decide), e8, up_j (by decide), e7, up_j (by decide), e6, up_j (by decide), e5, up_j (by decide), e4, up_j (by decide), e3, up_j (by decide), e2, up_j (by decide), e1, up_s]
    · rw [v1, e9, up_j (by decide), e8, up_j (by decide), e7, up_j (by decide), e6, up_j (by decide), e5, up_j (by decide), e4, up_j (by decide), e3, up_j (by decide), e2, up_s]
    · rw [v2, e9, up_j (by decide), e8, up_j (by decide), e7, up_j (by decide), e6, up_j (by decide), e5, up_j (by decide), e4, up_j (by decide), e3, up_s]
    · rw [v3, e9, up_j (by decide), e8, up_j (by decide), e7, up_j (by decide), e6, up_j (by decide), e5, up_j (by decide), e4, up_s]
    · rw [v4, e9, up_j (by decide), e8, up_j (by decide), e7, up_j (by decide), e6, up_j (by decide), e5, up_s]
    · rw [v5, e9, up_j (by decide), e8, up_j (by decide), e7, up_j (by decide), e6, up_s]
    · rw [v6, e9, up_j (by decide), e8, up_j (by decide), e7, up_s]
    · rw [v9, e9, up_j (by decide), e8, up_s]
    · rw [v10, e9, up_s]
  rw [r_18_9 hr]
  refine ⟨kx, kb, f_9 (x := 18) (wxo_18 hr) wh hV (fun g' fr b3 => hq g' (fun i j z => ?_) ?_ b3)⟩
  · have n : i ≠ 18 := by omega
    rw [fr i j (by omega), e9, up_i n, e8, up_i n, e7, up_i n, e6, up_i n, e5, up_i n, e4, up_i n, e3, up_i n, e2, up_i n, e1, up_i n]
  · have s : ∀ j, g' 18 j = g9 18 j := fun j => fr 18 j (by omega)
    unfold WHR at wh ⊢
    rw [s 0, s 1, s 2, s 3, s 4, s 5, s 6, s 7, s 8]
    exact wh
theorem f_57 (hr : RI r) (ky : okr 218 y 7) (hy : y < 18 ∨ 22 < y) (wy : WHR g y W) (U V : Int → Int) (u0 : U 0 = 1) (u1 : U 1 = W 1 * l2) (u2 : U 2 = W 2) (u3 : U 3 = W 3) (u4 : U 4 = W 4) (u5 : U 5 = W 5) (u6 : U 6 = W 6) (u9 : U 9 = W 9) (u10 : U 10 = W 10) (hU : WBd U) (v0 : V 0 = 1) (v1 : V 1 = W 1 * l2) (v2 : V 2 = W 2 * l2) (v3 : V 3 = W 3) (v4 : V 4 = W 4 * l2) (v5 : V 5 = W 5) (v6 : V 6 = W 6) (v9 : V 9 = W 9) (v10 : V 10 = W 10) (hV : WBd V) (hq : ∀ g', SX g g' → WHR g' 18 V → BK3 g' 18 V → Q 0 g' r) : Ce sc (d + 6) 57 [(2, 18), (2, y), (0, l2)] g r Q := by
  have kx : okr 218 18 7 := okd (by decide +kernel)
  have kb : okr 218 19 1 := okd (by decide +kernel)
  have w1 : g y 1 = W 1 := wy.2.1
  have w3 : g y 3 = W 3 := wy.2.2.2.1
  refine c_57 ⟨ky, ky, kx, ?_⟩
  have s1 : wr (W 1 * l2) = W 1 * l2 := by
    have := hV.1
    rw [v1] at this
    exact wr_id ⟨by omega, by omega⟩
  have s2 : wr (W 2 * l2) = W 2 * l2 := by
    have := hV.2.1
    rw [v2] at this
    exact wr_id ⟨by omega, by omega⟩
  have s4 : wr (W 4 * l2) = W 4 * l2 := by
    have := hV.2.2.2.1
    rw [v4] at this
    exact wr_id ⟨by omega, by omega⟩
  rw [w1, w3, s1]
  refine f_56 (d := d) hr ky hy wy U u0 u1 u2 u3 u4 u5 u6 u9 u10 hU (fun g1 sx wh _ => ⟨kx, kx, fun g2 e2 => ⟨kx, kx, fun g3 e3 => ⟨kx, ?_⟩⟩⟩)
  obtain ⟨x0, x1, x2, x3, x4, x5, x6, x7, x8⟩ := wh
  rw [x2, u2, s2] at e2
  have y4 : g2 18 4 = W 4 := by rw [e2, up_j (by decide), x4, u4]
  rw [y4, s4] at e3
  have wh3 : WHR g3 18 V := by
    refine ⟨?_, ?_, ?_, ?_, ?_, ?_, ?_, ?_, ?_⟩
    · rw [e3, up_j (by decide), e2, up_j (by decide), x0, u0, v0]
    · rw [e3, up_j (by decide), e2, up_j (by decide), x1, u1, v1]
    · rw [e3, up_j (by decide), e2, up_s, v2]
    · rw [e3, up_j (by decide), e2, up_j (by decide), x3, u3, v3]
    · rw [e3, up_s, v4]
    · rw [e3, up_j (by decide), e2, up_j (by decide), x5, u5, v5]
    · rw [e3, up_j (by decide), e2, up_j (by decide), x6, u6, v6]
    · rw [e3, up_j (by decide), e2, up_j (by decide), x7, u9, v9]
    · rw [e3, up_j (by decide), e2, up_j (by decide), x8, u10, v10]
  rw [r_18_9 hr]
  refine ⟨kb, f_9 (d := d + 1) (x := 18) (wxo_18 hr) wh3 hV (fun g' fr b3 => hq g' (fun i j z => ?_) ?_ b3)⟩
  · rw [fr i j (by omega), e3, up_i (by omega), e2, up_i (by omega)]; exact sx i j z
  · have s : ∀ j, g' 18 j = g3 18 j := fun j => fr 18 j (by omega)
    unfold WHR at wh3 ⊢
    rw [s 0, s 1, s 2, s 3, s 4, s 5, s 6, s 7, s 8]
    exact wh3
theorem J5.sx (hJ : J5 g r) {g' : GH} (s : SX g g') : J5 g' r := hJ.eb (EB.e4 hJ.1.1.1.1.1 (EB.rf hJ.2) (fun i hi j => s i j (fun z => by
  unfold F4 F3 SC BO at hi
  omega)))
theorem SX.bu {g' : GH} (h : SX g g') {g2 : GH} (u : BUX 18 g' g2) : SX g g2 := fun i j z => (u i j (by omega)).trans (h i j z)
/-- the columns of the seventh mill are asked by MWh alone -/
theorem mwh_v {g : GH} {k j : Int} (j0 : 0 ≤ j) (j1 : j ≤ 12) : MWh g k j = g (168 + j) k := by
  unfold MWh
  rw [if_pos ⟨j0, j1⟩]
theorem mwh_cp (g : GH) (k : Int) {j : Int} (j0 : 0 ≤ j) (j1 : j ≤ 10) : MWh (cpH g k) 6 j = MWh g k j := by
  rw [mwh_v j0 (by omega), mwh_v j0 (by omega)]
  unfold cpH
  rw [if_pos ⟨by omega, by omega, rfl⟩]
theorem tt_79 (hJ : J5 g r) {A1 A2 A3 A4 : Int} (D : Nat) : Ce sc (D + 7) 79 [(2, 0), (0, A1), (0, A2), (0, A3), (0, A4)] g r (fun v1 g1 r1 => Ce sc (D + 7) 191 [(2, 165), (0, A1), (0, A2), (0, A3), (0, A4)] g1 r1 fun v2 g2 r2 => v1 = v2 ∧ J5 g2 r2) := by
  have hr := hJ.1.1.1.1.1
  have k0 : okr 218 0 8 := okd (by decide +kernel)
  have k9 : okr 218 165 9 := okd (by decide +kernel)
  have kx : okr 218 18 7 := okd (by decide +kernel)
  have tt := td_tm hJ.1.1 A1
  have ov : TM g A1 → g (r 6 A1 + 1) 0 = g 168 A1 := fun t => (tk_f hJ.1.1 t).1
  by_cases P : ((TM g A1 ∧ g 168 A1 ≠ 0) ∧ (2 ≤ A2 ∧ A2 ≤ 10) ∧ (0 ≤ A3 ∧ A3 ≤ 99999) ∧ 0 ≤ A4 ∧ A4 ≤ 1) ∧ MWh g A1 1 * A2 ≤ 40 ∧ MWh g A1 2 * A2 ≤ 20 ∧ MWh g A1 4 * A2 ≤ 24
  · obtain ⟨⟨⟨t, o0⟩, a2, a3, a4⟩, m1, m2, m4⟩ := P
    have hm := hr.2.1 A1 t.1 t.2.1
    have t6 := t.2.1
    obtain ⟨hx, wh, wb, b3⟩ := t5_of hJ t
    have yy : (r 6 A1 + 1 < 18 ∨ 22 < r 6 A1 + 1) := by unfold MO at hm; omega
    have p9 := wb.2.2.2.2.2.2.1
    have x1 : g (r 6 A1 + 1) 1 = MWh g A1 1 := wh.2.1
    have x2 : g (r 6 A1 + 1) 2 = MWh g A1 2 := wh.2.2.1
    have x4 : g (r 6 A1 + 1) 4 = MWh g A1 4 := wh.2.2.2.2.1
    have x7 : g (r 6 A1 + 1) 7 = MWh g A1 9 := wh.2.2.2.2.2.2.2.1
    have n1 : 0 ≤ MWh g A1 1 * A2 := Int.mul_nonneg (by have := wb.1; omega) (by omega)
    have n2 : 0 ≤ MWh g A1 2 * A2 := Int.mul_nonneg (by have := wb.2.1; omega) (by omega)
    have n4 : 0 ≤ MWh g A1 4 * A2 := Int.mul_nonneg (by have := wb.2.2.2.1; omega) (by omega)
    have s1 : wr (MWh g A1 1 * A2) = MWh g A1 1 * A2 := wr_id ⟨by omega, by omega⟩
    have s2 : wr (MWh g A1 2 * A2) = MWh g A1 2 * A2 := wr_id ⟨by omega, by omega⟩
    have s4 : wr (MWh g A1 4 * A2) = MWh g A1 4 * A2 := wr_id ⟨by omega, by omega⟩
    -- the model up to its two ways
    have mod : ∀ (g1 : GH) (Q : QJ), (∀ i j, 165 ≤ i → g1 i j = g i j) → (A4 = 0 → Ce sc (D + 6) 176 [(2, 165), (0, A1), (0, A3), (0, MWh g A1 9), (0, 0)] g1 r (fun v g2 r2 => Q (wL ((wL ((wL ((wL (A2 * A2)) * A2)) * A2)) * v)) g2 r2)) → (A4 = 1 → Ce sc (D + 6) 176 [(2, 165), (0, 6), (0, if 99999 < A2 * A2 * A2 * A3 then 99999 else A2 * A2 * A2 * A3), (0, MWh g A1 9), (0, 0)] (wmH (cpH g1 A1) (MWh g A1 1 * A2) (MWh g A1 2 * A2) (MWh g A1 4 * A2)) r Q) → Ce sc (D + 7) 191 [(2, 165), (0, A1), (0, A2), (0, A3), (0, A4)] g1 r Q := by
      intro g1 Q hi1 h0 h1
      have tm1 : TM g1 A1 := ⟨t.1, t.2.1, by rw [hi1 167 A1 (by decide)]; exact t.2.2⟩
      have o1 : g1 168 A1 ≠ 0 := by rw [hi1 168 A1 (by decide)]; exact o0
      have y1 : g1 169 A1 = MWh g A1 1 := hi1 169 A1 (by decide)
      have y2 : g1 170 A1 = MWh g A1 2 := hi1 170 A1 (by decide)
      have y4 : g1 172 A1 = MWh g A1 4 := hi1 172 A1 (by decide)
      have y9 : g1 177 A1 = MWh g A1 9 := hi1 177 A1 (by decide)
      refine c_191 ⟨k9, w_179 hr (fun _ _ => ?_) (fun z => absurd ⟨tm1, o1⟩ z)⟩
      rw [if_neg (by decide)]
      refine w_137 (fun _ _ => ?_) (fun z => absurd a2 z)
      rw [if_neg (by decide), r_165_3 hr, r_165_4 hr, r_165_6 hr, y1, y2, y4, s1, s2, s4]
      refine ⟨k9, i_169.mpr ⟨t.1, by omega⟩, ite_c (fun z => absurd m1 (by omega)) (fun _ => ⟨k9, i_170.mpr ⟨t.1, by omega⟩, ite_c (fun z => absurd m2 (by omega)) (fun _ => ⟨k9, i_172.mpr ⟨t.1, by omega⟩, ite_c (fun z => absurd m4 (by omega)) (fun _ => w_178 (fun _ _ => ?_) (fun z => absurd a3 z))⟩)⟩)⟩
      rw [if_neg (by decide)]
      refine w_137 (fun _ _ => ?_) (fun z => absurd a4 z)
      rw [if_neg (by decide), r_165_11 hr, y9]
      refine ite_c (fun z => ⟨k9, i_177.mpr ⟨t.1, by omega⟩, k9, h0 z⟩) (fun z => ⟨k9, f_141 (d := D + 5) hr t.1 t6 ?_ ?_⟩)
      · rw [hi1 168 A1 (by decide)]; exact hJ.1.1.1.1.2.2.2.1.2.1.1 A1
      · rw [r_165_3 hr, r_165_4 hr, r_165_6 hr, r_165_11 hr]
        have z1 : cpH g1 A1 169 6 = MWh g A1 1 := (mwh_cp g1 A1 (j := 1) (by decide) (by decide)).trans y1
        have z2 : cpH g1 A1 170 6 = MWh g A1 2 := (mwh_cp g1 A1 (j := 2) (by decide) (by decide)).trans y2
        have z4 : cpH g1 A1 172 6 = MWh g A1 4 := (mwh_cp g1 A1 (j := 4) (by decide) (by decide)).trans y4
        refine ⟨k9, i_169.mpr ⟨by decide, by decide⟩, i_169.mpr ⟨by decide, by decide⟩, fun g6 e6 => ⟨k9, i_170.mpr ⟨by decide, by decide⟩, i_170.mpr ⟨by decide, by decide⟩, fun g7 e7 => ⟨k9, i_172.mpr ⟨by decide, by decide⟩, i_172.mpr ⟨by decide, by decide⟩, fun g8 e8 => ?_⟩⟩⟩
        have q7 : g6 170 6 = MWh g A1 2 := by rw [e6, up_i (by decide)]; exact z2
        have q8 : g7 172 6 = MWh g A1 4 := by rw [e7, up_i (by decide), e6, up_i (by decide)]; exact z4
        rw [z1, s1] at e6
        rw [q7, s2] at e7
        rw [q8, s4] at e8
        have e8' : g8 = wmH (cpH g1 A1) (MWh g A1 1 * A2) (MWh g A1 2 * A2) (MWh g A1 4 * A2) := by
          unfold wmH
          rw [e8, e7, e6]
        have q9 : g8 177 A1 = MWh g A1 9 := by
          rw [e8, up_i (by decide), e7, up_i (by decide), e6, up_i (by decide)]
          unfold cpH
          rw [if_neg (by omega)]
          exact y9
        have b3' : 0 ≤ A2 * A2 * A2 ∧ A2 * A2 * A2 ≤ 1000 ∧ 0 ≤ A2 * A2 ∧ A2 * A2 ≤ 100 := by
          have e : A2 = 2 ∨ A2 = 3 ∨ A2 = 4 ∨ A2 = 5 ∨ A2 = 6 ∨ A2 = 7 ∨ A2 = 8 ∨ A2 = 9 ∨ A2 = 10 := by omega
          rcases e with e | e | e | e | e | e | e | e | e <;> rw [e] <;> decide
        have pb : 0 ≤ A2 * A2 * A2 * A3 := Int.mul_nonneg b3'.1 a3.1
        have pc : A2 * A2 * A2 * A3 ≤ 1000 * 99999 := Int.mul_le_mul b3'.2.1 a3.2 a3.1 (by decide)
        have w3 : wL ((wL ((wL (A2 * A2)) * A2)) * A3) = A2 * A2 * A2 * A3 := by rw [wL_id (x := A2 * A2) ⟨by omega, by omega⟩, wL_id (x := A2 * A2 * A2) ⟨by omega, by omega⟩, wL_id (x := A2 * A2 * A2 * A3) ⟨by omega, by omega⟩]
        have h1' := h1 (by omega)
        rw [q9, w3, e8']
        refine ite_c (fun z => ?_) (fun z => ?_)
        · rw [if_pos (cmp_gt.mp z)] at h1'
          exact ⟨k9, i_177.mpr ⟨t.1, by omega⟩, k9, h1'⟩
        · rw [if_neg (fun q => z (cmp_gt.mpr q))] at h1'
          rw [wr_id (x := A2 * A2 * A2 * A3) ⟨by omega, by omega⟩]
          exact ⟨k9, i_177.mpr ⟨t.1, by omega⟩, k9, h1'⟩
    refine c_79 ⟨k0, w_130 hr (fun _ _ => ?_) (fun z => absurd ⟨tt.mpr t, by rw [ov t]; exact o0⟩ z)⟩
    rw [if_neg (show ¬ r 6 A1 + 1 = -1 by unfold MO at hm; omega)]
    refine w_123 (fun _ _ => ?_) (fun z => absurd a2 z)
    rw [if_neg (by decide)]
    refine w_124 (fun _ _ => ?_) (fun z => absurd a3 z)
    rw [if_neg (by decide)]
    refine w_123 (fun _ _ => ?_) (fun z => absurd a4 z)
    rw [if_neg (by decide), x1, x2, x4, x7, s1, s2, s4]
    refine ⟨hx.1, ite_c (fun z => absurd m1 (by omega)) (fun _ => ⟨hx.1, ite_c (fun z => absurd m2 (by omega)) (fun _ => ⟨hx.1, ite_c (fun z => absurd m4 (by omega)) (fun _ => ite_c (fun z0 => ⟨hx.1, hx.1, ?_⟩) (fun z0 => ⟨k0, ?_⟩))⟩)⟩)⟩
    · refine fw_59 (d := D + 2) hx wh b3 wb a3.1 a3.2 p9.1 p9.2 (Or.inl ⟨by decide, by decide⟩) (fun g1 bu b3' => ?_)
      have j1 := hJ.bu t bu b3'
      refine mod g1 _ (fun i j z => bu i j (by unfold MO at hm; omega)) (fun _ => ?_) (fun z => absurd z (by omega))
      refine f_176 (d := D + 1) hr t.1 (by omega) (by rw [mwh_bu hJ t bu A1]; exact wb) a3.1 a3.2 p9.1 p9.2 (by decide) (by decide) ⟨?_, j1⟩
      rw [mwh_bu hJ t bu A1]
      exact wL_4 _ _
    · rw [r_0_3 hr]
      have c : ∀ j, 0 ≤ j → j ≤ 10 → MWh (cpH g A1) 6 j = MWh g A1 j := fun j a b => mwh_cp g A1 a b
      have w0 : MWh g A1 0 = 1 := by
        have := hJ.1.1.1.1.2.2.2.1.2.1.1 A1
        have z : MWh g A1 0 = g 168 A1 := rfl
        rw [z]; omega
      -- the wheel of the larger size alone, and the whole model
      have uu : ∀ j, j ≠ 1 → 0 ≤ j → j ≤ 10 → MWh (up (cpH g A1) 169 6 (MWh g A1 1 * A2)) 6 j = MWh g A1 j := fun j a b e => by
        rw [← c j b e, mwh_v b (by omega), mwh_v b (by omega), up_i (by omega)]
      have vv : ∀ j, j ≠ 1 → j ≠ 2 → j ≠ 4 → 0 ≤ j → j ≤ 10 → MWh (wmH (cpH g A1) (MWh g A1 1 * A2) (MWh g A1 2 * A2) (MWh g A1 4 * A2)) 6 j = MWh g A1 j := fun j a a2 a4 b e => by
        rw [← c j b e, mwh_v b (by omega), mwh_v b (by omega)]
        unfold wmH
        rw [up_i (by omega), up_i (by omega), up_i (by omega)]
      have U1 : MWh (up (cpH g A1) 169 6 (MWh g A1 1 * A2)) 6 1 = MWh g A1 1 * A2 := (up_s : up (cpH g A1) 169 6 (MWh g A1 1 * A2) 169 6 = _)
      have V1 : MWh (wmH (cpH g A1) (MWh g A1 1 * A2) (MWh g A1 2 * A2) (MWh g A1 4 * A2)) 6 1 = MWh g A1 1 * A2 := by
        show up (up (up (cpH g A1) 169 6 (MWh g A1 1 * A2)) 170 6 (MWh g A1 2 * A2)) 172 6 (MWh g A1 4 * A2) 169 6 = _
        rw [up_i (by decide), up_i (by decide), up_s]
      have V2 : MWh (wmH (cpH g A1) (MWh g A1 1 * A2) (MWh g A1 2 * A2) (MWh g A1 4 * A2)) 6 2 = MWh g A1 2 * A2 := by
        show up (up (up (cpH g A1) 169 6 (MWh g A1 1 * A2)) 170 6 (MWh g A1 2 * A2)) 172 6 (MWh g A1 4 * A2) 170 6 = _
        rw [up_i (by decide), up_s]
      have V4 : MWh (wmH (cpH g A1) (MWh g A1 1 * A2) (MWh g A1 2 * A2) (MWh g A1 4 * A2)) 6 4 = MWh g A1 4 * A2 := by
        show up (up (up (cpH g A1) 169 6 (MWh g A1 1 * A2)) 170 6 (MWh g A1 2 * A2)) 172 6 (MWh g A1 4 * A2) 172 6 = _
        rw [up_s]
      obtain ⟨b1, b2, b3w, b4, b5, b6, b9, b10⟩ := wb
      have g1le : MWh g A1 1 * 1 ≤ MWh g A1 1 * A2 := Int.mul_le_mul (Int.le_refl _) (by omega) (by decide) (by omega)
      have g2le : MWh g A1 2 * 1 ≤ MWh g A1 2 * A2 := Int.mul_le_mul (Int.le_refl _) (by omega) (by decide) (by omega)
      have g4le : MWh g A1 4 * 1 ≤ MWh g A1 4 * A2 := Int.mul_le_mul (Int.le_refl _) (by omega) (by decide) (by omega)
      have hU : WBd (MWh (up (cpH g A1) 169 6 (MWh g A1 1 * A2)) 6) := by
        unfold WBd
        rw [U1, uu 2 (by decide) (by decide) (by decide), uu 3 (by decide) (by decide) (by decide), uu 4 (by decide) (by decide) (by decide), uu 5 (by decide) (by decide) (by decide), uu 6 (by decide) (by decide) (by decide), uu 9 (by decide) (by decide) (by decide), uu 10 (by decide) (by decide) (by decide)]
        exact ⟨⟨by omega, m1⟩, b2, b3w, b4, b5, b6, b9, b10⟩
      have hV : WBd (MWh (wmH (cpH g A1) (MWh g A1 1 * A2) (MWh g A1 2 * A2) (MWh g A1 4 * A2)) 6) := by
        unfold WBd
        rw [V1, V2, V4, vv 3 (by decide) (by decide) (by decide) (by decide) (by decide), vv 5 (by decide) (by decide) (by decide) (by decide) (by decide), vv 6 (by decide) (by decide) (by decide) (by decide) (by decide), vv 9 (by decide) (by decide) (by decide) (by decide) (by decide), vv 10 (by decide) (by decide) (by decide) (by decide) (by decide)]
        exact ⟨⟨by omega, m1⟩, ⟨by omega, m2⟩, b3w, ⟨by omega, m4⟩, b5, b6, b9, b10⟩
      refine ⟨kx, f_57 (d := D) hr hx.1 yy wh (MWh (up (cpH g A1) 169 6 (MWh g A1 1 * A2)) 6) (MWh (wmH (cpH g A1) (MWh g A1 1 * A2) (MWh g A1 2 * A2) (MWh g A1 4 * A2)) 6) ?_ U1 (uu 2 (by decide) (by decide) (by decide)) (uu 3 (by decide) (by decide) (by decide)) (uu 4 (by decide) (by decide) (by decide)) (uu 5 (by decide) (by decide) (by decide)) (uu 6 (by decide) (by decide) (by decide)) (uu 9 (by decide) (by decide) (by decide)) (uu 10 (by decide) (by decide) (by decide)) hU ?_ V1 V2 (vv 3 (by decide) (by decide) (by decide) (by decide) (by decide)) V4 (vv 5 (by decide) (by decide) (by decide) (by decide) (by decide)) (vv 6 (by decide) (by decide) (by decide) (by decide) (by decide)) (vv 9 (by decide) (by decide) (by decide) (by decide) (by decide)) (vv 10 (by decide) (by decide) (by decide) (by decide) (by decide)) hV (fun g1 sx wh1 b31 => ⟨k0, ?_⟩)⟩
      · rw [uu 0 (by decide) (by decide) (by decide)]; exact w0
      · rw [vv 0 (by decide) (by decide) (by decide) (by decide) (by decide)]; exact w0
      have b3' : 0 ≤ A2 * A2 * A2 ∧ A2 * A2 * A2 ≤ 1000 ∧ 0 ≤ A2 * A2 ∧ A2 * A2 ≤ 100 := by
        have e : A2 = 2 ∨ A2 = 3 ∨ A2 = 4 ∨ A2 = 5 ∨ A2 = 6 ∨ A2 = 7 ∨ A2 = 8 ∨ A2 = 9 ∨ A2 = 10 := by omega
        rcases e with e | e | e | e | e | e | e | e | e <;> rw [e] <;> decide
      have pb : 0 ≤ A2 * A2 * A2 * A3 := Int.mul_nonneg b3'.1 a3.1
      have pc : A2 * A2 * A2 * A3 ≤ 1000 * 99999 := Int.mul_le_mul b3'.2.1 a3.2 a3.1 (by decide)
      rw [wr_id (x := A2 * A2) ⟨by omega, by omega⟩, wr_id (x := A2 * A2 * A2) ⟨by omega, by omega⟩, wr_id (x := A2 * A2 * A2 * A3) ⟨by omega, by omega⟩]
      have q7 : g1 (r 6 A1 + 1) 7 = MWh g A1 9 := (sx _ 7 (by omega)).trans x7
      have last : ∀ v6, v6 = (if 99999 < A2 * A2 * A2 * A3 then 99999 else A2 * A2 * A2 * A3) → okr 218 (r 6 A1 + 1) 7 ∧ okr 218 (r 0 3) 7 ∧ Ce sc (D + 6) 59 [(2, r 0 3), (0, v6), (0, g1 (r 6 A1 + 1) 7), (0, 0)] g1 r (fun v7 g7 r7 => Ce sc (D + 7) 191 [(2, 165), (0, A1), (0, A2), (0, A3), (0, A4)] g7 r7 fun v2 g2 r2 => v7 = v2 ∧ J5 g2 r2) := by
        intro v6 e6
        have vb : 0 ≤ v6 ∧ v6 ≤ 99999 := by rw [e6]; split <;> omega
        rw [r_0_3 hr, q7]
        refine ⟨hx.1, kx, fw_59 (d := D + 2) (x := 18) (wxo_18 hr) wh1 b31 hV vb.1 vb.2 b9.1 b9.2 (Or.inl ⟨by decide, by decide⟩) (fun g2 bu2 b32 => ?_)⟩
        have sx2 := sx.bu bu2
        have j2 := hJ.sx sx2
        have hi2 : ∀ i j, 165 ≤ i → g2 i j = g i j := fun i j z => sx2 i j (by omega)
        have eW : MWh (wmH (cpH g2 A1) (MWh g A1 1 * A2) (MWh g A1 2 * A2) (MWh g A1 4 * A2)) 6 = MWh (wmH (cpH g A1) (MWh g A1 1 * A2) (MWh g A1 2 * A2) (MWh g A1 4 * A2)) 6 := mwh_e (fun j j0 j1 => by
          have cc : ∀ i, 165 ≤ i → cpH g2 A1 i 6 = cpH g A1 i 6 := fun i z => by
            unfold cpH
            rw [hi2 i A1 z, hi2 i 6 z]
          unfold wmH
          by_cases y1 : (168 : Int) + j = 172
          · rw [y1, up_s, up_s]
          · rw [up_i y1, up_i y1]
            by_cases y2 : (168 : Int) + j = 170
            · rw [y2, up_s, up_s]
            · rw [up_i y2, up_i y2]
              by_cases y3 : (168 : Int) + j = 169
              · rw [y3, up_s, up_s]
              · rw [up_i y3, up_i y3]; exact cc _ (by omega))
        refine mod g2 _ hi2 (fun z => absurd z z0) (fun _ => ?_)
        rw [← e6]
        refine f_176 (d := D + 1) hr (by decide) (by decide) (by rw [eW]; exact hV) vb.1 vb.2 b9.1 b9.2 (by decide) (by decide) ⟨by rw [eW], ?_⟩
        -- what the model writes is the seventh mill alone
        refine j2.me ⟨fun i j z => ?_, fun mb => ?_⟩
        · unfold wmH
          have n : ∀ q, 169 ≤ q → q ≤ 172 → ¬ (i = q ∧ j = 6) := fun q q0 q1 y => by unfold MV at z; omega
          rw [up_o (n 172 (by decide) (by decide)), up_o (n 170 (by decide) (by decide)), up_o (n 169 (by decide) (by decide))]
          unfold cpH
          rw [if_neg (fun y => by unfold MV at z; omega)]
        · have o : ∀ i j, ¬ (168 ≤ i ∧ i ≤ 178) → wmH (cpH g2 A1) (MWh g A1 1 * A2) (MWh g A1 2 * A2) (MWh g A1 4 * A2) i j = g2 i j := fun i j z => by
            unfold wmH
            rw [up_i (by omega), up_i (by omega), up_i (by omega)]
            unfold cpH
            rw [if_neg (fun y => z ⟨y.1, y.2.1⟩)]
          obtain ⟨q1, q2, q3, q4, q5⟩ := mb
          refine ⟨fun k => ?_, fun k => by rw [o 198 k (by omega)]; exact q2 k, fun k => by rw [o 204 k (by omega)]; exact q3 k, fun s s0 s1 => by rw [o 197 s (by omega)]; exact q4 s s0 s1, fun k => by rw [o 207 k (by omega)]; exact q5 k⟩
          unfold wmH
          rw [up_i (by decide), up_i (by decide), up_i (by decide)]
          unfold cpH
          split
          · exact q1 A1
          · exact q1 k
      refine w_250 (fun z => ?_) (fun z => ?_)
      · by_cases y : 99999 < A2 * A2 * A2 * A3
        · exact last 99999 (by rw [if_pos y])
        · exact last 99999 (by rw [if_neg y]; omega)
      · exact last _ (by rw [if_neg (by omega)])
  · -- refused on both sides
    have mno : Ce sc (D + 7) 191 [(2, 165), (0, A1), (0, A2), (0, A3), (0, A4)] g r (fun v2 g2 r2 => -1 = v2 ∧ J5 g2 r2) := by
      refine c_191 ⟨k9, w_179 hr (fun t o0 => ?_) (fun _ => by rw [if_pos rfl]; exact ⟨rfl, hJ⟩)⟩
      rw [if_neg (by decide)]
      obtain ⟨hx, wh, wb, b3⟩ := t5_of hJ t
      have t6 := t.2.1
      refine w_137 (fun q1 q2 => ?_) (fun _ => by rw [if_pos rfl]; exact ⟨rfl, hJ⟩)
      have y1 : g 169 A1 = MWh g A1 1 := rfl
      have y2 : g 170 A1 = MWh g A1 2 := rfl
      have y4 : g 172 A1 = MWh g A1 4 := rfl
      have n1 : 0 ≤ MWh g A1 1 * A2 ∧ MWh g A1 1 * A2 ≤ 40 * 10 := ⟨Int.mul_nonneg (by have := wb.1; omega) (by omega), Int.mul_le_mul (by have := wb.1; omega) q2 (by omega) (by decide)⟩
      have n2 : 0 ≤ MWh g A1 2 * A2 ∧ MWh g A1 2 * A2 ≤ 20 * 10 := ⟨Int.mul_nonneg (by have := wb.2.1; omega) (by omega), Int.mul_le_mul (by have := wb.2.1; omega) q2 (by omega) (by decide)⟩
      have n4 : 0 ≤ MWh g A1 4 * A2 ∧ MWh g A1 4 * A2 ≤ 24 * 10 := ⟨Int.mul_nonneg (by have := wb.2.2.2.1; omega) (by omega), Int.mul_le_mul (by have := wb.2.2.2.1; omega) q2 (by omega) (by decide)⟩
      rw [if_neg (by decide), r_165_3 hr, r_165_4 hr, r_165_6 hr, y1, y2, y4, wr_id (x := MWh g A1 1 * A2) ⟨by omega, by omega⟩, wr_id (x := MWh g A1 2 * A2) ⟨by omega, by omega⟩, wr_id (x := MWh g A1 4 * A2) ⟨by omega, by omega⟩]
      refine ⟨k9, i_169.mpr ⟨t.1, by omega⟩, ite_c (fun z => ⟨rfl, hJ⟩) (fun m1 => ⟨k9, i_170.mpr ⟨t.1, by omega⟩, ite_c (fun z => ⟨rfl, hJ⟩) (fun m2 => ⟨k9, i_172.mpr ⟨t.1, by omega⟩, ite_c (fun z => ⟨rfl, hJ⟩) (fun m4 => w_178 (fun q3 q4 => ?_) (fun _ => by rw [if_pos rfl]; exact ⟨rfl, hJ⟩))⟩)⟩)⟩
      rw [if_neg (by decide)]
      exact w_137 (fun q5 q6 => absurd ⟨⟨⟨t, o0⟩, ⟨q1, q2⟩, ⟨q3, q4⟩, q5, q6⟩, by omega, by omega, by omega⟩ P) (fun _ => by rw [if_pos rfl]; exact ⟨rfl, hJ⟩)
    refine c_79 ⟨k0, w_130 hr (fun td t0 => ?_) (fun _ => by rw [if_pos rfl]; exact mno)⟩
    have t := tt.mp td
    have o0 : g 168 A1 ≠ 0 := by rw [← ov t]; exact t0
    have hm := hr.2.1 A1 t.1 t.2.1
    obtain ⟨hx, wh, wb, b3⟩ := t5_of hJ t
    have x1 : g (r 6 A1 + 1) 1 = MWh g A1 1 := wh.2.1
    have x2 : g (r 6 A1 + 1) 2 = MWh g A1 2 := wh.2.2.1
    have x4 : g (r 6 A1 + 1) 4 = MWh g A1 4 := wh.2.2.2.2.1
    rw [if_neg (show ¬ r 6 A1 + 1 = -1 by unfold MO at hm; omega)]
    refine w_123 (fun q1 q2 => ?_) (fun _ => by rw [if_pos rfl]; exact mno)
    rw [if_neg (by decide)]
    refine w_124 (fun q3 q4 => ?_) (fun _ => by rw [if_pos rfl]; exact mno)
    rw [if_neg (by decide)]
    refine w_123 (fun q5 q6 => ?_) (fun _ => by rw [if_pos rfl]; exact mno)
    have n1 : 0 ≤ MWh g A1 1 * A2 ∧ MWh g A1 1 * A2 ≤ 40 * 10 := ⟨Int.mul_nonneg (by have := wb.1; omega) (by omega), Int.mul_le_mul (by have := wb.1; omega) q2 (by omega) (by decide)⟩
    have n2 : 0 ≤ MWh g A1 2 * A2 ∧ MWh g A1 2 * A2 ≤ 20 * 10 := ⟨Int.mul_nonneg (by have := wb.2.1; omega) (by omega), Int.mul_le_mul (by have := wb.2.1; omega) q2 (by omega) (by decide)⟩
    have n4 : 0 ≤ MWh g A1 4 * A2 ∧ MWh g A1 4 * A2 ≤ 24 * 10 := ⟨Int.mul_nonneg (by have := wb.2.2.2.1; omega) (by omega), Int.mul_le_mul (by have := wb.2.2.2.1; omega) q2 (by omega) (by decide)⟩
    rw [if_neg (by decide), x1, x2, x4, wr_id (x := MWh g A1 1 * A2) ⟨by omega, by omega⟩, wr_id (x := MWh g A1 2 * A2) ⟨by omega, by omega⟩, wr_id (x := MWh g A1 4 * A2) ⟨by omega, by omega⟩]
    exact ⟨hx.1, ite_c (fun _ => mno) (fun m1 => ⟨hx.1, ite_c (fun _ => mno) (fun m2 => ⟨hx.1, ite_c (fun _ => mno) (fun m4 => absurd ⟨⟨⟨t, o0⟩, ⟨q1, q2⟩, ⟨q3, q4⟩, q5, q6⟩, by omega, by omega, by omega⟩ P)⟩)⟩)⟩
end VL9
