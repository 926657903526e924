/-! heaps that are written; the feed of the class (general) -/
section FRA
variable {sc : SCR} {d : Nat} {Q : QJ} {g r : GH} {l0 l1 l2 l3 l4 l5 : Int}
theorem up_s {f : GH} {i j v : Int} : up f i j v i j = v := if_pos ⟨rfl, rfl⟩
theorem up_i {f : GH} {i j v a b : Int} (h : a ≠ i) : up f i j v a b = f a b := if_neg fun q => h q.1
theorem up_j {f : GH} {i j v a b : Int} (h : b ≠ j) : up f i j v a b = f a b := if_neg fun q => h q.2
def ap1 (g : GH) (t v s : Int) : GH := up (up g 2 t (i_and (i_shr v s) 255)) 1 1 (t + 1)
def ap4 (g : GH) (t v : Int) : GH := ap1 (ap1 (ap1 (ap1 g t v 24) (t + 1) v 16) (t + 1 + 1) v 8) (t + 1 + 1 + 1) v 0
theorem ap1_1 {g : GH} {t v s : Int} : ap1 g t v s 1 1 = t + 1 := up_s
theorem ap1_o {g : GH} {t v s i j : Int} (h1 : i ≠ 1) (h2 : i ≠ 2) : ap1 g t v s i j = g i j := by unfold ap1; rw [up_i h1, up_i h2]
theorem ap4_o {g : GH} {t v i j : Int} (h1 : i ≠ 1) (h2 : i ≠ 2) : ap4 g t v i j = g i j := by unfold ap4; rw [ap1_o h1 h2, ap1_o h1 h2, ap1_o h1 h2, ap1_o h1 h2]
theorem ap4_1 {g : GH} {t v : Int} : ap4 g t v 1 1 = t + 4 := by unfold ap4; rw [ap1_1]; omega
theorem w_31s (hr : RI r) {t v s : Int} (h1 : g 1 1 = t) (h0 : 0 ≤ t) (h7 : t < 700) (hs : 0 ≤ s) (h : WQ sc d 31 Q 3 [(2, 1), (0, v), (0, wr (s + (-8)))] [] (ap1 g t v s) r) : WQ sc d 31 Q 3 [(2, 1), (0, v), (0, s)] [] g r := by
  refine b_31_3 ?_
  rw [if_neg (by omega), h1, if_pos h7, r_1_0 hr]
  refine ⟨okd (by decide +kernel), okd (by decide +kernel), okd (by decide +kernel), i_2.mpr ⟨h0, h7⟩, fun g1 e1 => ⟨okd (by decide +kernel), okd (by decide +kernel), fun g2 e2 => ?_⟩⟩
  have z : g1 1 1 = t := by rw [e1, up_i (by decide)]; exact h1
  rw [z, wr_id (x := t + 1) ⟨by omega, by omega⟩, e1] at e2
  rw [e2]
  exact h
theorem w_31 (hr : RI r) {t v : Int} (h1 : g 1 1 = t) (h0 : 0 ≤ t) (h7 : t + 4 ≤ 700) (h : Q 0 (ap4 g t v) r) : Ce sc (d + 1) 31 [(2, 1), (0, v)] g r Q := by
  refine c_31 (w_31s hr h1 h0 (by omega) (by decide) ?_)
  rw [show wr (24 + -8) = 16 by decide]
  refine w_31s hr ap1_1 (by omega) (by omega) (by decide) ?_
  rw [show wr (16 + -8) = 8 by decide]
  refine w_31s hr ap1_1 (by omega) (by omega) (by decide) ?_
  rw [show wr (8 + -8) = 0 by decide]
  refine w_31s hr ap1_1 (by omega) (by omega) (by decide) ?_
  rw [show wr (0 + -8) = -8 by decide]
  refine b_31_3 ?_
  rw [if_pos (by decide)]
  exact h
def ap20 (g : GH) (t a b c d e : Int) : GH := ap4 (ap4 (ap4 (ap4 (ap4 g t a) (t + 4) b) (t + 4 + 4) c) (t + 4 + 4 + 4) d) (t + 4 + 4 + 4 + 4) e
theorem w_66 (hr : RI r) {t : Int} (h1 : g 1 1 = t) (h0 : 0 ≤ t) (h9 : t ≤ 700) (hy : t + 20 ≤ 700 → Q (t + 20) (ap20 g t l1 l2 l3 l4 l5) r) (hn : ¬ t + 20 ≤ 700 → Q (-1) g r) : Ce sc (d + 2) 66 [(2, 0), (0, l1), (0, l2), (0, l3), (0, l4), (0, l5)] g r Q := by
  refine c_66 ?_
  rw [r_0_0 hr, h1, wr_id (x := t + 20) ⟨by omega, by omega⟩]
  refine ⟨okd (by decide +kernel), okd (by decide +kernel), ?_⟩
  split
  · exact hn (by omega)
  · have h7 : t + 20 ≤ 700 := by omega
    refine ⟨okd (by decide +kernel), okd (by decide +kernel), w_31 hr h1 h0 (by omega) ?_⟩
    rw [r_0_0 hr]
    refine ⟨okd (by decide +kernel), okd (by decide +kernel), w_31 hr ap4_1 (by omega) (by omega) ?_⟩
    rw [r_0_0 hr]
    refine ⟨okd (by decide +kernel), okd (by decide +kernel), w_31 hr ap4_1 (by omega) (by omega) ?_⟩
    rw [r_0_0 hr]
    refine ⟨okd (by decide +kernel), okd (by decide +kernel), w_31 hr ap4_1 (by omega) (by omega) ?_⟩
    rw [r_0_0 hr]
    refine ⟨okd (by decide +kernel), okd (by decide +kernel), w_31 hr ap4_1 (by omega) (by omega) ?_⟩
    rw [r_0_0 hr, ap4_1]
    refine ⟨okd (by decide +kernel), okd (by decide +kernel), ?_⟩
    have e : t + 4 + 4 + 4 + 4 + 4 = t + 20 := by omega
    rw [e]
    exact hy h7
theorem ib_ib (x : Int) : i_b (i_b x) = i_b x := by
  unfold i_b
  rw [Int32.ofInt_toInt, Int8.toInt8_toInt32]
theorem up_id {f : GH} {i j v : Int} (h : f i j = v) : up f i j v = f := by
  funext a b
  unfold up
  split
  · rename_i q; rw [q.1, q.2, h]
  · rfl
end FRA
