/-! the class's reading of a condition does what the reading machine does -/
/-- what the reading of statements may write -/
def RF (M : Int) (g g' : GH) : Prop := ∀ i j, ¬ (i = 1 ∧ 6 ≤ j ∧ j ≤ 10) → i ≠ M → i ≠ M + 1 → ¬ (M + 6 ≤ i ∧ i ≤ M + 9) → g' i j = g i j
theorem RF.rf (M : Int) (g : GH) : RF M g g := fun _ _ _ _ _ _ => rfl
theorem RF.tr {M : Int} {a b c : GH} (h1 : RF M a b) (h2 : RF M b c) : RF M a c := fun i j p q s t => (h2 i j p q s t).trans (h1 i j p q s t)
theorem CF.fr {M : Int} {a b : GH} (h : CF a b) : RF M a b := fun i j p _ _ _ => h i j p
theorem RF.u {M : Int} {a b : GH} {i j v : Int} (h : RF M a b) (hi : i = M ∨ i = M + 1 ∨ (M + 6 ≤ i ∧ i ≤ M + 9)) : RF M a (up b i j v) := fun p q a1 a2 a3 a4 => by
  rw [up_o (by omega)]; exact h p q a1 a2 a3 a4
/-- the class stands where the machine stands -/
def KS (M : Int) (T : Int → Int) (n : Int) (g : GH) (x : XS) : Prop := XI T n x ∧ RD T n g x.2.1 ∧ MC M g x.2.2.1
theorem MC.cf {M : Int} {g g' m : GH} (hM : MO M) (h : MC M g m) (c : CF g g') : MC M g' m := h.eq (fun i j hi => c i j (by unfold MO at hM; omega))
theorem RD.up {M : Int} {T : Int → Int} {n s : Int} {g : GH} {i j v : Int} (hM : MO M) (h : RD T n g s) (hi : M ≤ i) : RD T n (up g i j v) s := h.eq (fun p q hp => up_o (by unfold MO at hM; omega))
/-- the next word, sign or number is passed -/
theorem KS.mv {M : Int} {T : Int → Int} {n s s' : Int} {g g' m m' : GH} {ph ph' : Nat} {st st' : List (Int × Int)} (hM : MO M) (h : KS M T n g (ph, s, m, st)) (e : xp T n ph s m st = (ph', s', m', st')) (c : CF g g') (rd : RD T n g' s') (mc : MC M g m → MC M g m') : KS M T n g' (ph', s', m', st') :=
  ⟨by rw [← e]; exact xi_xp h.1, rd, (mc h.2.2).cf hM c⟩
theorem KS.go {M : Int} {T : Int → Int} {n s : Int} {g m m' : GH} {ph ph' : Nat} {st st' : List (Int × Int)} (h : KS M T n g (ph, s, m, st)) (e : xp T n ph s m st = (ph', s, m', st')) (mc : MC M g m → MC M g m') : KS M T n g (ph', s, m', st') :=
  ⟨by rw [← e]; exact xi_xp h.1, h.2.1, mc h.2.2⟩
def KV (m : GH) (v : Int × Int) : Prop := m 0 16 = v.1 ∧ m 0 12 = v.2
theorem KV.up {m : GH} {v : Int × Int} {j x : Int} (h : KV m v) (hj : j = 14 ∨ j = 15) : KV (up m 0 j x) v := ⟨(up_j (by omega)).trans h.1, (up_j (by omega)).trans h.2⟩
theorem KV.pt {m : GH} {v : Int × Int} {c : Int} (h : KV m v) : KV (put m c) v := ⟨(put_0 (by decide)).trans h.1, (put_0 (by decide)).trans h.2⟩
def A1 (M : Int) (T : Int → Int) (n : Int) (g r : GH) (x : XS) (ph : Nat) (st : List (Int × Int)) (v : Int × Int) (P : Int → Prop) (Q : QJ) : Prop := ∀ g' s' m', RF M g g' → Rch T n x (ph, s', m', st) → KS M T n g' (ph, s', m', st) → KV m' v → P s' → Q 1 g' r
def A0 (M : Int) (T : Int → Int) (n : Int) (g r : GH) (x : XS) (Q : QJ) : Prop := ∀ g' s' m' st', RF M g g' → Rch T n x (91, s', m', st') → RD T n g' s' → Q 0 g' r
section CCO
variable {sc : SCR} {d : Nat} {Q : QJ} {g r : GH} {l0 l1 l2 l3 l4 l5 n s M : Int} {T : Int → Int} {m : GH} {st : List (Int × Int)} {ph : Nat}
theorem mo_u (hM : MO M) : okr 218 (M + 6) 6 := by
  rcases hM with rfl | rfl | rfl | rfl | rfl | rfl | rfl <;> exact okd (by decide +kernel)
theorem mo_r0 (hr : RI r) (hM : MO M) : r (M + 6) 0 = M + 7 := by
  rcases hM with rfl | rfl | rfl | rfl | rfl | rfl | rfl
  · exact r_13_0 hr
  · exact r_72_0 hr
  · exact r_83_0 hr
  · exact r_94_0 hr
  · exact r_105_0 hr
  · exact r_116_0 hr
  · exact r_127_0 hr
theorem mo_r2 (hr : RI r) (hM : MO M) : r (M + 6) 2 = M + 8 := by
  rcases hM with rfl | rfl | rfl | rfl | rfl | rfl | rfl
  · exact r_13_2 hr
  · exact r_72_2 hr
  · exact r_83_2 hr
  · exact r_94_2 hr
  · exact r_105_2 hr
  · exact r_116_2 hr
  · exact r_127_2 hr
theorem mo_r3 (hr : RI r) (hM : MO M) : r (M + 6) 3 = M + 9 := by
  rcases hM with rfl | rfl | rfl | rfl | rfl | rfl | rfl
  · exact r_13_3 hr
  · exact r_72_3 hr
  · exact r_83_3 hr
  · exact r_94_3 hr
  · exact r_105_3 hr
  · exact r_116_3 hr
  · exact r_127_3 hr
theorem mo_a7 (hM : MO M) : okr 218 (M + 7) 11 ∧ am_ln (M + 7) = 700 := by
  rcases hM with rfl | rfl | rfl | rfl | rfl | rfl | rfl <;> exact ⟨okd (by decide +kernel), by decide +kernel⟩
theorem mo_a8 (hM : MO M) : okr 218 (M + 8) 11 ∧ am_ln (M + 8) = 30 := by
  rcases hM with rfl | rfl | rfl | rfl | rfl | rfl | rfl <;> exact ⟨okd (by decide +kernel), by decide +kernel⟩
theorem mo_a9 (hM : MO M) : okr 218 (M + 9) 11 ∧ am_ln (M + 9) = 30 := by
  rcases hM with rfl | rfl | rfl | rfl | rfl | rfl | rfl <;> exact ⟨okd (by decide +kernel), by decide +kernel⟩
theorem ok_a {x : Int} (h : okr 218 x 11) : 0 ≤ x ∧ x < 218 ∧ 11 ≤ am_sh x ∧ am_sh x ≤ 15 := ⟨h.1, h.2.1, by rw [h.2.2]; decide, by rw [h.2.2]; decide⟩
/-- the codes never fill their row -/
theorem XI.c350 {x : XS} (h : XI T n x) (hn : n ≤ 700) : 0 ≤ x.2.2.1 0 13 ∧ x.2.2.1 0 13 ≤ 350 := by
  have a := h.1.2.1
  have b := h.2.1
  have c := h.2.2.1
  have := pd_b x.2.2.2
  have : 0 ≤ xe x.1 := by unfold xe; split <;> decide
  omega
theorem f_48 (hr : RI r) (hM : MO M) (mc : MC M g m) (b : 0 ≤ m 0 13 ∧ m 0 13 ≤ 350) (h : ∀ g', RF M g g' → (∀ i j, i < M → g' i j = g i j) → MC M g' (put m l1) → Q 1 g' r) : Ce sc (d + 1) 48 [(2, M + 6), (0, l1)] g r Q := by
  have u1 := mo_u hM
  have a7 := mo_a7 hM
  have g1 : g (M + 6) 1 = m 0 13 := by
    obtain ⟨_, _, _, _, _, _, _, _, _, _, _, _, a, _⟩ := mc; exact a
  refine c_48 ⟨u1, u1, ?_⟩
  rw [mo_r0 hr hM, a7.2, g1]
  refine ⟨ok_a a7.1, ?_⟩
  rw [if_pos (show m 0 13 < 700 by omega)]
  refine ⟨u1, u1, ⟨a7.1, by omega, by rw [a7.2]; omega⟩, fun g1' e1 => ⟨u1, u1, fun g2 e2 => ⟨Or.inr rfl, ?_⟩⟩⟩
  have f1 : g1' (M + 6) 1 = m 0 13 := by rw [e1, up_i (by omega)]; exact g1
  rw [f1, wr_id ⟨by omega, by omega⟩] at e2
  refine h g2 ?_ (fun i j hi => ?_) ?_
  · rw [e2, e1]; exact ((RF.rf M g).u (by omega)).u (by omega)
  · rw [e2, up_i (by omega), e1, up_i (by omega)]
  · rw [e2, e1]; exact mc.pt
end CCO
