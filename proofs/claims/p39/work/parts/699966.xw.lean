/-! the numbers of a wheel that was read stay in their bounds -/
def W4 (ph : Nat) (m : GH) : Prop := (4 ≤ ph → 2 ≤ m 0 1 ∧ m 0 1 ≤ 40) ∧ (6 ≤ ph → 1 ≤ m 0 2 ∧ m 0 2 ≤ 20) ∧ (8 ≤ ph → 4 ≤ m 0 3 ∧ m 0 3 ≤ 80) ∧ (10 ≤ ph → 1 ≤ m 0 4 ∧ m 0 4 ≤ 24)
def W6 (m : GH) : Prop := (0 ≤ m 0 5 ∧ m 0 5 ≤ 9) ∧ (0 ≤ m 0 6 ∧ m 0 6 ≤ 90) ∧ (1 ≤ m 0 7 ∧ m 0 7 ≤ 9999) ∧ (0 ≤ m 0 8 ∧ m 0 8 ≤ 100) ∧ (1 ≤ m 0 9 ∧ m 0 9 ≤ 300) ∧ (0 ≤ m 0 10 ∧ m 0 10 ≤ 9999)
def XW (x : XS) : Prop := x.1 ≠ 91 → W4 x.1 x.2.2.1 ∧ W6 x.2.2.1
theorem w46_of {ph ph' : Nat} {m m' : GH} (h : W4 ph m ∧ W6 m) (e : ∀ k, 1 ≤ k → k ≤ 10 → m' 0 k = m 0 k) (p : (4 ≤ ph' → 4 ≤ ph) ∧ (6 ≤ ph' → 6 ≤ ph) ∧ (8 ≤ ph' → 8 ≤ ph) ∧ (10 ≤ ph' → 10 ≤ ph)) : W4 ph' m' ∧ W6 m' := by
  obtain ⟨⟨a1, a2, a3, a4⟩, b⟩ := h
  unfold W4 W6 at *
  rw [e 1 (by decide) (by decide), e 2 (by decide) (by decide), e 3 (by decide) (by decide), e 4 (by decide) (by decide), e 5 (by decide) (by decide), e 6 (by decide) (by decide), e 7 (by decide) (by decide), e 8 (by decide) (by decide), e 9 (by decide) (by decide), e 10 (by decide) (by decide)]
  exact ⟨⟨fun q => a1 (p.1 q), fun q => a2 (p.2.1 q), fun q => a3 (p.2.2.1 q), fun q => a4 (p.2.2.2 q)⟩, b⟩
theorem w46_up {ph ph' : Nat} {m : GH} {j v : Int} (h : W4 ph m ∧ W6 m) (p1 : 4 ≤ ph' → (j = 1 ∧ 2 ≤ v ∧ v ≤ 40) ∨ (j ≠ 1 ∧ 4 ≤ ph)) (p2 : 6 ≤ ph' → (j = 2 ∧ 1 ≤ v ∧ v ≤ 20) ∨ (j ≠ 2 ∧ 6 ≤ ph)) (p3 : 8 ≤ ph' → (j = 3 ∧ 4 ≤ v ∧ v ≤ 80) ∨ (j ≠ 3 ∧ 8 ≤ ph)) (p4 : 10 ≤ ph' → (j = 4 ∧ 1 ≤ v ∧ v ≤ 24) ∨ (j ≠ 4 ∧ 10 ≤ ph)) (p5 : (j = 5 → 0 ≤ v ∧ v ≤ 9) ∧ (j = 6 → 0 ≤ v ∧ v ≤ 90) ∧ (j = 7 → 1 ≤ v ∧ v ≤ 9999) ∧ (j = 8 → 0 ≤ v ∧ v ≤ 100) ∧ (j = 9 → 1 ≤ v ∧ v ≤ 300) ∧ (j = 10 → 0 ≤ v ∧ v ≤ 9999)) : W4 ph' (up m 0 j v) ∧ W6 (up m 0 j v) := by
  obtain ⟨⟨a1, a2, a3, a4⟩, b1, b2, b3, b4, b5, b6⟩ := h
  have s : up m 0 j v 0 j = v := up_s
  have o : ∀ k, k ≠ j → up m 0 j v 0 k = m 0 k := fun k hk => up_j hk
  have one : ∀ (k lo hi : Int), (k = j → lo ≤ v ∧ v ≤ hi) → (k ≠ j → lo ≤ m 0 k ∧ m 0 k ≤ hi) → lo ≤ up m 0 j v 0 k ∧ up m 0 j v 0 k ≤ hi := fun k lo hi x y => by
    by_cases z : k = j
    · rw [z, s]; exact x z
    · rw [o k z]; exact y z
  refine ⟨⟨fun q => ?_, fun q => ?_, fun q => ?_, fun q => ?_⟩, ?_, ?_, ?_, ?_, ?_, ?_⟩
  · have := p1 q
    exact one 1 2 40 (fun z => by omega) (fun z => a1 (by omega))
  · have := p2 q
    exact one 2 1 20 (fun z => by omega) (fun z => a2 (by omega))
  · have := p3 q
    exact one 3 4 80 (fun z => by omega) (fun z => a3 (by omega))
  · have := p4 q
    exact one 4 1 24 (fun z => by omega) (fun z => a4 (by omega))
  · exact one 5 0 9 (fun z => p5.1 z.symm) (fun _ => b1)
  · exact one 6 0 90 (fun z => p5.2.1 z.symm) (fun _ => b2)
  · exact one 7 1 9999 (fun z => p5.2.2.1 z.symm) (fun _ => b3)
  · exact one 8 0 100 (fun z => p5.2.2.2.1 z.symm) (fun _ => b4)
  · exact one 9 1 300 (fun z => p5.2.2.2.2.1 z.symm) (fun _ => b5)
  · exact one 10 0 9999 (fun z => p5.2.2.2.2.2 z.symm) (fun _ => b6)
theorem xw_xp {T : Int → Int} {n s : Int} {ph : Nat} {m : GH} {st : List (Int × Int)} (h : XW (ph, s, m, st)) : XW (xp T n ph s m st) := by
  by_cases p91 : ph = 91
  · subst p91
    exact h
  have hh : W4 ph m ∧ W6 m := h p91
  have bad : ∀ (s' : Int) (m' : GH) (st' : List (Int × Int)), XW (91, s', m', st') := fun _ _ _ a => absurd rfl a
  have same : ∀ (ph' : Nat) (s' : Int) (st' : List (Int × Int)), (4 ≤ ph' → 4 ≤ ph) ∧ (6 ≤ ph' → 6 ≤ ph) ∧ (8 ≤ ph' → 8 ≤ ph) ∧ (10 ≤ ph' → 10 ≤ ph) → XW (ph', s', m, st') := fun ph' s' st' p _ => w46_of hh (fun _ _ _ => rfl) p
  have pt : ∀ (ph' : Nat) (s' : Int) (c : Int) (st' : List (Int × Int)), 10 ≤ ph → XW (ph', s', put m c, st') := fun ph' s' c st' p _ => w46_of hh (fun k k1 k2 => put_0 (by omega)) ⟨fun _ => by omega, fun _ => by omega, fun _ => by omega, fun _ => p⟩
  unfold xp
  repeat' split
  all_goals first
    | exact bad _ _ _
    | exact same _ _ _ (by omega)
    | exact pt _ _ _ _ (by omega)
    | (have hn := isN_t.mp (by assumption : isN _ _ _ _ _ = true); exact fun _ => w46_up hh (by omega) (by omega) (by omega) (by omega) (by omega))
    | exact fun _ => w46_up hh (by omega) (by omega) (by omega) (by omega) (by omega)
    | exact fun _ => w46_of hh (fun k k1 k2 => by rw [up_j (by omega), up_i (by decide), up_i (by decide)]) (by omega)
theorem XW.r {T : Int → Int} {n : Int} {x y : XS} (h : XW x) (r : Rch T n x y) : XW y := by
  obtain ⟨k, rfl⟩ := r
  induction k generalizing x with
  | zero => exact h
  | succ k ih => exact ih (xw_xp h)
theorem xw_0 {s : Int} {m : GH} (i : I0 m) : XW (0, s, m, []) := fun _ => by
  obtain ⟨a5, a6, a7, a8, a9, a10, _⟩ := i
  refine ⟨⟨fun q => absurd q (show ¬ 4 ≤ 0 by decide), fun q => absurd q (show ¬ 6 ≤ 0 by decide), fun q => absurd q (show ¬ 8 ≤ 0 by decide), fun q => absurd q (show ¬ 10 ≤ 0 by decide)⟩, ?_⟩
  show W6 m
  unfold W6
  rw [a5, a6, a7, a8, a9, a10]
  decide
