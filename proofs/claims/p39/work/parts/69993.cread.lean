/-! the class's reading of a wheel and of a statement does what the reading machine does -/
def B1 (M : Int) (T : Int → Int) (n : Int) (g r : GH) (x : XS) (ph : Nat) (v : Int) (Q : QJ) : Prop := ∀ g' s' m', RF M g g' → Rch T n x (ph, s', m', []) → KS M T n g' (ph, s', m', []) → m' 0 12 = v → Q 1 g' r
theorem B1.pre {M : Int} {T : Int → Int} {n : Int} {g g1 r : GH} {x x1 : XS} {ph : Nat} {v : Int} {Q : QJ} (h : B1 M T n g r x ph v Q) (f : RF M g g1) (c : Rch T n x x1) : B1 M T n g1 r x1 ph v Q := fun g' s' m' a b k e => h g' s' m' (f.tr a) (c.tr b) k e
theorem KS.nm {M : Int} {T : Int → Int} {n s s' : Int} {g g1 g2 m m' : GH} {ph ph' : Nat} {st st' : List (Int × Int)} (hM : MO M) (h : KS M T n g (ph, s, m, st)) (e : xp T n ph s m st = (ph', s', m', st')) (c : CF g g1) (rd : RD T n g1 s') (lo : ∀ i j, i < M → g2 i j = g1 i j) (mc : MC M g1 m → MC M g2 m') : KS M T n g2 (ph', s', m', st') :=
  ⟨by rw [← e]; exact xi_xp h.1, rd.eq (fun i j hi => lo i j (by unfold MO at hM; omega)), mc (h.2.2.cf hM c)⟩
theorem tx_v : am_tx 1000000 = wdl 0 ∧ am_tx 1000001 = wdl 1 ∧ am_tx 1000002 = wdl 2 ∧ am_tx 1000003 = wdl 3 ∧ am_tx 1000004 = wdl 4 ∧ am_tx 1000005 = wdl 5 ∧ am_tx 1000006 = wdl 6 ∧ am_tx 1000007 = wdl 7 ∧ am_tx 1000008 = wdl 8 ∧ am_tx 1000009 = wdl 9 ∧ am_tx 1000010 = wdl 10 ∧ am_tx 1000011 = wdl 11 ∧ am_tx 1000012 = wdl 12 ∧ am_tx 1000013 = wdl 13 := ⟨rfl, rfl, rfl, rfl, rfl, rfl, rfl, rfl, rfl, rfl, rfl, rfl, rfl, rfl⟩
theorem ok_v : okT 1000000 ∧ okT 1000001 ∧ okT 1000002 ∧ okT 1000003 ∧ okT 1000004 ∧ okT 1000005 ∧ okT 1000006 ∧ okT 1000007 ∧ okT 1000008 ∧ okT 1000009 ∧ okT 1000010 ∧ okT 1000011 ∧ okT 1000012 ∧ okT 1000013 := by unfold okT; decide
section CRE
variable {sc : SCR} {d : Nat} {Q : QJ} {g r : GH} {l0 l1 l2 l3 l4 l5 n s M vv : Int} {T : Int → Int} {m : GH} {st : List (Int × Int)} {ph : Nat}
theorem mo_w7 (hM : MO M) : okr 218 (M + 1) 7 := mo_w hM
theorem f_41c (hr : RI r) (hM : MO M) (hv : m 0 12 = vv) (k : KS M T n g (12, s, m, [])) (h1 : B1 M T n g r (12, s, m, []) 15 (vv + 1) Q) (h0 : A0 M T n g r (12, s, m, []) Q) : WQ sc (d + 5) 41 Q 173 [(2, 1), (2, M + 1)] [] g r := by
  have k1 : okr 218 1 5 := okd (by decide +kernel)
  have w1 := mo_w7 hM
  have M7 : 7 ≤ M := by unfold MO at hM; omega
  obtain ⟨x0, x1, x2, x3, x4, x5, x6, x7, x8, x9, x10, x11, x12, x13⟩ := tx_v
  obtain ⟨t0, t1, t2, t3, t4, t5, t6, t7, t8, t9, t10, t11, t12, t13⟩ := ok_v
  have rd : RD T n g s := k.2.1
  have fin : ∀ (g : GH) (s : Int) (m : GH), m 0 12 = vv → KS M T n g (14, s, m, []) → B1 M T n g r (14, s, m, []) 15 (vv + 1) Q → A0 M T n g r (14, s, m, []) Q → ∀ D, Ce sc (D + 2) 39 [(2, 1), (0, 59)] g r (fun v2 g2 r2 => (v2 = 0 ∨ v2 = 1) ∧ Q v2 g2 r2) := by
    intro g s m hv k h1 h0 D
    have rd : RD T n g s := k.2.1
    refine f_39 hr rd (fun z g1 c1 rd1 => ⟨Or.inr rfl, ?_⟩) (fun z => ⟨Or.inl rfl, h0.now k ?_⟩)
    · have ex : xp T n 14 s m [] = (15, nx T n s, up m 0 12 (m 0 12 + 1), []) := by
        show (if isS T n s 59 = true then _ else _) = _
        rw [if_pos z]
      exact h1 g1 _ _ c1.fr (Rch.on ex) (k.mv hM ex c1 rd1 (fun q => q.rg (by decide))) (by rw [up_s, hv])
    · show (if isS T n s 59 = true then _ else _) = _
      rw [if_neg z]
  refine b_41_173 ⟨k1, f_38 hr t7 x7 rd (fun z g1 c1 rd1 => ?_) (fun z => ?_)⟩
  · rw [if_neg (by decide)]
    have ex : xp T n 12 s m [] = (13, nx T n s, m, []) := by
      show (if isW T n s (wdl 7) = true then _ else _) = _
      rw [if_pos z]
    have k2 : KS M T n g1 (13, nx T n s, m, []) := k.mv hM ex c1 rd1 id
    have h1 := h1.pre c1.fr (Rch.on ex)
    have h0 := h0.pre c1.fr (Rch.on ex)
    refine ⟨k1, f_40 hr rd1 (fun y g2 c2 rd2 v2 => ?_) (fun y => ?_)⟩
    · rw [if_neg (by decide)]
      refine ⟨k1, w1, fun g3 e3 => ⟨k1, ?_⟩⟩
      rw [v2] at e3
      have ex2 : xp T n 13 (nx T n s) m [] = (14, nx T n (nx T n s), up m 0 6 (nb T n (nx T n s)), []) := by
        show (if isN T n (nx T n s) 0 90 = true then _ else _) = _
        rw [if_pos y]
      have f3 : RF M g1 g3 := by rw [e3]; exact (c2.fr).u (by omega)
      refine fin g3 _ _ ((up_j (by decide)).trans hv) (k2.nm hM ex2 c2 rd2 (fun i j hi => by rw [e3, up_i (by omega)]) (fun q => by rw [e3]; exact q.u6)) (h1.pre f3 (Rch.on ex2)) (h0.pre f3 (Rch.on ex2)) _
    · rw [if_pos rfl]
      refine ⟨Or.inl rfl, h0.now k2 ?_⟩
      show (if isN T n (nx T n s) 0 90 = true then _ else _) = _
      rw [if_neg y]
  · rw [if_pos rfl]
    have ex : xp T n 12 s m [] = (14, s, m, []) := by
      show (if isW T n s (wdl 7) = true then _ else _) = _
      rw [if_neg z]
    exact ⟨k1, fin g _ _ hv (k.go ex id) (h1.pre (RF.rf M g) (Rch.on ex)) (h0.pre (RF.rf M g) (Rch.on ex)) _⟩
theorem f_41b (hr : RI r) (hM : MO M) (hv : m 0 12 = vv) (k : KS M T n g (3, s, m, [])) (h1 : B1 M T n g r (3, s, m, []) 15 (vv + 1) Q) (h0 : A0 M T n g r (3, s, m, []) Q) : WQ sc (d + 5) 41 Q 37 [(2, 1), (2, M + 1)] [] g r := by
  have k1 : okr 218 1 5 := okd (by decide +kernel)
  have w1 := mo_w7 hM
  have M7 : 7 ≤ M := by unfold MO at hM; omega
  obtain ⟨x0, x1, x2, x3, x4, x5, x6, x7, x8, x9, x10, x11, x12, x13⟩ := tx_v
  obtain ⟨t0, t1, t2, t3, t4, t5, t6, t7, t8, t9, t10, t11, t12, t13⟩ := ok_v
  have rd : RD T n g s := k.2.1
  refine b_41_37 ⟨k1, ?_⟩
  refine f_40 hr rd (fun z1 a1 c1 rd1 v1 => ?_) (fun z => ?_)
  rotate_left 1
  · rw [if_pos rfl]
    refine ⟨Or.inl rfl, h0.now k ?_⟩
    show (if isN T n (s) 2 40 = true then _ else _) = _
    rw [if_neg z]
  rw [if_neg (by decide)]
  refine ⟨k1, w1, fun b1 e1 => ⟨k1, ?_⟩⟩
  rw [v1] at e1
  have ex1 : xp T n 3 (s) (m) [] = (4, nx T n (s), up (m) 0 1 (nb T n (s)), []) := by
    show (if isN T n (s) 2 40 = true then _ else _) = _
    rw [if_pos z1]
  have f1 : RF M g b1 := by rw [e1]; exact (c1.fr).u (by omega)
  have k2 : KS M T n b1 (4, nx T n (s), up (m) 0 1 (nb T n (s)), []) := k.nm hM ex1 c1 rd1 (fun i j hi => by rw [e1, up_i (by omega)]) (fun q => by rw [e1]; exact q.u1)
  have h1 := h1.pre f1 (Rch.on ex1)
  have h0 := h0.pre f1 (Rch.on ex1)
  have rdx1 : RD T n b1 (nx T n (s)) := k2.2.1
  refine f_38 hr t3 x3 rdx1 (fun z2 a2 c2 rd2 => ?_) (fun z => ?_)
  rotate_left 1
  · rw [if_pos rfl]
    refine ⟨Or.inl rfl, h0.now k2 ?_⟩
    show (if isW T n (nx T n (s)) (wdl 3) = true then _ else _) = _
    rw [if_neg z]
  rw [if_neg (by decide)]
  have ex2 : xp T n 4 (nx T n (s)) (up (m) 0 1 (nb T n (s))) [] = (5, nx T n (nx T n (s)), up (m) 0 1 (nb T n (s)), []) := by
    show (if isW T n (nx T n (s)) (wdl 3) = true then _ else _) = _
    rw [if_pos z2]
  have k3 : KS M T n a2 (5, nx T n (nx T n (s)), up (m) 0 1 (nb T n (s)), []) := k2.mv hM ex2 c2 rd2 id
  have h1 := h1.pre c2.fr (Rch.on ex2)
  have h0 := h0.pre c2.fr (Rch.on ex2)
  refine ⟨k1, ?_⟩
  refine f_40 hr rd2 (fun z3 a3 c3 rd3 v3 => ?_) (fun z => ?_)
  rotate_left 1
  · rw [if_pos rfl]
    refine ⟨Or.inl rfl, h0.now k3 ?_⟩
    show (if isN T n (nx T n (nx T n (s))) 1 20 = true then _ else _) = _
    rw [if_neg z]
  rw [if_neg (by decide)]
  refine ⟨k1, w1, fun b3 e3 => ⟨k1, ?_⟩⟩
  rw [v3] at e3
  have ex3 : xp T n 5 (nx T n (nx T n (s))) (up (m) 0 1 (nb T n (s))) [] = (6, nx T n (nx T n (nx T n (s))), up (up (m) 0 1 (nb T n (s))) 0 2 (nb T n (nx T n (nx T n (s)))), []) := by
    show (if isN T n (nx T n (nx T n (s))) 1 20 = true then _ else _) = _
    rw [if_pos z3]
  have f3 : RF M a2 b3 := by rw [e3]; exact (c3.fr).u (by omega)
  have k4 : KS M T n b3 (6, nx T n (nx T n (nx T n (s))), up (up (m) 0 1 (nb T n (s))) 0 2 (nb T n (nx T n (nx T n (s)))), []) := k3.nm hM ex3 c3 rd3 (fun i j hi => by rw [e3, up_i (by omega)]) (fun q => by rw [e3]; exact q.u2)
  have h1 := h1.pre f3 (Rch.on ex3)
  have h0 := h0.pre f3 (Rch.on ex3)
  have rdx3 : RD T n b3 (nx T n (nx T n (nx T n (s)))) := k4.2.1
  refine f_38 hr t4 x4 rdx3 (fun z4 a4 c4 rd4 => ?_) (fun z => ?_)
  rotate_left 1
  · rw [if_pos rfl]
    refine ⟨Or.inl rfl, h0.now k4 ?_⟩
    show (if isW T n (nx T n (nx T n (nx T n (s)))) (wdl 4) = true then _ else _) = _
    rw [if_neg z]
  rw [if_neg (by decide)]
  have ex4 : xp T n 6 (nx T n (nx T n (nx T n (s)))) (up (up (m) 0 1 (nb T n (s))) 0 2 (nb T n (nx T n (nx T n (s))))) [] = (7, nx T n (nx T n (nx T n (nx T n (s)))), up (up (m) 0 1 (nb T n (s))) 0 2 (nb T n (nx T n (nx T n (s)))), []) := by
    show (if isW T n (nx T n (nx T n (nx T n (s)))) (wdl 4) = true then _ else _) = _
    rw [if_pos z4]
  have k5 : KS M T n a4 (7, nx T n (nx T n (nx T n (nx T n (s)))), up (up (m) 0 1 (nb T n (s))) 0 2 (nb T n (nx T n (nx T n (s)))), []) := k4.mv hM ex4 c4 rd4 id
  have h1 := h1.pre c4.fr (Rch.on ex4)
  have h0 := h0.pre c4.fr (Rch.on ex4)
  refine ⟨k1, ?_⟩
  refine f_40 hr rd4 (fun z5 a5 c5 rd5 v5 => ?_) (fun z => ?_)
  rotate_left 1
  · rw [if_pos rfl]
    refine ⟨Or.inl rfl, h0.now k5 ?_⟩
    show (if isN T n (nx T n (nx T n (nx T n (nx T n (s))))) 4 80 = true then _ else _) = _
    rw [if_neg z]
  rw [if_neg (by decide)]
  refine ⟨k1, w1, fun b5 e5 => ⟨k1, ?_⟩⟩
  rw [v5] at e5
  have ex5 : xp T n 7 (nx T n (nx T n (nx T n (nx T n (s))))) (up (up (m) 0 1 (nb T n (s))) 0 2 (nb T n (nx T n (nx T n (s))))) [] = (8, nx T n (nx T n (nx T n (nx T n (nx T n (s))))), up (up (up (m) 0 1 (nb T n (s))) 0 2 (nb T n (nx T n (nx T n (s))))) 0 3 (nb T n (nx T n (nx T n (nx T n (nx T n (s)))))), []) := by
    show (if isN T n (nx T n (nx T n (nx T n (nx T n (s))))) 4 80 = true then _ else _) = _
    rw [if_pos z5]
  have f5 : RF M a4 b5 := by rw [e5]; exact (c5.fr).u (by omega)
  have k6 : KS M T n b5 (8, nx T n (nx T n (nx T n (nx T n (nx T n (s))))), up (up (up (m) 0 1 (nb T n (s))) 0 2 (nb T n (nx T n (nx T n (s))))) 0 3 (nb T n (nx T n (nx T n (nx T n (nx T n (s)))))), []) := k5.nm hM ex5 c5 rd5 (fun i j hi => by rw [e5, up_i (by omega)]) (fun q => by rw [e5]; exact q.u3)
  have h1 := h1.pre f5 (Rch.on ex5)
  have h0 := h0.pre f5 (Rch.on ex5)
  have rdx5 : RD T n b5 (nx T n (nx T n (nx T n (nx T n (nx T n (s)))))) := k6.2.1
  refine f_38 hr t5 x5 rdx5 (fun z6 a6 c6 rd6 => ?_) (fun z => ?_)
  rotate_left 1
  · rw [if_pos rfl]
    refine ⟨Or.inl rfl, h0.now k6 ?_⟩
    show (if isW T n (nx T n (nx T n (nx T n (nx T n (nx T n (s)))))) (wdl 5) = true then _ else _) = _
    rw [if_neg z]
  rw [if_neg (by decide)]
  have ex6 : xp T n 8 (nx T n (nx T n (nx T n (nx T n (nx T n (s)))))) (up (up (up (m) 0 1 (nb T n (s))) 0 2 (nb T n (nx T n (nx T n (s))))) 0 3 (nb T n (nx T n (nx T n (nx T n (nx T n (s))))))) [] = (9, nx T n (nx T n (nx T n (nx T n (nx T n (nx T n (s)))))), up (up (up (m) 0 1 (nb T n (s))) 0 2 (nb T n (nx T n (nx T n (s))))) 0 3 (nb T n (nx T n (nx T n (nx T n (nx T n (s)))))), []) := by
    show (if isW T n (nx T n (nx T n (nx T n (nx T n (nx T n (s)))))) (wdl 5) = true then _ else _) = _
    rw [if_pos z6]
  have k7 : KS M T n a6 (9, nx T n (nx T n (nx T n (nx T n (nx T n (nx T n (s)))))), up (up (up (m) 0 1 (nb T n (s))) 0 2 (nb T n (nx T n (nx T n (s))))) 0 3 (nb T n (nx T n (nx T n (nx T n (nx T n (s)))))), []) := k6.mv hM ex6 c6 rd6 id
  have h1 := h1.pre c6.fr (Rch.on ex6)
  have h0 := h0.pre c6.fr (Rch.on ex6)
  refine ⟨k1, ?_⟩
  refine f_40 hr rd6 (fun z7 a7 c7 rd7 v7 => ?_) (fun z => ?_)
  rotate_left 1
  · rw [if_pos rfl]
    refine ⟨Or.inl rfl, h0.now k7 ?_⟩
    show (if isN T n (nx T n (nx T n (nx T n (nx T n (nx T n (nx T n (s))))))) 1 24 = true then _ else _) = _
    rw [if_neg z]
  rw [if_neg (by decide)]
  refine ⟨k1, w1, fun b7 e7 => ⟨k1, ?_⟩⟩
  rw [v7] at e7
  have ex7 : xp T n 9 (nx T n (nx T n (nx T n (nx T n (nx T n (nx T n (s))))))) (up (up (up (m) 0 1 (nb T n (s))) 0 2 (nb T n (nx T n (nx T n (s))))) 0 3 (nb T n (nx T n (nx T n (nx T n (nx T n (s))))))) [] = (10, nx T n (nx T n (nx T n (nx T n (nx T n (nx T n (nx T n (s))))))), up (up (up (up (m) 0 1 (nb T n (s))) 0 2 (nb T n (nx T n (nx T n (s))))) 0 3 (nb T n (nx T n (nx T n (nx T n (nx T n (s))))))) 0 4 (nb T n (nx T n (nx T n (nx T n (nx T n (nx T n (nx T n (s)))))))), []) := by
    show (if isN T n (nx T n (nx T n (nx T n (nx T n (nx T n (nx T n (s))))))) 1 24 = true then _ else _) = _
    rw [if_pos z7]
  have f7 : RF M a6 b7 := by rw [e7]; exact (c7.fr).u (by omega)
  have k8 : KS M T n b7 (10, nx T n (nx T n (nx T n (nx T n (nx T n (nx T n (nx T n (s))))))), up (up (up (up (m) 0 1 (nb T n (s))) 0 2 (nb T n (nx T n (nx T n (s))))) 0 3 (nb T n (nx T n (nx T n (nx T n (nx T n (s))))))) 0 4 (nb T n (nx T n (nx T n (nx T n (nx T n (nx T n (nx T n (s)))))))), []) := k7.nm hM ex7 c7 rd7 (fun i j hi => by rw [e7, up_i (by omega)]) (fun q => by rw [e7]; exact q.u4)
  have h1 := h1.pre f7 (Rch.on ex7)
  have h0 := h0.pre f7 (Rch.on ex7)
  have rdx7 : RD T n b7 (nx T n (nx T n (nx T n (nx T n (nx T n (nx T n (nx T n (s)))))))) := k8.2.1
  refine f_38 hr t6 x6 rdx7 (fun z8 a8 c8 rd8 => ?_) (fun z8 => ?_)
  · rw [if_neg (by decide)]
    have ex8 : xp T n 10 (nx T n (nx T n (nx T n (nx T n (nx T n (nx T n (nx T n (s)))))))) (up (up (up (up (m) 0 1 (nb T n (s))) 0 2 (nb T n (nx T n (nx T n (s))))) 0 3 (nb T n (nx T n (nx T n (nx T n (nx T n (s))))))) 0 4 (nb T n (nx T n (nx T n (nx T n (nx T n (nx T n (nx T n (s))))))))) [] = (11, nx T n (nx T n (nx T n (nx T n (nx T n (nx T n (nx T n (nx T n (s)))))))), up (up (up (up (m) 0 1 (nb T n (s))) 0 2 (nb T n (nx T n (nx T n (s))))) 0 3 (nb T n (nx T n (nx T n (nx T n (nx T n (s))))))) 0 4 (nb T n (nx T n (nx T n (nx T n (nx T n (nx T n (nx T n (s)))))))), []) := by
      show (if isW T n (nx T n (nx T n (nx T n (nx T n (nx T n (nx T n (nx T n (s)))))))) (wdl 6) = true then _ else _) = _
      rw [if_pos z8]
    have k9 : KS M T n a8 (11, nx T n (nx T n (nx T n (nx T n (nx T n (nx T n (nx T n (nx T n (s)))))))), up (up (up (up (m) 0 1 (nb T n (s))) 0 2 (nb T n (nx T n (nx T n (s))))) 0 3 (nb T n (nx T n (nx T n (nx T n (nx T n (s))))))) 0 4 (nb T n (nx T n (nx T n (nx T n (nx T n (nx T n (nx T n (s)))))))), []) := k8.mv hM ex8 c8 rd8 id
    have h1 := h1.pre c8.fr (Rch.on ex8)
    have h0 := h0.pre c8.fr (Rch.on ex8)
    refine ⟨k1, f_40 hr rd8 (fun z9 a9 c9 rd9 v9 => ?_) (fun z => ?_)⟩
    · rw [if_neg (by decide)]
      refine ⟨k1, w1, fun b9 e9 => ?_⟩
      rw [v9] at e9
      have ex9 : xp T n 11 (nx T n (nx T n (nx T n (nx T n (nx T n (nx T n (nx T n (nx T n (s))))))))) (up (up (up (up (m) 0 1 (nb T n (s))) 0 2 (nb T n (nx T n (nx T n (s))))) 0 3 (nb T n (nx T n (nx T n (nx T n (nx T n (s))))))) 0 4 (nb T n (nx T n (nx T n (nx T n (nx T n (nx T n (nx T n (s))))))))) [] = (12, nx T n (nx T n (nx T n (nx T n (nx T n (nx T n (nx T n (nx T n (nx T n (s))))))))), up (up (up (up (up (m) 0 1 (nb T n (s))) 0 2 (nb T n (nx T n (nx T n (s))))) 0 3 (nb T n (nx T n (nx T n (nx T n (nx T n (s))))))) 0 4 (nb T n (nx T n (nx T n (nx T n (nx T n (nx T n (nx T n (s))))))))) 0 5 (nb T n (nx T n (nx T n (nx T n (nx T n (nx T n (nx T n (nx T n (nx T n (s)))))))))), []) := by
        show (if isN T n (nx T n (nx T n (nx T n (nx T n (nx T n (nx T n (nx T n (nx T n (s))))))))) 0 9 = true then _ else _) = _
        rw [if_pos z9]
      have f9 : RF M a8 b9 := by rw [e9]; exact (c9.fr).u (by omega)
      exact f_41c hr hM (by (repeat rw [up_j (by decide)]); exact hv) (k9.nm hM ex9 c9 rd9 (fun i j hi => by rw [e9, up_i (by omega)]) (fun q => by rw [e9]; exact q.u5)) (h1.pre f9 (Rch.on ex9)) (h0.pre f9 (Rch.on ex9))
    · rw [if_pos rfl]
      refine ⟨Or.inl rfl, h0.now k9 ?_⟩
      show (if isN T n (nx T n (nx T n (nx T n (nx T n (nx T n (nx T n (nx T n (nx T n (s))))))))) 0 9 = true then _ else _) = _
      rw [if_neg z]
  · rw [if_pos rfl]
    have ex8 : xp T n 10 (nx T n (nx T n (nx T n (nx T n (nx T n (nx T n (nx T n (s)))))))) (up (up (up (up (m) 0 1 (nb T n (s))) 0 2 (nb T n (nx T n (nx T n (s))))) 0 3 (nb T n (nx T n (nx T n (nx T n (nx T n (s))))))) 0 4 (nb T n (nx T n (nx T n (nx T n (nx T n (nx T n (nx T n (s))))))))) [] = (12, nx T n (nx T n (nx T n (nx T n (nx T n (nx T n (nx T n (s))))))), up (up (up (up (m) 0 1 (nb T n (s))) 0 2 (nb T n (nx T n (nx T n (s))))) 0 3 (nb T n (nx T n (nx T n (nx T n (nx T n (s))))))) 0 4 (nb T n (nx T n (nx T n (nx T n (nx T n (nx T n (nx T n (s)))))))), []) := by
      show (if isW T n (nx T n (nx T n (nx T n (nx T n (nx T n (nx T n (nx T n (s)))))))) (wdl 6) = true then _ else _) = _
      rw [if_neg z8]
    exact f_41c hr hM (by (repeat rw [up_j (by decide)]); exact hv) (k8.go ex8 id) (h1.pre (RF.rf M _) (Rch.on ex8)) (h0.pre (RF.rf M _) (Rch.on ex8))
theorem f_41 (hr : RI r) (hM : MO M) (hv : m 0 12 = vv) (k : KS M T n g (0, s, m, [])) (h1 : B1 M T n g r (0, s, m, []) 15 (vv + 1) Q) (h0 : A0 M T n g r (0, s, m, []) Q) : Ce sc (d + 6) 41 [(2, 1), (2, M + 1)] g r Q := by
  have k1 : okr 218 1 5 := okd (by decide +kernel)
  have w1 := mo_w7 hM
  have M7 : 7 ≤ M := by unfold MO at hM; omega
  obtain ⟨x0, x1, x2, x3, x4, x5, x6, x7, x8, x9, x10, x11, x12, x13⟩ := tx_v
  obtain ⟨t0, t1, t2, t3, t4, t5, t6, t7, t8, t9, t10, t11, t12, t13⟩ := ok_v
  have rd : RD T n g s := k.2.1
  refine c_41 ⟨k1, f_38 hr t0 x0 rd (fun z g1 c1 rd1 => ?_) (fun z => ?_)⟩
  rotate_left 1
  · rw [if_pos rfl]
    refine ⟨Or.inl rfl, h0.now k ?_⟩
    show (if isW T n s (wdl 0) = true then _ else _) = _
    rw [if_neg z]
  rw [if_neg (by decide)]
  have ex : xp T n 0 s m [] = (1, nx T n s, m, []) := by
    show (if isW T n s (wdl 0) = true then _ else _) = _
    rw [if_pos z]
  have k2 : KS M T n g1 (1, nx T n s, m, []) := k.mv hM ex c1 rd1 id
  have h1 := h1.pre c1.fr (Rch.on ex)
  have h0 := h0.pre c1.fr (Rch.on ex)
  refine ⟨k1, f_38 hr t1 x1 rd1 (fun y g2 c2 rd2 => ?_) (fun y => ?_)⟩
  · refine ⟨w1, Or.inr rfl, fun g3 e3 => ⟨w1, ?_⟩⟩
    have f30 : g3 (M + 1) 0 = 1 := by rw [e3, up_s]
    rw [f30, if_neg (by decide)]
    have ex2 : xp T n 1 (nx T n s) m [] = (3, nx T n (nx T n s), up m 0 0 1, []) := by
      show (if isW T n (nx T n s) (wdl 1) = true then _ else _) = _
      rw [if_pos y]
    have f3 : RF M g1 g3 := by rw [e3]; exact (c2.fr).u (by omega)
    exact f_41b hr hM (by (repeat rw [up_j (by decide)]); exact hv) (k2.nm hM ex2 c2 rd2 (fun i j hi => by rw [e3, up_i (by omega)]) (fun q => by rw [e3]; exact q.u0)) (h1.pre f3 (Rch.on ex2)) (h0.pre f3 (Rch.on ex2))
  · refine ⟨w1, Or.inl rfl, fun g3 e3 => ⟨w1, ?_⟩⟩
    have f30 : g3 (M + 1) 0 = 0 := by rw [e3, up_s]
    rw [f30, if_pos rfl]
    have ex2 : xp T n 1 (nx T n s) m [] = (2, nx T n s, up m 0 0 0, []) := by
      show (if isW T n (nx T n s) (wdl 1) = true then _ else _) = _
      rw [if_neg y]
    have f3 : RF M g1 g3 := by rw [e3]; exact (RF.rf M g1).u (by omega)
    have k3 : KS M T n g3 (2, nx T n s, up m 0 0 0, []) := k2.nm hM ex2 (CF.rf g1) rd1 (fun i j hi => by rw [e3, up_i (by omega)]) (fun q => by rw [e3]; exact q.u0)
    have h1 := h1.pre f3 (Rch.on ex2)
    have h0 := h0.pre f3 (Rch.on ex2)
    have rd3 : RD T n g3 (nx T n s) := k3.2.1
    refine ⟨k1, f_38 hr t2 x2 rd3 (fun x g4 c4 rd4 => ?_) (fun x => ?_)⟩
    · rw [if_neg (by decide)]
      have ex3 : xp T n 2 (nx T n s) (up m 0 0 0) [] = (3, nx T n (nx T n s), up m 0 0 0, []) := by
        show (if isW T n (nx T n s) (wdl 2) = true then _ else _) = _
        rw [if_pos x]
      exact f_41b hr hM (by (repeat rw [up_j (by decide)]); exact hv) (k3.mv hM ex3 c4 rd4 id) (h1.pre c4.fr (Rch.on ex3)) (h0.pre c4.fr (Rch.on ex3))
    · rw [if_pos rfl]
      refine ⟨Or.inl rfl, h0.now k3 ?_⟩
      show (if isW T n (nx T n s) (wdl 2) = true then _ else _) = _
      rw [if_neg x]
end CRE
