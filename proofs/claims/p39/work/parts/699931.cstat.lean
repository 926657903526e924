/-! the class's reading of a statement and of a mill does what the reading machine does -/
section CST
variable {sc : SCR} {d : Nat} {Q : QJ} {g r : GH} {l0 l1 l2 l3 l4 l5 n s M vv : Int} {T : Int → Int} {m : GH} {st : List (Int × Int)} {ph : Nat}
theorem f_50 (hr : RI r) (hM : MO M) (mc : MC M g m) (b : 0 ≤ m 0 11 ∧ m 0 11 < 30) (hl : l1 = m 0 16) (h : ∀ g', RF M g g' → (∀ i j, i < M → g' i j = g i j) → MC M g' (up (up (up m 2 (m 0 11) (m 0 16)) 3 (m 0 11) (m 0 13)) 0 11 (m 0 11 + 1)) → Q 1 g' r) : Ce sc (d + 1) 50 [(2, M + 6), (0, l1)] g r Q := by
  have u1 := mo_u hM
  have a8 := mo_a8 hM
  have a9 := mo_a9 hM
  have g4 : g (M + 6) 4 = m 0 11 := by
    obtain ⟨_, _, _, _, _, _, _, _, _, _, _, a, _⟩ := mc; exact a
  have g1 : g (M + 6) 1 = m 0 13 := by
    obtain ⟨_, _, _, _, _, _, _, _, _, _, _, _, a, _⟩ := mc; exact a
  refine c_50 ⟨u1, u1, ?_⟩
  rw [mo_r2 hr hM, mo_r3 hr hM, a8.2, g4]
  refine ⟨ok_a a8.1, ?_⟩
  rw [if_pos (show m 0 11 < 30 by omega)]
  refine ⟨u1, u1, ⟨a8.1, by omega, by rw [a8.2]; omega⟩, fun h1 e1 => ⟨u1, u1, u1, ?_⟩⟩
  have p4 : h1 (M + 6) 4 = m 0 11 := by rw [e1, up_i (by omega)]; exact g4
  have p1 : h1 (M + 6) 1 = m 0 13 := by rw [e1, up_i (by omega)]; exact g1
  rw [p4, p1]
  refine ⟨⟨a9.1, by omega, by rw [a9.2]; omega⟩, fun h2 e2 => ⟨u1, u1, fun h3 e3 => ⟨Or.inr rfl, ?_⟩⟩⟩
  have q4 : h2 (M + 6) 4 = m 0 11 := by rw [e2, up_i (by omega)]; exact p4
  rw [q4, wr_id ⟨by omega, by omega⟩] at e3
  refine h h3 ?_ (fun i j hi => ?_) ?_
  · rw [e3, e2, e1]; exact (((RF.rf M g).u (by omega)).u (by omega)).u (by omega)
  · rw [e3, up_i (by omega), e2, up_i (by omega), e1, up_i (by omega)]
  · rw [e3, e2, e1, hl]; exact mc.gate
/-- the end of a statement -/
theorem f_59 (hr : RI r) (hM : MO M) (hv : m 0 12 = vv) (k : KS M T n g (14, s, m, [])) (h1 : B1 M T n g r (14, s, m, []) 15 (vv + 1) Q) (h0 : A0 M T n g r (14, s, m, []) Q) (D : Nat) : Ce sc (D + 2) 39 [(2, 1), (0, 59)] g r (fun v2 g2 r2 => (if v2 = 0 then ((0 : Int) = 0 ∨ (0 : Int) = 1) ∧ Q 0 g2 r2 else ((1 : Int) = 0 ∨ (1 : Int) = 1) ∧ Q 1 g2 r2)) := by
  have rd : RD T n g s := k.2.1
  refine f_39 hr rd (fun z g1 c1 rd1 => ?_) (fun z => ?_)
  · rw [if_neg (by decide)]
    have ex : xp T n 14 s m [] = (15, nx T n s, up m 0 12 (m 0 12 + 1), []) := by
      show (if isS T n s 59 = true then _ else _) = _
      rw [if_pos z]
    exact ⟨Or.inr rfl, h1 g1 _ _ c1.fr (Rch.on ex) (k.mv hM ex c1 rd1 (fun q => q.rg (by decide))) (by rw [up_s, hv])⟩
  · rw [if_pos rfl]
    refine ⟨Or.inl rfl, h0.now k ?_⟩
    show (if isS T n s 59 = true then _ else _) = _
    rw [if_neg z]
/-- the end of a gate -/
theorem f_42c (hr : RI r) (hM : MO M) (hv : m 0 12 = vv) (hl : l3 = m 0 16) (k : KS M T n g (22, s, m, [])) (h1 : B1 M T n g r (22, s, m, []) 15 (vv + 1) Q) (h0 : A0 M T n g r (22, s, m, []) Q) : WQ sc (d + 5) 42 Q 169 [(2, 1), (2, M), (9, 0), (0, l3)] [] g r := by
  have k1 : okr 218 1 5 := okd (by decide +kernel)
  have u1 := mo_u hM
  have M7 : 7 ≤ M := by unfold MO at hM; omega
  have rd : RD T n g s := k.2.1
  have xg : XG 22 m := k.1.2.2.2.2.2.2.1
  have xb : 0 ≤ m 0 11 ∧ m 0 11 < 30 := by unfold XG at xg; omega
  have ex : xp T n 22 s m [] = (14, s, up (up (up m 2 (m 0 11) (m 0 16)) 3 (m 0 11) (m 0 13)) 0 11 (m 0 11 + 1), []) := rfl
  refine b_42_169 ⟨mo_ok hM, ?_⟩
  rw [mo_4 hr hM]
  refine ⟨u1, f_50 hr hM k.2.2 xb hl (fun g1 f1 lo mc1 => ?_)⟩
  rw [if_neg (by decide)]
  have k2 : KS M T n g1 (14, s, up (up (up m 2 (m 0 11) (m 0 16)) 3 (m 0 11) (m 0 13)) 0 11 (m 0 11 + 1), []) := ⟨by rw [← ex]; exact xi_xp k.1, rd.eq (fun i j hi => lo i j (by omega)), mc1⟩
  exact ⟨k1, f_59 hr hM (by rw [up_j (by decide), up_i (by decide), up_i (by decide)]; exact hv) k2 (h1.pre f1 (Rch.on ex)) (h0.pre f1 (Rch.on ex)) _⟩
theorem f_42 (hr : RI r) (hM : MO M) (hv : m 0 12 = vv) (k : KS M T n g (15, s, m, [])) (hk : ¬ kd T n s = 0) (h30 : ¬ 30 ≤ m 0 12) (h1 : B1 M T n g r (15, s, m, []) 15 (vv + 1) Q) (h0 : A0 M T n g r (15, s, m, []) Q) : Ce sc (d + 36) 42 [(2, 1), (2, M)] g r Q := by
  have k1 : okr 218 1 5 := okd (by decide +kernel)
  have w1 := mo_w7 hM
  have m1 := mo_ok hM
  have M7 : 7 ≤ M := by unfold MO at hM; omega
  obtain ⟨x0, x1, x2, x3, x4, x5, x6, x7, x8, x9, x10, x11, x12, x13⟩ := tx_v
  obtain ⟨t0, t1, t2, t3, t4, t5, t6, t7, t8, t9, t10, t11, t12, t13⟩ := ok_v
  have rd : RD T n g s := k.2.1
  have xpe : xp T n 15 s m [] = (if isW T n s (wdl 8) = true then (16, nx T n s, m, []) else if isW T n s (wdl 9) = true then (17, nx T n s, m, []) else if isW T n s (wdl 10) = true then (18, nx T n s, m, []) else if isW T n s (wdl 11) = true then (19, nx T n s, m, []) else if isW T n s (wdl 12) = true then (20, nx T n s, m, []) else (91, s, m, [])) := by
    show (if kd T n s = 0 then _ else if 30 ≤ m 0 12 then _ else _) = _
    rw [if_neg hk, if_neg h30]
  refine c_42 ?_
  refine ⟨k1, f_38 hr t8 x8 rd (fun z g1 c1 rd1 => ?_) (fun n8 => ?_)⟩
  · rw [if_neg (by decide)]
    have ex : xp T n 15 s m [] = (16, nx T n s, m, []) := by rw [xpe, if_pos z]
    have k2 : KS M T n g1 (16, nx T n s, m, []) := k.mv hM ex c1 rd1 id
    have h1 := h1.pre c1.fr (Rch.on ex)
    have h0 := h0.pre c1.fr (Rch.on ex)
    refine ⟨k1, f_40 hr rd1 (fun y g2 c2 rd2 v2 => ?_) (fun y => ?_)⟩
    · refine ⟨k1, m1, fun g3 e3 => ?_⟩
      rw [if_neg (by decide)]
      rw [v2] at e3
      have ex2 : xp T n 16 (nx T n s) m [] = (14, nx T n (nx T n s), up m 0 7 (nb T n (nx T n s)), []) := by
        show (if isN T n (nx T n s) 1 9999 = true then _ else _) = _
        rw [if_pos y]
      have f3 : RF M g1 g3 := by rw [e3]; exact (c2.fr).u (by omega)
      exact ⟨k1, f_59 hr hM ((up_j (by decide)).trans hv) (k2.nm hM ex2 c2 rd2 (fun i j hi => by rw [e3, up_i (by omega)]) (fun q => by rw [e3]; exact q.u7)) (h1.pre f3 (Rch.on ex2)) (h0.pre f3 (Rch.on ex2)) _⟩
    · refine ⟨k1, m1, fun g3 e3 => ?_⟩
      rw [if_pos rfl]
      have ex2 : xp T n 16 (nx T n s) m [] = (91, nx T n s, m, []) := by
        show (if isN T n (nx T n s) 1 9999 = true then _ else _) = _
        rw [if_neg y]
      refine ⟨Or.inl rfl, h0 g3 _ _ _ (by rw [e3]; exact (RF.rf M g1).u (by omega)) (Rch.on ex2) ?_⟩
      rw [e3]; exact rd1.up hM (by omega)
  rw [if_pos rfl]
  refine ⟨k1, f_38 hr t9 x9 rd (fun z g1 c1 rd1 => ?_) (fun n9 => ?_)⟩
  · rw [if_neg (by decide)]
    have ex : xp T n 15 s m [] = (17, nx T n s, m, []) := by rw [xpe, if_neg n8, if_pos z]
    have k2 : KS M T n g1 (17, nx T n s, m, []) := k.mv hM ex c1 rd1 id
    have h1 := h1.pre c1.fr (Rch.on ex)
    have h0 := h0.pre c1.fr (Rch.on ex)
    refine ⟨k1, f_40 hr rd1 (fun y g2 c2 rd2 v2 => ?_) (fun y => ?_)⟩
    · refine ⟨k1, m1, fun g3 e3 => ?_⟩
      rw [if_neg (by decide)]
      rw [v2] at e3
      have ex2 : xp T n 17 (nx T n s) m [] = (14, nx T n (nx T n s), up m 0 8 (nb T n (nx T n s)), []) := by
        show (if isN T n (nx T n s) 0 100 = true then _ else _) = _
        rw [if_pos y]
      have f3 : RF M g1 g3 := by rw [e3]; exact (c2.fr).u (by omega)
      exact ⟨k1, f_59 hr hM ((up_j (by decide)).trans hv) (k2.nm hM ex2 c2 rd2 (fun i j hi => by rw [e3, up_i (by omega)]) (fun q => by rw [e3]; exact q.u8)) (h1.pre f3 (Rch.on ex2)) (h0.pre f3 (Rch.on ex2)) _⟩
    · refine ⟨k1, m1, fun g3 e3 => ?_⟩
      rw [if_pos rfl]
      have ex2 : xp T n 17 (nx T n s) m [] = (91, nx T n s, m, []) := by
        show (if isN T n (nx T n s) 0 100 = true then _ else _) = _
        rw [if_neg y]
      refine ⟨Or.inl rfl, h0 g3 _ _ _ (by rw [e3]; exact (RF.rf M g1).u (by omega)) (Rch.on ex2) ?_⟩
      rw [e3]; exact rd1.up hM (by omega)
  rw [if_pos rfl]
  refine ⟨k1, f_38 hr t10 x10 rd (fun z g1 c1 rd1 => ?_) (fun n10 => ?_)⟩
  · rw [if_neg (by decide)]
    have ex : xp T n 15 s m [] = (18, nx T n s, m, []) := by rw [xpe, if_neg n8, if_neg n9, if_pos z]
    have k2 : KS M T n g1 (18, nx T n s, m, []) := k.mv hM ex c1 rd1 id
    have h1 := h1.pre c1.fr (Rch.on ex)
    have h0 := h0.pre c1.fr (Rch.on ex)
    refine ⟨k1, f_40 hr rd1 (fun y g2 c2 rd2 v2 => ?_) (fun y => ?_)⟩
    · rw [mo_1 hr hM]
      refine ⟨m1, k1, w1, fun g3 e3 => ?_⟩
      rw [if_neg (by decide)]
      rw [v2] at e3
      have ex2 : xp T n 18 (nx T n s) m [] = (14, nx T n (nx T n s), up m 0 9 (nb T n (nx T n s)), []) := by
        show (if isN T n (nx T n s) 1 300 = true then _ else _) = _
        rw [if_pos y]
      have f3 : RF M g1 g3 := by rw [e3]; exact (c2.fr).u (by omega)
      exact ⟨k1, f_59 hr hM ((up_j (by decide)).trans hv) (k2.nm hM ex2 c2 rd2 (fun i j hi => by rw [e3, up_i (by omega)]) (fun q => by rw [e3]; exact q.u9)) (h1.pre f3 (Rch.on ex2)) (h0.pre f3 (Rch.on ex2)) _⟩
    · rw [mo_1 hr hM]
      refine ⟨m1, k1, w1, fun g3 e3 => ?_⟩
      rw [if_pos rfl]
      have ex2 : xp T n 18 (nx T n s) m [] = (91, nx T n s, m, []) := by
        show (if isN T n (nx T n s) 1 300 = true then _ else _) = _
        rw [if_neg y]
      refine ⟨Or.inl rfl, h0 g3 _ _ _ (by rw [e3]; exact (RF.rf M g1).u (by omega)) (Rch.on ex2) ?_⟩
      rw [e3]; exact rd1.up hM (by omega)
  rw [if_pos rfl]
  refine ⟨k1, f_38 hr t11 x11 rd (fun z g1 c1 rd1 => ?_) (fun n11 => ?_)⟩
  · rw [if_neg (by decide)]
    have ex : xp T n 15 s m [] = (19, nx T n s, m, []) := by rw [xpe, if_neg n8, if_neg n9, if_neg n10, if_pos z]
    have k2 : KS M T n g1 (19, nx T n s, m, []) := k.mv hM ex c1 rd1 id
    have h1 := h1.pre c1.fr (Rch.on ex)
    have h0 := h0.pre c1.fr (Rch.on ex)
    refine ⟨k1, f_40 hr rd1 (fun y g2 c2 rd2 v2 => ?_) (fun y => ?_)⟩
    · rw [mo_1 hr hM]
      refine ⟨m1, k1, w1, fun g3 e3 => ?_⟩
      rw [if_neg (by decide)]
      rw [v2] at e3
      have ex2 : xp T n 19 (nx T n s) m [] = (14, nx T n (nx T n s), up m 0 10 (nb T n (nx T n s)), []) := by
        show (if isN T n (nx T n s) 0 9999 = true then _ else _) = _
        rw [if_pos y]
      have f3 : RF M g1 g3 := by rw [e3]; exact (c2.fr).u (by omega)
      exact ⟨k1, f_59 hr hM ((up_j (by decide)).trans hv) (k2.nm hM ex2 c2 rd2 (fun i j hi => by rw [e3, up_i (by omega)]) (fun q => by rw [e3]; exact q.u10)) (h1.pre f3 (Rch.on ex2)) (h0.pre f3 (Rch.on ex2)) _⟩
    · rw [mo_1 hr hM]
      refine ⟨m1, k1, w1, fun g3 e3 => ?_⟩
      rw [if_pos rfl]
      have ex2 : xp T n 19 (nx T n s) m [] = (91, nx T n s, m, []) := by
        show (if isN T n (nx T n s) 0 9999 = true then _ else _) = _
        rw [if_neg y]
      refine ⟨Or.inl rfl, h0 g3 _ _ _ (by rw [e3]; exact (RF.rf M g1).u (by omega)) (Rch.on ex2) ?_⟩
      rw [e3]; exact rd1.up hM (by omega)
  rw [if_pos rfl]
  refine ⟨k1, f_38 hr t12 x12 rd (fun z g1 c1 rd1 => ?_) (fun n12 => ?_)⟩
  rotate_left 1
  · rw [if_pos rfl]
    exact ⟨Or.inl rfl, h0.now k (by rw [xpe, if_neg n8, if_neg n9, if_neg n10, if_neg n11, if_neg n12])⟩
  rw [if_neg (by decide)]
  have ex : xp T n 15 s m [] = (20, nx T n s, m, []) := by rw [xpe, if_neg n8, if_neg n9, if_neg n10, if_neg n11, if_pos z]
  have k2 : KS M T n g1 (20, nx T n s, m, []) := k.mv hM ex c1 rd1 id
  have h1 := h1.pre c1.fr (Rch.on ex)
  have h0 := h0.pre c1.fr (Rch.on ex)
  refine ⟨k1, f_40 hr rd1 (fun y g2 c2 rd2 v2 => ?_) (fun y => ?_)⟩
  rotate_left 1
  · refine ⟨k1, ?_⟩
    rw [if_pos rfl]
    refine ⟨Or.inl rfl, h0.now k2 ?_⟩
    show (if isN T n (nx T n s) 0 999 = true then _ else _) = _
    rw [if_neg y]
  refine ⟨k1, ?_⟩
  rw [if_neg (by decide), v2]
  have ex2 : xp T n 20 (nx T n s) m [] = (21, nx T n (nx T n s), up m 0 16 (nb T n (nx T n s)), []) := by
    show (if isN T n (nx T n s) 0 999 = true then _ else _) = _
    rw [if_pos y]
  have k3 : KS M T n g2 (21, nx T n (nx T n s), up m 0 16 (nb T n (nx T n s)), []) := k2.mv hM ex2 c2 rd2 (fun q => q.rg (by decide))
  have h1 := h1.pre c2.fr (Rch.on ex2)
  have h0 := h0.pre c2.fr (Rch.on ex2)
  have hv3 : up m 0 16 (nb T n (nx T n s)) 0 12 = vv := (up_j (by decide)).trans hv
  have hl3 : up m 0 16 (nb T n (nx T n s)) 0 16 = nb T n (nx T n s) := up_s
  generalize up m 0 16 (nb T n (nx T n s)) = m3 at k3 h1 h0 hv3 hl3 ex2
  refine ⟨k1, f_38 hr t13 x13 rd2 (fun z3 g3 c3 rd3 => ?_) (fun z3 => ?_)⟩
  · rw [if_neg (by decide)]
    have ex3 : xp T n 21 (nx T n (nx T n s)) m3 [] = (30, nx T n (nx T n (nx T n s)), m3, [(0, 0)]) := by
      show (if isW T n (nx T n (nx T n s)) (wdl 13) = true then _ else _) = _
      rw [if_pos z3]
    have k4 : KS M T n g3 (30, nx T n (nx T n (nx T n s)), m3, [(0, 0)]) := k3.mv hM ex3 c3 rd3 id
    have h1 := h1.pre c3.fr (Rch.on ex3)
    have h0 := h0.pre c3.fr (Rch.on ex3)
    have h43 : C43 M T n sc (d + 35) 0 r := f_43 hr hM (by omega) (f_44 hr hM (by omega) (f_45 hr hM 9 (d + 27) 0 (by omega) (by decide)))
    refine ⟨m1, ?_⟩
    rw [mo_4 hr hM]
    refine ⟨k1, h43 g3 _ _ (nb T n (nx T n s), vv) _ _ _ rfl ⟨hl3, hv3⟩ (by decide) k4 (fun g4 s4 m4 f4 c4 k5 kv4 z4 => ?_) (fun g4 s4 m4 st4 f4 c4 rd4 => ?_)⟩
    · rw [if_neg (by decide)]
      have ex4 : xp T n 33 s4 m4 [(0, 0)] = (22, s4, m4, []) := by
        show (if isW T n s4 (wdl 21) = true then _ else _) = _
        rw [if_neg z4]
      exact f_42c hr hM kv4.2 kv4.1.symm (k5.go ex4 id) (h1.pre f4 (c4.st ex4)) (h0.pre f4 (c4.st ex4))
    · rw [if_pos rfl]
      exact ⟨Or.inl rfl, h0 g4 s4 m4 st4 f4 c4 rd4⟩
  · rw [if_pos rfl]
    have ex3 : xp T n 21 (nx T n (nx T n s)) m3 [] = (22, nx T n (nx T n s), m3, []) := by
      show (if isW T n (nx T n (nx T n s)) (wdl 13) = true then _ else _) = _
      rw [if_neg z3]
    exact f_42c hr hM hv3 hl3.symm (k3.go ex3 id) (h1.pre (RF.rf M _) (Rch.on ex3)) (h0.pre (RF.rf M _) (Rch.on ex3))
end CST
