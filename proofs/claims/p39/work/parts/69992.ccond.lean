/-! the class's reading of a condition, from its smallest piece on -/
theorem A1.pre {M : Int} {T : Int → Int} {n : Int} {g g1 r : GH} {x x1 : XS} {ph : Nat} {st : List (Int × Int)} {v : Int × Int} {P : Int → Prop} {Q : QJ} (h : A1 M T n g r x ph st v P Q) (f : RF M g g1) (c : Rch T n x x1) : A1 M T n g1 r x1 ph st v P Q := fun g' s' m' a b k e p => h g' s' m' (f.tr a) (c.tr b) k e p
theorem A0.pre {M : Int} {T : Int → Int} {n : Int} {g g1 r : GH} {x x1 : XS} {Q : QJ} (h : A0 M T n g r x Q) (f : RF M g g1) (c : Rch T n x x1) : A0 M T n g1 r x1 Q := fun g' s' m' st' a b k => h g' s' m' st' (f.tr a) (c.tr b) k
theorem A0.now {M : Int} {T : Int → Int} {n s : Int} {g r m : GH} {ph : Nat} {st : List (Int × Int)} {Q : QJ} (h : A0 M T n g r (ph, s, m, st) Q) (k : KS M T n g (ph, s, m, st)) (e : xp T n ph s m st = (91, s, m, st)) : Q 0 g r := h g s m st (RF.rf M g) (Rch.one e) k.2.1
theorem tx_w : am_tx 1000014 = wdl 14 ∧ am_tx 1000015 = wdl 15 ∧ am_tx 1000016 = wdl 16 ∧ am_tx 1000017 = wdl 17 ∧ am_tx 1000018 = wdl 18 ∧ am_tx 1000019 = wdl 19 ∧ am_tx 1000020 = wdl 20 ∧ am_tx 1000021 = wdl 21 := ⟨rfl, rfl, rfl, rfl, rfl, rfl, rfl, rfl⟩
section CCP
variable {sc : SCR} {d : Nat} {Q : QJ} {g r : GH} {l0 l1 l2 l3 l4 l5 n s M : Int} {vv : Int × Int} {T : Int → Int} {m : GH} {st : List (Int × Int)} {ph : Nat}
theorem sS_0 (z : isS T n s 60 = true) : sS T n s = 0 := by unfold sS; rw [if_pos z]
theorem sS_1 (a : ¬ isS T n s 60 = true) (z : isS T n s 62 = true) : sS T n s = 1 := by unfold sS; rw [if_neg a, if_pos z]
theorem sS_2 (a : ¬ isS T n s 60 = true) (b : ¬ isS T n s 62 = true) (z : isS T n s 61 = true) : sS T n s = 2 := by unfold sS; rw [if_neg a, if_neg b, if_pos z]
theorem sS_n (a : ¬ isS T n s 60 = true) (b : ¬ isS T n s 62 = true) (c : ¬ isS T n s 61 = true) : sS T n s = -1 := by unfold sS; rw [if_neg a, if_neg b, if_neg c]
/-- the number of a test, and its code -/
theorem ec_205 (hr : RI r) (hM : MO M) (hv : KV m vv) (k : KS M T n g (35, s, m, st)) (hw : 0 ≤ m 0 14 ∧ m 0 14 ≤ 4) (hs : 0 ≤ m 0 15 ∧ m 0 15 ≤ 2) (h1 : A1 M T n g r (35, s, m, st) 31 st vv (fun _ => True) Q) (h0 : A0 M T n g r (35, s, m, st) Q) : WQ sc (d + 5) 45 Q 205 [(2, 1), (2, M + 6), (9, 0), (9, 0), (0, m 0 14), (9, 0)] [(0, m 0 15)] g r := by
  have k1 : okr 218 1 5 := okd (by decide +kernel)
  have u1 := mo_u hM
  have rd : RD T n g s := k.2.1
  have mc : MC M g m := k.2.2
  have hn := rd.2.1
  refine b_45_205 (ite_c (fun z => absurd z (by omega)) (fun _ => ⟨k1, f_40 hr rd (fun z g1 c1 rd1 v1 => ?_) (fun z => ?_)⟩))
  · rw [if_neg (by decide), v1]
    have nbb := isN_t.mp z
    have e9 : nb T n s ≤ 9999 := nbb.2.2.2
    have e0 : 0 ≤ nb T n s := nbb.2.2.1
    refine ⟨k1, u1, c_49 ⟨u1, ?_⟩⟩
    rw [wr_id (x := m 0 14 * 3) ⟨by omega, by omega⟩, wr_id (x := m 0 14 * 3 + m 0 15) ⟨by omega, by omega⟩, wr_id (x := (m 0 14 * 3 + m 0 15) * 10000) ⟨by omega, by omega⟩, wr_id (x := (m 0 14 * 3 + m 0 15) * 10000 + nb T n s) ⟨by omega, by omega⟩]
    have ex : xp T n 35 s m st = (31, nx T n s, put m ((m 0 14 * 3 + m 0 15) * 10000 + nb T n s), st) := by
      show (if isN T n s 0 9999 = true then _ else _) = _
      rw [if_pos z]
    refine f_48 hr hM (mc.cf hM c1) (k.1.c350 hn.2) (fun g2 f2 lo mc2 => ⟨Or.inr rfl, ?_⟩)
    rw [if_neg (by decide)]
    refine ⟨Or.inr rfl, h1 g2 _ _ (c1.fr.tr f2) (Rch.on ex) ⟨?_, ?_, mc2⟩ hv.pt trivial⟩
    · rw [← ex]; exact xi_xp k.1
    · exact rd1.eq (fun i j hi => lo i j (by unfold MO at hM; omega))
  · rw [if_pos rfl]
    refine ⟨Or.inl rfl, h0.now k ?_⟩
    show (if isN T n s 0 9999 = true then _ else _) = _
    rw [if_neg z]
theorem ec_155 (hr : RI r) (hM : MO M) (hv0 : KV m vv) (k : KS M T n g (34, s, m, st)) (hw : 0 ≤ m 0 14 ∧ m 0 14 ≤ 4) (h1 : A1 M T n g r (34, s, m, st) 31 st vv (fun _ => True) Q) (h0 : A0 M T n g r (34, s, m, st) Q) : WQ sc (d + 5) 45 Q 155 [(2, 1), (2, M + 6), (9, 0), (9, 0), (9, 0), (9, 0)] [(0, m 0 14)] g r := by
  have k1 : okr 218 1 5 := okd (by decide +kernel)
  have rd : RD T n g s := k.2.1
  have mc : MC M g m := k.2.2
  have e14 : ∀ v : Int, up m 0 15 v 0 14 = m 0 14 := fun v => up_j (by decide)
  have e15 : ∀ v : Int, up m 0 15 v 0 15 = v := fun v => up_s
  have yes : ∀ (v : Int) (g1 : GH), 0 ≤ v ∧ v ≤ 2 → sS T n s = v → CF g g1 → RD T n g1 (nx T n s) → WQ sc (d + 5) 45 Q 205 [(2, 1), (2, M + 6), (9, 0), (9, 0), (0, m 0 14), (9, 0)] [(0, v)] g1 r := by
    intro v g1 hv hs c1 rd1
    have ex : xp T n 34 s m st = (35, nx T n s, up m 0 15 v, st) := by
      show (if sS T n s = -1 then (91, s, m, st) else (35, nx T n s, up m 0 15 (sS T n s), st)) = _
      rw [hs, if_neg (by omega)]
    have k2 : KS M T n g1 (35, nx T n s, up m 0 15 v, st) := k.mv hM ex c1 rd1 (fun q => q.rg (by decide))
    have := ec_205 (sc := sc) (d := d) (Q := Q) hr hM (hv0.up (by decide)) k2 (by rw [e14]; exact hw) (by rw [e15]; exact hv) (h1.pre c1.fr (Rch.on ex)) (h0.pre c1.fr (Rch.on ex))
    rw [e14, e15] at this
    exact this
  refine b_45_155 (ite_c (fun z => absurd z (by omega)) (fun _ => ⟨k1, f_39 hr rd (fun z g1 c1 rd1 => ?_) (fun a => ?_)⟩))
  · rw [if_neg (by decide)]; exact yes 0 g1 (by decide) (sS_0 z) c1 rd1
  · rw [if_pos rfl]
    refine ⟨k1, f_39 hr rd (fun z g1 c1 rd1 => ?_) (fun b => ?_)⟩
    · rw [if_neg (by decide)]; exact yes 1 g1 (by decide) (sS_1 a z) c1 rd1
    · rw [if_pos rfl]
      refine ⟨k1, f_39 hr rd (fun z g1 c1 rd1 => ?_) (fun c => ?_)⟩
      · rw [if_neg (by decide)]; exact yes 2 g1 (by decide) (sS_2 a b z) c1 rd1
      · rw [if_pos rfl]
        refine b_45_205 (ite_c (fun _ => ⟨Or.inl rfl, h0.now k ?_⟩) (fun z => absurd rfl z))
        show (if sS T n s = -1 then (91, s, m, st) else (35, nx T n s, up m 0 15 (sS T n s), st)) = _
        rw [sS_n a b c, if_pos rfl]
theorem wS_0 (z : isW T n s (wdl 15) = true) : wS T n s = 0 := by unfold wS; rw [if_pos z]
theorem wS_1 (a : ¬ isW T n s (wdl 15) = true) (z : isW T n s (wdl 16) = true) : wS T n s = 1 := by unfold wS; rw [if_neg a, if_pos z]
theorem wS_2 (a : ¬ isW T n s (wdl 15) = true) (b : ¬ isW T n s (wdl 16) = true) (z : isW T n s (wdl 17) = true) : wS T n s = 2 := by unfold wS; rw [if_neg a, if_neg b, if_pos z]
theorem wS_3 (a : ¬ isW T n s (wdl 15) = true) (b : ¬ isW T n s (wdl 16) = true) (c : ¬ isW T n s (wdl 17) = true) (z : isW T n s (wdl 18) = true) : wS T n s = 3 := by unfold wS; rw [if_neg a, if_neg b, if_neg c, if_pos z]
theorem wS_4 (a : ¬ isW T n s (wdl 15) = true) (b : ¬ isW T n s (wdl 16) = true) (c : ¬ isW T n s (wdl 17) = true) (e : ¬ isW T n s (wdl 18) = true) (z : isW T n s (wdl 19) = true) : wS T n s = 4 := by unfold wS; rw [if_neg a, if_neg b, if_neg c, if_neg e, if_pos z]
theorem wS_n (a : ¬ isW T n s (wdl 15) = true) (b : ¬ isW T n s (wdl 16) = true) (c : ¬ isW T n s (wdl 17) = true) (e : ¬ isW T n s (wdl 18) = true) (f : ¬ isW T n s (wdl 19) = true) : wS T n s = -1 := by unfold wS; rw [if_neg a, if_neg b, if_neg c, if_neg e, if_neg f]
/-- not, a bracket, or a test -/
theorem f_45a (hr : RI r) (hM : MO M) (hv0 : KV m vv) (k : KS M T n g (30, s, m, st)) (h1 : A1 M T n g r (30, s, m, st) 31 st vv (fun _ => True) Q) (h0 : A0 M T n g r (30, s, m, st) Q)
    (hN : isW T n s (wdl 14) = true → WQ sc (d + 5) 45 Q 20 [(2, 1), (2, M + 6), (0, l2), (0, 1), (9, 0), (9, 0)] [] g r) (hB : ¬ isW T n s (wdl 14) = true → isS T n s 40 = true → WQ sc (d + 5) 45 Q 20 [(2, 1), (2, M + 6), (0, l2), (0, 0), (9, 0), (9, 0)] [] g r) : Ce sc (d + 6) 45 [(2, 1), (2, M + 6), (0, l2)] g r Q := by
  have k1 : okr 218 1 5 := okd (by decide +kernel)
  have rd : RD T n g s := k.2.1
  have mc : MC M g m := k.2.2
  have okt : okT 1000014 ∧ okT 1000015 ∧ okT 1000016 ∧ okT 1000017 ∧ okT 1000018 ∧ okT 1000019 := by unfold okT; decide
  obtain ⟨t14, t15, t16, t17, t18, t19⟩ := okt
  obtain ⟨x14, x15, x16, x17, x18, x19, _, _⟩ := tx_w
  have e14 : ∀ v : Int, up m 0 14 v 0 14 = v := fun v => up_s
  refine c_45 ⟨k1, f_36 hr t14 x14 rd (fun z => ?_) (fun zn => ?_)⟩
  · rw [if_neg (by decide)]; exact hN z
  rw [if_pos rfl]
  refine ⟨k1, f_37 hr rd (fun z => ?_) (fun zb => ?_)⟩
  · rw [if_neg (by decide)]; exact hB zn z
  rw [if_pos rfl]
  have yes : ∀ (v : Int) (g1 : GH), 0 ≤ v ∧ v ≤ 4 → wS T n s = v → CF g g1 → RD T n g1 (nx T n s) → WQ sc (d + 5) 45 Q 155 [(2, 1), (2, M + 6), (9, 0), (9, 0), (9, 0), (9, 0)] [(0, v)] g1 r := by
    intro v g1 hv hs c1 rd1
    have ex : xp T n 30 s m st = (34, nx T n s, up m 0 14 v, st) := by
      show (if isW T n s (wdl 14) = true then _ else if isS T n s 40 = true then _ else if wS T n s = -1 then (91, s, m, st) else (34, nx T n s, up m 0 14 (wS T n s), st)) = _
      rw [if_neg zn, if_neg zb, hs, if_neg (by omega)]
    have k2 : KS M T n g1 (34, nx T n s, up m 0 14 v, st) := k.mv hM ex c1 rd1 (fun q => q.rg (by decide))
    have := ec_155 (sc := sc) (d := d) (Q := Q) hr hM (hv0.up (by decide)) k2 (by rw [e14]; exact hv) (h1.pre c1.fr (Rch.on ex)) (h0.pre c1.fr (Rch.on ex))
    rw [e14] at this
    exact this
  refine ⟨k1, f_38 hr t15 x15 rd (fun z g1 c1 rd1 => ?_) (fun a => ?_)⟩
  · rw [if_neg (by decide)]; exact yes 0 g1 (by decide) (wS_0 z) c1 rd1
  rw [if_pos rfl]
  refine ⟨k1, f_38 hr t16 x16 rd (fun z g1 c1 rd1 => ?_) (fun b => ?_)⟩
  · rw [if_neg (by decide)]; exact yes 1 g1 (by decide) (wS_1 a z) c1 rd1
  rw [if_pos rfl]
  refine ⟨k1, f_38 hr t17 x17 rd (fun z g1 c1 rd1 => ?_) (fun c => ?_)⟩
  · rw [if_neg (by decide)]; exact yes 2 g1 (by decide) (wS_2 a b z) c1 rd1
  rw [if_pos rfl]
  refine ⟨k1, f_38 hr t18 x18 rd (fun z g1 c1 rd1 => ?_) (fun e => ?_)⟩
  · rw [if_neg (by decide)]; exact yes 3 g1 (by decide) (wS_3 a b c z) c1 rd1
  rw [if_pos rfl]
  refine ⟨k1, f_38 hr t19 x19 rd (fun z g1 c1 rd1 => ?_) (fun f => ?_)⟩
  · rw [if_neg (by decide)]; exact yes 4 g1 (by decide) (wS_4 a b c e z) c1 rd1
  rw [if_pos rfl]
  refine b_45_155 (ite_c (fun _ => ⟨Or.inl rfl, h0.now k ?_⟩) (fun z => absurd rfl z))
  show (if isW T n s (wdl 14) = true then _ else if isS T n s 40 = true then _ else if wS T n s = -1 then (91, s, m, st) else (34, nx T n s, up m 0 14 (wS T n s), st)) = _
  rw [if_neg zn, if_neg zb, wS_n a b c e f, if_pos rfl]
/-- what the reading of one piece asks of its caller -/
def C45 (M : Int) (T : Int → Int) (n : Int) (sc : SCR) (D : Nat) (l2 : Int) (r : GH) : Prop := ∀ (g : GH) (Q : QJ) (s : Int) (vv : Int × Int) (m : GH) (st : List (Int × Int)), l2 = (st.length : Int) - 1 → KV m vv → KS M T n g (30, s, m, st) → A1 M T n g r (30, s, m, st) 31 st vv (fun _ => True) Q → A0 M T n g r (30, s, m, st) Q → Ce sc D 45 [(2, 1), (2, M + 6), (0, l2)] g r Q
def C44 (M : Int) (T : Int → Int) (n : Int) (sc : SCR) (D : Nat) (l2 : Int) (r : GH) : Prop := ∀ (g : GH) (Q : QJ) (s : Int) (vv : Int × Int) (m : GH) (k j : Int) (t : List (Int × Int)), l2 = (t.length : Int) → KV m vv → k ≠ 1 → (j = 0 ∨ j = 2) → KS M T n g (30, s, m, (k, j) :: t) → A1 M T n g r (30, s, m, (k, j) :: t) 32 ((k, j) :: t) vv (fun s' => ¬ isW T n s' (wdl 20) = true) Q → A0 M T n g r (30, s, m, (k, j) :: t) Q → Ce sc D 44 [(2, 1), (2, M + 6), (0, l2)] g r Q
def C43 (M : Int) (T : Int → Int) (n : Int) (sc : SCR) (D : Nat) (l2 : Int) (r : GH) : Prop := ∀ (g : GH) (Q : QJ) (s : Int) (vv : Int × Int) (m : GH) (k : Int) (t : List (Int × Int)), l2 = (t.length : Int) → KV m vv → k ≠ 1 → KS M T n g (30, s, m, (k, 0) :: t) → A1 M T n g r (30, s, m, (k, 0) :: t) 33 ((k, 0) :: t) vv (fun s' => ¬ isW T n s' (wdl 21) = true) Q → A0 M T n g r (30, s, m, (k, 0) :: t) Q → Ce sc D 43 [(2, 1), (2, M + 6), (0, l2)] g r Q
theorem f_44 (hr : RI r) (hM : MO M) {D : Nat} (hD : 5 ≤ D) (h45 : C45 M T n sc D l2 r) : C44 M T n sc (D + 1) l2 r := by
  intro g Q s vv m k j t hl hv hk hj ks h1 h0
  have k1 : okr 218 1 5 := okd (by decide +kernel)
  have u1 := mo_u hM
  have t20 : okT 1000020 := by unfold okT; decide
  obtain ⟨_, _, _, _, _, _, x20, _⟩ := tx_w
  obtain ⟨D, rfl⟩ : ∃ e, D = e + 5 := ⟨D - 5, by omega⟩
  -- from here: the operands so far are joined, the next word decides
  have loop : ∀ l4 : Int, -2147483648 ≤ l4 → 0 ≤ l4 → ∀ (g1 : GH) (s1 : Int) (m1 : GH), l4 ≤ s1 → KV m1 vv → KS M T n g1 (32, s1, m1, (k, j) :: t) → A1 M T n g1 r (32, s1, m1, (k, j) :: t) 32 ((k, j) :: t) vv (fun s' => ¬ isW T n s' (wdl 20) = true) Q → A0 M T n g1 r (32, s1, m1, (k, j) :: t) Q → WQ sc (D + 5) 44 Q 10 [(2, 1), (2, M + 6), (0, l2), (0, 1), (0, l4)] [] g1 r := by
    refine upW 700 (by decide) fun l4 _ ih l40 g1 s1 m1 ls hv1 ks h1 h0 => ?_
    have rd : RD T n g1 s1 := ks.2.1
    have hn := rd.2.1
    have s7 := rd.ts.2.1
    refine b_44_10 (ite_c (fun hi => ?_) (fun hi => ⟨Or.inr rfl, h1 g1 s1 m1 (RF.rf M g1) (Rch.rf _) ks hv1 (fun z => by have := isW_lt z; omega)⟩))
    rw [if_neg (by decide)]
    refine ⟨k1, f_38 hr t20 x20 rd (fun z g2 c2 rd2 => ?_) (fun z => ?_)⟩
    · rw [if_neg (by decide)]
      have ex : xp T n 32 s1 m1 ((k, j) :: t) = (30, nx T n s1, m1, (k, j + 1) :: t) := by
        show (if isW T n s1 (wdl 20) = true then _ else _) = _
        rw [if_pos z]
      have k2 : KS M T n g2 (30, nx T n s1, m1, (k, j + 1) :: t) := ks.mv hM ex c2 rd2 id
      refine ⟨k1, h45 g2 _ _ vv _ _ (by rw [List.length_cons]; omega) hv1 k2 (fun g3 s3 m3 f3 c3 k3 hv3 _ => ?_) (fun g3 s3 m3 st3 f3 c3 rd3 => ?_)⟩
      · rw [if_neg (by decide)]
        have ex3 : xp T n 31 s3 m3 ((k, j + 1) :: t) = (32, s3, put m3 (-2), (k, j) :: t) := by
          show (if k = 1 then _ else if (j + 1) % 2 = 1 then _ else _) = _
          rw [if_neg hk, if_pos (by omega), show j + 1 - 1 = j by omega]
        have hn3 := k3.2.1.2.1
        have rd3 : RD T n g3 s3 := k3.2.1
        refine ⟨u1, f_48 hr hM k3.2.2 (k3.1.c350 hn3.2) (fun g4 f4 lo mc4 => ?_)⟩
        rw [if_neg (by decide)]
        have c14 := ((Rch.on ex).tr c3).st ex3
        have f14 := (c2.fr.tr f3).tr f4
        have k4 : KS M T n g4 (32, s3, put m3 (-2), (k, j) :: t) := ⟨by rw [← ex3]; exact xi_xp k3.1, rd3.eq (fun a b hi => lo a b (by unfold MO at hM; omega)), mc4⟩
        rw [wr_id (x := l4 + 1) ⟨by omega, by omega⟩]
        rw [wr_id (x := l4 + 1) ⟨by omega, by omega⟩] at ih
        refine ih hi (by omega) g4 s3 _ ?_ hv3.pt k4 (h1.pre f14 c14) (h0.pre f14 c14)
        have := nx_gt (T := T) (isW_lt z)
        have le := rch_le k2.1 c3
        have le : nx T n s1 ≤ s3 := le
        omega
      · rw [if_pos rfl]
        have c13 := (Rch.on ex).tr c3
        rw [wr_id (x := l4 + 1) ⟨by omega, by omega⟩]
        refine b_44_10 ?_
        have e0 : Q 0 g3 r := h0 g3 s3 m3 st3 (c2.fr.tr f3) c13 rd3
        refine ite_c (fun _ => ?_) (fun _ => ⟨Or.inl rfl, e0⟩)
        rw [if_pos rfl]
        exact ⟨Or.inl rfl, e0⟩
    · rw [if_pos rfl]
      exact ⟨Or.inr rfl, h1 g1 s1 m1 (RF.rf M g1) (Rch.rf _) ks hv1 z⟩
  refine c_44 ⟨k1, h45 g _ _ vv _ _ (by rw [List.length_cons]; omega) hv ks (fun g1 s1 m1 f1 c1 k1' hv1 _ => ?_) (fun g1 s1 m1 st1 f1 c1 rd1 => ?_)⟩
  · have ex1 : xp T n 31 s1 m1 ((k, j) :: t) = (32, s1, m1, (k, j) :: t) := by
      show (if k = 1 then _ else if j % 2 = 1 then _ else _) = _
      rw [if_neg hk, if_neg (by omega)]
    have c2 := c1.st ex1
    have rd1 : RD T n g1 s1 := k1'.2.1
    exact loop 0 (by decide) (by decide) g1 s1 m1 rd1.ts.1 hv1 (k1'.go ex1 id) (h1.pre f1 c2) (h0.pre f1 c2)
  · refine b_44_10 (ite_c (fun _ => ?_) (fun _ => ⟨Or.inl rfl, h0 g1 s1 m1 st1 f1 c1 rd1⟩))
    rw [if_pos rfl]
    exact ⟨Or.inl rfl, h0 g1 s1 m1 st1 f1 c1 rd1⟩
theorem f_43 (hr : RI r) (hM : MO M) {D : Nat} (hD : 6 ≤ D) (h44 : C44 M T n sc D l2 r) : C43 M T n sc (D + 1) l2 r := by
  intro g Q s vv m k t hl hv hk ks h1 h0
  have k1 : okr 218 1 5 := okd (by decide +kernel)
  have u1 := mo_u hM
  have t21 : okT 1000021 := by unfold okT; decide
  obtain ⟨_, _, _, _, _, _, _, x21⟩ := tx_w
  obtain ⟨D, rfl⟩ : ∃ e, D = e + 5 := ⟨D - 5, by omega⟩
  have loop : ∀ l4 : Int, -2147483648 ≤ l4 → 0 ≤ l4 → ∀ (g1 : GH) (s1 : Int) (m1 : GH), l4 ≤ s1 → KV m1 vv → KS M T n g1 (33, s1, m1, (k, 0) :: t) → A1 M T n g1 r (33, s1, m1, (k, 0) :: t) 33 ((k, 0) :: t) vv (fun s' => ¬ isW T n s' (wdl 21) = true) Q → A0 M T n g1 r (33, s1, m1, (k, 0) :: t) Q → WQ sc (D + 5) 43 Q 10 [(2, 1), (2, M + 6), (0, l2), (0, 1), (0, l4)] [] g1 r := by
    refine upW 700 (by decide) fun l4 _ ih l40 g1 s1 m1 ls hv1 ks h1 h0 => ?_
    have rd : RD T n g1 s1 := ks.2.1
    have hn := rd.2.1
    have s7 := rd.ts.2.1
    refine b_43_10 (ite_c (fun hi => ?_) (fun hi => ⟨Or.inr rfl, h1 g1 s1 m1 (RF.rf M g1) (Rch.rf _) ks hv1 (fun z => by have := isW_lt z; omega)⟩))
    rw [if_neg (by decide)]
    refine ⟨k1, f_38 hr t21 x21 rd (fun z g2 c2 rd2 => ?_) (fun z => ?_)⟩
    · rw [if_neg (by decide)]
      have ex : xp T n 33 s1 m1 ((k, 0) :: t) = (30, nx T n s1, m1, (k, 2) :: t) := by
        show (if isW T n s1 (wdl 21) = true then _ else _) = _
        rw [if_pos z]
      have k2 : KS M T n g2 (30, nx T n s1, m1, (k, 2) :: t) := ks.mv hM ex c2 rd2 id
      refine ⟨k1, h44 g2 _ _ vv _ _ _ _ hl hv1 hk (Or.inr rfl) k2 (fun g3 s3 m3 f3 c3 k3 hv3 z3 => ?_) (fun g3 s3 m3 st3 f3 c3 rd3 => ?_)⟩
      · rw [if_neg (by decide)]
        have ex3 : xp T n 32 s3 m3 ((k, 2) :: t) = (33, s3, put m3 (-3), (k, 0) :: t) := by
          show (if isW T n s3 (wdl 20) = true then _ else if (2 : Int) = 2 then _ else _) = _
          rw [if_neg z3, if_pos rfl]
        have hn3 := k3.2.1.2.1
        have rd3 : RD T n g3 s3 := k3.2.1
        refine ⟨u1, f_48 hr hM k3.2.2 (k3.1.c350 hn3.2) (fun g4 f4 lo mc4 => ?_)⟩
        rw [if_neg (by decide)]
        have c14 := ((Rch.on ex).tr c3).st ex3
        have f14 := (c2.fr.tr f3).tr f4
        have k4 : KS M T n g4 (33, s3, put m3 (-3), (k, 0) :: t) := ⟨by rw [← ex3]; exact xi_xp k3.1, rd3.eq (fun a b hi => lo a b (by unfold MO at hM; omega)), mc4⟩
        rw [wr_id (x := l4 + 1) ⟨by omega, by omega⟩]
        rw [wr_id (x := l4 + 1) ⟨by omega, by omega⟩] at ih
        refine ih hi (by omega) g4 s3 _ ?_ hv3.pt k4 (h1.pre f14 c14) (h0.pre f14 c14)
        have := nx_gt (T := T) (isW_lt z)
        have le : nx T n s1 ≤ s3 := rch_le k2.1 c3
        omega
      · rw [if_pos rfl]
        have c13 := (Rch.on ex).tr c3
        rw [wr_id (x := l4 + 1) ⟨by omega, by omega⟩]
        refine b_43_10 ?_
        have e0 : Q 0 g3 r := h0 g3 s3 m3 st3 (c2.fr.tr f3) c13 rd3
        refine ite_c (fun _ => ?_) (fun _ => ⟨Or.inl rfl, e0⟩)
        rw [if_pos rfl]
        exact ⟨Or.inl rfl, e0⟩
    · rw [if_pos rfl]
      exact ⟨Or.inr rfl, h1 g1 s1 m1 (RF.rf M g1) (Rch.rf _) ks hv1 z⟩
  refine c_43 ⟨k1, h44 g _ _ vv _ _ _ _ hl hv hk (Or.inl rfl) ks (fun g1 s1 m1 f1 c1 k1' hv1 z1 => ?_) (fun g1 s1 m1 st1 f1 c1 rd1 => ?_)⟩
  · have ex1 : xp T n 32 s1 m1 ((k, 0) :: t) = (33, s1, m1, (k, 0) :: t) := by
      show (if isW T n s1 (wdl 20) = true then _ else if (0 : Int) = 2 then _ else _) = _
      rw [if_neg z1, if_neg (by decide)]
    have c2 := c1.st ex1
    have rd1 : RD T n g1 s1 := k1'.2.1
    exact loop 0 (by decide) (by decide) g1 s1 m1 rd1.ts.1 hv1 (k1'.go ex1 id) (h1.pre f1 c2) (h0.pre f1 c2)
  · refine b_43_10 (ite_c (fun _ => ?_) (fun _ => ⟨Or.inl rfl, h0 g1 s1 m1 st1 f1 c1 rd1⟩))
    rw [if_pos rfl]
    exact ⟨Or.inl rfl, h0 g1 s1 m1 st1 f1 c1 rd1⟩
theorem f_45 (hr : RI r) (hM : MO M) : ∀ (N y : Nat) (l2 : Int), 3 * N ≤ y → 9 ≤ l2 + N → C45 M T n sc (y + 6) l2 r := by
  have k1 : okr 218 1 5 := okd (by decide +kernel)
  have u1 := mo_u hM
  have deep : ∀ {g : GH} {Q : QJ} {s : Int} {m : GH} {st : List (Int × Int)} {v : Int} {D : Nat}, ¬ (st.length : Int) - 1 < 9 → KS M T n g (30, s, m, st) → A0 M T n g r (30, s, m, st) Q → (isW T n s (wdl 14) = true ∨ (¬ isW T n s (wdl 14) = true ∧ isS T n s 40 = true)) → ((0 : Int) = 0 ∨ (0 : Int) = 1) ∧ Q 0 g r := by
    intro g Q s m st v D hl ks h0 hz
    refine ⟨Or.inl rfl, h0.now ks ?_⟩
    show (if isW T n s (wdl 14) = true then (if 10 ≤ st.length then (91, s, m, st) else _) else if isS T n s 40 = true then (if 10 ≤ st.length then (91, s, m, st) else _) else _) = _
    rcases hz with a | ⟨a, b⟩
    · rw [if_pos a, if_pos (by omega)]
    · rw [if_neg a, if_pos b, if_pos (by omega)]
  intro N
  induction N with
  | zero =>
    intro y l2 _ h9 g Q s vv m st hl hv ks h1 h0
    refine f_45a hr hM hv ks h1 h0 (fun z => b_45_20 (ite_c (fun q => absurd q (by omega)) (fun _ => deep (v := 0) (D := 0) (by omega) ks h0 (Or.inl z)))) (fun z zb => b_45_20 (ite_c (fun q => absurd q (by omega)) (fun _ => deep (v := 0) (D := 0) (by omega) ks h0 (Or.inr ⟨z, zb⟩))))
  | succ N ih =>
    intro y l2 hy h9 g Q s vv m st hl hv ks h1 h0
    obtain ⟨z3, rfl⟩ : ∃ z, y = z + 3 := ⟨y - 3, by omega⟩
    have rd : RD T n g s := ks.2.1
    refine f_45a hr hM hv ks h1 h0 (fun z => b_45_20 (ite_c (fun q => ⟨k1, ?_⟩) (fun q => deep (v := 0) (D := 0) (by omega) ks h0 (Or.inl z)))) (fun zn z => b_45_20 (ite_c (fun q => ⟨k1, ?_⟩) (fun q => deep (v := 0) (D := 0) (by omega) ks h0 (Or.inr ⟨zn, z⟩))))
    · refine f_35 hr rd (isW_lt z) (fun _ g1 c1 rd1 _ => ?_)
      rw [if_neg (by decide), wr_id (x := l2 + 1) ⟨by omega, by omega⟩]
      have ex : xp T n 30 s m st = (30, nx T n s, m, (1, 0) :: st) := by
        show (if isW T n s (wdl 14) = true then (if 10 ≤ st.length then (91, s, m, st) else _) else _) = _
        rw [if_pos z, if_neg (by omega)]
      have k2 : KS M T n g1 (30, nx T n s, m, (1, 0) :: st) := ks.mv hM ex c1 rd1 id
      refine ⟨k1, ih (z3 + 2) (l2 + 1) (by omega) (by omega) g1 _ _ vv _ _ (by rw [List.length_cons]; omega) hv k2 (fun g2 s2 m2 f2 c2 k2' hv2 _ => ?_) (fun g2 s2 m2 st2 f2 c2 rd2 => ?_)⟩
      · rw [if_neg (by decide)]
        have hn2 := k2'.2.1.2.1
        have rd2 : RD T n g2 s2 := k2'.2.1
        have ex2 : xp T n 31 s2 m2 ((1, 0) :: st) = (31, s2, put m2 (-1), st) := rfl
        refine ⟨u1, f_48 hr hM k2'.2.2 (k2'.1.c350 hn2.2) (fun g3 f3 lo mc3 => ?_)⟩
        rw [if_neg (by decide)]
        refine ⟨Or.inr rfl, h1 g3 s2 _ ((c1.fr.tr f2).tr f3) (((Rch.on ex).tr c2).st ex2) ⟨by rw [← ex2]; exact xi_xp k2'.1, rd2.eq (fun a b hi => lo a b (by unfold MO at hM; omega)), mc3⟩ hv2.pt trivial⟩
      · rw [if_pos rfl]
        exact ⟨Or.inl rfl, h0 g2 s2 m2 st2 (c1.fr.tr f2) ((Rch.on ex).tr c2) rd2⟩
    · refine f_35 hr rd (isS_lt z) (fun _ g1 c1 rd1 _ => ?_)
      rw [if_pos rfl, wr_id (x := l2 + 1) ⟨by omega, by omega⟩]
      have ex : xp T n 30 s m st = (30, nx T n s, m, (2, 0) :: st) := by
        show (if isW T n s (wdl 14) = true then _ else if isS T n s 40 = true then (if 10 ≤ st.length then (91, s, m, st) else _) else _) = _
        rw [if_neg zn, if_pos z, if_neg (by omega)]
      have k2 : KS M T n g1 (30, nx T n s, m, (2, 0) :: st) := ks.mv hM ex c1 rd1 id
      have h43 : C43 M T n sc (z3 + 8) (l2 + 1) r := f_43 hr hM (by omega) (f_44 hr hM (by omega) (ih z3 (l2 + 1) (by omega) (by omega)))
      refine ⟨k1, h43 g1 _ _ vv _ _ _ (by omega) hv (by decide) k2 (fun g2 s2 m2 f2 c2 k2' hv2 z2 => ?_) (fun g2 s2 m2 st2 f2 c2 rd2 => ?_)⟩
      · rw [if_neg (by decide)]
        have rd2 : RD T n g2 s2 := k2'.2.1
        obtain ⟨e, t2, rfl⟩ : ∃ e t2, st = e :: t2 := by
          cases st with
          | nil => exact absurd rfl (ks.1.2.2.2.2.2.2.2.2.1 (show 30 ≤ 30 by decide) (show 30 ≤ 35 by decide))
          | cons e t2 => exact ⟨e, t2, rfl⟩
        obtain ⟨ek, ej⟩ := e
        refine ⟨k1, f_39 hr rd2 (fun z3' g3 c3 rd3 => ?_) (fun z3' => ?_)⟩
        · rw [if_neg (by decide)]
          have ex2 : xp T n 33 s2 m2 ((2, 0) :: (ek, ej) :: t2) = (31, nx T n s2, m2, (ek, ej) :: t2) := by
            show (if isW T n s2 (wdl 21) = true then _ else (if isS T n s2 41 = true then _ else _)) = _
            rw [if_neg z2, if_pos z3']
          exact ⟨Or.inr rfl, h1 g3 _ _ ((c1.fr.tr f2).tr c3.fr) (((Rch.on ex).tr c2).st ex2) (k2'.mv hM ex2 c3 rd3 id) hv2 trivial⟩
        · rw [if_pos rfl]
          have ex2 : xp T n 33 s2 m2 ((2, 0) :: (ek, ej) :: t2) = (91, s2, m2, (2, 0) :: (ek, ej) :: t2) := by
            show (if isW T n s2 (wdl 21) = true then _ else (if isS T n s2 41 = true then _ else _)) = _
            rw [if_neg z2, if_neg z3']
          exact ⟨Or.inl rfl, h0 g2 s2 m2 _ (c1.fr.tr f2) (((Rch.on ex).tr c2).st ex2) rd2⟩
      · rw [if_pos rfl]
        exact ⟨Or.inl rfl, h0 g2 s2 m2 st2 (c1.fr.tr f2) ((Rch.on ex).tr c2) rd2⟩
end CCP
