/-! the reference's reading of a condition does what the reading machine does -/
def sgc (k : Int) : Int := if k = 0 then 60 else if k = 1 then 62 else 61
/-- step q of the reference is the class's code c -/
def RC (g : GH) (q c : Int) : Prop := (c = -1 ∧ g 185 q = 1) ∨ (c = -2 ∧ g 185 q = 2) ∨ (c = -3 ∧ g 185 q = 3) ∨ ∃ w k v : Int, (0 ≤ w ∧ w ≤ 4) ∧ (0 ≤ k ∧ k ≤ 2) ∧ (0 ≤ v ∧ v ≤ 9999) ∧ c = (w * 3 + k) * 10000 + v ∧ g 185 q = 0 ∧ g 186 q = w ∧ g 187 q = sgc k ∧ g 188 q = v
theorem RC.eq {g g' : GH} {q c : Int} (h : RC g q c) (e : ∀ i, 185 ≤ i → i ≤ 188 → g' i q = g i q) : RC g' q c := by
  unfold RC at h ⊢
  rw [e 185 (by decide) (by decide), e 186 (by decide) (by decide), e 187 (by decide) (by decide), e 188 (by decide) (by decide)]; exact h
def STM (g m : GH) : Prop := g 165 31 = 2450 + m 0 13 ∧ ∀ c, 0 ≤ c → c < m 0 13 → RC g (2450 + c) (m 1 c)
theorem STM.rg {g m : GH} {j v : Int} (h : STM g m) (hj : j ≠ 13) : STM g (up m 0 j v) := by
  unfold STM at h ⊢
  rw [up_j (Ne.symm hj)]
  exact ⟨h.1, fun c a b => by rw [up_i (by decide)]; exact h.2 c a b⟩
theorem STM.eq {g g' m : GH} (h : STM g m) (e : ∀ i j, (i = 165 ∧ j = 31) ∨ (185 ≤ i ∧ i ≤ 188) → g' i j = g i j) : STM g' m := ⟨by rw [e 165 31 (by omega)]; exact h.1, fun c a b => (h.2 c a b).eq (fun i x y => e i _ (by omega))⟩
theorem ws_187 {g : GH} {k a s n : Int} : WS g k a s n 187 (g 165 31) = s := by
  unfold WS
  rw [up_i (by decide), up_i (by decide), up_s]
theorem ws_188 {g : GH} {k a s n : Int} : WS g k a s n 188 (g 165 31) = n := by
  unfold WS
  rw [up_i (by decide), up_s]
theorem STM.pt {g m : GH} {k a s v c : Int} (h : STM g m) (rc : RC (WS g k a s v) (g 165 31) c) : STM (WS g k a s v) (put m c) := by
  obtain ⟨h1, h2⟩ := h
  refine ⟨by rw [ws_31, put_13]; omega, fun q a b => ?_⟩
  rw [put_13] at b
  by_cases z : q = m 0 13
  · have e : put m c 1 q = c := by unfold put; rw [up_i (by decide), z, up_s]
    rw [e, z, ← h1]; exact rc
  · have e : put m c 1 q = m 1 q := by unfold put; rw [up_i (by decide), up_j z]
    rw [e]
    exact (h2 q a (by omega)).eq (fun i x y => ws_o (by omega))
/-- the brackets that stand open -/
def JK (g : GH) : List (Int × Int) → Prop
  | [] => True
  | e :: t => g 191 (t.length : Int) = e.2 ∧ (t ≠ [] → g 190 ((t.length : Int) - 1) = e.1) ∧ JK g t
theorem JK.eq {g g' : GH} : ∀ {st : List (Int × Int)}, (∀ i j, (i = 190 ∨ i = 191) → j < (st.length : Int) → g' i j = g i j) → JK g st → JK g' st
  | [], _, _ => trivial
  | e :: t, h, k => by
    obtain ⟨a, b, c⟩ := k
    have hl : (((e :: t).length : Nat) : Int) = (t.length : Int) + 1 := by rw [List.length_cons]; omega
    refine ⟨by rw [h 191 _ (Or.inr rfl) (by omega)]; exact a, fun z => by rw [h 190 _ (Or.inl rfl) (by omega)]; exact b z, JK.eq (st := t) (fun i j hi hj => h i j hi (by omega)) c⟩
def KW (m m' : GH) : Prop := ∀ i j, i ≠ 1 → ¬ (i = 0 ∧ 13 ≤ j ∧ j ≤ 15) → m' i j = m i j
theorem KW.tr {a b c : GH} (h1 : KW a b) (h2 : KW b c) : KW a c := fun i j p q => (h2 i j p q).trans (h1 i j p q)
theorem KW.rf (m : GH) : KW m m := fun _ _ _ _ => rfl
theorem KW.u {m a : GH} {j v : Int} (h : KW m a) (hj : 13 ≤ j ∧ j ≤ 15) : KW m (up a 0 j v) := fun p q x y => by rw [up_o (by omega)]; exact h p q x y
theorem KW.pt {m a : GH} {c : Int} (h : KW m a) : KW m (put a c) := fun p q x y => by unfold put; rw [up_o (by omega), up_i x]; exact h p q x y
/-- the reference stands in a condition where the machine stands, that began at x0 -/
def MS (T : Int → Int) (n : Int) (g0 : GH) (x0 : XS) (m0 : GH) (g : GH) (ph : Nat) (s : Int) (m : GH) (st : List (Int × Int)) : Prop := CK 2450 g0 g ∧ Rch T n x0 (ph, s, m, st) ∧ KW m0 m ∧ LV T n g s ∧ STM g m ∧ JK g st ∧ g 165 36 = (st.length : Int) - 1
def ME2 (T : Int → Int) (n : Int) (g0 : GH) (x0 : XS) (r : GH) (Q : QJ) : Prop := ∀ g' s' m' st', CK 2450 g0 g' → Rch T n x0 (91, s', m', st') → BAD g' s' → Q 0 g' r
theorem OX.ck {g0 a b : GH} (h : CK 2450 g0 a) (e : OX a b) : CK 2450 g0 b := h.rx e.rx
theorem LV.ws {T : Int → Int} {n s : Int} {g : GH} {k a b v : Int} (h : LV T n g s) : LV T n (WS g k a b v) s := ⟨h.1.eq (fun i j hi => ws_o (by omega)), by rw [ws_o (by omega)]; exact h.2⟩
theorem LV.up {T : Int → Int} {n s : Int} {g : GH} {i j v : Int} (h : LV T n g s) (hi : (i = 165 ∧ j = 36) ∨ i = 190 ∨ i = 191) : LV T n (up g i j v) s := ⟨h.1.eq (fun p q hp => up_o (by omega)), by rw [up_o (by omega)]; exact h.2⟩
theorem STM.up {g m : GH} {i j v : Int} (h : STM g m) (hi : (i = 165 ∧ j = 36) ∨ i = 190 ∨ i = 191) : STM (up g i j v) m := h.eq (fun p q hp => up_o (by omega))
theorem STM.ox {g g' m : GH} (h : STM g m) (e : OX g g') : STM g' m := h.eq (fun i j hi => e i j (by omega))
theorem JK.ox {g g' : GH} {st : List (Int × Int)} (h : JK g st) (e : OX g g') : JK g' st := JK.eq (fun i j hi _ => e i j (by omega)) h
theorem JK.ws {g : GH} {st : List (Int × Int)} {k a b v : Int} (h : JK g st) : JK (WS g k a b v) st := JK.eq (fun i j hi _ => ws_o (by omega)) h
theorem JK.jo {g : GH} {k j v : Int} {t : List (Int × Int)} (h : JK g ((k, j) :: t)) : JK (up g 191 (t.length : Int) v) ((k, v) :: t) := by
  obtain ⟨a, b, c⟩ := h
  exact ⟨up_s, fun z => by rw [up_i (by decide)]; exact b z, JK.eq (fun p q hp hq => up_o (by omega)) c⟩
section MCD
variable {sc : SCR} {d : Nat} {Q : QJ} {g r : GH} {l0 l1 l2 n s : Int} {T : Int → Int} {m g0 m0 : GH} {x0 : XS} {st : List (Int × Int)} {ph : Nat}
theorem STM.b (h : STM g m) (hx : XI T n x0) (rc : Rch T n x0 (ph, s, m, st)) (hn : n ≤ 700) : 2450 ≤ g 165 31 ∧ g 165 31 ≤ 2800 := by
  have := (hx.r rc).c350 hn
  have := h.1
  have : 0 ≤ m 0 13 ∧ m 0 13 ≤ 350 := (hx.r rc).c350 hn
  omega
theorem f_152 (hr : RI r) (hx : XI T n x0) (hs : MS T n g0 x0 m0 g 30 s m st) (n14 : ¬ isW T n s (wdl 14) = true) (n40 : ¬ isS T n s 40 = true) (hN : ∀ g' s' m', MS T n g0 x0 m0 g' 31 s' m' st → s < s' → Q 0 g' r) (hE : ME2 T n g0 x0 r Q) : Ce sc (d + 4) 152 [(2, 165)] g r Q := by
  have k9 : okr 218 165 9 := okd (by decide +kernel)
  obtain ⟨ck, rc, kw, lv, stm, jk, e36⟩ := hs
  have hn := lv.1.1.1
  have w3 : ∀ {g1 : GH}, OX g g1 → g1 165 31 = g 165 31 := fun e => e 165 31 (by decide)
  refine c_152 ⟨k9, f_150 lv (ite_c (fun z => ⟨k9, f_145 lv (fun v g' e b => hE g' s m st (fun i j p q u t => (e i j (by omega)).trans (ck i j p q u t)) (rc.st ?_) b)⟩) (fun z => ⟨k9, ?_⟩))⟩
  · show (if isW T n s (wdl 14) = true then _ else if isS T n s 40 = true then _ else if wS T n s = -1 then _ else _) = _
    have := wS_b (T := T) (n := n) (s := s)
    rw [if_neg n14, if_neg n40, if_pos (by omega)]
  have wb := wS_b (T := T) (n := n) (s := s)
  have ex1 : xp T n 30 s m st = (34, nx T n s, up m 0 14 (wS T n s), st) := by
    show (if isW T n s (wdl 14) = true then _ else if isS T n s 40 = true then _ else if wS T n s = -1 then _ else _) = _
    rw [if_neg n14, if_neg n40, if_neg (by omega)]
  refine fn_144 hr lv.1 (fun _ g2 o2 t2 => ⟨k9, ?_⟩)
  have lv2 : LV T n g2 (nx T n s) := lv.nx o2 t2
  rw [t2.f29]
  have tc : ∀ c : Int, (c = 59 ∨ c = 40 ∨ c = 41 ∨ c = 60 ∨ c = 62 ∨ c = 61) → (tokM T n (nx T n s) = c ↔ isS T n (nx T n s) c = true) := fun c hc => tok_c hc
  have fin : ∀ k : Int, sS T n (nx T n s) = k → 0 ≤ k ∧ k ≤ 2 → tokM T n (nx T n s) = sgc k → okr 218 165 9 ∧ Ce sc (d + 3) 144 [(2, 165)] g2 r fun v3 g3 r3 => okr 218 165 9 ∧ Ce sc (d + 3) 149 [(2, 165), (0, 0), (0, 9999)] g3 r3 fun v4 g4 r4 => okr 218 165 9 ∧ Ce sc (d + 3) 151 [(2, 165), (0, 0), (0, wS T n s), (0, tokM T n (nx T n s)), (0, v4)] g4 r4 fun v5 g5 r5 => Q 0 g5 r5 := by
    intro k hk kb tk
    have ex2 : xp T n 34 (nx T n s) (up m 0 14 (wS T n s)) st = (35, nx T n (nx T n s), up (up m 0 14 (wS T n s)) 0 15 k, st) := by
      show (if sS T n (nx T n s) = -1 then _ else _) = _
      rw [if_neg (by omega), hk]
    have rc2 := (rc.st ex1).st ex2
    have x2 := hx.r rc2
    -- there is room for one more
    have room : m 0 13 ≤ 349 ∧ 0 ≤ m 0 13 := by
      have c13 : (up (up m 0 14 (wS T n s)) 0 15 k) 0 13 = m 0 13 := by rw [up_j (by decide), up_j (by decide)]
      have a := x2.2.2.1
      have b : 0 ≤ (up (up m 0 14 (wS T n s)) 0 15 k) 0 13 := x2.2.1
      have c := x2.1.2.1
      have a : 2 * ((up (up m 0 14 (wS T n s)) 0 15 k) 0 13 + pd st + 1) ≤ nx T n (nx T n s) := a
      have c : nx T n (nx T n s) ≤ n := c
      have := pd_b st
      omega
    have w31 := stm.1
    refine ⟨k9, fn_144 hr lv2.1 (fun _ g3 o3 t3 => ⟨k9, ?_⟩)⟩
    have lv3 := lv2.nx o3 t3
    have o23 := o2.tr o3
    refine f_149 hr lv3 (fun z g4 o4 lv4 => ⟨k9, ?_⟩) (fun z g4 e4 b4 => ⟨k9, ?_⟩)
    · have o4' := o23.tr o4
      have e31 := w3 o4'
      have ex3 : xp T n 35 (nx T n (nx T n s)) (up (up m 0 14 (wS T n s)) 0 15 k) st = (31, nx T n (nx T n (nx T n s)), put (up (up m 0 14 (wS T n s)) 0 15 k) ((wS T n s * 3 + k) * 10000 + nb T n (nx T n (nx T n s))), st) := by
        show (if isN T n (nx T n (nx T n s)) 0 9999 = true then (31, nx T n (nx T n (nx T n s)), put (up (up m 0 14 (wS T n s)) 0 15 k) (((up (up m 0 14 (wS T n s)) 0 15 k) 0 14 * 3 + (up (up m 0 14 (wS T n s)) 0 15 k) 0 15) * 10000 + nb T n (nx T n (nx T n s))), st) else _) = _
        rw [if_pos z, up_s, up_j (show (14 : Int) ≠ 15 by decide), up_s]
      have nbb := isN_t.mp z
      refine s_151 hr (by omega) (by omega) (fun v => hN _ _ _ ⟨(OX.ck ck o4').ws (by omega), rc2.st ex3, ((kw.u (by decide)).u (by decide)).pt, lv4.ws, ?_, (jk.ox o4').ws, ?_⟩ ?_)
      · refine (((stm.ox o4').rg (by decide)).rg (by decide)).pt (Or.inr (Or.inr (Or.inr ⟨wS T n s, k, nb T n (nx T n (nx T n s)), ⟨by omega, by omega⟩, kb, ⟨nbb.2.2.1, nbb.2.2.2⟩, rfl, ws_185, ws_186, ?_, ws_188⟩)))
        rw [ws_187, tk]
      · rw [ws_o (by omega), o4' 165 36 (by decide)]; exact e36
      · have := (wS_nx (T := T) (n := n) (s := s) (by omega)).1
        have := (en_le lv2.1.ts).2
        have := nx_ge (T := T) (n := n) (s := nx T n s)
        have := (en_le lv3.1.ts).2
        have := nx_ge (T := T) (n := n) (s := nx T n (nx T n s))
        omega
    · have ex3 : xp T n 35 (nx T n (nx T n s)) (up (up m 0 14 (wS T n s)) 0 15 k) st = (91, nx T n (nx T n s), up (up m 0 14 (wS T n s)) 0 15 k, st) := by
        show (if isN T n (nx T n (nx T n s)) 0 9999 = true then _ else _) = _
        rw [if_neg z]
      have e31 : g4 165 31 = g 165 31 := by rw [e4 165 31 (by omega)]; exact w3 o23
      have ck4 : CK 2450 g0 g4 := fun i j p q u t => (e4 i j (by omega)).trans ((OX.ck ck o23) i j p q u t)
      refine s_151 hr (by omega) (by omega) (fun v => hE _ _ _ _ (ck4.ws (by omega)) (rc2.st ex3) ⟨?_, ?_⟩)
      · rw [ws_o (by omega)]; exact b4.1
      · rw [ws_o (by omega)]; exact b4.2
  refine ite_c (fun a => fin 0 (sS_0 ((tc 60 (by decide)).mp a)) (by decide) (by rw [a]; rfl)) (fun a => ite_c (fun b => fin 1 (sS_1 (fun z => a ((tc 60 (by decide)).mpr z)) ((tc 62 (by decide)).mp b)) (by decide) (by rw [b]; rfl)) (fun b => ite_c (fun c => fin 2 (sS_2 (fun z => a ((tc 60 (by decide)).mpr z)) (fun z => b ((tc 62 (by decide)).mpr z)) ((tc 61 (by decide)).mp c)) (by decide) (by rw [c]; rfl)) (fun c => ⟨k9, f_145 lv2 (fun v g' e bb => ?_)⟩)))
  have ex2 : xp T n 34 (nx T n s) (up m 0 14 (wS T n s)) st = (91, nx T n s, up m 0 14 (wS T n s), st) := by
    show (if sS T n (nx T n s) = -1 then _ else _) = _
    rw [if_pos (sS_n (fun z => a ((tc 60 (by decide)).mpr z)) (fun z => b ((tc 62 (by decide)).mpr z)) (fun z => c ((tc 61 (by decide)).mpr z)))]
  exact hE g' _ _ _ (fun i j p q u t => (e i j (by omega)).trans ((OX.ck ck o2) i j p q u t)) ((rc.st ex1).st ex2) bb
end MCD
