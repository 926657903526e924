/-! the class's tokens are the text's -/
def kc (b : Int) : Int := if cB b = true then 4 else if cW b = true then 1 else if cN b = true then 2 else if cS b = true then 3 else 5
/-- the reader's rows hold the text's tokens -/
def ARC (T : Int → Int) (n : Int) (g : GH) : Prop := ∃ M : Nat, tk T n M = n ∧ (∀ j : Nat, j < M → tk T n j < n) ∧ ∀ j : Nat, j ≤ M → g 3 (j : Int) = kd T n (tk T n j) ∧ g 4 (j : Int) = tk T n j ∧ g 5 (j : Int) = en T n (tk T n j)
/-- the reader stands before the token at s -/
def TKC (T : Int → Int) (n : Int) (g : GH) (s : Int) : Prop := ∃ k : Nat, s = tk T n k ∧ (s = n → ∀ j : Nat, j < k → tk T n j < n) ∧ g 1 6 = (k : Int) ∧ g 1 7 = kd T n s ∧ g 1 8 = s ∧ g 1 9 = en T n s
def RD (T : Int → Int) (n : Int) (g : GH) (s : Int) : Prop := (∀ p, g 2 p = T p) ∧ (0 ≤ n ∧ n ≤ 700) ∧ ARC T n g ∧ TKC T n g s
/-- all but the reader's own numbers -/
def CF (g g' : GH) : Prop := ∀ i j, ¬ (i = 1 ∧ 6 ≤ j ∧ j ≤ 10) → g' i j = g i j
theorem CF.rf (g : GH) : CF g g := fun _ _ _ => rfl
theorem CF.tr {a b c : GH} (h1 : CF a b) (h2 : CF b c) : CF a c := fun i j h => (h2 i j h).trans (h1 i j h)
theorem CF.u {a b : GH} {j v : Int} (h : CF a b) (hj : 6 ≤ j ∧ j ≤ 10) : CF a (up b 1 j v) := fun i k hi => by
  have : ¬ (i = 1 ∧ k = j) := fun q => hi ⟨q.1, by rw [q.2]; exact hj⟩
  rw [up_o this]; exact h i k hi
theorem ARC.eq {T : Int → Int} {n : Int} {g g' : GH} (h : ARC T n g) (e : ∀ i j, i = 3 ∨ i = 4 ∨ i = 5 → g' i j = g i j) : ARC T n g' := by
  obtain ⟨M, a, b, c⟩ := h
  refine ⟨M, a, b, fun j hj => ?_⟩
  rw [e 3 _ (by decide), e 4 _ (by decide), e 5 _ (by decide)]; exact c j hj
/-- nothing of the text, nor of the reader, has changed -/
theorem RD.eq {T : Int → Int} {n s : Int} {g g' : GH} (h : RD T n g s) (e : ∀ i j, i = 2 ∨ i = 3 ∨ i = 4 ∨ i = 5 ∨ (i = 1 ∧ 6 ≤ j ∧ j ≤ 9) → g' i j = g i j) : RD T n g' s := by
  obtain ⟨h1, h2, h3, k, a, b, c⟩ := h
  refine ⟨fun p => by rw [e 2 p (by omega)]; exact h1 p, h2, h3.eq (fun i j hi => e i j (by omega)), k, a, b, ?_⟩
  rw [e 1 6 (by omega), e 1 7 (by omega), e 1 8 (by omega), e 1 9 (by omega)]; exact c
theorem RD.ts {T : Int → Int} {n s : Int} {g : GH} (h : RD T n g s) : TS T n s := by
  obtain ⟨_, h2, _, k, a, _⟩ := h
  rw [a]; exact tk_ts h2.1 k
theorem RD.f7 {T : Int → Int} {n s : Int} {g : GH} (h : RD T n g s) : g 1 7 = kd T n s := by
  obtain ⟨_, _, _, k, _, _, _, a, _⟩ := h; exact a
theorem RD.f8 {T : Int → Int} {n s : Int} {g : GH} (h : RD T n g s) : g 1 8 = s := by
  obtain ⟨_, _, _, k, _, _, _, _, a, _⟩ := h; exact a
theorem RD.f9 {T : Int → Int} {n s : Int} {g : GH} (h : RD T n g s) : g 1 9 = en T n s := by
  obtain ⟨_, _, _, k, _, _, _, _, _, a⟩ := h; exact a
theorem kd_kc {T : Int → Int} {n s : Int} (h : s < n) (hb : cB (T s) = false) : kd T n s = kc (T s) := by
  unfold kd kc
  rw [if_pos h, if_neg (c := cB (T s) = true) (by rw [hb]; decide)]
theorem kc_4 {b : Int} : kc b = 4 ↔ cB b = true := by
  unfold kc
  by_cases z : cB b = true
  · rw [if_pos z]; exact ⟨fun _ => z, fun _ => rfl⟩
  · rw [if_neg z]
    refine ⟨fun h => ?_, fun h => absurd h z⟩
    split at h
    · exact absurd h (by decide)
    · split at h
      · exact absurd h (by decide)
      · split at h <;> exact absurd h (by decide)
section CLX
variable {sc : SCR} {d : Nat} {Q : QJ} {g r : GH} {l0 l1 l2 l3 l4 l5 n s : Int} {T : Int → Int}
theorem w_34 (h : Q (kc l0) g r) : Ce sc (d + 1) 34 [(0, l0)] g r Q := by
  have val : ∀ v : Int, kc l0 = v → Q v g r := fun v e => by rw [← e]; exact h
  have cb : ∀ {b : Bool} {p : Prop} [Decidable p], b = decide p → (¬ p) → ¬ b = true := fun e np z => np (by rw [e] at z; exact of_decide_eq_true z)
  have e42 : ¬ (l0 = 32 ∨ l0 = 10) → ¬ (97 ≤ l0 ∧ l0 ≤ 122) → ¬ (48 ≤ l0 ∧ l0 ≤ 57) → WQ sc d 34 Q 42 [(0, l0), (9, 0)] [] g r := by
    intro a b c
    have k0 : kc l0 = if cS l0 = true then 3 else 5 := by
      unfold kc
      rw [if_neg (fun z => a (cB_t.mp z)), if_neg (fun z => b (cW_t.mp z)), if_neg (fun z => c (cN_t.mp z))]
    have y : (l0 = 59 ∨ l0 = 40 ∨ l0 = 41 ∨ l0 = 60 ∨ l0 = 62 ∨ l0 = 61) → Q 3 g r := fun z => val 3 (by rw [k0, if_pos (cS_t.mpr z)])
    refine b_34_42 (ite_c (fun z => y (by omega)) (fun _ => ite_c (fun z => y (by omega)) (fun _ => ite_c (fun z => y (by omega)) (fun _ => ite_c (fun z => y (by omega)) (fun _ => ite_c (fun z => y (by omega)) (fun _ => ite_c (fun z => y (by omega)) (fun _ => val 5 ?_)))))))
    rw [k0, if_neg (fun z => by have := cS_t.mp z; omega)]
  have y4 : (l0 = 32 ∨ l0 = 10) → Q 4 g r := fun z => val 4 (kc_4.mpr (cB_t.mpr z))
  have y1 : 97 ≤ l0 ∧ l0 ≤ 122 → Q 1 g r := fun z => val 1 (by unfold kc; rw [if_neg (fun q => by have := cB_t.mp q; omega), if_pos (cW_t.mpr z)])
  have y2 : 48 ≤ l0 ∧ l0 ≤ 57 → Q 2 g r := fun z => val 2 (by unfold kc; rw [if_neg (fun q => by have := cB_t.mp q; omega), if_neg (fun q => by have := cW_t.mp q; omega), if_pos (cN_t.mpr z)])
  refine c_34 (ite_c (fun z => y4 (by omega)) (fun a => ite_c (fun z => y4 (by omega)) (fun b => ite_c (fun c => ite_c (fun _ => e42 (by omega) (by omega) (by omega)) (fun _ => ite_c (fun _ => e42 (by omega) (by omega) (by omega)) (fun _ => y2 (by omega)))) (fun c => ite_c (fun _ => ite_c (fun _ => e42 (by omega) (by omega) (by omega)) (fun _ => ite_c (fun _ => e42 (by omega) (by omega) (by omega)) (fun _ => y2 (by omega)))) (fun _ => y1 (by omega))))))
/-- one token on, at a place of the rows -/
theorem w_35 (hr : RI r) {k : Nat} (hT : ∀ p, g 2 p = T p) (hn : 0 ≤ n ∧ n ≤ 700) (ha : ARC T n g) (h6 : g 1 6 = (k : Int) - 1) (hk : ∀ j : Nat, j < k → tk T n j < n) (h : ∀ v g', CF g g' → RD T n g' (tk T n k) → g' 1 10 = g 1 10 → Q v g' r) : Ce sc (d + 1) 35 [(2, 1)] g r Q := by
  have k1 : okr 218 1 5 := okd (by decide +kernel)
  have ha0 := ha
  obtain ⟨M, a1, a2, a3⟩ := ha
  have kM : k ≤ M := by
    by_cases z : k ≤ M
    · exact z
    · have := hk M (by omega); omega
  have mn : (k : Int) ≤ 700 := by
    cases k with
    | zero => omega
    | succ k =>
      have h1 := hk k (by omega)
      have := tk_lt (T := T) hn.1 k h1
      omega
  have c := a3 k kM
  refine c_35 ⟨k1, k1, fun g1 e1 => ⟨k1, ?_⟩⟩
  rw [h6, show (k : Int) - 1 + 1 = (k : Int) by omega, wr_id ⟨by omega, by omega⟩] at e1
  have f6 : g1 1 6 = (k : Int) := by rw [e1, up_s]
  rw [f6, r_1_3 hr, n_3, r_1_4 hr, r_1_5 hr]
  refine ite_c (fun z => absurd z (by omega)) (fun _ => ?_)
  refine ⟨k1, k1, a_3.mpr trivial, ?_⟩
  rw [if_pos (show (k : Int) < 701 by omega)]
  refine ⟨k1, k1, i_3.mpr ⟨by omega, by omega⟩, k1, fun g2 e2 => ⟨k1, k1, ?_⟩⟩
  have f62 : g2 1 6 = (k : Int) := by rw [e2, up_j (by decide)]; exact f6
  rw [f62]
  refine ⟨i_4.mpr ⟨by omega, by omega⟩, k1, fun g3 e3 => ⟨k1, k1, ?_⟩⟩
  have f63 : g3 1 6 = (k : Int) := by rw [e3, up_j (by decide)]; exact f62
  rw [f63]
  refine ⟨i_5.mpr ⟨by omega, by omega⟩, k1, fun g4 e4 => h _ _ ?_ ?_ (by rw [e4, up_j (by decide), e3, up_j (by decide), e2, up_j (by decide), e1, up_j (by decide)])⟩
  · rw [e4, e3, e2, e1]
    exact ((((CF.rf g).u (by decide)).u (by decide)).u (by decide)).u (by decide)
  · have n1 : ∀ i j, i ≠ 1 → g1 i j = g i j := fun i j q => by rw [e1, up_i q]
    have n2 : ∀ i j, i ≠ 1 → g2 i j = g i j := fun i j q => by rw [e2, up_i q]; exact n1 i j q
    have n3 : ∀ i j, i ≠ 1 → g3 i j = g i j := fun i j q => by rw [e3, up_i q]; exact n2 i j q
    have n4 : ∀ i j, i ≠ 1 → g4 i j = g i j := fun i j q => by rw [e4, up_i q]; exact n3 i j q
    refine ⟨fun p => by rw [n4 2 p (by decide)]; exact hT p, hn, ha0.eq (fun i j hi => n4 i j (by omega)), k, rfl, fun _ => hk, ?_, ?_, ?_, ?_⟩
    · rw [e4, up_j (by decide)]; exact f63
    · rw [e4, up_j (by decide), e3, up_j (by decide), e2, up_s, n1 3 _ (by decide)]; exact c.1
    · rw [e4, up_j (by decide), e3, up_s, n2 4 _ (by decide)]; exact c.2.1
    · rw [e4, up_s, n3 5 _ (by decide)]; exact c.2.2
theorem f_35 (hr : RI r) (hd : RD T n g s) (hs : s < n) (h : ∀ v g', CF g g' → RD T n g' (nx T n s) → g' 1 10 = g 1 10 → Q v g' r) : Ce sc (d + 1) 35 [(2, 1)] g r Q := by
  obtain ⟨h1, h2, h3, k, a, b, c, _⟩ := hd
  refine w_35 hr (k := k + 1) h1 h2 h3 (by rw [c]; omega) (fun j hj => ?_) (fun v g' e f f10 => h v g' e ?_ f10)
  · by_cases z : tk T n j < n
    · exact z
    · have zn : tk T n j = n := by have := (tk_ts (T := T) h2.1 j).2.1; omega
      have up2 : ∀ m : Nat, tk T n (j + m) = n := fun m => by
        induction m with
        | zero => exact zn
        | succ m ih => exact tk_n h2.1 (j + m) ih
      have := up2 (k - j)
      rw [show j + (k - j) = k by omega] at this
      omega
  · rw [a]; exact f
theorem f_36 (hr : RI r) {w : List Int} (ht : okT l1) (hw : am_tx l1 = w) (hd : RD T n g s) (h1 : isW T n s w = true → Q 1 g r) (h0 : ¬ isW T n s w = true → Q 0 g r) : Ce sc (d + 4) 36 [(2, 1), (2, l1)] g r Q := by
  have k1 : okr 218 1 5 := okd (by decide +kernel)
  have ts := hd.ts
  have el := en_le ts
  have hn := hd.2.1
  have hlen := tx_len ht
  have no : ¬ isW T n s w = true → ((0 : Int) = 0 ∨ (0 : Int) = 1) ∧ Q 0 g r := fun z => ⟨Or.inl rfl, h0 z⟩
  refine c_36 ⟨k1, ?_⟩
  rw [hd.f7, hd.f8, hd.f9, hw, wr_id ⟨by have := ts.1; omega, by have := ts.1; omega⟩]
  rw [hw] at hlen
  refine ite_c (fun z1 => ⟨k1, k1, ⟨by omega, ht⟩, ite_c (fun z2 => ?_) (fun z2 => no (fun q => z2 (isW_t.mp q).2.1))⟩) (fun z1 => no (fun q => z1 (isW_t.mp q).1))
  have loop : ∀ i : Int, 0 ≤ i → (∀ j : Nat, (j : Int) < i → T (s + (j : Int)) = w.getD j 0) → WQ sc (d + 3) 36 Q 28 [(2, 1), (2, l1), (0, i), (9, 0)] [] g r := by
    refine upG 20 fun i ih i0 hi => ?_
    refine b_36_28 ⟨⟨by omega, ht⟩, ?_⟩
    rw [hw, hd.f8, r_1_0 hr]
    refine ite_c (fun q => ⟨k1, ?_⟩) (fun q => ⟨Or.inr rfl, h1 (isW_t.mpr ⟨z1, z2, fun j hj => hi j (by omega)⟩)⟩)
    have s0 := ts.1
    have s1 := ts.2.1
    rw [wr_id (x := s + i) ⟨by omega, by omega⟩]
    refine ite_c (fun z => absurd z (by omega)) (fun _ => ite_c (fun _ => ⟨k1, i_2.mpr ⟨by omega, by omega⟩, ⟨by omega, ht, i0, q⟩, ?_⟩) (fun z => absurd z (by omega)))
    have ei : (i.toNat : Int) = i := by omega
    rw [hd.1]
    refine ite_c (fun e => ?_) (fun e => no (fun y => e ?_))
    · rw [wr_id ⟨by omega, by omega⟩]
      refine ih (by omega) (i + 1) (by omega) (by omega) (fun j hj => ?_)
      by_cases y : (j : Int) < i
      · exact hi j y
      · have : j = i.toNat := by omega
        rw [this, ei]; exact e
    · have := (isW_t.mp y).2.2 i.toNat (by omega)
      rw [ei] at this; exact this
  exact loop 0 (Int.le_refl 0) (fun j hj => absurd hj (by omega))
theorem f_37 (hr : RI r) (hd : RD T n g s) (h1 : isS T n s l1 = true → Q 1 g r) (h0 : ¬ isS T n s l1 = true → Q 0 g r) : Ce sc (d + 1) 37 [(2, 1), (0, l1)] g r Q := by
  have k1 : okr 218 1 5 := okd (by decide +kernel)
  have ts := hd.ts
  have hn := hd.2.1
  have no : ¬ isS T n s l1 = true → ((0 : Int) = 0 ∨ (0 : Int) = 1) ∧ Q 0 g r := fun z => ⟨Or.inl rfl, h0 z⟩
  refine c_37 ⟨k1, ?_⟩
  rw [hd.f7, hd.f8, r_1_0 hr]
  refine ite_c (fun z1 => ⟨k1, ?_⟩) (fun z1 => no (fun q => z1 (isS_t.mp q).1))
  have lt := (kd_3.mp z1).1
  have s0 := ts.1
  rw [hd.1]
  exact ite_c (fun z => absurd z (by omega)) (fun _ => ⟨k1, ite_c (fun _ => ⟨k1, k1, i_2.mpr ⟨by omega, by omega⟩, ite_c (fun e => ⟨Or.inr rfl, h1 (isS_t.mpr ⟨z1, e⟩)⟩) (fun e => no (fun q => e (isS_t.mp q).2))⟩) (fun z => absurd z (by omega))⟩)
theorem f_38 (hr : RI r) {w : List Int} (ht : okT l1) (hw : am_tx l1 = w) (hd : RD T n g s) (h1 : isW T n s w = true → ∀ g', CF g g' → RD T n g' (nx T n s) → Q 1 g' r) (h0 : ¬ isW T n s w = true → Q 0 g r) : Ce sc (d + 5) 38 [(2, 1), (2, l1)] g r Q := by
  have k1 : okr 218 1 5 := okd (by decide +kernel)
  refine c_38 ⟨k1, f_36 hr ht hw hd (fun z => ?_) (fun z => ?_)⟩
  · rw [if_neg (by decide)]
    exact ⟨k1, f_35 hr hd (isW_lt z) (fun _ g' e f _ => ⟨Or.inr rfl, h1 z g' e f⟩)⟩
  · rw [if_pos rfl]; exact ⟨Or.inl rfl, h0 z⟩
theorem f_39 (hr : RI r) (hd : RD T n g s) (h1 : isS T n s l1 = true → ∀ g', CF g g' → RD T n g' (nx T n s) → Q 1 g' r) (h0 : ¬ isS T n s l1 = true → Q 0 g r) : Ce sc (d + 2) 39 [(2, 1), (0, l1)] g r Q := by
  have k1 : okr 218 1 5 := okd (by decide +kernel)
  refine c_39 ⟨k1, f_37 hr hd (fun z => ?_) (fun z => ?_)⟩
  · rw [if_neg (by decide)]
    exact ⟨k1, f_35 hr hd (isS_lt z) (fun _ g' e f _ => ⟨Or.inr rfl, h1 z g' e f⟩)⟩
  · rw [if_pos rfl]; exact ⟨Or.inl rfl, h0 z⟩
theorem f_40 (hr : RI r) (hd : RD T n g s) (h1 : isN T n s l1 l2 = true → ∀ g', CF g g' → RD T n g' (nx T n s) → g' 1 10 = nb T n s → Q 1 g' r) (h0 : ¬ isN T n s l1 l2 = true → Q 0 g r) : Ce sc (d + 2) 40 [(2, 1), (0, l1), (0, l2)] g r Q := by
  have k1 : okr 218 1 5 := okd (by decide +kernel)
  have ts := hd.ts
  have el := en_le ts
  have hn := hd.2.1
  have s0 := ts.1
  have no : ¬ isN T n s l1 l2 = true → ((0 : Int) = 0 ∨ (0 : Int) = 1) ∧ Q 0 g r := fun z => ⟨Or.inl rfl, h0 z⟩
  refine c_40 ⟨k1, ?_⟩
  rw [hd.f7, hd.f8, hd.f9, wr_id ⟨by omega, by omega⟩]
  refine ite_c (fun z1 => ⟨k1, k1, ite_c (fun z2 => no (fun q => by have := (isN_t.mp q).2.1; omega)) (fun z2 => ⟨k1, ?_⟩)⟩) (fun z1 => no (fun q => z1 (isN_t.mp q).1))
  have lt := (kd_2.mp z1).1
  have eb := en_b (T := T) lt
  have dig := num_l z1
  have b4 := nb_b z1 (by omega)
  have p4 : ∀ k : Nat, k ≤ 4 → (10 : Int) ^ k ≤ 10000 := fun k hk => by
    have : k = 0 ∨ k = 1 ∨ k = 2 ∨ k = 3 ∨ k = 4 := by omega
    rcases this with rfl | rfl | rfl | rfl | rfl <;> decide
  have fin : (if nb T n s < l1 then ((0 : Int) = 0 ∨ (0 : Int) = 1) ∧ Q 0 g r else (if l2 < nb T n s then ((0 : Int) = 0 ∨ (0 : Int) = 1) ∧ Q 0 g r else okr 218 1 5 ∧ ∀ g1, g1 = up g 1 10 (nb T n s) → okr 218 1 5 ∧ Ce sc (d + 1) 35 [(2, 1)] g1 r fun v1 g2 r1 => ((1 : Int) = 0 ∨ (1 : Int) = 1) ∧ Q 1 g2 r1)) := by
    refine ite_c (fun q => no (fun y => by have := (isN_t.mp y).2.2.1; omega)) (fun q => ite_c (fun q2 => no (fun y => by have := (isN_t.mp y).2.2.2; omega)) (fun q2 => ⟨k1, fun g1 e1 => ⟨k1, ?_⟩⟩))
    have d1 : RD T n g1 s := hd.eq (fun i j hi => by rw [e1, up_o (by omega)])
    have c1 : CF g g1 := by rw [e1]; exact (CF.rf g).u (by decide)
    refine f_35 hr d1 lt (fun _ g2 c2 d2 e10 => ⟨Or.inr rfl, h1 (isN_t.mpr ⟨z1, by omega, by omega, by omega⟩) g2 (c1.tr c2) d2 ?_⟩)
    rw [e10, e1, up_s]
  have loop : ∀ l4 : Int, s ≤ l4 → l4 ≤ en T n s → WQ sc (d + 1) 40 Q 35 [(2, 1), (0, l1), (0, l2), (0, nbF T s (l4 - s).toNat), (0, l4)] [] g r := by
    refine upG (en T n s) fun l4 ih a b => ?_
    refine b_40_35 ⟨k1, ?_⟩
    rw [hd.f9, r_1_0 hr]
    refine ite_c (fun q => ite_c (fun _ => ⟨k1, i_2.mpr ⟨by omega, by omega⟩, ?_⟩) (fun z => absurd z (by omega))) (fun q => ?_)
    · have bb := nbF_b (T := T) (s := s) (l4 - s).toNat (fun i hi => dig i (by omega))
      have p := p4 (l4 - s).toNat (by omega)
      have dd := dig (l4 - s).toNat (by omega)
      have en0 : ((l4 - s).toNat : Int) = l4 - s := by omega
      rw [en0, show s + (l4 - s) = l4 by omega] at dd
      rw [hd.1, wr_id (x := nbF T s (l4 - s).toNat * 10) ⟨by omega, by omega⟩, wr_id (x := nbF T s (l4 - s).toNat * 10 + T l4) ⟨by omega, by omega⟩, wr_id (x := nbF T s (l4 - s).toNat * 10 + T l4 - 48) ⟨by omega, by omega⟩, wr_id (x := l4 + 1) ⟨by omega, by omega⟩]
      have := ih (by omega) (l4 + 1) (by omega) (by omega) (by omega)
      rw [show (l4 + 1 - s).toNat = (l4 - s).toNat + 1 by omega] at this
      have e : nbF T s ((l4 - s).toNat + 1) = nbF T s (l4 - s).toNat * 10 + T l4 - 48 := by
        show nbF T s (l4 - s).toNat * 10 + (T (s + (((l4 - s).toNat : Nat) : Int)) - 48) = _
        rw [en0, show s + (l4 - s) = l4 by omega]; omega
      rw [e] at this
      exact this
    · have : l4 = en T n s := by omega
      subst this
      exact fin
  refine w_248 (fun q => ?_) (fun q => ?_)
  · have : s = 0 := by omega
    have l := loop s (Int.le_refl s) (by omega)
    rw [show (s - s).toNat = 0 by omega] at l
    subst this; exact l
  · have l := loop s (Int.le_refl s) (by omega)
    rw [show (s - s).toNat = 0 by omega] at l
    exact l
end CLX
