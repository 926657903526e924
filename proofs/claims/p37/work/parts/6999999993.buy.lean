/-! buy: the falls tried and the sets of them, both sides -/
def btE (s j : Int) : Int := i_and (i_shr s j) 1
theorem bt_all : (List.range 512).all (fun t => (List.range 9).all (fun m => decide (btE (t : Int) (m : Int) = (t : Int) / 2 ^ m % 2))) = true := by decide +kernel
theorem bt_at {t m : Int} (t0 : 0 ≤ t) (t9 : t < 512) (m0 : 0 ≤ m) (m9 : m < 9) : btE t m = t / 2 ^ m.toNat % 2 := by
  have h := of_decide_eq_true (List.all_eq_true.mp (List.all_eq_true.mp bt_all t.toNat (List.mem_range.mpr (by omega))) m.toNat (List.mem_range.mpr (by omega)))
  rw [Int.toNat_of_nonneg t0, Int.toNat_of_nonneg m0] at h
  exact h
theorem shb_all : (List.range 10).all (fun n => decide (i_shl 1 (n : Int) = 2 ^ n ∧ (1 : Int) ≤ 2 ^ n ∧ (2 : Int) ^ n ≤ 512)) = true := by decide +kernel
theorem sh_at {n : Int} (n0 : 0 ≤ n) (n9 : n ≤ 9) : i_shl 1 n = 2 ^ n.toNat ∧ (1 : Int) ≤ 2 ^ n.toNat ∧ (2 : Int) ^ n.toNat ≤ 512 := by
  have h := of_decide_eq_true (List.all_eq_true.mp shb_all n.toNat (List.mem_range.mpr (by omega)))
  rw [Int.toNat_of_nonneg n0] at h
  exact h
theorem pw_all : (List.range 10).all (fun n => (List.range 9).all (fun j => decide (n ≤ j → (2 : Int) ^ n ≤ 2 ^ j))) = true := by decide +kernel
theorem bt_hi {t n j : Int} (t0 : 0 ≤ t) (n0 : 0 ≤ n) (n9 : n ≤ 9) (tn : t < 2 ^ n.toNat) (nj : n ≤ j) (j9 : j < 9) : btE t j = 0 := by
  have p := (sh_at n0 n9).2.2
  have h := of_decide_eq_true (List.all_eq_true.mp (List.all_eq_true.mp pw_all n.toNat (List.mem_range.mpr (by omega))) j.toNat (List.mem_range.mpr (by omega)))
  have h := h (by omega)
  rw [bt_at t0 (by omega) (by omega) j9, Int.ediv_eq_zero_of_lt t0 (by omega)]
  decide
theorem bt_01 {t j : Int} (t0 : 0 ≤ t) (t9 : t < 512) (j0 : 0 ≤ j) (j9 : j < 9) : btE t j = 0 ∨ btE t j = 1 := by
  rw [bt_at t0 t9 j0 j9]
  generalize t / 2 ^ j.toNat = u
  omega
def sgE (F : Int → Int) (t : Int) : Nat → Int → Int → Int
  | 0, _, s => s
  | m + 1, j, s => sgE F t m (j + 1) (if btE t j = 1 then s + F j else s)
theorem sgE_s {F : Int → Int} {t : Int} {m : Nat} {j s : Int} : sgE F t (m + 1) j s = sgE F t m (j + 1) (if btE t j = 1 then s + F j else s) := rfl
theorem sg_b {F : Int → Int} {t n B : Int} (hF : ∀ j, 0 ≤ j → j < n → 0 ≤ F j ∧ F j ≤ B) (B0 : 0 ≤ B) : ∀ (m : Nat) (j s : Int), 0 ≤ j → j + m ≤ n → 0 ≤ s → s ≤ sgE F t m j s ∧ sgE F t m j s ≤ s + B * m := by
  intro m
  induction m with
  | zero => intro j s _ _ _; exact ⟨Int.le_refl _, by show s ≤ s + B * ((0 : Nat) : Int); rw [show ((0 : Nat) : Int) = 0 by omega, Int.mul_zero]; omega⟩
  | succ m ih =>
    intro j s j0 jm s0
    have f := hF j j0 (by omega)
    have e : B * ((m + 1 : Nat) : Int) = B * (m : Int) + B := by rw [show ((m + 1 : Nat) : Int) = (m : Int) + 1 by omega, Int.mul_add, Int.mul_one]
    rw [sgE_s, e]
    by_cases z : btE t j = 1
    · rw [if_pos z]
      have q := ih (j + 1) (s + F j) (by omega) (by omega) (by omega)
      omega
    · rw [if_neg z]
      have q := ih (j + 1) s (by omega) (by omega) s0
      omega
theorem sg_0 {F : Int → Int} : ∀ (m : Nat) (j s : Int), 0 ≤ j → j + m ≤ 9 → sgE F 0 m j s = s := by
  intro m
  induction m with
  | zero => intro j s _ _; rfl
  | succ m ih =>
    intro j s j0 jm
    have z : btE 0 j = 0 := by rw [bt_at (by decide) (by decide) j0 (by omega), Int.zero_ediv]; decide
    rw [sgE_s, if_neg (by rw [z]; decide)]
    exact ih (j + 1) s (by omega) (by omega)
def byE (V C : Int → Int) (c : Int) : Nat → Int → Int → Int → Int × Int
  | 0, _, b, m => (b, m)
  | k + 1, s, b, m => if m < V s ∧ ¬ c < C s then byE V C c k (s + 1) s (V s) else byE V C c k (s + 1) b m
theorem byE_s {V C : Int → Int} {c : Int} {k : Nat} {s b m : Int} : byE V C c (k + 1) s b m = if m < V s ∧ ¬ c < C s then byE V C c k (s + 1) s (V s) else byE V C c k (s + 1) b m := rfl
/-- the value of a purchase: falls' yields Y and prices P, n of them -/
def BV (Y P : Int → Int) (n c w : Int) : Int := if w = 0 then (byE (fun s => sgE Y s n.toNat 0 0) (fun s => sgE P s n.toNat 0 0) c (2 ^ n.toNat : Int).toNat 0 0 0).1 else if w = 1 then (byE (fun s => sgE Y s n.toNat 0 0) (fun s => sgE P s n.toNat 0 0) c (2 ^ n.toNat : Int).toNat 0 0 0).2 else sgE P (byE (fun s => sgE Y s n.toNat 0 0) (fun s => sgE P s n.toNat 0 0) c (2 ^ n.toNat : Int).toNat 0 0 0).1 n.toNat 0 0
section BUY
variable {sc : SCR} {d : Nat} {Q : QJ} {g r : GH} {Y P : Int → Int} {l0 l1 l2 l3 l4 l5 x y k n p s a : Int}
/-- a set's yield, the class -/
theorem f_113 (hr : RI r) (n0 : 0 ≤ n) (n9 : n ≤ 9) (hY : ∀ j, 0 ≤ j → j < n → 0 ≤ Y j ∧ Y j ≤ 10000000000000000) (h61 : ∀ j, 0 ≤ j → j < n → g 61 j = Y j) (s0 : 0 ≤ l1) (s9 : l1 < 2 ^ n.toNat) (hq : Q (sgE Y l1 n.toNat 0 0) g r) : Ce sc (d + 1) 113 [(2, 0), (0, l1)] g r Q := by
  have k0 : okr 218 0 8 := okd (by decide +kernel)
  have sh := sh_at n0 n9
  have loop : ∀ (m : Nat) (j s : Int), 0 ≤ j → j + m = 9 → 0 ≤ s → s ≤ 10000000000000000 * j → (j ≤ n → sgE Y l1 (n - j).toNat j s = sgE Y l1 n.toNat 0 0) → (n ≤ j → s = sgE Y l1 n.toNat 0 0) → WQ sc d 113 Q 5 [(2, 0), (0, l1), (1, s), (8, 0), (0, j)] [] g r := by
    intro m
    induction m with
    | zero =>
      intro j s j0 e s0' s1 _ e2
      refine b_113_5 ⟨k0, ?_⟩
      rw [r_0_15 hr]
      refine ⟨by decide +kernel, ?_⟩
      rw [n_61]
      refine ite_c (fun z => absurd z (by omega)) (fun _ => ?_)
      rw [e2 (by omega)]; exact hq
    | succ m ih =>
      intro j s j0 e s0' s1 e1 e2
      refine b_113_5 ⟨k0, ?_⟩
      rw [r_0_15 hr]
      refine ⟨by decide +kernel, ?_⟩
      rw [n_61, wr_id (x := j + 1) ⟨by omega, by omega⟩]
      refine ite_c (fun _ => ?_) (fun z => absurd (by omega) z)
      by_cases hj : j < n
      · have tn : (n - j).toNat = (n - (j + 1)).toNat + 1 := by omega
        have e1 := e1 (by omega)
        rw [tn, sgE_s] at e1
        have y := hY j j0 hj
        refine ite_c (fun b => ?_) (fun b => ?_)
        · have b' : btE l1 j = 1 := b
          rw [if_pos b'] at e1
          rw [h61 j j0 hj, wL_id (x := s + Y j) ⟨by omega, by omega⟩]
          refine ⟨k0, i_61.mpr ⟨j0, by omega⟩, ih (j + 1) (s + Y j) (by omega) (by omega) (by omega) (by omega) (fun _ => e1) (fun z => ?_)⟩
          rw [show (n - (j + 1)).toNat = 0 by omega] at e1
          exact e1
        · have b' : ¬ btE l1 j = 1 := b
          rw [if_neg b'] at e1
          rw [show s + 0 = s by omega, wL_id (x := s) ⟨by omega, by omega⟩]
          refine ih (j + 1) s (by omega) (by omega) s0' (by omega) (fun _ => e1) (fun z => ?_)
          rw [show (n - (j + 1)).toNat = 0 by omega] at e1
          exact e1
      · have b0 : btE l1 j = 0 := bt_hi s0 n0 n9 s9 (by omega) (by omega)
        refine ite_c (fun b => ?_) (fun b => ?_)
        · have b' : btE l1 j = 1 := b
          rw [b0] at b'
          exact absurd b' (by decide)
        · rw [show s + 0 = s by omega, wL_id (x := s) ⟨by omega, by omega⟩]
          exact ih (j + 1) s (by omega) (by omega) s0' (by omega) (fun z => absurd z (by omega)) (fun _ => e2 (by omega))
  refine c_113 (loop 9 0 0 (by decide) (by decide) (by decide) (by decide) (fun _ => ?_) (fun z => ?_))
  · rw [Int.sub_zero]
  · rw [show n.toNat = 0 by omega]; rfl
/-- a set's price, the class -/
theorem f_114 (hr : RI r) (n0 : 0 ≤ n) (n9 : n ≤ 9) (hP : ∀ j, 0 ≤ j → j < n → 0 ≤ P j ∧ P j ≤ 9999) (h58 : g 58 2 = n) (h60 : ∀ j, 0 ≤ j → j < n → g 60 j = P j) (hq : Q (sgE P l1 n.toNat 0 0) g r) : Ce sc (d + 2) 114 [(2, 0), (0, l1)] g r Q := by
  have k0 : okr 218 0 8 := okd (by decide +kernel)
  have kp : okr 218 58 3 := okd (by decide +kernel)
  have B : AL 60 11 9 := ⟨okd (by decide +kernel), n_60⟩
  have loop : ∀ (m : Nat) (j s : Int), 0 ≤ j → j + m = n → 0 ≤ s → s ≤ 9999 * j → sgE P l1 m j s = sgE P l1 n.toNat 0 0 → WQ sc (d + 1) 114 Q 4 [(2, 0), (0, l1), (0, s), (0, j)] [] g r := by
    intro m
    induction m with
    | zero =>
      intro j s j0 e s0 s1 es
      have es' : s = sgE P l1 n.toNat 0 0 := es
      refine b_114_4 ⟨k0, ?_⟩
      rw [r_0_14 hr, h58]
      refine ⟨kp, ite_c (fun z => absurd z (by omega)) (fun _ => ?_)⟩
      rw [es']; exact hq
    | succ m ih =>
      intro j s j0 e s0 s1 es
      rw [sgE_s] at es
      have q := hP j j0 (by omega)
      refine b_114_4 ⟨k0, ?_⟩
      rw [r_0_14 hr, h58, wr_id (x := j + 1) ⟨by omega, by omega⟩]
      refine ⟨kp, ite_c (fun _ => ite_c (fun b => ?_) (fun b => ?_)) (fun z => absurd (by omega) z)⟩
      · have b' : btE l1 j = 1 := b
        rw [if_pos b'] at es
        refine ⟨k0, kp, w_26 (b := 0) kp (r_58_1 hr) B j0 (by omega) ?_⟩
        rw [h60 j j0 (by omega), wr_id (x := s + P j) ⟨by omega, by omega⟩]
        exact ih (j + 1) (s + P j) (by omega) (by omega) (by omega) (by omega) es
      · have b' : ¬ btE l1 j = 1 := b
        rw [if_neg b'] at es
        rw [show s + 0 = s by omega, wr_id (x := s) ⟨by omega, by omega⟩]
        exact ih (j + 1) s (by omega) (by omega) s0 (by omega) es
  exact c_114 (loop n.toNat 0 0 (by decide) (by omega) (by decide) (by decide) rfl)
/-- the sets one by one, the class -/
theorem f_112b (hr : RI r) (n0 : 0 ≤ n) (n9 : n ≤ 9) (hY : ∀ j, 0 ≤ j → j < n → 0 ≤ Y j ∧ Y j ≤ 10000000000000000) (hP : ∀ j, 0 ≤ j → j < n → 0 ≤ P j ∧ P j ≤ 9999) (h58 : g 58 2 = n) (h60 : ∀ j, 0 ≤ j → j < n → g 60 j = P j) (h61 : ∀ j, 0 ≤ j → j < n → g 61 j = Y j) (w2 : 0 ≤ l4 ∧ l4 ≤ 2) (hq : Q (BV Y P n l3 l4) g r) : WQ sc (d + 2) 112 Q 122 [(2, 0), (9, 0), (9, 0), (0, l3), (0, l4), (9, 0), (0, 0), (1, 0), (8, 0), (0, 0), (9, 0), (9, 0)] [] g r := by
  have k0 : okr 218 0 8 := okd (by decide +kernel)
  have kp : okr 218 58 3 := okd (by decide +kernel)
  obtain ⟨sh, p1, p5⟩ := sh_at n0 n9
  have loop : ∀ (k : Nat) (s b m : Int), 0 ≤ s → s + k = 2 ^ n.toNat → 0 ≤ b → b < 2 ^ n.toNat → byE (fun s => sgE Y s n.toNat 0 0) (fun s => sgE P s n.toNat 0 0) l3 k s b m = byE (fun s => sgE Y s n.toNat 0 0) (fun s => sgE P s n.toNat 0 0) l3 (2 ^ n.toNat : Int).toNat 0 0 0 → WQ sc (d + 2) 112 Q 122 [(2, 0), (9, 0), (9, 0), (0, l3), (0, l4), (9, 0), (0, b), (1, m), (8, 0), (0, s), (9, 0), (9, 0)] [] g r := by
    intro k
    induction k with
    | zero =>
      intro s b m s0 e b0 b1 es
      have es' : (b, m) = byE (fun s => sgE Y s n.toNat 0 0) (fun s => sgE P s n.toNat 0 0) l3 (2 ^ n.toNat : Int).toNat 0 0 0 := es
      have hq' := hq
      unfold BV at hq'
      rw [← es'] at hq'
      refine b_112_122 ⟨k0, ?_⟩
      rw [r_0_14 hr, h58, sh]
      refine ⟨kp, ite_c (fun z => absurd z (by omega)) (fun _ => ite_c (fun z => ?_) (fun z => ite_c (fun y => ?_) (fun y => ⟨k0, f_114 (d := d) hr n0 n9 hP h58 h60 ?_⟩)))⟩
      · rw [if_pos z] at hq'; exact hq'
      · rw [if_neg z, if_pos y] at hq'; exact hq'
      · rw [if_neg z, if_neg y] at hq'; exact hq'
    | succ k ih =>
      intro s b m s0 e b0 b1 es
      rw [byE_s] at es
      refine b_112_122 ⟨k0, ?_⟩
      rw [r_0_14 hr, h58, sh, wr_id (x := s + 1) ⟨by omega, by omega⟩]
      refine ⟨kp, ite_c (fun _ => ⟨k0, f_113 (d := d + 1) hr n0 n9 hY h61 s0 (by omega) (ite_c (fun z => ⟨k0, f_114 (d := d) hr n0 n9 hP h58 h60 (ite_c (fun y => ?_) (fun y => ?_))⟩) (fun z => ?_))⟩) (fun z => absurd (by omega) z)⟩
      · rw [if_neg (fun q => q.2 y)] at es
        exact ih (s + 1) b m (by omega) (by omega) b0 b1 es
      · rw [if_pos ⟨cmp_gt.mp z, y⟩] at es
        exact ih (s + 1) s _ (by omega) (by omega) s0 (by omega) es
      · rw [if_neg (fun q => z (cmp_gt.mpr q.1))] at es
        exact ih (s + 1) b m (by omega) (by omega) b0 b1 es
  exact loop (2 ^ n.toNat : Int).toNat 0 0 0 (by decide) (by omega) (by decide) (by omega) rfl
/-- the sets one by one, the reference -/
theorem f_237b (hr : RI r) (n0 : 0 ≤ n) (n9 : n ≤ 9) (hY : ∀ j, 0 ≤ j → j < n → 0 ≤ Y j ∧ Y j ≤ 10000000000000000) (hP : ∀ j, 0 ≤ j → j < n → 0 ≤ P j ∧ P j ≤ 9999) (h66 : g 165 66 = n) (h13 : ∀ j, 0 ≤ j → j < n → g 213 j = P j) (h14 : ∀ j, 0 ≤ j → j < n → g 214 j = Y j) (w2 : 0 ≤ l4 ∧ l4 ≤ 2) (hq : Q (BV Y P n l3 l4) g r) : WQ sc d 237 Q 106 [(2, 165), (9, 0), (9, 0), (0, l3), (0, l4), (0, 0), (1, 0), (8, 0), (0, 0), (0, 1), (9, 0), (9, 0), (9, 0), (9, 0)] [] g r := by
  have k9 : okr 218 165 9 := okd (by decide +kernel)
  obtain ⟨sh, p1, p5⟩ := sh_at n0 n9
  have loop : ∀ (k : Nat) (s b m c : Int), 1 ≤ s → s + k = 2 ^ n.toNat → c = sgE P b n.toNat 0 0 → byE (fun s => sgE Y s n.toNat 0 0) (fun s => sgE P s n.toNat 0 0) l3 k s b m = byE (fun s => sgE Y s n.toNat 0 0) (fun s => sgE P s n.toNat 0 0) l3 (2 ^ n.toNat : Int).toNat 0 0 0 → WQ sc d 237 Q 106 [(2, 165), (9, 0), (9, 0), (0, l3), (0, l4), (0, b), (1, m), (8, 0), (0, c), (0, s), (9, 0), (9, 0), (9, 0), (9, 0)] [] g r := by
    intro k
    induction k with
    | zero =>
      intro s b m c s0 e ec es
      have es' : (b, m) = byE (fun s => sgE Y s n.toNat 0 0) (fun s => sgE P s n.toNat 0 0) l3 (2 ^ n.toNat : Int).toNat 0 0 0 := es
      have hq' := hq
      unfold BV at hq'
      rw [← es'] at hq'
      refine b_237_106 ⟨k9, ?_⟩
      rw [h66, sh]
      refine ite_c (fun z => absurd z (by omega)) (fun _ => ite_c (fun z => ?_) (fun z => ite_c (fun y => ?_) (fun y => ?_)))
      · rw [if_pos z] at hq'; exact hq'
      · rw [if_neg z, if_pos y] at hq'; exact hq'
      · rw [if_neg z, if_neg y] at hq'
        rw [ec]; exact hq'
    | succ k ih =>
      intro s b m c s0 e ec es
      rw [byE_s] at es
      have bY := sg_b (t := s) hY (by decide) n.toNat 0 0 (by decide) (by omega) (by decide)
      have inner : ∀ (q : Nat) (j v w : Int), 0 ≤ j → j + q = n → 0 ≤ v → v ≤ 10000000000000000 * j → 0 ≤ w → w ≤ 9999 * j → sgE Y s q j v = sgE Y s n.toNat 0 0 → sgE P s q j w = sgE P s n.toNat 0 0 → WQ sc d 237 Q 126 [(2, 165), (9, 0), (9, 0), (0, l3), (0, l4), (0, b), (1, m), (8, 0), (0, c), (0, s), (1, v), (8, 0), (0, w), (0, j)] [] g r := by
        intro q
        induction q with
        | zero =>
          intro j v w j0 ej v0 v1 w0 w1 ev ew
          have ev' : v = sgE Y s n.toNat 0 0 := ev
          have ew' : w = sgE P s n.toNat 0 0 := ew
          refine b_237_126 ⟨k9, ?_⟩
          rw [h66, wr_id (x := s + 1) ⟨by omega, by omega⟩]
          refine ite_c (fun z => absurd z (by omega)) (fun _ => ite_c (fun z => ?_) (fun z => ite_c (fun y => ?_) (fun y => ?_)))
          · rw [ew'] at z
            rw [if_neg (fun q => q.2 z)] at es
            exact ih (s + 1) b m c (by omega) (by omega) ec es
          · rw [ew'] at z
            rw [ev'] at y
            rw [if_pos ⟨cmp_gt.mp y, z⟩] at es
            rw [ev']
            exact ih (s + 1) s _ w (by omega) (by omega) ew' es
          · rw [ev'] at y
            rw [if_neg (fun q => y (cmp_gt.mpr q.1))] at es
            exact ih (s + 1) b m c (by omega) (by omega) ec es
        | succ q ihq =>
          intro j v w j0 ej v0 v1 w0 w1 ev ew
          rw [sgE_s] at ev ew
          have fy := hY j j0 (by omega)
          have fp := hP j j0 (by omega)
          refine b_237_126 ⟨k9, ?_⟩
          rw [h66, wr_id (x := j + 1) ⟨by omega, by omega⟩]
          refine ite_c (fun _ => ite_c (fun z => ?_) (fun z => ?_)) (fun z => absurd (by omega) z)
          · have z' : btE s j = 0 := z
            rw [if_neg (by rw [z']; decide)] at ev ew
            exact ihq (j + 1) v w (by omega) (by omega) v0 (by omega) w0 (by omega) ev ew
          · have z' : btE s j = 1 := (bt_01 (t := s) (by omega) (by omega) j0 (by omega)).resolve_left z
            rw [if_pos z'] at ev ew
            rw [r_165_69 hr, r_165_68 hr, h14 j j0 (by omega), h13 j j0 (by omega), wL_id (x := v + Y j) ⟨by omega, by omega⟩, wr_id (x := w + P j) ⟨by omega, by omega⟩]
            exact ⟨k9, i_214.mpr ⟨j0, by omega⟩, k9, i_213.mpr ⟨j0, by omega⟩, ihq (j + 1) (v + Y j) (w + P j) (by omega) (by omega) (by omega) (by omega) (by omega) (by omega) ev ew⟩
      refine b_237_106 ⟨k9, ?_⟩
      rw [h66, sh]
      exact ite_c (fun _ => inner n.toNat 0 0 0 (by decide) (by omega) (by decide) (by decide) (by decide) (by decide) rfl rfl) (fun z => absurd (by omega) z)
  have z0 : ∀ F : Int → Int, sgE F 0 n.toNat 0 0 = 0 := fun F => sg_0 n.toNat 0 0 (by decide) (by omega)
  obtain ⟨K, hK⟩ : ∃ K : Nat, (2 ^ n.toNat : Int).toNat = K + 1 := ⟨(2 ^ n.toNat : Int).toNat - 1, by omega⟩
  refine loop K 1 0 0 0 (by decide) (by omega) (z0 P).symm ?_
  rw [hK]
  have e := byE_s (V := fun s => sgE Y s n.toNat 0 0) (C := fun s => sgE P s n.toNat 0 0) (c := l3) (k := K) (s := 0) (b := 0) (m := 0)
  rw [if_neg (fun q => by have q1 : (0 : Int) < sgE Y 0 n.toNat 0 0 := q.1; rw [z0 Y] at q1; omega)] at e
  exact e.symm
/-- the class's heap while the falls are tried -/
def SBY (g g' : GH) : Prop := ∀ i j, ¬ (18 ≤ i ∧ i ≤ 22) → i ≠ 61 → g' i j = g i j
theorem f_112 (hJ : J7 g r) (t : TM g l1) (o : g 168 l1 ≠ 0) (f0 : 0 ≤ l2 ∧ l2 ≤ 99999) (c0 : 0 ≤ l3 ∧ l3 ≤ 99999) (w2 : 0 ≤ l4 ∧ l4 ≤ 2) (hq : ∀ g', Q (BV (fun j => GY g l1 l2 (g 59 j) (MWh g l1 3)) (fun j => g 60 j) (g 58 2) l3 l4) g' r) : Ce sc (d + 7) 112 [(2, 0), (0, l1), (0, l2), (0, l3), (0, l4)] g r Q := by
  have hj5 := hJ.1.1
  have hr := hj5.1.1.1.1.1
  have k0 : okr 218 0 8 := okd (by decide +kernel)
  have kx : okr 218 18 7 := okd (by decide +kernel)
  have kp : okr 218 58 3 := okd (by decide +kernel)
  have A : AL 59 11 9 := ⟨okd (by decide +kernel), n_59⟩
  have hm := hr.2.1 l1 t.1 t.2.1
  have ci := hj5.1.1.1.1.2.1.2.2.2.2.1
  obtain ⟨hx, wh, wb, b3⟩ := t5_of hj5 t
  have yb : (r 6 l1 + 1 < 18 ∨ 22 < r 6 l1 + 1) ∧ r 6 l1 + 1 ≠ 61 := by unfold MO at hm; omega
  have w3 := wb.2.2.1
  have nn : ¬ r 6 l1 + 1 = -1 := by unfold MO at hm; omega
  have td := (td_tm hj5.1.1 l1).mpr t
  have ov : g (r 6 l1 + 1) 0 = g 168 l1 := (tk_f hj5.1.1 t).1
  have fb : ∀ j, 0 ≤ j → j < g 58 2 → (2 ≤ g 59 j ∧ g 59 j ≤ 40) ∧ 0 ≤ g 60 j ∧ g 60 j ≤ 9999 := fun j j0 j1 => by
    obtain ⟨e1, e2, e3, e4⟩ := hJ.2.1 j j0 j1
    rw [e1, e2]
    exact ⟨e3, by omega, e4.2⟩
  have loop : ∀ (m : Nat) (j : Int) (g1 : GH), 0 ≤ j → j + m = g 58 2 → SBY g g1 → (∀ q, 0 ≤ q → q < j → g1 61 q = GY g l1 l2 (g 59 q) (MWh g l1 3)) → WQ sc (d + 6) 112 Q 47 [(2, 0), (9, 0), (0, l2), (0, l3), (0, l4), (2, r 6 l1 + 1), (0, j), (9, 0), (9, 0), (9, 0), (9, 0), (9, 0)] [] g1 r := by
    intro m
    induction m with
    | zero =>
      intro j g1 j0 e sb v61
      have e58 : g1 58 2 = g 58 2 := sb 58 2 (by decide) (by decide)
      refine b_112_47 ⟨k0, ?_⟩
      rw [r_0_14 hr, e58]
      refine ⟨kp, ite_c (fun z => absurd z (by omega)) (fun _ => ?_)⟩
      exact f_112b (d := d + 4) hr (by omega) (by omega) (fun q _ _ => gy_b wb) (fun q q0 q1 => (fb q q0 q1).2) e58 (fun q _ _ => sb 60 q (by decide) (by decide)) (fun q q0 q1 => v61 q q0 (by omega)) w2 (hq g1)
    | succ m ih =>
      intro j g1 j0 e sb v61
      have e58 : g1 58 2 = g 58 2 := sb 58 2 (by decide) (by decide)
      have e59 : g1 59 j = g 59 j := sb 59 j (by decide) (by decide)
      have b59 := (fb j j0 (by omega)).1
      have wh1 : WHR g1 (r 6 l1 + 1) (MWh g l1) := by
        unfold WHR at wh ⊢
        have s : ∀ q, g1 (r 6 l1 + 1) q = g (r 6 l1 + 1) q := fun q => sb _ q (by omega) yb.2
        rw [s 0, s 1, s 2, s 3, s 4, s 5, s 6, s 7, s 8]
        exact wh
      have y3 : g1 (r 6 l1 + 1) 3 = MWh g l1 3 := wh1.2.2.2.1
      refine b_112_47 ⟨k0, ?_⟩
      rw [r_0_14 hr, r_0_15 hr, r_0_3 hr, e58, n_61]
      refine ⟨kp, ite_c (fun _ => ⟨k0, by decide +kernel, ite_c (fun _ => ⟨k0, k0, kp, w_25 kp (r_58_0 hr) A j0 (by omega) ?_⟩) (fun z => absurd (by omega) z)⟩) (fun z => absurd (by omega) z)⟩
      rw [e59, y3]
      refine ⟨mo_w hm, kx, c_cell (d := d + 1) hr wb (mo_w hm) yb.1 wh1 b59.1 b59.2 w3.1 w3.2 (fun g2 sx wh2 b2 => ⟨k0, k0, ?_⟩)⟩
      rw [r_0_3 hr, r_0_15 hr]
      refine ⟨kx, c_run (d := d) hr wb wh2 b2 b59.1 b59.2 w3.1 w3.2 f0.1 f0.2 (fun g3 u b3' => ⟨i_61.mpr ⟨j0, by omega⟩, fun g4 e4 => ?_⟩)⟩
      rw [wr_id (x := j + 1) ⟨by omega, by omega⟩]
      refine ih (j + 1) g4 (by omega) (by omega) (fun i q h1 h2 => ?_) (fun q q0 q1 => ?_)
      · rw [e4, up_i h2, u i q (by omega), sx i q h1]
        exact sb i q h1 h2
      · by_cases z : q = j
        · rw [z, e4, up_s]
        · rw [e4, up_j z, u 61 q (by decide), sx 61 q (by decide)]
          exact v61 q q0 (by omega)
  refine c_112 ⟨k0, w_130 hr (fun _ _ => ?_) (fun z => absurd ⟨td, by rw [ov]; exact o⟩ z)⟩
  rw [if_neg nn]
  refine w_124 (fun _ _ => ?_) (fun z => absurd f0 z)
  rw [if_neg (by decide)]
  refine w_123 (fun _ _ => ?_) (fun z => absurd c0 z)
  rw [if_neg (by decide)]
  refine w_123 (fun _ _ => ?_) (fun z => absurd w2 z)
  rw [if_neg (by decide)]
  exact loop (g 58 2).toNat 0 g (by decide) (by omega) (fun _ _ _ _ => rfl) (fun q q0 q1 => absurd q1 (by omega))
/-- one wheel tried, the reference: the heap behind it -/
theorem m_cell2 {h : GH} {f s m : Int} (hr : RI r) (wb : WBd (MWh g k)) (H : HX g k h) (s0 : 2 ≤ s) (s4 : s ≤ 40) (m0 : 4 ≤ m) (m8 : m ≤ 80) (f0 : 0 ≤ f) (f1 : f ≤ 99999) (hq : Q (GY g k f s m) (wsH h s m) r) : Ce sc (d + 7) 189 [(2, 165), (0, s), (0, m), (0, f)] h r Q := by
  have e := H.e (s := s) (m := m)
  refine f_189 hr (by rw [e]; exact ws_b wb s0 s4 m0 m8) f0 f1 ?_
  rw [e, (ws_v g k s m).2.2.2 9 (by decide) (by decide) (by decide) (by decide) (by decide)]
  exact hq
theorem f_237 {g1 : GH} (hJ : J7 g r) (t : TM g l1) (o : g 168 l1 ≠ 0) (hi1 : ∀ i j, 165 ≤ i → g1 i j = g i j) (f0 : 0 ≤ l2 ∧ l2 ≤ 99999) (c0 : 0 ≤ l3 ∧ l3 ≤ 99999) (w2 : 0 ≤ l4 ∧ l4 ≤ 2) (hq : ∀ g', Q (BV (fun j => GY g l1 l2 (g 59 j) (MWh g l1 3)) (fun j => g 60 j) (g 58 2) l3 l4) g' r) : Ce sc (d + 8) 237 [(2, 165), (0, l1), (0, l2), (0, l3), (0, l4)] g1 r Q := by
  have hj5 := hJ.1.1
  have hr := hj5.1.1.1.1.1
  have k9 : okr 218 165 9 := okd (by decide +kernel)
  have ci := hj5.1.1.1.1.2.1.2.2.2.2.1
  have c66 : g 58 2 = g 165 66 := hj5.1.1.1.1.2.2.2.2.2.2.2.1
  obtain ⟨hx, wh, wb, b3⟩ := t5_of hj5 t
  have w3 := wb.2.2.1
  have t0 := t.1
  have t6 := t.2.1
  have tm1 : TM g1 l1 := ⟨t0, t6, by rw [hi1 167 l1 (by decide)]; exact t.2.2⟩
  have o1 : g1 168 l1 ≠ 0 := by rw [hi1 168 l1 (by decide)]; exact o
  have fb : ∀ j, 0 ≤ j → j < g 58 2 → (g 59 j = g 212 j ∧ g 60 j = g 213 j) ∧ (2 ≤ g 59 j ∧ g 59 j ≤ 40) ∧ 0 ≤ g 60 j ∧ g 60 j ≤ 9999 := fun j j0 j1 => by
    obtain ⟨e1, e2, e3, e4⟩ := hJ.2.1 j j0 j1
    refine ⟨⟨e1, e2⟩, ?_⟩
    rw [e1, e2]
    exact ⟨e3, by omega, e4.2⟩
  have loop : ∀ (m : Nat) (j : Int) (h : GH), 0 ≤ j → j + m = g 58 2 → (∀ i c, 165 ≤ i → ¬ (168 ≤ i ∧ i ≤ 178 ∧ c = 6) → i ≠ 214 → h i c = g i c) → HX g l1 h → (∀ q, 0 ≤ q → q < j → h 214 q = GY g l1 l2 (g 59 q) (MWh g l1 3)) → WQ sc (d + 7) 237 Q 54 [(2, 165), (0, l1), (0, l2), (0, l3), (0, l4), (0, j), (9, 0), (9, 0), (9, 0), (9, 0), (9, 0), (9, 0), (9, 0), (9, 0)] [] h r := by
    intro m
    induction m with
    | zero =>
      intro j h j0 e fr H v
      have e66 : h 165 66 = g 58 2 := by rw [fr 165 66 (by decide) (by decide) (by decide)]; exact c66.symm
      refine b_237_54 ⟨k9, ?_⟩
      rw [e66]
      refine ite_c (fun z => absurd z (by omega)) (fun _ => ?_)
      refine f_237b (d := d + 7) hr (by omega) (by omega) (fun q _ _ => gy_b wb) (fun q q0 q1 => (fb q q0 q1).2.2) e66 (fun q q0 q1 => ?_) (fun q q0 q1 => v q q0 (by omega)) w2 (hq h)
      rw [fr 213 q (by decide) (by omega) (by decide)]; exact (fb q q0 q1).1.2.symm
    | succ m ih =>
      intro j h j0 e fr H v
      have e66 : h 165 66 = g 58 2 := by rw [fr 165 66 (by decide) (by decide) (by decide)]; exact c66.symm
      obtain ⟨⟨a1, _⟩, b59, _⟩ := fb j j0 (by omega)
      have e12 : h 212 j = g 59 j := by rw [fr 212 j (by decide) (by omega) (by decide)]; exact a1.symm
      have e71 : h 171 l1 = MWh g l1 3 := fr 171 l1 (by decide) (by omega) (by decide)
      refine b_237_54 ⟨k9, ?_⟩
      rw [e66, r_165_67 hr, r_165_5 hr, r_165_69 hr, e12, e71]
      refine ite_c (fun _ => ⟨k9, k9, i_212.mpr ⟨j0, by omega⟩, k9, i_171.mpr ⟨t0, by omega⟩, k9, m_cell2 (d := d) hr wb H b59.1 b59.2 w3.1 w3.2 f0.1 f0.2 ⟨i_214.mpr ⟨j0, by omega⟩, fun h2 E2 => ?_⟩⟩) (fun z => absurd (by omega) z)
      rw [wr_id (x := j + 1) ⟨by omega, by omega⟩]
      refine ih (j + 1) h2 (by omega) (by omega) (fun i c i0 h1 h2' => ?_) (fun q q0 q1 a b c => ?_) (fun q q0 q1 => ?_)
      · unfold wsH at E2
        rw [E2, up_i h2', up_o (by omega), up_o (by omega), up_o (by omega)]
        exact fr i c i0 h1 h2'
      · rw [E2, up_i (by omega)]
        exact H.s q q0 q1 a b c
      · by_cases z : q = j
        · rw [z, E2, up_s]
        · unfold wsH at E2
          rw [E2, up_j z, up_i (by decide), up_i (by decide), up_i (by decide)]
          exact v q q0 (by omega)
  refine c_237 ⟨k9, w_179 hr (fun _ _ => ?_) (fun z => absurd ⟨tm1, o1⟩ z)⟩
  rw [if_neg (by decide)]
  refine w_178 (fun _ _ => ?_) (fun z => absurd f0 z)
  rw [if_neg (by decide)]
  refine w_137 (fun _ _ => ?_) (fun z => absurd c0 z)
  rw [if_neg (by decide)]
  refine w_137 (fun _ _ => ?_) (fun z => absurd w2 z)
  rw [if_neg (by decide)]
  refine ⟨k9, f_141 (d := d + 6) hr t0 t6 (by rw [hi1 168 l1 (by decide)]; exact hj5.1.1.1.1.2.2.2.1.2.1.1 l1) ?_⟩
  refine loop (g 58 2).toNat 0 (cpH g1 l1) (by decide) (by omega) (fun i c i0 h1 h2 => ?_) (fun j j0 j1 _ _ _ => ?_) (fun q q0 q1 => absurd q1 (by omega))
  · unfold cpH
    rw [if_neg h1]; exact hi1 i c i0
  · unfold cpH
    rw [hi1 (168 + j) l1 (by omega), hi1 (168 + j) 6 (by omega)]
theorem uu_112 (hJ : J7 g r) {A1 A2 A3 A4 : Int} (D : Nat) : Ce sc (D + 8) 112 [(2, 0), (0, A1), (0, A2), (0, A3), (0, A4)] g r (fun v1 g1 r1 => Ce sc (D + 8) 237 [(2, 165), (0, A1), (0, A2), (0, A3), (0, A4)] g1 r1 fun v2 g2 r2 => v1 = v2 ∧ J6 g2 r2) := by
  have hj5 := hJ.1.1
  have hr := hj5.1.1.1.1.1
  have k0 : okr 218 0 8 := okd (by decide +kernel)
  have k9 : okr 218 165 9 := okd (by decide +kernel)
  have hci := hj5.1.1.1.1.2.1
  have V : Ce sc (D + 8) 112 [(2, 0), (0, A1), (0, A2), (0, A3), (0, A4)] g r (fun _ g1 r1 => r1 = r ∧ EB r (TM g) (MWh g) g g1) := v_112 (d := D + 1) hr hj5.2 hci (fun _ _ e => ⟨rfl, e⟩)
  have T : Ce sc (D + 8) 112 [(2, 0), (0, A1), (0, A2), (0, A3), (0, A4)] g r (fun _ g1 r1 => r1 = r ∧ EQF FN g g1) := t_112 (d := D + 1) hr sqn cqn hci (fun _ _ e => ⟨rfl, e⟩)
  have Z : ∀ g1, MI g1 → Ce sc (D + 8) 237 [(2, 165), (0, A1), (0, A2), (0, A3), (0, A4)] g1 r (fun _ g2 r2 => r2 = r ∧ MFZ g1 g2) := fun g1 mi => y_237 (d := D) hr mi (fun _ _ e => ⟨rfl, e⟩)
  by_cases W : (TM g A1 ∧ g 168 A1 ≠ 0) ∧ (0 ≤ A2 ∧ A2 ≤ 99999) ∧ (0 ≤ A3 ∧ A3 ≤ 99999) ∧ 0 ≤ A4 ∧ A4 ≤ 2
  · obtain ⟨⟨t, o⟩, a2, a3, a4⟩ := W
    exact pv hJ.1 (BV (fun j => GY g A1 A2 (g 59 j) (MWh g A1 3)) (fun j => g 60 j) (g 58 2) A3 A4) V T (f_112 (d := D + 1) hJ t o a2 a3 a4 (fun _ => rfl)) (fun g1 hi1 => f_237 (d := D) hJ t o hi1 a2 a3 a4 (fun _ => rfl)) Z
  · refine pv hJ.1 (-1) V T ?_ (fun g1 hi1 => ?_) Z
    · refine c_112 ⟨k0, w_130 hr (fun td o => ?_) (fun _ => by rw [if_pos rfl])⟩
      have t := (td_tm hj5.1.1 A1).mp td
      rw [(tk_f hj5.1.1 t).1] at o
      have hm := hr.2.1 A1 t.1 t.2.1
      rw [if_neg (by unfold MO at hm; omega)]
      refine w_124 (fun p q => ?_) (fun _ => by rw [if_pos rfl])
      rw [if_neg (by decide)]
      refine w_123 (fun p3 q3 => ?_) (fun _ => by rw [if_pos rfl])
      rw [if_neg (by decide)]
      exact w_123 (fun p4 q4 => absurd ⟨⟨t, o⟩, ⟨p, q⟩, ⟨p3, q3⟩, p4, q4⟩ W) (fun _ => by rw [if_pos rfl])
    · refine c_237 ⟨k9, w_179 hr (fun t1 o1 => ?_) (fun _ => by rw [if_pos rfl])⟩
      have t : TM g A1 := ⟨t1.1, t1.2.1, by rw [← hi1 167 A1 (by decide)]; exact t1.2.2⟩
      rw [hi1 168 A1 (by decide)] at o1
      rw [if_neg (by decide)]
      refine w_178 (fun p q => ?_) (fun _ => by rw [if_pos rfl])
      rw [if_neg (by decide)]
      refine w_137 (fun p3 q3 => ?_) (fun _ => by rw [if_pos rfl])
      rw [if_neg (by decide)]
      exact w_137 (fun p4 q4 => absurd ⟨⟨t, o1⟩, ⟨p, q⟩, ⟨p3, q3⟩, p4, q4⟩ W) (fun _ => by rw [if_pos rfl])
theorem x_112 (hJ : J7 g r) {A1 A2 A3 A4 : Int} (D : Nat) : Ce sc (D + 8) 112 [(2, 0), (0, A1), (0, A2), (0, A3), (0, A4)] g r (fun v1 g1 r1 => Ce sc (D + 8) 237 [(2, 165), (0, A1), (0, A2), (0, A3), (0, A4)] g1 r1 fun v2 g2 r2 => v1 = v2 ∧ J7 g2 r2) := by
  have hr := hJ.1.1.1.1.1.1.1
  exact p7 hJ (uu_112 hJ D) (t_112 (d := D + 1) hr sqn cqn hJ.1.1.1.1.1.1.2.1 (fun _ _ e => ⟨hr, e.cn⟩)) (fun g1 r1 hr1 mi hi => y_237 (d := D) hr1 mi (fun _ _ e => e.p7))
end BUY
