/-! served: the orders that a mill grinds in time, both sides -/
def smN (f : Int → Int) : Nat → Int
  | 0 => 0
  | n + 1 => smN f n + f n
theorem smN_s {f : Int → Int} {n : Nat} : smN f (n + 1) = smN f n + f (n : Int) := rfl
theorem sm_e {f h : Int → Int} : ∀ n : Nat, (∀ j : Int, 0 ≤ j → j < n → f j = h j) → smN f n = smN h n := by
  intro n
  induction n with
  | zero => intro _; rfl
  | succ n ih =>
    intro e
    rw [smN_s, smN_s, ih (fun j a b => e j a (by omega)), e n (by omega) (by omega)]
theorem sm_le {f h : Int → Int} : ∀ n : Nat, (∀ j : Int, 0 ≤ j → j < n → f j ≤ h j) → smN f n ≤ smN h n := by
  intro n
  induction n with
  | zero => intro _; exact Int.le_refl _
  | succ n ih =>
    intro e
    have a := ih (fun j a b => e j a (by omega))
    have b := e n (by omega) (by omega)
    rw [smN_s, smN_s]
    omega
theorem sm_lt {f h : Int → Int} {i : Int} (i0 : 0 ≤ i) (s : f i < h i) : ∀ n : Nat, i < n → (∀ j : Int, 0 ≤ j → j < n → f j ≤ h j) → smN f n < smN h n := by
  intro n
  induction n with
  | zero => intro a _; omega
  | succ n ih =>
    intro a e
    rw [smN_s, smN_s]
    by_cases z : i = (n : Int)
    · have b := sm_le n (fun j a b => e j a (by omega))
      rw [z] at s
      omega
    · have b := ih (by omega) (fun j a b => e j a (by omega))
      have c := e n (by omega) (by omega)
      omega
theorem sm_d {f h : Int → Int} {q v : Int} (q0 : 0 ≤ q) (hq : h q = f q + v) (e : ∀ j, j ≠ q → h j = f j) : ∀ n : Nat, smN h n = smN f n + (if q < n then v else 0) := by
  intro n
  induction n with
  | zero =>
    rw [if_neg (by omega)]
    rfl
  | succ n ih =>
    rw [smN_s, smN_s, ih]
    by_cases z : (n : Int) = q
    · rw [z, hq, if_neg (by omega), if_pos (by omega)]
      omega
    · rw [e n z]
      by_cases y : q < (n : Int)
      · rw [if_pos y, if_pos (by omega)]
        omega
      · rw [if_neg y, if_neg (by omega)]
        omega
theorem sm_b {f : Int → Int} {B : Int} (B0 : 0 ≤ B) : ∀ n : Nat, (∀ j : Int, 0 ≤ j → j < n → 0 ≤ f j ∧ f j ≤ B) → 0 ≤ smN f n ∧ smN f n ≤ B * n := by
  intro n
  induction n with
  | zero => intro _; exact ⟨Int.le_refl _, by show (0 : Int) ≤ B * ((0 : Nat) : Int); rw [show ((0 : Nat) : Int) = 0 by omega, Int.mul_zero]; omega⟩
  | succ n ih =>
    intro h
    have a := ih (fun j a b => h j a (by omega))
    have b := h n (by omega) (by omega)
    have e : B * ((n + 1 : Nat) : Int) = B * (n : Int) + B := by rw [show ((n + 1 : Nat) : Int) = (n : Int) + 1 by omega, Int.mul_add, Int.mul_one]
    rw [smN_s, e]
    omega
/-- what is due by hour h, of its own orders those below q -/
def DUE (D W : Int → Int) (n : Nat) (h q : Int) : Int := smN (fun j => if D j < h ∨ (D j = h ∧ j < q) then W j else 0) n
/-- what is due up to order i -/
def AE (D W : Int → Int) (n : Nat) (i : Int) : Int := DUE D W n (D i) (i + 1)
def BF (D : Int → Int) (j i : Int) : Prop := D j < D i ∨ (D j = D i ∧ j < i)
theorem du_b {D W : Int → Int} {n : Nat} {h q : Int} (hW : ∀ j : Int, 0 ≤ j → j < n → 1 ≤ W j ∧ W j ≤ 999999999) : 0 ≤ DUE D W n h q ∧ DUE D W n h q ≤ 999999999 * n := by
  refine sm_b (by decide) n (fun j a b => ?_)
  have w := hW j a b
  show 0 ≤ (if D j < h ∨ (D j = h ∧ j < q) then W j else 0) ∧ (if D j < h ∨ (D j = h ∧ j < q) then W j else 0) ≤ 999999999
  by_cases z : D j < h ∨ (D j = h ∧ j < q)
  · rw [if_pos z]; omega
  · rw [if_neg z]; omega
theorem du_s {D W : Int → Int} {n : Nat} {h q : Int} (q0 : 0 ≤ q) (qn : q < n) : DUE D W n h (q + 1) = DUE D W n h q + (if D q = h then W q else 0) := by
  have e := sm_d (f := fun j => if D j < h ∨ (D j = h ∧ j < q) then W j else 0) (h := fun j => if D j < h ∨ (D j = h ∧ j < q + 1) then W j else 0) (q := q) (v := if D q = h then W q else 0) q0 (by
    show (if D q < h ∨ (D q = h ∧ q < q + 1) then W q else 0) = (if D q < h ∨ (D q = h ∧ q < q) then W q else 0) + (if D q = h then W q else 0)
    by_cases a : D q < h
    · rw [if_pos (Or.inl a), if_pos (Or.inl a), if_neg (by omega)]; omega
    · by_cases b : D q = h
      · rw [if_pos (Or.inr ⟨b, by omega⟩), if_neg (by omega), if_pos b]; omega
      · rw [if_neg (by omega), if_neg (by omega), if_neg b]; omega) (fun j jq => by
    show (if D j < h ∨ (D j = h ∧ j < q + 1) then W j else 0) = (if D j < h ∨ (D j = h ∧ j < q) then W j else 0)
    by_cases a : D j < h ∨ (D j = h ∧ j < q)
    · rw [if_pos a, if_pos (by omega)]
    · rw [if_neg a, if_neg (by omega)]) n
  rw [if_pos qn] at e
  exact e
theorem du_n {D W : Int → Int} {n : Nat} {h : Int} : DUE D W n h n = DUE D W n (h + 1) 0 := sm_e n (fun j a b => by
  show (if D j < h ∨ (D j = h ∧ j < n) then W j else 0) = (if D j < h + 1 ∨ (D j = h + 1 ∧ j < 0) then W j else 0)
  by_cases z : D j < h ∨ (D j = h ∧ j < n)
  · rw [if_pos z, if_pos (by omega)]
  · rw [if_neg z, if_neg (by omega)])
theorem du_0 {D W : Int → Int} {n : Nat} (hD : ∀ j : Int, 0 ≤ j → j < n → 1 ≤ D j) : DUE D W n 1 0 = 0 := by
  have e : DUE D W n 1 0 = smN (fun _ => 0) n := sm_e n (fun j a b => by
    have := hD j a b
    show (if D j < 1 ∨ (D j = 1 ∧ j < 0) then W j else 0) = 0
    rw [if_neg (by omega)])
  rw [e]
  have z : ∀ m : Nat, smN (fun _ => (0 : Int)) m = 0 := fun m => by
    induction m with
    | zero => rfl
    | succ m ih => rw [smN_s, ih]; rfl
  exact z n
/-- what is left of the orders, T of them ground -/
def LFT (D W L : Int → Int) (n : Nat) (T : Int) : Prop := (∀ i : Int, 0 ≤ i → i < n → 0 ≤ L i ∧ L i ≤ W i) ∧ (∀ i j : Int, 0 ≤ i → i < n → 0 ≤ j → j < n → BF D j i → L i < W i → L j = 0) ∧ smN (fun i => W i - L i) n = T
theorem lft_i {D W L : Int → Int} {n : Nat} {T i : Int} (hW : ∀ j : Int, 0 ≤ j → j < n → 1 ≤ W j ∧ W j ≤ 999999999) (h : LFT D W L n T) (i0 : 0 ≤ i) (i1 : i < n) : L i = 0 ↔ AE D W n i ≤ T := by
  obtain ⟨a, b, c⟩ := h
  constructor
  · intro z
    rw [← c]
    refine sm_le n (fun j j0 j1 => ?_)
    have aj := a j j0 j1
    have wj := hW j j0 j1
    have wi := hW i i0 i1
    show (if D j < D i ∨ (D j = D i ∧ j < i + 1) then W j else 0) ≤ W j - L j
    by_cases y : D j < D i ∨ (D j = D i ∧ j < i + 1)
    · rw [if_pos y]
      by_cases x : j = i
      · rw [x, z]; omega
      · have q := b i j i0 i1 j0 j1 (by unfold BF; omega) (by omega)
        omega
    · rw [if_neg y]; omega
  · intro z
    refine Decidable.byContradiction fun y => ?_
    have ai := a i i0 i1
    have s : smN (fun i => W i - L i) n < AE D W n i := by
      refine sm_lt (i := i) i0 ?_ n i1 (fun j j0 j1 => ?_)
      · show W i - L i < (if D i < D i ∨ (D i = D i ∧ i < i + 1) then W i else 0)
        rw [if_pos (by omega)]; omega
      · have aj := a j j0 j1
        show W j - L j ≤ (if D j < D i ∨ (D j = D i ∧ j < i + 1) then W j else 0)
        by_cases x : D j < D i ∨ (D j = D i ∧ j < i + 1)
        · rw [if_pos x]; omega
        · rw [if_neg x]
          have q : ¬ L j < W j := fun q => y (b j i j0 j1 i0 i1 (by unfold BF; omega) q)
          omega
    omega
/-- so much more of order k, the first that is left -/
theorem lft_s {D W L L' : Int → Int} {n : Nat} {T k p : Int} (h : LFT D W L n T) (k0 : 0 ≤ k) (k1 : k < n) (mn : ∀ j : Int, 0 ≤ j → j < n → 0 < L j → ¬ BF D j k) (lk : 0 < L k) (p0 : 0 ≤ p) (p1 : p ≤ L k) (e1 : L' k = L k - p) (e2 : ∀ j, j ≠ k → L' j = L j) : LFT D W L' n (T + p) := by
  obtain ⟨a, b, c⟩ := h
  refine ⟨fun i i0 i1 => ?_, fun i j i0 i1 j0 j1 bf lt => ?_, ?_⟩
  · have q := a i i0 i1
    by_cases z : i = k
    · rw [z] at q ⊢; rw [e1]; omega
    · rw [e2 i z]; exact q
  · by_cases z : i = k
    · rw [z] at bf
      have ne : j ≠ k := fun y => by rw [y] at bf; unfold BF at bf; omega
      rw [e2 j ne]
      have q := a j j0 j1
      refine Decidable.byContradiction fun y => mn j j0 j1 (by omega) bf
    · rw [e2 i z] at lt
      have q := b i j i0 i1 j0 j1 bf lt
      have ne : j ≠ k := fun y => by rw [y] at q; omega
      rw [e2 j ne]; exact q
  · have e := sm_d (f := fun i => W i - L i) (h := fun i => W i - L' i) (q := k) (v := p) k0 (by show W k - L' k = W k - L k + p; rw [e1]; omega) (fun j ne => by show W j - L' j = W j - L j; rw [e2 j ne]) n
    rw [if_pos k1, c] at e
    exact e
/-- bits of a number below 256 -/
def bv (v j : Int) : Int := v / 2 ^ j.toNat % 2
def BW (v : Int) (p : Int → Prop) : Prop := 0 ≤ v ∧ v < 256 ∧ ∀ j, 0 ≤ j → j < 8 → (bv v j = 1 ↔ p j)
theorem or_all : (List.range 256).all (fun v => (List.range 8).all (fun i => (List.range 8).all (fun j => decide (0 ≤ i_or (v : Int) (i_shl 1 (i : Int)) ∧ i_or (v : Int) (i_shl 1 (i : Int)) < 256 ∧ i_or (v : Int) (i_shl 1 (i : Int)) / 2 ^ j % 2 = if j = i then 1 else (v : Int) / 2 ^ j % 2)))) = true := by decide +kernel
theorem or_0 : (List.range 256).all (fun v => decide (i_or (v : Int) 0 = (v : Int))) = true := by decide +kernel
theorem or_at {v i j : Int} (v0 : 0 ≤ v) (v9 : v < 256) (i0 : 0 ≤ i) (i8 : i < 8) (j0 : 0 ≤ j) (j8 : j < 8) : 0 ≤ i_or v (i_shl 1 i) ∧ i_or v (i_shl 1 i) < 256 ∧ bv (i_or v (i_shl 1 i)) j = if j.toNat = i.toNat then 1 else bv v j := by
  have h := of_decide_eq_true (List.all_eq_true.mp (List.all_eq_true.mp (List.all_eq_true.mp or_all v.toNat (List.mem_range.mpr (by omega))) i.toNat (List.mem_range.mpr (by omega))) j.toNat (List.mem_range.mpr (by omega)))
  rw [Int.toNat_of_nonneg v0, Int.toNat_of_nonneg i0] at h
  exact h
theorem or_z {v : Int} (v0 : 0 ≤ v) (v9 : v < 256) : i_or v 0 = v := by
  have h := of_decide_eq_true (List.all_eq_true.mp or_0 v.toNat (List.mem_range.mpr (by omega)))
  rw [Int.toNat_of_nonneg v0] at h
  exact h
theorem BW.c {v : Int} {p q : Int → Prop} (h : BW v p) (e : ∀ j, 0 ≤ j → j < 8 → (q j ↔ p j)) : BW v q := ⟨h.1, h.2.1, fun j j0 j8 => (h.2.2 j j0 j8).trans (e j j0 j8).symm⟩
theorem bw_or {v i : Int} {p q : Int → Prop} (h : BW v p) (i0 : 0 ≤ i) (i8 : i < 8) (e : ∀ j, 0 ≤ j → j < 8 → (q j ↔ j = i ∨ p j)) : BW (i_or v (i_shl 1 i)) q := by
  have b := or_at h.1 h.2.1 i0 i8 i0 i8
  refine ⟨b.1, b.2.1, fun j j0 j8 => ?_⟩
  have o := (or_at h.1 h.2.1 i0 i8 j0 j8).2.2
  have hj := h.2.2 j j0 j8
  rw [o, e j j0 j8]
  by_cases z : j = i
  · rw [if_pos (by rw [z])]
    exact ⟨fun _ => Or.inl z, fun _ => rfl⟩
  · rw [if_neg (by omega), hj]
    exact ⟨fun a => Or.inr a, fun a => a.resolve_left z⟩
theorem bw_un {v w : Int} {p : Int → Prop} (h : BW v p) (k : BW w p) : v = w := by
  have b : ∀ j, 0 ≤ j → j < 8 → bv v j = bv w j := fun j j0 j8 => by
    have x := (h.2.2 j j0 j8).trans (k.2.2 j j0 j8).symm
    have m : ∀ u : Int, bv u j = 0 ∨ bv u j = 1 := fun u => by
      unfold bv
      generalize u / 2 ^ j.toNat = t
      omega
    have m1 := m v
    have m2 := m w
    by_cases z : bv v j = 1
    · rw [z, x.mp z]
    · have y : ¬ bv w j = 1 := fun y => z (x.mpr y)
      omega
  have b0 : v / 1 % 2 = w / 1 % 2 := b 0 (by decide) (by decide)
  have b1 : v / 2 % 2 = w / 2 % 2 := b 1 (by decide) (by decide)
  have b2 : v / 4 % 2 = w / 4 % 2 := b 2 (by decide) (by decide)
  have b3 : v / 8 % 2 = w / 8 % 2 := b 3 (by decide) (by decide)
  have b4 : v / 16 % 2 = w / 16 % 2 := b 4 (by decide) (by decide)
  have b5 : v / 32 % 2 = w / 32 % 2 := b 5 (by decide) (by decide)
  have b6 : v / 64 % 2 = w / 64 % 2 := b 6 (by decide) (by decide)
  have b7 : v / 128 % 2 = w / 128 % 2 := b 7 (by decide) (by decide)
  have v0 := h.1
  have v1 := h.2.1
  have w0 := k.1
  have w1 := k.2.1
  omega
/-! an hour's grinding is bounded -/
theorem hw_9 {W : Int → Int} {f p hd : Int} : -9300000000000000 ≤ hwE W f p hd ∧ hwE W f p hd ≤ 9300000000000000 := by
  unfold hwE
  split
  · split
    · have b := td_le (m := 2880) (by decide) (wL_rng ((wL (f * (wr (rtE (19200 * hd) - rimE W p)))) * rimE W p))
      rw [wL_id (x := (wL ((wL (f * (wr (rtE (19200 * hd) - rimE W p)))) * rimE W p)).tdiv 2880) ⟨by omega, by omega⟩]
      exact b
    · decide
  · have b := td_le (m := 1000) (by decide) (wL_rng ((wL ((wL (drpE W f p * 6)) * p)) * W 3))
    rw [wL_id (x := (wL ((wL ((wL (drpE W f p * 6)) * p)) * W 3)).tdiv 1000) ⟨by omega, by omega⟩]
    exact b
theorem hy_9 {W : Int → Int} {f p b : Int} (p0 : 1 ≤ p) (p1 : p ≤ 300) (w2 : 1 ≤ W 2 ∧ W 2 ≤ 20) (w10 : 0 ≤ W 10 ∧ W 10 ≤ 9999) (b0 : 0 ≤ b) (b9 : b ≤ 999900) : hyE W f p 60 b ≤ 10000000000000000 := by
  have h : hyX W f p 60 b ≤ 10000000000000000 := by
    unfold hyX
    have x := hw_9 (W := W) (f := f) (p := p) (hd := 60)
    generalize hwE W f p 60 = hw at x ⊢
    have c := mlb (a := 6 * p) (b := W 10) (A := 1800) (B := 9999) (by omega) (by omega) w10.1 w10.2
    have e1 := mlb (a := 6 * p) (b := W 2) (A := 1800) (B := 20) (by omega) (by omega) (by omega) w2.2
    have e2 := mlb (a := 6 * p * W 2) (b := b) (A := 36000) (B := 999900) e1.1 (by omega) b0 b9
    have e3 := mlb (a := 6 * p * W 2 * b) (b := b) (A := 35996400000) (B := 999900) e2.1 (by omega) b0 b9
    have e4 := tdb (x := 6 * p * W 2 * b * b) (m := 10) e3.1 (by decide)
    rw [wL_id (x := 6 * p) ⟨by omega, by omega⟩, wL_id (x := 6 * p * W 10) ⟨by omega, by omega⟩, wL_id (x := 6 * p * W 2) ⟨by omega, by omega⟩, wL_id (x := 6 * p * W 2 * b) ⟨by omega, by omega⟩, wL_id (x := 6 * p * W 2 * b * b) ⟨by omega, by omega⟩, wL_id (x := hw - 6 * p * W 10) ⟨by omega, by omega⟩, wL_id (x := (6 * p * W 2 * b * b).tdiv 10) ⟨by omega, by omega⟩, wL_id (x := hw - 6 * p * W 10 - (6 * p * W 2 * b * b).tdiv 10) ⟨by omega, by omega⟩]
    omega
  unfold hyE
  split
  · decide
  · exact h
section SRV
variable {sc : SCR} {d : Nat} {Q : QJ} {g r b gp : GH} {mm : Int → GH} {Pl : Int → Int → Int} {D W L : Int → Int} {N : Nat} {l0 l1 l2 l3 l4 l5 x s p a m v w k t opn on h q T : Int}
theorem hrF_14 (hp : PO gp mm) : ∀ (n : Nat) (m : Int) (b : GH) (on : Int), 0 ≤ m → m + n = 6 → (∀ j, m ≤ j → j < 6 → 0 ≤ b 6 j ∧ b 6 j ≤ 9999) → ∀ k, m ≤ k → k < 6 → gp 167 k ≠ 0 → 0 ≤ hrF gp mm Pl n m b on 14 k ∧ hrF gp mm Pl n m b on 14 k ≤ 10000000000000000 := by
  intro n
  induction n with
  | zero => intro m b on _ e _ k a c; omega
  | succ n ih =>
    intro m b on m0 e hb k k0 k6 tk
    by_cases z : gp 167 m = 0
    · have u : hrF gp mm Pl (n + 1) m b on = hrF gp mm Pl n (m + 1) b on := by
        show (if gp 167 m = 0 then hrF gp mm Pl n (m + 1) b on else hrF gp mm Pl n (m + 1) (wyE gp mm Pl b m on) (b 7 m)) = _
        rw [if_pos z]
      rw [u]
      have ne : k ≠ m := fun y => tk (by rw [y]; exact z)
      exact ih (m + 1) b on (by omega) (by omega) (fun j a c => hb j (by omega) c) k (by omega) k6 tk
    · have u : hrF gp mm Pl (n + 1) m b on = hrF gp mm Pl n (m + 1) (wyE gp mm Pl b m on) (b 7 m) := by
        show (if gp 167 m = 0 then hrF gp mm Pl n (m + 1) b on else hrF gp mm Pl n (m + 1) (wyE gp mm Pl b m on) (b 7 m)) = _
        rw [if_neg z]
      rw [u]
      by_cases y : k = m
      · have h := (hrF_8 (gp := gp) (mm := mm) (Pl := Pl) n (m + 1) (wyE gp mm Pl b m on) (b 7 m) (by omega)).1 14 m (by omega) (by decide)
        rw [y, h, wy_x (Or.inr (Or.inr rfl))]
        unfold mlE
        rw [mlU_14]
        have tm : TM gp m := ⟨m0, by omega, z⟩
        obtain ⟨_, r1, n1, wb⟩ := hp m tm
        have nx := nxE_b gp (k := m) (by omega) (by omega)
        have lv : 0 ≤ lvE gp b (nxE gp m) ∧ lvE gp b (nxE gp m) ≤ 999900 := by
          unfold lvE
          by_cases x : nxE gp m < 0
          · rw [if_pos x]; decide
          · rw [if_neg x]
            rcases nx with nx | nx
            · omega
            · have bj := hb (nxE gp m) (by omega) nx.2.1
              have rj := (hp (nxE gp m) ⟨by omega, nx.2.1, nx.2.2.1⟩).2.1
              have q := tdb (x := b 6 (nxE gp m) * 100) (m := gp 175 (nxE gp m)) (by omega) (by omega)
              omega
        have wd : 0 ≤ wdE gp b m ∧ wdE gp b m ≤ 999900 := by
          unfold wdE
          by_cases x : gp 176 m < lvE gp b (nxE gp m)
          · rw [if_pos x]; omega
          · rw [if_neg x]; decide
        have p9 := wb.2.2.2.2.2.2.1
        exact ⟨hy_b, hy_9 p9.1 p9.2 wb.2.1 wb.2.2.2.2.2.2.2 wd.1 wd.2⟩
      · refine ih (m + 1) (wyE gp mm Pl b m on) (b 7 m) (by omega) (by omega) (fun j a c => ?_) k (by omega) k6 tk
        rw [wy_c (by omega) (by omega)]
        exact hb j (by omega) c
theorem hr_14 (hp : PO gp mm) (hb : HB b) (t : TM gp k) : 0 ≤ hrE gp mm Pl b 14 k ∧ hrE gp mm Pl b 14 k ≤ 10000000000000000 := by
  refine hrF_14 hp 6 0 (up b 0 1 (wL (b 0 1 + cmE b))) (cmE b) (by decide) (by decide) (fun j a c => ?_) k t.1 t.2.1 t.2.2
  rw [up_i (by decide)]
  exact (hb.2.2 j a c).1
theorem hrN_s : ∀ (n : Nat) (b : GH), hrN gp mm Pl (n + 1) b = hrE gp mm Pl (hrN gp mm Pl n b) := by
  intro n
  induction n with
  | zero => intro b; rfl
  | succ n ih => intro b; exact ih (hrE gp mm Pl b)
/-- what mill k grinds in so many hours -/
def gsE (gp : GH) (mm : Int → GH) (Pl : Int → Int → Int) (b : GH) (k : Int) (h : Int) : Int := smN (fun t => hrE gp mm Pl (hrN gp mm Pl t.toNat b) 14 k) h.toNat
theorem gs_s (h0 : 0 ≤ h) : gsE gp mm Pl b k (h + 1) = gsE gp mm Pl b k h + hrE gp mm Pl (hrN gp mm Pl h.toNat b) 14 k := by
  unfold gsE
  rw [show (h + 1).toNat = h.toNat + 1 by omega, smN_s, Int.toNat_natCast]
theorem gs_b (hp : PO gp mm) (hP : PLO Pl) (hb : HB b) (h9 : b 0 0 ≤ 936) (t : TM gp k) (h0 : 0 ≤ h) (h24 : h ≤ 24) : 0 ≤ gsE gp mm Pl b k h ∧ gsE gp mm Pl b k h ≤ 10000000000000000 * h := by
  have q := sm_b (f := fun t => hrE gp mm Pl (hrN gp mm Pl t.toNat b) 14 k) (B := 10000000000000000) (by decide) h.toNat (fun j a c => hr_14 hp (hrN_b hp hP j.toNat b hb (by omega)).1 t)
  rw [Int.toNat_of_nonneg h0] at q
  exact q
theorem gs_m (hp : PO gp mm) (hP : PLO Pl) (hb : HB b) (h9 : b 0 0 ≤ 936) (t : TM gp k) : ∀ (n : Nat) (a : Int), 0 ≤ a → a + n ≤ 24 → gsE gp mm Pl b k a ≤ gsE gp mm Pl b k (a + n) := by
  intro n
  induction n with
  | zero => intro a _ _; rw [show a + ((0 : Nat) : Int) = a by omega]; exact Int.le_refl _
  | succ n ih =>
    intro a a0 e
    have i := ih a a0 (by omega)
    have s := gs_s (gp := gp) (mm := mm) (Pl := Pl) (b := b) (k := k) (h := a + n) (by omega)
    have z := hr_14 (Pl := Pl) hp (hrN_b hp hP (a + n).toNat b hb (by omega)).1 t
    rw [show a + ((n + 1 : Nat) : Int) = a + n + 1 by omega, s]
    omega
/-- the ground is what was ground -/
theorem gs_e (hp : PO gp mm) (hP : PLO Pl) (hb : HB b) (h9 : b 0 0 ≤ 936) (t : TM gp k) : ∀ n : Nat, (n : Int) ≤ 24 → wL (hrN gp mm Pl n b 8 k - b 8 k) = gsE gp mm Pl b k n := by
  intro n
  induction n with
  | zero =>
    intro _
    show wL (b 8 k - b 8 k) = _
    rw [Int.sub_self]
    show wL 0 = (0 : Int)
    decide
  | succ n ih =>
    intro e
    have i := ih (by omega)
    have s := gs_s (gp := gp) (mm := mm) (Pl := Pl) (b := b) (k := k) (h := (n : Int)) (by omega)
    have bd := gs_b (Pl := Pl) hp hP hb h9 t (h := (n : Int) + 1) (by omega) (by omega)
    rw [Int.toNat_natCast] at s
    rw [hrN_s, hr_8 t, Int.sub_eq_add_neg, wL_al, show ((n + 1 : Nat) : Int) = (n : Int) + 1 by omega, s, show hrN gp mm Pl n b 8 k + hrE gp mm Pl (hrN gp mm Pl n b) 14 k + -b 8 k = (hrN gp mm Pl n b 8 k - b 8 k) + hrE gp mm Pl (hrN gp mm Pl n b) 14 k by omega, ← wL_al, i]
    rw [s] at bd
    exact wL_id ⟨by omega, by omega⟩
/-- the plan of one gate held open -/
def PVE (k opn : Int) : Int → Int → Int := fun m _ => if m = k then opn else -1
theorem pv_o (o0 : 0 ≤ opn) (o9 : opn ≤ 999) : PLO (PVE k opn) := fun m h => by
  unfold PVE
  split
  · exact Or.inr ⟨o0, o9⟩
  · exact Or.inl rfl
/-- which orders are served: those that are ground by their hour -/
def SVP (gp : GH) (mm : Int → GH) (Pl : Int → Int → Int) (b : GH) (k : Int) (D W : Int → Int) (N : Nat) (h q : Int) : Int → Prop := fun i => i < N ∧ (D i < h ∨ (D i = h ∧ i < q)) ∧ AE D W N i ≤ gsE gp mm Pl b k (D i)
/-- an hour's orders, the class -/
theorem f_118i (hr : RI r) (hN : (N : Int) ≤ 8) (h62 : g 62 2 = N) (h63 : ∀ j : Int, 0 ≤ j → j < N → g 63 j = D j) (h64 : ∀ j : Int, 0 ≤ j → j < N → g 64 j = W j) (hW : ∀ j : Int, 0 ≤ j → j < N → 1 ≤ W j ∧ W j ≤ 999999999) (h0 : 1 ≤ h) (h24 : h ≤ 24) (G : Int) (hG : G = gsE gp mm Pl b k h) (hq : ∀ v, BW v (SVP gp mm Pl b k D W N (h + 1) 0) → WQ sc (d + 1) 118 Q 67 [(2, 0), (0, k), (9, 0), (1, DUE D W N (h + 1) 0), (8, 0), (0, v), (0, h + 1), (9, 0), (9, 0), (9, 0)] [] g r) : ∀ (n : Nat) (q v : Int), 0 ≤ q → q + n = N → BW v (SVP gp mm Pl b k D W N h q) → WQ sc (d + 1) 118 Q 113 [(2, 0), (0, k), (9, 0), (1, DUE D W N h q), (8, 0), (0, v), (0, h), (1, G), (8, 0), (0, q)] [] g r := by
  have k0 : okr 218 0 8 := okd (by decide +kernel)
  have kp : okr 218 62 3 := okd (by decide +kernel)
  have A : AL 63 11 8 := ⟨okd (by decide +kernel), n_63⟩
  have B : AL 64 11 8 := ⟨okd (by decide +kernel), n_64⟩
  intro n
  induction n with
  | zero =>
    intro q v q0 e bw
    have eq : q = N := by omega
    refine b_118_113 ⟨k0, ?_⟩
    rw [r_0_16 hr, h62, wr_id (x := h + 1) ⟨by omega, by omega⟩]
    refine ⟨kp, ite_c (fun z => absurd z (by omega)) (fun _ => ?_)⟩
    rw [eq, du_n]
    refine hq v (bw.c (fun j j0 j8 => ?_))
    rw [eq]
    unfold SVP
    constructor
    · intro y; exact ⟨y.1, by omega, y.2.2⟩
    · intro y; exact ⟨y.1, by omega, y.2.2⟩
  | succ n ih =>
    intro q v q0 e bw
    have du := du_s (D := D) (W := W) (n := N) (h := h) q0 (by omega)
    have db := du_b (D := D) (h := h) (q := q) hW
    have wq := hW q q0 (by omega)
    refine b_118_113 ⟨k0, ?_⟩
    rw [r_0_16 hr, h62, wr_id (x := q + 1) ⟨by omega, by omega⟩]
    refine ⟨kp, ite_c (fun _ => ⟨k0, kp, w_25 kp (r_62_0 hr) A q0 (by omega) ?_⟩) (fun z => absurd (by omega) z)⟩
    rw [h63 q q0 (by omega)]
    refine ite_c (fun z => ⟨k0, ?_⟩) (fun z => ?_)
    · rw [if_pos z] at du
      rw [r_0_16 hr]
      refine ⟨kp, w_26 (b := 0) kp (r_62_1 hr) B q0 (by omega) ?_⟩
      rw [h64 q q0 (by omega), wL_id (x := DUE D W N h q + W q) ⟨by omega, by omega⟩, ← du]
      have ae : AE D W N q = DUE D W N h (q + 1) := by unfold AE; rw [z]
      refine ite_c (fun y => ?_) (fun y => ?_)
      · rw [or_z bw.1 bw.2.1]
        refine ih (q + 1) v (by omega) (by omega) (bw.c (fun j j0 j8 => ?_))
        have y' := cmp_gt.mp y
        unfold SVP
        constructor
        · intro u
          by_cases x : j = q
          · have u2 := u.2.2
            rw [x, ae, z] at u2
            omega
          · exact ⟨u.1, by omega, u.2.2⟩
        · intro u; exact ⟨u.1, by omega, u.2.2⟩
      · refine ih (q + 1) _ (by omega) (by omega) (bw_or bw q0 (by omega) (fun j j0 j8 => ?_))
        have y' : ¬ G < DUE D W N h (q + 1) := fun x => y (cmp_gt.mpr x)
        unfold SVP
        constructor
        · intro u
          by_cases x : j = q
          · exact Or.inl x
          · exact Or.inr ⟨u.1, by omega, u.2.2⟩
        · intro u
          rcases u with u | u
          · rw [u, ae, z]
            exact ⟨by omega, by omega, by omega⟩
          · exact ⟨u.1, by omega, u.2.2⟩
    · rw [if_neg z, Int.add_zero] at du
      rw [← du]
      refine ih (q + 1) v (by omega) (by omega) (bw.c (fun j j0 j8 => ?_))
      unfold SVP
      constructor
      · intro u
        have x : j = q → D j = D q := fun x => by rw [x]
        exact ⟨u.1, by omega, u.2.2⟩
      · intro u; exact ⟨u.1, by omega, u.2.2⟩
/-- the day, the class -/
theorem f_118l (hr : RI r) (hp : PO gp mm) (hP : PLO Pl) (hx : MXA gp mm) (hB : HB b) (h9 : b 0 0 ≤ 936) (t : TM gp k) (hN : (N : Int) ≤ 8) (hW : ∀ j : Int, 0 ≤ j → j < N → 1 ≤ W j ∧ W j ≤ 999999999) (hD : ∀ j : Int, 0 ≤ j → j < N → 1 ≤ D j ∧ D j ≤ 24) (hq : ∀ v g', BW v (fun i => i < N ∧ AE D W N i ≤ gsE gp mm Pl b k (D i)) → Q v g' r) : ∀ (n : Nat) (h v : Int) (g : GH), 1 ≤ h → h + n = 25 → COK gp mm r g → CBR 23 g b → CBR 34 g (hrN gp mm Pl (h - 1).toNat b) → PLC 48 g Pl → g 62 2 = N → (∀ j : Int, 0 ≤ j → j < N → g 63 j = D j) → (∀ j : Int, 0 ≤ j → j < N → g 64 j = W j) → BW v (SVP gp mm Pl b k D W N h 0) → WQ sc (d + 9) 118 Q 67 [(2, 0), (0, k), (9, 0), (1, DUE D W N h 0), (8, 0), (0, v), (0, h), (9, 0), (9, 0), (9, 0)] [] g r := by
  have k0 : okr 218 0 8 := okd (by decide +kernel)
  have k23 : okr 218 23 0 := okd (by decide +kernel)
  have k34 : okr 218 34 0 := okd (by decide +kernel)
  intro n
  induction n with
  | zero =>
    intro h v g h1 e _ _ _ _ _ _ _ bw
    refine b_118_67 (ite_c (fun _ => hq v g (bw.c (fun j j0 j8 => ?_))) (fun z => absurd (by omega) z))
    unfold SVP
    constructor
    · intro u
      have dj := hD j j0 u.1
      exact ⟨u.1, by omega, u.2⟩
    · intro u; exact ⟨u.1, u.2.2⟩
  | succ n ih =>
    intro h v g h1 e hc cb c34 pl h62 h63 h64 bw
    refine b_118_67 (ite_c (fun z => absurd z (by omega)) (fun _ => ⟨k0, k0, k0, ?_⟩))
    rw [r_0_5 hr, r_0_1 hr, r_0_9 hr]
    have q := hrN_b hp hP (h - 1).toNat b hB (by omega)
    refine ⟨k34, f_5 (mm := mm) (Pl := Pl) (b := hrN gp mm Pl (h - 1).toNat b) (gp := gp) hr (Or.inr rfl) hp hP hx (px2_48 hr) hc q.1 (by rw [q.2]; omega) c34 pl (fun g1 f1 e1 c1 _ => ⟨k0, ?_⟩)⟩
    rw [← hrN_s, show (h - 1).toNat + 1 = h.toNat by omega] at c1
    have cb1 : CBR 23 g1 b := cb.fr (fun i j i0 i1 => f1 i j (by omega) (by unfold BO; omega) (by unfold AK; omega))
    have o : ∀ i j, 62 ≤ i → i ≤ 64 → g1 i j = g i j := fun i j i0 i1 => f1 i j (by omega) (by unfold BO; omega) (by unfold AK; omega)
    rw [r_0_5 hr, r_0_4 hr, r_34_8 hr, r_23_8 hr]
    have e39 : g1 39 k = hrN gp mm Pl h.toNat b 8 k := (c1.2.2 k t.1 t.2.1).2.2.1
    have e28 : g1 28 k = b 8 k := (cb1.2.2 k t.1 t.2.1).2.2.1
    have ge := gs_e (Pl := Pl) hp hP hB h9 t h.toNat (by omega)
    rw [Int.toNat_of_nonneg (by omega)] at ge
    rw [e39, e28, ge]
    refine ⟨k34, i_39.mpr ⟨t.1, t.2.1⟩, k0, k23, i_28.mpr ⟨t.1, t.2.1⟩, ?_⟩
    refine f_118i (d := d + 8) (gp := gp) (mm := mm) (Pl := Pl) (b := b) hr hN ((o 62 2 (by decide) (by decide)).trans h62) (fun j j0 j1 => (o 63 j (by decide) (by decide)).trans (h63 j j0 j1)) (fun j j0 j1 => (o 64 j (by decide) (by decide)).trans (h64 j j0 j1)) hW h1 (by omega) _ rfl (fun v1 b1 => ?_) N 0 v (by decide) (by omega) bw
    refine ih (h + 1) v1 g1 (by omega) (by omega) (hc.eb hr e1) cb1 ?_ (f1.pl (Or.inr rfl) (Or.inr rfl) pl) ((o 62 2 (by decide) (by decide)).trans h62) (fun j j0 j1 => (o 63 j (by decide) (by decide)).trans (h63 j j0 j1)) (fun j j0 j1 => (o 64 j (by decide) (by decide)).trans (h64 j j0 j1)) b1
    rw [show h + 1 - 1 = h by omega]; exact c1
/-- the next order to be ground, the reference -/
theorem f_241 (hr : RI r) (hN : (N : Int) ≤ 8) (h70 : g 165 70 = N) (h15 : ∀ j : Int, 0 ≤ j → j < N → g 215 j = D j) (h17 : ∀ j : Int, 0 ≤ j → j < N → g 217 j = L j ∧ 0 ≤ L j) (hn : (∀ j : Int, 0 ≤ j → j < N → L j = 0) → Q (-1) g r) (hk : ∀ k : Int, 0 ≤ k → k < N → 0 < L k → (∀ j : Int, 0 ≤ j → j < N → 0 < L j → ¬ BF D j k) → Q k g r) : Ce sc (d + 1) 241 [(2, 165)] g r Q := by
  have k9 : okr 218 165 9 := okd (by decide +kernel)
  have loop : ∀ (n : Nat) (bst q : Int), 0 ≤ q → q + n = N → ((bst = -1 ∧ ∀ j, 0 ≤ j → j < q → L j = 0) ∨ (0 ≤ bst ∧ bst < q ∧ 0 < L bst ∧ ∀ j, 0 ≤ j → j < q → 0 < L j → ¬ BF D j bst)) → WQ sc d 241 Q 4 [(2, 165), (0, bst), (0, q)] [] g r := by
    intro n
    induction n with
    | zero =>
      intro bst q q0 e st
      refine b_241_4 ⟨k9, ?_⟩
      rw [h70]
      refine ite_c (fun z => absurd z (by omega)) (fun _ => ?_)
      rcases st with ⟨e1, al⟩ | ⟨b0, b1, lb, mn⟩
      · rw [e1]; exact hn (fun j j0 j1 => al j j0 (by omega))
      · exact hk bst b0 (by omega) lb (fun j j0 j1 => mn j j0 (by omega))
    | succ n ih =>
      intro bst q q0 e st
      obtain ⟨lq, l0⟩ := h17 q q0 (by omega)
      refine b_241_4 ⟨k9, ?_⟩
      rw [h70, r_165_73 hr, r_165_71 hr, lq, wr_id (x := q + 1) ⟨by omega, by omega⟩]
      refine ite_c (fun _ => ⟨k9, i_217.mpr ⟨q0, by omega⟩, ite_c (fun z => ?_) (fun z => ?_)⟩) (fun z => absurd (by omega) z)
      · have lp : 0 < L q := cmp_gt.mp z
        refine ite_c (fun y => ?_) (fun y => ?_)
        · rcases st with ⟨e1, al⟩ | ⟨b0, _⟩
          · refine ih q (q + 1) (by omega) (by omega) (Or.inr ⟨q0, by omega, lp, fun j j0 j1 lj bf => ?_⟩)
            by_cases x : j = q
            · rw [x] at bf; unfold BF at bf; omega
            · have := al j j0 (by omega); omega
          · omega
        · rcases st with ⟨e1, _⟩ | ⟨b0, b1, lb, mn⟩
          · omega
          · rw [h15 q q0 (by omega), h15 bst b0 (by omega)]
            refine ⟨k9, i_215.mpr ⟨q0, by omega⟩, k9, i_215.mpr ⟨b0, by omega⟩, ite_c (fun x => ?_) (fun x => ?_)⟩
            · refine ih q (q + 1) (by omega) (by omega) (Or.inr ⟨q0, by omega, lp, fun j j0 j1 lj bf => ?_⟩)
              by_cases u : j = q
              · rw [u] at bf; unfold BF at bf; omega
              · have nb := mn j j0 (by omega) lj
                unfold BF at bf nb
                omega
            · refine ih bst (q + 1) (by omega) (by omega) (Or.inr ⟨b0, by omega, lb, fun j j0 j1 lj bf => ?_⟩)
              by_cases u : j = q
              · rw [u] at bf; unfold BF at bf; omega
              · exact mn j j0 (by omega) lj bf
      · have lz : L q = 0 := by
          have : ¬ 0 < L q := fun y => z (cmp_gt.mpr y)
          omega
        refine ih bst (q + 1) (by omega) (by omega) ?_
        rcases st with ⟨e1, al⟩ | ⟨b0, b1, lb, mn⟩
        · refine Or.inl ⟨e1, fun j j0 j1 => ?_⟩
          by_cases u : j = q
          · rw [u]; exact lz
          · exact al j j0 (by omega)
        · refine Or.inr ⟨b0, by omega, lb, fun j j0 j1 lj => ?_⟩
          by_cases u : j = q
          · rw [u] at lj; omega
          · exact mn j j0 (by omega) lj
  exact c_241 (loop N (-1) 0 (by decide) (by omega) (Or.inl ⟨rfl, fun j j0 j1 => absurd j1 (by omega)⟩))
/-- orders done: bits while an hour is shared out -/
def SVL (gp : GH) (mm : Int → GH) (Pl : Int → Int → Int) (b : GH) (k : Int) (D W L : Int → Int) (N : Nat) (h : Int) : Int → Prop := fun i => i < N ∧ ((D i < h ∧ AE D W N i ≤ gsE gp mm Pl b k (D i)) ∨ (h ≤ D i ∧ L i = 0))
/-- how many are left -/
def cnL (L : Int → Int) (n : Nat) : Int := smN (fun i => if L i = 0 then 0 else 1) n
theorem cn_0 {n : Nat} (h : cnL L n ≤ 0) {i : Int} (i0 : 0 ≤ i) (i1 : i < n) : L i = 0 := by
  refine Decidable.byContradiction fun z => ?_
  have s : smN (fun _ => (0 : Int)) n < cnL L n := by
    refine sm_lt (i := i) i0 ?_ n i1 (fun j _ _ => ?_)
    · show (0 : Int) < (if L i = 0 then 0 else 1)
      rw [if_neg z]; decide
    · show (0 : Int) ≤ (if L j = 0 then 0 else 1)
      split <;> decide
  have e : ∀ m : Nat, smN (fun _ => (0 : Int)) m = 0 := fun m => by
    induction m with
    | zero => rfl
    | succ m ih => rw [smN_s, ih]; rfl
  rw [e] at s
  omega
theorem cn_s {L' : Int → Int} {n : Nat} (k0 : 0 ≤ k) (k1 : k < n) (a : L k ≠ 0) (c : L' k = 0) (e : ∀ j, j ≠ k → L' j = L j) : cnL L' n = cnL L n - 1 := by
  have q := sm_d (f := fun i => if L i = 0 then (0 : Int) else 1) (h := fun i => if L' i = 0 then (0 : Int) else 1) (q := k) (v := -1) k0 (by
    show (if L' k = 0 then (0 : Int) else 1) = (if L k = 0 then 0 else 1) + -1
    rw [if_pos c, if_neg a]; decide) (fun j ne => by
    show (if L' j = 0 then (0 : Int) else 1) = (if L j = 0 then 0 else 1)
    rw [e j ne]) n
  rw [if_pos k1] at q
  show smN (fun i => if L' i = 0 then (0 : Int) else 1) n = smN (fun i => if L i = 0 then (0 : Int) else 1) n - 1
  omega
theorem cnL_b {n : Nat} : cnL L n ≤ n := by
  have q := (sm_b (f := fun i => if L i = 0 then (0 : Int) else 1) (B := 1) (by decide) n (fun j _ _ => by
    show 0 ≤ (if L j = 0 then (0 : Int) else 1) ∧ (if L j = 0 then (0 : Int) else 1) ≤ 1
    split <;> decide)).2
  show smN (fun i => if L i = 0 then (0 : Int) else 1) n ≤ n
  omega
/-- an hour's grain shared out, the reference -/
theorem f_242w (hr : RI r) (hN : (N : Int) ≤ 8) (hW : ∀ j : Int, 0 ≤ j → j < N → 1 ≤ W j ∧ W j ≤ 999999999) (h1 : 1 ≤ h) (h24 : h ≤ 24) (G : Int) (hq : ∀ v g' L', (∀ i j, i ≠ 217 → g' i j = g i j) → (∀ j : Int, 0 ≤ j → j < N → g' 217 j = L' j) → BW v (SVL gp mm Pl b k D W L' N h) → (∃ T, LFT D W L' N T ∧ (T = G ∨ ((∀ j : Int, 0 ≤ j → j < N → L' j = 0) ∧ T ≤ G))) → WQ sc (d + 1) 242 Q 83 [(2, 165), (0, k), (9, 0), (0, v), (0, h + 1), (9, 0), (9, 0), (9, 0), (9, 0), (9, 0)] [] g' r) (h70 : g 165 70 = N) (h15 : ∀ j : Int, 0 ≤ j → j < N → g 215 j = D j) : ∀ (n : Nat) (v has kq T : Int) (L : Int → Int) (g1 : GH), cnL L N ≤ n → 0 ≤ has → has ≤ 10000000000000000 → (∀ i j, i ≠ 217 → g1 i j = g i j) → (∀ j : Int, 0 ≤ j → j < N → g1 217 j = L j) → BW v (SVL gp mm Pl b k D W L N h) → LFT D W L N T → (T + has = G ∨ ((∀ j : Int, 0 ≤ j → j < N → L j = 0) ∧ T ≤ G)) → ((kq = -1 ∧ ∀ j : Int, 0 ≤ j → j < N → L j = 0) ∨ (0 ≤ kq ∧ kq < N ∧ 0 < L kq ∧ ∀ j : Int, 0 ≤ j → j < N → 0 < L j → ¬ BF D j kq)) → WQ sc (d + 1) 242 Q 109 [(2, 165), (0, k), (9, 0), (0, v), (0, h), (1, has), (8, 0), (0, kq), (9, 0), (9, 0)] [] g1 r := by
  have k9 : okr 218 165 9 := okd (by decide +kernel)
  have hw : wr (h + 1) = h + 1 := wr_id ⟨by omega, by omega⟩
  -- nothing is left to be shared
  have done0 : ∀ (v kq T : Int) (L : Int → Int) (g1 : GH), (∀ i j, i ≠ 217 → g1 i j = g i j) → (∀ j : Int, 0 ≤ j → j < N → g1 217 j = L j) → BW v (SVL gp mm Pl b k D W L N h) → LFT D W L N T → (T + 0 = G ∨ ((∀ j : Int, 0 ≤ j → j < N → L j = 0) ∧ T ≤ G)) → WQ sc (d + 1) 242 Q 109 [(2, 165), (0, k), (9, 0), (0, v), (0, h), (1, 0), (8, 0), (0, kq), (9, 0), (9, 0)] [] g1 r := by
    intro v kq T L g1 fr h17 bw lf tg
    refine b_242_109 (ite_c (fun z => absurd (cmp_gt.mp z) (by decide)) (fun _ => ?_))
    rw [hw]
    exact hq v g1 L fr h17 bw ⟨T, lf, tg.imp (fun x => by omega) (fun x => x)⟩
  intro n
  induction n with
  | zero =>
    intro v has kq T L g1 cn h0 hb fr h17 bw lf tg st
    have al : ∀ j : Int, 0 ≤ j → j < N → L j = 0 := fun j j0 j1 => cn_0 (by omega) j0 j1
    rcases st with ⟨e, _⟩ | ⟨a0, a1, lk, _⟩
    · refine b_242_109 (ite_c (fun _ => ite_c (fun _ => ?_) (fun z => absurd (by omega) z)) (fun _ => ?_))
      · rw [hw]; exact hq v g1 L fr h17 bw ⟨T, lf, Or.inr ⟨al, tg.elim (fun x => by omega) (fun x => x.2)⟩⟩
      · rw [hw]; exact hq v g1 L fr h17 bw ⟨T, lf, Or.inr ⟨al, tg.elim (fun x => by omega) (fun x => x.2)⟩⟩
    · have := al kq a0 a1
      omega
  | succ n ih =>
    intro v has kq T L g1 cn h0 hb fr h17 bw lf tg st
    rcases st with ⟨e, al⟩ | ⟨a0, a1, lk, mn⟩
    · refine b_242_109 (ite_c (fun _ => ite_c (fun _ => ?_) (fun z => absurd (by omega) z)) (fun _ => ?_))
      · rw [hw]; exact hq v g1 L fr h17 bw ⟨T, lf, Or.inr ⟨al, tg.elim (fun x => by omega) (fun x => x.2)⟩⟩
      · rw [hw]; exact hq v g1 L fr h17 bw ⟨T, lf, Or.inr ⟨al, tg.elim (fun x => by omega) (fun x => x.2)⟩⟩
    · have wk := hW kq a0 a1
      have lw := (lf.1 kq a0 a1).2
      have tg' : T + has = G := tg.elim (fun x => x) (fun x => by have := x.1 kq a0 a1; omega)
      have e15 : g1 215 kq = D kq := by rw [fr 215 kq (by decide)]; exact h15 kq a0 a1
      have e70 : g1 165 70 = N := by rw [fr 165 70 (by decide)]; exact h70
      -- a part of it is ground
      have part : ∀ p, 0 ≤ p → p ≤ L kq → p ≤ has → (p = has ∨ p = L kq) → WQ sc (d + 1) 242 Q 146 [(2, 165), (0, k), (9, 0), (0, v), (0, h), (1, has), (8, 0), (0, kq), (9, 0), (9, 0)] [(1, p)] g1 r := by
        intro p p0 p1 p2 pe
        obtain ⟨L', L1, L2⟩ : ∃ L' : Int → Int, L' kq = L kq - p ∧ ∀ j, j ≠ kq → L' j = L j := ⟨fun j => if j = kq then L kq - p else L j, if_pos rfl, fun j ne => if_neg ne⟩
        have lf' : LFT D W L' N (T + p) := lft_s lf a0 a1 mn lk p0 p1 L1 L2
        have nn : ∀ j : Int, 0 ≤ j → j < N → 0 ≤ L' j := fun j j0 j1 => (lf'.1 j j0 j1).1
        refine b_242_146 ⟨k9, ?_⟩
        rw [r_165_73 hr, r_165_71 hr, h17 kq a0 a1, wL_id (x := L kq - p) ⟨by omega, by omega⟩, wL_id (x := has - p) ⟨by omega, by omega⟩]
        refine ⟨i_217.mpr ⟨a0, by omega⟩, i_217.mpr ⟨a0, by omega⟩, fun g2 e2 => ⟨k9, i_217.mpr ⟨a0, by omega⟩, ?_⟩⟩
        have x17 : g2 217 kq = L kq - p := by rw [e2, up_s]
        have x15 : g2 215 kq = D kq := by rw [e2, up_i (by decide)]; exact e15
        have fr2 : ∀ i j, i ≠ 217 → g2 i j = g i j := fun i j ne => by rw [e2, up_i ne]; exact fr i j ne
        have v17 : ∀ j : Int, 0 ≤ j → j < N → g2 217 j = L' j := fun j j0 j1 => by
          by_cases z : j = kq
          · rw [z, x17, L1]
          · rw [e2, up_j z, L2 j z]; exact h17 j j0 j1
        rw [x17, x15]
        -- go on with what is left
        have next : ∀ v', BW v' (SVL gp mm Pl b k D W L' N h) → (p = has ∨ L' kq = 0) → Ce sc (d + 1) 241 [(2, 165)] g2 r (fun v1 g3 r1 => WQ sc (d + 1) 242 Q 109 [(2, 165), (0, k), (9, 0), (0, v'), (0, h), (1, has - p), (8, 0), (0, v1), (9, 0), (9, 0)] [] g3 r1) := by
          intro v' bw' sp
          refine f_241 (d := d) (D := D) (L := L') (N := N) hr hN ((fr2 165 70 (by decide)).trans h70) (fun j j0 j1 => (fr2 215 j (by decide)).trans (h15 j j0 j1)) (fun j j0 j1 => ⟨v17 j j0 j1, nn j j0 j1⟩) (fun al => ?_) (fun k' b0 b1 lk' mn' => ?_)
          · rcases sp with sp | sp
            · rw [show has - p = 0 by omega]
              exact done0 v' (-1) (T + p) L' g2 fr2 v17 bw' lf' (Or.inl (by omega))
            · exact ih v' (has - p) (-1) (T + p) L' g2 (by rw [cn_s a0 a1 (by omega) sp L2]; omega) (by omega) (by omega) fr2 v17 bw' lf' (Or.inl (by omega)) (Or.inl ⟨rfl, al⟩)
          · rcases sp with sp | sp
            · rw [show has - p = 0 by omega]
              exact done0 v' k' (T + p) L' g2 fr2 v17 bw' lf' (Or.inl (by omega))
            · exact ih v' (has - p) k' (T + p) L' g2 (by rw [cn_s a0 a1 (by omega) sp L2]; omega) (by omega) (by omega) fr2 v17 bw' lf' (Or.inl (by omega)) (Or.inr ⟨b0, b1, lk', mn'⟩)
        refine ite_c (fun z => ?_) (fun z => ⟨k9, ?_⟩)
        · have z0 : L kq - p = 0 := cmp_eq.mp z
          refine ⟨k9, i_215.mpr ⟨a0, by omega⟩, ite_c (fun y => ⟨k9, next v (bw.c (fun j j0 j8 => ?_)) (Or.inr (by rw [L1]; exact z0))⟩) (fun y => ⟨k9, next _ (bw_or bw a0 (by omega) (fun j j0 j8 => ?_)) (Or.inr (by rw [L1]; exact z0))⟩)⟩
          · unfold SVL
            by_cases x : j = kq
            · rw [x]
              exact ⟨fun u => ⟨u.1, u.2.elim Or.inl (fun q => absurd q.1 (by omega))⟩, fun u => ⟨u.1, u.2.elim Or.inl (fun q => absurd q.1 (by omega))⟩⟩
            · rw [L2 j x]
          · unfold SVL
            by_cases x : j = kq
            · rw [x]
              exact ⟨fun _ => Or.inl rfl, fun _ => ⟨a1, Or.inr ⟨by omega, by rw [L1]; exact z0⟩⟩⟩
            · rw [L2 j x]
              exact ⟨fun u => Or.inr u, fun u => u.resolve_left x⟩
        · have z0 : ¬ L kq - p = 0 := fun q => z (cmp_eq.mpr q)
          refine next v (bw.c (fun j j0 j8 => ?_)) (Or.inl (by omega))
          unfold SVL
          by_cases x : j = kq
          · rw [x]
            exact ⟨fun u => ⟨u.1, u.2.elim Or.inl (fun q => by have q2 := q.2; rw [L1] at q2; exact absurd q2 z0)⟩, fun u => ⟨u.1, u.2.elim Or.inl (fun q => by have q2 := q.2; omega)⟩⟩
          · rw [L2 j x]
      refine b_242_109 (ite_c (fun z => ite_c (fun y => absurd y (by omega)) (fun _ => ⟨k9, ?_⟩)) (fun z => ?_))
      · rw [r_165_73 hr, h17 kq a0 a1]
        refine ⟨i_217.mpr ⟨a0, by omega⟩, ite_c (fun y => ?_) (fun y => ⟨k9, i_217.mpr ⟨a0, by omega⟩, ?_⟩)⟩
        · have y' := cmp_lt.mp y
          exact part has h0 (by omega) (Int.le_refl _) (Or.inl rfl)
        · have y' : ¬ has < L kq := fun q => y (cmp_lt.mpr q)
          exact part (L kq) (by omega) (Int.le_refl _) (by omega) (Or.inr rfl)
      · have z' : ¬ 0 < has := fun q => z (cmp_gt.mpr q)
        rw [hw]
        exact hq v g1 L fr h17 bw ⟨T, lf, Or.inl (by omega)⟩
/-- the day, the reference -/
theorem plm_v (o0 : 0 ≤ opn) (h52 : g 165 52 = 0) (h54 : g 165 54 = opn) (h56 : g 165 56 = k) : PLM g (PVE k opn) := fun m h m0 m6 _ _ => by
  rw [h52, h54, h56]
  have z : ∀ k : Int, i_and (i_shr 0 k) 1 = 0 := fun k => by
    have e : i_shr 0 k = 0 := by
      unfold i_shr
      rw [show Int32.ofInt 0 = 0 by decide, Int32.zero_shiftRight]
      decide
    rw [e]; decide
  unfold PVE
  exact ⟨fun y => ⟨if_pos y, o0⟩, fun y _ => if_neg y, fun _ y => absurd (z m) y⟩
theorem plc_v (o0 : 0 ≤ opn) (h49 : ∀ m, 0 ≤ m → m < 6 → g 49 m = if m = k then 0 else -1) (h1 : g 48 1 = 24) (h2 : g 48 2 = opn) : PLC 48 g (PVE k opn) := fun m h m0 m6 j0 j1 => by
  have e := h49 m m0 m6
  show (g 49 m = -1 → _) ∧ (g 49 m ≠ -1 → 0 ≤ g 49 m ∧ g 49 m ≤ 18 ∧ _)
  unfold PVE
  by_cases z : m = k
  · rw [if_pos z] at e
    rw [if_pos z, e, h1, h2]
    have e2 : g (48 + 1) m = 0 := e
    exact ⟨fun y => absurd y (by decide), fun _ => ⟨by decide, by decide, o0, by rw [e2, if_pos (by omega)]⟩⟩
  · rw [if_neg z] at e
    rw [if_neg z]
    exact ⟨fun _ => rfl, fun y => absurd e y⟩
theorem f_242l (hr : RI r) (hp : PO gp mm) (o0 : 0 ≤ opn) (o9 : opn ≤ 999) (hx : MXA gp mm) (hB : HB b) (h9 : b 0 0 ≤ 936) (t : TM gp k) (hN : (N : Int) ≤ 8) (hW : ∀ j : Int, 0 ≤ j → j < N → 1 ≤ W j ∧ W j ≤ 999999999) (hD : ∀ j : Int, 0 ≤ j → j < N → 1 ≤ D j ∧ D j ≤ 24) (hq : ∀ v g', BW v (fun i => i < N ∧ AE D W N i ≤ gsE gp mm (PVE k opn) b k (D i)) → Q v g' r) : ∀ (n : Nat) (h v T : Int) (L : Int → Int) (g : GH), 1 ≤ h → h + n = 25 → EQK gp g → MBR 4 g (hrN gp mm (PVE k opn) (h - 1).toNat b) → (g 165 52 = 0 ∧ g 165 54 = opn ∧ g 165 56 = k) → g 165 70 = N → (∀ j : Int, 0 ≤ j → j < N → g 215 j = D j) → (∀ j : Int, 0 ≤ j → j < N → g 217 j = L j) → LFT D W L N T → (T = gsE gp mm (PVE k opn) b k (h - 1) ∨ ((∀ j : Int, 0 ≤ j → j < N → L j = 0) ∧ T ≤ gsE gp mm (PVE k opn) b k (h - 1))) → BW v (SVL gp mm (PVE k opn) b k D W L N h) → WQ sc (d + 9) 242 Q 83 [(2, 165), (0, k), (9, 0), (0, v), (0, h), (9, 0), (9, 0), (9, 0), (9, 0), (9, 0)] [] g r := by
  have k9 : okr 218 165 9 := okd (by decide +kernel)
  have hP := pv_o (k := k) o0 o9
  have t6 := t.2.1
  intro n
  induction n with
  | zero =>
    intro h v T L g h1 e _ _ _ _ _ _ _ _ bw
    refine b_242_83 (ite_c (fun _ => hq v g (bw.c (fun j j0 j8 => ?_))) (fun z => absurd (by omega) z))
    unfold SVL
    constructor
    · intro u
      have dj := hD j j0 u.1
      exact ⟨u.1, Or.inl ⟨by omega, u.2⟩⟩
    · intro u
      have dj := hD j j0 u.1
      exact ⟨u.1, u.2.elim (fun x => x.2) (fun x => absurd x.1 (by omega))⟩
  | succ n ih =>
    intro h v T L g h1 e hk mb aa h70 h15 h17 lf tg bw
    have q := hrN_b hp hP (h - 1).toNat b hB (by omega)
    have gs := gs_s (gp := gp) (mm := mm) (Pl := PVE k opn) (b := b) (k := k) (h := h - 1) (by omega)
    rw [show h - 1 + 1 = h by omega] at gs
    have eb := hr_14 (Pl := PVE k opn) hp q.1 t
    refine b_242_83 (ite_c (fun z => absurd z (by omega)) (fun _ => ⟨k9, f_205 (mm := mm) (Pl := PVE k opn) (b := hrN gp mm (PVE k opn) (h - 1).toNat b) (gp := gp) hr hp hP hx (by decide) (by decide) hk q.1 (by rw [q.2]; omega) mb (plm_v o0 aa.1 aa.2.1 aa.2.2) (fun g1 f1 m1 ro => ⟨k9, ?_⟩)⟩))
    have v7 : g1 207 k = hrE gp mm (PVE k opn) (hrN gp mm (PVE k opn) (h - 1).toNat b) 14 k := (ro k t.1 t.2.1 t.2.2).2.1
    rw [← hrN_s, show (h - 1).toNat + 1 = h.toNat by omega] at m1
    rw [r_165_59 hr, v7]
    have o : ∀ i j, i = 165 ∨ i = 215 ∨ i = 217 → g1 i j = g i j := fun i j z => f1 i j (by omega) (by omega) (by omega)
    have p70 : g1 165 70 = N := (o 165 70 (by decide)).trans h70
    have p15 : ∀ j : Int, 0 ≤ j → j < N → g1 215 j = D j := fun j j0 j1 => (o 215 j (by decide)).trans (h15 j j0 j1)
    have p17 : ∀ j : Int, 0 ≤ j → j < N → g1 217 j = L j := fun j j0 j1 => (o 217 j (by decide)).trans (h17 j j0 j1)
    have tg1 : T + hrE gp mm (PVE k opn) (hrN gp mm (PVE k opn) (h - 1).toNat b) 14 k = gsE gp mm (PVE k opn) b k h ∨ ((∀ j : Int, 0 ≤ j → j < N → L j = 0) ∧ T ≤ gsE gp mm (PVE k opn) b k h) := tg.imp (fun x => by rw [x]; exact gs.symm) (fun x => ⟨x.1, by have := x.2; omega⟩)
    have fin : ∀ v g' L', (∀ i j, i ≠ 217 → g' i j = g1 i j) → (∀ j : Int, 0 ≤ j → j < N → g' 217 j = L' j) → BW v (SVL gp mm (PVE k opn) b k D W L' N h) → (∃ T, LFT D W L' N T ∧ (T = gsE gp mm (PVE k opn) b k h ∨ ((∀ j : Int, 0 ≤ j → j < N → L' j = 0) ∧ T ≤ gsE gp mm (PVE k opn) b k h))) → WQ sc (d + 9) 242 Q 83 [(2, 165), (0, k), (9, 0), (0, v), (0, h + 1), (9, 0), (9, 0), (9, 0), (9, 0), (9, 0)] [] g' r := by
      intro v' g' L' fr v17 bw' ex
      obtain ⟨T', lf', tg'⟩ := ex
      have f5 : ∀ j, j = 52 ∨ j = 54 ∨ j = 56 → g' 165 j = g 165 j := fun j _ => (fr 165 j (by decide)).trans (o 165 j (by decide))
      have kk : ∀ j : Int, 0 ≤ j → j < N → (L' j = 0 ↔ AE D W N j ≤ gsE gp mm (PVE k opn) b k h) := fun j j0 j1 => by
        have l := lft_i hW lf' j0 j1
        rcases tg' with x | ⟨x, y⟩
        · rw [← x]; exact l
        · have a := l.mp (x j j0 j1)
          exact ⟨fun _ => by omega, fun _ => x j j0 j1⟩
      refine ih (h + 1) v' T' L' g' (by omega) (by omega) (fun i j z => (fr i j (by omega)).trans (hk.fh f1 i j z)) ?_ ⟨(f5 52 (by decide)).trans aa.1, (f5 54 (by decide)).trans aa.2.1, (f5 56 (by decide)).trans aa.2.2⟩ ((fr 165 70 (by decide)).trans p70) (fun j j0 j1 => (fr 215 j (by decide)).trans (p15 j j0 j1)) v17 lf' ?_ (bw'.c (fun j j0 j8 => ?_))
      · rw [show h + 1 - 1 = h by omega]
        exact m1.fr (fun i j hi => fr i j (by omega))
      · rw [show h + 1 - 1 = h by omega]; exact tg'
      · unfold SVL
        by_cases x : D j = h
        · rw [x]
          constructor
          · intro u
            have kj := kk j j0 u.1
            exact ⟨u.1, Or.inr ⟨by omega, u.2.elim (fun y => kj.mpr y.2) (fun y => absurd y.1 (by omega))⟩⟩
          · intro u
            have kj := kk j j0 u.1
            exact ⟨u.1, Or.inl ⟨by omega, u.2.elim (fun y => absurd y.1 (by omega)) (fun y => kj.mp y.2)⟩⟩
        · constructor
          · intro u
            exact ⟨u.1, u.2.imp (fun y => ⟨by omega, y.2⟩) (fun y => ⟨by omega, y.2⟩)⟩
          · intro u
            exact ⟨u.1, u.2.imp (fun y => ⟨by omega, y.2⟩) (fun y => ⟨by omega, y.2⟩)⟩
    have run := fun kq st => f_242w (sc := sc) (d := d + 8) (Q := Q) (gp := gp) (mm := mm) (Pl := PVE k opn) (b := b) (k := k) hr hN hW h1 (by omega) (gsE gp mm (PVE k opn) b k h) fin p70 p15 N v (hrE gp mm (PVE k opn) (hrN gp mm (PVE k opn) (h - 1).toNat b) 14 k) kq T L g1 cnL_b eb.1 eb.2 (fun _ _ _ => rfl) p17 bw lf tg1 st
    exact ⟨i_207.mpr ⟨t.1, by omega⟩, k9, f_241 (d := d + 8) (D := D) (L := L) (N := N) hr hN p70 p15 (fun j j0 j1 => ⟨p17 j j0 j1, (lf.1 j j0 j1).1⟩) (fun al => run (-1) (Or.inl ⟨rfl, al⟩)) (fun k' b0 b1 lk mn => run k' (Or.inr ⟨b0, b1, lk, mn⟩))⟩
theorem bw_z : BW 0 (fun _ => False) := ⟨by decide, by decide, fun j _ _ => by
  have e : bv 0 j = 0 := by
    unfold bv
    rw [Int.zero_ediv]; decide
  rw [e]
  exact ⟨fun z => absurd z (by decide), fun z => z.elim⟩⟩
/-- what is due is laid out -/
theorem f_242c (hr : RI r) (hN : (N : Int) ≤ 8) (h70 : g 165 70 = N) (h16 : ∀ j : Int, 0 ≤ j → j < N → g 216 j = W j) (hq : ∀ g', (∀ i j, i ≠ 217 → g' i j = g i j) → (∀ j : Int, 0 ≤ j → j < N → g' 217 j = W j) → WQ sc d 242 Q 83 [(2, 165), (0, k), (9, 0), (0, 0), (0, 1), (9, 0), (9, 0), (9, 0), (9, 0), (9, 0)] [] g' r) : ∀ (n : Nat) (q : Int) (g' : GH), 0 ≤ q → q + n = N → (∀ i j, i ≠ 217 → g' i j = g i j) → (∀ j, 0 ≤ j → j < q → g' 217 j = W j) → WQ sc d 242 Q 51 [(2, 165), (0, k), (9, 0), (0, q), (9, 0), (9, 0), (9, 0), (9, 0), (9, 0), (9, 0)] [] g' r := by
  have k9 : okr 218 165 9 := okd (by decide +kernel)
  intro n
  induction n with
  | zero =>
    intro q g' q0 e fr v
    refine b_242_51 ⟨k9, ?_⟩
    rw [fr 165 70 (by decide), h70]
    exact ite_c (fun z => absurd z (by omega)) (fun _ => hq g' fr (fun j j0 j1 => v j j0 (by omega)))
  | succ n ih =>
    intro q g' q0 e fr v
    refine b_242_51 ⟨k9, ?_⟩
    rw [fr 165 70 (by decide), h70, r_165_72 hr, r_165_73 hr, fr 216 q (by decide), h16 q q0 (by omega), wr_id (x := q + 1) ⟨by omega, by omega⟩]
    refine ite_c (fun _ => ⟨k9, k9, i_216.mpr ⟨q0, by omega⟩, i_217.mpr ⟨q0, by omega⟩, fun g2 e2 => ih (q + 1) g2 (by omega) (by omega) (fun i j ne => by rw [e2, up_i ne]; exact fr i j ne) (fun j j0 j1 => ?_)⟩) (fun z => absurd (by omega) z)
    by_cases z : j = q
    · rw [z, e2, up_s]
    · rw [e2, up_j z]; exact v j j0 (by omega)
/-- a pair that asks, by what marks the value -/
theorem pvb {ka kb D E : Nat} {as bs : List AV} {V : Int → Prop} (hJ : J6 g r) (hV : ∀ x y, V x → V y → x = y) (v : Ce sc D ka as g r (fun _ g1 r1 => r1 = r ∧ EB r (TM g) (MWh g) g g1)) (t : Ce sc D ka as g r (fun _ g1 r1 => r1 = r ∧ EQF FN g g1)) (cv : Ce sc D ka as g r (fun v1 _ _ => V v1)) (mv : ∀ g1, (∀ i j, 165 ≤ i → g1 i j = g i j) → Ce sc E kb bs g1 r (fun v2 _ _ => V v2)) (mz : ∀ g1, MI g1 → Ce sc E kb bs g1 r (fun _ g2 r2 => r2 = r ∧ MFZ g1 g2)) : Ce sc D ka as g r (fun v1 g1 r1 => Ce sc E kb bs g1 r1 fun v2 g2 r2 => v1 = v2 ∧ J6 g2 r2) := by
  refine Ce_mono (Ce_and (Ce_and v t) cv) (fun v1 g1 r1 w => ?_)
  obtain ⟨⟨⟨er, eb⟩, _, ef⟩, ev⟩ := w
  have er' := er.symm
  subst er'
  have j1 : J6 g1 r := hJ.z (hJ.1.eb eb) ef.z6
  refine Ce_mono (Ce_and (mv g1 (fun i j h => ef i (hi_fn h) j)) (mz g1 j1.1.1.1.1.1.2.2.2.1)) (fun v2 g2 r2 u => ?_)
  obtain ⟨ev2, er2, mf⟩ := u
  subst er2
  exact ⟨hV _ _ ev ev2, j1.mf mf⟩
/-- the reference's trial takes what is now; the orders stay -/
theorem f_192v (hr : RI r) (hi : MI g) (mb : MBR 0 g b) (hk : EQK gp g) (hq : ∀ g', EQK gp g' → MBR 4 g' b → g' 165 52 = 0 → (∀ i j, ((i = 165 ∧ j = 70) ∨ i = 215 ∨ i = 216) → g' i j = g i j) → Q 0 g' r) : Ce sc (d + 1) 192 [(2, 165), (0, 0), (0, 4)] g r (fun _ g1 r1 => okr 218 165 9 ∧ Ce sc (d + 1) 201 [(2, 165)] g1 r1 Q) := by
  have k9 : okr 218 165 9 := okd (by decide +kernel)
  refine f_192 (d := d) hr (by decide) (by decide) (by decide) (by decide) (by decide) hi.2.1.2.1 (fun g1 fc mc => ⟨k9, f_201 (d := d) (fun g2 a52 a56 fr => hq g2 (fun i j z => ?_) ((mc b mb).fr (fun i j hh => fr i j (by omega))) a52 (fun i j z => ?_))⟩)
  · rw [fr i j (by omega), fc i j (by omega) (by omega) (by omega)]; exact hk i j z
  · rw [fr i j (by omega), fc i j (by omega) (by omega) (by omega)]
theorem uu_118 (hJ : J7 g r) {A1 A2 : Int} (D0 : Nat) : Ce sc (D0 + 10) 118 [(2, 0), (0, A1), (0, A2)] g r (fun v1 g1 r1 => Ce sc (D0 + 10) 242 [(2, 165), (0, A1), (0, A2)] g1 r1 fun v2 g2 r2 => v1 = v2 ∧ J6 g2 r2) := by
  have hj5 := hJ.1.1
  have hr := hj5.1.1.1.1.1
  have hci := hj5.1.1.1.1.2.1
  have k0 : okr 218 0 8 := okd (by decide +kernel)
  have k9 : okr 218 165 9 := okd (by decide +kernel)
  have k34 : okr 218 34 0 := okd (by decide +kernel)
  have k48 : okr 218 48 4 := okd (by decide +kernel)
  obtain ⟨mm, hp, hx, hc⟩ := par hj5
  obtain ⟨b, hb, cb, mb, zz⟩ := hJ.1.2.1
  have td := td_tm hj5.1.1 A1
  have n8 := hci.2.2.2.2.2
  have c70 : g 62 2 = g 165 70 := hj5.1.1.1.1.2.2.2.2.2.2.2.2
  obtain ⟨N, eN⟩ : ∃ N : Nat, g 62 2 = N := ⟨(g 62 2).toNat, by omega⟩
  have V : Ce sc (D0 + 10) 118 [(2, 0), (0, A1), (0, A2)] g r (fun _ g1 r1 => r1 = r ∧ EB r (TM g) (MWh g) g g1) := v_118 (d := D0 + 2) hr hj5.2 hci (fun _ _ e => ⟨rfl, e⟩)
  have T : Ce sc (D0 + 10) 118 [(2, 0), (0, A1), (0, A2)] g r (fun _ g1 r1 => r1 = r ∧ EQF FN g g1) := t_118 (d := D0 + 2) hr sqn cqn hci (fun _ _ e => ⟨rfl, e⟩)
  have Z : ∀ g1, MI g1 → Ce sc (D0 + 10) 242 [(2, 165), (0, A1), (0, A2)] g1 r (fun _ g2 r2 => r2 = r ∧ MFZ g1 g2) := fun g1 mi => y_242 (d := D0 + 1) hr mi (fun _ _ e => ⟨rfl, e⟩)
  have ord : ∀ j : Int, 0 ≤ j → j < N → (g 63 j = g 215 j ∧ g 64 j = g 216 j) ∧ (1 ≤ g 63 j ∧ g 63 j ≤ 24) ∧ 1 ≤ g 64 j ∧ g 64 j ≤ 999999999 := fun j j0 j1 => by
    obtain ⟨e1, e2, e3, e4⟩ := hJ.2.2 j j0 (by omega)
    refine ⟨⟨e1, e2⟩, ?_⟩
    rw [e1, e2]
    exact ⟨e3, e4⟩
  by_cases P : TM g A1 ∧ (0 ≤ A2 ∧ A2 ≤ 999) ∧ b 0 0 ≤ 936
  · obtain ⟨tm, o, y⟩ := P
    have hP := pv_o (k := A1) o.1 o.2
    refine pvb (V := fun v => BW v (fun i => i < N ∧ AE (fun j => g 63 j) (fun j => g 64 j) N i ≤ gsE g mm (PVE A1 A2) b A1 (g 63 i))) hJ.1 (fun _ _ h k => bw_un h k) V T ?_ (fun g1 hi1 => ?_) Z
    · refine c_118 ⟨k0, w_129 hr (fun t => ?_) (fun z => absurd (td.mpr tm) z)⟩
      rw [if_neg (mo_ne (hr.2.1 A1 t.1 t.2.1))]
      refine w_123 (fun _ _ => ?_) (fun z => absurd o z)
      rw [if_neg (by decide)]
      refine ⟨k0, f_128 (d := D0 + 8) hr cb hb (fun _ => ?_) (fun z => absurd y (by omega))⟩
      rw [if_neg (by decide), r_0_9 hr]
      refine ⟨k0, k48, f_28 (d := D0 + 7) hr (fun g1 a49 a1 a2 fr => ⟨k0, ?_⟩)⟩
      rw [r_0_9 hr, r_48_0 hr, r_0_5 hr, r_0_4 hr]
      refine ⟨k48, i_49.mpr ⟨tm.1, tm.2.1⟩, fun g2 e2 => ⟨k0, k0, k34, ?_⟩⟩
      have fr2 : ∀ i j, i ≠ 48 → i ≠ 49 → g2 i j = g i j := fun i j p q => by rw [e2, up_i q]; exact fr i j p q
      have hc2 : COK g mm r g2 := by
        refine hc.eb hr (EB.e4 hr (EB.rf hc.1) (fun i hi j => fr2 i j ?_ ?_))
        · intro z; rw [z] at hi; exact absurd hi (by unfold F4 F3 SC BO; omega)
        · intro z; rw [z] at hi; exact absurd hi (by unfold F4 F3 SC BO; omega)
      have cb2 : CBR 23 g2 b := cb.fr (fun i j i0 i1 => fr2 i j (by omega) (by omega))
      refine f_1t (d := D0 + 8) (b := b) hr hc2 cb2 (fun j j0 j1 => by rw [fr2 47 j (by decide) (by decide)]; exact hJ.1.2.2.2 j j0 j1) (fun g3 hc3 c34 ru3 f3 => ?_)
      have run := f_118l (sc := sc) (d := D0) (Q := fun v _ _ => BW v (fun i => i < N ∧ AE (fun j => g 63 j) (fun j => g 64 j) N i ≤ gsE g mm (PVE A1 A2) b A1 (g 63 i))) (gp := g) (mm := mm) (Pl := PVE A1 A2) (b := b) (k := A1) (D := fun j => g 63 j) (W := fun j => g 64 j) (N := N) hr hp hP hx hb y tm (by omega) (fun j j0 j1 => (ord j j0 j1).2.2) (fun j j0 j1 => (ord j j0 j1).2.1) (fun _ _ h => h) 24 1 0 g3 (by decide) (by decide) hc3 (cb2.fr (fun i j i0 i1 => f3 i j (by omega))) c34 ?_ ?_ (fun j _ _ => ?_) (fun j _ _ => ?_) (bw_z.c (fun j j0 j8 => ?_))
      · rw [du_0 (fun j j0 j1 => (ord j j0 j1).2.1.1)] at run
        exact run
      · refine plc_v o.1 (fun m m0 m6 => ?_) ?_ ?_
        · rw [f3 49 m (by omega), e2]
          by_cases z : m = A1
          · rw [z, up_s, if_pos rfl]
          · rw [up_j z, if_neg z]; exact a49 m m0 m6
        · rw [f3 48 1 (by omega), e2, up_i (by decide)]; exact a1
        · rw [f3 48 2 (by omega), e2, up_i (by decide)]; exact a2
      · rw [f3 62 2 (by omega), fr2 62 2 (by decide) (by decide)]; exact eN
      · rw [f3 63 j (by omega)]; exact fr2 63 j (by decide) (by decide)
      · rw [f3 64 j (by omega)]; exact fr2 64 j (by decide) (by decide)
      · unfold SVP
        constructor
        · intro u
          have dj : 1 ≤ (fun j => g 63 j) j := (ord j j0 u.1).2.1.1
          have u2 := u.2.1
          omega
        · intro u; exact u.elim
    · have mb1 : MBR 0 g1 b := mb.fr (fun i j hi => hi1 i j (by omega))
      have mi1 : MI g1 := hj5.1.1.1.1.2.2.2.1.hi hi1
      have tm1 : TM g1 A1 := ⟨tm.1, tm.2.1, by rw [hi1 167 A1 (by decide)]; exact tm.2.2⟩
      refine c_242 ⟨k9, w_140 hr (fun _ => ?_) (fun z => absurd tm1 z)⟩
      rw [if_neg (by decide)]
      refine ⟨k9, f_211 (d := D0 + 7) hr (tol_pos tm1) mb1 hb (fun _ => ?_) (fun z => absurd y (by omega))⟩
      rw [if_neg (by decide)]
      refine w_137 (fun _ _ => ?_) (fun z => absurd o z)
      rw [if_neg (by decide)]
      refine ⟨k9, f_192v (d := D0 + 8) (gp := g) (b := b) hr mi1 mb1 (eqk_hi hi1) (fun g2 hk2 mb2 a52 fr2 => ⟨k9, fun g3 e3 => ⟨k9, fun g4 e4 => ?_⟩⟩)⟩
      have f4 : ∀ i j, ¬ (i = 165 ∧ (j = 54 ∨ j = 56)) → g4 i j = g2 i j := fun i j h => by rw [e4, up_o (by omega), e3, up_o (by omega)]
      have o4 : ∀ i j, ((i = 165 ∧ j = 70) ∨ i = 215 ∨ i = 216) → g4 i j = g i j := fun i j h => by rw [f4 i j (by omega), fr2 i j h]; exact hi1 i j (by omega)
      have p70 : g4 165 70 = N := by rw [o4 165 70 (by decide), ← c70]; exact eN
      refine f_242c (d := D0 + 9) (g := g4) (N := N) (W := fun j => g 64 j) hr (by omega) p70 (fun j j0 j1 => by rw [o4 216 j (by omega)]; exact (ord j j0 j1).1.2.symm) (fun g5 f5 v17 => ?_) N 0 g4 (by decide) (by omega) (fun _ _ _ => rfl) (fun j j0 j1 => absurd j1 (by omega))
      refine f_242l (d := D0) (gp := g) (mm := mm) (b := b) (D := fun j => g 63 j) (W := fun j => g 64 j) (N := N) hr hp o.1 o.2 hx hb y tm (by omega) (fun j j0 j1 => (ord j j0 j1).2.2) (fun j j0 j1 => (ord j j0 j1).2.1) (fun _ _ h => h) 24 1 0 0 (fun j => g 64 j) g5 (by decide) (by decide) (fun i j z => ?_) ?_ ⟨?_, ?_, ?_⟩ ((f5 165 70 (by decide)).trans p70) (fun j j0 j1 => ?_) v17 ⟨fun i i0 i1 => ?_, fun i j _ _ _ _ _ z => ?_, ?_⟩ (Or.inl ?_) (bw_z.c (fun j j0 j8 => ?_))
      · rw [f5 i j (by omega), f4 i j (by omega)]; exact hk2 i j z
      · exact mb2.fr (fun i j hi => (f5 i j (by omega)).trans (f4 i j (by omega)))
      · rw [f5 165 52 (by decide), f4 165 52 (by decide)]; exact a52
      · rw [f5 165 54 (by decide), e4, up_s]
      · rw [f5 165 56 (by decide), e4, up_j (by decide), e3, up_s]
      · rw [f5 215 j (by decide), o4 215 j (by omega)]; exact (ord j j0 j1).1.1.symm
      · have w := (ord i i0 i1).2.2
        show 0 ≤ g 64 i ∧ g 64 i ≤ g 64 i
        exact ⟨by omega, Int.le_refl _⟩
      · exact absurd z (Int.lt_irrefl _)
      · have e : smN (fun i => g 64 i - g 64 i) N = smN (fun _ => 0) N := sm_e N (fun j _ _ => Int.sub_self _)
        rw [e]
        have z : ∀ m : Nat, smN (fun _ => (0 : Int)) m = 0 := fun m => by
          induction m with
          | zero => rfl
          | succ m ih => rw [smN_s, ih]; rfl
        exact z N
      · rfl
      · unfold SVL
        constructor
        · intro u
          have oj := ord j j0 u.1
          have d1 : 1 ≤ (fun j => g 63 j) j := oj.2.1.1
          have w1 : 1 ≤ (fun j => g 64 j) j := oj.2.2.1
          rcases u.2 with x | x
          · omega
          · omega
        · intro u; exact u.elim
  · refine pv hJ.1 (-1) V T ?_ (fun g1 hi1 => ?_) Z
    · refine c_118 ⟨k0, w_129 hr (fun t => ?_) (fun _ => by rw [if_pos rfl])⟩
      have tm := td.mp t
      rw [if_neg (mo_ne (hr.2.1 A1 t.1 t.2.1))]
      refine w_123 (fun p q => ?_) (fun _ => by rw [if_pos rfl])
      rw [if_neg (by decide)]
      refine ⟨k0, f_128 (d := D0 + 8) hr cb hb (fun y => absurd ⟨tm, ⟨p, q⟩, y⟩ P) (fun _ => by rw [if_pos rfl])⟩
    · have mb1 : MBR 0 g1 b := mb.fr (fun i j hi => hi1 i j (by omega))
      refine c_242 ⟨k9, w_140 hr (fun t => ?_) (fun _ => by rw [if_pos rfl])⟩
      have tm : TM g A1 := ⟨t.1, t.2.1, by rw [← hi1 167 A1 (by decide)]; exact t.2.2⟩
      rw [if_neg (by decide)]
      refine ⟨k9, f_211 (d := D0 + 7) hr (tol_pos t) mb1 hb (fun y => ?_) (fun _ => by rw [if_pos rfl])⟩
      rw [if_neg (by decide)]
      exact w_137 (fun p q => absurd ⟨tm, ⟨p, q⟩, y⟩ P) (fun _ => by rw [if_pos rfl])
theorem x_118 (hJ : J7 g r) {A1 A2 : Int} (D0 : Nat) : Ce sc (D0 + 10) 118 [(2, 0), (0, A1), (0, A2)] g r (fun v1 g1 r1 => Ce sc (D0 + 10) 242 [(2, 165), (0, A1), (0, A2)] g1 r1 fun v2 g2 r2 => v1 = v2 ∧ J7 g2 r2) := by
  have hr := hJ.1.1.1.1.1.1.1
  exact p7 hJ (uu_118 hJ D0) (t_118 (d := D0 + 2) hr sqn cqn hJ.1.1.1.1.1.1.2.1 (fun _ _ e => ⟨hr, e.cn⟩)) (fun g1 r1 hr1 mi hi => y_242 (d := D0 + 1) hr1 mi (fun _ _ e => e.p7))
end SRV
