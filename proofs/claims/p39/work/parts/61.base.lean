/-! small methods, on any heap -/
theorem RI_F : RI rF := by
  have h : ∀ n : Nat, n < 6 → MO (rF 6 n) ∧ rF 6 n ≠ rF 0 2 ∧ ∀ k : Nat, k < 6 → n ≠ k → rF 6 n ≠ rF 6 k := by
    have e2 : rF 0 2 = 7 := by decide +kernel
    have g0 : rF 6 0 = 66 := by decide +kernel
    have g1 : rF 6 1 = 77 := by decide +kernel
    have g2 : rF 6 2 = 88 := by decide +kernel
    have g3 : rF 6 3 = 99 := by decide +kernel
    have g4 : rF 6 4 = 110 := by decide +kernel
    have g5 : rF 6 5 = 121 := by decide +kernel
    have key : ∀ n : Nat, n < 6 → rF 6 (n : Int) = 66 + 11 * (n : Int) := by
      intro n hn
      match n, hn with
      | 0, _ => exact g0
      | 1, _ => exact g1
      | 2, _ => exact g2
      | 3, _ => exact g3
      | 4, _ => exact g4
      | 5, _ => exact g5
    intro n hn
    rw [key n hn, e2]
    refine ⟨by unfold MO; omega, by omega, fun k hk hne => ?_⟩
    rw [key k hk]
    omega
  refine ⟨fun _ _ _ _ => rfl, fun j h0 h1 => ?_, ?_, fun j h0 h1 => ?_, fun i j h0 h1 h2 h3 hne => ?_⟩
  · have := (h j.toNat (by omega)).1
    rwa [Int.toNat_of_nonneg h0] at this
  · have e2 : rF 0 2 = 7 := by decide +kernel
    rw [e2]; exact Or.inl rfl
  · have := (h j.toNat (by omega)).2.1
    rwa [Int.toNat_of_nonneg h0] at this
  · have := (h i.toNat (by omega)).2.2 j.toNat (by omega) (by omega)
    rwa [Int.toNat_of_nonneg h0, Int.toNat_of_nonneg h2] at this
theorem mo_ne {m : Int} (h : MO m) : ¬ m = -1 := by unfold MO at h; omega
theorem mo_ok {m : Int} (h : MO m) : okr 218 m 2 := by
  rcases h with rfl | rfl | rfl | rfl | rfl | rfl | rfl <;> exact okd (by decide +kernel)
theorem mo_w {m : Int} (h : MO m) : okr 218 (m + 1) 7 := by
  rcases h with rfl | rfl | rfl | rfl | rfl | rfl | rfl <;> exact okd (by decide +kernel)
theorem mo_1 {r : GH} {m : Int} (hr : RI r) (h : MO m) : r m 1 = m + 1 := by
  rcases h with rfl | rfl | rfl | rfl | rfl | rfl | rfl
  · exact r_7_1 hr
  · exact r_66_1 hr
  · exact r_77_1 hr
  · exact r_88_1 hr
  · exact r_99_1 hr
  · exact r_110_1 hr
  · exact r_121_1 hr
theorem mo_4 {r : GH} {m : Int} (hr : RI r) (h : MO m) : r m 4 = m + 6 := by
  rcases h with rfl | rfl | rfl | rfl | rfl | rfl | rfl
  · exact r_7_4 hr
  · exact r_66_4 hr
  · exact r_77_4 hr
  · exact r_88_4 hr
  · exact r_99_4 hr
  · exact r_110_4 hr
  · exact r_121_4 hr
theorem cmp_lt {x y : Int} : cmpL x y < 0 ↔ x < y := by unfold cmpL; split <;> (try split) <;> omega
theorem cmp_gt {x y : Int} : 0 < cmpL x y ↔ y < x := by unfold cmpL; split <;> (try split) <;> omega
theorem cmp_eq {x y : Int} : cmpL x y = 0 ↔ x = y := by unfold cmpL; split <;> (try split) <;> omega
/-- a mill told -/
def TD (g r : GH) (m : Int) : Prop := 0 ≤ m ∧ m < 6 ∧ g (r 6 m) 0 ≠ 0
section SML
variable {sc : SCR} {d : Nat} {Q : QJ} {g r : GH} {l0 l1 l2 l3 l4 : Int}
theorem w_123 (h1 : l1 ≤ l0 → l0 ≤ l2 → Q 1 g r) (h0 : ¬ (l1 ≤ l0 ∧ l0 ≤ l2) → Q 0 g r) : Ce sc (d + 1) 123 [(0, l0), (0, l1), (0, l2)] g r Q := by
  refine c_123 ?_
  split
  · exact ⟨Or.inl rfl, h0 (by omega)⟩
  · split
    · exact ⟨Or.inl rfl, h0 (by omega)⟩
    · exact ⟨Or.inr rfl, h1 (by omega) (by omega)⟩
theorem w_124 (h1 : 0 ≤ l0 → l0 ≤ 99999 → Q 1 g r) (h0 : ¬ (0 ≤ l0 ∧ l0 ≤ 99999) → Q 0 g r) : Ce sc (d + 2) 124 [(0, l0)] g r Q :=
  c_124 (w_123 (fun a b => ⟨Or.inr rfl, h1 a b⟩) (fun a => ⟨Or.inl rfl, h0 a⟩))
theorem w_127 (h1 : 0 ≤ l0 → l0 ≤ 39 → Q 1 g r) (h0 : ¬ (0 ≤ l0 ∧ l0 ≤ 39) → Q 0 g r) : Ce sc (d + 2) 127 [(0, l0)] g r Q :=
  c_127 (w_123 (fun a b => ⟨Or.inr rfl, h1 a b⟩) (fun a => ⟨Or.inl rfl, h0 a⟩))
theorem w_137 (h1 : l2 ≤ l0 → l0 ≤ l4 → Q 1 g r) (h0 : ¬ (l2 ≤ l0 ∧ l0 ≤ l4) → Q 0 g r) : Ce sc (d + 1) 137 [(1, l0), (1, l2), (1, l4)] g r Q := by
  refine c_137 ?_
  simp only [cmp_lt, cmp_gt]
  split
  · exact ⟨Or.inl trivial, h0 (by omega)⟩
  · split
    · exact ⟨Or.inl trivial, h0 (by omega)⟩
    · exact ⟨Or.inr trivial, h1 (by omega) (by omega)⟩
theorem w_178 (h1 : 0 ≤ l0 → l0 ≤ 99999 → Q 1 g r) (h0 : ¬ (0 ≤ l0 ∧ l0 ≤ 99999) → Q 0 g r) : Ce sc (d + 1) 178 [(0, l0)] g r Q := by
  refine c_178 ?_
  split
  · exact ⟨Or.inl rfl, h0 (by omega)⟩
  · split
    · exact ⟨Or.inl rfl, h0 (by omega)⟩
    · exact ⟨Or.inr rfl, h1 (by omega) (by omega)⟩
theorem w_250 (h1 : l0 ≤ l1 → Q l0 g r) (h0 : l1 ≤ l0 → Q l1 g r) : Ce sc (d + 1) 250 [(0, l0), (0, l1)] g r Q := by
  refine c_250 ?_
  split
  · exact h0 (by omega)
  · exact h1 (by omega)
theorem w_129 (hr : RI r) (h1 : TD g r l1 → Q (r 6 l1) g r) (h0 : ¬ TD g r l1 → Q (-1) g r) : Ce sc (d + 2) 129 [(2, 0), (0, l1)] g r Q := by
  refine c_129 (w_123 (fun a b => ?_) (fun a => ?_))
  · rw [if_neg (by decide), r_0_1 hr]
    have hm := hr.2.1 l1 a (by omega)
    refine ⟨okd (by decide +kernel), Or.inl (i_6.mpr ⟨a, by omega⟩), ?_⟩
    rw [if_neg (mo_ne hm)]
    refine ⟨mo_ok hm, ?_⟩
    split
    · exact h0 (fun q => q.2.2 (by assumption))
    · exact h1 ⟨a, by omega, by assumption⟩
  · rw [if_pos rfl]
    exact h0 (fun q => a ⟨q.1, by have := q.2.1; omega⟩)
theorem w_130 (hr : RI r) (h1 : TD g r l1 → g (r 6 l1 + 1) 0 ≠ 0 → Q (r 6 l1 + 1) g r) (h0 : ¬ (TD g r l1 ∧ g (r 6 l1 + 1) 0 ≠ 0) → Q (-1) g r) : Ce sc (d + 3) 130 [(2, 0), (0, l1)] g r Q := by
  refine c_130 ⟨okd (by decide +kernel), w_129 hr (fun t => ?_) (fun t => ?_)⟩
  · have hm := hr.2.1 l1 t.1 t.2.1
    rw [if_neg (mo_ne hm), mo_1 hr hm]
    refine ⟨mo_ok hm, mo_w hm, ?_⟩
    split
    · exact h0 (fun q => q.2 (by assumption))
    · exact ⟨mo_ok hm, h1 t (by assumption)⟩
  · rw [if_pos rfl]
    exact h0 (fun q => t q.1)
theorem w_133 (hr : RI r) (h0 : 0 ≤ l1) (h2 : l1 ≤ 2) (h : Q (-1) (up g 65 l1 (wr (g 65 l1 + 1))) r) : Ce sc (d + 2) 133 [(2, 0), (0, l1)] g r Q := by
  refine c_133 (w_123 (fun _ _ => ?_) (fun q => (q ⟨h0, h2⟩).elim))
  rw [if_neg (by decide), r_0_17 hr]
  exact ⟨okd (by decide +kernel), i_65.mpr ⟨h0, by omega⟩, i_65.mpr ⟨h0, by omega⟩, fun g2 e => by rw [e]; exact h⟩
theorem w_134 (hr : RI r) (h0 : 0 ≤ l1) (h2 : l1 ≤ 2) (h : Q 0 (up g 65 l1 (wr (g 65 l1 + 1))) r) : Ce sc (d + 3) 134 [(2, 0), (0, l1)] g r Q :=
  c_134 ⟨okd (by decide +kernel), w_133 hr h0 h2 ⟨Or.inl rfl, h⟩⟩
theorem w_138 (hr : RI r) (h0 : 0 ≤ l1) (h2 : l1 ≤ 2) (h : Q (-1) (up g 166 l1 (wr (g 166 l1 + 1))) r) : Ce sc (d + 1) 138 [(2, 165), (0, l1)] g r Q := by
  refine c_138 ?_
  rw [r_165_0 hr]
  exact ⟨okd (by decide +kernel), i_166.mpr ⟨h0, by omega⟩, i_166.mpr ⟨h0, by omega⟩, fun g2 e => by rw [e]; exact h⟩
theorem w_139 (hr : RI r) (h : Q 0 (up g 166 0 (wr (g 166 0 + 1))) r) : Ce sc (d + 1) 139 [(2, 165)] g r Q := by
  refine c_139 ?_
  rw [r_165_0 hr]
  exact ⟨okd (by decide +kernel), i_166.mpr ⟨by omega, by omega⟩, i_166.mpr ⟨by omega, by omega⟩, fun g2 e => by rw [e]; exact ⟨Or.inl rfl, h⟩⟩
/-- a mill told, of the model -/
def TM (g : GH) (m : Int) : Prop := 0 ≤ m ∧ m < 6 ∧ g 167 m ≠ 0
theorem w_140 (hr : RI r) (h1 : TM g l1 → Q 1 g r) (h0 : ¬ TM g l1 → Q 0 g r) : Ce sc (d + 1) 140 [(2, 165), (0, l1)] g r Q := by
  refine c_140 ?_
  split
  · exact ⟨Or.inl rfl, h0 (fun q => by have := q.1; omega)⟩
  · split
    · rw [r_165_1 hr]
      refine ⟨okd (by decide +kernel), Or.inr (i_167.mpr ⟨by omega, by omega⟩), ?_⟩
      split
      · exact ⟨Or.inl rfl, h0 (fun q => q.2.2 (by assumption))⟩
      · exact ⟨Or.inr rfl, h1 ⟨by omega, by omega, by assumption⟩⟩
    · exact ⟨Or.inl rfl, h0 (fun q => by have := q.2.1; omega)⟩
theorem w_179 (hr : RI r) (h1 : TM g l1 → g 168 l1 ≠ 0 → Q 1 g r) (h0 : ¬ (TM g l1 ∧ g 168 l1 ≠ 0) → Q 0 g r) : Ce sc (d + 2) 179 [(2, 165), (0, l1)] g r Q := by
  refine c_179 ⟨okd (by decide +kernel), w_140 hr (fun t => ?_) (fun t => ?_)⟩
  · rw [if_neg (by decide), r_165_2 hr]
    refine ⟨okd (by decide +kernel), Or.inr (i_168.mpr ⟨t.1, by have := t.2.1; omega⟩), ?_⟩
    split
    · exact ⟨Or.inl rfl, h0 (fun q => q.2 (by assumption))⟩
    · exact ⟨Or.inr rfl, h1 t (by assumption)⟩
  · rw [if_pos rfl]
    exact ⟨Or.inl rfl, h0 (fun q => t q.1)⟩
end SML
/-! SIN, COS -/
def sinV (a : Int) : Int := wr ((wr (4000 * (wr (a * (wr (180 - a)))))).tdiv (wr (40500 - (wr (a * (wr (180 - a)))))))
theorem sin_all : (List.range 181).all (fun a => decide (wr (40500 - wr ((a : Int) * wr (180 - (a : Int)))) ≠ 0 ∧ wr ((wr ((wr (4000 * (a : Int))) * (wr (180 - (a : Int))))).tdiv (wr (40500 - (wr ((a : Int) * (wr (180 - (a : Int)))))))) = sinV (a : Int) ∧ 0 ≤ sinV (a : Int) ∧ sinV (a : Int) ≤ 1000)) = true := by decide +kernel
theorem sin_at {a : Int} (h0 : 0 ≤ a) (h1 : a ≤ 180) : wr (40500 - wr (a * wr (180 - a))) ≠ 0 ∧ wr ((wr ((wr (4000 * a)) * (wr (180 - a)))).tdiv (wr (40500 - (wr (a * (wr (180 - a))))))) = sinV a ∧ 0 ≤ sinV a ∧ sinV a ≤ 1000 := by
  have h := of_decide_eq_true (List.all_eq_true.mp sin_all a.toNat (List.mem_range.mpr (by omega)))
  rw [Int.toNat_of_nonneg h0] at h
  exact h
def cosV (a : Int) : Int := if 90 < a then wr (-sinV (a - 90)) else sinV (a + 90)
section SIN
variable {sc : SCR} {d : Nat} {Q : QJ} {g r : GH} {l0 l1 l2 l3 : Int}
theorem w_17 (h0 : 0 ≤ l0) (h1 : l0 ≤ 180) (h : Q (sinV l0) g r) : Ce sc (d + 2) 17 [(0, l0)] g r Q := by
  refine c_17 (w_123 (fun _ _ => ?_) (fun q => (q ⟨h0, h1⟩).elim))
  rw [if_neg (by decide)]
  exact ⟨(sin_at h0 h1).1, h⟩
theorem w_18 (h0 : 0 ≤ l0) (h1 : l0 ≤ 180) (h : Q (cosV l0) g r) : Ce sc (d + 3) 18 [(0, l0)] g r Q := by
  refine c_18 ?_
  unfold cosV at h
  split at h
  · rw [if_pos (by assumption), wr_id (x := l0 - 90) ⟨by omega, by omega⟩]
    exact w_17 (by omega) (by omega) h
  · rw [if_neg (by assumption), wr_id (x := l0 + 90) ⟨by omega, by omega⟩]
    exact w_17 (by omega) (by omega) h
theorem w_161 (h0 : 0 ≤ l0) (h1 : l0 ≤ 180) (h : Q (sinV l0) g r) : Ce sc (d + 1) 161 [(0, l0)] g r Q := by
  obtain ⟨e1, e2, -⟩ := sin_at h0 h1
  refine c_161 ⟨e1, ?_⟩
  rw [e2]; exact h
theorem w_162 (h0 : 0 ≤ l0) (h1 : l0 ≤ 180) (h : Q (cosV l0) g r) : Ce sc (d + 2) 162 [(0, l0)] g r Q := by
  refine c_162 ?_
  unfold cosV at h
  split at h
  · rw [if_pos (by assumption), wr_id (x := l0 - 90) ⟨by omega, by omega⟩]
    exact w_161 (by omega) (by omega) h
  · rw [if_neg (by assumption), wr_id (x := l0 + 90) ⟨by omega, by omega⟩]
    exact w_161 (by omega) (by omega) h
def sineV (a b : Int) : Int := if 0 ≤ a ∧ a ≤ 180 ∧ 0 ≤ b ∧ b ≤ 1 then (if b = 0 then sinV a else cosV a) else -2000
theorem s_70 (h : Q (sineV l1 l2) g r) : Ce sc (d + 4) 70 [(2, l0), (0, l1), (0, l2)] g r Q := by
  unfold sineV at h
  refine c_70 (w_123 (fun a1 a2 => ?_) (fun a => ?_))
  · rw [if_neg (by decide)]
    refine w_123 (fun b1 b2 => ?_) (fun b => ?_)
    · rw [if_neg (by decide)]
      rw [if_pos ⟨a1, a2, b1, b2⟩] at h
      split
      · rw [if_pos (by assumption)] at h; exact w_17 a1 a2 h
      · rw [if_neg (by assumption)] at h; exact w_18 a1 a2 h
    · rw [if_pos rfl]
      rw [if_neg (by omega)] at h; exact h
  · rw [if_pos rfl]
    rw [if_neg (by omega)] at h; exact h
theorem m_163 (h : Q (sineV l1 l2) g r) : Ce sc (d + 3) 163 [(2, l0), (0, l1), (0, l2)] g r Q := by
  unfold sineV at h
  refine c_163 (w_137 (fun a1 a2 => ?_) (fun a => ?_))
  · rw [if_neg (by decide)]
    refine w_137 (fun b1 b2 => ?_) (fun b => ?_)
    · rw [if_neg (by decide)]
      rw [if_pos ⟨a1, a2, b1, b2⟩] at h
      split
      · rw [if_pos (by assumption)] at h; exact w_161 a1 a2 h
      · rw [if_neg (by assumption)] at h; exact w_162 a1 a2 h
    · rw [if_pos rfl]
      rw [if_neg (by omega)] at h; exact h
  · rw [if_pos rfl]
    rw [if_neg (by omega)] at h; exact h
end SIN
/-! TEETH -/
section TEE
variable {sc : SCR} {d : Nat} {Q : QJ} {g r : GH} {l0 l1 l2 l3 : Int}
def teethW (b c : Int) (D : Nat) : Int := if c = 1 then (if D = 1 then 1 else 0) else wr (b.tdiv (D : Int))
def teethV (a b c : Int) : Int := if 1 ≤ a ∧ a ≤ 400 ∧ 1 ≤ b ∧ b ≤ 400 ∧ 0 ≤ c ∧ c ≤ 1 then teethW b c (Nat.gcd a.toNat b.toNat) else -1
theorem w_230 (D : Nat) : ∀ (n : Nat) (a b : Nat), b < n → Nat.gcd b a = D → Q (D : Int) g r → WQ sc d 230 Q 4 [(9, 0), (9, 0), (0, (a : Int)), (0, (b : Int)), (9, 0)] [] g r
  | 0, a, b, h, _, _ => by omega
  | n + 1, a, b, h, e, hq => by
    refine b_230_4 ?_
    split
    · refine ⟨by omega, ?_⟩
      have e2 : ((a : Int)).tmod (b : Int) = ((a % b : Nat) : Int) := rfl
      rw [e2]
      refine w_230 D n b (a % b) ?_ ?_ hq
      · have := Nat.mod_lt a (show b > 0 by omega); omega
      · rw [← Nat.gcd_rec]; exact e
    · have : b = 0 := by omega
      subst this
      rw [Nat.gcd_zero_left] at e
      rw [e]; exact hq
theorem w_106 (a b : Nat) (ha : 1 ≤ a) (ha2 : a ≤ 400) (hb : 1 ≤ b) (hb2 : b ≤ 400) (hq : Q (teethW (b : Int) l3 (Nat.gcd a b)) g r) : ∀ (n : Nat) (s i : Nat), i + n = 500 → 2 ≤ i → 1 ≤ s → s ∣ a → s ∣ b → (∀ k, k < i → k ∣ a → k ∣ b → k ≤ s) → i ≤ 401 →
    WQ sc d 106 Q 39 [(9, 0), (0, (a : Int)), (0, (b : Int)), (0, l3), (0, (s : Int)), (0, (i : Int))] [] g r
  | 0, s, i, h, _, _, _, _, _, h7 => by omega
  | n + 1, s, i, h, h2, h3, h4, h5, h6, h7 => by
    have fin : (a < i ∨ b < i) → (if l3 = 1 then (if (s : Int) = 1 then Q 1 g r else Q 0 g r) else (s : Int) ≠ 0 ∧ Q (wr ((b : Int).tdiv (s : Int))) g r) := by
      intro hab
      have hd := Nat.gcd_dvd a b
      have h1 : Nat.gcd a b < i := by
        rcases hab with q | q
        · have := Nat.le_of_dvd (by omega) hd.1; omega
        · have := Nat.le_of_dvd (by omega) hd.2; omega
      have e : s = Nat.gcd a b := by
        have q1 := h6 _ h1 hd.1 hd.2
        have q2 := Nat.le_of_dvd (Nat.gcd_pos_of_pos_left b (by omega)) (Nat.dvd_gcd h4 h5)
        omega
      rw [← e] at hq
      unfold teethW at hq
      split
      · rw [if_pos (by assumption)] at hq
        split
        · rw [if_pos (by omega)] at hq; exact hq
        · rw [if_neg (by omega)] at hq; exact hq
      · rw [if_neg (by assumption)] at hq
        exact ⟨by omega, hq⟩
    refine b_106_39 ?_
    split
    · exact fin (Or.inl (by omega))
    · split
      · exact fin (Or.inr (by omega))
      · have e1 : ((a : Int)).tmod (i : Int) = ((a % i : Nat) : Int) := rfl
        have e2 : ((b : Int)).tmod (i : Int) = ((b % i : Nat) : Int) := rfl
        have e3 : wr ((i : Int) + 1) = ((i + 1 : Nat) : Int) := by rw [wr_id ⟨by omega, by omega⟩]; omega
        rw [e1, e2, e3]
        refine ⟨by omega, ?_⟩
        have st : (¬ (i ∣ a ∧ i ∣ b)) → WQ sc d 106 Q 39 [(9, 0), (0, (a : Int)), (0, (b : Int)), (0, l3), (0, (s : Int)), (0, ((i + 1 : Nat) : Int))] [] g r := fun q =>
          w_106 a b ha ha2 hb hb2 hq n s (i + 1) (by omega) (by omega) h3 h4 h5 (fun k hk q1 q2 => by
            by_cases hki : k = i
            · subst hki; exact (q ⟨q1, q2⟩).elim
            · exact h6 k (by omega) q1 q2) (by omega)
        split
        · refine ⟨by omega, ?_⟩
          split
          · have q1 : i ∣ a := Nat.dvd_of_mod_eq_zero (by omega)
            have q2 : i ∣ b := Nat.dvd_of_mod_eq_zero (by omega)
            exact w_106 a b ha ha2 hb hb2 hq n i (i + 1) (by omega) (by omega) (by omega) q1 q2 (fun k hk _ _ => by omega) (by omega)
          · exact st (fun q => by have := Nat.mod_eq_zero_of_dvd q.2; omega)
        · exact st (fun q => by have := Nat.mod_eq_zero_of_dvd q.1; omega)
theorem s_106 (h : Q (teethV l1 l2 l3) g r) : Ce sc (d + 2) 106 [(2, l0), (0, l1), (0, l2), (0, l3)] g r Q := by
  unfold teethV at h
  refine c_106 (w_123 (fun a1 a2 => ?_) (fun a => ?_))
  · rw [if_neg (by decide)]
    refine w_123 (fun b1 b2 => ?_) (fun b => ?_)
    · rw [if_neg (by decide)]
      refine w_123 (fun x1 x2 => ?_) (fun x => ?_)
      · rw [if_neg (by decide)]
        rw [if_pos ⟨a1, a2, b1, b2, x1, x2⟩] at h
        have e1 : l1 = ((l1.toNat : Nat) : Int) := by omega
        have e2 : l2 = ((l2.toNat : Nat) : Int) := by omega
        rw [e1, e2]
        refine w_106 l1.toNat l2.toNat (by omega) (by omega) (by omega) (by omega) ?_ 498 1 2 (by omega) (by omega) (by omega) (Nat.one_dvd _) (Nat.one_dvd _) (fun k hk _ _ => by omega) (by omega)
        rw [← e2]; exact h
      · rw [if_pos rfl]
        rw [if_neg (by omega)] at h; exact h
    · rw [if_pos rfl]
      rw [if_neg (by omega)] at h; exact h
  · rw [if_pos rfl]
    rw [if_neg (by omega)] at h; exact h
theorem m_231 (h : Q (teethV l1 l2 l3) g r) : Ce sc (d + 2) 231 [(2, l0), (0, l1), (0, l2), (0, l3)] g r Q := by
  unfold teethV at h
  refine c_231 (w_137 (fun a1 a2 => ?_) (fun a => ?_))
  · rw [if_neg (by decide)]
    refine w_137 (fun b1 b2 => ?_) (fun b => ?_)
    · rw [if_neg (by decide)]
      refine w_137 (fun x1 x2 => ?_) (fun x => ?_)
      · rw [if_neg (by decide)]
        rw [if_pos ⟨a1, a2, b1, b2, x1, x2⟩] at h
        have e1 : l1 = ((l1.toNat : Nat) : Int) := by omega
        have e2 : l2 = ((l2.toNat : Nat) : Int) := by omega
        refine c_230 ?_
        rw [show [((9 : Nat), (0 : Int)), (9, 0), (0, l1), (0, l2), (9, 0)] = [(9, 0), (9, 0), (0, ((l1.toNat : Nat) : Int)), (0, ((l2.toNat : Nat) : Int)), (9, 0)] by rw [← e1, ← e2]]
        refine w_230 (Nat.gcd l1.toNat l2.toNat) 401 l1.toNat l2.toNat (by omega) (Nat.gcd_comm _ _) ?_
        have hp := Nat.gcd_pos_of_pos_left l2.toNat (show 0 < l1.toNat by omega)
        unfold teethW at h
        split
        · rw [if_neg (by omega)] at h
          exact ⟨by omega, h⟩
        · rw [if_pos (by omega)] at h
          split
          · rw [if_pos (by omega)] at h; exact h
          · rw [if_neg (by omega)] at h; exact h
      · rw [if_pos rfl]
        rw [if_neg (by omega)] at h; exact h
    · rw [if_pos rfl]
      rw [if_neg (by omega)] at h; exact h
  · rw [if_pos rfl]
    rw [if_neg (by omega)] at h; exact h
end TEE
