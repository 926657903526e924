/-! the reference's gate tells the same -/
def PIL (g : GH) : List Bool → Prop
  | [] => True
  | b :: t => g 204 (t.length : Int) = (b.toNat : Int) ∧ PIL g t
theorem PIL.k {g : GH} {v n : Int} : ∀ {l : List Bool}, PIL g l → (l.length : Int) ≤ n → PIL (up g 204 n v) l
  | [], _, _ => trivial
  | b :: t, h, hn => by
    rw [List.length_cons] at hn
    exact ⟨by rw [up_j (by omega)]; exact h.1, PIL.k h.2 (by omega)⟩
section MGT
variable {sc : SCR} {d : Nat} {Q : QJ} {g r : GH} {l0 l1 l2 l3 l4 l5 a b k w v o : Int} {A : Int → Int} {m : GH}
theorem f_199 (hr : RI r) (a0 : 0 ≤ l1) (a1 : l1 < 240) (e3 : g 183 l1 = o + a) (e4 : g 184 l1 = o + b) (o0 : 0 ≤ o) (aa0 : 0 ≤ a) (ab : a ≤ b) (b1 : o + b ≤ 2800) (hc : ∀ k, a ≤ k → k < b → RC g (o + k) (m 1 k)) (hp : a = b ∨ PX m a b 1) (as : ∀ w, 0 ≤ w → w ≤ 4 → g 203 w = A w) (hq : ∀ g', (∀ i j, i ≠ 204 → g' i j = g i j) → Q (if alw A m a b = true then 1 else 0) g' r) : Ce sc (d + 1) 199 [(2, 165), (0, l1)] g r Q := by
  have k9 : okr 218 165 9 := okd (by decide +kernel)
  have i83 := i_183.mpr (⟨a0, a1⟩ : 0 ≤ l1 ∧ l1 < 240)
  have i84 := i_184.mpr (⟨a0, a1⟩ : 0 ≤ l1 ∧ l1 < 240)
  have okR : ∀ j, 0 ≤ j → j < 200 → (okI 218 204 10 j ∨ okI 218 204 13 j) := fun j x y => Or.inr (i_204.mpr ⟨x, y⟩)
  by_cases e : a = b
  · subst e
    have al : alw A m a a = true := by
      unfold alw
      rw [show (a - a).toNat = 0 by omega]
      rfl
    have hq' := hq g (fun _ _ _ => rfl)
    rw [al, if_pos rfl] at hq'
    refine c_199 ⟨k9, ?_⟩
    rw [r_165_17 hr, e3]
    refine ⟨i83, b_199_9 ⟨k9, ?_⟩⟩
    rw [r_165_18 hr, e4]
    exact ⟨i84, ite_c (fun z => absurd z (by omega)) (fun _ => ite_c (fun _ => ⟨Or.inr rfl, hq'⟩) (fun z => absurd rfl z))⟩
  obtain ⟨ht, h1, h2, h3⟩ := hp.resolve_left e
  have loop : ∀ (n : Nat) (k : Int) (l : List Bool) (g1 : GH) (l2 : Int), a ≤ k → k + n = b → l2 = (l.length : Int) → l2 = ht k → (∀ i j, i ≠ 204 → g1 i j = g i j) → PIL g1 l → evl A (m 1) n k l = evl A (m 1) (b - a).toNat a [] → WQ sc d 199 Q 9 [(2, 165), (0, l1), (0, l2), (0, o + k), (9, 0)] [] g1 r := by
    intro n
    induction n with
    | zero =>
      intro k l g1 l2 k0 ek el eh fr pl ev
      have kb : k = b := by omega
      rw [kb, h2] at eh
      have ev' : l = evl A (m 1) (b - a).toNat a [] := ev
      have y4 : g1 184 l1 = o + b := (fr 184 l1 (by decide)).trans e4
      have hq' := hq g1 fr
      refine b_199_9 ⟨k9, ?_⟩
      rw [r_165_18 hr, r_165_51 hr, y4]
      refine ⟨i84, ite_c (fun z => absurd z (by omega)) (fun _ => ite_c (fun z => absurd z (by omega)) (fun _ => ⟨k9, okR 0 (by decide) (by decide), ?_⟩))⟩
      match l, el, ev', pl with
      | [], el, _, _ => exact absurd el (by have : (([] : List Bool).length : Int) = 0 := rfl; omega)
      | [x], _, ev', pl =>
        have ex : x = alw A m a b := by
          unfold alw
          rw [← ev']
          rfl
        have e0 : g1 204 0 = (x.toNat : Int) := pl.1
        rw [← ex] at hq'
        rw [e0]
        cases x with
        | true => exact ite_c (fun z => absurd z (by decide)) (fun _ => ⟨Or.inr rfl, hq'⟩)
        | false => exact ite_c (fun _ => ⟨Or.inl rfl, hq'⟩) (fun z => absurd rfl z)
      | x :: y :: t, el, _, _ =>
        rw [List.length_cons, List.length_cons] at el
        omega
    | succ n ih =>
      intro k l g1 l2 k0 ek el eh fr pl ev
      have ev' : evl A (m 1) n (k + 1) (spE A (m 1 k) l) = evl A (m 1) (b - a).toNat a [] := ev
      have c2 := hc k k0 (by omega)
      obtain ⟨y0, y1, y2⟩ := h3 k k0 (by omega)
      have y4 : g1 184 l1 = o + b := (fr 184 l1 (by decide)).trans e4
      have z5 : g1 185 (o + k) = g 185 (o + k) := fr 185 _ (by decide)
      have z6 : g1 186 (o + k) = g 186 (o + k) := fr 186 _ (by decide)
      have z7 : g1 187 (o + k) = g 187 (o + k) := fr 187 _ (by decide)
      have z8 : g1 188 (o + k) = g 188 (o + k) := fr 188 _ (by decide)
      have i85 := i_185.mpr (⟨by omega, by omega⟩ : 0 ≤ o + k ∧ o + k < 2800)
      have i86 := i_186.mpr (⟨by omega, by omega⟩ : 0 ≤ o + k ∧ o + k < 2800)
      have i87 := i_187.mpr (⟨by omega, by omega⟩ : 0 ≤ o + k ∧ o + k < 2800)
      have i88 := i_188.mpr (⟨by omega, by omega⟩ : 0 ≤ o + k ∧ o + k < 2800)
      have hw : wr (o + k + 1) = o + (k + 1) := by rw [wr_id ⟨by omega, by omega⟩]; omega
      have hw2 : wr (l2 + 1) = l2 + 1 := wr_id ⟨by omega, by omega⟩
      have hw3 : wr (l2 - 1) = l2 - 1 := wr_id ⟨by omega, by omega⟩
      have hw4 : wr (l2 + (-1)) = l2 - 1 := wr_id ⟨by omega, by omega⟩
      have hw5 : wr (l2 - 1 - 1) = l2 - 1 - 1 := wr_id ⟨by omega, by omega⟩
      have nx : ∀ (y : Bool) (t : List Bool), PIL g1 t → ((t.length : Int) + 1 = ht (k + 1)) → ht (k + 1) ≤ 31 → evl A (m 1) n (k + 1) (y :: t) = evl A (m 1) (b - a).toNat a [] → ∀ v j q : Int, v = (y.toNat : Int) → j = (t.length : Int) → q = (t.length : Int) + 1 → ((okI 218 204 10 j ∧ i_b v = v) ∨ (okI 218 204 13 j ∧ (v = 0 ∨ v = 1))) ∧ ∀ g2, g2 = up g1 204 j v → WQ sc d 199 Q 9 [(2, 165), (0, l1), (0, q), (0, o + (k + 1)), (9, 0)] [] g2 r := fun y t pt hh h31 ev2 v j q hv hj hqq => by
        have hy := tn1 y
        refine ⟨Or.inr ⟨i_204.mpr ⟨by omega, by omega⟩, by omega⟩, fun g2 e2 => ?_⟩
        refine ih (k + 1) (y :: t) g2 q (by omega) (by omega) (by rw [List.length_cons]; omega) (by omega) (fun i j' hi => by rw [e2, up_i hi]; exact fr i j' hi) ⟨?_, ?_⟩ ev2
        · rw [e2, hj, up_s, hv]
        · rw [e2, hj]; exact PIL.k pt (Int.le_refl _)
      refine b_199_9 ⟨k9, ?_⟩
      rw [r_165_18 hr, r_165_19 hr, r_165_20 hr, r_165_21 hr, r_165_22 hr, r_165_50 hr, r_165_51 hr, y4, z5, z6, z7, z8, hw, hw2, hw3, hw4, hw5]
      refine ⟨i84, ite_c (fun _ => ⟨k9, i85, ?_⟩) (fun z => absurd (by omega) z)⟩
      rcases c2 with ⟨cv, s5⟩ | ⟨cv, s5⟩ | ⟨cv, s5⟩ | ⟨w, q, v, hw1, hk, hv, ec, s5, s6, s7, s8⟩
      · rw [s5]
        have up1 : 1 ≤ ht k ∧ ht (k + 1) = ht k := by
          rcases y2 with y2 | y2 | y2
          · omega
          · exact y2.2
          · omega
        match l, el, ev', pl with
        | [], el, _, _ => exact absurd el (by have : (([] : List Bool).length : Int) = 0 := rfl; omega)
        | x :: t, el, ev', pl =>
          have es : spE A (m 1 k) (x :: t) = (!x) :: t := if_pos cv
          rw [es] at ev'
          rw [List.length_cons] at el
          have gx : g1 204 (l2 - 1) = (x.toNat : Int) := by rw [show l2 - 1 = (t.length : Int) by omega]; exact pl.1
          rw [gx]
          refine ite_c (fun z => absurd z (by decide)) (fun _ => ⟨k9, i85, ite_c (fun _ => ⟨k9, k9, okR _ (by omega) (by omega), ?_⟩) (fun z => absurd rfl z)⟩)
          cases x with
          | true => exact ite_c (fun z => absurd z (by decide)) (fun _ => nx false t pl.2 (by omega) (by omega) ev' 0 _ _ rfl (by omega) (by omega))
          | false => exact ite_c (fun _ => nx true t pl.2 (by omega) (by omega) ev' 1 _ _ rfl (by omega) (by omega)) (fun z => absurd rfl z)
      · rw [s5]
        have up1 : 2 ≤ ht k ∧ ht (k + 1) = ht k - 1 := by
          rcases y2 with y2 | y2 | y2
          · omega
          · omega
          · exact y2.2
        match l, el, ev', pl with
        | [], el, _, _ => exact absurd el (by have : (([] : List Bool).length : Int) = 0 := rfl; omega)
        | [x], el, _, _ => exact absurd el (by have : (([x] : List Bool).length : Int) = 1 := rfl; omega)
        | x :: y :: t, el, ev', pl =>
          have es : spE A (m 1 k) (x :: y :: t) = (y && x) :: t := by
            unfold spE
            rw [if_neg (by omega), if_pos cv]
          rw [es] at ev'
          have pl1 : g1 204 ((y :: t).length : Int) = (x.toNat : Int) := pl.1
          rw [List.length_cons] at pl1
          rw [List.length_cons, List.length_cons] at el
          have gx : g1 204 (l2 - 1) = (x.toNat : Int) := by rw [show l2 - 1 = ((t.length + 1 : Nat) : Int) by omega]; exact pl1
          have gy : g1 204 (l2 - 1 - 1) = (y.toNat : Int) := by rw [show l2 - 1 - 1 = (t.length : Int) by omega]; exact pl.2.1
          rw [gx, gy]
          have pt : PIL g1 t := pl.2.2
          refine ite_c (fun z => absurd z (by decide)) (fun _ => ⟨k9, i85, ite_c (fun z => absurd z (by decide)) (fun _ => ⟨k9, k9, i85, ite_c (fun _ => ⟨k9, okR _ (by omega) (by omega), ?_⟩) (fun z => absurd rfl z)⟩)⟩)
          cases y with
          | true =>
            refine ite_c (fun z => absurd z (by decide)) (fun _ => ⟨k9, okR _ (by omega) (by omega), ?_⟩)
            cases x with
            | true => exact ite_c (fun z => absurd z (by decide)) (fun _ => nx true t pt (by omega) (by omega) ev' 1 _ _ rfl (by omega) (by omega))
            | false => exact ite_c (fun _ => nx false t pt (by omega) (by omega) ev' 0 _ _ rfl (by omega) (by omega)) (fun z => absurd rfl z)
          | false =>
            have ev2 : evl A (m 1) n (k + 1) (false :: t) = evl A (m 1) (b - a).toNat a [] := by cases x <;> exact ev'
            exact ite_c (fun _ => nx false t pt (by omega) (by omega) ev2 0 _ _ rfl (by omega) (by omega)) (fun z => absurd rfl z)
      · rw [s5]
        have up1 : 2 ≤ ht k ∧ ht (k + 1) = ht k - 1 := by
          rcases y2 with y2 | y2 | y2
          · omega
          · omega
          · exact y2.2
        match l, el, ev', pl with
        | [], el, _, _ => exact absurd el (by have : (([] : List Bool).length : Int) = 0 := rfl; omega)
        | [x], el, _, _ => exact absurd el (by have : (([x] : List Bool).length : Int) = 1 := rfl; omega)
        | x :: y :: t, el, ev', pl =>
          have es : spE A (m 1 k) (x :: y :: t) = (y || x) :: t := by
            unfold spE
            rw [if_neg (by omega), if_neg (by omega), if_pos cv]
          rw [es] at ev'
          have pl1 : g1 204 ((y :: t).length : Int) = (x.toNat : Int) := pl.1
          rw [List.length_cons] at pl1
          rw [List.length_cons, List.length_cons] at el
          have gx : g1 204 (l2 - 1) = (x.toNat : Int) := by rw [show l2 - 1 = ((t.length + 1 : Nat) : Int) by omega]; exact pl1
          have gy : g1 204 (l2 - 1 - 1) = (y.toNat : Int) := by rw [show l2 - 1 - 1 = (t.length : Int) by omega]; exact pl.2.1
          rw [gx, gy]
          have pt : PIL g1 t := pl.2.2
          refine ite_c (fun z => absurd z (by decide)) (fun _ => ⟨k9, i85, ite_c (fun z => absurd z (by decide)) (fun _ => ⟨k9, k9, i85, ite_c (fun z => absurd z (by decide)) (fun _ => ⟨k9, okR _ (by omega) (by omega), ?_⟩)⟩)⟩)
          cases y with
          | true =>
            have ev2 : evl A (m 1) n (k + 1) (true :: t) = evl A (m 1) (b - a).toNat a [] := by cases x <;> exact ev'
            exact ite_c (fun z => absurd z (by decide)) (fun _ => nx true t pt (by omega) (by omega) ev2 1 _ _ rfl (by omega) (by omega))
          | false =>
            refine ite_c (fun _ => ⟨k9, okR _ (by omega) (by omega), ?_⟩) (fun z => absurd rfl z)
            cases x with
            | true => exact ite_c (fun z => absurd z (by decide)) (fun _ => nx true t pt (by omega) (by omega) ev' 1 _ _ rfl (by omega) (by omega))
            | false => exact ite_c (fun _ => nx false t pt (by omega) (by omega) ev' 0 _ _ rfl (by omega) (by omega)) (fun z => absurd rfl z)
      · have up1 : ht (k + 1) = ht k + 1 := by
          rcases y2 with y2 | y2 | y2
          · exact y2.2
          · omega
          · omega
        have es : spE A (m 1 k) l = cmV A (m 1 k) :: l := by
          unfold spE
          rw [if_neg (by omega), if_neg (by omega), if_neg (by omega)]
        have cv := cmV_c A hw1 hk hv
        rw [← ec] at cv
        rw [es, cv] at ev'
        have gw : g1 203 w = A w := (fr 203 w (by decide)).trans (as w hw1.1 hw1.2)
        rw [s5, s6, s7, s8, gw]
        refine ite_c (fun _ => ⟨k9, k9, i86, i_203.mpr ⟨hw1.1, by omega⟩, k9, k9, i87, ?_⟩) (fun z => absurd rfl z)
        have q3 : q = 0 ∨ q = 1 ∨ q = 2 := by omega
        rcases q3 with rfl | rfl | rfl
        · have sg : sgc 0 = 60 := rfl
          rw [if_pos rfl] at ev'
          rw [sg]
          refine ite_c (fun _ => ⟨k9, i88, ite_c (fun z => ?_) (fun z => ?_)⟩) (fun z => absurd rfl z)
          · rw [decide_eq_true z] at ev'
            exact nx true l pl (by omega) (by omega) ev' 1 _ _ rfl (by omega) (by omega)
          · rw [decide_eq_false z] at ev'
            exact nx false l pl (by omega) (by omega) ev' 0 _ _ rfl (by omega) (by omega)
        · have sg : sgc 1 = 62 := rfl
          rw [if_neg (by decide), if_pos rfl] at ev'
          rw [sg]
          refine ite_c (fun z => absurd z (by decide)) (fun _ => ⟨k9, i87, ite_c (fun _ => ⟨k9, i88, ite_c (fun z => ?_) (fun z => ?_)⟩) (fun z => absurd rfl z)⟩)
          · rw [decide_eq_true z] at ev'
            exact nx true l pl (by omega) (by omega) ev' 1 _ _ rfl (by omega) (by omega)
          · rw [decide_eq_false z] at ev'
            exact nx false l pl (by omega) (by omega) ev' 0 _ _ rfl (by omega) (by omega)
        · have sg : sgc 2 = 61 := rfl
          rw [if_neg (by decide), if_neg (by decide)] at ev'
          rw [sg]
          refine ite_c (fun z => absurd z (by decide)) (fun _ => ⟨k9, i87, ite_c (fun z => absurd z (by decide)) (fun _ => ⟨k9, i88, ite_c (fun z => ?_) (fun z => ?_)⟩)⟩)
          · rw [decide_eq_true z] at ev'
            exact nx true l pl (by omega) (by omega) ev' 1 _ _ rfl (by omega) (by omega)
          · rw [decide_eq_false z] at ev'
            exact nx false l pl (by omega) (by omega) ev' 0 _ _ rfl (by omega) (by omega)
  refine c_199 ⟨k9, ?_⟩
  rw [r_165_17 hr, e3]
  exact ⟨i83, loop (b - a).toNat a [] g 0 (Int.le_refl _) (by omega) rfl h1.symm (fun _ _ _ => rfl) trivial rfl⟩
theorem f_200 (hr : RI r) (k0 : 0 ≤ l1) (k6 : l1 < 6) (hg : GHS m) (gb : 0 ≤ m 0 11 ∧ m 0 11 ≤ 30) (cb : m 0 13 ≤ 350) (mx : MX3 l1 g m) (as : ∀ w, 0 ≤ w → w ≤ 4 → g 203 w = A w) (hq : ∀ g', (∀ i j, i ≠ 204 → g' i j = g i j) → Q (opE A m) g' r) : Ce sc (d + 2) 200 [(2, 165), (0, l1)] g r Q := by
  have k9 : okr 218 165 9 := okd (by decide +kernel)
  have w30 : wr (30 * l1) = 30 * l1 := wr_id ⟨by omega, by omega⟩
  obtain ⟨m1, m2, m3⟩ := mx
  have g11 : g 179 l1 = m 0 11 := m1 11 (by decide) (by decide)
  have loop : ∀ (n : Nat) (i : Int) (g1 : GH), 0 ≤ i → i + n = m 0 11 → (∀ i j, i ≠ 204 → g1 i j = g i j) → opR A m n i = opE A m → WQ sc (d + 1) 200 Q 5 [(2, 165), (0, l1), (0, 30 * l1 + i)] [] g1 r := by
    intro n
    induction n with
    | zero =>
      intro i g1 i0 e fr es
      have es' : 0 = opE A m := es
      refine b_200_5 ⟨k9, ?_⟩
      rw [r_165_13 hr, w30, (fr 179 l1 (by decide)).trans g11, wr_id (x := 30 * l1 + m 0 11) ⟨by omega, by omega⟩]
      refine ⟨i_179.mpr ⟨k0, by omega⟩, ite_c (fun q => absurd q (by omega)) (fun _ => ?_)⟩
      rw [es']; exact hq g1 fr
    | succ n ih =>
      intro i g1 i0 e fr es
      have es' : (if alw A m (pe m i) (m 3 i) = true then m 2 i else opR A m n (i + 1)) = opE A m := es
      obtain ⟨p1, _, p3⟩ := hg i i0 (by omega)
      obtain ⟨x2, x3, x4⟩ := m2 i i0 (by omega)
      refine b_200_5 ⟨k9, ?_⟩
      rw [r_165_13 hr, w30, (fr 179 l1 (by decide)).trans g11, wr_id (x := 30 * l1 + m 0 11) ⟨by omega, by omega⟩, wr_id (x := 30 * l1 + i + 1) ⟨by omega, by omega⟩]
      refine ⟨i_179.mpr ⟨k0, by omega⟩, ite_c (fun _ => ⟨k9, f_199 (o := 350 * l1) (a := pe m i) (b := m 3 i) hr (by omega) (by omega) ((fr 183 _ (by decide)).trans x3) ((fr 184 _ (by decide)).trans x4) (by omega) p1.1 p1.2.1 (by omega) (fun c c0 c1 => ?_) p3 (fun w w0 w4 => (fr 203 w (by decide)).trans (as w w0 w4)) (fun g2 f2 => ?_)⟩) (fun q => absurd (by omega) q)⟩
      · exact (m3 c (by omega) (by omega)).eq (fun i i0 i1 => fr i _ (by omega))
      · rw [r_165_16 hr]
        have fr2 : ∀ i j, i ≠ 204 → g2 i j = g i j := fun i j h => (f2 i j h).trans (fr i j h)
        by_cases z : alw A m (pe m i) (m 3 i) = true
        · rw [if_pos z, if_neg (by decide)]
          rw [if_pos z] at es'
          refine ⟨k9, i_182.mpr ⟨by omega, by omega⟩, ?_⟩
          rw [fr2 182 _ (by decide), x2, es']
          exact hq g2 fr2
        · rw [if_neg z, if_pos rfl]
          rw [if_neg z] at es'
          rw [show 30 * l1 + i + 1 = 30 * l1 + (i + 1) by omega]
          exact ih (i + 1) g2 (by omega) (by omega) fr2 es'
  refine c_200 ?_
  rw [w30]
  have := loop (m 0 11).toNat 0 g (by decide) (by omega) (fun _ _ _ => rfl) rfl
  rw [Int.add_zero] at this
  exact this
end MGT
