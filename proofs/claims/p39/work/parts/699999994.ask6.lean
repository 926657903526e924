/-! what is asked of the brook: both sides answer the same -/
def smE (f : Int → Int) : Nat → Int
  | 0 => 0
  | n + 1 => wL (smE f n + f n)
theorem smE_s {f : Int → Int} {k : Int} (k0 : 0 ≤ k) : smE f (k + 1).toNat = wL (smE f k.toNat + f k) := by
  rw [show (k + 1).toNat = k.toNat + 1 by omega]
  show wL (smE f k.toNat + f (k.toNat : Int)) = _
  rw [show ((k.toNat : Nat) : Int) = k by omega]
theorem smE_c {f f' : Int → Int} (h : ∀ j, 0 ≤ j → j < 6 → f j = f' j) : smE f 6 = smE f' 6 := by
  have k : ∀ n : Nat, n ≤ 6 → smE f n = smE f' n := fun n => by
    induction n with
    | zero => intro _; rfl
    | succ n ih =>
      intro a
      show wL (smE f n + f n) = wL (smE f' n + f' n)
      rw [ih (by omega), h n (by omega) (by omega)]
  exact k 6 (Nat.le_refl 6)
def waE (b : GH) (a : Int) : Int := if a = 0 then b 0 1 else if a = 1 then smE (b 6) 6 else if a = 2 then smE (b 7) 6 else if a = 3 then b 0 2 else if a = 4 then b 0 0 else -1
def gaE (b : GH) (k a : Int) : Int := if a = 0 then b 8 k else if a = 1 then b 9 k else if a = 2 then b 10 k else -1
def tlE (m b : GH) (W : Int → Int) (lv k a : Int) : Int := if a = 0 then (if m 0 0 = 0 then 0 else 1) else if a = 1 then m 0 1 else if a = 2 then m 0 2 else if a = 3 then m 0 3 else if a = 4 then m 0 4 else if a = 5 then m 0 5 else if a = 6 then m 0 6 else if a = 7 then m 0 7 else if a = 8 then m 0 8 else if a = 9 then m 0 9 else if a = 10 then m 0 10 else if a = 11 then m 0 11 else if a = 12 then (if m 0 0 = 0 then -1 else capE W) else if a = 13 then b 6 k else if a = 14 then lv else if a = 15 then b 7 k else if a = 16 then (if m 0 0 = 0 then -1 else ldE W (W 9)) else -1
section AS6
variable {sc : SCR} {d : Nat} {Q : QJ} {g r b m : GH} {l0 l1 l2 l3 l4 l5 x s p a n lv : Int}
theorem f_135 (kx : 0 ≤ x ∧ x < 218 ∧ 11 ≤ am_sh x ∧ am_sh x ≤ 15) (ln : am_ln x = 6) (ix : ∀ j, 0 ≤ j → j < 6 → okI 218 x 11 j) (hq : Q (smE (g x) 6) g r) : Ce sc (d + 1) 135 [(2, x)] g r Q := by
  refine c_135 ⟨kx, ?_⟩
  rw [ln]
  have loop : ∀ (n : Nat) (k : Int), 0 ≤ k → k + n = 6 → WQ sc d 135 Q 11 [(9, 0), (1, smE (g x) k.toNat), (8, 0), (2, x), (0, 6), (0, k), (9, 0)] [] g r := by
    intro n
    induction n with
    | zero =>
      intro k k0 e
      have ek : k = 6 := by omega
      subst ek
      exact b_135_11 (ite_c (fun z => absurd z (by decide)) (fun _ => hq))
    | succ n ih =>
      intro k k0 e
      have nx := ih (k + 1) (by omega) (by omega)
      rw [smE_s k0] at nx
      refine b_135_11 (ite_c (fun _ => ⟨ix k k0 (by omega), ?_⟩) (fun z => absurd (by omega) z))
      rw [wr_id (x := k + 1) ⟨by omega, by omega⟩]; exact nx
  exact loop 6 0 (by decide) (by decide)
theorem f_86 (hr : RI r) (cb : CBR 23 g b) (hq : Q (waE b l1) g r) : Ce sc (d + 2) 86 [(2, 0), (0, l1)] g r Q := by
  have k0 : okr 218 0 8 := okd (by decide +kernel)
  have k23 : okr 218 23 0 := okd (by decide +kernel)
  have e6 : smE (g 26) 6 = smE (b 6) 6 := smE_c (fun j j0 j1 => (cb.2.2 j j0 j1).1)
  have e7 : smE (g 27) 6 = smE (b 7) 6 := smE_c (fun j j0 j1 => (cb.2.2 j j0 j1).2.1)
  unfold waE at hq
  refine c_86 ⟨by decide, ite_c (fun z => ?_) (fun z => ite_c (fun y => ?_) (fun y => ite_c (fun x => ?_) (fun x => ite_c (fun w => ?_) (fun w => ite_c (fun v => ?_) (fun v => ?_)))))⟩
  · rw [if_pos z] at hq
    rw [r_0_4 hr, cb.1.2.1]; exact ⟨k0, k23, hq⟩
  · rw [if_neg z, if_pos y] at hq
    rw [r_0_4 hr, r_23_6 hr]
    exact ⟨k0, k23, f_135 (by decide +kernel) n_26 (fun j j0 j1 => i_26.mpr ⟨j0, j1⟩) (by rw [e6]; exact hq)⟩
  · rw [if_neg z, if_neg y, if_pos x] at hq
    rw [r_0_4 hr, r_23_7 hr]
    exact ⟨k0, k23, f_135 (by decide +kernel) n_27 (fun j j0 j1 => i_27.mpr ⟨j0, j1⟩) (by rw [e7]; exact hq)⟩
  · rw [if_neg z, if_neg y, if_neg x, if_pos w] at hq
    rw [r_0_4 hr, cb.1.2.2]; exact ⟨k0, k23, hq⟩
  · rw [if_neg z, if_neg y, if_neg x, if_neg w, if_pos v] at hq
    rw [r_0_4 hr, cb.1.1]; exact ⟨k0, k23, hq⟩
  · rw [if_neg z, if_neg y, if_neg x, if_neg w, if_neg v] at hq
    exact hq
theorem mb0 (mb : MBR 0 g b) {j : Int} (j0 : 0 ≤ j) (j1 : j < 6) : g 193 j = b 6 j ∧ g 194 j = b 7 j ∧ g 199 j = b 8 j ∧ g 195 j = b 9 j ∧ g 196 j = b 10 j := by
  have q := mb.2.2 j j0 j1
  rw [show (6 : Int) * 0 + j = j by omega] at q
  exact q
theorem f_209 (hr : RI r) (mb : MBR 0 g b) (hq : Q (waE b l1) g r) : Ce sc (d + 1) 209 [(2, 165), (0, l1)] g r Q := by
  have k9 : okr 218 165 9 := okd (by decide +kernel)
  have e6 : smE (g 193) 6 = smE (b 6) 6 := smE_c (fun j j0 j1 => (mb0 mb j0 j1).1)
  have e7 : smE (g 194) 6 = smE (b 7) 6 := smE_c (fun j j0 j1 => (mb0 mb j0 j1).2.1)
  have loop : ∀ (n : Nat) (k : Int), 0 ≤ k → k + n = 6 → WQ sc d 209 Q 8 [(2, 165), (0, l1), (1, smE (g 193) k.toNat), (8, 0), (1, smE (g 194) k.toNat), (8, 0), (0, k)] [] g r := by
    intro n
    induction n with
    | zero =>
      intro k k0 e
      have ek : k = 6 := by omega
      subst ek
      unfold waE at hq
      refine b_209_8 (ite_c (fun z => absurd z (by decide)) (fun _ => ⟨by decide, ite_c (fun z => ?_) (fun z => ite_c (fun y => ?_) (fun y => ite_c (fun x => ?_) (fun x => ite_c (fun w => ?_) (fun w => ite_c (fun v => ?_) (fun v => ?_)))))⟩))
      · rw [if_pos z] at hq
        rw [r_165_45 hr, mb.1.2.1]; exact ⟨k9, i_200.mpr ⟨by decide, by decide⟩, hq⟩
      · rw [if_neg z, if_pos y, ← e6] at hq
        exact hq
      · rw [if_neg z, if_neg y, if_pos x, ← e7] at hq
        exact hq
      · rw [if_neg z, if_neg y, if_neg x, if_pos w] at hq
        rw [r_165_46 hr, mb.1.2.2]; exact ⟨k9, i_201.mpr ⟨by decide, by decide⟩, hq⟩
      · rw [if_neg z, if_neg y, if_neg x, if_neg w, if_pos v] at hq
        rw [r_165_42 hr, mb.1.1]; exact ⟨k9, i_197.mpr ⟨by decide, by decide⟩, hq⟩
      · rw [if_neg z, if_neg y, if_neg x, if_neg w, if_neg v] at hq
        exact hq
    | succ n ih =>
      intro k k0 e
      have nx := ih (k + 1) (by omega) (by omega)
      rw [smE_s k0, smE_s k0] at nx
      refine b_209_8 (ite_c (fun _ => ?_) (fun z => absurd (by omega) z))
      rw [r_165_38 hr, r_165_39 hr, wr_id (x := k + 1) ⟨by omega, by omega⟩]
      exact ⟨k9, i_193.mpr ⟨k0, by omega⟩, k9, i_194.mpr ⟨k0, by omega⟩, nx⟩
  exact c_209 (loop 6 0 (by decide) (by decide))
theorem uu_86 (hJ : J6 g r) {A1 : Int} (D : Nat) : Ce sc (D + 2) 86 [(2, 0), (0, A1)] g r (fun v1 g1 r1 => Ce sc (D + 2) 209 [(2, 165), (0, A1)] g1 r1 fun v2 g2 r2 => v1 = v2 ∧ J6 g2 r2) := by
  have hr := hJ.1.1.1.1.1.1
  obtain ⟨b, hb, cb, mb, zz⟩ := hJ.2.1
  exact f_86 (d := D) hr cb (f_209 (d := D + 1) hr mb ⟨rfl, hJ⟩)
theorem uu_81 (hJ : J6 g r) {A1 : Int} (D : Nat) : Ce sc (D + 3) 81 [(2, 0), (0, A1)] g r (fun v1 g1 r1 => Ce sc (D + 3) 194 [(2, 165), (0, A1)] g1 r1 fun v2 g2 r2 => v1 = v2 ∧ J6 g2 r2) := by
  have hr := hJ.1.1.1.1.1.1
  have k0 : okr 218 0 8 := okd (by decide +kernel)
  have k9 : okr 218 165 9 := okd (by decide +kernel)
  have k23 : okr 218 23 0 := okd (by decide +kernel)
  obtain ⟨b, hb, cb, mb, zz⟩ := hJ.2.1
  have M : ∀ v, (0 ≤ A1 ∧ A1 ≤ 39 → v = b 4 A1) → (¬ (0 ≤ A1 ∧ A1 ≤ 39) → v = -1) → Ce sc (D + 3) 194 [(2, 165), (0, A1)] g r (fun v2 g2 r2 => v = v2 ∧ J6 g2 r2) := fun v h1 h0 => by
    refine c_194 (w_137 (fun a c => ?_) (fun q => ?_))
    · have m4 := (mb.2.1 A1 a (by omega)).1
      rw [show (40 : Int) * 0 + A1 = A1 by omega] at m4
      rw [if_neg (by decide), r_165_37 hr, m4]
      exact ⟨k9, i_192.mpr ⟨a, by omega⟩, h1 ⟨a, c⟩, hJ⟩
    · rw [if_pos rfl]; exact ⟨h0 q, hJ⟩
  refine c_81 (w_127 (fun a c => ?_) (fun q => ?_))
  · rw [if_neg (by decide), r_0_4 hr, r_23_4 hr]
    exact ⟨k0, k23, i_24.mpr ⟨a, by omega⟩, M _ (fun _ => (cb.2.1 A1 a (by omega)).1) (fun z => absurd ⟨a, c⟩ z)⟩
  · rw [if_pos rfl]; exact M _ (fun z => absurd z q) (fun _ => rfl)
theorem f_85 (hJ : J3 g r) (cb : CBR 23 g b) (h1 : TM g l1 → Q (gaE b l1 l2) g r) (h0 : ¬ TM g l1 → Q (-1) g r) : Ce sc (d + 3) 85 [(2, 0), (0, l1), (0, l2)] g r Q := by
  have hr := hJ.1.1.1
  have k0 : okr 218 0 8 := okd (by decide +kernel)
  have k23 : okr 218 23 0 := okd (by decide +kernel)
  refine c_85 ⟨k0, w_129 hr (fun t => ?_) (fun t => ?_)⟩
  · have hq := h1 ((td_tm hJ l1).mp t)
    obtain ⟨_, _, q8, q9, q10⟩ := cb.2.2 l1 t.1 t.2.1
    have e8 : g 28 l1 = b 8 l1 := q8
    have e9 : g 29 l1 = b 9 l1 := q9
    have e10 : g 30 l1 = b 10 l1 := q10
    unfold gaE at hq
    rw [if_neg (mo_ne (hr.2.1 l1 t.1 t.2.1)), r_0_4 hr, r_23_8 hr, r_23_9 hr, r_23_10 hr, e8, e9, e10]
    refine ⟨by decide, ite_c (fun z => ?_) (fun z => ite_c (fun y => ?_) (fun y => ite_c (fun x => ?_) (fun x => ?_)))⟩
    · rw [if_pos z] at hq; exact ⟨k0, k23, i_28.mpr ⟨t.1, t.2.1⟩, hq⟩
    · rw [if_neg z, if_pos y] at hq; exact ⟨k0, k23, i_29.mpr ⟨t.1, t.2.1⟩, hq⟩
    · rw [if_neg z, if_neg y, if_pos x] at hq; exact ⟨k0, k23, i_30.mpr ⟨t.1, t.2.1⟩, hq⟩
    · rw [if_neg z, if_neg y, if_neg x] at hq; exact hq
  · rw [if_pos rfl]; exact h0 (fun z => t ((td_tm hJ l1).mpr z))
theorem f_208 (hr : RI r) (mb : MBR 0 g b) (h1 : TM g l1 → Q (gaE b l1 l2) g r) (h0 : ¬ TM g l1 → Q (-1) g r) : Ce sc (d + 2) 208 [(2, 165), (0, l1), (0, l2)] g r Q := by
  have k9 : okr 218 165 9 := okd (by decide +kernel)
  refine c_208 ⟨k9, w_140 hr (fun t => ?_) (fun t => ?_)⟩
  · have hq := h1 t
    have t6 := t.2.1
    obtain ⟨_, _, q8, q9, q10⟩ := mb0 mb t.1 t.2.1
    unfold gaE at hq
    rw [if_neg (by decide), r_165_44 hr, r_165_40 hr, r_165_41 hr, q8, q9, q10]
    refine ite_c (fun z => ?_) (fun z => ite_c (fun y => ?_) (fun y => ite_c (fun x => ?_) (fun x => ?_)))
    · rw [if_pos z] at hq; exact ⟨k9, i_199.mpr ⟨t.1, by omega⟩, hq⟩
    · rw [if_neg z, if_pos y] at hq; exact ⟨k9, i_195.mpr ⟨t.1, by omega⟩, hq⟩
    · rw [if_neg z, if_neg y, if_pos x] at hq; exact ⟨k9, i_196.mpr ⟨t.1, by omega⟩, hq⟩
    · rw [if_neg z, if_neg y, if_neg x] at hq; exact hq
  · rw [if_pos rfl]; exact h0 t
theorem uu_85 (hJ : J6 g r) {A1 A2 : Int} (D : Nat) : Ce sc (D + 3) 85 [(2, 0), (0, A1), (0, A2)] g r (fun v1 g1 r1 => Ce sc (D + 3) 208 [(2, 165), (0, A1), (0, A2)] g1 r1 fun v2 g2 r2 => v1 = v2 ∧ J6 g2 r2) := by
  have hr := hJ.1.1.1.1.1.1
  obtain ⟨b, hb, cb, mb, zz⟩ := hJ.2.1
  exact f_85 (d := D) hJ.1.1.1 cb (fun t => f_208 (d := D + 1) hr mb (fun _ => ⟨rfl, hJ⟩) (fun z => absurd t z)) (fun t => f_208 (d := D + 1) hr mb (fun z => absurd z t) (fun _ => ⟨rfl, hJ⟩))
theorem f_187 (hr : RI r) (k0 : 0 ≤ l1) (k6 : l1 < 6) (h : WBd (MWh g l1)) (hq : Q (ldE (MWh g l1) (MWh g l1 9)) g r) : Ce sc (d + 3) 187 [(2, 165), (0, l1)] g r Q := by
  have k9 : okr 218 165 9 := okd (by decide +kernel)
  have e9 : g 177 l1 = MWh g l1 9 := rfl
  have hp := h.2.2.2.2.2.2.1
  have loop : ∀ (n : Nat) (a : Int), 0 ≤ a → a + n = 180 → ldR (MWh g l1) (MWh g l1 9) n a = ldE (MWh g l1) (MWh g l1 9) → WQ sc (d + 2) 187 Q 2 [(2, 165), (0, l1), (0, a)] [] g r := by
    intro n
    induction n with
    | zero =>
      intro a a0 e es
      have es' : 180 = ldE (MWh g l1) (MWh g l1 9) := es
      refine b_187_2 (ite_c (fun q => absurd q (by omega)) (fun _ => ?_))
      rw [es']; exact hq
    | succ n ih =>
      intro a a0 e es
      have es' : (if helE (MWh g l1) (MWh g l1 9) a = 0 then a else ldR (MWh g l1) (MWh g l1 9) n (a + 1)) = ldE (MWh g l1) (MWh g l1 9) := es
      refine b_187_2 (ite_c (fun _ => ?_) (fun q => absurd (by omega) q))
      rw [r_165_11 hr, e9]
      refine ⟨k9, i_177.mpr ⟨k0, by omega⟩, k9, f_169 (d := d) hr k0 (by omega) h hp.1 hp.2 a0 (by omega) (ite_c (fun q => ?_) (fun q => ?_))⟩
      · rw [if_pos q] at es'
        rw [es']; exact hq
      · rw [if_neg q] at es'
        rw [wr_id (x := a + 1) ⟨by omega, by omega⟩]
        exact ih _ (by omega) (by omega) es'
  exact c_187 (loop 180 0 (by decide) (by decide) rfl)
/-- the class's told -/
theorem f_69 (hJ : J5 g r) (t : TM g l1) (cb : CBR 23 g b) (mc : MC (r 6 l1) g m) (b6 : 0 ≤ b 6 l1 ∧ b 6 l1 ≤ 9999) (r1 : 1 ≤ m 0 7) (w9 : MWh g l1 9 = m 0 9) (hl : lv = b 6 l1 * 100 / m 0 7) (hq : ∀ g', BUX (r 6 l1 + 1) g g' → (g' = g ∨ BK3 g' (r 6 l1 + 1) (MWh g l1)) → Q (tlE m b (MWh g l1) lv l1 l2) g' r) : Ce sc (d + 4) 69 [(2, 0), (0, l1), (0, l2)] g r Q := by
  have hr := hJ.1.1.1.1.1
  have k0 : okr 218 0 8 := okd (by decide +kernel)
  have k23 : okr 218 23 0 := okd (by decide +kernel)
  obtain ⟨hx, wh, wb, b3⟩ := t5_of hJ t
  have hm := hr.2.1 l1 t.1 t.2.1
  obtain ⟨q6, q7, _⟩ := cb.2.2 l1 t.1 t.2.1
  have e6 : g 26 l1 = b 6 l1 := q6
  have e7 : g 27 l1 = b 7 l1 := q7
  have h0 := hq g (BUX.rf _ g) (Or.inl rfl)
  obtain ⟨c0, c1, c2, c3, c4, c5, c6, c7, c8, c9, c10, c11, _⟩ := mc
  have e2 : r 6 l1 + 1 + 1 = r 6 l1 + 2 := by omega
  have cp : g (r 6 l1 + 2) 3 = capE (MWh g l1) := by rw [← e2]; exact b3.1.2.2.2.1
  have w1 := mo_w hm
  have w2 := mo_ok hm
  have w6 := mo_u hm
  have i26 := i_26.mpr ⟨t.1, t.2.1⟩
  have i27 := i_27.mpr ⟨t.1, t.2.1⟩
  have kb : okr 218 (r 6 l1 + 2) 1 := by rw [← e2]; exact hx.2.1
  refine c_69 ⟨k0, w_129 hr (fun _ => ?_) (fun z => absurd ((td_tm hJ.1.1 l1).mpr t) z)⟩
  rw [if_neg (mo_ne hm), mo_1 hr hm, mo_4 hr hm, mo_w9 hr hm, r_0_4 hr, r_23_6 hr, r_23_7 hr, c0, c1, c2, c3, c4, c5, c6, c7, c8, c9, c10, c11, e6, e7, cp]
  unfold tlE at h0
  refine ⟨w2, by decide, ite_c (fun z0 => ⟨w1, ?_⟩) (fun z0 => ?_)⟩
  · rw [if_pos z0] at h0
    refine ite_c (fun y => ?_) (fun y => ?_)
    · rw [if_pos y] at h0; exact h0
    · rw [if_neg y] at h0; exact h0
  rw [if_neg z0] at h0
  refine ite_c (fun z => ⟨w1, by rw [if_pos z] at h0; exact h0⟩) (fun z => ?_)
  rw [if_neg z] at h0
  refine ite_c (fun z => ⟨w1, by rw [if_pos z] at h0; exact h0⟩) (fun z => ?_)
  rw [if_neg z] at h0
  refine ite_c (fun z => ⟨w1, by rw [if_pos z] at h0; exact h0⟩) (fun z => ?_)
  rw [if_neg z] at h0
  refine ite_c (fun z => ⟨w1, by rw [if_pos z] at h0; exact h0⟩) (fun z => ?_)
  rw [if_neg z] at h0
  refine ite_c (fun z => ⟨w1, by rw [if_pos z] at h0; exact h0⟩) (fun z => ?_)
  rw [if_neg z] at h0
  refine ite_c (fun z => ⟨w1, by rw [if_pos z] at h0; exact h0⟩) (fun z => ?_)
  rw [if_neg z] at h0
  refine ite_c (fun z => ⟨w2, by rw [if_pos z] at h0; exact h0⟩) (fun z => ?_)
  rw [if_neg z] at h0
  refine ite_c (fun z => ⟨w2, by rw [if_pos z] at h0; exact h0⟩) (fun z => ?_)
  rw [if_neg z] at h0
  refine ite_c (fun z => ⟨w1, by rw [if_pos z] at h0; exact h0⟩) (fun z => ?_)
  rw [if_neg z] at h0
  refine ite_c (fun z => ⟨w1, by rw [if_pos z] at h0; exact h0⟩) (fun z => ?_)
  rw [if_neg z] at h0
  refine ite_c (fun z => ⟨w2, w6, by rw [if_pos z] at h0; exact h0⟩) (fun z => ?_)
  rw [if_neg z] at h0
  refine ite_c (fun z => ⟨w1, ?_⟩) (fun z => ?_)
  · rw [if_pos z] at h0
    refine ite_c (fun y => ?_) (fun y => ⟨w1, kb, ?_⟩)
    · rw [if_pos y] at h0; exact h0
    · rw [if_neg y] at h0; exact h0
  rw [if_neg z] at h0
  refine ite_c (fun z => ⟨k0, k23, i26, by rw [if_pos z] at h0; exact h0⟩) (fun z => ?_)
  rw [if_neg z] at h0
  refine ite_c (fun z => ⟨k0, k23, i26, w2, f_22 w2 c7 r1 b6.1 b6.2 (by rw [if_pos z, hl] at h0; exact h0)⟩) (fun z => ?_)
  rw [if_neg z] at h0
  refine ite_c (fun z => ⟨k0, k23, i27, by rw [if_pos z] at h0; exact h0⟩) (fun z => ?_)
  rw [if_neg z] at h0
  refine ite_c (fun z16 => ⟨w1, ?_⟩) (fun z => by rw [if_neg z] at h0; exact h0)
  rw [if_pos z16] at h0
  refine ite_c (fun y => by rw [if_pos y] at h0; exact h0) (fun y => ⟨w1, w1, kb, ?_⟩)
  have p9 := wb.2.2.2.2.2.2.1
  rw [w9] at p9
  have f := f_12 (sc := sc) (d := d) (Q := Q) (g := g) (r := r) (W := MWh g l1) (x := r 6 l1 + 1) (l1 := m 0 9) hx b3.1 wb p9.1 p9.2 (fun g' u k3 => by
    have h1 := hq g' u (Or.inr k3)
    unfold tlE at h1
    rw [if_neg z0, if_neg (by omega), if_neg (by omega), if_neg (by omega), if_neg (by omega), if_neg (by omega), if_neg (by omega), if_neg (by omega), if_neg (by omega), if_neg (by omega), if_neg (by omega), if_neg (by omega), if_neg (by omega), if_neg (by omega), if_neg (by omega), if_neg (by omega), if_pos z16, if_neg y, w9] at h1
    exact h1)
  rw [e2] at f
  exact f
theorem f_210 (hr : RI r) (hi : MI g) (t : TM g l1) (mb : MBR 0 g b) (mx : ∀ j, 0 ≤ j → j ≤ 12 → g (168 + j) l1 = m 0 j) (wb : WBd (MWh g l1)) (b6 : 0 ≤ b 6 l1 ∧ b 6 l1 ≤ 9999) (r1 : 1 ≤ m 0 7) (hl : lv = b 6 l1 * 100 / m 0 7) (hq : Q (tlE m b (MWh g l1) lv l1 l2) g r) : Ce sc (d + 4) 210 [(2, 165), (0, l1), (0, l2)] g r Q := by
  have k9 : okr 218 165 9 := okd (by decide +kernel)
  obtain ⟨q6, q7, _⟩ := mb0 mb t.1 t.2.1
  have t0 := t.1
  have t6 := t.2.1
  have m0 : g 168 l1 = m 0 0 := mx 0 (by decide) (by decide)
  have m1 : g 169 l1 = m 0 1 := mx 1 (by decide) (by decide)
  have m2 : g 170 l1 = m 0 2 := mx 2 (by decide) (by decide)
  have m3 : g 171 l1 = m 0 3 := mx 3 (by decide) (by decide)
  have m4 : g 172 l1 = m 0 4 := mx 4 (by decide) (by decide)
  have m5 : g 173 l1 = m 0 5 := mx 5 (by decide) (by decide)
  have m6 : g 174 l1 = m 0 6 := mx 6 (by decide) (by decide)
  have m7 : g 175 l1 = m 0 7 := mx 7 (by decide) (by decide)
  have m8 : g 176 l1 = m 0 8 := mx 8 (by decide) (by decide)
  have m9 : g 177 l1 = m 0 9 := mx 9 (by decide) (by decide)
  have m10 : g 178 l1 = m 0 10 := mx 10 (by decide) (by decide)
  have m11 : g 179 l1 = m 0 11 := mx 11 (by decide) (by decide)
  have i8 : okI 218 168 10 l1 ∨ okI 218 168 13 l1 := Or.inr (i_168.mpr ⟨t0, by omega⟩)
  refine c_210 ⟨k9, w_140 hr (fun _ => ?_) (fun z => absurd t z)⟩
  rw [if_neg (by decide), r_165_2 hr, r_165_3 hr, r_165_4 hr, r_165_5 hr, r_165_6 hr, r_165_7 hr, r_165_8 hr, r_165_9 hr, r_165_10 hr, r_165_11 hr, r_165_12 hr, r_165_13 hr, r_165_38 hr, r_165_39 hr, m0, m1, m2, m3, m4, m5, m6, m7, m8, m9, m10, m11, q6, q7]
  unfold tlE at hq
  refine ⟨by decide, ite_c (fun z0 => ⟨k9, i8, ?_⟩) (fun z0 => ?_)⟩
  · rw [if_pos z0] at hq
    refine ite_c (fun y => ?_) (fun y => ?_)
    · rw [if_pos y] at hq; exact hq
    · rw [if_neg y] at hq; exact hq
  rw [if_neg z0] at hq
  refine ite_c (fun z => ⟨k9, i_169.mpr ⟨t0, by omega⟩, by rw [if_pos z] at hq; exact hq⟩) (fun z => ?_)
  rw [if_neg z] at hq
  refine ite_c (fun z => ⟨k9, i_170.mpr ⟨t0, by omega⟩, by rw [if_pos z] at hq; exact hq⟩) (fun z => ?_)
  rw [if_neg z] at hq
  refine ite_c (fun z => ⟨k9, i_171.mpr ⟨t0, by omega⟩, by rw [if_pos z] at hq; exact hq⟩) (fun z => ?_)
  rw [if_neg z] at hq
  refine ite_c (fun z => ⟨k9, i_172.mpr ⟨t0, by omega⟩, by rw [if_pos z] at hq; exact hq⟩) (fun z => ?_)
  rw [if_neg z] at hq
  refine ite_c (fun z => ⟨k9, i_173.mpr ⟨t0, by omega⟩, by rw [if_pos z] at hq; exact hq⟩) (fun z => ?_)
  rw [if_neg z] at hq
  refine ite_c (fun z => ⟨k9, i_174.mpr ⟨t0, by omega⟩, by rw [if_pos z] at hq; exact hq⟩) (fun z => ?_)
  rw [if_neg z] at hq
  refine ite_c (fun z => ⟨k9, i_175.mpr ⟨t0, by omega⟩, by rw [if_pos z] at hq; exact hq⟩) (fun z => ?_)
  rw [if_neg z] at hq
  refine ite_c (fun z => ⟨k9, i_176.mpr ⟨t0, by omega⟩, by rw [if_pos z] at hq; exact hq⟩) (fun z => ?_)
  rw [if_neg z] at hq
  refine ite_c (fun z => ⟨k9, i_177.mpr ⟨t0, by omega⟩, by rw [if_pos z] at hq; exact hq⟩) (fun z => ?_)
  rw [if_neg z] at hq
  refine ite_c (fun z => ⟨k9, i_178.mpr ⟨t0, by omega⟩, by rw [if_pos z] at hq; exact hq⟩) (fun z => ?_)
  rw [if_neg z] at hq
  refine ite_c (fun z => ⟨k9, i_179.mpr ⟨t0, by omega⟩, by rw [if_pos z] at hq; exact hq⟩) (fun z => ?_)
  rw [if_neg z] at hq
  refine ite_c (fun z => ⟨k9, i8, ?_⟩) (fun z => ?_)
  · rw [if_pos z] at hq
    refine ite_c (fun y => ?_) (fun y => ⟨k9, f_164 (d := d + 2) hr t0 (by omega) wb ?_⟩)
    · rw [if_pos y] at hq; exact hq
    · rw [if_neg y] at hq; exact hq
  rw [if_neg z] at hq
  refine ite_c (fun z => ⟨k9, i_193.mpr ⟨t0, by omega⟩, by rw [if_pos z] at hq; exact hq⟩) (fun z => ?_)
  rw [if_neg z] at hq
  refine ite_c (fun z => ⟨k9, ?_⟩) (fun z => ?_)
  · rw [if_pos z] at hq
    refine f_198 (d := d + 2) (gp := g) (b := b) hr (fun i j _ => rfl) (by decide) (by decide) t6 (fun _ => by rw [m7]; exact r1) (fun _ => b6) (fun _ => by rw [show (6 : Int) * 0 + l1 = l1 by omega]; exact q6) ?_
    unfold lvE
    rw [if_neg (by omega), m7, ← hl]
    exact hq
  rw [if_neg z] at hq
  refine ite_c (fun z => ⟨k9, i_194.mpr ⟨t0, by omega⟩, by rw [if_pos z] at hq; exact hq⟩) (fun z => ?_)
  rw [if_neg z] at hq
  refine ite_c (fun z => ⟨k9, i8, ?_⟩) (fun z => by rw [if_neg z] at hq; exact hq)
  rw [if_pos z] at hq
  refine ite_c (fun y => by rw [if_pos y] at hq; exact hq) (fun y => ⟨k9, ?_⟩)
  rw [if_neg y] at hq
  exact f_187 (d := d) hr t0 t6 wb hq
theorem uu_69 (hJ : J6 g r) {A1 A2 : Int} (D : Nat) : Ce sc (D + 4) 69 [(2, 0), (0, A1), (0, A2)] g r (fun v1 g1 r1 => Ce sc (D + 4) 210 [(2, 165), (0, A1), (0, A2)] g1 r1 fun v2 g2 r2 => v1 = v2 ∧ J6 g2 r2) := by
  have hr := hJ.1.1.1.1.1.1
  have k0 : okr 218 0 8 := okd (by decide +kernel)
  have k9 : okr 218 165 9 := okd (by decide +kernel)
  by_cases t : TM g A1
  · obtain ⟨b, hb, cb, mb, zz⟩ := hJ.2.1
    obtain ⟨mm, hp, hx, hc⟩ := par hJ.1
    have mx := (hx A1 t).1
    have e7 : g 175 A1 = mm A1 0 7 := mx 7 (by decide) (by decide)
    have e9 : MWh g A1 9 = mm A1 0 9 := mx 9 (by decide) (by decide)
    have r1 : 1 ≤ mm A1 0 7 := by rw [← e7]; exact (hp A1 t).2.1.1
    have b6 := (hb.2.2 A1 t.1 t.2.1).1
    refine f_69 (d := D) (m := mm A1) (lv := b 6 A1 * 100 / mm A1 0 7) hJ.1 t cb (hc.2 A1 t).2 b6 r1 e9 rfl (fun g' u k3 => ?_)
    have j5 : J5 g' r := by
      rcases k3 with k3 | k3
      · rw [k3]; exact hJ.1
      · exact hJ.1.bu t u k3
    have hm := hr.2.1 A1 t.1 t.2.1
    have z6 : Z6 g g' := ⟨fun i j z => u i j (by unfold MO at hm; unfold CZV at z; omega), fun i j z => u i j (by unfold MO at hm; unfold MZV at z; omega)⟩
    have j6 : J6 g' r := hJ.z j5 z6
    have hi : ∀ i j, 165 ≤ i → g' i j = g i j := fun i j z => u i j (by unfold MO at hm; omega)
    have ew : MWh g' A1 = MWh g A1 := mwh_bu hJ.1 t u A1
    refine f_210 (d := D) (b := b) (m := mm A1) (lv := b 6 A1 * 100 / mm A1 0 7) hr j5.1.1.1.1.2.2.2.1 ((tm_bu hJ.1 t u A1).mpr t) (mb.fr (fun i j hh => hi i j (by omega))) (fun j j0 j1 => (hi _ A1 (by omega)).trans (mx j j0 j1)) ?_ b6 r1 rfl ⟨?_, j6⟩
    · rw [ew]; exact (t5_of hJ.1 t).2.2.1
    · rw [ew]
  · refine c_69 ⟨k0, w_129 hr (fun z => absurd ((td_tm hJ.1.1.1 A1).mp z) t) (fun _ => ?_)⟩
    rw [if_pos rfl]
    refine c_210 ⟨k9, w_140 hr (fun z => absurd z t) (fun _ => ?_)⟩
    rw [if_pos rfl]
    exact ⟨rfl, hJ⟩
theorem z_122 (hJ : J6 g r) : Ce sc (d + 4) 122 [(2, 0), (0, l1)] g r (fun _ g1 r1 => r1 = r ∧ J6 g1 r) := by
  have hr := hJ.1.1.1.1.1.1
  have k0 : okr 218 0 8 := okd (by decide +kernel)
  have k1 : okr 218 1 5 := okd (by decide +kernel)
  have a1 : okr 218 55 3 := okd (by decide +kernel)
  have a2 : okr 218 52 3 := okd (by decide +kernel)
  have a3 : okr 218 58 3 := okd (by decide +kernel)
  have a4 : okr 218 62 3 := okd (by decide +kernel)
  have q : r = r ∧ J6 g r := ⟨rfl, hJ⟩
  refine c_122 ?_
  rw [r_0_0 hr, r_0_17 hr, r_0_13 hr, r_0_12 hr, r_0_14 hr, r_0_16 hr]
  exact ⟨by decide, ite_c (fun _ => ⟨k0, f_131 (d := d) hJ.1.1.1 q⟩) (fun _ => ite_c (fun _ => ⟨k0, k1, q⟩) (fun _ => ite_c (fun _ => ⟨k0, q⟩) (fun _ => ite_c (fun _ => ⟨k0, i_65.mpr ⟨by decide, by decide⟩, q⟩) (fun _ => ite_c (fun _ => ⟨k0, i_65.mpr ⟨by decide, by decide⟩, q⟩) (fun _ => ite_c (fun _ => ⟨k0, i_65.mpr ⟨by decide, by decide⟩, q⟩) (fun _ => ite_c (fun _ => ⟨k0, a1, q⟩) (fun _ => ite_c (fun _ => ⟨k0, a2, q⟩) (fun _ => ite_c (fun _ => ⟨k0, a3, q⟩) (fun _ => ite_c (fun _ => ⟨k0, a4, q⟩) (fun _ => q))))))))))⟩
theorem J6.mf {g' : GH} (h : J6 g r) (e : MFZ g g') : J6 g' r := h.z (h.1.me e.me) e.z
theorem cqn : CQ FN := ⟨by unfold FN SC; omega, by unfold FN SC; omega, by unfold FN SC; omega, by unfold FN SC; omega, by unfold FN SC; omega, by unfold FN SC; omega⟩
theorem uu_68 (hJ : J6 g r) (D : Nat) : Ce sc (D + 1) 68 [(2, 0)] g r (fun v1 g1 r1 => Ce sc (D + 1) 160 [(2, 165)] g1 r1 fun v2 g2 r2 => v1 = v2 ∧ J6 g2 r2) := by
  have hr := hJ.1.1.1.1.1.1
  refine c_68 ⟨okd (by decide +kernel), ?_⟩
  rw [r_0_0 hr]
  exact ⟨okd (by decide +kernel), c_160 ⟨okd (by decide +kernel), hJ.1.1.1.1.2.2, hJ⟩⟩
/-- a pair that only asks, by what the class's call leaves alone -/
theorem pza {ka kb D E : Nat} {as bs : List AV} (hJ : J6 g r) (t : Ce sc D ka as g r (fun v1 g1 r1 => Ce sc E kb bs g1 r1 fun v2 g2 r2 => v1 = v2 ∧ J5 g2 r2)) (c : Ce sc D ka as g r (fun _ g1 r1 => r1 = r ∧ EQF FN g g1)) (m : ∀ g1, MI g1 → Ce sc E kb bs g1 r (KZ g1 r)) : Ce sc D ka as g r (fun v1 g1 r1 => Ce sc E kb bs g1 r1 fun v2 g2 r2 => v1 = v2 ∧ J6 g2 r2) := pz hJ t (Ce_mono c (fun _ _ _ w => ⟨w.1, w.2.z6⟩)) (Ce_mono c (fun _ _ _ w => hJ.1.1.1.1.1.2.2.2.1.hi (fun i j h => w.2 i (hi_fn h) j))) m
theorem uu_100 (hJ : J6 g r) {A1 : Int} (D : Nat) : Ce sc (D + 4) 100 [(2, 0), (0, A1)] g r (fun v1 g1 r1 => Ce sc (D + 4) 226 [(2, 165), (0, A1)] g1 r1 fun v2 g2 r2 => v1 = v2 ∧ J6 g2 r2) := by
  have hr := hJ.1.1.1.1.1.1
  exact pza hJ (tt_100 hJ.1 D) (t_100 (d := D) hr sqn cqn hJ.1.1.1.1.1.2.1 (fun _ _ e => ⟨rfl, e⟩)) (fun g1 mi => s_226' (d := D + 2) hr mi (fun _ => ⟨rfl, Z6.rf g1⟩))
theorem uu_103 (hJ : J6 g r) {A1 A2 A3 : Int} (b2 : rI A2) (b3 : rI A3) (D : Nat) : Ce sc (D + 3) 103 [(2, 0), (0, A1), (0, A2), (0, A3)] g r (fun v1 g1 r1 => Ce sc (D + 3) 227 [(2, 165), (0, A1), (0, A2), (0, A3)] g1 r1 fun v2 g2 r2 => v1 = v2 ∧ J6 g2 r2) := by
  have hr := hJ.1.1.1.1.1.1
  exact pza hJ (tt_103 hJ.1 b2 b3 D) (t_103 (d := D) hr sqn (fun _ _ e => ⟨rfl, e⟩)) (fun g1 mi => s_227 (d := D + 1) hr mi (fun _ => ⟨rfl, Z6.rf g1⟩))
theorem uu_110 (hJ : J6 g r) {A1 A2 A3 A4 : Int} (h3 : A3 < 2147483648) (D : Nat) : Ce sc (D + 3) 110 [(2, 0), (0, A1), (0, A2), (0, A3), (0, A4)] g r (fun v1 g1 r1 => Ce sc (D + 3) 235 [(2, 165), (0, A1), (0, A2), (0, A3), (0, A4)] g1 r1 fun v2 g2 r2 => v1 = v2 ∧ J6 g2 r2) := by
  have hr := hJ.1.1.1.1.1.1
  exact pza hJ (tt_110 hJ.1 D) (t_110 (d := D) hr sqn h3 (fun _ _ e => ⟨rfl, e⟩)) (fun g1 mi => s_235 (d := D + 1) hr mi (fun _ => ⟨rfl, Z6.rf g1⟩))
end AS6
