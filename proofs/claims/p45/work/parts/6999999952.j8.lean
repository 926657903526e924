/-! J8: what was refused is the same on both sides; printed by a program (wip/gen/gen_r8.py) -/
def FR : Int → Prop := fun x => ¬ SC5 x
theorem sqr : SQ5 FR := fun _ h z => z h
theorem cqr : CQ FR := ⟨by unfold FR SC5; omega, by unfold FR SC5; omega, by unfold FR SC5; omega, by unfold FR SC5; omega, by unfold FR SC5; omega, by unfold FR SC5; omega⟩
theorem fr_hi {i : Int} (h : 165 ≤ i) : FR i := by
  unfold FR SC5
  omega
theorem EQF.rn {g g' : GH} (e : EQF FR g g') : EQF FN g g' := fun i h j => e i (fun z => h (by
  unfold SC5 at z
  unfold SC
  omega)) j
theorem EQF.r5 {g g' : GH} (e : EQF FR g g') (j : Int) : g' 65 j = g 65 j := e 65 (by unfold FR SC5; omega) j
def RF8 (g : GH) : Prop := ∀ j, 0 ≤ j → j < 3 → g 65 j = g 166 j
def J8 (g r : GH) : Prop := J6 g r ∧ RF8 g
theorem J8.y {g g' r r' : GH} (h : J8 g r) (j : J6 g' r') (e5 : ∀ q, g' 65 q = g 65 q) (e6 : ∀ q, g' 166 q = g 166 q) : J8 g' r' := ⟨j, fun q q0 q3 => by rw [e5, e6]; exact h.2 q q0 q3⟩
theorem J8.mf {g g' r : GH} (h : J8 g r) (e : MFZ g g') : J8 g' r := h.y (h.1.mf e) (fun q => e.1 65 q (Or.inl (Or.inl (by decide)))) (fun q => e.f (by decide) q)
/-- one more refused for reason j (-1: none) -/
def RS8 (o j : Int) (g g' : GH) : Prop := ∀ q, 0 ≤ q → g' o q = if q = j then wr (g o q + 1) else g o q
theorem rs_n {g g' : GH} {o : Int} (h : ∀ q, g' o q = g o q) : RS8 o (-1) g g' := fun q q0 => by rw [if_neg (by omega)]; exact h q
theorem rs_b {g : GH} {o j : Int} : RS8 o j g (up g o j (wr (g o j + 1))) := fun q q0 => by
  by_cases z : q = j
  · rw [if_pos z, z, up_s]
  · rw [if_neg z, up_j z]
theorem ex_j (P R : Prop) : ∃ j : Int, (P → R → j = -1) ∧ (P → ¬ R → j = 1) ∧ (¬ P → j = 0) := by
  rcases Classical.em P with p | p
  · rcases Classical.em R with q | q
    · exact ⟨-1, fun _ _ => rfl, fun _ z => absurd q z, fun z => absurd p z⟩
    · exact ⟨1, fun _ z => absurd z q, fun _ _ => rfl, fun z => absurd p z⟩
  · exact ⟨0, fun z _ => absurd z p, fun z _ => absurd z p, fun _ => rfl⟩
def KC8 (j : Int) (g : GH) : QJ := fun _ g1 r1 => RI r1 ∧ (∀ i k, 165 ≤ i → g1 i k = g i k) ∧ RS8 65 j g g1
def KM8 (j : Int) (g : GH) : QJ := fun _ g1 _ => (∀ q, g1 65 q = g 65 q) ∧ RS8 166 j g g1
section J8S
variable {sc : SCR} {d : Nat} {Q : QJ} {g r b : GH} {l0 l1 l2 l3 l4 l5 x s p a n j : Int}
theorem p8r {ka kb D E : Nat} {as bs : List AV} (rj : Int → Int) (hJ : J8 g r) (t : Ce sc D ka as g r (fun v1 g1 r1 => Ce sc E kb bs g1 r1 fun v2 g2 r2 => v1 = v2 ∧ J6 g2 r2)) (c : Ce sc D ka as g r (fun v g1 r1 => RI r1 ∧ (∀ i k, 165 ≤ i → g1 i k = g i k) ∧ RS8 65 (rj v) g g1)) (m : ∀ g1 r1, RI r1 → MI g1 → (∀ i j, 165 ≤ i → g1 i j = g i j) → Ce sc E kb bs g1 r1 (fun v g2 _ => (∀ q, g2 65 q = g1 65 q) ∧ RS8 166 (rj v) g1 g2)) : Ce sc D ka as g r (fun v1 g1 r1 => Ce sc E kb bs g1 r1 fun v2 g2 r2 => v1 = v2 ∧ J8 g2 r2) := by
  refine Ce_mono (Ce_and t c) (fun v1 g1 r1 w => ?_)
  obtain ⟨hce, hr1, hi, s1⟩ := w
  have mi : MI g1 := hJ.1.1.1.1.1.1.2.2.2.1.hi hi
  refine Ce_mono (Ce_and hce (m g1 r1 hr1 mi hi)) (fun v2 g2 r2 u => ?_)
  obtain ⟨⟨ev, j⟩, e5, s2⟩ := u
  refine ⟨ev, j, fun q q0 q3 => ?_⟩
  rw [e5, s1 q q0, s2 q q0, ev, hi 166 q (by decide), hJ.2 q q0 q3]
theorem p8 {ka kb D E : Nat} {as bs : List AV} (j : Int) (hJ : J8 g r) (t : Ce sc D ka as g r (fun v1 g1 r1 => Ce sc E kb bs g1 r1 fun v2 g2 r2 => v1 = v2 ∧ J6 g2 r2)) (c : Ce sc D ka as g r (KC8 j g)) (m : ∀ g1 r1, RI r1 → MI g1 → (∀ i j, 165 ≤ i → g1 i j = g i j) → Ce sc E kb bs g1 r1 (KM8 j g1)) : Ce sc D ka as g r (fun v1 g1 r1 => Ce sc E kb bs g1 r1 fun v2 g2 r2 => v1 = v2 ∧ J8 g2 r2) := p8r (fun _ => j) hJ t c m
/-- a call of the class that asks -/
theorem y8 {k : Nat} {as : List AV} {D : Nat} (hJ : J8 g r) (v : Ce sc D k as g r (fun _ g1 r1 => r1 = r ∧ EB r (TM g) (MWh g) g g1)) (t : Ce sc D k as g r (fun _ g1 r1 => r1 = r ∧ EQF FR g g1)) : Ce sc D k as g r (fun _ g1 r1 => r1 = r ∧ J8 g1 r) := Ce_mono (Ce_and v t) (fun _ _ _ w => ⟨w.1.1, hJ.y (hJ.1.z (hJ.1.1.eb w.1.2) w.2.2.rn.z6) (fun q => w.2.2.r5 q) (fun q => w.2.2 166 (fr_hi (by decide)) q)⟩)
theorem EQF.a8 {g1 : GH} (hr : RI r) (e : EQF FR g g1) : KC8 (-1) g l0 g1 r := ⟨hr, fun i k h => e i (fr_hi h) k, rs_n (fun q => e.r5 q)⟩
theorem c8_rf (hr : RI r) : KC8 (-1) g l0 g r := ⟨hr, fun _ _ _ => rfl, rs_n (fun _ => rfl)⟩
theorem m8_rf : KM8 (-1) g l0 g r := ⟨fun _ => rfl, rs_n (fun _ => rfl)⟩
theorem c8_133 (hr : RI r) (h0 : 0 ≤ l1) (h2 : l1 ≤ 2) (e : j = l1) : Ce sc (d + 2) 133 [(2, 0), (0, l1)] g r (KC8 j g) := w_133 hr h0 h2 ⟨hr, fun i k h => up_i (by omega), by rw [e]; exact rs_b⟩
theorem n8_138 (hr : RI r) (h0 : 0 ≤ l1) (h2 : l1 ≤ 2) (e : j = l1) : Ce sc (d + 1) 138 [(2, 165), (0, l1)] g r (KM8 j g) := w_138 hr h0 h2 ⟨fun q => up_i (by decide), by rw [e]; exact rs_b⟩
theorem up_8 {i k v : Int} (h : i < 165) : ∀ a b, 165 ≤ a → up g i k v a b = g a b := fun a b z => up_i (by omega)
theorem w_132x (hr : RI r) (k : okr 218 p 3) (e0 : r p 0 = a) {b : Int} (e1 : r p 1 = b) (A : AL a 11 n) (B : AL b 11 n) (na : p ≠ a) (nb : p ≠ b) (hn : n < 100) (c0 : 0 ≤ g p 2) (h1 : g p 2 < n → Q (g p 2 + 1) (up (up (up g a (g p 2) l2) b (g p 2) l3) p 2 (g p 2 + 1)) r) (h0 : ¬ g p 2 < n → Q (-1) (up g 65 1 (wr (g 65 1 + 1))) r) : Ce sc (d + 3) 132 [(2, 0), (2, p), (0, l2), (0, l3)] g r Q := by
  have k0 : okr 218 0 8 := okd (by decide +kernel)
  refine c_132 ⟨k, w_24 k e0 e1 A B na nb hn c0 (fun q => ?_) (fun q => ?_)⟩
  · rw [if_neg (by decide)]
    refine ⟨k, ?_⟩
    rw [up_s]
    exact h1 q
  · rw [if_pos rfl]
    exact ⟨k0, w_133 hr (by decide) (by decide) (h0 q)⟩
def rj67 (v : Int) : Int := if v = -2 then 0 else if v = -1 then 2 else -1
theorem rj_n {v : Int} (h : 0 ≤ v) : rj67 v = -1 := by
  unfold rj67
  rw [if_neg (by omega), if_neg (by omega)]
theorem c8_67 (hr : RI r) (ht : 0 ≤ g 1 1 ∧ g 1 1 ≤ 700) : Ce sc (d + 38) 67 [(2, 0), (0, l1), (0, l2)] g r (fun v g1 r1 => RI r1 ∧ (∀ i k, 165 ≤ i → g1 i k = g i k) ∧ RS8 65 (rj67 v) g g1) := by
  have k0 : okr 218 0 8 := okd (by decide +kernel)
  have k1 : okr 218 1 5 := okd (by decide +kernel)
  have hm := hr.2.2.1
  have hmo := hm
  unfold MO at hmo
  have far : ∀ i, (i = 65 ∨ 165 ≤ i) → ¬ (r 0 2 ≤ i ∧ i ≤ r 0 2 + 9) ∧ i ≠ 1 ∧ i ≠ 3 ∧ i ≠ 4 ∧ i ≠ 5 := fun i h => by omega
  have bad : RI r ∧ (∀ i k, 165 ≤ i → (up g 65 0 (wr (g 65 0 + 1))) i k = g i k) ∧ RS8 65 (rj67 (-2)) g (up g 65 0 (wr (g 65 0 + 1))) := ⟨hr, fun i k h => up_i (by omega), by rw [show rj67 (-2) = 0 by decide]; exact rs_b⟩
  refine c_67 (w_123 (fun q1 q2 => ?_) (fun q => ?_))
  · rw [if_neg (by decide), r_0_0 hr]
    refine ⟨k0, k1, w_123 (fun q3 q4 => ?_) (fun q => ?_)⟩
    · rw [if_neg (by decide), r_0_0 hr]
      refine ⟨k0, k0, k1, f_32 (T := fun p => g 2 p) hr hm (fun _ => rfl) q3 q4 ht.2 (fun g1 s' m' m0 i0 rc xi mc f11 f12 tt fm => ?_) (fun g1 s' m' st' m0 i0 rc f11 f12 fm => ?_)⟩
      · have xg : XG 90 m' := xi.2.2.2.2.2.2.1
        have v0 : 0 ≤ m' 0 12 := xg.2.1
        have fz : ∀ i, (i = 65 ∨ 165 ≤ i) → ∀ j, g1 i j = g i j := fun i h j => by
          obtain ⟨a, b, c, e, f⟩ := far i h
          exact fm i j b c e f a
        rw [if_neg (show ¬ m' 0 12 = -1 by omega), r_0_1 hr]
        have hI : okI 218 6 14 l1 := i_6.mpr ⟨q1, by omega⟩
        refine ⟨k0, Or.inl hI, k0, k0, Or.inl ⟨hI, mo_ok hm⟩, fun r4 E4 => ?_⟩
        rw [if_neg (mo_ne (hr.2.1 l1 q1 (by omega)))]
        refine ⟨k0, fun r5 E5 => ?_⟩
        have hr5 : RI r5 := by rw [E5, E4]; exact ri_swap hr q1 (by omega)
        rw [r_0_4 hr5]
        refine ⟨k0, (br_23 hr5).1, f_2 hr5 q1 (by omega) (fun g2 em fr => ⟨k0, fun g3 E3 => ?_⟩)⟩
        have f3 : ∀ i, (i = 65 ∨ 165 ≤ i) → ∀ j, g3 i j = g i j := fun i h j => by
          rw [E3, up_i (by omega), fr i j (by omega)]; exact fz i h j
        refine ⟨hr5, fun i k h => f3 i (Or.inr h) k, ?_⟩
        rw [rj_n v0]
        exact rs_n (fun q => f3 65 (Or.inl rfl) q)
      · have fz : ∀ i, (i = 65 ∨ 165 ≤ i) → ∀ j, g1 i j = g i j := fun i h j => by
          obtain ⟨a, b, c, e, f⟩ := far i h
          exact fm i j b c e f a
        rw [if_pos rfl]
        refine ⟨k0, w_133 hr (by decide) (by decide) ⟨hr, fun i k h => by rw [up_i (by omega)]; exact fz i (Or.inr h) k, fun q q0 => ?_⟩⟩
        have e : rj67 (-1) = 2 := by decide
        rw [e, ← fz 65 (Or.inl rfl) q]
        exact rs_b q q0
    · rw [if_pos rfl]; exact ⟨k0, w_133 hr (by decide) (by decide) bad⟩
  · rw [if_pos rfl]; exact ⟨k0, w_133 hr (by decide) (by decide) bad⟩
theorem n8_159 (hr : RI r) (hi : MI g) : Ce sc (d + 38) 159 [(2, 165), (0, l1), (0, l2)] g r (fun v g1 _ => (∀ q, g1 65 q = g 65 q) ∧ RS8 166 (rj67 v) g g1) :=
  f_159 (d := d + 29) (T := fun p => i_and (g 189 p) 255) hr hi.2.1 hi.1.1 (fun _ _ _ => rfl) i0_m00 (fun _ => ⟨fun q => up_i (by decide), by rw [show rj67 (-2) = 0 by decide]; exact rs_b⟩) (fun hv g2 s2 m2 rc2 mt fq w66 => by
    have xi := (xi_0 (tk_ts hv.2.2.1 0) i0_m00).r rc2
    have xg : XG 90 m2 := xi.2.2.2.2.2.2.1
    have v0 : 0 ≤ m2 0 12 := xg.2.1
    refine ⟨fun q => fq 65 q (by omega) (by omega) (by omega) (by omega) (by omega) (by omega) (by omega) (by omega) (by omega), ?_⟩
    rw [rj_n v0]
    exact rs_n w66) (fun _ g2 s2 m2 st2 rc2 _ _ w66 fl => by
    refine ⟨fun q => fl 65 q (by omega) (by omega) (by omega) (by omega) (by omega) (by omega) (by omega), fun q q0 => ?_⟩
    have e : rj67 (-1) = 2 := by decide
    rw [e]
    by_cases z : q = 2
    · rw [if_pos z, z]; exact w66
    · rw [if_neg z]
      exact fl 166 q (by omega) (by omega) (by omega) (by omega) (by omega) (by omega) (by omega))
theorem c8_99 (hr : RI r) (hc : 0 ≤ g 52 2) (hA : (TD g r l1 ∧ 0 ≤ l2 ∧ l2 ≤ 100) → g 52 2 < 30 → j = -1) (hB : (TD g r l1 ∧ 0 ≤ l2 ∧ l2 ≤ 100) → ¬ g 52 2 < 30 → j = 1) (hC : ¬ (TD g r l1 ∧ 0 ≤ l2 ∧ l2 ≤ 100) → j = 0) : Ce sc (d + 4) 99 [(2, 0), (0, l1), (0, l2)] g r (KC8 j g) := by
  have k0 : okr 218 0 8 := okd (by decide +kernel)
  have kp : okr 218 52 3 := okd (by decide +kernel)
  have A : AL 53 11 30 := ⟨okd (by decide +kernel), n_53⟩
  have B : AL 54 11 30 := ⟨okd (by decide +kernel), n_54⟩
  refine c_99 ⟨k0, w_129 hr (fun t => ?_) (fun t => ?_)⟩
  · rw [if_neg (mo_ne (hr.2.1 l1 t.1 t.2.1))]
    refine w_123 (fun q1 q2 => ?_) (fun q => ?_)
    · rw [if_neg (by decide), r_0_12 hr]
      exact ⟨k0, k0, w_132x hr kp (r_52_0 hr) (r_52_1 hr) A B (by decide) (by decide) (by decide) hc (fun z => ⟨hr, fun i k h => by rw [up_i (by omega), up_i (by omega), up_i (by omega)], by rw [hA ⟨t, q1, q2⟩ z]; exact rs_n (fun q => by rw [up_i (by decide), up_i (by decide), up_i (by decide)])⟩) (fun z => ⟨hr, fun i k h => up_i (by omega), by rw [hB ⟨t, q1, q2⟩ z]; exact rs_b⟩)⟩
    · rw [if_pos rfl]; exact ⟨k0, c8_133 hr (by decide) (by decide) (hC (fun z => q z.2))⟩
  · rw [if_pos rfl]; exact ⟨k0, c8_133 hr (by decide) (by decide) (hC (fun z => t z.1))⟩
theorem n8_223 (hr : RI r) (hi : MI g) (hA : (TM g l1 ∧ 0 ≤ l2 ∧ l2 ≤ 100) → g 165 61 < 30 → j = -1) (hB : (TM g l1 ∧ 0 ≤ l2 ∧ l2 ≤ 100) → ¬ g 165 61 < 30 → j = 1) (hC : ¬ (TM g l1 ∧ 0 ≤ l2 ∧ l2 ≤ 100) → j = 0) : Ce sc (d + 2) 223 [(2, 165), (0, l1), (0, l2)] g r (KM8 j g) := by
  have k9 : okr 218 165 9 := okd (by decide +kernel)
  have c := hi.1.2.2.1
  refine c_223 ⟨k9, w_140 hr (fun t => ?_) (fun t => ?_)⟩
  · rw [if_neg (by decide)]
    refine w_137 (fun q1 q2 => ?_) (fun q => ?_)
    · rw [if_neg (by decide), r_165_62 hr, r_165_63 hr]
      refine ⟨k9, ite_c (fun z => ⟨k9, n8_138 hr (by decide) (by decide) (hB ⟨t, q1, q2⟩ (by omega))⟩) (fun z => ⟨k9, k9, i_209.mpr ⟨by omega, by omega⟩, fun g1 e1 => ⟨k9, k9, ?_, fun g2 e2 => ⟨k9, k9, fun g3 e3 => ⟨k9, fun q => by rw [e3, up_i (by decide), e2, up_i (by decide), e1, up_i (by decide)], by rw [hA ⟨t, q1, q2⟩ (by omega)]; exact rs_n (fun q => by rw [e3, up_i (by decide), e2, up_i (by decide), e1, up_i (by decide)])⟩⟩⟩⟩)⟩
      rw [e1, up_i (by decide)]; exact i_210.mpr ⟨by omega, by omega⟩
    · rw [if_pos rfl]; exact ⟨k9, n8_138 hr (by decide) (by decide) (hC (fun z => q z.2))⟩
  · rw [if_pos rfl]; exact ⟨k9, n8_138 hr (by decide) (by decide) (hC (fun z => t z.1))⟩
theorem c8_104 (hr : RI r) (hc : 0 ≤ g 55 2) (hA : (0 ≤ l1 ∧ l1 ≤ 9999) → g 55 2 < 24 → j = -1) (hB : (0 ≤ l1 ∧ l1 ≤ 9999) → ¬ g 55 2 < 24 → j = 1) (hC : ¬ (0 ≤ l1 ∧ l1 ≤ 9999) → j = 0) : Ce sc (d + 4) 104 [(2, 0), (0, l1)] g r (KC8 j g) := by
  have k0 : okr 218 0 8 := okd (by decide +kernel)
  have kp : okr 218 55 3 := okd (by decide +kernel)
  have A : AL 56 11 24 := ⟨okd (by decide +kernel), n_56⟩
  have B : AL 57 11 24 := ⟨okd (by decide +kernel), n_57⟩
  refine c_104 (w_123 (fun q1 q2 => ?_) (fun q => ?_))
  · rw [if_neg (by decide), r_0_13 hr]
    exact ⟨k0, k0, w_132x hr kp (r_55_0 hr) (r_55_1 hr) A B (by decide) (by decide) (by decide) hc (fun z => ⟨hr, fun i k h => by rw [up_i (by omega), up_i (by omega), up_i (by omega)], by rw [hA ⟨q1, q2⟩ z]; exact rs_n (fun q => by rw [up_i (by decide), up_i (by decide), up_i (by decide)])⟩) (fun z => ⟨hr, fun i k h => up_i (by omega), by rw [hB ⟨q1, q2⟩ z]; exact rs_b⟩)⟩
  · rw [if_pos rfl]; exact ⟨k0, c8_133 hr (by decide) (by decide) (hC q)⟩
theorem n8_228 (hr : RI r) (hi : MI g) (hA : (0 ≤ l1 ∧ l1 ≤ 9999) → g 165 64 < 24 → j = -1) (hB : (0 ≤ l1 ∧ l1 ≤ 9999) → ¬ g 165 64 < 24 → j = 1) (hC : ¬ (0 ≤ l1 ∧ l1 ≤ 9999) → j = 0) : Ce sc (d + 2) 228 [(2, 165), (0, l1)] g r (KM8 j g) := by
  have k9 : okr 218 165 9 := okd (by decide +kernel)
  have c := hi.1.2.2.2.1
  refine c_228 (w_137 (fun q1 q2 => ?_) (fun q => ?_))
  · rw [if_neg (by decide), r_165_65 hr]
    exact ⟨k9, ite_c (fun z => ⟨k9, n8_138 hr (by decide) (by decide) (hB ⟨q1, q2⟩ (by omega))⟩) (fun z => ⟨k9, k9, i_211.mpr ⟨by omega, by omega⟩, fun g1 e1 => ⟨k9, k9, fun g2 e2 => ⟨k9, fun q => by rw [e2, up_i (by decide), e1, up_i (by decide)], by rw [hA ⟨q1, q2⟩ (by omega)]; exact rs_n (fun q => by rw [e2, up_i (by decide), e1, up_i (by decide)])⟩⟩⟩)⟩
  · rw [if_pos rfl]; exact ⟨k9, n8_138 hr (by decide) (by decide) (hC q)⟩
theorem c8_111 (hr : RI r) (hc : 0 ≤ g 58 2) (hA : ((2 ≤ l1 ∧ l1 ≤ 40) ∧ 1 ≤ l2 ∧ l2 ≤ 9999) → g 58 2 < 9 → j = -1) (hB : ((2 ≤ l1 ∧ l1 ≤ 40) ∧ 1 ≤ l2 ∧ l2 ≤ 9999) → ¬ g 58 2 < 9 → j = 1) (hC : ¬ ((2 ≤ l1 ∧ l1 ≤ 40) ∧ 1 ≤ l2 ∧ l2 ≤ 9999) → j = 0) : Ce sc (d + 4) 111 [(2, 0), (0, l1), (0, l2)] g r (KC8 j g) := by
  have k0 : okr 218 0 8 := okd (by decide +kernel)
  have kp : okr 218 58 3 := okd (by decide +kernel)
  have A : AL 59 11 9 := ⟨okd (by decide +kernel), n_59⟩
  have B : AL 60 11 9 := ⟨okd (by decide +kernel), n_60⟩
  refine c_111 (w_123 (fun q1 q2 => ?_) (fun q => ?_))
  · rw [if_neg (by decide)]
    refine w_123 (fun q3 q4 => ?_) (fun q => ?_)
    · rw [if_neg (by decide), r_0_14 hr]
      exact ⟨k0, k0, w_132x hr kp (r_58_0 hr) (r_58_1 hr) A B (by decide) (by decide) (by decide) hc (fun z => ⟨hr, fun i k h => by rw [up_i (by omega), up_i (by omega), up_i (by omega)], by rw [hA ⟨⟨q1, q2⟩, q3, q4⟩ z]; exact rs_n (fun q => by rw [up_i (by decide), up_i (by decide), up_i (by decide)])⟩) (fun z => ⟨hr, fun i k h => up_i (by omega), by rw [hB ⟨⟨q1, q2⟩, q3, q4⟩ z]; exact rs_b⟩)⟩
    · rw [if_pos rfl]; exact ⟨k0, c8_133 hr (by decide) (by decide) (hC (fun z => q z.2))⟩
  · rw [if_pos rfl]; exact ⟨k0, c8_133 hr (by decide) (by decide) (hC (fun z => q z.1))⟩
theorem n8_236 (hr : RI r) (hi : MI g) (hA : ((2 ≤ l1 ∧ l1 ≤ 40) ∧ 1 ≤ l2 ∧ l2 ≤ 9999) → g 165 66 < 9 → j = -1) (hB : ((2 ≤ l1 ∧ l1 ≤ 40) ∧ 1 ≤ l2 ∧ l2 ≤ 9999) → ¬ g 165 66 < 9 → j = 1) (hC : ¬ ((2 ≤ l1 ∧ l1 ≤ 40) ∧ 1 ≤ l2 ∧ l2 ≤ 9999) → j = 0) : Ce sc (d + 2) 236 [(2, 165), (0, l1), (0, l2)] g r (KM8 j g) := by
  have k9 : okr 218 165 9 := okd (by decide +kernel)
  have c := hi.1.2.2.2.2.1
  refine c_236 (w_137 (fun q1 q2 => ?_) (fun q => ?_))
  · rw [if_neg (by decide)]
    refine w_137 (fun q3 q4 => ?_) (fun q => ?_)
    · rw [if_neg (by decide), r_165_67 hr, r_165_68 hr]
      refine ⟨k9, ite_c (fun z => ⟨k9, n8_138 hr (by decide) (by decide) (hB ⟨⟨q1, q2⟩, q3, q4⟩ (by omega))⟩) (fun z => ⟨k9, k9, i_212.mpr ⟨by omega, by omega⟩, fun g1 e1 => ⟨k9, k9, ?_, fun g2 e2 => ⟨k9, k9, fun g3 e3 => ⟨k9, fun q => by rw [e3, up_i (by decide), e2, up_i (by decide), e1, up_i (by decide)], by rw [hA ⟨⟨q1, q2⟩, q3, q4⟩ (by omega)]; exact rs_n (fun q => by rw [e3, up_i (by decide), e2, up_i (by decide), e1, up_i (by decide)])⟩⟩⟩⟩)⟩
      rw [e1, up_i (by decide)]; exact i_213.mpr ⟨by omega, by omega⟩
    · rw [if_pos rfl]; exact ⟨k9, n8_138 hr (by decide) (by decide) (hC (fun z => q z.2))⟩
  · rw [if_pos rfl]; exact ⟨k9, n8_138 hr (by decide) (by decide) (hC (fun z => q z.1))⟩
theorem c8_117 (hr : RI r) (hc : 0 ≤ g 62 2) (hA : ((1 ≤ l1 ∧ l1 ≤ 24) ∧ 1 ≤ l2 ∧ l2 ≤ 999999999) → g 62 2 < 8 → j = -1) (hB : ((1 ≤ l1 ∧ l1 ≤ 24) ∧ 1 ≤ l2 ∧ l2 ≤ 999999999) → ¬ g 62 2 < 8 → j = 1) (hC : ¬ ((1 ≤ l1 ∧ l1 ≤ 24) ∧ 1 ≤ l2 ∧ l2 ≤ 999999999) → j = 0) : Ce sc (d + 4) 117 [(2, 0), (0, l1), (0, l2)] g r (KC8 j g) := by
  have k0 : okr 218 0 8 := okd (by decide +kernel)
  have kp : okr 218 62 3 := okd (by decide +kernel)
  have A : AL 63 11 8 := ⟨okd (by decide +kernel), n_63⟩
  have B : AL 64 11 8 := ⟨okd (by decide +kernel), n_64⟩
  refine c_117 (w_123 (fun q1 q2 => ?_) (fun q => ?_))
  · rw [if_neg (by decide)]
    refine w_123 (fun q3 q4 => ?_) (fun q => ?_)
    · rw [if_neg (by decide), r_0_16 hr]
      exact ⟨k0, k0, w_132x hr kp (r_62_0 hr) (r_62_1 hr) A B (by decide) (by decide) (by decide) hc (fun z => ⟨hr, fun i k h => by rw [up_i (by omega), up_i (by omega), up_i (by omega)], by rw [hA ⟨⟨q1, q2⟩, q3, q4⟩ z]; exact rs_n (fun q => by rw [up_i (by decide), up_i (by decide), up_i (by decide)])⟩) (fun z => ⟨hr, fun i k h => up_i (by omega), by rw [hB ⟨⟨q1, q2⟩, q3, q4⟩ z]; exact rs_b⟩)⟩
    · rw [if_pos rfl]; exact ⟨k0, c8_133 hr (by decide) (by decide) (hC (fun z => q z.2))⟩
  · rw [if_pos rfl]; exact ⟨k0, c8_133 hr (by decide) (by decide) (hC (fun z => q z.1))⟩
theorem n8_240 (hr : RI r) (hi : MI g) (hA : ((1 ≤ l1 ∧ l1 ≤ 24) ∧ 1 ≤ l2 ∧ l2 ≤ 999999999) → g 165 70 < 8 → j = -1) (hB : ((1 ≤ l1 ∧ l1 ≤ 24) ∧ 1 ≤ l2 ∧ l2 ≤ 999999999) → ¬ g 165 70 < 8 → j = 1) (hC : ¬ ((1 ≤ l1 ∧ l1 ≤ 24) ∧ 1 ≤ l2 ∧ l2 ≤ 999999999) → j = 0) : Ce sc (d + 2) 240 [(2, 165), (0, l1), (0, l2)] g r (KM8 j g) := by
  have k9 : okr 218 165 9 := okd (by decide +kernel)
  have c := hi.1.2.2.2.2.2.1
  refine c_240 (w_137 (fun q1 q2 => ?_) (fun q => ?_))
  · rw [if_neg (by decide)]
    refine w_137 (fun q3 q4 => ?_) (fun q => ?_)
    · rw [if_neg (by decide), r_165_71 hr, r_165_72 hr]
      refine ⟨k9, ite_c (fun z => ⟨k9, n8_138 hr (by decide) (by decide) (hB ⟨⟨q1, q2⟩, q3, q4⟩ (by omega))⟩) (fun z => ⟨k9, k9, i_215.mpr ⟨by omega, by omega⟩, fun g1 e1 => ⟨k9, k9, ?_, fun g2 e2 => ⟨k9, k9, fun g3 e3 => ⟨k9, fun q => by rw [e3, up_i (by decide), e2, up_i (by decide), e1, up_i (by decide)], by rw [hA ⟨⟨q1, q2⟩, q3, q4⟩ (by omega)]; exact rs_n (fun q => by rw [e3, up_i (by decide), e2, up_i (by decide), e1, up_i (by decide)])⟩⟩⟩⟩)⟩
      rw [e1, up_i (by decide)]; exact i_216.mpr ⟨by omega, by omega⟩
    · rw [if_pos rfl]; exact ⟨k9, n8_138 hr (by decide) (by decide) (hC (fun z => q z.2))⟩
  · rw [if_pos rfl]; exact ⟨k9, n8_138 hr (by decide) (by decide) (hC (fun z => q z.1))⟩
theorem c8_98 (hr : RI r) (hA : (TD g r l1 ∧ 0 ≤ l2 ∧ l2 ≤ 99) → j = -1) (hC : ¬ (TD g r l1 ∧ 0 ≤ l2 ∧ l2 ≤ 99) → j = 0) : Ce sc (d + 4) 98 [(2, 0), (0, l1), (0, l2)] g r (KC8 j g) := by
  have k0 : okr 218 0 8 := okd (by decide +kernel)
  have no : j = 0 → KC8 j g 0 (up g 65 0 (wr (g 65 0 + 1))) r := fun e => ⟨hr, fun i k h => up_i (by omega), by rw [e]; exact rs_b⟩
  refine c_98 ⟨k0, w_129 hr (fun t => ?_) (fun t => ?_)⟩
  · rw [if_neg (mo_ne (hr.2.1 l1 t.1 t.2.1))]
    refine w_123 (fun q1 q2 => ?_) (fun q => ?_)
    · rw [if_neg (by decide), r_0_11 hr]
      exact ⟨k0, i_51.mpr ⟨t.1, t.2.1⟩, fun g3 e3 => ⟨Or.inr rfl, by rw [e3]; exact ⟨hr, fun i k h => up_i (by omega), by rw [hA ⟨t, q1, q2⟩]; exact rs_n (fun q => up_i (by decide))⟩⟩⟩
    · rw [if_pos rfl]
      exact ⟨k0, w_134 hr (by decide) (by decide) ⟨Or.inl rfl, no (hC (fun z => q z.2))⟩⟩
  · rw [if_pos rfl]
    exact ⟨k0, w_134 hr (by decide) (by decide) ⟨Or.inl rfl, no (hC (fun z => t z.1))⟩⟩
theorem n8_222 (hr : RI r) (hA : (TM g l1 ∧ 0 ≤ l2 ∧ l2 ≤ 99) → j = -1) (hC : ¬ (TM g l1 ∧ 0 ≤ l2 ∧ l2 ≤ 99) → j = 0) : Ce sc (d + 2) 222 [(2, 165), (0, l1), (0, l2)] g r (KM8 j g) := by
  have k9 : okr 218 165 9 := okd (by decide +kernel)
  have no : j = 0 → KM8 j g 0 (up g 166 0 (wr (g 166 0 + 1))) r := fun e => ⟨fun q => up_i (by decide), by rw [e]; exact rs_b⟩
  refine c_222 ⟨k9, w_140 hr (fun t => ?_) (fun t => ?_)⟩
  · rw [if_neg (by decide)]
    refine w_137 (fun q1 q2 => ?_) (fun q => ?_)
    · rw [if_neg (by decide), r_165_15 hr]
      exact ⟨k9, i_181.mpr ⟨t.1, t.2.1⟩, fun g3 e3 => ⟨Or.inr rfl, by rw [e3]; exact ⟨fun q => up_i (by decide), by rw [hA ⟨t, q1, q2⟩]; exact rs_n (fun q => up_i (by decide))⟩⟩⟩
    · rw [if_pos rfl]
      exact ⟨k9, w_139 hr ⟨Or.inl rfl, no (hC (fun z => q z.2))⟩⟩
  · rw [if_pos rfl]
    exact ⟨k9, w_139 hr ⟨Or.inl rfl, no (hC (fun z => t z.1))⟩⟩
theorem c8_82 {mm : Int → GH} (hJ : J6 g r) (hp : PO g mm) (hx : MXA g mm) (hc : COK g mm r g) (hb : HB b) (cb : CBR 23 g b) (hA : ((1 ≤ l1 ∧ l1 ≤ 96) ∧ tolP g 6 ≠ 0) → b 0 0 + l1 ≤ 960 → j = -1) (hB : ((1 ≤ l1 ∧ l1 ≤ 96) ∧ tolP g 6 ≠ 0) → ¬ b 0 0 + l1 ≤ 960 → j = 1) (hC : ¬ ((1 ≤ l1 ∧ l1 ≤ 96) ∧ tolP g 6 ≠ 0) → j = 0) : Ce sc (d + 10) 82 [(2, 0), (0, l1)] g r (KC8 j g) := by
  have hr := hJ.1.1.1.1.1.1
  have k0 : okr 218 0 8 := okd (by decide +kernel)
  have k23 : okr 218 23 0 := okd (by decide +kernel)
  refine c_82 (w_123 (fun q1 q2 => ?_) (fun q => ?_))
  · rw [if_neg (by decide)]
    refine ⟨k0, f_131 (d := d + 6) hJ.1.1.1 (ite_c (fun z => ⟨k0, c8_133 (d := d + 7) hr (by decide) (by decide) (hC (fun y => y.2 z))⟩) (fun z => ⟨k0, ?_⟩))⟩
    have h9 := hb.1
    rw [r_0_4 hr, cb.1.1, wr_id (x := b 0 0 + l1) ⟨by omega, by omega⟩]
    refine ⟨k23, ite_c (fun y => ⟨k0, c8_133 (d := d + 7) hr (by decide) (by decide) (hB ⟨⟨q1, q2⟩, z⟩ (by omega))⟩) (fun y => ?_)⟩
    refine f_82l (d := d) hr hp hx q2 l1.toNat 0 g b (Int.le_refl 0) (by omega) hc hb (by omega) cb hJ.2.2.2 (fun g' f' c' => ⟨hr, f'.z (fun i h => ak_hi h), ?_⟩)
    rw [hA ⟨⟨q1, q2⟩, z⟩ (by omega)]
    exact rs_n (fun q => f' 65 q (by omega) (by unfold BO; omega) (by unfold AK; omega))
  · rw [if_pos rfl]
    exact ⟨k0, c8_133 (d := d + 7) hr (by decide) (by decide) (hC (fun y => q y.1))⟩
theorem n8_207 {mm : Int → GH} {g1 r1 : GH} (hp : PO g mm) (hx : MXA g mm) (hb : HB b) (mb : MBR 0 g b) (hr : RI r1) (hi1 : ∀ i j, 165 ≤ i → g1 i j = g i j) (hA : ((1 ≤ l1 ∧ l1 ≤ 96) ∧ tolP g 6 ≠ 0) → b 0 0 + l1 ≤ 960 → j = -1) (hB : ((1 ≤ l1 ∧ l1 ≤ 96) ∧ tolP g 6 ≠ 0) → ¬ b 0 0 + l1 ≤ 960 → j = 1) (hC : ¬ ((1 ≤ l1 ∧ l1 ≤ 96) ∧ tolP g 6 ≠ 0) → j = 0) : Ce sc (d + 10) 207 [(2, 165), (0, l1)] g1 r1 (KM8 j g1) := by
  have k9 : okr 218 165 9 := okd (by decide +kernel)
  have mb1 : MBR 0 g1 b := mb.fr (fun i j hi => hi1 i j (by omega))
  have t1 : tolP g1 6 = tolP g 6 := by
    have : ∀ n : Nat, tolP g1 n = tolP g n := fun n => by
      induction n with
      | zero => rfl
      | succ n ih =>
        show tolP g1 n + (if g1 167 n = 0 then 0 else 1) = tolP g n + (if g 167 n = 0 then 0 else 1)
        rw [ih, hi1 167 _ (by decide)]
    exact this 6
  refine c_207 (w_137 (fun q1 q2 => ?_) (fun q => ?_))
  · rw [if_neg (by decide)]
    refine ⟨k9, s_206 (d := d + 8) hr ?_⟩
    rw [t1]
    refine ite_c (fun z => ⟨k9, n8_138 (d := d + 8) hr (by decide) (by decide) (hC (fun y => y.2 z))⟩) (fun z => ⟨k9, ?_⟩)
    have h9 := hb.1
    rw [r_165_42 hr, mb1.1.1, wr_id (x := b 0 0 + l1) ⟨by omega, by omega⟩]
    refine ⟨i_197.mpr ⟨by decide, by decide⟩, ite_c (fun y => ⟨k9, n8_138 (d := d + 8) hr (by decide) (by decide) (hB ⟨⟨q1, q2⟩, z⟩ (by omega))⟩) (fun y => ⟨k9, f_201 (d := d + 8) (fun g3 a52 a56 fr => ?_)⟩)⟩
    refine f_207l (d := d) hr hp hx q2 l1.toNat 0 g3 b (Int.le_refl 0) (by omega) (fun i j hh => ?_) hb (by omega) (mb1.fr (fun i j hi => fr i j (by omega))) a52 a56 (fun g' f' m' => ⟨fun q => ?_, ?_⟩)
    · rw [fr i j (by omega)]; exact hi1 i j (by omega)
    · rw [f' 65 q (by omega) (by omega) (by omega)]; exact fr 65 q (by omega)
    · rw [hA ⟨⟨q1, q2⟩, z⟩ (by omega)]
      exact rs_n (fun q => by rw [f' 166 q (by omega) (by omega) (by omega)]; exact fr 166 q (by omega))
  · rw [if_pos rfl]
    exact ⟨k9, n8_138 (d := d + 8) hr (by decide) (by decide) (hC (fun y => q y.1))⟩
theorem c8_81 (hr : RI r) : Ce sc (d + 3) 81 [(2, 0), (0, l1)] g r (KC8 (-1) g) := by
  have k0 : okr 218 0 8 := okd (by decide +kernel)
  have k23 : okr 218 23 0 := okd (by decide +kernel)
  refine c_81 (w_127 (fun a c => ?_) (fun q => ?_))
  · rw [if_neg (by decide), r_0_4 hr, r_23_4 hr]
    exact ⟨k0, k23, i_24.mpr ⟨a, by omega⟩, c8_rf hr⟩
  · rw [if_pos rfl]; exact c8_rf hr
theorem x8_66 (hJ : J8 g r) {A1 A2 A3 A4 A5 : Int} (D : Nat) : Ce sc (D + 2) 66 [(2, 0), (0, A1), (0, A2), (0, A3), (0, A4), (0, A5)] g r (fun v1 g1 r1 => Ce sc (D + 2) 142 [(2, 165), (0, A1), (0, A2), (0, A3), (0, A4), (0, A5)] g1 r1 fun v2 g2 r2 => v1 = v2 ∧ J8 g2 r2) := by
  have hj := hJ.1.1.1.1.1.1
  have hr := hj.1
  have hci := hj.2.1
  refine p8 (-1) hJ (uu_66 hJ.1 D) (w_66 (d := D) hr rfl hci.1.1 hci.1.2 (fun _ => ⟨hr, fun i k h => ?_, rs_n (fun q => ?_)⟩) (fun _ => c8_rf hr)) (fun g1 r1 hr1 mi hi => fq_142 (d := D + 1) hr1 mi.1.1 (fun _ g2 _ y => ⟨fun q => y 65 q (by omega) (by omega), rs_n (fun q => y 166 q (by omega) (by omega))⟩) (fun _ => m8_rf))
  · have x : i ≠ 1 := by omega
    have y : i ≠ 2 := by omega
    unfold ap20
    rw [ap4_o x y, ap4_o x y, ap4_o x y, ap4_o x y, ap4_o x y]
  · have x : (65 : Int) ≠ 1 := by decide
    have y : (65 : Int) ≠ 2 := by decide
    unfold ap20
    rw [ap4_o x y, ap4_o x y, ap4_o x y, ap4_o x y, ap4_o x y]
theorem x8_67 (hJ : J8 g r) {A1 A2 : Int} (D : Nat) : Ce sc (D + 38) 67 [(2, 0), (0, A1), (0, A2)] g r (fun v1 g1 r1 => Ce sc (D + 38) 159 [(2, 165), (0, A1), (0, A2)] g1 r1 fun v2 g2 r2 => v1 = v2 ∧ J8 g2 r2) := by
  have hj := hJ.1.1.1.1.1.1
  have hr := hj.1
  have hci := hj.2.1
  exact p8r rj67 hJ (uu_67 hJ.1 D) (c8_67 (d := D) hr hci.1) (fun g1 r1 hr1 mi hi => n8_159 (d := D) hr1 mi)
theorem x8_80 (hJ : J8 g r) {A1 A2 A3 : Int} (h3 : A3 = 0 ∨ A3 = 1) (D : Nat) : Ce sc (D + 4) 80 [(2, 0), (0, A1), (0, A2), (0, A3)] g r (fun v1 g1 r1 => Ce sc (D + 4) 193 [(2, 165), (0, A1), (0, A2), (0, A3)] g1 r1 fun v2 g2 r2 => v1 = v2 ∧ J8 g2 r2) := by
  have hj := hJ.1.1.1.1.1.1
  have hr := hj.1
  have hci := hj.2.1
  rcases Classical.em (DV A1 A2) with y | y
  · exact p8 (-1) hJ (uu_80 hJ.1 h3 D) (f_80 (d := D) hr h3 (fun _ => ⟨hr, fun i k h => by rw [up_i (by omega), up_i (by omega)], rs_n (fun q => by rw [up_i (by decide), up_i (by decide)])⟩) (fun z => absurd y z)) (fun g1 r1 hr1 mi hi => f_193 (d := D + 2) hr1 h3 (fun _ => ⟨fun q => by rw [up_i (by decide), up_i (by decide)], rs_n (fun q => by rw [up_i (by decide), up_i (by decide)])⟩) (fun z => absurd y z))
  · exact p8 0 hJ (uu_80 hJ.1 h3 D) (f_80 (d := D) hr h3 (fun z => absurd z y) (fun _ => ⟨hr, fun i k h => up_i (by omega), rs_b⟩)) (fun g1 r1 hr1 mi hi => f_193 (d := D + 2) hr1 h3 (fun z => absurd z y) (fun _ => ⟨fun q => up_i (by decide), rs_b⟩))
theorem x8_82 (hJ : J8 g r) {A1 : Int} (D : Nat) : Ce sc (D + 10) 82 [(2, 0), (0, A1)] g r (fun v1 g1 r1 => Ce sc (D + 10) 207 [(2, 165), (0, A1)] g1 r1 fun v2 g2 r2 => v1 = v2 ∧ J8 g2 r2) := by
  have hj := hJ.1.1.1.1.1.1
  have hr := hj.1
  have hci := hj.2.1
  obtain ⟨mm, hp, hx, hc⟩ := par hJ.1.1
  obtain ⟨b, hb, cb, mb, zz⟩ := hJ.1.2.1
  obtain ⟨j, hA, hB, hC⟩ := ex_j ((1 ≤ A1 ∧ A1 ≤ 96) ∧ tolP g 6 ≠ 0) (b 0 0 + A1 ≤ 960)
  exact p8 j hJ (uu_82 hJ.1 D) (c8_82 (d := D) hJ.1 hp hx hc hb cb hA hB hC) (fun g1 r1 hr1 mi hi => n8_207 (d := D) hp hx hb mb hr1 hi hA hB hC)
theorem x8_83 (hJ : J8 g r) {A1 : Int} (D : Nat) : Ce sc (D + 3) 83 [(2, 0), (0, A1)] g r (fun v1 g1 r1 => Ce sc (D + 3) 195 [(2, 165), (0, A1)] g1 r1 fun v2 g2 r2 => v1 = v2 ∧ J8 g2 r2) := by
  have hj := hJ.1.1.1.1.1.1
  have hr := hj.1
  have hci := hj.2.1
  obtain ⟨b, hb, cb, mb, zz⟩ := hJ.1.2.1
  have fc : ∀ j, 0 ≤ j → j < 40 → 0 ≤ g 24 j ∧ g 24 j ≤ 99999 := fun j j0 j1 => by
    have e : g 24 j = b 4 j := (cb.2.1 j j0 j1).1
    rw [e]; exact (hb.2.1 j j0 j1).1
  have fm : ∀ g1 : GH, (∀ i j, 165 ≤ i → g1 i j = g i j) → ∀ j, 0 ≤ j → j < 40 → 0 ≤ g1 192 j ∧ g1 192 j ≤ 99999 := fun g1 hi j j0 j1 => by
    have q := (mb.2.1 j j0 j1).1
    rw [show (40 : Int) * 0 + j = j by omega] at q
    rw [hi 192 j (by decide), q]
    exact (hb.2.1 j j0 j1).1
  by_cases y : 0 ≤ A1 ∧ A1 ≤ 39
  · exact p8 (-1) hJ (uu_83 hJ.1 D) (f_83 (d := D) hr fc (fun _ => ⟨hr, fun i k h => by rw [up_i (by omega), up_i (by omega)], rs_n (fun q => by rw [up_i (by decide), up_i (by decide)])⟩) (fun z => absurd y z)) (fun g1 r1 hr1 mi hi => f_195 (d := D + 1) hr1 (fm g1 hi) (fun _ => ⟨fun q => by rw [up_i (by decide), up_i (by decide)], rs_n (fun q => by rw [up_i (by decide), up_i (by decide)])⟩) (fun z => absurd y z))
  · exact p8 0 hJ (uu_83 hJ.1 D) (f_83 (d := D) hr fc (fun z => absurd z y) (fun _ => ⟨hr, fun i k h => up_i (by omega), rs_b⟩)) (fun g1 r1 hr1 mi hi => f_195 (d := D + 1) hr1 (fm g1 hi) (fun z => absurd z y) (fun _ => ⟨fun q => up_i (by decide), rs_b⟩))
theorem x8_84 (hJ : J8 g r) {A1 : Int} (D : Nat) : Ce sc (D + 4) 84 [(2, 0), (0, A1)] g r (fun v1 g1 r1 => Ce sc (D + 4) 196 [(2, 165), (0, A1)] g1 r1 fun v2 g2 r2 => v1 = v2 ∧ J8 g2 r2) := by
  have hj := hJ.1.1.1.1.1.1
  have hr := hj.1
  have hci := hj.2.1
  rcases Classical.em (SV A1) with y | y
  · exact p8 (-1) hJ (uu_84 hJ.1 D) (f_84 (d := D) hr (fun _ => ⟨hr, fun i k h => up_i (by omega), rs_n (fun q => up_i (by decide))⟩) (fun z => absurd y z)) (fun g1 r1 hr1 mi hi => f_196 (d := D + 2) hr1 (fun _ => ⟨fun q => up_i (by decide), rs_n (fun q => up_i (by decide))⟩) (fun z => absurd y z))
  · exact p8 0 hJ (uu_84 hJ.1 D) (f_84 (d := D) hr (fun z => absurd z y) (fun _ => ⟨hr, fun i k h => up_i (by omega), rs_b⟩)) (fun g1 r1 hr1 mi hi => f_196 (d := D + 2) hr1 (fun z => absurd z y) (fun _ => ⟨fun q => up_i (by decide), rs_b⟩))
theorem x8_98 (hJ : J8 g r) {A1 A2 : Int} (D : Nat) : Ce sc (D + 4) 98 [(2, 0), (0, A1), (0, A2)] g r (fun v1 g1 r1 => Ce sc (D + 4) 222 [(2, 165), (0, A1), (0, A2)] g1 r1 fun v2 g2 r2 => v1 = v2 ∧ J8 g2 r2) := by
  have hj := hJ.1.1.1.1.1.1
  have hr := hj.1
  have hci := hj.2.1
  have td := td_tm hJ.1.1.1.1 A1
  obtain ⟨j, hA, _, hC⟩ := ex_j (TM g A1 ∧ 0 ≤ A2 ∧ A2 ≤ 99) True
  refine p8 j hJ (uu_98 hJ.1 D) (c8_98 (d := D) hr (fun z => hA ⟨td.mp z.1, z.2⟩ trivial) (fun z => hC (fun y => z ⟨td.mpr y.1, y.2⟩))) (fun g1 r1 hr1 mi hi => ?_)
  have tm : TM g1 A1 ↔ TM g A1 := by unfold TM; rw [hi 167 A1 (by decide)]
  exact n8_222 (d := D + 2) hr1 (fun z => hA ⟨tm.mp z.1, z.2⟩ trivial) (fun z => hC (fun y => z ⟨tm.mpr y.1, y.2⟩))
theorem x8_99 (hJ : J8 g r) {A1 A2 : Int} (D : Nat) : Ce sc (D + 4) 99 [(2, 0), (0, A1), (0, A2)] g r (fun v1 g1 r1 => Ce sc (D + 4) 223 [(2, 165), (0, A1), (0, A2)] g1 r1 fun v2 g2 r2 => v1 = v2 ∧ J8 g2 r2) := by
  have hj := hJ.1.1.1.1.1.1
  have hr := hj.1
  have hci := hj.2.1
  have td := td_tm hJ.1.1.1.1 A1
  have c : g 52 2 = g 165 61 := hJ.1.1.1.1.2.2.2.1
  obtain ⟨j, hA, hB, hC⟩ := ex_j (TM g A1 ∧ 0 ≤ A2 ∧ A2 ≤ 100) (g 52 2 < 30)
  refine p8 j hJ (uu_99 hJ.1 D) (c8_99 (d := D) hr hci.2.2.1.1 (fun z => hA ⟨td.mp z.1, z.2⟩) (fun z => hB ⟨td.mp z.1, z.2⟩) (fun z => hC (fun y => z ⟨td.mpr y.1, y.2⟩))) (fun g1 r1 hr1 mi hi => ?_)
  have tm : TM g1 A1 ↔ TM g A1 := by unfold TM; rw [hi 167 A1 (by decide)]
  rw [c, ← hi 165 61 (by decide)] at hA hB
  exact n8_223 (d := D + 2) hr1 mi (fun z => hA ⟨tm.mp z.1, z.2⟩) (fun z => hB ⟨tm.mp z.1, z.2⟩) (fun z => hC (fun y => z ⟨tm.mpr y.1, y.2⟩))
theorem x8_104 (hJ : J8 g r) {A1 : Int} (D : Nat) : Ce sc (D + 4) 104 [(2, 0), (0, A1)] g r (fun v1 g1 r1 => Ce sc (D + 4) 228 [(2, 165), (0, A1)] g1 r1 fun v2 g2 r2 => v1 = v2 ∧ J8 g2 r2) := by
  have hj := hJ.1.1.1.1.1.1
  have hr := hj.1
  have hci := hj.2.1
  have c : g 55 2 = g 165 64 := hj.2.2.2.2.2.1
  obtain ⟨j, hA, hB, hC⟩ := ex_j (0 ≤ A1 ∧ A1 ≤ 9999) (g 55 2 < 24)
  refine p8 j hJ (uu_104 hJ.1 D) (c8_104 (d := D) hr hci.2.2.2.1.1 hA hB hC) (fun g1 r1 hr1 mi hi => ?_)
  rw [c, ← hi 165 64 (by decide)] at hA hB
  exact n8_228 (d := D + 2) hr1 mi hA hB hC
theorem x8_111 (hJ : J8 g r) {A1 A2 : Int} (D : Nat) : Ce sc (D + 4) 111 [(2, 0), (0, A1), (0, A2)] g r (fun v1 g1 r1 => Ce sc (D + 4) 236 [(2, 165), (0, A1), (0, A2)] g1 r1 fun v2 g2 r2 => v1 = v2 ∧ J8 g2 r2) := by
  have hj := hJ.1.1.1.1.1.1
  have hr := hj.1
  have hci := hj.2.1
  have c : g 58 2 = g 165 66 := hj.2.2.2.2.2.2.2.1
  obtain ⟨j, hA, hB, hC⟩ := ex_j ((2 ≤ A1 ∧ A1 ≤ 40) ∧ 1 ≤ A2 ∧ A2 ≤ 9999) (g 58 2 < 9)
  refine p8 j hJ (uu_111 hJ.1 D) (c8_111 (d := D) hr hci.2.2.2.2.1.1 hA hB hC) (fun g1 r1 hr1 mi hi => ?_)
  rw [c, ← hi 165 66 (by decide)] at hA hB
  exact n8_236 (d := D + 2) hr1 mi hA hB hC
theorem x8_117 (hJ : J8 g r) {A1 A2 : Int} (D : Nat) : Ce sc (D + 4) 117 [(2, 0), (0, A1), (0, A2)] g r (fun v1 g1 r1 => Ce sc (D + 4) 240 [(2, 165), (0, A1), (0, A2)] g1 r1 fun v2 g2 r2 => v1 = v2 ∧ J8 g2 r2) := by
  have hj := hJ.1.1.1.1.1.1
  have hr := hj.1
  have hci := hj.2.1
  have c : g 62 2 = g 165 70 := hj.2.2.2.2.2.2.2.2
  obtain ⟨j, hA, hB, hC⟩ := ex_j ((1 ≤ A1 ∧ A1 ≤ 24) ∧ 1 ≤ A2 ∧ A2 ≤ 999999999) (g 62 2 < 8)
  refine p8 j hJ (uu_117 hJ.1 D) (c8_117 (d := D) hr hci.2.2.2.2.2.1 hA hB hC) (fun g1 r1 hr1 mi hi => ?_)
  rw [c, ← hi 165 70 (by decide)] at hA hB
  exact n8_240 (d := D + 2) hr1 mi hA hB hC
theorem x8_105 (hJ : J8 g r) (D : Nat) : Ce sc (D + 2) 105 [(2, 0)] g r (fun v1 g1 r1 => Ce sc (D + 2) 229 [(2, 165)] g1 r1 fun v2 g2 r2 => v1 = v2 ∧ J8 g2 r2) := by
  have hj := hJ.1.1.1.1.1.1
  have hr := hj.1
  have hci := hj.2.1
  exact p8 (-1) hJ (uu_105 hJ.1 D) (w_105 (d := D) hr hci.2.2.2.1 (fun _ => ⟨hr, fun i k h => up_i (by omega), rs_n (fun q => up_i (by decide))⟩) (fun _ => c8_rf hr)) (fun g1 r1 hr1 mi hi => w_229 (d := D + 1) hr1 mi (fun _ _ => ⟨fun q => up_i (by decide), rs_n (fun q => up_i (by decide))⟩) (fun _ => m8_rf))
theorem x8_120 (hJ : J8 g r) (D : Nat) : Ce sc (D + 4) 120 [(2, 0)] g r (fun v1 g1 r1 => Ce sc (D + 4) 244 [(2, 165)] g1 r1 fun v2 g2 r2 => v1 = v2 ∧ J8 g2 r2) := by
  have hj := hJ.1.1.1.1.1.1
  have hr := hj.1
  have hci := hj.2.1
  have hc7 := hci.2.1
  have ic : g 0 7 = g 165 48 := hJ.1.1.1.2
  by_cases y : g 0 7 < 3
  · refine p8 (-1) hJ (uu_120 hJ.1 D) (f_120 (d := D) hr hci.2.1 (fun q g' fr _ _ => ⟨hr, fun i k h => fr i k (by omega) (by omega), rs_n (fun k => fr 65 k (by omega) (by omega))⟩) (fun z => absurd y z)) (fun g1 r1 hr1 mi hi => ?_)
    rw [ic, ← hi 165 48 (by decide)] at y
    exact f_244 (d := D + 2) hr1 mi (fun q g' fr _ _ _ => ⟨fun k => fr 65 k (by omega) (by omega) (by omega) (by omega), rs_n (fun k => fr 166 k (by omega) (by omega) (by omega) (by omega))⟩) (fun z => absurd y z)
  · refine p8 1 hJ (uu_120 hJ.1 D) (f_120 (d := D) hr hci.2.1 (fun z => absurd z y) (fun _ => ⟨hr, fun i k h => up_i (by omega), rs_b⟩)) (fun g1 r1 hr1 mi hi => ?_)
    rw [ic, ← hi 165 48 (by decide)] at y
    exact f_244 (d := D + 2) hr1 mi (fun z => absurd z y) (fun _ => ⟨fun q => up_i (by decide), rs_b⟩)
theorem x8_121 (hJ : J8 g r) {A1 : Int} (D : Nat) : Ce sc (D + 4) 121 [(2, 0), (0, A1)] g r (fun v1 g1 r1 => Ce sc (D + 4) 245 [(2, 165), (0, A1)] g1 r1 fun v2 g2 r2 => v1 = v2 ∧ J8 g2 r2) := by
  have hj := hJ.1.1.1.1.1.1
  have hr := hj.1
  have hci := hj.2.1
  have hc7 := hci.2.1
  have ic : g 0 7 = g 165 48 := hJ.1.1.1.2
  by_cases y : 0 ≤ A1 ∧ A1 < g 0 7
  · refine p8 (-1) hJ (uu_121 hJ.1 D) (f_121 (d := D) hr hci.2.1 (fun q g' fr _ _ => ⟨hr, fun i k h => fr i k (by omega), rs_n (fun k => fr 65 k (by omega))⟩) (fun z => absurd y z)) (fun g1 r1 hr1 mi hi => ?_)
    rw [ic, ← hi 165 48 (by decide)] at y
    exact f_245 (d := D + 2) hr1 mi (fun q g' fr _ _ => ⟨fun k => fr 65 k (by omega) (by omega) (by omega) (by omega), rs_n (fun k => fr 166 k (by omega) (by omega) (by omega) (by omega))⟩) (fun z => absurd y z)
  · refine p8 0 hJ (uu_121 hJ.1 D) (f_121 (d := D) hr hci.2.1 (fun z => absurd z y) (fun _ => ⟨hr, fun i k h => up_i (by omega), rs_b⟩)) (fun g1 r1 hr1 mi hi => ?_)
    rw [ic, ← hi 165 48 (by decide)] at y
    exact f_245 (d := D + 2) hr1 mi (fun z => absurd z y) (fun _ => ⟨fun q => up_i (by decide), rs_b⟩)
theorem x8_68 (hJ : J8 g r) (D : Nat) : Ce sc (D + 1) 68 [(2, 0)] g r (fun v1 g1 r1 => Ce sc (D + 1) 160 [(2, 165)] g1 r1 fun v2 g2 r2 => v1 = v2 ∧ J8 g2 r2) := by
  have hr := hJ.1.1.1.1.1.1.1
  refine c_68 ⟨okd (by decide +kernel), ?_⟩
  rw [r_0_0 hr]
  exact ⟨okd (by decide +kernel), c_160 ⟨okd (by decide +kernel), hJ.1.1.1.1.1.2.2, hJ⟩⟩
theorem x8_69 (hJ : J8 g r) {A1 A2 : Int} (D : Nat) : Ce sc (D + 4) 69 [(2, 0), (0, A1), (0, A2)] g r (fun v1 g1 r1 => Ce sc (D + 4) 210 [(2, 165), (0, A1), (0, A2)] g1 r1 fun v2 g2 r2 => v1 = v2 ∧ J8 g2 r2) := by
  have hj := hJ.1.1.1.1.1.1
  have hr := hj.1
  have hci := hj.2.1
  exact p8 (-1) hJ (uu_69 hJ.1 D) (t_69r (d := D) hr sqr (fun _ _ e => e.a8 hr)) (fun g1 r1 hr1 mi hi => s_210 (d := D) hr1 mi (fun _ => m8_rf))
theorem x8_81 (hJ : J8 g r) {A1 : Int} (D : Nat) : Ce sc (D + 3) 81 [(2, 0), (0, A1)] g r (fun v1 g1 r1 => Ce sc (D + 3) 194 [(2, 165), (0, A1)] g1 r1 fun v2 g2 r2 => v1 = v2 ∧ J8 g2 r2) := by
  have hj := hJ.1.1.1.1.1.1
  have hr := hj.1
  have hci := hj.2.1
  exact p8 (-1) hJ (uu_81 hJ.1 D) (c8_81 (d := D) hr) (fun g1 r1 hr1 mi hi => s_194 (d := D + 1) hr1 mi (fun _ => m8_rf))
theorem x8_85 (hJ : J8 g r) {A1 A2 : Int} (D : Nat) : Ce sc (D + 3) 85 [(2, 0), (0, A1), (0, A2)] g r (fun v1 g1 r1 => Ce sc (D + 3) 208 [(2, 165), (0, A1), (0, A2)] g1 r1 fun v2 g2 r2 => v1 = v2 ∧ J8 g2 r2) := by
  have hj := hJ.1.1.1.1.1.1
  have hr := hj.1
  have hci := hj.2.1
  obtain ⟨b, hb, cb, mb, zz⟩ := hJ.1.2.1
  exact p8 (-1) hJ (uu_85 hJ.1 D) (f_85 (d := D) hJ.1.1.1.1 cb (fun _ => c8_rf hr) (fun _ => c8_rf hr)) (fun g1 r1 hr1 mi hi => s_208 (d := D + 1) hr1 mi (fun _ => m8_rf))
theorem x8_86 (hJ : J8 g r) {A1 : Int} (D : Nat) : Ce sc (D + 2) 86 [(2, 0), (0, A1)] g r (fun v1 g1 r1 => Ce sc (D + 2) 209 [(2, 165), (0, A1)] g1 r1 fun v2 g2 r2 => v1 = v2 ∧ J8 g2 r2) := by
  have hj := hJ.1.1.1.1.1.1
  have hr := hj.1
  have hci := hj.2.1
  obtain ⟨b, hb, cb, mb, zz⟩ := hJ.1.2.1
  exact p8 (-1) hJ (uu_86 hJ.1 D) (f_86 (d := D) hr cb (c8_rf hr)) (fun g1 r1 hr1 mi hi => s_209 (d := D + 1) hr1 (fun _ => m8_rf))
theorem x8_100 (hJ : J8 g r) {A1 : Int} (D : Nat) : Ce sc (D + 4) 100 [(2, 0), (0, A1)] g r (fun v1 g1 r1 => Ce sc (D + 4) 226 [(2, 165), (0, A1)] g1 r1 fun v2 g2 r2 => v1 = v2 ∧ J8 g2 r2) := by
  have hj := hJ.1.1.1.1.1.1
  have hr := hj.1
  have hci := hj.2.1
  exact p8 (-1) hJ (uu_100 hJ.1 D) (t_100r (d := D) hr sqr cqr hci (fun _ _ e => e.a8 hr)) (fun g1 r1 hr1 mi hi => s_226' (d := D + 2) hr1 mi (fun _ => m8_rf))
theorem x8_103 (hJ : J8 g r) {A1 A2 A3 : Int} (hs2 : rI A2) (hs3 : rI A3) (D : Nat) : Ce sc (D + 3) 103 [(2, 0), (0, A1), (0, A2), (0, A3)] g r (fun v1 g1 r1 => Ce sc (D + 3) 227 [(2, 165), (0, A1), (0, A2), (0, A3)] g1 r1 fun v2 g2 r2 => v1 = v2 ∧ J8 g2 r2) := by
  have hj := hJ.1.1.1.1.1.1
  have hr := hj.1
  have hci := hj.2.1
  exact p8 (-1) hJ (uu_103 hJ.1 hs2 hs3 D) (t_103r (d := D) hr sqr (fun _ _ e => e.a8 hr)) (fun g1 r1 hr1 mi hi => s_227 (d := D + 1) hr1 mi (fun _ => m8_rf))
theorem x8_110 (hJ : J8 g r) {A1 A2 A3 A4 : Int} (h3 : A3 < 2147483648) (D : Nat) : Ce sc (D + 3) 110 [(2, 0), (0, A1), (0, A2), (0, A3), (0, A4)] g r (fun v1 g1 r1 => Ce sc (D + 3) 235 [(2, 165), (0, A1), (0, A2), (0, A3), (0, A4)] g1 r1 fun v2 g2 r2 => v1 = v2 ∧ J8 g2 r2) := by
  have hj := hJ.1.1.1.1.1.1
  have hr := hj.1
  have hci := hj.2.1
  exact p8 (-1) hJ (uu_110 hJ.1 h3 D) (t_110r (d := D) hr sqr h3 (fun _ _ e => e.a8 hr)) (fun g1 r1 hr1 mi hi => s_235 (d := D + 1) hr1 mi (fun _ => m8_rf))
theorem x8_122 (hJ : J8 g r) {A1 : Int} (D : Nat) : Ce sc (D + 4) 122 [(2, 0), (0, A1)] g r (fun v1 g1 r1 => Ce sc (D + 4) 246 [(2, 165), (0, A1)] g1 r1 fun v2 g2 r2 => v1 = v2 ∧ J8 g2 r2) := by
  have hj := hJ.1.1.1.1.1.1
  have hr := hj.1
  have k0 : okr 218 0 8 := okd (by decide +kernel)
  have k1 : okr 218 1 5 := okd (by decide +kernel)
  have k9 : okr 218 165 9 := okd (by decide +kernel)
  have a1 : okr 218 55 3 := okd (by decide +kernel)
  have a2 : okr 218 52 3 := okd (by decide +kernel)
  have a3 : okr 218 58 3 := okd (by decide +kernel)
  have a4 : okr 218 62 3 := okd (by decide +kernel)
  by_cases z0 : A1 = 0
  · rw [z0]
    refine c_122 ⟨by decide, ?_⟩
    rw [if_pos rfl]
    refine ⟨k0, f_131 (d := D) hJ.1.1.1.1 (c_246 ⟨by decide, ?_⟩)⟩
    rw [if_pos rfl]
    exact ⟨k9, s_206 (d := D + 2) hr ⟨rfl, hJ⟩⟩
  by_cases z1 : A1 = 1
  · rw [z1]
    refine c_122 ⟨by decide, ?_⟩
    rw [if_neg (by decide), if_pos rfl]
    rw [r_0_0 hr]
    refine ⟨k0, k1, c_246 ⟨by decide, ?_⟩⟩
    rw [if_neg (by decide), if_pos rfl]
    exact ⟨k9, hj.2.2.2.2.1, hJ⟩
  by_cases z2 : A1 = 2
  · rw [z2]
    refine c_122 ⟨by decide, ?_⟩
    rw [if_neg (by decide), if_neg (by decide), if_pos rfl]
    refine ⟨k0, c_246 ⟨by decide, ?_⟩⟩
    rw [if_neg (by decide), if_neg (by decide), if_pos rfl]
    exact ⟨k9, hJ.1.1.1.2, hJ⟩
  by_cases z3 : A1 = 3
  · rw [z3]
    refine c_122 ⟨by decide, ?_⟩
    rw [if_neg (by decide), if_neg (by decide), if_neg (by decide), if_pos rfl]
    rw [r_0_17 hr]
    refine ⟨k0, i_65.mpr ⟨by decide, by decide⟩, c_246 ⟨by decide, ?_⟩⟩
    rw [if_neg (by decide), if_neg (by decide), if_neg (by decide), if_pos rfl]
    rw [r_165_0 hr, show wr (3 - 3) = 0 by decide]
    exact ⟨k9, i_166.mpr ⟨by decide, by decide⟩, hJ.2 0 (by decide) (by decide), hJ⟩
  by_cases z4 : A1 = 4
  · rw [z4]
    refine c_122 ⟨by decide, ?_⟩
    rw [if_neg (by decide), if_neg (by decide), if_neg (by decide), if_neg (by decide), if_pos rfl]
    rw [r_0_17 hr]
    refine ⟨k0, i_65.mpr ⟨by decide, by decide⟩, c_246 ⟨by decide, ?_⟩⟩
    rw [if_neg (by decide), if_neg (by decide), if_neg (by decide), if_neg (by decide), if_pos rfl]
    rw [r_165_0 hr, show wr (4 - 3) = 1 by decide]
    exact ⟨k9, i_166.mpr ⟨by decide, by decide⟩, hJ.2 1 (by decide) (by decide), hJ⟩
  by_cases z5 : A1 = 5
  · rw [z5]
    refine c_122 ⟨by decide, ?_⟩
    rw [if_neg (by decide), if_neg (by decide), if_neg (by decide), if_neg (by decide), if_neg (by decide), if_pos rfl]
    rw [r_0_17 hr]
    refine ⟨k0, i_65.mpr ⟨by decide, by decide⟩, c_246 ⟨by decide, ?_⟩⟩
    rw [if_neg (by decide), if_neg (by decide), if_neg (by decide), if_neg (by decide), if_neg (by decide), if_pos rfl]
    rw [r_165_0 hr, show wr (5 - 3) = 2 by decide]
    exact ⟨k9, i_166.mpr ⟨by decide, by decide⟩, hJ.2 2 (by decide) (by decide), hJ⟩
  by_cases z6 : A1 = 6
  · rw [z6]
    refine c_122 ⟨by decide, ?_⟩
    rw [if_neg (by decide), if_neg (by decide), if_neg (by decide), if_neg (by decide), if_neg (by decide), if_neg (by decide), if_pos rfl]
    rw [r_0_13 hr]
    refine ⟨k0, a1, c_246 ⟨by decide, ?_⟩⟩
    rw [if_neg (by decide), if_neg (by decide), if_neg (by decide), if_neg (by decide), if_neg (by decide), if_neg (by decide), if_pos rfl]
    exact ⟨k9, hj.2.2.2.2.2.1, hJ⟩
  by_cases z7 : A1 = 7
  · rw [z7]
    refine c_122 ⟨by decide, ?_⟩
    rw [if_neg (by decide), if_neg (by decide), if_neg (by decide), if_neg (by decide), if_neg (by decide), if_neg (by decide), if_neg (by decide), if_pos rfl]
    rw [r_0_12 hr]
    refine ⟨k0, a2, c_246 ⟨by decide, ?_⟩⟩
    rw [if_neg (by decide), if_neg (by decide), if_neg (by decide), if_neg (by decide), if_neg (by decide), if_neg (by decide), if_neg (by decide), if_pos rfl]
    exact ⟨k9, hJ.1.1.1.1.2.2.2.1, hJ⟩
  by_cases z8 : A1 = 8
  · rw [z8]
    refine c_122 ⟨by decide, ?_⟩
    rw [if_neg (by decide), if_neg (by decide), if_neg (by decide), if_neg (by decide), if_neg (by decide), if_neg (by decide), if_neg (by decide), if_neg (by decide), if_pos rfl]
    rw [r_0_14 hr]
    refine ⟨k0, a3, c_246 ⟨by decide, ?_⟩⟩
    rw [if_neg (by decide), if_neg (by decide), if_neg (by decide), if_neg (by decide), if_neg (by decide), if_neg (by decide), if_neg (by decide), if_neg (by decide), if_pos rfl]
    exact ⟨k9, hj.2.2.2.2.2.2.2.1, hJ⟩
  by_cases z9 : A1 = 9
  · rw [z9]
    refine c_122 ⟨by decide, ?_⟩
    rw [if_neg (by decide), if_neg (by decide), if_neg (by decide), if_neg (by decide), if_neg (by decide), if_neg (by decide), if_neg (by decide), if_neg (by decide), if_neg (by decide), if_pos rfl]
    rw [r_0_16 hr]
    refine ⟨k0, a4, c_246 ⟨by decide, ?_⟩⟩
    rw [if_neg (by decide), if_neg (by decide), if_neg (by decide), if_neg (by decide), if_neg (by decide), if_neg (by decide), if_neg (by decide), if_neg (by decide), if_neg (by decide), if_pos rfl]
    exact ⟨k9, hj.2.2.2.2.2.2.2.2, hJ⟩
  refine c_122 ⟨by decide, ?_⟩
  rw [if_neg z0, if_neg z1, if_neg z2, if_neg z3, if_neg z4, if_neg z5, if_neg z6, if_neg z7, if_neg z8, if_neg z9]
  refine c_246 ⟨by decide, ?_⟩
  rw [if_neg z0, if_neg z1, if_neg z2, if_neg z3, if_neg z4, if_neg z5, if_neg z6, if_neg z7, if_neg z8, if_neg z9]
  exact ⟨rfl, hJ⟩
end J8S
