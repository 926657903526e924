/-! shifts: what each takes, which ways hold, which suit all: both sides -/
def cnE (t : Int) : Int := if popm t 6 < 3 then popm t 6 else 3
def vaE (cnt w : Int) : Int := if (0 ≤ w ∧ w ≤ 63) ∧ (2 < cnt ∨ (w % 4 = 0 ∧ (1 < cnt ∨ w / 4 % 4 = 0))) then 1 else 0
def v16 (c : Int) : Int := if 0 < c then (if c = 1 then 4 else 1) else 16
def wyO (w c a : Int) : Int := w - stE3 w c * v16 c + a * v16 c
def naA (Z : Int → Int → Int) (w c : Int) : Nat → Int → Int
  | 0, _ => 1
  | n + 1, a => if Z w c < Z (wyO w c a) c then 0 else naA Z w c n (a + 1)
def naC (Z : Int → Int → Int) (w cnt : Int) : Nat → Int → Int
  | 0, _ => 1
  | n + 1, c => if c < cnt then (if naA Z w c 4 0 = 0 then 0 else naC Z w cnt n (c + 1)) else 1
def eqL (Z : Int → Int → Int) (cnt l3 : Int) : Nat → Int → Int → Int
  | 0, _, k => if l3 = -1 then k else -1
  | n + 1, w, k => if vaE cnt w = 0 then eqL Z cnt l3 n (w + 1) k else if naC Z w cnt 4 0 = 0 then eqL Z cnt l3 n (w + 1) k else if k = l3 then w else eqL Z cnt l3 n (w + 1) (k + 1)
def okC (Z : Int → Int → Int) (w l3 cnt : Int) : Nat → Int → Int
  | 0, _ => 1
  | n + 1, c => if c < cnt then (if Z w c < l3 then 0 else okC Z w l3 cnt n (c + 1)) else 1
def fiL (Z : Int → Int → Int) (cnt l3 : Int) : Nat → Int → Int
  | 0, _ => -1
  | n + 1, w => if vaE cnt w = 0 then fiL Z cnt l3 n (w + 1) else if okC Z w l3 cnt 4 0 = 0 then fiL Z cnt l3 n (w + 1) else w
theorem wy_all : (List.range 64).all (fun w => (List.range 3).all (fun c => (List.range 4).all (fun a => decide (wr (wr ((w : Int) - wr (stE3 (w : Int) (c : Int) * v16 (c : Int))) + wr ((a : Int) * v16 (c : Int))) = wyO (w : Int) (c : Int) (a : Int) ∧ 0 ≤ wyO (w : Int) (c : Int) (a : Int) ∧ wyO (w : Int) (c : Int) (a : Int) ≤ 63 ∧ ((c : Int) < 1 → vaE 1 (w : Int) = 1 → vaE 1 (wyO (w : Int) (c : Int) (a : Int)) = 1) ∧ ((c : Int) < 2 → vaE 2 (w : Int) = 1 → vaE 2 (wyO (w : Int) (c : Int) (a : Int)) = 1) ∧ (vaE 3 (w : Int) = 1 → vaE 3 (wyO (w : Int) (c : Int) (a : Int)) = 1))))) = true := by decide +kernel
theorem wy_at {w c a : Int} (w0 : 0 ≤ w) (w6 : w ≤ 63) (c0 : 0 ≤ c) (c3 : c < 3) (a0 : 0 ≤ a) (a4 : a < 4) : wr (wr (w - wr (stE3 w c * v16 c)) + wr (a * v16 c)) = wyO w c a ∧ (0 ≤ wyO w c a ∧ wyO w c a ≤ 63) ∧ ∀ cnt, 1 ≤ cnt → cnt ≤ 3 → c < cnt → vaE cnt w = 1 → vaE cnt (wyO w c a) = 1 := by
  have k := of_decide_eq_true (List.all_eq_true.mp (List.all_eq_true.mp (List.all_eq_true.mp wy_all w.toNat (List.mem_range.mpr (by omega))) c.toNat (List.mem_range.mpr (by omega))) a.toNat (List.mem_range.mpr (by omega)))
  rw [Int.toNat_of_nonneg w0, Int.toNat_of_nonneg c0, Int.toNat_of_nonneg a0] at k
  refine ⟨k.1, ⟨k.2.1, k.2.2.1⟩, fun cnt n1 n3 cc v => ?_⟩
  have e : cnt = 1 ∨ cnt = 2 ∨ cnt = 3 := by omega
  rcases e with rfl | rfl | rfl
  · exact k.2.2.2.1 cc v
  · exact k.2.2.2.2.1 cc v
  · exact k.2.2.2.2.2 v
theorem va_1 {cnt w : Int} (h : ¬ vaE cnt w = 0) : vaE cnt w = 1 ∧ 0 ≤ w ∧ w ≤ 63 := by
  unfold vaE at h ⊢
  split at h
  · next q => rw [if_pos q]; exact ⟨rfl, q.1⟩
  · exact absurd rfl h
/-- the table of ways -/
def TBW (A : Int) (Z : Int → Int → Int) (cnt lim : Int) (g : GH) : Prop := ∀ w c, 0 ≤ w → w < lim → vaE cnt w = 1 → 0 ≤ c → c < cnt → g A (3 * w + c) = Z w c
section SHF6
variable {sc : SCR} {d : Nat} {Q : QJ} {g r b gp : GH} {mm : Int → GH} {Z : Int → Int → Int} {l0 l1 l2 l3 l4 l5 x s p a n m v w k t len opn on cnt : Int}
theorem cn_b (t0 : 0 ≤ t) (t6 : t < 64) : 0 ≤ cnE t ∧ cnE t ≤ 3 := by
  have a := pop_le2 (t := t) (m := 0) (j := 6) t0 t6 (by decide) (by decide)
  have z : popm t 0 = 0 := rfl
  unfold cnE
  split <;> omega
theorem f_131c (hr : RI r) (hc : COK gp mm r g) (hq : Q (tolP gp 6) g r) : Ce sc (d + 3) 131 [(2, 0)] g r Q := by
  have k0 : okr 218 0 8 := okd (by decide +kernel)
  have loop : ∀ (n : Nat) (k : Int), 0 ≤ k → k + n = 6 → WQ sc (d + 2) 131 Q 4 [(2, 0), (0, tolP gp k.toNat), (0, k)] [] g r := by
    intro n
    induction n with
    | zero =>
      intro k k0' e
      have ek : k = 6 := by omega
      subst ek
      exact b_131_4 (ite_c (fun z => absurd z (by decide)) (fun _ => hq))
    | succ n ih =>
      intro k k0' e
      have nx := ih (k + 1) (by omega) (by omega)
      have tb := tolP_b gp k.toNat
      rw [tolP_s gp k0'] at nx
      refine b_131_4 (ite_c (fun _ => ⟨k0, w_129 hr (fun t => ?_) (fun t => ?_)⟩) (fun z => absurd (by omega) z))
      · have tm := (ck_t hr hc k).mp t
        rw [if_neg (mo_ne (hr.2.1 k t.1 t.2.1)), wr_id (x := k + 1) ⟨by omega, by omega⟩, wr_id (x := tolP gp k.toNat + 1) ⟨by omega, by omega⟩]
        rw [if_neg tm.2.2] at nx
        exact nx
      · have z : gp 167 k = 0 := Decidable.byContradiction fun y => t ((ck_t hr hc k).mpr ⟨k0', by omega, y⟩)
        rw [if_pos rfl, wr_id (x := k + 1) ⟨by omega, by omega⟩, wr_id (x := tolP gp k.toNat + 0) ⟨by omega, by omega⟩]
        rw [if_pos z] at nx
        rw [show tolP gp k.toNat + 0 = tolP gp k.toNat by omega] at nx ⊢
        exact nx
  exact c_131 (loop 6 0 (by decide) (by decide))
theorem f_91 (hr : RI r) (hc : COK gp mm r g) (hq : Q (cnE (tbE gp)) g r) : Ce sc (d + 4) 91 [(2, 0)] g r Q := by
  have k0 : okr 218 0 8 := okd (by decide +kernel)
  unfold cnE at hq
  rw [← tol_pop gp] at hq
  refine c_91 ⟨k0, f_131c (d := d) hr hc (w_250 (fun z => ?_) (fun z => ?_))⟩
  · rw [if_neg (by omega)] at hq; exact hq
  · by_cases y : tolP gp 6 < 3
    · rw [if_pos y] at hq; exact hq
    · rw [if_neg y] at hq
      rw [show tolP gp 6 = 3 by omega]; exact hq
theorem f_93 (hq : Q (v16 l0) g r) : Ce sc (d + 1) 93 [(0, l0)] g r Q := by
  unfold v16 at hq
  refine c_93 (ite_c (fun z => ite_c (fun y => ?_) (fun y => ?_)) (fun z => ?_))
  · rw [if_pos z, if_pos y] at hq; exact hq
  · rw [if_pos z, if_neg y] at hq; exact hq
  · rw [if_neg z] at hq; exact hq
theorem f_92 (hr : RI r) (hc : COK gp mm r g) (hq : Q (vaE (cnE (tbE gp)) l1) g r) : Ce sc (d + 5) 92 [(2, 0), (0, l1)] g r Q := by
  have k0 : okr 218 0 8 := okd (by decide +kernel)
  have cb := cn_b (tb_b gp).1 (tb_b gp).2
  unfold vaE at hq
  refine c_92 (w_123 (fun a c => ?_) (fun q => ?_))
  · rw [if_neg (by decide)]
    refine ⟨k0, f_91 (d := d) hr hc ?_⟩
    rw [wr_id (x := cnE (tbE gp) - 1) ⟨by omega, by omega⟩]
    refine f_93 (d := d + 3) ?_
    unfold v16
    by_cases z : 0 < cnE (tbE gp) - 1
    · rw [if_pos z]
      by_cases y : cnE (tbE gp) - 1 = 1
      · rw [if_pos y, Int.tmod_eq_emod_of_nonneg a]
        refine ⟨by decide, ite_c (fun x => ⟨Or.inr rfl, ?_⟩) (fun x => ⟨Or.inl rfl, ?_⟩)⟩
        · rw [if_pos ⟨⟨a, c⟩, Or.inr ⟨x, Or.inl (by omega)⟩⟩] at hq; exact hq
        · rw [if_neg (fun q => by have := q.2; omega)] at hq; exact hq
      · rw [if_neg y, Int.tmod_eq_emod_of_nonneg a]
        refine ⟨by decide, ite_c (fun x => ⟨Or.inr rfl, ?_⟩) (fun x => absurd (by omega) x)⟩
        rw [if_pos ⟨⟨a, c⟩, Or.inl (by omega)⟩] at hq; exact hq
    · rw [if_neg z, Int.tmod_eq_emod_of_nonneg a]
      refine ⟨by decide, ite_c (fun x => ⟨Or.inr rfl, ?_⟩) (fun x => ⟨Or.inl rfl, ?_⟩)⟩
      · rw [if_pos ⟨⟨a, c⟩, Or.inr ⟨by omega, Or.inr (by omega)⟩⟩] at hq; exact hq
      · rw [if_neg (fun q => by have := q.2; omega)] at hq; exact hq
  · rw [if_pos rfl]
    rw [if_neg (fun z => q z.1)] at hq
    exact ⟨Or.inl rfl, hq⟩
theorem f_213 (hr : RI r) (hk : EQK gp g) (hq : Q (cnE (tbE gp)) g r) : Ce sc (d + 2) 213 [(2, 165)] g r Q := by
  have e : tolP g 6 = tolP gp 6 := by
    have h : ∀ n : Nat, tolP g n = tolP gp n := fun n => by
      induction n with
      | zero => rfl
      | succ n ih =>
        show tolP g n + (if g 167 n = 0 then 0 else 1) = tolP gp n + (if gp 167 n = 0 then 0 else 1)
        rw [ih, hk 167 _ (Or.inl rfl)]
    exact h 6
  unfold cnE at hq
  rw [← tol_pop gp, ← e] at hq
  exact s_213 hr hq
theorem f_215 (hr : RI r) (hk : EQK gp g) (hq : Q (vaE (cnE (tbE gp)) l1) g r) : Ce sc (d + 3) 215 [(2, 165), (0, l1)] g r Q := by
  have k9 : okr 218 165 9 := okd (by decide +kernel)
  unfold vaE at hq
  refine c_215 (w_137 (fun a c => ?_) (fun q => ?_))
  · have wm : wr (l1.tdiv 4) = l1 / 4 := by rw [Int.tdiv_eq_ediv_of_nonneg a, wr_id ⟨by omega, by omega⟩]
    rw [if_neg (by decide), wm, Int.tmod_eq_emod_of_nonneg a, Int.tmod_eq_emod_of_nonneg (show 0 ≤ l1 / 4 by omega)]
    refine ⟨k9, f_213 (d := d) hr hk (ite_c (fun z => ⟨k9, f_213 (d := d) hr hk (ite_c (fun _ => ⟨Or.inr rfl, ?_⟩) (fun y => absurd (by omega) y))⟩) (fun z => ⟨by decide, ite_c (fun y => ⟨k9, f_213 (d := d) hr hk (ite_c (fun x => ⟨Or.inr rfl, ?_⟩) (fun x => ⟨by decide, by decide, ite_c (fun u => ⟨Or.inr rfl, ?_⟩) (fun u => ⟨Or.inl rfl, ?_⟩)⟩))⟩) (fun y => ⟨Or.inl rfl, ?_⟩)⟩))⟩
    · rw [if_pos ⟨⟨a, c⟩, Or.inl z⟩] at hq; exact hq
    · rw [if_pos ⟨⟨a, c⟩, Or.inr ⟨y, Or.inl x⟩⟩] at hq; exact hq
    · rw [if_pos ⟨⟨a, c⟩, Or.inr ⟨y, Or.inr u⟩⟩] at hq; exact hq
    · rw [if_neg (fun q => by have := q.2; omega)] at hq; exact hq
    · rw [if_neg (fun q => by have := q.2; omega)] at hq; exact hq
  · rw [if_pos rfl]
    rw [if_neg (fun z => q z.1)] at hq
    exact ⟨Or.inl rfl, hq⟩
theorem f_96 (hr : RI r) (w0 : 0 ≤ l1) (w6 : l1 ≤ 63) (c0 : 0 ≤ l2) (c3 : l2 < 3) (hq : Q (g 50 (3 * l1 + l2)) g r) : Ce sc (d + 2) 96 [(2, 0), (0, l1), (0, l2)] g r Q := by
  have k0 : okr 218 0 8 := okd (by decide +kernel)
  have iw : wr (wr (l1 * 3) + l2) = 3 * l1 + l2 := by rw [wr_id (x := l1 * 3) ⟨by omega, by omega⟩, wr_id (x := l1 * 3 + l2) ⟨by omega, by omega⟩]; omega
  refine c_96 ?_
  rw [iw, r_0_10 hr, n_50, show wr (192 - 1) = 191 by decide]
  refine ⟨k0, by decide +kernel, w_123 (fun _ _ => ?_) (fun z => absurd ⟨by omega, by omega⟩ z)⟩
  rw [if_neg (by decide), r_0_10 hr]
  exact ⟨k0, i_50.mpr ⟨by omega, by omega⟩, hq⟩
/-- no one has a reason to go another way: the class -/
theorem f_97 (hr : RI r) (hc : COK gp mm r g) (tw : TBW 50 Z (cnE (tbE gp)) 64 g) (va : vaE (cnE (tbE gp)) l1 = 1) (w0 : 0 ≤ l1) (w6 : l1 ≤ 63) (hq : Q (naC Z l1 (cnE (tbE gp)) 4 0) g r) : Ce sc (d + 5) 97 [(2, 0), (0, l1)] g r Q := by
  have k0 : okr 218 0 8 := okd (by decide +kernel)
  have cb := cn_b (tb_b gp).1 (tb_b gp).2
  have outer : ∀ (n : Nat) (c : Int), 0 ≤ c → c + n = 4 → naC Z l1 (cnE (tbE gp)) n c = naC Z l1 (cnE (tbE gp)) 4 0 → WQ sc (d + 4) 97 Q 7 [(2, 0), (0, l1), (0, cnE (tbE gp)), (0, c), (9, 0), (9, 0), (9, 0)] [] g r := by
    intro n
    induction n with
    | zero =>
      intro c c0 e es
      have es' : 1 = naC Z l1 (cnE (tbE gp)) 4 0 := es
      refine b_97_7 (ite_c (fun z => absurd z (by omega)) (fun _ => ⟨Or.inr rfl, ?_⟩))
      rw [es']; exact hq
    | succ n ih =>
      intro c c0 e es
      have es' : (if c < cnE (tbE gp) then (if naA Z l1 c 4 0 = 0 then 0 else naC Z l1 (cnE (tbE gp)) n (c + 1)) else 1) = naC Z l1 (cnE (tbE gp)) 4 0 := es
      refine b_97_7 (ite_c (fun z => ?_) (fun z => ⟨Or.inr rfl, ?_⟩))
      · rw [if_pos z] at es'
        have inner : ∀ (n' : Nat) (a : Int), 0 ≤ a → a + n' = 4 → naA Z l1 c n' a = naA Z l1 c 4 0 → WQ sc (d + 4) 97 Q 33 [(2, 0), (0, l1), (0, cnE (tbE gp)), (0, c), (0, v16 c), (0, wr (l1 - wr (stE3 l1 c * v16 c))), (0, a)] [] g r := by
          intro n'
          induction n' with
          | zero =>
            intro a a0 ea ea'
            have ea2 : 1 = naA Z l1 c 4 0 := ea'
            refine b_97_33 (ite_c (fun y => absurd y (by omega)) (fun _ => ?_))
            rw [wr_id (x := c + 1) ⟨by omega, by omega⟩]
            rw [← ea2, if_neg (by decide)] at es'
            exact ih (c + 1) (by omega) (by omega) es'
          | succ n' ih' =>
            intro a a0 ea ea'
            have ea2 : (if Z l1 c < Z (wyO l1 c a) c then 0 else naA Z l1 c n' (a + 1)) = naA Z l1 c 4 0 := ea'
            have wy := wy_at w0 w6 c0 (by omega) a0 (by omega)
            refine b_97_33 (ite_c (fun _ => ⟨k0, ?_⟩) (fun y => absurd (by omega) y))
            rw [wy.1]
            refine f_96 (d := d + 2) hr wy.2.1.1 wy.2.1.2 c0 (by omega) ⟨k0, f_96 (d := d + 2) hr w0 w6 c0 (by omega) ?_⟩
            rw [tw _ c wy.2.1.1 (by omega) (wy.2.2 _ (by omega) cb.2 z va) c0 z, tw l1 c w0 (by omega) va c0 z, wr_id (x := a + 1) ⟨by omega, by omega⟩]
            refine ite_c (fun y => ⟨Or.inl rfl, ?_⟩) (fun y => ?_)
            · rw [if_pos (cmp_gt.mp y)] at ea2
              rw [← ea2, if_pos rfl] at es'
              rw [es']; exact hq
            · rw [if_neg (fun q => y (cmp_gt.mpr q))] at ea2
              exact ih' (a + 1) (by omega) (by omega) ea2
        refine f_93 (d := d + 3) (f_94 (d := d + 2) w0 (by omega) c0 (by omega) ?_)
        exact inner 4 0 (by decide) (by decide) rfl
      · rw [if_neg z] at es'
        rw [es']; exact hq
  exact c_97 ⟨k0, f_91 (d := d) hr hc (outer 4 0 (by decide) (by decide) rfl)⟩
/-- the same, the reference -/
theorem f_219 (hr : RI r) (hk : EQK gp g) (tw : TBW 208 Z (cnE (tbE gp)) 64 g) (va : vaE (cnE (tbE gp)) l1 = 1) (w0 : 0 ≤ l1) (w6 : l1 ≤ 63) (hq : Q (naC Z l1 (cnE (tbE gp)) 4 0) g r) : Ce sc (d + 3) 219 [(2, 165), (0, l1)] g r Q := by
  have k9 : okr 218 165 9 := okd (by decide +kernel)
  have cb := cn_b (tb_b gp).1 (tb_b gp).2
  have outer : ∀ (n : Nat) (c : Int), 0 ≤ c → c + n = 4 → naC Z l1 (cnE (tbE gp)) n c = naC Z l1 (cnE (tbE gp)) 4 0 → WQ sc (d + 2) 219 Q 2 [(2, 165), (0, l1), (0, c), (9, 0), (9, 0), (9, 0)] [] g r := by
    intro n
    induction n with
    | zero =>
      intro c c0 e es
      have es' : 1 = naC Z l1 (cnE (tbE gp)) 4 0 := es
      refine b_219_2 ⟨k9, f_213 (d := d) hr hk (ite_c (fun z => absurd z (by omega)) (fun _ => ⟨Or.inr rfl, ?_⟩))⟩
      rw [es']; exact hq
    | succ n ih =>
      intro c c0 e es
      have es' : (if c < cnE (tbE gp) then (if naA Z l1 c 4 0 = 0 then 0 else naC Z l1 (cnE (tbE gp)) n (c + 1)) else 1) = naC Z l1 (cnE (tbE gp)) 4 0 := es
      refine b_219_2 ⟨k9, f_213 (d := d) hr hk (ite_c (fun z => ?_) (fun z => ⟨Or.inr rfl, ?_⟩))⟩
      · rw [if_pos z] at es'
        have inner : ∀ (n' : Nat) (a : Int), 0 ≤ a → a + n' = 4 → naA Z l1 c n' a = naA Z l1 c 4 0 → WQ sc (d + 2) 219 Q 44 [(2, 165), (0, l1), (0, c), (0, v16 c), (0, wr (l1 - wr (stE3 l1 c * v16 c))), (0, a)] [] g r := by
          intro n'
          induction n' with
          | zero =>
            intro a a0 ea ea'
            have ea2 : 1 = naA Z l1 c 4 0 := ea'
            refine b_219_44 (ite_c (fun y => absurd y (by omega)) (fun _ => ?_))
            rw [wr_id (x := c + 1) ⟨by omega, by omega⟩]
            rw [← ea2, if_neg (by decide)] at es'
            exact ih (c + 1) (by omega) (by omega) es'
          | succ n' ih' =>
            intro a a0 ea ea'
            have ea2 : (if Z l1 c < Z (wyO l1 c a) c then 0 else naA Z l1 c n' (a + 1)) = naA Z l1 c 4 0 := ea'
            have wy := wy_at w0 w6 c0 (by omega) a0 (by omega)
            have wb := wy.2.1
            refine b_219_44 (ite_c (fun _ => ?_) (fun y => absurd (by omega) y))
            rw [wy.1, r_165_60 hr, wr_id (x := 3 * wyO l1 c a) ⟨by omega, by omega⟩, wr_id (x := 3 * wyO l1 c a + c) ⟨by omega, by omega⟩, wr_id (x := 3 * l1) ⟨by omega, by omega⟩, wr_id (x := 3 * l1 + c) ⟨by omega, by omega⟩, tw _ c wb.1 (by omega) (wy.2.2 _ (by omega) cb.2 z va) c0 z, tw l1 c w0 (by omega) va c0 z, wr_id (x := a + 1) ⟨by omega, by omega⟩]
            refine ⟨k9, i_208.mpr ⟨by omega, by omega⟩, k9, i_208.mpr ⟨by omega, by omega⟩, ite_c (fun y => ⟨Or.inl rfl, ?_⟩) (fun y => ?_)⟩
            · rw [if_pos (cmp_gt.mp y)] at ea2
              rw [← ea2, if_pos rfl] at es'
              rw [es']; exact hq
            · rw [if_neg (fun q => y (cmp_gt.mpr q))] at ea2
              exact ih' (a + 1) (by omega) (by omega) ea2
        have go := inner 4 0 (by decide) (by decide) rfl
        have e3 : c = 0 ∨ c = 1 ∨ c = 2 := by omega
        rcases e3 with rfl | rfl | rfl
        · have st := (st_at w0 (by omega) (show (0 : Int) ≤ 0 by decide) (by decide)).2.2.2
          rw [if_neg (by decide)] at st
          refine ite_c (fun _ => ⟨by decide, by decide, ?_⟩) (fun y => absurd rfl y)
          rw [st]; exact go
        · have st := (st_at w0 (by omega) (show (0 : Int) ≤ 1 by decide) (by decide)).2.2.2
          rw [if_pos (by decide), if_pos rfl] at st
          refine ite_c (fun y => absurd y (by decide)) (fun _ => ite_c (fun _ => ⟨by decide, by decide, ?_⟩) (fun y => absurd rfl y))
          rw [st]; exact go
        · have st := (st_at w0 (by omega) (show (0 : Int) ≤ 2 by decide) (by decide)).2.2.2
          rw [if_pos (by decide), if_neg (by decide)] at st
          refine ite_c (fun y => absurd y (by decide)) (fun _ => ite_c (fun y => absurd y (by decide)) (fun _ => ⟨by decide, by decide, ?_⟩))
          rw [st]; exact go
      · rw [if_neg z] at es'
        rw [es']; exact hq
  exact c_219 (outer 4 0 (by decide) (by decide) rfl)
end SHF6
