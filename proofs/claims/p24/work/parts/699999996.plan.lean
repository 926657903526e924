/-! plans of ways: pure numbers, and both sides -/
def bitE (t m : Int) : Int := i_and (i_shr t m) 1
def tkE (g : GH) (k : Int) : Int := if g 167 k = 0 then 0 else 1
/-- the mills told as a number -/
def tbE (g : GH) : Int := tkE g 0 + 2 * tkE g 1 + 4 * tkE g 2 + 8 * tkE g 3 + 16 * tkE g 4 + 32 * tkE g 5
def mkL (t : Int) : Nat → Int → Int → Int → Int
  | 0, _, s, _ => s
  | n + 1, m, s, c => if c < 3 then (if bitE t m = 0 then mkL t n (m + 1) s c else mkL t n (m + 1) (i_or s (i_shl 1 m)) (c + 1)) else s
/-- the first three of them -/
def mkE (t : Int) : Int := mkL t 6 0 0 0
/-- the mill of rank c -/
def mrE (t c : Int) : Int := if bitE t 0 = 1 ∧ popm t 0 = c then 0 else if bitE t 1 = 1 ∧ popm t 1 = c then 1 else if bitE t 2 = 1 ∧ popm t 2 = c then 2 else if bitE t 3 = 1 ∧ popm t 3 = c then 3 else if bitE t 4 = 1 ∧ popm t 4 = c then 4 else 5
def stE3 (w c : Int) : Int := if c = 0 then w / 16 % 4 else if c = 1 then w / 4 % 4 else w % 4
def PSE (t len opn w : Int) : Int → Int → Int := fun m h => if bitE t m = 1 ∧ popm t m.toNat < 3 then (if (h - 6 * stE3 w (popm t m.toNat)) % 24 < len then opn else 0) else -1
theorem bit_all : (List.range 64).all (fun t => (List.range 6).all (fun m => decide (bitE (t : Int) (m : Int) = (t : Int) / 2 ^ m % 2))) = true := by decide +kernel
theorem mk_all : (List.range 64).all (fun t => (List.range 6).all (fun m => decide ((bitE (t : Int) (m : Int) = 1 ∧ popm (t : Int) m < 3 → bitE (mkE (t : Int)) (m : Int) = 1 ∧ popm (mkE (t : Int)) m = popm (t : Int) m ∧ mrE (t : Int) (popm (t : Int) m) = (m : Int)) ∧ (¬ (bitE (t : Int) (m : Int) = 1 ∧ popm (t : Int) m < 3) → bitE (mkE (t : Int)) (m : Int) = 0) ∧ (0 ≤ popm (t : Int) m ∧ popm (t : Int) m ≤ (m : Int)) ∧ popm (t : Int) (m + 1) = popm (t : Int) m + bitE (t : Int) (m : Int)))) = true := by decide +kernel
theorem mr_all : (List.range 64).all (fun t => (List.range 3).all (fun c => decide ((c : Int) < popm (t : Int) 6 → bitE (t : Int) (mrE (t : Int) (c : Int)) = 1 ∧ popm (t : Int) (mrE (t : Int) (c : Int)).toNat = (c : Int) ∧ 0 ≤ mrE (t : Int) (c : Int) ∧ mrE (t : Int) (c : Int) < 6))) = true := by decide +kernel
theorem st_all : (List.range 64).all (fun w => (List.range 3).all (fun c => decide (i_and (i_shr (w : Int) (wr (2 * (wr (2 - (c : Int)))))) 3 = stE3 (w : Int) (c : Int) ∧ 0 ≤ stE3 (w : Int) (c : Int) ∧ stE3 (w : Int) (c : Int) ≤ 3 ∧ (wr ((w : Int).tdiv (if 0 < (c : Int) then (if (c : Int) = 1 then 4 else 1) else 16))).tmod 4 = stE3 (w : Int) (c : Int)))) = true := by decide +kernel
theorem bit_at {t m : Int} (t0 : 0 ≤ t) (t6 : t < 64) (m0 : 0 ≤ m) (m6 : m < 6) : bitE t m = t / 2 ^ m.toNat % 2 := by
  have h := of_decide_eq_true (List.all_eq_true.mp (List.all_eq_true.mp bit_all t.toNat (List.mem_range.mpr (by omega))) m.toNat (List.mem_range.mpr (by omega)))
  rw [Int.toNat_of_nonneg t0, Int.toNat_of_nonneg m0] at h
  exact h
theorem mk_at {t m : Int} (t0 : 0 ≤ t) (t6 : t < 64) (m0 : 0 ≤ m) (m6 : m < 6) : (bitE t m = 1 ∧ popm t m.toNat < 3 → bitE (mkE t) m = 1 ∧ popm (mkE t) m.toNat = popm t m.toNat ∧ mrE t (popm t m.toNat) = m) ∧ (¬ (bitE t m = 1 ∧ popm t m.toNat < 3) → bitE (mkE t) m = 0) ∧ (0 ≤ popm t m.toNat ∧ popm t m.toNat ≤ m) ∧ popm t (m.toNat + 1) = popm t m.toNat + bitE t m := by
  have h := of_decide_eq_true (List.all_eq_true.mp (List.all_eq_true.mp mk_all t.toNat (List.mem_range.mpr (by omega))) m.toNat (List.mem_range.mpr (by omega)))
  rw [Int.toNat_of_nonneg t0, Int.toNat_of_nonneg m0] at h
  exact h
theorem mr_at {t c : Int} (t0 : 0 ≤ t) (t6 : t < 64) (c0 : 0 ≤ c) (c3 : c < 3) (h : c < popm t 6) : bitE t (mrE t c) = 1 ∧ popm t (mrE t c).toNat = c ∧ 0 ≤ mrE t c ∧ mrE t c < 6 := by
  have k := of_decide_eq_true (List.all_eq_true.mp (List.all_eq_true.mp mr_all t.toNat (List.mem_range.mpr (by omega))) c.toNat (List.mem_range.mpr (by omega)))
  rw [Int.toNat_of_nonneg t0, Int.toNat_of_nonneg c0] at k
  exact k h
theorem st_at {w c : Int} (w0 : 0 ≤ w) (w6 : w < 64) (c0 : 0 ≤ c) (c3 : c < 3) : i_and (i_shr w (wr (2 * (wr (2 - c))))) 3 = stE3 w c ∧ 0 ≤ stE3 w c ∧ stE3 w c ≤ 3 ∧ (wr (w.tdiv (if 0 < c then (if c = 1 then 4 else 1) else 16))).tmod 4 = stE3 w c := by
  have k := of_decide_eq_true (List.all_eq_true.mp (List.all_eq_true.mp st_all w.toNat (List.mem_range.mpr (by omega))) c.toNat (List.mem_range.mpr (by omega)))
  rw [Int.toNat_of_nonneg w0, Int.toNat_of_nonneg c0] at k
  exact k
theorem tk_b (g : GH) (k : Int) : (tkE g k = 0 ∨ tkE g k = 1) ∧ (tkE g k = 0 ↔ g 167 k = 0) := by
  unfold tkE
  by_cases z : g 167 k = 0
  · rw [if_pos z]; exact ⟨Or.inl rfl, ⟨fun _ => z, fun _ => rfl⟩⟩
  · rw [if_neg z]; exact ⟨Or.inr rfl, ⟨fun y => absurd y (by decide), fun y => absurd y z⟩⟩
theorem tb_b (g : GH) : 0 ≤ tbE g ∧ tbE g < 64 := by
  have b0 := (tk_b g 0).1
  have b1 := (tk_b g 1).1
  have b2 := (tk_b g 2).1
  have b3 := (tk_b g 3).1
  have b4 := (tk_b g 4).1
  have b5 := (tk_b g 5).1
  unfold tbE
  omega
theorem tb_bit (g : GH) {m : Int} (m0 : 0 ≤ m) (m6 : m < 6) : bitE (tbE g) m = tkE g m := by
  have b0 := (tk_b g 0).1
  have b1 := (tk_b g 1).1
  have b2 := (tk_b g 2).1
  have b3 := (tk_b g 3).1
  have b4 := (tk_b g 4).1
  have b5 := (tk_b g 5).1
  rw [bit_at (tb_b g).1 (tb_b g).2 m0 m6]
  have e : m = 0 ∨ m = 1 ∨ m = 2 ∨ m = 3 ∨ m = 4 ∨ m = 5 := by omega
  unfold tbE
  rcases e with rfl | rfl | rfl | rfl | rfl | rfl
  · show (tkE g 0 + 2 * tkE g 1 + 4 * tkE g 2 + 8 * tkE g 3 + 16 * tkE g 4 + 32 * tkE g 5) / 1 % 2 = _
    omega
  · show (tkE g 0 + 2 * tkE g 1 + 4 * tkE g 2 + 8 * tkE g 3 + 16 * tkE g 4 + 32 * tkE g 5) / 2 % 2 = _
    omega
  · show (tkE g 0 + 2 * tkE g 1 + 4 * tkE g 2 + 8 * tkE g 3 + 16 * tkE g 4 + 32 * tkE g 5) / 4 % 2 = _
    omega
  · show (tkE g 0 + 2 * tkE g 1 + 4 * tkE g 2 + 8 * tkE g 3 + 16 * tkE g 4 + 32 * tkE g 5) / 8 % 2 = _
    omega
  · show (tkE g 0 + 2 * tkE g 1 + 4 * tkE g 2 + 8 * tkE g 3 + 16 * tkE g 4 + 32 * tkE g 5) / 16 % 2 = _
    omega
  · show (tkE g 0 + 2 * tkE g 1 + 4 * tkE g 2 + 8 * tkE g 3 + 16 * tkE g 4 + 32 * tkE g 5) / 32 % 2 = _
    omega
theorem tb_0 (g : GH) {m : Int} (m0 : 0 ≤ m) (m6 : m < 6) : bitE (tbE g) m = 0 ↔ g 167 m = 0 := by rw [tb_bit g m0 m6]; exact (tk_b g m).2
theorem tb_1 (g : GH) {m : Int} (m0 : 0 ≤ m) (m6 : m < 6) : bitE (tbE g) m = 1 ↔ g 167 m ≠ 0 := by
  have h := tk_b g m
  rw [tb_bit g m0 m6]
  exact ⟨fun a b => by rw [h.2.mpr b] at a; exact absurd a (by decide), fun a => h.1.resolve_left (fun z => a (h.2.mp z))⟩
theorem tol_pop (g : GH) : tolP g 6 = popm (tbE g) 6 := by
  have tb := tb_b g
  have h : ∀ n : Nat, n ≤ 6 → tolP g n = popm (tbE g) n := fun n => by
    induction n with
    | zero => intro _; rfl
    | succ n ih =>
      intro a
      have k := (mk_at (m := (n : Int)) tb.1 tb.2 (by omega) (by omega)).2.2.2
      rw [Int.toNat_natCast] at k
      rw [k, tb_bit g (by omega) (by omega), ← ih (by omega)]
      rfl
  exact h 6 (Nat.le_refl 6)
theorem ps_o {t len opn w : Int} (o0 : 0 ≤ opn) (o9 : opn ≤ 999) : PLO (PSE t len opn w) := fun m h => by
  unfold PSE
  split
  · split
    · exact Or.inr ⟨o0, o9⟩
    · exact Or.inr ⟨by decide, by decide⟩
  · exact Or.inl rfl
section PLN
variable {sc : SCR} {d : Nat} {Q : QJ} {g r b gp : GH} {mm : Int → GH} {l0 l1 l2 l3 l4 l5 x s p a n m v w k t len opn : Int}
theorem plc_ps (t0 : 0 ≤ t) (t6 : t < 64) (w0 : 0 ≤ w) (w6 : w < 64) (o0 : 0 ≤ opn) (h49 : ∀ m, 0 ≤ m → m < 6 → g 49 m = if bitE t m = 1 ∧ popm t m.toNat < 3 then 6 * stE3 w (popm t m.toNat) else -1) (h1 : g 48 1 = len) (h2 : g 48 2 = opn) : PLC 48 g (PSE t len opn w) := fun m h m0 m6 _ _ => by
  have e := h49 m m0 m6
  have pb := (mk_at t0 t6 m0 m6).2.2.1
  show (g 49 m = -1 → _) ∧ (g 49 m ≠ -1 → 0 ≤ g 49 m ∧ g 49 m ≤ 18 ∧ _)
  unfold PSE
  by_cases z : bitE t m = 1 ∧ popm t m.toNat < 3
  · have sb := st_at w0 w6 pb.1 z.2
    rw [if_pos z] at e
    rw [if_pos z, e, h1, h2]
    have e2 : g (48 + 1) m = 6 * stE3 w (popm t m.toNat) := e
    exact ⟨fun y => absurd y (by omega), fun _ => ⟨by omega, by omega, o0, by rw [e2]⟩⟩
  · rw [if_neg z] at e
    rw [if_neg z]
    exact ⟨fun _ => rfl, fun y => absurd e y⟩
theorem plm_ps (t0 : 0 ≤ t) (t6 : t < 64) (w0 : 0 ≤ w) (w6 : w < 64) (o0 : 0 ≤ opn) (h52 : g 165 52 = mkE t) (h53 : g 165 53 = len) (h54 : g 165 54 = opn) (h55 : g 165 55 = w) (h56 : g 165 56 = -1) : PLM g (PSE t len opn w) := fun m h m0 m6 j0 j1 => by
  have pb := (mk_at t0 t6 m0 m6).2.2.1
  have mk := mk_at t0 t6 m0 m6
  rw [h52, h53, h54, h55, h56]
  refine ⟨fun y => absurd y (by omega), fun _ y => ?_, fun _ y => ⟨o0, ?_⟩⟩
  · unfold PSE
    rw [if_neg (fun z => by have k := (mk.1 z).1; unfold bitE at k; rw [k] at y; exact absurd y (by decide))]
  · have z : bitE t m = 1 ∧ popm t m.toNat < 3 := Decidable.byContradiction fun z => y (mk.2.1 z)
    have sb := st_at w0 w6 pb.1 z.2
    unfold PSE
    rw [if_pos z, (mk.1 z).2.1, sb.1, wr_id (x := 6 * stE3 w (popm t m.toNat)) ⟨by omega, by omega⟩, wr_id (x := h - 6 * stE3 w (popm t m.toNat)) ⟨by omega, by omega⟩, wr_id (x := h - 6 * stE3 w (popm t m.toNat) + 24) ⟨by omega, by omega⟩, Int.tmod_eq_emod_of_nonneg (by omega), show (h - 6 * stE3 w (popm t m.toNat) + 24) % 24 = (h - 6 * stE3 w (popm t m.toNat)) % 24 by omega]
/-- the class's plan laid anew -/
theorem f_28 (hr : RI r) (hq : ∀ g', (∀ j, 0 ≤ j → j < 6 → g' 49 j = -1) → g' 48 1 = l1 → g' 48 2 = l2 → (∀ i j, i ≠ 48 → i ≠ 49 → g' i j = g i j) → Q 0 g' r) : Ce sc (d + 2) 28 [(2, 48), (0, l1), (0, l2)] g r Q := by
  have k48 : okr 218 48 4 := okd (by decide +kernel)
  have loop : ∀ (n : Nat) (k : Int) (g1 : GH), 0 ≤ k → k + n = 6 → (∀ j, 0 ≤ j → j < k → g1 49 j = -1) → (∀ i j, i ≠ 49 → g1 i j = g i j) → WQ sc d 252 (fun _ g1 r1 => okr 218 48 4 ∧ ∀ g2, g2 = up g1 48 1 l1 → okr 218 48 4 ∧ ∀ g3, g3 = up g2 48 2 l2 → Q 0 g3 r1) 5 [(2, 49), (0, -1), (0, k), (0, 6)] [] g1 r := by
    intro n
    induction n with
    | zero =>
      intro k g1 k0 e a c
      refine b_252_5 (ite_c (fun z => absurd z (by omega)) (fun _ => ⟨k48, fun g2 e2 => ⟨k48, fun g3 e3 => hq g3 (fun j j0 j1 => ?_) ?_ ?_ (fun i j p q => ?_)⟩⟩))
      · rw [e3, up_i (by decide), e2, up_i (by decide)]; exact a j j0 (by omega)
      · rw [e3, up_j (by decide), e2, up_s]
      · rw [e3, up_s]
      · rw [e3, up_i p, e2, up_i p]; exact c i j q
    | succ n ih =>
      intro k g1 k0 e a c
      refine b_252_5 (ite_c (fun _ => ⟨i_49.mpr ⟨k0, by omega⟩, fun g2 e2 => ?_⟩) (fun z => absurd (by omega) z))
      rw [wr_id (x := k + 1) ⟨by omega, by omega⟩]
      refine ih (k + 1) g2 (by omega) (by omega) (fun j j0 j1 => ?_) (fun i j p => by rw [e2, up_i p]; exact c i j p)
      by_cases z : j = k
      · rw [z, e2, up_s]
      · rw [e2, up_j z]; exact a j j0 (by omega)
  refine c_28 ⟨k48, ?_⟩
  rw [r_48_0 hr]
  refine c_252 ⟨by decide +kernel, ?_⟩
  rw [n_49]
  exact loop 6 0 g (by decide) (by decide) (fun j j0 j1 => absurd j1 (by omega)) (fun _ _ _ => rfl)
theorem f_94 (w0 : 0 ≤ l0) (w6 : l0 < 64) (c0 : 0 ≤ l1) (c3 : l1 < 3) (hq : Q (stE3 l0 l1) g r) : Ce sc (d + 2) 94 [(0, l0), (0, l1)] g r Q := by
  have e := (st_at w0 w6 c0 c3).2.2.2
  refine c_94 (c_93 (ite_c (fun z => ite_c (fun y => ?_) (fun y => ?_)) (fun z => ?_)))
  · rw [if_pos z, if_pos y] at e
    exact ⟨by decide, by decide, by rw [e]; exact hq⟩
  · rw [if_pos z, if_neg y] at e
    exact ⟨by decide, by decide, by rw [e]; exact hq⟩
  · rw [if_neg z] at e
    exact ⟨by decide, by decide, by rw [e]; exact hq⟩
/-- the reference's first three -/
theorem f_212 (hr : RI r) (hq : Q (mkE (tbE g)) g r) : Ce sc (d + 1) 212 [(2, 165)] g r Q := by
  have k9 : okr 218 165 9 := okd (by decide +kernel)
  have loop : ∀ (n : Nat) (m s c : Int), 0 ≤ m → m + n = 6 → 0 ≤ c → c ≤ m → mkL (tbE g) n m s c = mkE (tbE g) → WQ sc d 212 Q 6 [(2, 165), (0, s), (0, c), (0, m)] [] g r := by
    intro n
    induction n with
    | zero =>
      intro m s c m0 e c0 cm es
      have es' : s = mkE (tbE g) := es
      refine b_212_6 (ite_c (fun z => absurd z (by omega)) (fun _ => ?_))
      rw [es']; exact hq
    | succ n ih =>
      intro m s c m0 e c0 cm es
      have es' : (if c < 3 then (if bitE (tbE g) m = 0 then mkL (tbE g) n (m + 1) s c else mkL (tbE g) n (m + 1) (i_or s (i_shl 1 m)) (c + 1)) else s) = mkE (tbE g) := es
      refine b_212_6 (ite_c (fun _ => ite_c (fun z => ?_) (fun z => ?_)) (fun z => absurd (by omega) z))
      · rw [if_pos z] at es'
        rw [r_165_1 hr, wr_id (x := m + 1) ⟨by omega, by omega⟩, wr_id (x := c + 1) ⟨by omega, by omega⟩]
        refine ⟨k9, Or.inr (i_167.mpr ⟨m0, by omega⟩), ite_c (fun y => ?_) (fun y => ?_)⟩
        · rw [if_pos ((tb_0 g m0 (by omega)).mpr y)] at es'
          exact ih _ _ _ (by omega) (by omega) c0 (by omega) es'
        · rw [if_neg (fun x => y ((tb_0 g m0 (by omega)).mp x))] at es'
          exact ih _ _ _ (by omega) (by omega) (by omega) (by omega) es'
      · rw [if_neg z] at es'
        rw [es']; exact hq
  exact c_212 (loop 6 0 0 0 (by decide) (by decide) (by decide) (by decide) rfl)
end PLN
