/-! the reference's tokens are the text's -/
def tokM (T : Int → Int) (n s : Int) : Int := if kd T n s = 0 then 0 else if kd T n s = 1 then 1 else if kd T n s = 2 then (if en T n s - s ≤ 4 then 2 else 3) else if kd T n s = 3 then T s else 3
def wtx (T : Int → Int) (n s : Int) : Int := if en T n s - s ≤ 10 then cdF T s (en T n s - s).toNat else -1
/-- the reference holds the text, and n of it counts -/
def TXM (T : Int → Int) (n : Int) (g : GH) : Prop := (0 ≤ n ∧ n ≤ 700) ∧ (∀ p, 0 ≤ p → p < n → i_and (g 189 p) 255 = T p) ∧ g 165 26 = n ∧ g 165 25 = -1
/-- the reference stands before the token at s -/
def TKM (T : Int → Int) (n : Int) (g : GH) (s : Int) : Prop := TXM T n g ∧ TS T n s ∧ g 165 28 = s ∧ g 165 27 = en T n s ∧ g 165 29 = tokM T n s ∧ (kd T n s = 1 → g 165 32 = wtx T n s) ∧ (kd T n s = 2 → en T n s - s ≤ 4 → g 165 30 = nb T n s)
theorem TXM.ox {T : Int → Int} {n : Int} {g g' : GH} (h : TXM T n g) (e : OX g g') : TXM T n g' := ⟨h.1, fun p a b => by rw [e 189 p (by omega)]; exact h.2.1 p a b, by rw [e 165 26 (by decide)]; exact h.2.2.1, by rw [e 165 25 (by decide)]; exact h.2.2.2⟩
theorem i_and_255 {x : Int} : i_and x 255 = x % 256 := by
  have h0 : i_and x 255 = (BitVec.ofInt 32 x &&& 255#32).toInt := rfl
  have h1 : (BitVec.ofInt 32 x &&& 255#32).toNat = (BitVec.ofInt 32 x).toNat % 256 := by
    rw [BitVec.toNat_and]
    exact Nat.and_two_pow_sub_one_eq_mod _ 8
  have h2 : (BitVec.ofInt 32 x &&& 255#32).toInt = ((BitVec.ofInt 32 x &&& 255#32).toNat : Int) := by
    rw [BitVec.toInt_eq_toNat_cond]
    rw [if_pos (by rw [h1]; omega)]
  rw [h0, h2, h1, BitVec.toNat_ofInt]
  omega
theorem i_b_256 {x : Int} : i_b x % 256 = x % 256 := by
  have h0 : i_b x = (((BitVec.ofInt 32 x).signExtend 8).signExtend 32).toInt := rfl
  have h1 : i_b x = (x.bmod 4294967296).bmod 256 := by
    rw [h0, BitVec.toInt_signExtend, BitVec.toInt_signExtend, BitVec.toInt_ofInt]
    simp
  rw [h1]
  have a1 : (x.bmod 4294967296) % 4294967296 = x % 4294967296 := Int.bmod_emod
  have a2 : ((x.bmod 4294967296).bmod 256) % 256 = (x.bmod 4294967296) % 256 := Int.bmod_emod
  omega
theorem i_and_b {x : Int} : 0 ≤ i_and x 255 := by
  rw [i_and_255]; omega
section MLX
variable {sc : SCR} {d : Nat} {Q : QJ} {g r : GH} {l0 l1 l2 n s p : Int} {T : Int → Int}
theorem hv_T (h : TXM T n g) (h0 : 0 ≤ g 165 27) : hV g = if g 165 27 < n then T (g 165 27) else -1 := by
  unfold hV
  rw [h.2.2.1]
  by_cases z : g 165 27 < n
  · rw [if_pos z, if_pos z]; exact h.2.1 _ h0 z
  · rw [if_neg z, if_neg z]
theorem tokM_0 (h : ¬ s < n) : tokM T n s = 0 := by unfold tokM; rw [if_pos (kd_0.mpr h)]
theorem f_144 (hr : RI r) (hx : TXM T n g) (h27 : g 165 27 = p) (p0 : 0 ≤ p) (pn : p ≤ n) (h : ∀ v g', OX g g' → TKM T n g' (sk T n p) → Q v g' r) : Ce sc (d + 2) 144 [(2, 165)] g r Q := by
  have k9 : okr 218 165 9 := okd (by decide +kernel)
  have hn := hx.1
  have lim : ∀ {g1 : GH}, OX g g1 → g1 165 26 ≤ 700 := fun e => by rw [e 165 26 (by decide), hx.2.2.1]; exact hn.2
  -- a number
  have num : ∀ i : Int, 0 ≤ i → i < n → kd T n i = 2 → sk T n p = i → ∀ q : Int, i ≤ q → q ≤ n → ∀ g1, OX g g1 → g1 165 27 = q → g1 165 28 = i → tkr cN T n q = tkr cN T n i → (q - i ≤ 4 → g1 165 30 = nbF T i (q - i).toNat) → WQ sc (d + 1) 144 Q 177 [(2, 165), (9, 0)] [] g1 r := by
    intro i i0 il kdi ski
    refine upG n fun q ih a b g1 e0 e27 e28 et ev => ?_
    have hx1 := hx.ox e0
    have hv : hV g1 = if q < n then T q else -1 := by rw [hv_T hx1 (by omega), e27]
    refine b_144_177 ⟨k9, s_143 hr (lim e0) (by omega) (w_137 (fun x y => ?_) (fun x => ?_))⟩
    · rw [if_neg (by decide)]
      have lt : q < n := by
        by_cases z : q < n
        · exact z
        · rw [hv, if_neg z] at x; omega
      rw [hv, if_pos lt] at x y
      have cq : cN (T q) = true := cN_t.mpr ⟨x, y⟩
      have t1 : tkr cN T n (q + 1) = tkr cN T n i := by rw [← et]; exact (tkr_s lt cq).symm
      rw [e27, wr_id (x := q + 1) ⟨by omega, by omega⟩]
      have dg : ∀ j : Nat, j < (q - i).toNat → 48 ≤ T (i + (j : Int)) ∧ T (i + (j : Int)) ≤ 57 := fun j hj => num_l kdi j (by
        rw [en_2 kdi, ← et]
        have := tkr_ge (c := cN) (T := T) (n := n) (p := q)
        omega)
      refine ⟨k9, ite_c (fun c => ⟨k9, k9, s_143 hr (lim e0) (by omega) ⟨k9, fun g4 e4 => ⟨k9, k9, fun g5 e5 => ?_⟩⟩⟩) (fun c => ⟨k9, k9, fun g3 e3 => ?_⟩)⟩
      · have f4 : g4 165 27 = q := by rw [e4, up_j (by decide)]; exact e27
        rw [f4, wr_id (x := q + 1) ⟨by omega, by omega⟩] at e5
        refine ih lt (q + 1) (by omega) (by omega) (by omega) g5 ?_ (by rw [e5, up_s]) ?_ t1 (fun z => ?_)
        · rw [e5, e4]; exact (e0.u (by decide)).u (by decide)
        · rw [e5, up_j (by decide), e4, up_j (by decide)]; exact e28
        · have ev := ev (by omega)
          have bb := nbF_b (T := T) (s := i) (q - i).toNat dg
          have p4 : (10 : Int) ^ (q - i).toNat ≤ 1000 := by
            have : (q - i).toNat = 0 ∨ (q - i).toNat = 1 ∨ (q - i).toNat = 2 ∨ (q - i).toNat = 3 := by omega
            rcases this with w | w | w | w <;> rw [w] <;> decide
          rw [e5, up_j (by decide), e4, up_s, hv, if_pos lt, ev, wr_id (x := 10 * nbF T i (q - i).toNat) ⟨by omega, by omega⟩, wr_id (x := 10 * nbF T i (q - i).toNat + T q) ⟨by omega, by omega⟩, wr_id ⟨by omega, by omega⟩, show (q + 1 - i).toNat = (q - i).toNat + 1 by omega]
          show _ = nbF T i (q - i).toNat * 10 + (T (i + (((q - i).toNat : Nat) : Int)) - 48)
          rw [show i + (((q - i).toNat : Nat) : Int) = q by omega]; omega
      · refine ih lt (q + 1) (by omega) (by omega) (by omega) g3 ?_ (by rw [e3, up_s]) ?_ t1 (fun z => ?_)
        · rw [e3]; exact e0.u (by decide)
        · rw [e3, up_j (by decide)]; exact e28
        · have ev := ev (by omega)
          have bb := nbF_b (T := T) (s := i) (q - i).toNat dg
          have p4 : (10 : Int) ^ (q - i).toNat ≤ 1000 := by
            have : (q - i).toNat = 0 ∨ (q - i).toNat = 1 ∨ (q - i).toNat = 2 ∨ (q - i).toNat = 3 := by omega
            rcases this with w | w | w | w <;> rw [w] <;> decide
          omega
    · rw [if_pos rfl, e27, e28]
      have stop : ¬ (q < n ∧ cN (T q) = true) := fun z => by
        rw [hv, if_pos z.1] at x
        exact x (cN_t.mp z.2)
      have qe : q = en T n i := by rw [en_2 kdi, ← et, tkr_e stop]
      have tm : ∀ v : Int, (q - i ≤ 4 → v = 2) → (¬ q - i ≤ 4 → v = 3) → v = tokM T n i := fun v a b => by
        unfold tokM
        rw [if_neg (by rw [kdi]; decide), if_neg (by rw [kdi]; decide), if_pos kdi, ← qe]
        by_cases z : q - i ≤ 4
        · rw [if_pos z]; exact a z
        · rw [if_neg z]; exact b z
      have fin : ∀ (v : Int) (g3 : GH), g3 = up g1 165 29 v → v = tokM T n i → Q 0 g3 r := by
        intro v g3 e3 hv3
        have o3 : OX g g3 := by rw [e3]; exact e0.u (by decide)
        refine h 0 g3 o3 ?_
        rw [ski]
        refine ⟨hx.ox o3, ⟨i0, by omega, fun _ => ?_⟩, by rw [e3, up_j (by decide)]; exact e28, by rw [e3, up_j (by decide), ← qe]; exact e27, by rw [e3, up_s]; exact hv3, fun z => absurd (kdi.symm.trans z) (by decide), fun _ z => ?_⟩
        · cases w : cB (T i) with
          | false => rfl
          | true =>
            have := (kd_2.mp kdi).2
            have := cB_t.mp w
            omega
        · rw [e3, up_j (by decide), ev (by omega)]
          unfold nb
          rw [← qe]
      rw [wr_id (x := q - i) ⟨by omega, by omega⟩]
      exact ⟨k9, k9, ite_c (fun z => ⟨k9, fun g3 e3 => fin 3 g3 e3 (tm 3 (fun w => by omega) (fun _ => rfl))⟩) (fun z => ⟨k9, fun g3 e3 => fin 2 g3 e3 (tm 2 (fun _ => rfl) (fun w => by omega))⟩)⟩
  -- a word
  have wrd : ∀ i : Int, 0 ≤ i → i < n → kd T n i = 1 → sk T n p = i → ∀ q : Int, i ≤ q → q ≤ n → ∀ g1, OX g g1 → g1 165 27 = q → g1 165 28 = i → g1 165 29 = 1 → tkr cW T n q = tkr cW T n i → g1 165 32 = (if q - i ≤ 10 then cdF T i (q - i).toNat else -1) → WQ sc (d + 1) 144 Q 92 [(2, 165), (9, 0)] [] g1 r := by
    intro i i0 il kdi ski
    refine upG n fun q ih a b g1 e0 e27 e28 e29 et ev => ?_
    have hx1 := hx.ox e0
    have hv : hV g1 = if q < n then T q else -1 := by rw [hv_T hx1 (by omega), e27]
    refine b_144_92 ⟨k9, s_143 hr (lim e0) (by omega) (w_137 (fun x y => ?_) (fun x => ?_))⟩
    · rw [if_neg (by decide)]
      have lt : q < n := by
        by_cases z : q < n
        · exact z
        · rw [hv, if_neg z] at x; omega
      rw [hv, if_pos lt] at x y
      have cq : cW (T q) = true := cW_t.mpr ⟨x, y⟩
      have t1 : tkr cW T n (q + 1) = tkr cW T n i := by rw [← et]; exact (tkr_s lt cq).symm
      have lt2 : ∀ j : Nat, j < (q - i).toNat → 97 ≤ T (i + (j : Int)) ∧ T (i + (j : Int)) ≤ 122 := fun j hj => word_l kdi j (by
        rw [en_1 kdi, ← et]
        have := tkr_ge (c := cW) (T := T) (n := n) (p := q)
        omega)
      rw [e27, e28, wr_id (x := q - i) ⟨by omega, by omega⟩]
      refine ⟨k9, k9, ite_c (fun c => ⟨k9, k9, s_143 hr (lim e0) (by omega) ⟨k9, fun g4 e4 => ⟨k9, k9, fun g5 e5 => ?_⟩⟩⟩) (fun c => ⟨k9, fun g4 e4 => ⟨k9, k9, fun g5 e5 => ?_⟩⟩)⟩
      · have f4 : g4 165 27 = q := by rw [e4, up_j (by decide)]; exact e27
        rw [f4, wr_id (x := q + 1) ⟨by omega, by omega⟩] at e5
        refine ih lt (q + 1) (by omega) (by omega) (by omega) g5 ?_ (by rw [e5, up_s]) ?_ ?_ t1 ?_
        · rw [e5, e4]; exact (e0.u (by decide)).u (by decide)
        · rw [e5, up_j (by decide), e4, up_j (by decide)]; exact e28
        · rw [e5, up_j (by decide), e4, up_j (by decide)]; exact e29
        · have b0 := cdF_b (T := T) (s := i) lt2
          have b1 := cdF_lt (T := T) (s := i) lt2
          have p9 : (27 : Int) ^ (q - i).toNat ≤ 7625597484987 := by
            have : (q - i).toNat = 0 ∨ (q - i).toNat = 1 ∨ (q - i).toNat = 2 ∨ (q - i).toNat = 3 ∨ (q - i).toNat = 4 ∨ (q - i).toNat = 5 ∨ (q - i).toNat = 6 ∨ (q - i).toNat = 7 ∨ (q - i).toNat = 8 ∨ (q - i).toNat = 9 := by omega
            rcases this with w | w | w | w | w | w | w | w | w | w <;> rw [w] <;> decide
          rw [if_pos (show q - i ≤ 10 by omega)] at ev
          rw [e5, up_j (by decide), e4, up_s, hv, if_pos lt, ev, wL_id (x := cdF T i (q - i).toNat * 27) ⟨by omega, by omega⟩, wr_id (x := T q - 96) ⟨by omega, by omega⟩, wL_id ⟨by omega, by omega⟩, if_pos (by omega), show (q + 1 - i).toNat = (q - i).toNat + 1 by omega]
          show _ = cdF T i (q - i).toNat * 27 + (T (i + (((q - i).toNat : Nat) : Int)) - 96)
          rw [show i + (((q - i).toNat : Nat) : Int) = q by omega]
      · have f4 : g4 165 27 = q := by rw [e4, up_j (by decide)]; exact e27
        rw [f4, wr_id (x := q + 1) ⟨by omega, by omega⟩] at e5
        refine ih lt (q + 1) (by omega) (by omega) (by omega) g5 ?_ (by rw [e5, up_s]) ?_ ?_ t1 ?_
        · rw [e5, e4]; exact (e0.u (by decide)).u (by decide)
        · rw [e5, up_j (by decide), e4, up_j (by decide)]; exact e28
        · rw [e5, up_j (by decide), e4, up_j (by decide)]; exact e29
        · rw [e5, up_j (by decide), e4, up_s, if_neg (by omega)]
    · rw [if_pos rfl]
      have stop : ¬ (q < n ∧ cW (T q) = true) := fun z => by
        rw [hv, if_pos z.1] at x
        exact x (cW_t.mp z.2)
      have qe : q = en T n i := by rw [en_1 kdi, ← et, tkr_e stop]
      refine h 0 g1 e0 ?_
      rw [ski]
      refine ⟨hx1, ⟨i0, by omega, fun _ => ?_⟩, e28, by rw [← qe]; exact e27, ?_, fun _ => ?_, fun z => absurd (kdi.symm.trans z) (by decide)⟩
      · cases w : cB (T i) with
        | false => rfl
        | true =>
          have := (kd_1.mp kdi).2
          have := cB_t.mp w
          omega
      · rw [e29]; unfold tokM
        rw [if_neg (by rw [kdi]; decide), if_pos kdi]
      · rw [ev]; unfold wtx; rw [← qe]
  -- blanks
  have blank : ∀ i : Int, p ≤ i → i ≤ n → ∀ g1, OX g g1 → g1 165 27 = i → sk T n i = sk T n p → WQ sc (d + 1) 144 Q 0 [(2, 165), (9, 0)] [] g1 r := by
    refine upG n fun i ih a b g1 e0 e27 es => ?_
    have hx1 := hx.ox e0
    have hv : hV g1 = if i < n then T i else -1 := by rw [hv_T hx1 (by omega), e27]
    have skip : i < n → cB (T i) = true → ∀ g2, g2 = up g1 165 27 (wr (g1 165 27 + 1)) → WQ sc (d + 1) 144 Q 0 [(2, 165), (9, 0)] [] g2 r := by
      intro lt cb g2 e2
      rw [e27, wr_id (x := i + 1) ⟨by omega, by omega⟩] at e2
      refine ih lt (i + 1) (by omega) (by omega) (by omega) g2 (by rw [e2]; exact e0.u (by decide)) (by rw [e2, up_s]) ?_
      rw [← es]; exact (tkr_s lt cb).symm
    have ltv : ∀ c : Int, 0 ≤ c → hV g1 = c → i < n ∧ T i = c := fun c c0 e => by
      by_cases z : i < n
      · rw [hv, if_pos z] at e; exact ⟨z, e⟩
      · rw [hv, if_neg z] at e; omega
    refine b_144_0 ⟨k9, s_143 hr (lim e0) (by omega) (ite_c (fun z => ⟨k9, k9, fun g2 e2 => ?_⟩) (fun z32 => ⟨k9, s_143 hr (lim e0) (by omega) (ite_c (fun z => ⟨k9, k9, fun g2 e2 => ?_⟩) (fun z10 => ⟨k9, k9, fun g3 e3 => ⟨k9, ?_⟩⟩))⟩))⟩
    · have w := ltv 32 (by decide) z
      exact skip w.1 (cB_t.mpr (Or.inl w.2)) g2 e2
    · have w := ltv 10 (by decide) z
      exact skip w.1 (cB_t.mpr (Or.inr w.2)) g2 e2
    have ncb : i < n → cB (T i) = false := fun lt => by
      cases w : cB (T i) with
      | false => rfl
      | true =>
        rw [hv, if_pos lt] at z32 z10
        rcases cB_t.mp w with q | q
        · exact absurd q z32
        · exact absurd q z10
    have ski : sk T n p = i := by
      rw [← es]
      exact tkr_e (fun z => by have := ncb z.1; rw [this] at z; exact absurd z.2 (by decide))
    have o3 : OX g g3 := by rw [e3]; exact e0.u (by decide)
    have c27 : g3 165 27 = i := by rw [e3, up_j (by decide)]; exact e27
    have c28 : g3 165 28 = i := by rw [e3, up_s]; exact e27
    have hv3 : hV g3 = if i < n then T i else -1 := by rw [hv_T (hx.ox o3) (by omega), c27]
    refine s_143 hr (lim o3) (by omega) ⟨k9, fun g5 e5 => ⟨k9, fun g6 e6 => ?_⟩⟩
    have o6 : OX g g6 := by rw [e6, e5]; exact (o3.u (by decide)).u (by decide)
    have d27 : g6 165 27 = i := by rw [e6, up_j (by decide), e5, up_j (by decide)]; exact c27
    have d28 : g6 165 28 = i := by rw [e6, up_j (by decide), e5, up_j (by decide)]; exact c28
    have d30 : g6 165 30 = 0 := by rw [e6, up_s]
    have tsi : TS T n i := ⟨by omega, b, ncb⟩
    refine ite_c (fun z => ⟨k9, fun g7 e7 => ?_⟩) (fun z => w_137 (fun x y => ?_) (fun nl => ?_))
    · have ge : ¬ i < n := fun lt => by
        rw [hv3, if_pos lt] at z
        have c5 := kd_r (T := T) (n := n) (s := i)
        have := hx.2.1 i (by omega) lt
        have bb := i_and_b (x := g 189 i)
        omega
      have o7 : OX g g7 := by rw [e7]; exact o6.u (by decide)
      refine h 0 g7 o7 ?_
      rw [ski]
      refine ⟨hx.ox o7, tsi, by rw [e7, up_j (by decide)]; exact d28, by rw [e7, up_j (by decide), en_n ge]; omega, by rw [e7, up_s, tokM_0 ge], fun w => absurd (kd_1.mp w).1 ge, fun w => absurd (kd_2.mp w).1 ge⟩
    · rw [if_neg (by decide)]
      have w := ltv (hV g3) (by omega) (by rw [hv, hv3])
      rw [hv3, if_pos w.1] at x y
      have kd1 : kd T n i = 1 := kd_1.mpr ⟨w.1, x, y⟩
      refine ⟨k9, fun g8 e8 => ⟨k9, fun g9 e9 => ?_⟩⟩
      refine wrd i (by omega) w.1 kd1 ski i (Int.le_refl i) b g9 ?_ ?_ ?_ ?_ rfl ?_
      · rw [e9, e8]; exact (o6.u (by decide)).u (by decide)
      · rw [e9, up_j (by decide), e8, up_j (by decide)]; exact d27
      · rw [e9, up_j (by decide), e8, up_j (by decide)]; exact d28
      · rw [e9, up_j (by decide), e8, up_s]
      · rw [e9, up_s, if_pos (by omega), show (i - i).toNat = 0 by omega]; rfl
    · rw [if_pos rfl]
      have lt : i < n := by
        by_cases w : i < n
        · exact w
        · rw [hv3, if_neg w] at z; omega
      rw [hv3, if_pos lt] at nl ⊢
      refine w_137 (fun x y => ?_) (fun nn => ?_)
      · rw [if_neg (by decide)]
        have kd2 : kd T n i = 2 := kd_2.mpr ⟨lt, x, y⟩
        refine num i (by omega) lt kd2 ski i (Int.le_refl i) b g6 o6 d27 d28 rfl (fun _ => ?_)
        rw [d30, show (i - i).toNat = 0 by omega]; rfl
      · rw [if_pos rfl]
        have n1 : ¬ kd T n i = 1 := fun w => nl (kd_1.mp w).2
        have n2 : ¬ kd T n i = 2 := fun w => nn (kd_2.mp w).2
        have n0 : ¬ kd T n i = 0 := fun w => kd_0.mp w lt
        have k35 : kd T n i = 3 ∨ kd T n i = 5 := by
          rcases kd_r (T := T) (n := n) (s := i) with w | w | w | w | w
          · exact absurd w n0
          · exact absurd w n1
          · exact absurd w n2
          · exact Or.inl w
          · exact Or.inr w
        have ene := en_3 k35
        have fin : ∀ t : Int, t = tokM T n i → ∀ g9, g9 = up g6 165 29 t → ∀ g10, g10 = up g9 165 27 (wr (g9 165 27 + 1)) → Q 0 g10 r := by
          intro t ht g9 e9 g10 e10
          have f9 : g9 165 27 = i := by rw [e9, up_j (by decide)]; exact d27
          rw [f9, wr_id (x := i + 1) ⟨by omega, by omega⟩] at e10
          have o10 : OX g g10 := by rw [e10, e9]; exact (o6.u (by decide)).u (by decide)
          refine h 0 g10 o10 ?_
          rw [ski]
          refine ⟨hx.ox o10, tsi, by rw [e10, up_j (by decide), e9, up_j (by decide)]; exact d28, by rw [e10, up_s, ene], by rw [e10, up_j (by decide), e9, up_s]; exact ht, fun w => absurd w n1, fun w => absurd w n2⟩
        have t3 : ∀ t : Int, T i = t → kd T n i = 3 → T i = tokM T n i := fun t _ k3 => by
          unfold tokM
          rw [if_neg n0, if_neg n1, if_neg n2, if_pos k3]
        have s3 : (T i = 59 ∨ T i = 40 ∨ T i = 41 ∨ T i = 60 ∨ T i = 62 ∨ T i = 61) → kd T n i = 3 := fun w => kd_3.mpr ⟨lt, w⟩
        refine ite_c (fun w => ⟨k9, fun g9 e9 => ⟨k9, k9, fun g10 e10 => fin (T i) (t3 _ w (s3 (by omega))) g9 e9 g10 e10⟩⟩) (fun w1 => ite_c (fun w => ⟨k9, fun g9 e9 => ⟨k9, k9, fun g10 e10 => fin (T i) (t3 _ w (s3 (by omega))) g9 e9 g10 e10⟩⟩) (fun w2 => ite_c (fun w => ⟨k9, fun g9 e9 => ⟨k9, k9, fun g10 e10 => fin (T i) (t3 _ w (s3 (by omega))) g9 e9 g10 e10⟩⟩) (fun w3 => ite_c (fun w => ⟨k9, fun g9 e9 => ⟨k9, k9, fun g10 e10 => fin (T i) (t3 _ w (s3 (by omega))) g9 e9 g10 e10⟩⟩) (fun w4 => ite_c (fun w => ⟨k9, fun g9 e9 => ⟨k9, k9, fun g10 e10 => fin (T i) (t3 _ w (s3 (by omega))) g9 e9 g10 e10⟩⟩) (fun w5 => ite_c (fun w => ⟨k9, fun g9 e9 => ⟨k9, k9, fun g10 e10 => fin (T i) (t3 _ w (s3 (by omega))) g9 e9 g10 e10⟩⟩) (fun w6 => ⟨k9, fun g9 e9 => ⟨k9, k9, fun g10 e10 => fin 3 ?_ g9 e9 g10 e10⟩⟩))))))
        have n3 : ¬ kd T n i = 3 := fun w => by have := (kd_3.mp w).2; omega
        unfold tokM
        rw [if_neg n0, if_neg n1, if_neg n2, if_neg n3]
  have hb := blank p (Int.le_refl p) pn g (OX.rf g) h27 rfl
  exact Ce_of rfl hb
end MLX
