/-! bits of a long as a list of truths -/
def nm : List Bool → Nat
  | [] => 0
  | b :: t => 2 * nm t + b.toNat
theorem tn1 (b : Bool) : b.toNat ≤ 1 := by cases b <;> decide
theorem nm_lt : ∀ l : List Bool, nm l < 2 ^ l.length
  | [] => by decide
  | b :: t => by
    have h := nm_lt t
    have hb := tn1 b
    show 2 * nm t + b.toNat < 2 ^ (t.length + 1)
    rw [Nat.pow_succ]
    omega
theorem nm_b {l : List Bool} (h : l.length ≤ 31) : nm l < 2147483648 := by
  have e : (2 : Nat) ^ 31 = 2147483648 := by decide
  have a := nm_lt l
  have b : 2 ^ l.length ≤ 2 ^ 31 := Nat.pow_le_pow_right (by decide) h
  omega
theorem lof (a : Nat) : (Int64.ofInt (a : Int)).toBitVec = BitVec.ofNat 64 a := by rw [Int64.toBitVec_ofInt, BitVec.ofInt_natCast]
theorem p64 : (2 : Nat) ^ 64 = 18446744073709551616 := by decide
theorem bvI {v : BitVec 64} {n : Nat} (e : v.toNat = n) (h : n < 4611686018427387904) : v.toInt = (n : Int) := by
  have p := p64
  rw [BitVec.toInt_eq_toNat_of_lt (by omega), e]
theorem ofN {a : Nat} (h : a < 4611686018427387904) : (BitVec.ofNat 64 a).toNat = a := by
  have p := p64
  rw [BitVec.toNat_ofNat]
  exact Nat.mod_eq_of_lt (by omega)
theorem nat2 {u v : Nat} (d : u / 2 = v / 2) (m : u % 2 = v % 2) : u = v := by omega
theorem nx1 (t b : Nat) (hb : b = 0 ∨ b = 1) : (2 * t + b) ^^^ 1 = 2 * t + (1 - b) := by
  refine nat2 ?_ ?_
  · have e : (1 : Nat) / 2 = 0 := by decide
    rw [Nat.xor_div_two, e, Nat.xor_zero]
    omega
  · have e := Nat.xor_mod_two_pow (a := 2 * t + b) (b := 1) (n := 1)
    rw [Nat.pow_one, show (2 * t + b) % 2 = b by omega] at e
    rw [e, show (2 * t + (1 - b)) % 2 = 1 - b by omega]
    rcases hb with rfl | rfl <;> decide
theorem andM {s y : Nat} (h : s < 9223372036854775808) : s &&& (y ||| 9223372036854775807) = s := by
  have p : (2 : Nat) ^ 63 = 9223372036854775808 := by decide
  have q : (9223372036854775807 : Nat) = 2 ^ 63 - 1 := by decide
  rw [q]
  refine Nat.eq_of_testBit_eq fun i => ?_
  rw [Nat.testBit_and, Nat.testBit_or, Nat.testBit_two_pow_sub_one]
  by_cases z : i < 63
  · rw [decide_eq_true z, Bool.or_true, Bool.and_true]
  · have l : s < 2 ^ i := Nat.lt_of_lt_of_le (by omega : s < 2 ^ 63) (Nat.pow_le_pow_right (by decide) (by omega))
    rw [Nat.testBit_lt_two_pow l, Bool.false_and]
theorem na1 (t e y : Nat) (he : e = 0 ∨ e = 1) (ht : t < 4294967296) : (2 * t + e) &&& (y ||| 18446744073709551614) = 2 * t + (e &&& y % 2) := by
  have y2 : y % 2 = 0 ∨ y % 2 = 1 := by omega
  have b2 : e &&& y % 2 = 0 ∨ e &&& y % 2 = 1 := by
    rcases he with rfl | rfl <;> rcases y2 with z | z <;> rw [z] <;> decide
  refine nat2 ?_ ?_
  · have q : (18446744073709551614 : Nat) / 2 = 9223372036854775807 := by decide
    rw [Nat.and_div_two, Nat.or_div_two, q, show (2 * t + e) / 2 = t by omega, andM (by omega)]
    omega
  · have e1 := Nat.and_mod_two_pow (a := 2 * t + e) (b := y ||| 18446744073709551614) (n := 1)
    have e2 := Nat.or_mod_two_pow (a := y) (b := 18446744073709551614) (n := 1)
    rw [Nat.pow_one] at e1 e2
    have q : (18446744073709551614 : Nat) % 2 = 0 := by decide
    rw [q, Nat.or_zero] at e2
    rw [e1, e2, show (2 * t + e) % 2 = e by omega]
    omega
theorem no1 (t e b : Nat) (he : e = 0 ∨ e = 1) (hb : b = 0 ∨ b = 1) : (2 * t + e) ||| b = 2 * t + (e ||| b) := by
  have b2 : e ||| b = 0 ∨ e ||| b = 1 := by
    rcases he with rfl | rfl <;> rcases hb with rfl | rfl <;> decide
  refine nat2 ?_ ?_
  · rw [Nat.or_div_two, show b / 2 = 0 by omega, Nat.or_zero]
    omega
  · have e1 := Nat.or_mod_two_pow (a := 2 * t + e) (b := b) (n := 1)
    rw [Nat.pow_one] at e1
    rw [e1, show (2 * t + e) % 2 = e by omega, show b % 2 = b by omega]
    omega
theorem lx_1 {x : Nat} (h : x < 4294967296) : l_xor (x : Int) 1 = ((x ^^^ 1 : Nat) : Int) := by
  show (Int64.ofInt (x : Int) ^^^ Int64.ofInt ((1 : Nat) : Int)).toInt = _
  have e := nx1 (x / 2) (x % 2) (by omega)
  rw [show 2 * (x / 2) + x % 2 = x by omega] at e
  rw [← Int64.toInt_toBitVec, Int64.toBitVec_xor, lof, lof]
  exact bvI (by rw [BitVec.toNat_xor, ofN (by omega), ofN (by decide)]) (by omega)
theorem la_1 {x : Nat} (h : x < 4294967296) : l_and (x : Int) 1 = ((x % 2 : Nat) : Int) := by
  show (Int64.ofInt (x : Int) &&& Int64.ofInt ((1 : Nat) : Int)).toInt = _
  rw [← Int64.toInt_toBitVec, Int64.toBitVec_and, lof, lof]
  exact bvI (by rw [BitVec.toNat_and, ofN (by omega), ofN (by decide), Nat.and_one_is_mod]) (by omega)
theorem sh_c : ((Int32.ofInt 1).toInt64 &&& 63) = (1 : Int64) := by decide
theorem lr_1 {x : Nat} (h : x < 4294967296) : l_shr (x : Int) 1 = ((x / 2 : Nat) : Int) := by
  unfold l_shr
  rw [sh_c]
  show (BitVec.sshiftRight' (Int64.ofInt (x : Int)).toBitVec ((1 : Int64).toBitVec.smod 64)).toInt = _
  rw [lof, show (1 : Int64).toBitVec.smod 64 = 1#64 by decide, BitVec.sshiftRight_eq', BitVec.toInt_sshiftRight, bvI (ofN (by omega)) (by omega), Int.shiftRight_eq_div_pow]
  show (x : Int) / ((2 ^ 1 : Nat) : Int) = _
  rw [Nat.pow_one]
  omega
theorem ll_1 {x : Nat} (h : x < 4294967296) : l_shl (x : Int) 1 = ((2 * x : Nat) : Int) := by
  unfold l_shl
  rw [sh_c]
  show ((Int64.ofInt (x : Int)).toBitVec <<< ((1 : Int64).toBitVec.smod 64)).toInt = _
  have p := p64
  rw [lof, show (1 : Int64).toBitVec.smod 64 = 1#64 by decide, BitVec.shiftLeft_eq']
  refine bvI ?_ (by omega)
  rw [BitVec.toNat_shiftLeft, ofN (by omega), Nat.shiftLeft_eq, show (1#64 : BitVec 64).toNat = 1 by decide, Nat.pow_one]
  rw [Nat.mod_eq_of_lt (by omega)]
  omega
theorem lo_c {x c : Nat} (h : x < 8589934592) (hc : c = 0 ∨ c = 1) : l_or (x : Int) (c : Int) = ((x ||| c : Nat) : Int) := by
  show (Int64.ofInt (x : Int) ||| Int64.ofInt (c : Int)).toInt = _
  have e := no1 (x / 2) (x % 2) c (by omega) hc
  rw [show 2 * (x / 2) + x % 2 = x by omega] at e
  have b2 : x % 2 ||| c = 0 ∨ x % 2 ||| c = 1 := by
    have : x % 2 = 0 ∨ x % 2 = 1 := by omega
    rcases this with z | z <;> rw [z] <;> rcases hc with rfl | rfl <;> decide
  rw [← Int64.toInt_toBitVec, Int64.toBitVec_or, lof, lof]
  exact bvI (by rw [BitVec.toNat_or, ofN (by omega), ofN (by omega)]) (by omega)
theorem lt_and {x s : Nat} (hx : x < 4294967296) (hs : s < 4294967296) : l_and (s : Int) (l_or (x : Int) (-2)) = ((2 * (s / 2) + (s % 2 &&& x % 2) : Nat) : Int) := by
  have e := na1 (s / 2) (s % 2) x (by omega) (by omega)
  rw [show 2 * (s / 2) + s % 2 = s by omega] at e
  have b2 : s % 2 &&& x % 2 ≤ 1 := by
    have a : s % 2 = 0 ∨ s % 2 = 1 := by omega
    have b : x % 2 = 0 ∨ x % 2 = 1 := by omega
    rcases a with z | z <;> rcases b with w | w <;> rw [z, w] <;> decide
  unfold l_and l_or
  rw [Int64.ofInt_toInt, ← Int64.toInt_toBitVec, Int64.toBitVec_and, Int64.toBitVec_or, lof, lof, Int64.toBitVec_ofInt]
  refine bvI ?_ (by omega)
  rw [BitVec.toNat_and, BitVec.toNat_or, ofN (by omega), ofN (by omega), show (BitVec.ofInt 64 (-2)).toNat = 18446744073709551614 by decide]
  exact e
/-! a gate's rules as a pure function of what is asked -/
def cmV (A : Int → Int) (c : Int) : Bool := if c / 10000 % 3 = 0 then decide (A (c / 10000 / 3) < c % 10000) else if c / 10000 % 3 = 1 then decide (c % 10000 < A (c / 10000 / 3)) else decide (A (c / 10000 / 3) = c % 10000)
def spE (A : Int → Int) (c : Int) (l : List Bool) : List Bool := if c = -1 then (match l with | b :: t => (!b) :: t | [] => []) else if c = -2 then (match l with | b :: e :: t => (e && b) :: t | x => x) else if c = -3 then (match l with | b :: e :: t => (e || b) :: t | x => x) else cmV A c :: l
def evl (A cd : Int → Int) : Nat → Int → List Bool → List Bool
  | 0, _, l => l
  | n + 1, k, l => evl A cd n (k + 1) (spE A (cd k) l)
def alw (A : Int → Int) (m : GH) (a b : Int) : Bool := (evl A (m 1) (b - a).toNat a []).headD true
def opR (A : Int → Int) (m : GH) : Nat → Int → Int
  | 0, _ => 0
  | n + 1, i => if alw A m (pe m i) (m 3 i) = true then m 2 i else opR A m n (i + 1)
def opE (A : Int → Int) (m : GH) : Int := opR A m (m 0 11).toNat 0
def CC (c : Int) : Prop := c = -1 ∨ c = -2 ∨ c = -3 ∨ ∃ w k v : Int, (0 ≤ w ∧ w ≤ 4) ∧ (0 ≤ k ∧ k ≤ 2) ∧ (0 ≤ v ∧ v ≤ 9999) ∧ c = (w * 3 + k) * 10000 + v
theorem RC.cc {g : GH} {q c : Int} (h : RC g q c) : CC c := by
  rcases h with a | a | a | ⟨w, k, v, a, b, e, f, _⟩
  · exact Or.inl a.1
  · exact Or.inr (Or.inl a.1)
  · exact Or.inr (Or.inr (Or.inl a.1))
  · exact Or.inr (Or.inr (Or.inr ⟨w, k, v, a, b, e, f⟩))
theorem cmV_c (A : Int → Int) {w k v : Int} (hw : 0 ≤ w ∧ w ≤ 4) (hk : 0 ≤ k ∧ k ≤ 2) (hv : 0 ≤ v ∧ v ≤ 9999) : cmV A ((w * 3 + k) * 10000 + v) = if k = 0 then decide (A w < v) else if k = 1 then decide (v < A w) else decide (A w = v) := by
  have e1 : ((w * 3 + k) * 10000 + v) / 10000 = w * 3 + k := by omega
  have e2 : ((w * 3 + k) * 10000 + v) % 10000 = v := by omega
  have e3 : (w * 3 + k) % 3 = k := by omega
  have e4 : (w * 3 + k) / 3 = w := by omega
  unfold cmV
  rw [e1, e2, e3, e4]
/-- rules and their arrays -/
def WRU (r : GH) (u : Int) : Prop := okr 218 u 6 ∧ r u 0 = u + 1 ∧ r u 2 = u + 2 ∧ r u 3 = u + 3 ∧ r u 5 = u + 4 ∧ AL (u + 1) 11 700 ∧ AL (u + 2) 11 30 ∧ AL (u + 3) 11 30 ∧ AL (u + 4) 11 5
theorem wru_of {r : GH} {m : Int} (hr : RI r) (h : MO m) : WRU r (m + 6) := by
  rcases h with rfl | rfl | rfl | rfl | rfl | rfl | rfl
  · exact ⟨okd (by decide +kernel), r_13_0 hr, r_13_2 hr, r_13_3 hr, r_13_5 hr, ⟨okd (by decide +kernel), n_14⟩, ⟨okd (by decide +kernel), n_15⟩, ⟨okd (by decide +kernel), n_16⟩, ⟨okd (by decide +kernel), n_17⟩⟩
  · exact ⟨okd (by decide +kernel), r_72_0 hr, r_72_2 hr, r_72_3 hr, r_72_5 hr, ⟨okd (by decide +kernel), n_73⟩, ⟨okd (by decide +kernel), n_74⟩, ⟨okd (by decide +kernel), n_75⟩, ⟨okd (by decide +kernel), n_76⟩⟩
  · exact ⟨okd (by decide +kernel), r_83_0 hr, r_83_2 hr, r_83_3 hr, r_83_5 hr, ⟨okd (by decide +kernel), n_84⟩, ⟨okd (by decide +kernel), n_85⟩, ⟨okd (by decide +kernel), n_86⟩, ⟨okd (by decide +kernel), n_87⟩⟩
  · exact ⟨okd (by decide +kernel), r_94_0 hr, r_94_2 hr, r_94_3 hr, r_94_5 hr, ⟨okd (by decide +kernel), n_95⟩, ⟨okd (by decide +kernel), n_96⟩, ⟨okd (by decide +kernel), n_97⟩, ⟨okd (by decide +kernel), n_98⟩⟩
  · exact ⟨okd (by decide +kernel), r_105_0 hr, r_105_2 hr, r_105_3 hr, r_105_5 hr, ⟨okd (by decide +kernel), n_106⟩, ⟨okd (by decide +kernel), n_107⟩, ⟨okd (by decide +kernel), n_108⟩, ⟨okd (by decide +kernel), n_109⟩⟩
  · exact ⟨okd (by decide +kernel), r_116_0 hr, r_116_2 hr, r_116_3 hr, r_116_5 hr, ⟨okd (by decide +kernel), n_117⟩, ⟨okd (by decide +kernel), n_118⟩, ⟨okd (by decide +kernel), n_119⟩, ⟨okd (by decide +kernel), n_120⟩⟩
  · exact ⟨okd (by decide +kernel), r_127_0 hr, r_127_2 hr, r_127_3 hr, r_127_5 hr, ⟨okd (by decide +kernel), n_128⟩, ⟨okd (by decide +kernel), n_129⟩, ⟨okd (by decide +kernel), n_130⟩, ⟨okd (by decide +kernel), n_131⟩⟩
theorem AL.a {x : Int} {c : Nat} {n : Int} (h : AL x c n) (h1 : 11 ≤ c) (h2 : c ≤ 15) : 0 ≤ x ∧ x < 218 ∧ 11 ≤ am_sh x ∧ am_sh x ≤ 15 := ⟨h.1.1, h.1.2.1, by rw [h.1.2.2]; exact h1, by rw [h.1.2.2]; exact h2⟩
theorem AL.i {x : Int} {c : Nat} {n j : Int} (h : AL x c n) (h0 : 0 ≤ j) (h1 : j < n) : okI 218 x c j := ⟨h.1, h0, by rw [h.2]; exact h1⟩
section GTE
variable {sc : SCR} {d : Nat} {Q : QJ} {g r : GH} {l0 l1 l2 l3 l4 l5 u a b k w v : Int} {A : Int → Int} {m : GH}
theorem f_53 (hu : WRU r u) (hw : 0 ≤ w ∧ w ≤ 4) (hk : 0 ≤ k ∧ k ≤ 2) (hv : 0 ≤ v ∧ v ≤ 9999) (ha : ∀ w, 0 ≤ w → w ≤ 4 → g (u + 4) w = A w) (hq : Q (if cmV A ((w * 3 + k) * 10000 + v) = true then 1 else 0) g r) : Ce sc (d + 1) 53 [(2, u), (0, (w * 3 + k) * 10000 + v)] g r Q := by
  have e1 : ((w * 3 + k) * 10000 + v).tdiv 10000 = w * 3 + k := by
    rw [Int.tdiv_eq_ediv_of_nonneg (by omega)]; omega
  have e2 : ((w * 3 + k) * 10000 + v).tmod 10000 = v := by
    rw [Int.tmod_eq_emod_of_nonneg (by omega)]; omega
  have e3 : (w * 3 + k).tdiv 3 = w := by
    rw [Int.tdiv_eq_ediv_of_nonneg (by omega)]; omega
  have e4 : (w * 3 + k).tmod 3 = k := by
    rw [Int.tmod_eq_emod_of_nonneg (by omega)]; omega
  rw [cmV_c A hw hk hv] at hq
  refine c_53 ?_
  rw [e1, e2, wr_id (x := w * 3 + k) ⟨by omega, by omega⟩, e3, e4, wr_id (x := w) ⟨by omega, by omega⟩, hu.2.2.2.2.1, hu.2.2.2.2.2.2.2.2.2]
  refine ⟨by decide, by decide, by decide, by decide, by decide, ite_c (fun z => absurd z (by omega)) (fun _ => ⟨hu.1, hu.2.2.2.2.2.2.2.2.a (by decide) (by decide), ite_c (fun _ => ⟨hu.1, hu.2.2.2.2.2.2.2.2.i hw.1 (by omega), ?_⟩) (fun z => absurd (by omega) z)⟩)⟩
  rw [ha w hw.1 hw.2]
  refine b_53_49 ?_
  refine ite_c (fun z => ?_) (fun z => ?_)
  · rw [if_pos z] at hq
    refine ite_c (fun y => ?_) (fun y => ?_)
    · rw [decide_eq_true y, if_pos rfl] at hq; exact ⟨by decide, hq⟩
    · rw [decide_eq_false y, if_neg (by decide)] at hq; exact ⟨by decide, hq⟩
  · rw [if_neg z] at hq
    refine ite_c (fun z => ?_) (fun z => ?_)
    · rw [if_pos z] at hq
      refine ite_c (fun y => ?_) (fun y => ?_)
      · rw [decide_eq_true y, if_pos rfl] at hq; exact ⟨by decide, hq⟩
      · rw [decide_eq_false y, if_neg (by decide)] at hq; exact ⟨by decide, hq⟩
    · rw [if_neg z] at hq
      refine ite_c (fun y => ?_) (fun y => ?_)
      · rw [decide_eq_true y, if_pos rfl] at hq; exact ⟨by decide, hq⟩
      · rw [decide_eq_false y, if_neg (by decide)] at hq; exact ⟨by decide, hq⟩
theorem f_52 (hu : WRU r u) (a0 : 0 ≤ a) (ab : a ≤ b) (b1 : b ≤ 700) (hc : ∀ k, a ≤ k → k < b → g (u + 1) k = m 1 k ∧ CC (m 1 k)) (hp : a = b ∨ PX m a b 1) (ha : ∀ w, 0 ≤ w → w ≤ 4 → g (u + 4) w = A w) (hq : Q (if alw A m a b = true then 1 else 0) g r) : Ce sc (d + 2) 52 [(2, u), (0, a), (0, b)] g r Q := by
  have fin : ∀ x : Bool, x = alw A m a b → ∀ k, ¬ k < b → WQ sc (d + 1) 52 Q 18 [(2, u), (9, 0), (0, b), (1, (x.toNat : Int)), (8, 0), (0, k), (9, 0)] [] g r := fun x ex k hk => by
    rw [← ex] at hq
    refine b_52_18 (ite_c (fun z => absurd z hk) (fun _ => ?_))
    rw [la_1 (by have := tn1 x; omega)]
    cases x with
    | true => exact ite_c (fun _ => ⟨Or.inr rfl, hq⟩) (fun z => absurd (cmp_eq.mpr rfl) z)
    | false => exact ite_c (fun z => absurd (cmp_eq.mp z) (by decide)) (fun _ => ⟨Or.inl rfl, hq⟩)
  by_cases e : a = b
  · subst e
    have al : alw A m a a = true := by
      unfold alw
      rw [show (a - a).toNat = 0 by omega]
      rfl
    refine c_52 (ite_c (fun _ => w_248 (fun q => ?_) (fun q => ?_)) (fun z => absurd rfl z))
    · exact fin true al.symm _ (by omega)
    · exact fin true al.symm _ (by omega)
  obtain ⟨ht, h1, h2, h3⟩ := hp.resolve_left e
  have loop : ∀ (n : Nat) (k : Int) (l : List Bool), a ≤ k → k + n = b → (l.length : Int) = ht k → evl A (m 1) n k l = evl A (m 1) (b - a).toNat a [] → WQ sc (d + 1) 52 Q 18 [(2, u), (9, 0), (0, b), (1, ((nm l : Nat) : Int)), (8, 0), (0, k), (9, 0)] [] g r := by
    intro n
    induction n with
    | zero =>
      intro k l k0 ek el ev
      have kb : k = b := by omega
      rw [kb, h2] at el
      have ev' : l = evl A (m 1) (b - a).toNat a [] := ev
      match l, el, ev' with
      | [], el, _ => exact absurd el (by decide)
      | [x], _, ev' =>
        have ex : x = alw A m a b := by
          unfold alw
          rw [← ev']
          rfl
        have en : nm [x] = x.toNat := by show 2 * 0 + x.toNat = x.toNat; omega
        rw [en]
        exact fin x ex k (by omega)
      | x :: y :: t, el, _ =>
        rw [List.length_cons, List.length_cons] at el
        omega
    | succ n ih =>
      intro k l k0 ek el ev
      have ev' : evl A (m 1) n (k + 1) (spE A (m 1 k) l) = evl A (m 1) (b - a).toNat a [] := ev
      obtain ⟨c1, c2⟩ := hc k k0 (by omega)
      obtain ⟨y0, y1, y2⟩ := h3 k k0 (by omega)
      have ll : l.length ≤ 30 := by omega
      have nl := nm_b (l := l) (by omega)
      have w1 : wr (k + 1) = k + 1 := wr_id ⟨by omega, by omega⟩
      refine b_52_18 (ite_c (fun _ => ⟨hu.1, ?_⟩) (fun z => absurd (by omega) z))
      rw [hu.2.1, hu.2.2.2.2.2.1.2, w1, c1]
      refine ⟨hu.2.2.2.2.2.1.a (by decide) (by decide), ite_c (fun _ => ⟨hu.1, hu.2.2.2.2.2.1.i (by omega) (by omega), ?_⟩) (fun z => absurd (by omega) z)⟩
      refine ite_c (fun z => ?_) (fun z1 => ite_c (fun z => ?_) (fun z2 => ite_c (fun z => ?_) (fun z3 => ?_)))
      · match l, el, ev', ll, nl with
        | [], el, _, _, _ => exact absurd el (by have : (([] : List Bool).length : Int) = 0 := rfl; omega)
        | x :: t, el, ev', ll, nl =>
          have es : spE A (m 1 k) (x :: t) = (!x) :: t := if_pos z
          rw [es] at ev'
          have nt := nm_b (l := t) (by rw [List.length_cons] at ll; omega)
          have e1 : nm (x :: t) ^^^ 1 = nm ((!x) :: t) := by
            show (2 * nm t + x.toNat) ^^^ 1 = 2 * nm t + (!x).toNat
            rw [nx1 _ _ (by have := tn1 x; omega)]
            cases x <;> rfl
          rw [lx_1 (by omega), e1]
          rw [List.length_cons] at el
          exact ih (k + 1) _ (by omega) (by omega) (by rw [List.length_cons]; omega) ev'
      · match l, el, ev', ll, nl with
        | [], el, _, _, _ => exact absurd el (by have : (([] : List Bool).length : Int) = 0 := rfl; omega)
        | [x], el, _, _, _ => exact absurd el (by have : (([x] : List Bool).length : Int) = 1 := rfl; omega)
        | x :: y :: t, el, ev', ll, nl =>
          have es : spE A (m 1 k) (x :: y :: t) = (y && x) :: t := by
            unfold spE
            rw [if_neg z1, if_pos z]
          rw [es] at ev'
          have hx := tn1 x
          have hy := tn1 y
          have en : nm (x :: y :: t) = 2 * (2 * nm t + y.toNat) + x.toNat := rfl
          have e2 : nm ((y && x) :: t) = 2 * nm t + (y && x).toNat := rfl
          have e3 : y.toNat &&& x.toNat = (y && x).toNat := by cases x <;> cases y <;> decide
          rw [lr_1 (by omega), lt_and (by omega) (by omega)]
          rw [show nm (x :: y :: t) / 2 / 2 = nm t by omega, show nm (x :: y :: t) / 2 % 2 = y.toNat by omega, show nm (x :: y :: t) % 2 = x.toNat by omega, e3, ← e2]
          rw [List.length_cons, List.length_cons] at el
          exact ih (k + 1) _ (by omega) (by omega) (by rw [List.length_cons]; omega) ev'
      · match l, el, ev', ll, nl with
        | [], el, _, _, _ => exact absurd el (by have : (([] : List Bool).length : Int) = 0 := rfl; omega)
        | [x], el, _, _, _ => exact absurd el (by have : (([x] : List Bool).length : Int) = 1 := rfl; omega)
        | x :: y :: t, el, ev', ll, nl =>
          have es : spE A (m 1 k) (x :: y :: t) = (y || x) :: t := by
            unfold spE
            rw [if_neg z1, if_neg z2, if_pos z]
          rw [es] at ev'
          have hx := tn1 x
          have hy := tn1 y
          have en : nm (x :: y :: t) = 2 * (2 * nm t + y.toNat) + x.toNat := rfl
          have e2 : nm ((y || x) :: t) = 2 * nm t + (y || x).toNat := rfl
          have e3 : y.toNat ||| x.toNat = (y || x).toNat := by cases x <;> cases y <;> decide
          have e4 := no1 (nm t) y.toNat x.toNat (by omega) (by omega)
          rw [lr_1 (by omega), la_1 (by omega), show nm (x :: y :: t) / 2 = 2 * nm t + y.toNat by omega, show nm (x :: y :: t) % 2 = x.toNat by omega, lo_c (by omega) (by omega), e4, e3, ← e2]
          rw [List.length_cons, List.length_cons] at el
          exact ih (k + 1) _ (by omega) (by omega) (by rw [List.length_cons]; omega) ev'
      · have es : spE A (m 1 k) l = cmV A (m 1 k) :: l := by
          unfold spE
          rw [if_neg z1, if_neg z2, if_neg z3]
        rw [es] at ev'
        rcases c2 with c2 | c2 | c2 | ⟨w, q, v, hw, hk, hv, ec⟩
        · exact absurd c2 z1
        · exact absurd c2 z2
        · exact absurd c2 z3
        have up1 : ht (k + 1) = ht k + 1 := by
          rcases y2 with y2 | y2 | y2
          · exact y2.2
          · exact absurd y2.1 z1
          · rcases y2.1 with y | y
            · exact absurd y z2
            · exact absurd y z3
        have nx : ∀ c : Bool, c = cmV A (m 1 k) → WQ sc (d + 1) 52 Q 18 [(2, u), (9, 0), (0, b), (1, l_or (l_shl ((nm l : Nat) : Int) 1) ((c.toNat : Nat) : Int)), (8, 0), (0, k + 1), (9, 0)] [] g r := fun c hcc => by
          rw [← hcc] at ev'
          have hc1 := tn1 c
          have e4 := no1 (nm l) 0 c.toNat (by omega) (by omega)
          rw [Nat.add_zero, Nat.zero_or] at e4
          rw [ll_1 (by omega), lo_c (by omega) (by omega), e4]
          exact ih (k + 1) (c :: l) (by omega) (by omega) (by rw [List.length_cons]; omega) ev'
        rw [ec]
        refine ⟨hu.1, f_53 hu hw hk hv ha ?_⟩
        rw [← ec]
        by_cases z : cmV A (m 1 k) = true
        · rw [if_pos z, if_neg (by decide)]
          exact nx true z.symm
        · rw [if_neg z, if_pos rfl]
          exact nx false (by cases h : cmV A (m 1 k) with | true => exact absurd h z | false => rfl)
  refine c_52 (ite_c (fun z => absurd z e) (fun _ => w_248 (fun q => ?_) (fun q => ?_)))
  · have ea : (0 : Int) = a := by omega
    rw [ea]
    have := loop (b - a).toNat a [] (Int.le_refl _) (by omega) (by rw [h1]; rfl) rfl
    exact (by rw [← ea] at this ⊢; exact this)
  · exact loop (b - a).toNat a [] (Int.le_refl _) (by omega) (by rw [h1]; rfl) rfl
theorem f_51 (hu : WRU r u) (hg : GHS m) (gb : 0 ≤ m 0 11 ∧ m 0 11 ≤ 30) (cb : m 0 13 ≤ 350) (e4 : g u 4 = m 0 11) (e1 : ∀ k, g (u + 1) k = m 1 k) (e2 : ∀ k, g (u + 2) k = m 2 k) (e3 : ∀ k, g (u + 3) k = m 3 k) (hc : ∀ k, 0 ≤ k → k < m 0 13 → CC (m 1 k)) (hA : A 0 = l1 ∧ A 1 = l2 ∧ A 2 = l3 ∧ A 3 = l4 ∧ A 4 = l5) (hq : ∀ g', (∀ i j, i ≠ u + 4 → g' i j = g i j) → Q (opE A m) g' r) : Ce sc (d + 3) 51 [(2, u), (0, l1), (0, l2), (0, l3), (0, l4), (0, l5)] g r Q := by
  have i5 : ∀ j, 0 ≤ j → j < 5 → okI 218 (u + 4) 11 j := fun j j0 j1 => hu.2.2.2.2.2.2.2.2.i j0 j1
  refine c_51 ?_
  rw [hu.2.2.2.2.1]
  refine ⟨hu.1, i5 0 (by decide) (by decide), fun g1 x1 => ⟨hu.1, i5 1 (by decide) (by decide), fun g2 x2 => ⟨hu.1, i5 2 (by decide) (by decide), fun g3 x3 => ⟨hu.1, i5 3 (by decide) (by decide), fun g4 x4 => ⟨hu.1, i5 4 (by decide) (by decide), fun g5 x5 => ?_⟩⟩⟩⟩⟩
  have fr : ∀ i j, i ≠ u + 4 → g5 i j = g i j := fun i j h => by rw [x5, up_i h, x4, up_i h, x3, up_i h, x2, up_i h, x1, up_i h]
  have as : ∀ w, 0 ≤ w → w ≤ 4 → g5 (u + 4) w = A w := fun w w0 w4 => by
    have : w = 0 ∨ w = 1 ∨ w = 2 ∨ w = 3 ∨ w = 4 := by omega
    rcases this with rfl | rfl | rfl | rfl | rfl
    · rw [x5, up_j (by decide), x4, up_j (by decide), x3, up_j (by decide), x2, up_j (by decide), x1, up_s]; exact hA.1.symm
    · rw [x5, up_j (by decide), x4, up_j (by decide), x3, up_j (by decide), x2, up_s]; exact hA.2.1.symm
    · rw [x5, up_j (by decide), x4, up_j (by decide), x3, up_s]; exact hA.2.2.1.symm
    · rw [x5, up_j (by decide), x4, up_s]; exact hA.2.2.2.1.symm
    · rw [x5, up_s]; exact hA.2.2.2.2.symm
  have hq' := hq g5 fr
  have y4 : g5 u 4 = m 0 11 := (fr u 4 (by omega)).trans e4
  have y1 : ∀ k, g5 (u + 1) k = m 1 k := fun k => (fr _ k (by omega)).trans (e1 k)
  have y2 : ∀ k, g5 (u + 2) k = m 2 k := fun k => (fr _ k (by omega)).trans (e2 k)
  have y3 : ∀ k, g5 (u + 3) k = m 3 k := fun k => (fr _ k (by omega)).trans (e3 k)
  have loop : ∀ (n : Nat) (i : Int), 0 ≤ i → i + n = m 0 11 → opR A m n i = opE A m → WQ sc (d + 2) 51 Q 43 [(2, u), (9, 0), (9, 0), (9, 0), (9, 0), (9, 0), (0, pe m i), (0, i)] [] g5 r := by
    intro n
    induction n with
    | zero =>
      intro i i0 e es
      have es' : 0 = opE A m := es
      refine b_51_43 ⟨hu.1, ite_c (fun q => absurd q (by omega)) (fun _ => ?_)⟩
      rw [es']; exact hq'
    | succ n ih =>
      intro i i0 e es
      have es' : (if alw A m (pe m i) (m 3 i) = true then m 2 i else opR A m n (i + 1)) = opE A m := es
      obtain ⟨p1, _, p3⟩ := hg i i0 (by omega)
      refine b_51_43 ⟨hu.1, ite_c (fun _ => ⟨hu.1, ?_⟩) (fun q => absurd (by omega) q)⟩
      rw [hu.2.2.1, hu.2.2.2.1, hu.2.2.2.2.2.2.1.2, y3, wr_id (x := i + 1) ⟨by omega, by omega⟩]
      refine ⟨hu.2.2.2.2.2.2.1.a (by decide) (by decide), ite_c (fun _ => ⟨hu.1, hu.2.2.2.2.2.2.2.1.i i0 (by omega), hu.1, f_52 hu p1.1 p1.2.1 (by omega) (fun k k0 k1 => ⟨y1 k, hc k (by omega) (by omega)⟩) p3 as ?_⟩) (fun q => absurd (by omega) q)⟩
      rw [hu.2.2.1, hu.2.2.2.1, y3, y2]
      by_cases z : alw A m (pe m i) (m 3 i) = true
      · rw [if_pos z, if_neg (by decide)]
        rw [if_pos z] at es'
        exact ⟨hu.1, hu.2.2.2.2.2.2.1.i i0 (by omega), by rw [es']; exact hq'⟩
      · rw [if_neg z, if_pos rfl]
        rw [if_neg z] at es'
        have nx := ih (i + 1) (by omega) (by omega) es'
        have ep : pe m (i + 1) = m 3 i := by
          unfold pe
          rw [if_neg (by omega), show i + 1 - 1 = i by omega]
        rw [ep] at nx
        exact ⟨hu.1, hu.2.2.2.2.2.2.2.1.i i0 (by omega), nx⟩
  have p0 : pe m 0 = 0 := if_pos rfl
  have := loop (m 0 11).toNat 0 (by decide) (by omega) rfl
  rw [p0] at this
  exact this
end GTE
