/-! what a gate's program leaves on the pile, of the reading machine -/
def PX (m : GH) (a b hh : Int) : Prop := ∃ ht : Int → Int, ht a = 0 ∧ ht b = hh ∧ ∀ k, a ≤ k → k < b → 0 ≤ ht k ∧ ht k ≤ 30 ∧ ((0 ≤ m 1 k ∧ ht (k + 1) = ht k + 1) ∨ (m 1 k = -1 ∧ 1 ≤ ht k ∧ ht (k + 1) = ht k) ∨ ((m 1 k = -2 ∨ m 1 k = -3) ∧ 2 ≤ ht k ∧ ht (k + 1) = ht k - 1))
def hst : List (Int × Int) → Int
  | [] => 0
  | e :: t => jn e.2 + hst t
theorem hst_b : ∀ st : List (Int × Int), 0 ≤ hst st ∧ hst st ≤ 2 * (st.length : Int)
  | [] => by decide
  | e :: t => by
    have := hst_b t
    have := jn_b' e.2
    show 0 ≤ jn e.2 + hst t ∧ jn e.2 + hst t ≤ 2 * ((e :: t).length : Int)
    rw [List.length_cons]
    omega
theorem PX.eq {m m' : GH} {a b hh : Int} (h : PX m a b hh) (e : ∀ k, a ≤ k → k < b → m' 1 k = m 1 k) : PX m' a b hh := by
  obtain ⟨ht, h1, h2, h3⟩ := h
  exact ⟨ht, h1, h2, fun k k0 k1 => by rw [e k k0 k1]; exact h3 k k0 k1⟩
theorem PX.nil {m : GH} {a : Int} : PX m a a 0 := ⟨fun _ => 0, rfl, rfl, fun k k0 k1 => absurd k1 (by omega)⟩
theorem PX.st {m : GH} {a hh h' c : Int} (h : PX m a (m 0 13) hh) (ha : a ≤ m 0 13) (hb : 0 ≤ hh ∧ hh ≤ 30) (hc : (0 ≤ c ∧ h' = hh + 1) ∨ (c = -1 ∧ 1 ≤ hh ∧ h' = hh) ∨ ((c = -2 ∨ c = -3) ∧ 2 ≤ hh ∧ h' = hh - 1)) : PX (put m c) a (put m c 0 13) h' := by
  obtain ⟨ht, h1, h2, h3⟩ := h
  rw [put_13]
  have e1 : ∀ k, k < m 0 13 → put m c 1 k = m 1 k := fun k hk => by unfold put; rw [up_i (by decide), up_j (by omega)]
  have e2 : put m c 1 (m 0 13) = c := by unfold put; rw [up_i (by decide), up_s]
  obtain ⟨hn, n1, n2⟩ : ∃ hn : Int → Int, hn (m 0 13 + 1) = h' ∧ ∀ q, q ≠ m 0 13 + 1 → hn q = ht q := ⟨fun q => if q = m 0 13 + 1 then h' else ht q, if_pos rfl, fun q hq => if_neg hq⟩
  refine ⟨hn, by rw [n2 a (by omega)]; exact h1, n1, fun q q0 q1 => ?_⟩
  rw [n2 q (by omega)]
  by_cases z : q = m 0 13
  · rw [z, n1, e2, h2]; exact ⟨hb.1, hb.2, hc⟩
  · rw [n2 (q + 1) (by omega), e1 q (by omega)]; exact h3 q q0 (by omega)
def GHS (m : GH) : Prop := ∀ i, 0 ≤ i → i < m 0 11 → (0 ≤ pe m i ∧ pe m i ≤ m 3 i ∧ m 3 i ≤ m 0 13) ∧ (0 ≤ m 2 i ∧ m 2 i ≤ 999) ∧ (pe m i = m 3 i ∨ PX m (pe m i) (m 3 i) 1)
def XHp (ph : Nat) (m : GH) (st : List (Int × Int)) : Prop := (0 ≤ pe m (m 0 11) ∧ pe m (m 0 11) ≤ m 0 13) ∧ (ph ≤ 21 ∨ ph = 90 → m 0 13 = pe m (m 0 11)) ∧ (ph = 22 → m 0 13 = pe m (m 0 11) ∨ PX m (pe m (m 0 11)) (m 0 13) 1) ∧ (ph = 30 ∨ ph = 34 ∨ ph = 35 → PX m (pe m (m 0 11)) (m 0 13) (hst st)) ∧ (ph = 31 ∨ ph = 32 ∨ ph = 33 → PX m (pe m (m 0 11)) (m 0 13) (hst st + 1)) ∧ (21 ≤ ph → ph ≤ 35 → 0 ≤ m 0 16 ∧ m 0 16 ≤ 999) ∧ (ph = 34 ∨ ph = 35 → 0 ≤ m 0 14) ∧ (ph = 35 → 0 ≤ m 0 15)
def XH (x : XS) : Prop := x.1 ≠ 91 → GHS x.2.2.1 ∧ XHp x.1 x.2.2.1 x.2.2.2
theorem pe_eq {m m' : GH} {i j : Int} (e : i = j) (e3 : ∀ k, m' 3 k = m 3 k) : pe m' i = pe m j := by
  rw [e]
  unfold pe
  rw [e3]
theorem GHS.mv {m m' : GH} (h : GHS m) (e11 : m' 0 11 = m 0 11) (e13 : m 0 13 ≤ m' 0 13) (e1 : ∀ k, k < m 0 13 → m' 1 k = m 1 k) (e2 : ∀ k, m' 2 k = m 2 k) (e3 : ∀ k, m' 3 k = m 3 k) : GHS m' := fun i i0 i1 => by
  rw [e11] at i1
  obtain ⟨a, b, c⟩ := h i i0 i1
  rw [pe_eq rfl e3, e3, e2]
  refine ⟨⟨a.1, a.2.1, by omega⟩, b, ?_⟩
  rcases c with c | c
  · exact Or.inl c
  · exact Or.inr (c.eq (fun k _ k1 => e1 k (by omega)))
theorem XHp.c {ph : Nat} {m : GH} {st : List (Int × Int)} (hb : 0 ≤ pe m (m 0 11) ∧ pe m (m 0 11) ≤ m 0 13) (h16 : 0 ≤ m 0 16 ∧ m 0 16 ≤ 999) (hp : ph = 30 ∨ ph = 34 ∨ ph = 35) (hc : PX m (pe m (m 0 11)) (m 0 13) (hst st)) (h14 : ph = 34 ∨ ph = 35 → 0 ≤ m 0 14) (h15 : ph = 35 → 0 ≤ m 0 15) : XHp ph m st := ⟨hb, fun z => by omega, fun z => by omega, fun _ => hc, fun z => by omega, fun _ _ => h16, h14, h15⟩
theorem XHp.d {ph : Nat} {m : GH} {st : List (Int × Int)} (hb : 0 ≤ pe m (m 0 11) ∧ pe m (m 0 11) ≤ m 0 13) (h16 : 0 ≤ m 0 16 ∧ m 0 16 ≤ 999) (hp : ph = 31 ∨ ph = 32 ∨ ph = 33) (hc : PX m (pe m (m 0 11)) (m 0 13) (hst st + 1)) : XHp ph m st := ⟨hb, fun z => by omega, fun z => by omega, fun z => by omega, fun _ => hc, fun _ _ => h16, fun z => by omega, fun z => by omega⟩
theorem XHp.e {ph : Nat} {m : GH} {st : List (Int × Int)} (hb : 0 ≤ pe m (m 0 11) ∧ pe m (m 0 11) ≤ m 0 13) (h16 : 0 ≤ m 0 16 ∧ m 0 16 ≤ 999) (hp : ph = 22) (hc : m 0 13 = pe m (m 0 11) ∨ PX m (pe m (m 0 11)) (m 0 13) 1) : XHp ph m st := ⟨hb, fun z => by omega, fun _ => hc, fun z => by omega, fun z => by omega, fun _ _ => h16, fun z => by omega, fun z => by omega⟩
theorem xh_low {ph ph' : Nat} {m m' : GH} {st st' : List (Int × Int)} (h : GHS m ∧ XHp ph m st) (hp : ph ≤ 20) (hp' : ph' ≤ 21 ∨ ph' = 90) (h16 : ph' = 21 → 0 ≤ m' 0 16 ∧ m' 0 16 ≤ 999) (e11 : m' 0 11 = m 0 11) (e13 : m' 0 13 = m 0 13) (e : ∀ i k, i = 1 ∨ i = 2 ∨ i = 3 → m' i k = m i k) : GHS m' ∧ XHp ph' m' st' := by
  have pp : pe m' (m' 0 11) = pe m (m 0 11) := pe_eq e11 (fun k => e 3 k (by omega))
  refine ⟨h.1.mv e11 (by omega) (fun k _ => e 1 k (by omega)) (fun k => e 2 k (by omega)) (fun k => e 3 k (by omega)), ?_⟩
  have a := h.2.2.1 (Or.inl (by omega))
  have b := h.2.1
  unfold XHp
  rw [pp, e13]
  exact ⟨b, fun _ => a, fun z => by omega, fun z => by omega, fun z => by omega, fun z1 z2 => h16 (by omega), fun z => by omega, fun z => by omega⟩
theorem xh_if {c : Prop} [Decidable c] {a b : XS} (h1 : c → XH a) (h2 : ¬ c → XH b) : XH (if c then a else b) := by
  split
  · rename_i z; exact h1 z
  · rename_i z; exact h2 z
theorem xh_mk {ph : Nat} {s : Int} {m : GH} {st : List (Int × Int)} (a : GHS m) (b : XHp ph m st) : XH (ph, s, m, st) := fun _ => ⟨a, b⟩
theorem xh_lows {ph ph' : Nat} {s : Int} {m : GH} {st st' : List (Int × Int)} (h : GHS m ∧ XHp ph m st) (hp : ph ≤ 20) (hp' : ph' ≤ 20 ∨ ph' = 90) : XH (ph', s, m, st') := fun _ => xh_low h hp (by omega) (fun z => by omega) rfl rfl (fun _ _ _ => rfl)
theorem xh_lowu {ph ph' : Nat} {s j v : Int} {m : GH} {st st' : List (Int × Int)} (h : GHS m ∧ XHp ph m st) (hp : ph ≤ 20) (hp' : ph' ≤ 21 ∨ ph' = 90) (h16 : ph' = 21 → j = 16 ∧ 0 ≤ v ∧ v ≤ 999) (hj : j ≠ 11 ∧ j ≠ 13) : XH (ph', s, up m 0 j v, st') := fun _ => xh_low h hp hp' (fun z => by
  obtain ⟨a, b⟩ := h16 z
  rw [a]
  rw [a] at hj
  show 0 ≤ up m 0 16 v 0 16 ∧ up m 0 16 v 0 16 ≤ 999
  rw [up_s]; exact b) (up_j (fun y => hj.1 y.symm)) (up_j (fun y => hj.2 y.symm)) (fun i k hi => up_i (by omega))
theorem xh_91 {s : Int} {m : GH} {st : List (Int × Int)} : XH (91, s, m, st) := fun a => absurd rfl a
theorem put_r {m : GH} {c i k : Int} (hi : i = 2 ∨ i = 3) : put m c i k = m i k := by unfold put; rw [up_i (by omega), up_i (by omega)]
theorem put_c {m : GH} {c k : Int} (hk : k < m 0 13) : put m c 1 k = m 1 k := by unfold put; rw [up_i (by decide), up_j (by omega)]
theorem GHS.put {m : GH} {c : Int} (h : GHS m) : GHS (put m c) := h.mv (put_0 (by decide)) (by rw [put_13]; omega) (fun k hk => put_c hk) (fun k => put_r (by omega)) (fun k => put_r (by omega))
theorem pe_put {m : GH} {c : Int} : pe (put m c) (put m c 0 11) = pe m (m 0 11) := pe_eq (put_0 (by decide)) (fun k => put_r (by omega))
theorem xh_xp {T : Int → Int} {n s : Int} {ph : Nat} {m : GH} {st : List (Int × Int)} (hx : XI T n (ph, s, m, st)) (h : XH (ph, s, m, st)) : XH (xp T n ph s m st) := by
  by_cases p91 : ph = 91
  · subst p91
    exact h
  have hh : GHS m ∧ XHp ph m st := h p91
  by_cases p20 : ph ≤ 20
  · unfold xp
    repeat' split
    all_goals first
      | exact xh_91
      | exact xh_lows hh (by omega) (by omega)
      | exact xh_lowu hh (by omega) (by omega) (fun z => by omega) (by omega)
      | (have hn := isN_t.mp (by assumption : isN _ _ _ _ _ = true); exact xh_lowu hh (by omega) (by omega) (fun _ => by omega) (by omega))
      | omega
      | exact h
  by_cases hq : 35 < ph
  · have e : xp T n ph s m st = (ph, s, m, st) := by
      unfold xp
      split <;> first | rfl | omega
    rw [e]; exact h
  by_cases h29 : 23 ≤ ph ∧ ph ≤ 29
  · have e : xp T n ph s m st = (ph, s, m, st) := by
      unfold xp
      split <;> first | rfl | omega
    rw [e]; exact h
  obtain ⟨ts, b13, _, sw, sb, len, xg, xl⟩ := hx
  have b13 : 0 ≤ m 0 13 := b13
  have sw : SW st := sw
  have len : st.length ≤ 10 := len
  have xg : XG ph m := xg
  have xl : XL ph st := xl
  obtain ⟨gh, hb, hA, hB, hC, hD, hE, hF, hG⟩ := hh
  have h16 := hE (by omega) (by omega)
  have hs := hst_b st
  have h8 : ph = 21 ∨ ph = 22 ∨ ph = 30 ∨ ph = 31 ∨ ph = 32 ∨ ph = 33 ∨ ph = 34 ∨ ph = 35 := by omega
  rcases h8 with rfl | rfl | rfl | rfl | rfl | rfl | rfl | rfl
  · have a := hA (Or.inl (by decide))
    refine xh_if (fun _ => xh_mk gh (XHp.c hb h16 (Or.inl rfl) ?_ (fun z => by omega) (fun z => by omega))) (fun _ => xh_mk gh (XHp.e hb h16 rfl (Or.inl a)))
    have e0 : hst [((0 : Int), (0 : Int))] = 0 := by decide
    show PX m (pe m (m 0 11)) (m 0 13) (hst [((0 : Int), (0 : Int))])
    rw [e0, a]
    exact PX.nil
  · have g0 := xg.1
    have c := hB rfl
    have e11 : up (up (up m 2 (m 0 11) (m 0 16)) 3 (m 0 11) (m 0 13)) 0 11 (m 0 11 + 1) 0 11 = m 0 11 + 1 := up_s
    have e13 : up (up (up m 2 (m 0 11) (m 0 16)) 3 (m 0 11) (m 0 13)) 0 11 (m 0 11 + 1) 0 13 = m 0 13 := by rw [up_j (by decide), up_i (by decide), up_i (by decide)]
    have e1 : ∀ k, up (up (up m 2 (m 0 11) (m 0 16)) 3 (m 0 11) (m 0 13)) 0 11 (m 0 11 + 1) 1 k = m 1 k := fun k => by rw [up_i (by decide), up_i (by decide), up_i (by decide)]
    have e3 : ∀ k, k ≠ m 0 11 → up (up (up m 2 (m 0 11) (m 0 16)) 3 (m 0 11) (m 0 13)) 0 11 (m 0 11 + 1) 3 k = m 3 k := fun k hk => by rw [up_i (by decide), up_j hk, up_i (by decide)]
    have e3s : up (up (up m 2 (m 0 11) (m 0 16)) 3 (m 0 11) (m 0 13)) 0 11 (m 0 11 + 1) 3 (m 0 11) = m 0 13 := by rw [up_i (by decide), up_s]
    have e2 : ∀ k, k ≠ m 0 11 → up (up (up m 2 (m 0 11) (m 0 16)) 3 (m 0 11) (m 0 13)) 0 11 (m 0 11 + 1) 2 k = m 2 k := fun k hk => by rw [up_i (by decide), up_i (by decide), up_j hk]
    have e2s : up (up (up m 2 (m 0 11) (m 0 16)) 3 (m 0 11) (m 0 13)) 0 11 (m 0 11 + 1) 2 (m 0 11) = m 0 16 := by rw [up_i (by decide), up_i (by decide), up_s]
    have ep : ∀ i, 0 ≤ i → i ≤ m 0 11 → pe (up (up (up m 2 (m 0 11) (m 0 16)) 3 (m 0 11) (m 0 13)) 0 11 (m 0 11 + 1)) i = pe m i := fun i i0 i1 => by
      unfold pe
      by_cases z : i = 0
      · rw [if_pos z, if_pos z]
      · rw [if_neg z, if_neg z, e3 _ (by omega)]
    have en : pe (up (up (up m 2 (m 0 11) (m 0 16)) 3 (m 0 11) (m 0 13)) 0 11 (m 0 11 + 1)) (m 0 11 + 1) = m 0 13 := by
      unfold pe
      rw [if_neg (by omega), show m 0 11 + 1 - 1 = m 0 11 by omega, e3s]
    show XH (14, s, up (up (up m 2 (m 0 11) (m 0 16)) 3 (m 0 11) (m 0 13)) 0 11 (m 0 11 + 1), [])
    generalize up (up (up m 2 (m 0 11) (m 0 16)) 3 (m 0 11) (m 0 13)) 0 11 (m 0 11 + 1) = m' at *
    refine fun _ => ⟨fun i i0 i1 => ?_, ?_⟩
    · show (0 ≤ pe m' i ∧ pe m' i ≤ m' 3 i ∧ m' 3 i ≤ m' 0 13) ∧ (0 ≤ m' 2 i ∧ m' 2 i ≤ 999) ∧ (pe m' i = m' 3 i ∨ PX m' (pe m' i) (m' 3 i) 1)
      have i1 : i < m' 0 11 := i1
      rw [e11] at i1
      rw [e13, ep i i0 (by omega)]
      by_cases z : i = m 0 11
      · rw [z, e3s, e2s]
        refine ⟨⟨hb.1, hb.2, Int.le_refl _⟩, h16, ?_⟩
        rcases c with c | c
        · exact Or.inl c.symm
        · exact Or.inr (c.eq (fun k _ _ => e1 k))
      · obtain ⟨x, y, w⟩ := gh i i0 (by omega)
        rw [e3 i z, e2 i z]
        refine ⟨x, y, ?_⟩
        rcases w with w | w
        · exact Or.inl w
        · exact Or.inr (w.eq (fun k _ _ => e1 k))
    · show XHp 14 m' []
      unfold XHp
      rw [e11, en, e13]
      exact ⟨⟨b13, Int.le_refl _⟩, fun _ => rfl, fun z => by omega, fun z => by omega, fun z => by omega, fun z _ => by omega, fun z => by omega, fun z => by omega⟩
  · have c := hC (Or.inl rfl)
    have j0 : jn 0 = 0 := rfl
    refine xh_if (fun _ => xh_if (fun _ => xh_91) (fun _ => xh_mk gh (XHp.c hb h16 (Or.inl rfl) ?_ (fun z => by omega) (fun z => by omega)))) (fun _ => xh_if (fun _ => xh_if (fun _ => xh_91) (fun _ => xh_mk gh (XHp.c hb h16 (Or.inl rfl) ?_ (fun z => by omega) (fun z => by omega)))) (fun _ => xh_if (fun _ => xh_91) (fun w _ => ?_)))
    · show PX m (pe m (m 0 11)) (m 0 13) (jn 0 + hst st)
      rw [j0, Int.zero_add]; exact c
    · show PX m (pe m (m 0 11)) (m 0 13) (jn 0 + hst st)
      rw [j0, Int.zero_add]; exact c
    · have wb := wS_b (T := T) (n := n) (s := s)
      have e1 : ∀ i k, i ≠ 0 → up m 0 14 (wS T n s) i k = m i k := fun i k hi => up_i hi
      have e0 : ∀ k, k ≠ 14 → up m 0 14 (wS T n s) 0 k = m 0 k := fun k hk => up_j hk
      have es : up m 0 14 (wS T n s) 0 14 = wS T n s := up_s
      show GHS (up m 0 14 (wS T n s)) ∧ XHp 34 (up m 0 14 (wS T n s)) st
      generalize up m 0 14 (wS T n s) = m' at *
      have pp : pe m' (m' 0 11) = pe m (m 0 11) := pe_eq (e0 11 (by decide)) (fun k => e1 3 k (by decide))
      have x13 := e0 13 (by decide)
      refine ⟨gh.mv (e0 11 (by decide)) (by omega) (fun k _ => e1 1 k (by decide)) (fun k => e1 2 k (by decide)) (fun k => e1 3 k (by decide)), XHp.c (by rw [pp, x13]; exact hb) (by rw [e0 16 (by decide)]; exact h16) (by decide) ?_ (fun _ => by omega) (fun z => by omega)⟩
      rw [pp, x13]
      exact c.eq (fun k _ _ => e1 1 k (by decide))
  · have c := hD (Or.inl rfl)
    have ne : st ≠ [] := xl.2.1 (by decide) (by decide)
    cases st with
    | nil => exact absurd rfl ne
    | cons e t =>
      obtain ⟨k, j⟩ := e
      have sh := sw.hd
      have sh : 0 ≤ k ∧ k ≤ 2 ∧ 0 ≤ j ∧ j ≤ 3 ∧ (k = 1 → j = 0) := sh
      have lt : t.length ≤ 9 := by rw [List.length_cons] at len; omega
      have ht := hst_b t
      have ec : ∀ q : Int, hst ((k, q) :: t) = jn q + hst t := fun _ => rfl
      have ej := ec j
      have jb := jn_b' j
      show XH (if k = 1 then (31, s, put m (-1), t) else if j % 2 = 1 then (32, s, put m (-2), (k, j - 1) :: t) else (32, s, m, (k, j) :: t))
      refine xh_if (fun q => xh_mk gh.put (XHp.d (by rw [pe_put, put_13]; omega) (by rw [put_0 (by decide)]; exact h16) (Or.inl rfl) ?_)) (fun _ => xh_if (fun q => xh_mk gh.put (XHp.d (by rw [pe_put, put_13]; omega) (by rw [put_0 (by decide)]; exact h16) (Or.inr (Or.inl rfl)) ?_)) (fun _ => xh_mk gh (XHp.d hb h16 (Or.inr (Or.inl rfl)) c)))
      · show PX (put m (-1)) (pe (put m (-1)) (put m (-1) 0 11)) (put m (-1) 0 13) (hst t + 1)
        rw [pe_put]
        have j0 : jn j = 0 := by rw [sh.2.2.2.2 q]; rfl
        refine c.st hb.2 (by omega) (Or.inr (Or.inl ⟨rfl, by omega, by omega⟩))
      · show PX (put m (-2)) (pe (put m (-2)) (put m (-2) 0 11)) (put m (-2) 0 13) (hst ((k, j - 1) :: t) + 1)
        rw [pe_put]
        have e1 := ec (j - 1)
        have jj : jn j = jn (j - 1) + 1 := by
          have : j = 1 ∨ j = 3 := by omega
          rcases this with rfl | rfl <;> decide
        have jb1 := jn_b' (j - 1)
        refine c.st hb.2 (by omega) (Or.inr (Or.inr ⟨Or.inl rfl, by omega, by omega⟩))
  · have c := hD (Or.inr (Or.inl rfl))
    have ne : st ≠ [] := xl.2.1 (by decide) (by decide)
    cases st with
    | nil => exact absurd rfl ne
    | cons e t =>
      obtain ⟨k, j⟩ := e
      have hj : j = 0 ∨ j = 2 := xl.2.2.2.1 rfl
      have lt : t.length ≤ 9 := by rw [List.length_cons] at len; omega
      have ht := hst_b t
      have ec : ∀ q : Int, hst ((k, q) :: t) = jn q + hst t := fun _ => rfl
      have ej := ec j
      have e0 := ec 0
      have ej1 := ec (j + 1)
      have z0 : jn 0 = 0 := rfl
      have z1 : jn 1 = 1 := rfl
      have z2 : jn 2 = 1 := rfl
      have z3 : jn 3 = 2 := rfl
      have jj : jn (j + 1) = jn j + 1 := by rcases hj with rfl | rfl <;> decide
      show XH (if isW T n s (wdl 20) = true then (30, nx T n s, m, (k, j + 1) :: t) else if j = 2 then (33, s, put m (-3), (k, 0) :: t) else (33, s, m, (k, j) :: t))
      refine xh_if (fun _ => xh_mk gh (XHp.c hb h16 (Or.inl rfl) ?_ (fun z => by omega) (fun z => by omega))) (fun _ => xh_if (fun q => xh_mk gh.put (XHp.d (by rw [pe_put, put_13]; omega) (by rw [put_0 (by decide)]; exact h16) (Or.inr (Or.inr rfl)) ?_)) (fun _ => xh_mk gh (XHp.d hb h16 (Or.inr (Or.inr rfl)) c)))
      · show PX m (pe m (m 0 11)) (m 0 13) (hst ((k, j + 1) :: t))
        rw [show hst ((k, j + 1) :: t) = hst ((k, j) :: t) + 1 by omega]; exact c
      · show PX (put m (-3)) (pe (put m (-3)) (put m (-3) 0 11)) (put m (-3) 0 13) (hst ((k, 0) :: t) + 1)
        rw [pe_put]
        rw [q, z2] at ej
        rw [q] at c
        have ej' : hst ((k, 2) :: t) = 1 + hst t := by rw [ec 2, z2]
        refine c.st hb.2 (by omega) (Or.inr (Or.inr ⟨Or.inr rfl, by omega, by omega⟩))
  · have c := hD (Or.inr (Or.inr rfl))
    have ne : st ≠ [] := xl.2.1 (by decide) (by decide)
    cases st with
    | nil => exact absurd rfl ne
    | cons e t =>
      obtain ⟨k, j⟩ := e
      have hj : j = 0 := xl.2.2.2.2.1 rfl
      subst hj
      have ec : ∀ q : Int, hst ((k, q) :: t) = jn q + hst t := fun _ => rfl
      have e0 := ec 0
      have e2 := ec 2
      have z0 : jn 0 = 0 := rfl
      have z2 : jn 2 = 1 := rfl
      refine xh_if (fun _ => xh_mk gh (XHp.c hb h16 (Or.inl rfl) ?_ (fun z => by omega) (fun z => by omega))) (fun _ => ?_)
      · show PX m (pe m (m 0 11)) (m 0 13) (hst ((k, 2) :: t))
        rw [show hst ((k, 2) :: t) = hst ((k, 0) :: t) + 1 by omega]; exact c
      · cases t with
        | nil =>
          refine xh_mk gh (XHp.e hb h16 rfl (Or.inr ?_))
          have en : hst ([] : List (Int × Int)) = 0 := rfl
          show PX m (pe m (m 0 11)) (m 0 13) 1
          rw [show (1 : Int) = hst ((k, 0) :: []) + 1 by omega]; exact c
        | cons e3 t2 =>
          obtain ⟨k2, j2'⟩ := e3
          refine xh_if (fun _ => xh_mk gh (XHp.d hb h16 (Or.inl rfl) ?_)) (fun _ => xh_91)
          show PX m (pe m (m 0 11)) (m 0 13) (hst ((k2, j2') :: t2) + 1)
          rw [show hst ((k2, j2') :: t2) = hst ((k, 0) :: (k2, j2') :: t2) by omega]; exact c
  · have c := hC (Or.inr (Or.inl rfl))
    have w14 := hF (Or.inl rfl)
    refine xh_if (fun _ => xh_91) (fun w _ => ?_)
    have wb := sS_b (T := T) (n := n) (s := s)
    have e1 : ∀ i k, i ≠ 0 → up m 0 15 (sS T n s) i k = m i k := fun i k hi => up_i hi
    have e0 : ∀ k, k ≠ 15 → up m 0 15 (sS T n s) 0 k = m 0 k := fun k hk => up_j hk
    have es : up m 0 15 (sS T n s) 0 15 = sS T n s := up_s
    show GHS (up m 0 15 (sS T n s)) ∧ XHp 35 (up m 0 15 (sS T n s)) st
    generalize up m 0 15 (sS T n s) = m' at *
    have pp : pe m' (m' 0 11) = pe m (m 0 11) := pe_eq (e0 11 (by decide)) (fun k => e1 3 k (by decide))
    have x13 := e0 13 (by decide)
    have x14 := e0 14 (by decide)
    refine ⟨gh.mv (e0 11 (by decide)) (by omega) (fun k _ => e1 1 k (by decide)) (fun k => e1 2 k (by decide)) (fun k => e1 3 k (by decide)), XHp.c (by rw [pp, x13]; exact hb) (by rw [e0 16 (by decide)]; exact h16) (by decide) ?_ (fun _ => by omega) (fun _ => by omega)⟩
    rw [pp, x13]
    exact c.eq (fun k _ _ => e1 1 k (by decide))
  · have c := hC (Or.inr (Or.inr rfl))
    have w14 := hF (Or.inr rfl)
    have w15 := hG rfl
    refine xh_if (fun z => ?_) (fun _ => xh_91)
    have hn := isN_t.mp z
    refine xh_mk gh.put (XHp.d (by rw [pe_put, put_13]; omega) (by rw [put_0 (by decide)]; exact h16) (Or.inl rfl) ?_)
    show PX (put m ((m 0 14 * 3 + m 0 15) * 10000 + nb T n s)) (pe (put m ((m 0 14 * 3 + m 0 15) * 10000 + nb T n s)) (put m ((m 0 14 * 3 + m 0 15) * 10000 + nb T n s) 0 11)) (put m ((m 0 14 * 3 + m 0 15) * 10000 + nb T n s) 0 13) (hst st + 1)
    rw [pe_put]
    exact c.st hb.2 (by omega) (Or.inl ⟨by omega, rfl⟩)
theorem XH.r {T : Int → Int} {n : Int} {x y : XS} (hx : XI T n x) (h : XH x) (r : Rch T n x y) : XH y := by
  obtain ⟨k, rfl⟩ := r
  induction k generalizing x with
  | zero => exact h
  | succ k ih => exact ih (xi_xs hx) (xh_xp hx h)
theorem xh_0 {s : Int} {m : GH} (i : I0 m) : XH (0, s, m, []) := fun _ => by
  have a11 := i.2.2.2.2.2.2.1
  have a13 := i.2.2.2.2.2.2.2.2
  have p0 : pe m 0 = 0 := if_pos rfl
  refine ⟨fun k k0 k1 => ?_, ?_⟩
  · have k1 : k < m 0 11 := k1
    omega
  · show XHp 0 m []
    unfold XHp
    rw [a11, p0, a13]
    exact ⟨by decide, fun _ => rfl, fun z => by omega, fun z => by omega, fun z => by omega, fun z _ => by omega, fun z => by omega, fun z => by omega⟩
