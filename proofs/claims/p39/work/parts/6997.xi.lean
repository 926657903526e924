/-! what holds of every state that the reading machine reaches -/
def pd : List (Int × Int) → Int
  | [] => 0
  | e :: t => jn e.2 + (if e.1 = 1 then 1 else 0) + pd t
def SB : List (Int × Int) → Prop
  | [] => True
  | [e] => e.1 = 0
  | _ :: t => SB t
def SW (st : List (Int × Int)) : Prop := ∀ e ∈ st, 0 ≤ e.1 ∧ e.1 ≤ 2 ∧ 0 ≤ e.2 ∧ e.2 ≤ 3 ∧ (e.1 = 1 → e.2 = 0)
def xe (ph : Nat) : Int := if ph = 34 ∨ ph = 35 then 1 else 0
def XG (ph : Nat) (m : GH) : Prop := 0 ≤ m 0 11 ∧ 0 ≤ m 0 12 ∧ (ph ≤ 13 → m 0 11 = 0 ∧ m 0 12 = 0) ∧ (ph = 14 → m 0 11 ≤ m 0 12 ∧ m 0 12 ≤ 29) ∧ (ph = 15 → m 0 11 + 1 ≤ m 0 12 ∧ m 0 12 ≤ 30) ∧ (16 ≤ ph → ph ≤ 35 → m 0 11 + 1 ≤ m 0 12 ∧ m 0 12 ≤ 29)
def hd0 (st : List (Int × Int)) : Int × Int := st.headD (0, 0)
def XL (ph : Nat) (st : List (Int × Int)) : Prop := (ph ≤ 29 → st = []) ∧ (30 ≤ ph → ph ≤ 35 → st ≠ []) ∧ (ph = 32 ∨ ph = 33 → (hd0 st).1 ≠ 1) ∧ (ph = 32 → (hd0 st).2 = 0 ∨ (hd0 st).2 = 2) ∧ (ph = 33 → (hd0 st).2 = 0) ∧ (ph = 30 ∨ ph = 34 ∨ ph = 35 ∨ ph = 31 → (hd0 st).1 = 1 → (hd0 st).2 = 0)
def XI (T : Int → Int) (n : Int) (x : XS) : Prop := TS T n x.2.1 ∧ 0 ≤ x.2.2.1 0 13 ∧ 2 * (x.2.2.1 0 13 + pd x.2.2.2 + xe x.1) ≤ x.2.1 ∧ SW x.2.2.2 ∧ SB x.2.2.2 ∧ x.2.2.2.length ≤ 10 ∧ XG x.1 x.2.2.1 ∧ XL x.1 x.2.2.2
theorem jn_b' (x : Int) : 0 ≤ jn x ∧ jn x ≤ 2 := by unfold jn; split; omega; split <;> omega
theorem pd_b : ∀ st : List (Int × Int), 0 ≤ pd st
  | [] => Int.le_refl 0
  | e :: t => by
    have := pd_b t
    have := jn_b' e.2
    show 0 ≤ jn e.2 + (if e.1 = 1 then 1 else 0) + pd t
    split <;> omega
theorem put_13 {m : GH} {c : Int} : put m c 0 13 = m 0 13 + 1 := up_s
theorem put_0 {m : GH} {c j : Int} (h : j ≠ 13) : put m c 0 j = m 0 j := by unfold put; rw [up_j h, up_i (by decide)]
theorem SW.tl {e : Int × Int} {t : List (Int × Int)} (h : SW (e :: t)) : SW t := fun x hx => h x (List.mem_cons_of_mem _ hx)
theorem SW.hd {e : Int × Int} {t : List (Int × Int)} (h : SW (e :: t)) : 0 ≤ e.1 ∧ e.1 ≤ 2 ∧ 0 ≤ e.2 ∧ e.2 ≤ 3 ∧ (e.1 = 1 → e.2 = 0) := h e List.mem_cons_self
theorem SW.cons {e : Int × Int} {t : List (Int × Int)} (h : SW t) (he : 0 ≤ e.1 ∧ e.1 ≤ 2 ∧ 0 ≤ e.2 ∧ e.2 ≤ 3 ∧ (e.1 = 1 → e.2 = 0)) : SW (e :: t) := fun x hx => by
  rcases List.mem_cons.mp hx with q | q
  · rw [q]; exact he
  · exact h x q
theorem SB.tl {e e2 : Int × Int} {t : List (Int × Int)} (h : SB (e :: e2 :: t)) : SB (e2 :: t) := h
theorem SB.cons {e : Int × Int} {t : List (Int × Int)} (h : SB t) (ht : t ≠ []) : SB (e :: t) := by
  cases t with
  | nil => exact absurd rfl ht
  | cons a b => exact h
theorem SB.ch {k j j2 : Int} {t : List (Int × Int)} (h : SB ((k, j) :: t)) : SB ((k, j2) :: t) := by
  cases t with
  | nil => exact h
  | cons a b => exact h
section XIS
variable {T : Int → Int} {n s : Int} {m m' : GH} {ph ph' : Nat} {st : List (Int × Int)}
theorem XG.bad {ph : Nat} (h : XG ph m) : XG 91 m := ⟨h.1, h.2.1, fun z => absurd z (by decide), fun z => absurd z (by decide), fun z => absurd z (by decide), fun _ z => absurd z (by decide)⟩
theorem XL.bad : XL 91 st := ⟨fun z => absurd z (by decide), fun _ z => absurd z (by decide), fun z => absurd z (by decide), fun z => absurd z (by decide), fun z => absurd z (by decide), fun z => absurd z (by decide)⟩
theorem XL.nil (h : ph ≤ 29) : XL ph [] := ⟨fun _ => rfl, fun z => absurd z (by omega), fun z => absurd z (by omega), fun z => absurd z (by omega), fun z => absurd z (by omega), fun z => absurd z (by omega)⟩
theorem XI.bad (h : XI T n (ph, s, m, st)) : XI T n (91, s, m, st) := by
  obtain ⟨a, b, c, e, f, i, j, _⟩ := h
  refine ⟨a, b, ?_, e, f, i, j.bad, XL.bad⟩
  have x0 : xe 91 = 0 := rfl
  have x1 : 0 ≤ xe ph := by unfold xe; split <;> decide
  show 2 * (m 0 13 + pd st + xe 91) ≤ s
  have c : 2 * (m 0 13 + pd st + xe ph) ≤ s := c
  omega
theorem XI.fin90 (h : XI T n (15, s, m, st)) : XI T n (90, s, m, st) := by
  obtain ⟨a, b, c, e, f, i, j, _⟩ := h
  have j : XG 15 m := j
  exact ⟨a, b, c, e, f, i, ⟨j.1, j.2.1, fun z => absurd z (show ¬ 90 ≤ 13 by decide), fun z => absurd z (show ¬ 90 = 14 by decide), fun z => absurd z (show ¬ 90 = 15 by decide), fun _ z => absurd z (show ¬ 90 ≤ 35 by decide)⟩, ⟨fun z => absurd z (show ¬ 90 ≤ 29 by decide), fun _ z => absurd z (show ¬ 90 ≤ 35 by decide), fun z => absurd z (show ¬ (90 = 32 ∨ 90 = 33) by decide), fun z => absurd z (show ¬ 90 = 32 by decide), fun z => absurd z (show ¬ 90 = 33 by decide), fun z => absurd z (show ¬ (90 = 30 ∨ 90 = 34 ∨ 90 = 35 ∨ 90 = 31) by decide)⟩⟩
/-- outside a condition: nothing stands open -/
theorem XI.st0 (h : XI T n (ph, s, m, st)) (hp : ph ≤ 29) : st = [] := h.2.2.2.2.2.2.2.1 hp
theorem XI.w (h : XI T n (ph, s, m, st)) (hs : s < n) (e13 : m' 0 13 = m 0 13) (hp : ph ≤ 29) (hp' : ph' ≤ 29) (g : XG ph' m') : XI T n (ph', nx T n s, m', st) := by
  have e := h.st0 hp
  subst e
  obtain ⟨a, b, c, _⟩ := h
  have gt := nx_gt (T := T) hs
  refine ⟨nx_ts a, by show 0 ≤ m' 0 13; rw [e13]; exact b, ?_, fun x hx => absurd hx List.not_mem_nil, trivial, by show 0 ≤ 10; omega, g, XL.nil hp'⟩
  show 2 * (m' 0 13 + pd [] + xe ph') ≤ nx T n s
  have c : 2 * (m 0 13 + pd [] + xe ph) ≤ s := c
  have x0 : xe ph' = 0 := if_neg (by omega)
  have x1 : xe ph = 0 := if_neg (by omega)
  omega
theorem XI.sm (h : XI T n (ph, s, m, st)) (e13 : m' 0 13 = m 0 13) (hp : ph ≤ 29) (hp' : ph' ≤ 29) (g : XG ph' m') : XI T n (ph', s, m', st) := by
  have e := h.st0 hp
  subst e
  obtain ⟨a, b, c, _⟩ := h
  refine ⟨a, by show 0 ≤ m' 0 13; rw [e13]; exact b, ?_, fun x hx => absurd hx List.not_mem_nil, trivial, by show 0 ≤ 10; omega, g, XL.nil hp'⟩
  show 2 * (m' 0 13 + pd [] + xe ph') ≤ s
  have c : 2 * (m 0 13 + pd [] + xe ph) ≤ s := c
  have x0 : xe ph' = 0 := if_neg (by omega)
  have x1 : xe ph = 0 := if_neg (by omega)
  omega
theorem XG.mv (h : XG ph m) (e11 : m' 0 11 = m 0 11) (e12 : m' 0 12 = m 0 12) (hp : (ph ≤ 13 ∧ ph' ≤ 14) ∨ (14 ≤ ph ∧ ph = ph') ∨ (16 ≤ ph ∧ ph ≤ 35 ∧ (ph' = 14 ∨ (16 ≤ ph' ∧ ph' ≤ 35)))) : XG ph' m' := by
  unfold XG at h ⊢
  rw [e11, e12]; omega
theorem u0 {v j : Int} (h : (13 : Int) ≠ j) : up m 0 j v 0 13 = m 0 13 := up_j h
theorem u1 {v j : Int} (h : (11 : Int) ≠ j) : up m 0 j v 0 11 = m 0 11 := up_j h
theorem u2 {v j : Int} (h : (12 : Int) ≠ j) : up m 0 j v 0 12 = m 0 12 := up_j h
theorem xi_word {a b : XS} {w : List Int} (h1 : isW T n s w = true → XI T n a) (h2 : XI T n b) : XI T n (if isW T n s w = true then a else b) := by
  split
  · rename_i z; exact h1 z
  · exact h2
theorem xi_sign {a b : XS} {c : Int} (h1 : isS T n s c = true → XI T n a) (h2 : XI T n b) : XI T n (if isS T n s c = true then a else b) := by
  split
  · rename_i z; exact h1 z
  · exact h2
theorem xi_num {a b : XS} {lo hi : Int} (h1 : isN T n s lo hi = true → XI T n a) (h2 : XI T n b) : XI T n (if isN T n s lo hi = true then a else b) := by
  split
  · rename_i z; exact h1 z
  · exact h2
theorem xi_ite {c : Prop} [Decidable c] {a b : XS} (h1 : c → XI T n a) (h2 : ¬ c → XI T n b) : XI T n (if c then a else b) := by
  split
  · rename_i z; exact h1 z
  · rename_i z; exact h2 z
/-- in a condition -/
theorem XI.mk (ts : TS T n s) (b : 0 ≤ m 0 13) (c : 2 * (m 0 13 + pd st + xe ph) ≤ s) (e : SW st) (f : SB st) (i : st.length ≤ 10) (g : XG ph m) (l : XL ph st) : XI T n (ph, s, m, st) := ⟨ts, b, c, e, f, i, g, l⟩
theorem XL.c (h : st ≠ []) (hp : 30 ≤ ph ∧ ph ≤ 35 ∧ ph ≠ 32 ∧ ph ≠ 33) (hz : (hd0 st).1 = 1 → (hd0 st).2 = 0) : XL ph st := ⟨fun z => absurd z (by omega), fun _ _ => h, fun z => absurd z (by omega), fun z => absurd z (by omega), fun z => absurd z (by omega), fun _ => hz⟩
theorem XL.c2 {k j : Int} {t : List (Int × Int)} (hk : k ≠ 1) (hj : j = 0 ∨ j = 2) : XL 32 ((k, j) :: t) := by
  refine ⟨fun z => absurd z (by decide), fun _ _ => ?_, fun _ => hk, fun _ => hj, fun z => absurd z (by decide), fun z => absurd z (by decide)⟩
  intro z; cases z
theorem XL.c3 {k : Int} {t : List (Int × Int)} (hk : k ≠ 1) : XL 33 ((k, 0) :: t) := by
  refine ⟨fun z => absurd z (by decide), fun _ _ => ?_, fun _ => hk, fun z => absurd z (by decide), fun _ => rfl, fun z => absurd z (by decide)⟩
  intro z; cases z
theorem SW.h0 (h : SW st) (hn : st ≠ []) : (hd0 st).1 = 1 → (hd0 st).2 = 0 := by
  cases st with
  | nil => exact absurd rfl hn
  | cons e t => exact h.hd.2.2.2.2
set_option maxHeartbeats 2000000 in
theorem xi_xp (h : XI T n (ph, s, m, st)) : XI T n (xp T n ph s m st) := by
  have g : XG ph m := h.2.2.2.2.2.2.1
  have bad := h.bad
  have c9 : ∀ {a b : Nat}, a ≤ 29 → b ≤ 29 → a ≤ 29 ∧ b ≤ 29 := fun x y => ⟨x, y⟩
  by_cases hp : ph ≤ 29
  · have e0 := h.st0 hp
    subst e0
    have wst : ∀ {ph' : Nat} {w : List Int}, ph' ≤ 29 → XG ph' m → isW T n s w = true → XI T n (ph', nx T n s, m, []) := fun hp' g' z => h.w (isW_lt z) rfl hp hp' g'
    have nst : ∀ {ph' : Nat} {lo hi j : Int}, ph' ≤ 29 → (13 : Int) ≠ j → XG ph' (up m 0 j (nb T n s)) → isN T n s lo hi = true → XI T n (ph', nx T n s, up m 0 j (nb T n s), []) := fun hp' hj g' z => h.w (isN_lt z) (u0 hj) hp hp' g'
    match ph, hp, h, g with
    | 0, _, h, g => exact xi_word (wst (by decide) (g.mv rfl rfl (by decide))) bad
    | 1, hp, h, g => exact xi_word (fun z => h.w (isW_lt z) (u0 (by decide)) hp (by decide) (g.mv (u1 (by decide)) (u2 (by decide)) (by decide))) (h.sm (u0 (by decide)) hp (by decide) (g.mv (u1 (by decide)) (u2 (by decide)) (by decide)))
    | 2, _, h, g => exact xi_word (wst (by decide) (g.mv rfl rfl (by decide))) bad
    | 3, _, h, g => exact xi_num (nst (by decide) (by decide) (g.mv (u1 (by decide)) (u2 (by decide)) (by decide))) bad
    | 4, _, h, g => exact xi_word (wst (by decide) (g.mv rfl rfl (by decide))) bad
    | 5, _, h, g => exact xi_num (nst (by decide) (by decide) (g.mv (u1 (by decide)) (u2 (by decide)) (by decide))) bad
    | 6, _, h, g => exact xi_word (wst (by decide) (g.mv rfl rfl (by decide))) bad
    | 7, _, h, g => exact xi_num (nst (by decide) (by decide) (g.mv (u1 (by decide)) (u2 (by decide)) (by decide))) bad
    | 8, _, h, g => exact xi_word (wst (by decide) (g.mv rfl rfl (by decide))) bad
    | 9, _, h, g => exact xi_num (nst (by decide) (by decide) (g.mv (u1 (by decide)) (u2 (by decide)) (by decide))) bad
    | 10, hp, h, g => exact xi_word (wst (by decide) (g.mv rfl rfl (by decide))) (h.sm rfl hp (by decide) (g.mv rfl rfl (by decide)))
    | 11, _, h, g => exact xi_num (nst (by decide) (by decide) (g.mv (u1 (by decide)) (u2 (by decide)) (by decide))) bad
    | 12, hp, h, g => exact xi_word (wst (by decide) (g.mv rfl rfl (by decide))) (h.sm rfl hp (by decide) (g.mv rfl rfl (by decide)))
    | 13, _, h, g => exact xi_num (nst (by decide) (by decide) (g.mv (u1 (by decide)) (u2 (by decide)) (by decide))) bad
    | 14, hp, h, g =>
      refine xi_sign (fun z => h.w (isS_lt z) (u0 (by decide)) hp (by decide) ?_) bad
      have e11 : up m 0 12 (m 0 12 + 1) 0 11 = m 0 11 := up_j (by decide)
      have e12 : up m 0 12 (m 0 12 + 1) 0 12 = m 0 12 + 1 := up_s
      unfold XG at g ⊢
      rw [e11, e12]; omega
    | 15, hp, h, g =>
      refine xi_ite (fun _ => ?_) (fun _ => xi_ite (fun _ => bad) (fun lt => ?_))
      · exact h.fin90
      · have g16 : ∀ q : Nat, 16 ≤ q → q ≤ 20 → XG q m := fun q a b => by unfold XG at g ⊢; omega
        refine xi_word (wst (by decide) (g16 16 (by decide) (by decide))) (xi_word (wst (by decide) (g16 17 (by decide) (by decide))) (xi_word (wst (by decide) (g16 18 (by decide) (by decide))) (xi_word (wst (by decide) (g16 19 (by decide) (by decide))) (xi_word (wst (by decide) (g16 20 (by decide) (by decide))) bad))))
    | 16, _, h, g => exact xi_num (nst (by decide) (by decide) (by have e := u1 (m := m) (v := nb T n s) (j := 7) (by decide); have f := u2 (m := m) (v := nb T n s) (j := 7) (by decide); unfold XG at g ⊢; rw [e, f]; omega)) bad
    | 17, _, h, g => exact xi_num (nst (by decide) (by decide) (by have e := u1 (m := m) (v := nb T n s) (j := 8) (by decide); have f := u2 (m := m) (v := nb T n s) (j := 8) (by decide); unfold XG at g ⊢; rw [e, f]; omega)) bad
    | 18, _, h, g => exact xi_num (nst (by decide) (by decide) (by have e := u1 (m := m) (v := nb T n s) (j := 9) (by decide); have f := u2 (m := m) (v := nb T n s) (j := 9) (by decide); unfold XG at g ⊢; rw [e, f]; omega)) bad
    | 19, _, h, g => exact xi_num (nst (by decide) (by decide) (by have e := u1 (m := m) (v := nb T n s) (j := 10) (by decide); have f := u2 (m := m) (v := nb T n s) (j := 10) (by decide); unfold XG at g ⊢; rw [e, f]; omega)) bad
    | 20, _, h, g => exact xi_num (nst (by decide) (by decide) (g.mv (u1 (by decide)) (u2 (by decide)) (by decide))) bad
    | 21, hp, h, g =>
      refine xi_word (fun z => ?_) (h.sm rfl hp (by decide) (g.mv rfl rfl (by decide)))
      obtain ⟨a, b, c, _⟩ := h
      have gt := nx_gt (T := T) (isW_lt z)
      have c : 2 * (m 0 13 + pd [] + xe 21) ≤ s := c
      have p0 : pd [((0 : Int), (0 : Int))] = 0 := by decide
      have p1 : pd [] = 0 := rfl
      have x0 : xe 21 = 0 := rfl
      have x1 : xe 30 = 0 := rfl
      refine XI.mk (nx_ts a) b (by omega) (SW.cons (fun x hx => absurd hx List.not_mem_nil) (by decide)) rfl (by decide) (g.mv rfl rfl (by decide)) (XL.c (fun z => by cases z) (by decide) (fun _ => rfl))
    | 22, hp, h, g =>
      refine h.sm ?_ hp (by decide) ?_
      · rw [up_j (by decide), up_i (by decide), up_i (by decide)]
      · have e11 : up (up (up m 2 (m 0 11) (m 0 16)) 3 (m 0 11) (m 0 13)) 0 11 (m 0 11 + 1) 0 11 = m 0 11 + 1 := up_s
        have e12 : up (up (up m 2 (m 0 11) (m 0 16)) 3 (m 0 11) (m 0 13)) 0 11 (m 0 11 + 1) 0 12 = m 0 12 := by rw [up_j (by decide), up_i (by decide), up_i (by decide)]
        unfold XG at g ⊢
        rw [e11, e12]; omega
    | 23, _, h, g => exact h
    | 24, _, h, g => exact h
    | 25, _, h, g => exact h
    | 26, _, h, g => exact h
    | 27, _, h, g => exact h
    | 28, _, h, g => exact h
    | 29, _, h, g => exact h
    | k + 30, hp, h, g => omega
  · obtain ⟨ts, b, c, sw, sb, len, _, xl⟩ := h
    have ts : TS T n s := ts
    have b : 0 ≤ m 0 13 := b
    have c : 2 * (m 0 13 + pd st + xe ph) ≤ s := c
    have sw : SW st := sw
    have sb : SB st := sb
    have len : st.length ≤ 10 := len
    have xl : XL ph st := xl
    by_cases hq : 35 < ph
    · have e : xp T n ph s m st = (ph, s, m, st) := by
        unfold xp
        split <;> first | rfl | omega
      rw [e]; exact ⟨ts, b, c, sw, sb, len, g, xl⟩
    have ne : st ≠ [] := xl.2.1 (by omega) (by omega)
    have pb := pd_b st
    have gm : ∀ q : Nat, 30 ≤ q → q ≤ 35 → ∀ m' : GH, m' 0 11 = m 0 11 → m' 0 12 = m 0 12 → XG q m' := fun q a b m' x y => g.mv x y (by omega)
    have g22 : XG 22 m := g.mv rfl rfl (by omega)
    cases st with
    | nil => exact absurd rfl ne
    | cons e t =>
    obtain ⟨k, j⟩ := e
    have hh := sw.hd
    have hh : 0 ≤ k ∧ k ≤ 2 ∧ 0 ≤ j ∧ j ≤ 3 ∧ (k = 1 → j = 0) := hh
    have pe : ∀ k j : Int, pd ((k, j) :: t) = jn j + (if k = 1 then 1 else 0) + pd t := fun _ _ => rfl
    have pt := pd_b t
    have j0 : jn 0 = 0 := rfl
    have j1 : jn 1 = 1 := rfl
    have j2 : jn 2 = 1 := rfl
    have j3 : jn 3 = 2 := rfl
    have x30 : xe 30 = 0 := rfl
    have x31 : xe 31 = 0 := rfl
    have x32 : xe 32 = 0 := rfl
    have x33 : xe 33 = 0 := rfl
    have x34 : xe 34 = 1 := rfl
    have x35 : xe 35 = 1 := rfl
    have x22 : xe 22 = 0 := rfl
    have h6 : ph = 30 ∨ ph = 31 ∨ ph = 32 ∨ ph = 33 ∨ ph = 34 ∨ ph = 35 := by omega
    rcases h6 with rfl | rfl | rfl | rfl | rfl | rfl
    · refine xi_word (fun z => xi_ite (fun _ => bad) (fun q => ?_)) (xi_sign (fun z => xi_ite (fun _ => bad) (fun q => ?_)) (xi_ite (fun _ => bad) (fun q => ?_)))
      · have e3 := isW_nx z
        have l3 : (wdl 14).length = 3 := rfl
        refine XI.mk (nx_ts ts) b ?_ (SW.cons sw (by decide)) (SB.cons sb ne) (by rw [List.length_cons]; omega) (gm 30 (by decide) (by decide) m rfl rfl) (XL.c (fun z => by cases z) (by decide) (fun _ => rfl))
        show 2 * (m 0 13 + (jn 0 + (if (1 : Int) = 1 then 1 else 0) + pd ((k, j) :: t)) + xe 30) ≤ nx T n s
        rw [if_pos rfl]; omega
      · have e3 := nx_gt (T := T) (isS_lt z)
        refine XI.mk (nx_ts ts) b ?_ (SW.cons sw (by decide)) (SB.cons sb ne) (by rw [List.length_cons]; omega) (gm 30 (by decide) (by decide) m rfl rfl) (XL.c (fun z => by cases z) (by decide) (fun _ => rfl))
        show 2 * (m 0 13 + (jn 0 + (if (2 : Int) = 1 then 1 else 0) + pd ((k, j) :: t)) + xe 30) ≤ nx T n s
        rw [if_neg (by decide)]; omega
      · have e3 := wS_nx q
        refine XI.mk (nx_ts ts) (by rw [u0 (by decide)]; exact b) ?_ sw sb len (gm 34 (by decide) (by decide) _ (u1 (by decide)) (u2 (by decide))) (XL.c ne (by decide) (sw.h0 ne))
        rw [u0 (by decide)]; omega
    · show XI T n (if k = 1 then (31, s, put m (-1), t) else if j % 2 = 1 then (32, s, put m (-2), (k, j - 1) :: t) else (32, s, m, (k, j) :: t))
      have e0 := pe k j
      refine xi_ite (fun q => ?_) (fun q => xi_ite (fun q2 => ?_) (fun q2 => ?_))
      · rw [if_pos q] at e0
        have tn : t ≠ [] := fun z => by
          rw [z] at sb
          have : k = 0 := sb
          omega
        refine XI.mk ts (by rw [put_13]; omega) ?_ sw.tl ?_ (by rw [List.length_cons] at len; omega) (gm 31 (by decide) (by decide) _ (put_0 (by decide)) (put_0 (by decide))) (XL.c tn (by decide) (sw.tl.h0 tn))
        · rw [put_13]
          have := jn_b' j
          omega
        · cases t with
          | nil => exact absurd rfl tn
          | cons a b => exact sb
      · rw [if_neg q] at e0
        have e1 := pe k (j - 1)
        rw [if_neg q] at e1
        have jj : jn j = jn (j - 1) + 1 := by
          have : j = 1 ∨ j = 3 := by omega
          rcases this with rfl | rfl <;> decide
        refine XI.mk ts (by rw [put_13]; omega) ?_ (sw.tl.cons (by show 0 ≤ k ∧ k ≤ 2 ∧ 0 ≤ j - 1 ∧ j - 1 ≤ 3 ∧ (k = 1 → j - 1 = 0); omega)) sb.ch len (gm 32 (by decide) (by decide) _ (put_0 (by decide)) (put_0 (by decide))) (XL.c2 q (by omega))
        rw [put_13]; omega
      · exact XI.mk ts b (by omega) sw sb len (gm 32 (by decide) (by decide) m rfl rfl) (XL.c2 q (by omega))
    · have hk : k ≠ 1 := xl.2.2.1 (by decide)
      have hj : j = 0 ∨ j = 2 := xl.2.2.2.1 rfl
      show XI T n (if isW T n s (wdl 20) = true then (30, nx T n s, m, (k, j + 1) :: t) else if j = 2 then (33, s, put m (-3), (k, 0) :: t) else (33, s, m, (k, j) :: t))
      have e0 := pe k j
      rw [if_neg hk] at e0
      refine xi_word (fun z => ?_) (xi_ite (fun q2 => ?_) (fun q2 => ?_))
      · have e3 := isW_nx z
        have l3 : (wdl 20).length = 3 := rfl
        have e1 := pe k (j + 1)
        rw [if_neg hk] at e1
        have jj : jn (j + 1) = jn j + 1 := by rcases hj with rfl | rfl <;> decide
        exact XI.mk (nx_ts ts) b (by omega) (sw.tl.cons (by show 0 ≤ k ∧ k ≤ 2 ∧ 0 ≤ j + 1 ∧ j + 1 ≤ 3 ∧ (k = 1 → j + 1 = 0); omega)) sb.ch len (gm 30 (by decide) (by decide) m rfl rfl) (XL.c (fun z => by cases z) (by decide) (fun q => absurd q hk))
      · have e1 := pe k 0
        rw [if_neg hk] at e1
        rw [q2] at e0
        have c : 2 * (m 0 13 + pd ((k, j) :: t) + xe 32) ≤ s := c
        rw [q2] at c
        refine XI.mk ts (by rw [put_13]; omega) ?_ (sw.tl.cons (by show 0 ≤ k ∧ k ≤ 2 ∧ (0 : Int) ≤ 0 ∧ (0 : Int) ≤ 3 ∧ (k = 1 → (0 : Int) = 0); omega)) sb.ch len (gm 33 (by decide) (by decide) _ (put_0 (by decide)) (put_0 (by decide))) (XL.c3 hk)
        rw [put_13]; omega
      · have : j = 0 := by omega
        subst this
        exact XI.mk ts b (by omega) sw sb len (gm 33 (by decide) (by decide) m rfl rfl) (XL.c3 hk)
    · have hk : k ≠ 1 := xl.2.2.1 (by decide)
      have hj : j = 0 := xl.2.2.2.2.1 rfl
      subst hj
      have e0 : pd ((k, 0) :: t) = (jn 0 + if k = 1 then 1 else 0) + pd t := pe k 0
      rw [if_neg (c := k = 1) hk] at e0
      refine xi_word (fun z => ?_) ?_
      · have e3 := isW_nx z
        have l3 : (wdl 21).length = 2 := rfl
        have e1 := pe k 2
        rw [if_neg hk] at e1
        exact XI.mk (nx_ts ts) b (by omega) (sw.tl.cons (by show 0 ≤ k ∧ k ≤ 2 ∧ (0 : Int) ≤ 2 ∧ (2 : Int) ≤ 3 ∧ (k = 1 → (2 : Int) = 0); omega)) sb.ch len (gm 30 (by decide) (by decide) m rfl rfl) (XL.c (fun z => by cases z) (by decide) (fun q => absurd q hk))
      · cases t with
        | nil =>
          have p0 : pd [] = 0 := rfl
          exact XI.mk ts b (by omega) (fun x hx => absurd hx List.not_mem_nil) trivial (by decide) g22 (XL.nil (by decide))
        | cons e2 t2 =>
          obtain ⟨k2, j2'⟩ := e2
          refine xi_sign (fun z => ?_) bad
          have e3 := nx_gt (T := T) (isS_lt z)
          exact XI.mk (nx_ts ts) b (by omega) sw.tl sb (by rw [List.length_cons] at len; omega) (gm 31 (by decide) (by decide) m rfl rfl) (XL.c (fun z => by cases z) (by decide) (sw.tl.h0 (fun z => by cases z)))
    · refine xi_ite (fun _ => bad) (fun q => ?_)
      have e3 := nx_gt (T := T) (sS_lt q)
      refine XI.mk (nx_ts ts) (by rw [u0 (by decide)]; exact b) ?_ sw sb len (gm 35 (by decide) (by decide) _ (u1 (by decide)) (u2 (by decide))) (XL.c ne (by decide) (sw.h0 ne))
      rw [u0 (by decide)]; omega
    · refine xi_num (fun z => ?_) bad
      have e3 := nx_gt (T := T) (isN_lt z)
      refine XI.mk (nx_ts ts) (by rw [put_13]; omega) ?_ sw sb len (gm 31 (by decide) (by decide) _ (put_0 (by decide)) (put_0 (by decide))) (XL.c ne (by decide) (sw.h0 ne))
      rw [put_13]; omega
theorem xi_xs {x : XS} (h : XI T n x) : XI T n (xs T n x) := xi_xp h
theorem XI.r {x y : XS} (h : XI T n x) (r : Rch T n x y) : XI T n y := by
  obtain ⟨k, rfl⟩ := r
  induction k generalizing x with
  | zero => exact h
  | succ k ih => exact ih (xi_xs h)
theorem xp_le (h : XI T n (ph, s, m, st)) : s ≤ (xp T n ph s m st).2.1 := by
  have t : TS T n s := h.1
  have e := en_le t
  have g := nx_ge (T := T) (n := n) (s := s)
  unfold xp
  repeat' split
  all_goals first
    | exact Int.le_refl s
    | exact Int.le_trans e.2 g
theorem rch_le {x y : XS} (h : XI T n x) (r : Rch T n x y) : x.2.1 ≤ y.2.1 := by
  obtain ⟨k, rfl⟩ := r
  induction k generalizing x with
  | zero => exact Int.le_refl _
  | succ k ih =>
    have a : x.2.1 ≤ (xs T n x).2.1 := xp_le (ph := x.1) (s := x.2.1) (m := x.2.2.1) (st := x.2.2.2) h
    exact Int.le_trans a (ih (xi_xs h))
end XIS
