/-! a machine that reads a mill's text: phase, place, registers, open brackets -/
abbrev XS : Type := Nat × Int × GH × List (Int × Int)
def wdl : Nat → List Int
  | 0 => [119, 104, 101, 101, 108]
  | 1 => [111, 118, 101, 114]
  | 2 => [117, 110, 100, 101, 114]
  | 3 => [119, 105, 100, 101]
  | 4 => [98, 117, 99, 107, 101, 116, 115]
  | 5 => [100, 101, 101, 112]
  | 6 => [115, 108, 97, 110, 116]
  | 7 => [97, 116]
  | 8 => [112, 111, 110, 100]
  | 9 => [110, 97, 105, 108]
  | 10 => [112, 97, 99, 101]
  | 11 => [114, 117, 98]
  | 12 => [103, 97, 116, 101]
  | 13 => [105, 102]
  | 14 => [110, 111, 116]
  | 15 => [104, 111, 117, 114]
  | 16 => [108, 101, 118, 101, 108]
  | 17 => [102, 108, 111, 119]
  | 18 => [100, 97, 121]
  | 19 => [98, 101, 108, 111, 119]
  | 20 => [97, 110, 100]
  | 21 => [111, 114]
  | _ => []
def put (m : GH) (c : Int) : GH := up (up m 1 (m 0 13) c) 0 13 (m 0 13 + 1)
def wS (T : Int → Int) (n s : Int) : Int := if isW T n s (wdl 15) = true then 0 else if isW T n s (wdl 16) = true then 1 else if isW T n s (wdl 17) = true then 2 else if isW T n s (wdl 18) = true then 3 else if isW T n s (wdl 19) = true then 4 else -1
def sS (T : Int → Int) (n s : Int) : Int := if isS T n s 60 = true then 0 else if isS T n s 62 = true then 1 else if isS T n s 61 = true then 2 else -1
def xp (T : Int → Int) (n : Int) (ph : Nat) (s : Int) (m : GH) (st : List (Int × Int)) : XS := match ph with
  | 0 => if isW T n s (wdl 0) = true then (1, nx T n s, m, st) else (91, s, m, st)
  | 1 => if isW T n s (wdl 1) = true then (3, nx T n s, up m 0 0 1, st) else (2, s, up m 0 0 0, st)
  | 2 => if isW T n s (wdl 2) = true then (3, nx T n s, m, st) else (91, s, m, st)
  | 3 => if isN T n s 2 40 = true then (4, nx T n s, up m 0 1 (nb T n s), st) else (91, s, m, st)
  | 4 => if isW T n s (wdl 3) = true then (5, nx T n s, m, st) else (91, s, m, st)
  | 5 => if isN T n s 1 20 = true then (6, nx T n s, up m 0 2 (nb T n s), st) else (91, s, m, st)
  | 6 => if isW T n s (wdl 4) = true then (7, nx T n s, m, st) else (91, s, m, st)
  | 7 => if isN T n s 4 80 = true then (8, nx T n s, up m 0 3 (nb T n s), st) else (91, s, m, st)
  | 8 => if isW T n s (wdl 5) = true then (9, nx T n s, m, st) else (91, s, m, st)
  | 9 => if isN T n s 1 24 = true then (10, nx T n s, up m 0 4 (nb T n s), st) else (91, s, m, st)
  | 10 => if isW T n s (wdl 6) = true then (11, nx T n s, m, st) else (12, s, m, st)
  | 11 => if isN T n s 0 9 = true then (12, nx T n s, up m 0 5 (nb T n s), st) else (91, s, m, st)
  | 12 => if isW T n s (wdl 7) = true then (13, nx T n s, m, st) else (14, s, m, st)
  | 13 => if isN T n s 0 90 = true then (14, nx T n s, up m 0 6 (nb T n s), st) else (91, s, m, st)
  | 14 => if isS T n s 59 = true then (15, nx T n s, up m 0 12 (m 0 12 + 1), st) else (91, s, m, st)
  | 15 => if kd T n s = 0 then (90, s, m, st) else if 30 ≤ m 0 12 then (91, s, m, st) else if isW T n s (wdl 8) = true then (16, nx T n s, m, st) else if isW T n s (wdl 9) = true then (17, nx T n s, m, st) else if isW T n s (wdl 10) = true then (18, nx T n s, m, st) else if isW T n s (wdl 11) = true then (19, nx T n s, m, st) else if isW T n s (wdl 12) = true then (20, nx T n s, m, st) else (91, s, m, st)
  | 16 => if isN T n s 1 9999 = true then (14, nx T n s, up m 0 7 (nb T n s), st) else (91, s, m, st)
  | 17 => if isN T n s 0 100 = true then (14, nx T n s, up m 0 8 (nb T n s), st) else (91, s, m, st)
  | 18 => if isN T n s 1 300 = true then (14, nx T n s, up m 0 9 (nb T n s), st) else (91, s, m, st)
  | 19 => if isN T n s 0 9999 = true then (14, nx T n s, up m 0 10 (nb T n s), st) else (91, s, m, st)
  | 20 => if isN T n s 0 999 = true then (21, nx T n s, up m 0 16 (nb T n s), st) else (91, s, m, st)
  | 21 => if isW T n s (wdl 13) = true then (30, nx T n s, m, [(0, 0)]) else (22, s, m, [])
  | 22 => (14, s, up (up (up m 2 (m 0 11) (m 0 16)) 3 (m 0 11) (m 0 13)) 0 11 (m 0 11 + 1), [])
  | 30 => if isW T n s (wdl 14) = true then (if 10 ≤ st.length then (91, s, m, st) else (30, nx T n s, m, (1, 0) :: st)) else if isS T n s 40 = true then (if 10 ≤ st.length then (91, s, m, st) else (30, nx T n s, m, (2, 0) :: st)) else if wS T n s = -1 then (91, s, m, st) else (34, nx T n s, up m 0 14 (wS T n s), st)
  | 34 => if sS T n s = -1 then (91, s, m, st) else (35, nx T n s, up m 0 15 (sS T n s), st)
  | 35 => if isN T n s 0 9999 = true then (31, nx T n s, put m ((m 0 14 * 3 + m 0 15) * 10000 + nb T n s), st) else (91, s, m, st)
  | 31 => (match st with
    | [] => (91, s, m, st)
    | (k, j) :: t => if k = 1 then (31, s, put m (-1), t) else if j % 2 = 1 then (32, s, put m (-2), (k, j - 1) :: t) else (32, s, m, (k, j) :: t))
  | 32 => (match st with
    | [] => (91, s, m, st)
    | (k, j) :: t => if isW T n s (wdl 20) = true then (30, nx T n s, m, (k, j + 1) :: t) else if j = 2 then (33, s, put m (-3), (k, 0) :: t) else (33, s, m, (k, j) :: t))
  | 33 => (match st with
    | [] => (91, s, m, st)
    | (k, _) :: t => if isW T n s (wdl 21) = true then (30, nx T n s, m, (k, 2) :: t) else (match t with
      | [] => (22, s, m, [])
      | (k2, j2) :: t2 => if isS T n s 41 = true then (31, nx T n s, m, (k2, j2) :: t2) else (91, s, m, st)))
  | _ => (ph, s, m, st)
def xs (T : Int → Int) (n : Int) (x : XS) : XS := xp T n x.1 x.2.1 x.2.2.1 x.2.2.2
def xit (T : Int → Int) (n : Int) : Nat → XS → XS
  | 0, x => x
  | k + 1, x => xit T n k (xs T n x)
def Rch (T : Int → Int) (n : Int) (x y : XS) : Prop := ∃ k : Nat, xit T n k x = y
def Fin2 (x : XS) : Prop := x.1 = 90 ∨ x.1 = 91
section MACH
variable {T : Int → Int} {n : Int} {x y z : XS}
theorem Rch.rf (x : XS) : Rch T n x x := ⟨0, rfl⟩
theorem Rch.one (h : xs T n x = y) : Rch T n x y := ⟨1, h⟩
theorem Rch.on {ph : Nat} {s : Int} {m : GH} {st : List (Int × Int)} (h : xp T n ph s m st = y) : Rch T n (ph, s, m, st) y := ⟨1, h⟩
theorem xit_add : ∀ (a b : Nat) (x : XS), xit T n (a + b) x = xit T n b (xit T n a x)
  | 0, b, x => by rw [Nat.zero_add]; rfl
  | a + 1, b, x => by rw [Nat.succ_add]; exact xit_add a b (xs T n x)
theorem Rch.tr (h1 : Rch T n x y) (h2 : Rch T n y z) : Rch T n x z := by
  obtain ⟨a, rfl⟩ := h1
  obtain ⟨b, rfl⟩ := h2
  exact ⟨a + b, xit_add a b x⟩
theorem Rch.st (h1 : Rch T n x y) (h2 : xs T n y = z) : Rch T n x z := h1.tr (Rch.one h2)
theorem fin_xs (h : Fin2 x) : xs T n x = x := by
  obtain ⟨ph, s, m, st⟩ := x
  rcases h with h | h <;> (have h : ph = _ := h; subst h; rfl)
theorem fin_it (h : Fin2 x) : ∀ k : Nat, xit T n k x = x
  | 0 => rfl
  | k + 1 => by show xit T n k (xs T n x) = x; rw [fin_xs h]; exact fin_it h k
theorem Rch.un (h1 : Rch T n x y) (h2 : Rch T n x z) (f1 : Fin2 y) (f2 : Fin2 z) : y = z := by
  obtain ⟨a, rfl⟩ := h1
  obtain ⟨b, rfl⟩ := h2
  rcases Nat.le_total a b with h | h
  · obtain ⟨c, rfl⟩ := Nat.le.dest h
    rw [xit_add, fin_it f1]
  · obtain ⟨c, rfl⟩ := Nat.le.dest h
    rw [xit_add, fin_it f2]
theorem isW_lt {s : Int} {w : List Int} (h : isW T n s w = true) : s < n := (kd_1.mp (isW_t.mp h).1).1
theorem isW_nx {s : Int} {w : List Int} (h : isW T n s w = true) : s + (w.length : Int) ≤ nx T n s := by
  have := (isW_t.mp h).2.1
  have := nx_ge (T := T) (n := n) (s := s)
  omega
theorem isS_lt {s c : Int} (h : isS T n s c = true) : s < n := (kd_3.mp (isS_t.mp h).1).1
theorem isN_lt {s a b : Int} (h : isN T n s a b = true) : s < n := (kd_2.mp (isN_t.mp h).1).1
theorem wS_w {s : Int} (h : ¬ wS T n s = -1) : ∃ i : Nat, 15 ≤ i ∧ i ≤ 19 ∧ isW T n s (wdl i) = true ∧ wS T n s = (i : Int) - 15 := by
  unfold wS at h ⊢
  by_cases a : isW T n s (wdl 15) = true
  · exact ⟨15, by decide, by decide, a, by rw [if_pos a]; rfl⟩
  rw [if_neg a] at h ⊢
  by_cases b : isW T n s (wdl 16) = true
  · exact ⟨16, by decide, by decide, b, by rw [if_pos b]; rfl⟩
  rw [if_neg b] at h ⊢
  by_cases c : isW T n s (wdl 17) = true
  · exact ⟨17, by decide, by decide, c, by rw [if_pos c]; rfl⟩
  rw [if_neg c] at h ⊢
  by_cases e : isW T n s (wdl 18) = true
  · exact ⟨18, by decide, by decide, e, by rw [if_pos e]; rfl⟩
  rw [if_neg e] at h ⊢
  by_cases f : isW T n s (wdl 19) = true
  · exact ⟨19, by decide, by decide, f, by rw [if_pos f]; rfl⟩
  rw [if_neg f] at h
  exact absurd rfl h
theorem wS_nx {s : Int} (h : ¬ wS T n s = -1) : s + 3 ≤ nx T n s ∧ s < n := by
  obtain ⟨i, a, b, c, _⟩ := wS_w h
  have e := isW_nx c
  refine ⟨?_, isW_lt c⟩
  have : i = 15 ∨ i = 16 ∨ i = 17 ∨ i = 18 ∨ i = 19 := by omega
  rcases this with rfl | rfl | rfl | rfl | rfl
  · have : (wdl 15).length = 4 := rfl
    omega
  · have : (wdl 16).length = 5 := rfl
    omega
  · have : (wdl 17).length = 4 := rfl
    omega
  · have : (wdl 18).length = 3 := rfl
    omega
  · have : (wdl 19).length = 5 := rfl
    omega
theorem wS_b {s : Int} : -1 ≤ wS T n s ∧ wS T n s ≤ 4 := by
  by_cases h : wS T n s = -1
  · omega
  · obtain ⟨i, a, b, _, e⟩ := wS_w h; omega
theorem sS_lt {s : Int} (h : ¬ sS T n s = -1) : s < n := by
  unfold sS at h
  by_cases a : isS T n s 60 = true
  · exact isS_lt a
  rw [if_neg a] at h
  by_cases b : isS T n s 62 = true
  · exact isS_lt b
  rw [if_neg b] at h
  by_cases c : isS T n s 61 = true
  · exact isS_lt c
  rw [if_neg c] at h
  exact absurd rfl h
theorem sS_b {s : Int} : -1 ≤ sS T n s ∧ sS T n s ≤ 2 := by
  unfold sS
  split
  · decide
  · split
    · decide
    · split <;> decide
end MACH
