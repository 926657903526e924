/-! how the machine of numbers stands to the JVM's: addresses, values, cells, worlds -/
abbrev AG : Type := Nat × Nat × (Nat → Nat) × va_G × (Nat → ClassId)
def adr (G : AG) (x : Int) : Nat := if x = -5 then G.2.1 else if 1000000 ≤ x then G.2.2.1 (x - 1000000).toNat else G.1 + x.toNat
def rfo (G : AG) (x : Int) : Option Nat := if x = -1 then none else some (adr G x)
def tv (G : AG) (v : AV) : Value := if v.1 = 0 then .int (Int32.ofInt v.2) else if v.1 = 1 then .long (Int64.ofInt v.2) else va_rf (rfo G v.2)
def rI (x : Int) : Prop := -2147483648 ≤ x ∧ x < 2147483648
def rL (x : Int) : Prop := -9223372036854775808 ≤ x ∧ x < 9223372036854775808
def rR (x : Int) : Prop := x = -1 ∨ x = -5 ∨ 0 ≤ x
def okv (v : AV) : Prop := (v.1 = 0 → rI v.2) ∧ (v.1 = 1 → rL v.2) ∧ (v.1 = 2 → rR v.2)
def am_lng (i j : Int) : Prop := am_sh i = 12 ∨ am_ft (am_sh i) j.toNat = 1
def okG (g r : GH) : Prop := (∀ i j, ¬ am_lng i j → rI (g i j)) ∧ (∀ i j, rL (g i j)) ∧ ∀ i j, rR (r i j)
def fvl (G : AG) (ty : Nat) (x y : Int) : Value := if ty = 1 then .long (Int64.ofInt x) else if ty = 2 then va_rf (rfo G y) else .int (Int32.ofInt x)
def cellE (G : AG) (g r : GH) (i : Int) : va_E :=
  if am_sh i ≤ 9 then .inr (am_sh i, (List.range (am_nf (am_sh i))).map fun j => fvl G (am_ft (am_sh i) j) (g i (j : Int)) (r i (j : Int)))
  else if am_sh i = 12 then .inl (G.2.2.2.2 12, (am_ln i).toNat, .inr (.inl fun j => Int64.ofInt (g i (j : Int))))
  else if am_sh i = 14 ∨ am_sh i = 15 then .inl (G.2.2.2.2 (am_sh i), (am_ln i).toNat, .inr (.inr (.inr (.inr fun j => rfo G (r i (j : Int))))))
  else .inl (G.2.2.2.2 (am_sh i), (am_ln i).toNat, .inl fun j => Int32.ofInt (g i (j : Int)))
def wd (G : AG) (g r : GH) (n : Int) : va_W := (List.range n.toNat).map fun i => (G.1 + i, cellE G g r (i : Int))
def tyA (G : AG) : List (ClassId × FieldType) := [(G.2.2.2.2 10, .byte), (G.2.2.2.2 11, .int), (G.2.2.2.2 12, .long), (G.2.2.2.2 13, .boolean), (G.2.2.2.2 14, .object "MillRow$Mill"), (G.2.2.2.2 15, .object "MillRow$Brook")]
def lvl (G : AG) : Nat → List AV → List (Nat × Value)
  | _, [] => []
  | i, v :: t => if v.1 ≤ 2 then (i, tv G v) :: lvl G (i + 1) t else lvl G (i + 1) t
theorem tv_0 {G : AG} {x : Int} : tv G (0, x) = .int (Int32.ofInt x) := rfl
theorem tv_1 {G : AG} {x : Int} : tv G (1, x) = .long (Int64.ofInt x) := rfl
theorem tv_2 {G : AG} {x : Int} : tv G (2, x) = va_rf (rfo G x) := rfl
theorem wr_rng (x : Int) : rI (wr x) := ⟨Int32.le_toInt _, Int32.toInt_lt _⟩
theorem wL_rng (x : Int) : rL (wL x) := ⟨Int64.le_toInt _, Int64.toInt_lt _⟩
theorem wr_of (x : Int) : Int32.ofInt (wr x) = Int32.ofInt x := Int32.ofInt_toInt _
theorem wL_of (x : Int) : Int64.ofInt (wL x) = Int64.ofInt x := Int64.ofInt_toInt _
theorem wr_id {x : Int} (h : rI x) : wr x = x := Int32.toInt_ofInt_of_le h.1 h.2
theorem wL_id {x : Int} (h : rL x) : wL x = x := Int64.toInt_ofInt_of_le h.1 h.2
theorem i_eq {a b : Int} (ha : rI a) (hb : rI b) : Int32.ofInt a = Int32.ofInt b ↔ a = b := by
  rw [← Int32.toInt_inj, Int32.toInt_ofInt_of_le ha.1 ha.2, Int32.toInt_ofInt_of_le hb.1 hb.2]
theorem i_lt {a b : Int} (ha : rI a) (hb : rI b) : Int32.ofInt a < Int32.ofInt b ↔ a < b := by
  rw [Int32.lt_iff_toInt_lt, Int32.toInt_ofInt_of_le ha.1 ha.2, Int32.toInt_ofInt_of_le hb.1 hb.2]
theorem i_le {a b : Int} (ha : rI a) (hb : rI b) : Int32.ofInt a ≤ Int32.ofInt b ↔ a ≤ b := by
  rw [Int32.le_iff_toInt_le, Int32.toInt_ofInt_of_le ha.1 ha.2, Int32.toInt_ofInt_of_le hb.1 hb.2]
theorem l_eq {a b : Int} (ha : rL a) (hb : rL b) : Int64.ofInt a = Int64.ofInt b ↔ a = b := by
  rw [← Int64.toInt_inj, Int64.toInt_ofInt_of_le ha.1 ha.2, Int64.toInt_ofInt_of_le hb.1 hb.2]
theorem l_lt {a b : Int} (ha : rL a) (hb : rL b) : Int64.ofInt a < Int64.ofInt b ↔ a < b := by
  rw [Int64.lt_iff_toInt_lt, Int64.toInt_ofInt_of_le ha.1 ha.2, Int64.toInt_ofInt_of_le hb.1 hb.2]
theorem rI0 : rI 0 := ⟨by decide, by decide⟩
theorem rL0 : rL 0 := ⟨by decide, by decide⟩
theorem i_cl {j : Int} (h : rI j) : (Int32.ofInt j).toNatClampNeg = j.toNat := by
  show (Int32.ofInt j).toInt.toNat = j.toNat
  rw [Int32.toInt_ofInt_of_le h.1 h.2]
theorem i_in {j : Int} {N : Nat} (h : rI j) (h0 : 0 ≤ j) (h1 : j < (N : Int)) : vp_in (Int32.ofInt j) N := by
  rw [vp_in_iff, Int32.toInt_ofInt_of_le h.1 h.2]; exact ⟨h0, h1⟩
theorem i_nn {j : Int} (h : rI j) (h0 : 0 ≤ j) : ¬ Int32.ofInt j < 0 := by
  rw [show (0 : Int32) = Int32.ofInt 0 from rfl, i_lt h rI0]; omega
theorem ok0 {x : Int} (h : rI x) : okv (0, x) := ⟨fun _ => h, fun h => (by cases h), fun h => (by cases h)⟩
theorem ok1 {x : Int} (h : rL x) : okv (1, x) := ⟨fun h => (by cases h), fun _ => h, fun h => (by cases h)⟩
theorem ok2 {x : Int} (h : rR x) : okv (2, x) := ⟨fun h => (by cases h), fun h => (by cases h), fun _ => h⟩
theorem ok_r0 {x : Int} (h : okv (0, x)) : rI x := h.1 rfl
theorem ok_r1 {x : Int} (h : okv (1, x)) : rL x := h.2.1 rfl
theorem ok_r2 {x : Int} (h : okv (2, x)) : rR x := h.2.2 rfl
theorem tv_cat {G : AG} {v : AV} : (tv G v).category = if v.1 = 1 then 2 else 1 := by
  unfold tv
  split
  · rename_i h; rw [h]; rfl
  · split
    · rfl
    · cases rfo G v.2 <;> rfl
theorem cat_map {G : AG} (st : List AV) : ((st.map (tv G)).map fun v => v.category).sum = am_cat st := by
  unfold am_cat
  rw [List.map_map]
  congr 1
  apply List.map_congr_left
  intro v _
  exact tv_cat
theorem adr_o {G : AG} {x : Int} (h0 : 0 ≤ x) (h1 : x < 1000000) : adr G x = G.1 + x.toNat := by
  unfold adr; rw [if_neg (by omega), if_neg (by omega)]
theorem tv_o {G : AG} {x : Int} (h0 : 0 ≤ x) (h1 : x < 1000000) : tv G (2, x) = .ref (G.1 + x.toNat) := by
  rw [tv_2, rfo, if_neg (by omega), adr_o h0 h1]; rfl
/-! locals -/
theorem lvl_mem {G : AG} : ∀ (ls : List AV) (a i : Nat) (x : Value), (i, x) ∈ lvl G a ls ↔ ∃ v : AV, a ≤ i ∧ ls[i - a]? = some v ∧ v.1 ≤ 2 ∧ x = tv G v
  | [], a, i, x => by simp [lvl]
  | v :: t, a, i, x => by
    have ih := lvl_mem (G := G) t (a + 1) i x
    have key : (∃ w : AV, a ≤ i ∧ (v :: t)[i - a]? = some w ∧ w.1 ≤ 2 ∧ x = tv G w) ↔ (i = a ∧ v.1 ≤ 2 ∧ x = tv G v) ∨ ∃ w : AV, a + 1 ≤ i ∧ t[i - (a + 1)]? = some w ∧ w.1 ≤ 2 ∧ x = tv G w := by
      constructor
      · rintro ⟨w, h1, h2, h3, h4⟩
        by_cases hi : i = a
        · subst hi
          rw [Nat.sub_self, List.getElem?_cons_zero] at h2
          cases h2
          exact Or.inl ⟨rfl, h3, h4⟩
        · rw [show i - a = (i - (a + 1)) + 1 by omega, List.getElem?_cons_succ] at h2
          exact Or.inr ⟨w, by omega, h2, h3, h4⟩
      · rintro (⟨rfl, h3, h4⟩ | ⟨w, h1, h2, h3, h4⟩)
        · exact ⟨v, Nat.le_refl _, by rw [Nat.sub_self, List.getElem?_cons_zero], h3, h4⟩
        · exact ⟨w, by omega, by rw [show i - a = (i - (a + 1)) + 1 by omega, List.getElem?_cons_succ]; exact h2, h3, h4⟩
    rw [key]
    unfold lvl
    split
    · rename_i h
      rw [List.mem_cons, ih]
      constructor
      · rintro (h1 | h1)
        · cases h1; exact Or.inl ⟨rfl, h, rfl⟩
        · exact Or.inr h1
      · rintro (⟨rfl, -, rfl⟩ | h1)
        · exact Or.inl rfl
        · exact Or.inr h1
    · rename_i h
      rw [ih]
      constructor
      · exact Or.inr
      · rintro (⟨-, h2, -⟩ | h1)
        · exact absurd h2 h
        · exact h1
theorem lvl_at {G : AG} {ls : List AV} {i t : Nat} {x : Int} {lsM : Array Slot} {nL : Nat} (h : lv_has lsM nL (lvl G 0 ls)) (hi : ls[i]? = some (t, x)) (ht : t ≤ 2) : lsM[i]? = some (.val (tv G (t, x))) :=
  h.2.2 (i, tv G (t, x)) ((lvl_mem ls 0 i _).mpr ⟨(t, x), Nat.zero_le _, hi, ht, rfl⟩)
theorem lv_weak {lsM : Array Slot} {nL : Nat} {l1 l2 : List (Nat × Value)} (h : lv_has lsM nL l1) (hs : ∀ q ∈ l2, q ∈ l1) : lv_has lsM nL l2 := ⟨h.1, h.2.1, fun q hq => h.2.2 q (hs q hq)⟩
theorem kill_at {ls : List AV} {i j : Nat} {w : AV} (h : (am_kill ls i)[j]? = some w) (hw : w.1 ≤ 2) : ls[j]? = some w ∧ (j + 1 = i → w.1 ≠ 1) := by
  unfold am_kill at h
  split at h
  · exact ⟨h, fun e => by omega⟩
  · rename_i j0
    split at h
    · rename_i v hv
      by_cases hj : j0 = j
      · subst hj
        have hl := (List.getElem?_eq_some_iff.mp hv).1
        rw [List.getElem?_set_self hl] at h
        cases h
        exact absurd hw (by decide)
      · rw [List.getElem?_set_ne hj] at h
        exact ⟨h, fun e => by omega⟩
    · rename_i hn
      refine ⟨h, fun e h1 => ?_⟩
      have hj : j0 = j := by omega
      subst hj
      obtain ⟨w1, w2⟩ := w
      dsimp only at h1
      subst h1
      exact hn w2 h
theorem st1_sub {G : AG} {ls : List AV} {i : Nat} {v : AV} : ∀ q ∈ lvl G 0 (am_st1 ls i v), q ∈ (i, tv G v) :: (lvl G 0 ls).filter (fun q => !(q.1 == i) && !(q.1 + 1 == i && q.2.category == 2)) := by
  rintro ⟨j, x⟩ hq
  obtain ⟨w, -, h2, h3, rfl⟩ := (lvl_mem _ _ _ _).mp hq
  rw [Nat.sub_zero, am_st1] at h2
  by_cases hj : i = j
  · subst hj
    have hl : i < (am_kill ls i).length := by
      have := (List.getElem?_eq_some_iff.mp h2).1
      rwa [List.length_set] at this
    rw [List.getElem?_set_self hl] at h2
    cases h2
    exact List.mem_cons_self
  · rw [List.getElem?_set_ne hj] at h2
    obtain ⟨k1, k2⟩ := kill_at h2 h3
    refine List.mem_cons_of_mem _ (List.mem_filter.mpr ⟨(lvl_mem _ _ _ _).mpr ⟨w, Nat.zero_le _, k1, h3, rfl⟩, ?_⟩)
    simp only [Bool.and_eq_true, Bool.not_eq_true', beq_eq_false_iff_ne, ne_eq, Bool.and_eq_false_iff, tv_cat]
    refine ⟨fun e => hj e.symm, ?_⟩
    by_cases e : j + 1 = i
    · right; rw [if_neg (k2 e)]; decide
    · exact Or.inl e
theorem st2_sub {G : AG} {ls : List AV} {i : Nat} {v : AV} : ∀ q ∈ lvl G 0 (am_st2 ls i v), q ∈ (i, tv G v) :: (lvl G 0 ls).filter (fun q => !(q.1 == i) && (!(q.1 == i + 1) && !(q.1 + 1 == i && q.2.category == 2))) := by
  rintro ⟨j, x⟩ hq
  obtain ⟨w, -, h2, h3, rfl⟩ := (lvl_mem _ _ _ _).mp hq
  rw [Nat.sub_zero, am_st2] at h2
  by_cases hj1 : i + 1 = j
  · subst hj1
    have hl : i + 1 < ((am_kill ls i).set i v).length := by
      have := (List.getElem?_eq_some_iff.mp h2).1
      rwa [List.length_set] at this
    rw [List.getElem?_set_self hl] at h2
    cases h2
    exact absurd h3 (by decide)
  · rw [List.getElem?_set_ne hj1] at h2
    by_cases hj : i = j
    · subst hj
      have hl : i < (am_kill ls i).length := by
        have := (List.getElem?_eq_some_iff.mp h2).1
        rwa [List.length_set] at this
      rw [List.getElem?_set_self hl] at h2
      cases h2
      exact List.mem_cons_self
    · rw [List.getElem?_set_ne hj] at h2
      obtain ⟨k1, k2⟩ := kill_at h2 h3
      refine List.mem_cons_of_mem _ (List.mem_filter.mpr ⟨(lvl_mem _ _ _ _).mpr ⟨w, Nat.zero_le _, k1, h3, rfl⟩, ?_⟩)
      simp only [Bool.and_eq_true, Bool.not_eq_true', beq_eq_false_iff_ne, ne_eq, Bool.and_eq_false_iff, tv_cat]
      refine ⟨fun e => hj e.symm, fun e => hj1 e.symm, ?_⟩
      by_cases e : j + 1 = i
      · right; rw [if_neg (k2 e)]; decide
      · exact Or.inl e
theorem kill_len (ls : List AV) (i : Nat) : (am_kill ls i).length = ls.length := by
  unfold am_kill; split
  · rfl
  · split
    · exact List.length_set
    · rfl
theorem st1_len (ls : List AV) (i : Nat) (v : AV) : (am_st1 ls i v).length = ls.length := by rw [am_st1, List.length_set, kill_len]
theorem st2_len (ls : List AV) (i : Nat) (v : AV) : (am_st2 ls i v).length = ls.length := by rw [am_st2, List.length_set, List.length_set, kill_len]
theorem mem_set_or {α : Type} {l : List α} {i : Nat} {v w : α} (h : w ∈ l.set i v) : w ∈ l ∨ w = v := by
  rcases List.mem_or_eq_of_mem_set h with h | h
  · exact Or.inl h
  · exact Or.inr h
theorem ok_8 {t : Nat} {x : Int} (h : 2 < t) : okv (t, x) := ⟨fun e => absurd e (show t ≠ 0 by omega), fun e => absurd e (show t ≠ 1 by omega), fun e => absurd e (show t ≠ 2 by omega)⟩
theorem kill_ok {ls : List AV} {i : Nat} (h : ∀ w ∈ ls, okv w) : ∀ w ∈ am_kill ls i, okv w := by
  unfold am_kill; split
  · exact h
  · split
    · intro w hw
      rcases mem_set_or hw with hw | rfl
      · exact h w hw
      · exact ok_8 (by decide)
    · exact h
theorem st1_ok {ls : List AV} {i : Nat} {v : AV} (h : ∀ w ∈ ls, okv w) (hv : okv v) : ∀ w ∈ am_st1 ls i v, okv w := by
  intro w hw
  rcases mem_set_or hw with hw | rfl
  · exact kill_ok h w hw
  · exact hv
theorem st2_ok {ls : List AV} {i : Nat} {v : AV} (h : ∀ w ∈ ls, okv w) (hv : okv v) : ∀ w ∈ am_st2 ls i v, okv w := by
  intro w hw
  rcases mem_set_or hw with hw | rfl
  · rcases mem_set_or hw with hw | rfl
    · exact kill_ok h w hw
    · exact hv
  · exact ok_8 (by decide)
/-! stacks -/
theorem am_p_inv {t : Nat} {st : List AV} {f : Int → List AV → Prop} (h : am_p t st f) : ∃ x s, st = (t, x) :: s ∧ f x s := by
  unfold am_p at h
  split at h
  · exact h.elim
  · rename_i v s
    split at h
    · rename_i e; exact ⟨v.2, s, by rw [← e], h⟩
    · exact h.elim
theorem am_p2_inv {t u : Nat} {st : List AV} {f : Int → Int → List AV → Prop} (h : am_p2 t u st f) : ∃ x y s, st = (u, y) :: (t, x) :: s ∧ f x y s := by
  obtain ⟨y, s, e1, h1⟩ := am_p_inv h
  obtain ⟨x, s2, e2, h2⟩ := am_p_inv h1
  exact ⟨x, y, s2, by rw [e1, e2], h2⟩
theorem am_len_inv {a b : Nat} {q : Prop} (h : am_len a b q) : a = b ∧ q := by
  unfold am_len at h; split at h
  · exact ⟨‹_›, h⟩
  · exact h.elim
theorem am_b_inv {b : Bool} {q : Prop} (h : am_b b q) : b = true ∧ q := by
  unfold am_b at h; split at h
  · exact ⟨‹_›, h⟩
  · exact h.elim
theorem am_ld_inv {ls : List AV} {i t : Nat} {f : Int → Prop} (h : am_ld ls i t f) : ∃ x, ls[i]? = some (t, x) ∧ f x := by
  unfold am_ld at h
  split at h
  · exact h.elim
  · rename_i v hv
    split at h
    · rename_i e; exact ⟨v.2, by rw [hv, ← e], h⟩
    · exact h.elim
theorem am_j_inv {pc : Nat} {o : Int} {f : Nat → Prop} (h : am_j pc o f) : ∃ t : Nat, (pc : Int) + o = (t : Int) ∧ f t := by
  unfold am_j at h; split at h
  · exact ⟨_, by omega, h⟩
  · exact h.elim
theorem am_popN_inv : ∀ (m : Nat) (st : List AV) {f : List AV → List AV → Prop}, am_popN m st f → ∃ as s, as.length = m ∧ st = as.reverse ++ s ∧ f as s
  | 0, st, f, h => ⟨[], st, rfl, rfl, h⟩
  | m + 1, [], f, h => h.elim
  | m + 1, v :: s, f, h => by
    obtain ⟨as, s2, h1, h2, h3⟩ := am_popN_inv m s h
    exact ⟨as ++ [v], s2, by rw [List.length_append, h1]; rfl, by rw [h2, List.reverse_append]; rfl, h3⟩
