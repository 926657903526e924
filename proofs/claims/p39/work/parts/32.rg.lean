/-! places that nobody reads any more may be forgotten -/
def LEl (a b : List AV) : Prop := a.length = b.length ∧ ∀ i : Nat, a[i]? = b[i]? ∨ a[i]? = some (9, 0)
theorem LEl.set {a b : List AV} (h : LEl a b) (j : Nat) (v : AV) : LEl (a.set j v) (b.set j v) := by
  refine ⟨by rw [List.length_set, List.length_set]; exact h.1, fun i => ?_⟩
  by_cases e : j = i
  · subst e
    by_cases hl : j < a.length
    · rw [List.getElem?_set_self hl, List.getElem?_set_self (h.1 ▸ hl)]; exact Or.inl rfl
    · rw [List.getElem?_eq_none (by rw [List.length_set]; omega), List.getElem?_eq_none (by rw [List.length_set]; have := h.1; omega)]; exact Or.inl rfl
  · rw [List.getElem?_set_ne e, List.getElem?_set_ne e]; exact h.2 i
theorem LEl.setR {a b : List AV} (h : LEl a b) (j : Nat) (v : AV) (w : a[j]? = some (9, 0) ∨ a[j]? = none) : LEl a (b.set j v) := by
  refine ⟨by rw [List.length_set]; exact h.1, fun i => ?_⟩
  by_cases e : j = i
  · subst e
    rcases w with w | w
    · exact Or.inr w
    · rw [w, List.getElem?_eq_none (by rw [List.length_set, ← h.1]; exact List.getElem?_eq_none_iff.mp w)]; exact Or.inl rfl
  · rw [List.getElem?_set_ne e]; exact h.2 i
theorem LEl.kill {a b : List AV} (h : LEl a b) : ∀ i, LEl (am_kill a i) (am_kill b i)
  | 0 => h
  | j + 1 => by
    unfold am_kill
    dsimp only
    rcases h.2 j with e | e
    · rw [e]
      split
      · exact h.set _ _
      · exact h
    · rw [e]
      show LEl a _
      split
      · exact h.setR _ _ (Or.inl e)
      · exact h
theorem LEl.st1 {a b : List AV} (h : LEl a b) (i : Nat) (v : AV) : LEl (am_st1 a i v) (am_st1 b i v) := (h.kill i).set i v
theorem LEl.st2 {a b : List AV} (h : LEl a b) (i : Nat) (v : AV) : LEl (am_st2 a i v) (am_st2 b i v) := ((h.kill i).set i v).set (i + 1) (8, 0)
theorem LEl.ld {a b : List AV} (h : LEl a b) {i t : Nat} {f f2 : Int → Prop} (ht : t ≠ 9) (hf : ∀ v, f v → f2 v) (w : am_ld a i t f) : am_ld b i t f2 := by
  unfold am_ld at w ⊢
  rcases h.2 i with e | e
  · rw [e] at w
    split at w
    · exact w.elim
    · rename_i v hv
      split at w
      · rename_i h1; rw [if_pos h1]; exact hf _ w
      · exact w.elim
  · rw [e] at w
    dsimp only at w
    rw [if_neg (by exact fun h => ht h.symm)] at w
    exact w.elim
set_option maxHeartbeats 4000000 in
theorem stI_weak {sc : SCR} {d : Nat} {C : CTR} {k : Nat} {n0 : Int} {Q : Int → GH → GH → Int → Prop} {X X2 : XT} (hC : CMono C) (hX : ∀ pc a b st g r n, LEl a b → X pc a st g r n → X2 pc b st g r n) {a b : List AV} (hab : LEl a b) {pc : Nat} {st : List AV} {g r : GH} {n : Int} (i : Instr) (len : Nat) :
    stI sc d C k n0 Q X pc a st g r n i len → stI sc d C k n0 Q X2 pc b st g r n i len := by
  have key := stI_mono (sc := sc) (d := d) (k := k) (n0 := n0) (X := fun pc _ st g r n => X pc a st g r n) (X2 := fun pc _ st g r n => X2 pc b st g r n) (Q := Q) (Q2 := Q) (C := C) hC (fun _ _ _ _ h => h) (fun pc ls st g r n w => hX pc a b st g r n hab w) (pc := pc) (ls := a) (st := st) (g := g) (r := r) (n := n) i len
  cases i
  case iload_n j => exact am_len_mono (hab.ld (by decide) fun _ => hX _ _ _ _ _ _ _ hab)
  case iload j => exact am_len_mono (hab.ld (by decide) fun _ => hX _ _ _ _ _ _ _ hab)
  case lload_n j => exact am_len_mono (hab.ld (by decide) fun _ => hX _ _ _ _ _ _ _ hab)
  case lload j => exact am_len_mono (hab.ld (by decide) fun _ => hX _ _ _ _ _ _ _ hab)
  case aload_n j => exact am_len_mono (hab.ld (by decide) fun _ => hX _ _ _ _ _ _ _ hab)
  case aload j => exact am_len_mono (hab.ld (by decide) fun _ => hX _ _ _ _ _ _ _ hab)
  case istore_n j => exact am_len_mono (am_b_mono (am_p_mono fun _ _ => hX _ _ _ _ _ _ _ (hab.st1 _ _)))
  case istore j => exact am_len_mono (am_b_mono (am_p_mono fun _ _ => hX _ _ _ _ _ _ _ (hab.st1 _ _)))
  case astore_n j => exact am_len_mono (am_b_mono (am_p_mono fun _ _ => hX _ _ _ _ _ _ _ (hab.st1 _ _)))
  case astore j => exact am_len_mono (am_b_mono (am_p_mono fun _ _ => hX _ _ _ _ _ _ _ (hab.st1 _ _)))
  case lstore_n j => exact am_len_mono (am_b_mono (am_p_mono fun _ _ => hX _ _ _ _ _ _ _ (hab.st2 _ _)))
  case lstore j => exact am_len_mono (am_b_mono (am_p_mono fun _ _ => hX _ _ _ _ _ _ _ (hab.st2 _ _)))
  case iinc j c => exact am_len_mono (am_b_mono (hab.ld (by decide) fun _ => hX _ _ _ _ _ _ _ (hab.st1 _ _)))
  all_goals exact key
theorem WP_weak {sc : SCR} {d : Nat} {C : CTR} {k : Nat} {n0 : Int} {Q : Int → GH → GH → Int → Prop} (hC : CMono C) {pc : Nat} {a b : List AV} {st : List AV} {g r : GH} {n : Int} (hab : LEl a b) (h : WP sc d C k n0 Q pc a st g r n) : WP sc d C k n0 Q pc b st g r n := by
  refine h (fun pc a st g r n => ∀ b, LEl a b → WP sc d C k n0 Q pc b st g r n) (fun pc a st g r n w b hab => ?_) b hab
  rw [WP_unf hC]
  unfold stp at w ⊢
  split at w
  · exact stI_weak hC (fun pc a b st g r n h w => w b h) hab _ _ w
  · exact w.elim
theorem LEl.cons {a b : List AV} (h : LEl a b) (v : AV) : LEl (v :: a) (v :: b) :=
  ⟨by rw [List.length_cons, List.length_cons, h.1], fun i => match i with
    | 0 => Or.inl rfl
    | i + 1 => by rw [List.getElem?_cons_succ, List.getElem?_cons_succ]; exact h.2 i⟩
theorem LEl.forget {a b : List AV} (h : LEl a b) (v : AV) : LEl ((9, 0) :: a) (v :: b) :=
  ⟨by rw [List.length_cons, List.length_cons, h.1], fun i => match i with
    | 0 => Or.inr rfl
    | i + 1 => by rw [List.getElem?_cons_succ, List.getElem?_cons_succ]; exact h.2 i⟩
theorem LEl.rf (a : List AV) : LEl a a := ⟨rfl, fun _ => Or.inl rfl⟩
theorem msk_LE : ∀ (ls : List AV) (i : Nat) (ds : List Nat), LEl (mskL i ds ls) ls
  | [], _, _ => LEl.rf _
  | v :: t, i, [] => LEl.rf _
  | v :: t, i, j :: js => by
    unfold mskL
    dsimp only
    split
    · exact (msk_LE t (i + 1) js).forget v
    · exact (msk_LE t (i + 1) (j :: js)).cons v
theorem lkJ_mem {α : Type} {pc : Nat} : ∀ {L : List (Nat × α)} {e : Nat × α}, lkJ pc L = some e → e ∈ L ∧ e.1 = pc
  | [], _, h => by cases h
  | (a, b) :: t, e, h => by
    unfold lkJ at h
    dsimp only at h
    split at h
    · rename_i hb
      have := Nat.eq_of_beq_eq_true hb; subst this
      cases h
      exact ⟨List.mem_cons_self, rfl⟩
    · exact ⟨List.mem_cons_of_mem _ (lkJ_mem h).1, (lkJ_mem h).2⟩
theorem st_WQ {sc : SCR} {d k : Nat} {Q : QJ} {X : XJ} (hX : ∀ pc ls st g r, X pc ls st g r → WQ sc d k Q pc ls st g r) {pc : Nat} {ls st : List AV} {g r : GH} {e : EJ} (hv : vld k (pc, e) = true)
    (h : stJ sc d (Ce sc d) k Q X pc ls st g r e) : WQ sc d k Q pc ls st g r := by
  obtain ⟨i, len, hh⟩ := e
  obtain ⟨h1, h2⟩ := b2 hv
  unfold WQ
  rw [WP_unf (Cd_mono sc d)]
  unfold stp
  dsimp only at h1
  cases hd : decode (am_code k) pc with
  | error _ => rw [hd] at h1; cases h1
  | ok f =>
    rw [hd] at h1
    obtain ⟨f1, f2⟩ := f
    obtain ⟨a, b⟩ := b2 h1
    have a := of_decide_eq_true a
    have b := ne_e b
    dsimp only at a b
    subst a; subst b
    exact stJ_stI hX h2 h
theorem RG_WQ {sc : SCR} {d k : Nat} {Q : QJ} {L : List (Nat × EJ)} {M : List (Nat × List Nat)} (hL : L.all (vld k) = true) : ∀ (f : Nat) (pc : Nat) (ls st : List AV) (g r : GH), RG sc d (Ce sc d) k Q (WQ sc d k Q) L M f pc ls st g r → WQ sc d k Q pc ls st g r
  | 0, _, _, _, _, _, h => h
  | f + 1, pc, ls, st, g, r, h => by
    unfold RG at h
    split at h
    · rename_i e he
      obtain ⟨h1, rfl⟩ := lkJ_mem he
      exact st_WQ (RG_WQ hL f) (List.all_eq_true.mp hL _ h1) h
    · split at h
      · rename_i ds hds
        obtain ⟨h1, rfl⟩ := lkJ_mem hds
        exact WP_weak (Cd_mono sc d) (msk_LE _ _ _) h
      · exact h
/-- a piece of code: its first step, then as far as the table reaches -/
theorem RS_WQ {sc : SCR} {d k : Nat} {Q : QJ} {L : List (Nat × EJ)} {M : List (Nat × List Nat)} {e : Nat × EJ} (hL : (e :: L).all (vld k) = true) (f : Nat) {ls st : List AV} {g r : GH}
    (h : stJ sc d (Ce sc d) k Q (RG sc d (Ce sc d) k Q (WQ sc d k Q) L M f) e.1 ls st g r e.2) : WQ sc d k Q e.1 ls st g r :=
  st_WQ (RG_WQ (List.all_eq_true.mpr fun x hx => List.all_eq_true.mp hL x (List.mem_cons_of_mem _ hx)) f) (List.all_eq_true.mp hL _ List.mem_cons_self) h
theorem Ce_of {sc : SCR} {d k : Nat} {Q : QJ} {as : List AV} {g r : GH} (hl : (Nat.ble (am_lay as).length (am_maxL k) && Nat.beq (am_mk k) 0) = true) (h : WQ sc d k Q 0 (am_ent (am_maxL k) as) [] g r) : Ce sc (d + 1) k as g r Q := by
  obtain ⟨h1, h2⟩ := b2 hl
  have h2 := Nat.eq_of_beq_eq_true h2
  unfold WQ at h
  rw [h2] at h
  exact   ⟨Nat.le_of_ble_eq_true h1, WP_mono (Cd_mono sc d) (Q := fun v g r _ => Q v g r) (Q2 := fun v g r n => n = 218 → Q v g r) (fun v g r n w _ => w) h⟩
theorem Ce_mono {sc : SCR} {d k : Nat} {Q P : QJ} {as : List AV} {g r : GH} (h : Ce sc d k as g r Q) (hq : ∀ v g r, Q v g r → P v g r) : Ce sc d k as g r P :=
  Cd_mono sc d _ _ _ _ _ _ _ (fun v g r _ w e => hq v g r (w e)) h
