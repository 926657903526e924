/-! the equations' machine is sound for the machine of numbers -/
theorem b2 {a b : Bool} (h : (a && b) = true) : a = true ∧ b = true := by cases a <;> cases b <;> first | exact ⟨rfl, rfl⟩ | cases h
theorem ne_e {a b : Nat} (h : (a == b) = true) : a = b := eq_of_beq h
theorem jp_am {t : Nat} {st : List AV} {f g : Int → List AV → Prop} (hf : ∀ v s, f v s → g v s) (h : jp t st f) : am_p t st g := by
  obtain ⟨v, s, rfl, w⟩ := jp_e h
  exact am_p_i (hf _ _ w)
theorem jcall_st {sc : SCR} {d k : Nat} {X : XJ} {Y : XT} (hX : ∀ pc ls st g r, X pc ls st g r → Y pc ls st g r 218) {pc : Nat} {ls st : List AV} {g r : GH} {h1 h2 h3 h4 : Nat} {rc : Int} {w : Nat}
    (e4 : am_kd (am_own h1) = h4) (e5 : (am_rc h1 : Int) = rc) (e6 : (h3 == 4 || h3 == 6 || h3 == 7 || am_mk h1 == 0) = true) (h : jcall sc d (Ce sc d) X pc ls st g r (h1, h2, h3, h4, rc)) : stCall d (Cd sc d) k (218 - (am_mk k : Int)) Y pc ls st g r 218 (h1, h2, h3, w) := by
  subst e4; subst e5
  have e7 : h3 = 0 ∨ h3 = 1 ∨ h3 = 5 → am_mk h1 = 0 := by
    intro h
    rcases Bool.or_eq_true_iff.mp e6 with e | e
    · rcases Bool.or_eq_true_iff.mp e with e | e
      · rcases Bool.or_eq_true_iff.mp e with e | e
        · have := ne_e e; omega
        · have := ne_e e; omega
      · have := ne_e e; omega
    · exact ne_e e
  have hcell : (h3 = 0 ∨ h3 = 1 ∨ h3 = 5) → cellsOK k (218 - (am_mk k : Int)) h1 218 := fun w h => absurd (e7 w) h
  have hp : ∀ (v : Int) (s : List AV), jpush (am_rc h1 : Int).toNat v s = am_push (am_rc h1) v s := by
    intro v s
    rw [Int.toNat_natCast]
    unfold jpush am_push
    split
    · rename_i h; rw [if_pos h]
    · rename_i h; rw [if_neg (by omega), if_pos h]
    · rename_i h; rw [if_neg (by omega), if_neg (by omega), if_pos h]
    · rename_i a b c; rw [if_neg a, if_neg b, if_neg c]
  have hc : (h3 = 0 ∨ h3 = 1 ∨ h3 = 5) → ∀ {s2 : List AV} {as : List AV} {g r : GH}, Ce sc d h1 as g r (fun v g2 r2 => X (pc + 3) ls (jpush (am_rc h1 : Int).toNat v s2) g2 r2) → Cd sc d h1 as g r 218 (fun v g2 r2 n2 => Y (pc + 3) ls (am_push (am_rc h1) v s2) g2 r2 n2) := by
    intro hm s2 as g r w
    refine Ce_Cd (e7 hm) w fun v g r w => ?_
    rw [hp] at w
    exact hX _ _ _ _ _ w
  have hb : ∀ {s : List AV}, Nat.ble (jc s) 8 = true → am_cat s ≤ 8 := fun {s} h => by rw [← jc_cat]; exact Nat.le_of_ble_eq_true h
  have hp2 : ∀ {v : Int} {s : List AV} {f : Int → List AV → Prop}, f v s → am_p 2 ((2, v) :: s) f := fun h => am_p_i h
  unfold jcall at h
  dsimp only at h
  unfold stCall
  dsimp only
  split at h
  · refine jN_am _ (fun as s w => ?_) h
    refine jp_am (fun x s2 w => ?_) w
    obtain ⟨b, w1, w2⟩ := jb_e w
    exact ⟨w1, hb b, hcell (by decide), hc (by decide) w2⟩
  · refine jN_am _ (fun as s w => ?_) h
    obtain ⟨b, w2⟩ := jb_e w
    exact ⟨hb b, hcell (by decide), hc (by decide) w2⟩
  · refine jN_am _ (fun as s w => ?_) h
    obtain ⟨b, w2⟩ := jb_e w
    exact ⟨hb b, hcell (by decide), hc (by decide) w2⟩
  · refine jp_am (fun len s h => jp_am (fun dp s h => jp_am (fun dst s h => jp_am (fun sp s h => jp_am (fun src s3 h => ?_) h) h) h) h) h
    obtain ⟨b, ⟨a1, a2, a3, a4, a5, a6⟩, h⟩ := jb_e h
    exact ⟨hb b, a1, a2, a3, a4, a5, a6, hX _ _ _ _ _ (h _ rfl)⟩
  · refine jp_am (fun x s h => ?_) h
    obtain ⟨b, ⟨a1, a2⟩, h⟩ := jb_e h
    exact ⟨hb b, a1, a2, hX _ _ _ _ _ h⟩
  · refine jp_am (fun j s h => jp_am (fun x s h => ?_) h) h
    obtain ⟨b, ⟨a1, a2, a3, a4⟩, h⟩ := jb_e h
    exact ⟨hb b, a1, a2, a3, a4, hX _ _ _ _ _ h⟩
  · exact h.elim
theorem am_j_i {pc t : Nat} {o : Int} {f : Nat → Prop} (h : (pc : Int) + o = (t : Int)) (w : f t) : am_j pc o f := by
  unfold am_j
  rw [h, if_pos (by omega), Int.toNat_natCast]; exact w
theorem am_b_i {b : Bool} {q : Prop} (h : b = true) (w : q) : am_b b q := by unfold am_b; rw [if_pos h]; exact w
theorem jld_am : ∀ {ls : List AV} {i t : Nat} {f g : Int → Prop}, (∀ v, f v → g v) → jld ls i t f → am_ld ls i t g
  | [], _, _, _, _, _, h => h.elim
  | (u, x) :: s, 0, t, f, g, hf, h => by
    obtain ⟨h1, h2⟩ := jb_e h
    have := Nat.eq_of_beq_eq_true h1; subst this
    show (if u = u then g x else False)
    rw [if_pos rfl]; exact hf _ h2
  | a :: s, i + 1, t, f, g, hf, h => jld_am (ls := s) hf h
theorem jset_e : ∀ (ls : List AV) (i : Nat) (v : AV) (k : List AV → Prop), jset ls i v k = k (ls.set i v)
  | [], _, _, _ => rfl
  | _ :: _, 0, _, _ => rfl
  | a :: s, i + 1, v, k => jset_e s i v _
theorem jst_e : ∀ (ls : List AV) (i : Nat) (v : AV) (k : List AV → Prop), jst ls i v k = k (am_st1 ls i v)
  | [], i, v, k => by
    show k [] = _
    unfold am_st1 am_kill
    cases i <;> rfl
  | _ :: _, 0, _, _ => rfl
  | (u, x) :: s, 1, v, k => by
    unfold jst
    split
    · rw [jset_e]; rfl
    · rename_i hu
      rw [jset_e]
      have : am_kill ((u, x) :: s) 1 = (u, x) :: s := by
        unfold am_kill
        dsimp only
        split
        · rename_i h; cases h; exact absurd rfl hu
        · rfl
      unfold am_st1
      rw [this]; rfl
  | a :: s, i + 2, v, k => by
    unfold jst
    rw [jst_e s (i + 1) v]
    have : am_kill (a :: s) (i + 2) = a :: am_kill s (i + 1) := by
      unfold am_kill
      dsimp only
      rw [List.getElem?_cons_succ]
      split <;> rfl
    unfold am_st1
    rw [this]; rfl
set_option maxHeartbeats 4000000 in
theorem stJ_stI {sc : SCR} {d k : Nat} {Q : QJ} {X : XJ} {Y : XT} (hX : ∀ pc ls st g r, X pc ls st g r → Y pc ls st g r 218) {pc : Nat} {ls st : List AV} {g r : GH} {i : Instr} {len : Nat} {hh : HJ} (hv : vI pc k i len hh = true)
    (h : stJ sc d (Ce sc d) k Q X pc ls st g r (i, len, hh)) : stI sc d (Cd sc d) k (218 - (am_mk k : Int)) (fun v g r _ => Q v g r) Y pc ls st g r 218 i len := by
  obtain ⟨h1, h2, h3, h4, c⟩ := hh
  have hm : ∀ pc ls st g r n, (fun pc ls st g r (_ : Int) => X pc ls st g r) pc ls st g r n → (fun pc ls st g r (_ : Int) => X pc ls st g r) pc ls st g r n := fun _ _ _ _ _ _ h => h
  cases i
  case getfield idx =>
    unfold stJ at h; dsimp only at h
    obtain ⟨hl, hv⟩ := b2 hv
    unfold stI; dsimp only
    refine len_i (ne_e hl) ?_
    cases hf : am_at k idx am_FL with
    | none => rw [hf] at hv; cases hv
    | some f =>
      rw [hf] at hv
      obtain ⟨f1, f2, f3, f4⟩ := f
      dsimp only at hv ⊢
      obtain ⟨hv, e3⟩ := b2 hv
      obtain ⟨e1, e2⟩ := b2 hv
      have e1 := ne_e e1
      have e2 := ne_e e2
      subst e1; subst e2
      refine jp_am (fun x s h => ?_) h
      refine ⟨h.1, ?_⟩
      replace h := h.2
      split at e3
      · have := ne_e e3; subst this; exact hX _ _ _ _ _ h
      · have := ne_e e3; subst this; exact hX _ _ _ _ _ h
      · have := ne_e e3; subst this; exact hX _ _ _ _ _ h
      · have := ne_e e3; subst this; exact hX _ _ _ _ _ h
      · cases e3
  case putfield idx =>
    unfold stJ at h; dsimp only at h
    obtain ⟨hl, hv⟩ := b2 hv
    unfold stI; dsimp only
    refine len_i (ne_e hl) ?_
    cases hf : am_at k idx am_FL with
    | none => rw [hf] at hv; cases hv
    | some f =>
      rw [hf] at hv
      obtain ⟨f1, f2, f3, f4, f5⟩ := f
      dsimp only at hv ⊢
      obtain ⟨hv, e5⟩ := b2 hv
      obtain ⟨hv, e4⟩ := b2 hv
      obtain ⟨hv, e3⟩ := b2 hv
      obtain ⟨e1, e2⟩ := b2 hv
      have e1 := ne_e e1
      have e2 := ne_e e2
      have e3 := ne_e e3
      have e4 := Nat.le_of_ble_eq_true e4
      subst e1; subst e2; subst e3
      have hfin : f4 = true → am_isI k = true ∧ am_kd (am_own k) = f1 := fun h => by rw [h] at e5; cases e5
      cases st with
      | nil => exact h.elim
      | cons v s =>
        obtain ⟨t, v⟩ := v
        dsimp only at h
        obtain ⟨x, s', e0, h'⟩ := jp_e h
        clear h; subst e0
        have h := h'; clear h'
        split at h
        · obtain ⟨b, ho, hq⟩ := jb_e h
          have := Nat.eq_of_beq_eq_true b; subst this
          refine am_p_i (am_p_i ⟨ho, hfin, ?_⟩)
          exact hX _ _ _ _ _ (hq _ rfl)
        · obtain ⟨b, ho, hz, hq⟩ := jb_e h
          have := Nat.eq_of_beq_eq_true b; subst this
          refine am_p_i (am_p_i ⟨ho, hfin, ?_⟩)
          exact ⟨hz, hX _ _ _ _ _ (hq _ rfl)⟩
        · obtain ⟨b, ho, hq⟩ := jb_e h
          have := Nat.eq_of_beq_eq_true b; subst this
          refine am_p_i (am_p_i ⟨ho, hfin, ?_⟩)
          exact hX _ _ _ _ _ (hq _ rfl)
        · rename_i n2 n3 n1
          have e0 : f3 = 0 := by
            match f3, e4, n2, n3, n1 with
            | 0, _, _, _, _ => rfl
            | 1, _, _, _, n => exact absurd rfl n
            | 2, _, n, _, _ => exact absurd rfl n
            | 3, _, _, n, _ => exact absurd rfl n
          subst e0
          obtain ⟨b, ho, hq⟩ := jb_e h
          have := Nat.eq_of_beq_eq_true b; subst this
          refine am_p_i (am_p_i ⟨ho, hfin, ?_⟩)
          exact hX _ _ _ _ _ (hq _ rfl)
  case iastore =>
    unfold stJ at h; dsimp only at h
    exact len_i (ne_e hv) (jp_am (fun v s h => jp_am (fun j s h => jp_am (fun x s h => ⟨h.1, hX _ _ _ _ _ (h.2 _ rfl)⟩) h) h) h)
  case lastore =>
    unfold stJ at h; dsimp only at h
    exact len_i (ne_e hv) (jp_am (fun v s h => jp_am (fun j s h => jp_am (fun x s h => ⟨h.1, hX _ _ _ _ _ (h.2 _ rfl)⟩) h) h) h)
  case bastore =>
    unfold stJ at h; dsimp only at h
    exact len_i (ne_e hv) (jp_am (fun v s h => jp_am (fun j s h => jp_am (fun x s h => ⟨h.1, hX _ _ _ _ _ (h.2 _ rfl)⟩) h) h) h)
  case aastore =>
    unfold stJ at h; dsimp only at h
    exact len_i (ne_e hv) (jp_am (fun v s h => jp_am (fun j s h => jp_am (fun x s h => ⟨h.1, hX _ _ _ _ _ (h.2 _ rfl)⟩) h) h) h)
  case ldc idx =>
    unfold stJ at h; dsimp only at h
    obtain ⟨hl, hv⟩ := b2 hv
    unfold stI; dsimp only
    refine len_i (ne_e hl) ?_
    cases hf : am_at k idx am_SL with
    | some f =>
      rw [hf] at hv
      dsimp only at hv ⊢
      obtain ⟨e1, e2⟩ := b2 hv
      have e1 := ne_e e1; subst e1
      have e2 := of_decide_eq_true e2; subst e2
      exact hX _ _ _ _ _ h
    | none =>
      rw [hf] at hv
      dsimp only at hv ⊢
      cases hf : am_at k idx am_KL with
      | none => rw [hf] at hv; cases hv
      | some f =>
        rw [hf] at hv
        dsimp only at hv ⊢
        obtain ⟨hv, e2⟩ := b2 hv
        obtain ⟨e0, e1⟩ := b2 hv
        have e1 := ne_e e1; subst e1
        have e2 := of_decide_eq_true e2; subst e2
        rw [if_pos (ne_e e0)]
        exact hX _ _ _ _ _ h
  case ldc_w idx =>
    unfold stJ at h; dsimp only at h
    obtain ⟨hl, hv⟩ := b2 hv
    unfold stI; dsimp only
    refine len_i (ne_e hl) ?_
    cases hf : am_at k idx am_KL with
    | none => rw [hf] at hv; cases hv
    | some f =>
      rw [hf] at hv
      dsimp only at hv ⊢
      obtain ⟨e0, e2⟩ := b2 hv
      have e2 := of_decide_eq_true e2; subst e2
      rw [if_pos (ne_e e0)]
      exact hX _ _ _ _ _ h
  case ldc2_w idx =>
    unfold stJ at h; dsimp only at h
    obtain ⟨hl, hv⟩ := b2 hv
    unfold stI; dsimp only
    refine len_i (ne_e hl) ?_
    cases hf : am_at k idx am_KL with
    | none => rw [hf] at hv; cases hv
    | some f =>
      rw [hf] at hv
      dsimp only at hv ⊢
      obtain ⟨e0, e2⟩ := b2 hv
      have e2 := of_decide_eq_true e2; subst e2
      rw [if_pos (ne_e e0)]
      exact hX _ _ _ _ _ h
  case invokevirtual idx =>
    unfold stJ at h; dsimp only at h
    obtain ⟨hl, hv⟩ := b2 hv
    unfold stI; dsimp only
    refine len_i (ne_e hl) ?_
    cases hf : am_at k idx am_CL with
    | none => rw [hf] at hv; cases hv
    | some f =>
      rw [hf] at hv
      obtain ⟨f1, f2, f3, f4⟩ := f
      dsimp only at hv ⊢
      obtain ⟨hv, e6⟩ := b2 hv
      obtain ⟨hv, e5⟩ := b2 hv
      obtain ⟨hv, e4⟩ := b2 hv
      obtain ⟨hv, em⟩ := b2 hv
      obtain ⟨hv, e3⟩ := b2 hv
      obtain ⟨e1, e2⟩ := b2 hv
      have e1 := ne_e e1; have e2 := ne_e e2; have e3 := ne_e e3
      subst e1; subst e2; subst e3
      rw [if_pos (by
        rcases Bool.or_eq_true_iff.mp em with em | em
        · rcases Bool.or_eq_true_iff.mp em with em | em
          · exact Or.inl (ne_e em)
          · exact Or.inr (Or.inl (ne_e em))
        · exact Or.inr (Or.inr (ne_e em)))]
      exact jcall_st hX (ne_e e4) (of_decide_eq_true e5) e6 h
  case invokestatic idx =>
    unfold stJ at h; dsimp only at h
    obtain ⟨hl, hv⟩ := b2 hv
    unfold stI; dsimp only
    refine len_i (ne_e hl) ?_
    cases hf : am_at k idx am_CL with
    | none => rw [hf] at hv; cases hv
    | some f =>
      rw [hf] at hv
      obtain ⟨f1, f2, f3, f4⟩ := f
      dsimp only at hv ⊢
      obtain ⟨hv, e6⟩ := b2 hv
      obtain ⟨hv, e5⟩ := b2 hv
      obtain ⟨hv, e4⟩ := b2 hv
      obtain ⟨hv, em⟩ := b2 hv
      obtain ⟨hv, e3⟩ := b2 hv
      obtain ⟨e1, e2⟩ := b2 hv
      have e1 := ne_e e1; have e2 := ne_e e2; have e3 := ne_e e3
      subst e1; subst e2; subst e3
      rw [if_pos (by
        rcases Bool.or_eq_true_iff.mp em with em | em
        · rcases Bool.or_eq_true_iff.mp em with em | em
          · exact Or.inl (ne_e em)
          · exact Or.inr (Or.inl (ne_e em))
        · exact Or.inr (Or.inr (ne_e em)))]
      exact jcall_st hX (ne_e e4) (of_decide_eq_true e5) e6 h
  case iload_n j =>
    unfold stJ at h; dsimp only at h
    exact len_i (ne_e hv) (jld_am (fun v h => hX _ _ _ _ _ h) h)
  case iload j =>
    unfold stJ at h; dsimp only at h
    exact len_i (ne_e hv) (jld_am (fun v h => hX _ _ _ _ _ h) h)
  case lload_n j =>
    unfold stJ at h; dsimp only at h
    exact len_i (ne_e hv) (jld_am (fun v h => hX _ _ _ _ _ h) h)
  case lload j =>
    unfold stJ at h; dsimp only at h
    exact len_i (ne_e hv) (jld_am (fun v h => hX _ _ _ _ _ h) h)
  case aload_n j =>
    unfold stJ at h; dsimp only at h
    exact len_i (ne_e hv) (jld_am (fun v h => hX _ _ _ _ _ h) h)
  case aload j =>
    unfold stJ at h; dsimp only at h
    exact len_i (ne_e hv) (jld_am (fun v h => hX _ _ _ _ _ h) h)
  case istore_n j =>
    unfold stJ at h; dsimp only at h
    obtain ⟨h1, h2⟩ := b2 hv
    exact len_i (ne_e h1) (am_b_i h2 (jp_am (fun v s h => by rw [jst_e] at h; exact hX _ _ _ _ _ h) h))
  case istore j =>
    unfold stJ at h; dsimp only at h
    obtain ⟨h1, h2⟩ := b2 hv
    exact len_i (ne_e h1) (am_b_i h2 (jp_am (fun v s h => by rw [jst_e] at h; exact hX _ _ _ _ _ h) h))
  case astore_n j =>
    unfold stJ at h; dsimp only at h
    obtain ⟨h1, h2⟩ := b2 hv
    exact len_i (ne_e h1) (am_b_i h2 (jp_am (fun v s h => by rw [jst_e] at h; exact hX _ _ _ _ _ h) h))
  case astore j =>
    unfold stJ at h; dsimp only at h
    obtain ⟨h1, h2⟩ := b2 hv
    exact len_i (ne_e h1) (am_b_i h2 (jp_am (fun v s h => by rw [jst_e] at h; exact hX _ _ _ _ _ h) h))
  case lstore_n j =>
    unfold stJ at h; dsimp only at h
    obtain ⟨h1, h2⟩ := b2 hv
    exact len_i (ne_e h1) (am_b_i h2 (jp_am (fun v s h => by rw [jst_e, jset_e] at h; exact hX _ _ _ _ _ h) h))
  case lstore j =>
    unfold stJ at h; dsimp only at h
    obtain ⟨h1, h2⟩ := b2 hv
    exact len_i (ne_e h1) (am_b_i h2 (jp_am (fun v s h => by rw [jst_e, jset_e] at h; exact hX _ _ _ _ _ h) h))
  case iinc j cc =>
    unfold stJ at h; dsimp only at h
    obtain ⟨h1, h3⟩ := b2 hv
    obtain ⟨h1, h2⟩ := b2 h1
    have h3 := of_decide_eq_true h3; dsimp only at h3; subst h3
    exact len_i (ne_e h1) (am_b_i h2 (jld_am (fun v h => by rw [jst_e] at h; exact hX _ _ _ _ _ h) h))
  case dup =>
    unfold stJ at h; dsimp only at h
    refine len_i (ne_e hv) ?_
    split at h
    · split at h
      · exact h.elim
      · rename_i u x s hu
        show ite _ _ _
        rw [if_neg hu]; exact hX _ _ _ _ _ h
    · exact h.elim
  case dup2 =>
    unfold stJ at h; dsimp only at h
    refine len_i (ne_e hv) ?_
    split at h
    · split at h
      · exact h.elim
      · rename_i hu
        split at h
        · exact h.elim
        · rename_i hw
          show ite _ _ (ite _ _ _)
          rw [if_neg hu, if_neg hw]; exact hX _ _ _ _ _ h
    · exact h.elim
  case pop =>
    unfold stJ at h; dsimp only at h
    refine len_i (ne_e hv) ?_
    split at h
    · split at h
      · exact h.elim
      · rename_i u x s hu
        show ite _ _ _
        rw [if_neg hu]; exact hX _ _ _ _ _ h
    · exact h.elim
  case pop2 =>
    unfold stJ at h; dsimp only at h
    exact len_i (ne_e hv) (jp_am (fun _ _ h => hX _ _ _ _ _ h) h)
  case iadd =>
    unfold stJ at h; dsimp only at h
    exact len_i (ne_e hv) (jp_am (fun _ _ h => jp_am (fun _ _ h => hX _ _ _ _ _ h) h) h)
  case isub =>
    unfold stJ at h; dsimp only at h
    exact len_i (ne_e hv) (jp_am (fun _ _ h => jp_am (fun _ _ h => hX _ _ _ _ _ h) h) h)
  case imul =>
    unfold stJ at h; dsimp only at h
    exact len_i (ne_e hv) (jp_am (fun _ _ h => jp_am (fun _ _ h => hX _ _ _ _ _ h) h) h)
  case iand =>
    unfold stJ at h; dsimp only at h
    exact len_i (ne_e hv) (jp_am (fun _ _ h => jp_am (fun _ _ h => hX _ _ _ _ _ h) h) h)
  case ior =>
    unfold stJ at h; dsimp only at h
    exact len_i (ne_e hv) (jp_am (fun _ _ h => jp_am (fun _ _ h => hX _ _ _ _ _ h) h) h)
  case ixor =>
    unfold stJ at h; dsimp only at h
    exact len_i (ne_e hv) (jp_am (fun _ _ h => jp_am (fun _ _ h => hX _ _ _ _ _ h) h) h)
  case ishl =>
    unfold stJ at h; dsimp only at h
    exact len_i (ne_e hv) (jp_am (fun _ _ h => jp_am (fun _ _ h => hX _ _ _ _ _ h) h) h)
  case ishr =>
    unfold stJ at h; dsimp only at h
    exact len_i (ne_e hv) (jp_am (fun _ _ h => jp_am (fun _ _ h => hX _ _ _ _ _ h) h) h)
  case ladd =>
    unfold stJ at h; dsimp only at h
    exact len_i (ne_e hv) (jp_am (fun _ _ h => jp_am (fun _ _ h => hX _ _ _ _ _ h) h) h)
  case lsub =>
    unfold stJ at h; dsimp only at h
    exact len_i (ne_e hv) (jp_am (fun _ _ h => jp_am (fun _ _ h => hX _ _ _ _ _ h) h) h)
  case lmul =>
    unfold stJ at h; dsimp only at h
    exact len_i (ne_e hv) (jp_am (fun _ _ h => jp_am (fun _ _ h => hX _ _ _ _ _ h) h) h)
  case land =>
    unfold stJ at h; dsimp only at h
    exact len_i (ne_e hv) (jp_am (fun _ _ h => jp_am (fun _ _ h => hX _ _ _ _ _ h) h) h)
  case lor =>
    unfold stJ at h; dsimp only at h
    exact len_i (ne_e hv) (jp_am (fun _ _ h => jp_am (fun _ _ h => hX _ _ _ _ _ h) h) h)
  case lxor =>
    unfold stJ at h; dsimp only at h
    exact len_i (ne_e hv) (jp_am (fun _ _ h => jp_am (fun _ _ h => hX _ _ _ _ _ h) h) h)
  case lshl =>
    unfold stJ at h; dsimp only at h
    exact len_i (ne_e hv) (jp_am (fun _ _ h => jp_am (fun _ _ h => hX _ _ _ _ _ h) h) h)
  case lshr =>
    unfold stJ at h; dsimp only at h
    exact len_i (ne_e hv) (jp_am (fun _ _ h => jp_am (fun _ _ h => hX _ _ _ _ _ h) h) h)
  case lushr =>
    unfold stJ at h; dsimp only at h
    exact len_i (ne_e hv) (jp_am (fun _ _ h => jp_am (fun _ _ h => hX _ _ _ _ _ h) h) h)
  case lcmp =>
    unfold stJ at h; dsimp only at h
    exact len_i (ne_e hv) (jp_am (fun _ _ h => jp_am (fun _ _ h => hX _ _ _ _ _ h) h) h)
  case idiv =>
    unfold stJ at h; dsimp only at h
    exact len_i (ne_e hv) (jp_am (fun _ _ h => jp_am (fun _ _ h => ⟨h.1, hX _ _ _ _ _ h.2⟩) h) h)
  case irem =>
    unfold stJ at h; dsimp only at h
    exact len_i (ne_e hv) (jp_am (fun _ _ h => jp_am (fun _ _ h => ⟨h.1, hX _ _ _ _ _ h.2⟩) h) h)
  case ldiv =>
    unfold stJ at h; dsimp only at h
    exact len_i (ne_e hv) (jp_am (fun _ _ h => jp_am (fun _ _ h => ⟨h.1, hX _ _ _ _ _ h.2⟩) h) h)
  case lrem =>
    unfold stJ at h; dsimp only at h
    exact len_i (ne_e hv) (jp_am (fun _ _ h => jp_am (fun _ _ h => ⟨h.1, hX _ _ _ _ _ h.2⟩) h) h)
  case laload =>
    unfold stJ at h; dsimp only at h
    exact len_i (ne_e hv) (jp_am (fun _ _ h => jp_am (fun _ _ h => ⟨h.1, hX _ _ _ _ _ h.2⟩) h) h)
  case baload =>
    unfold stJ at h; dsimp only at h
    exact len_i (ne_e hv) (jp_am (fun _ _ h => jp_am (fun _ _ h => ⟨h.1, hX _ _ _ _ _ h.2⟩) h) h)
  case aaload =>
    unfold stJ at h; dsimp only at h
    exact len_i (ne_e hv) (jp_am (fun _ _ h => jp_am (fun _ _ h => ⟨h.1, hX _ _ _ _ _ h.2⟩) h) h)
  case ineg =>
    unfold stJ at h; dsimp only at h
    exact len_i (ne_e hv) (jp_am (fun _ _ h => hX _ _ _ _ _ h) h)
  case i2b =>
    unfold stJ at h; dsimp only at h
    exact len_i (ne_e hv) (jp_am (fun _ _ h => hX _ _ _ _ _ h) h)
  case i2l =>
    unfold stJ at h; dsimp only at h
    exact len_i (ne_e hv) (jp_am (fun _ _ h => hX _ _ _ _ _ h) h)
  case l2i =>
    unfold stJ at h; dsimp only at h
    exact len_i (ne_e hv) (jp_am (fun _ _ h => hX _ _ _ _ _ h) h)
  case aconst_null =>
    unfold stJ at h; dsimp only at h
    exact len_i (ne_e hv) (hX _ _ _ _ _ h)
  case iaload =>
    unfold stJ at h; dsimp only at h
    refine len_i (ne_e hv) (jp_am (fun j s h => jp_am (fun x s h => ?_) h) h)
    split at h
    · obtain ⟨⟨rfl, a, b⟩, w⟩ := h
      rw [if_pos rfl]
      exact ⟨a, b, hX _ _ _ _ _ w⟩
    · rw [if_neg (by have := h.1.1.1; omega)]
      exact ⟨h.1, hX _ _ _ _ _ h.2⟩
  case arraylength =>
    unfold stJ at h; dsimp only at h
    refine len_i (ne_e hv) (jp_am (fun x s h => ?_) h)
    split at h
    · obtain ⟨rfl, w⟩ := h
      rw [if_pos rfl]
      exact hX _ _ _ _ _ w
    · rw [if_neg (by have := h.1.1; omega)]
      exact ⟨h.1, hX _ _ _ _ _ h.2⟩
  case goto o =>
    obtain ⟨hl, hv⟩ := b2 hv
    exact len_i (ne_e hl) (am_j_i (of_decide_eq_true hv) (hX _ _ _ _ _ h))
  case ifCond cc o =>
    unfold stJ at h; dsimp only at h
    obtain ⟨hl, hv⟩ := b2 hv
    refine len_i (ne_e hl) (jp_am (fun x s h => am_j_i (of_decide_eq_true hv) ?_) h)
    cases cc <;> exact ite_mono (hX _ _ _ _ _) (hX _ _ _ _ _) h
  case if_icmp cc o =>
    unfold stJ at h; dsimp only at h
    obtain ⟨hl, hv⟩ := b2 hv
    refine len_i (ne_e hl) (jp_am (fun x s h => jp_am (fun x s h => am_j_i (of_decide_eq_true hv) ?_) h) h)
    cases cc <;> exact ite_mono (hX _ _ _ _ _) (hX _ _ _ _ _) h
  case ifnull o =>
    unfold stJ at h; dsimp only at h
    obtain ⟨hl, hv⟩ := b2 hv
    exact len_i (ne_e hl) (jp_am (fun x s h => am_j_i (of_decide_eq_true hv) (ite_mono (hX _ _ _ _ _) (hX _ _ _ _ _) h)) h)
  case ifnonnull o =>
    unfold stJ at h; dsimp only at h
    obtain ⟨hl, hv⟩ := b2 hv
    exact len_i (ne_e hl) (jp_am (fun x s h => am_j_i (of_decide_eq_true hv) (ite_mono (hX _ _ _ _ _) (hX _ _ _ _ _) h)) h)
  case iconst v =>
    unfold stJ at h; dsimp only at h
    obtain ⟨hv, h3⟩ := b2 hv
    obtain ⟨hl, h2⟩ := b2 hv
    have h3 := of_decide_eq_true h3; dsimp only at h3; subst h3
    exact len_i (ne_e hl) (am_b_i h2 (hX _ _ _ _ _ h))
  case bipush v =>
    unfold stJ at h; dsimp only at h
    obtain ⟨hv, h3⟩ := b2 hv
    obtain ⟨hl, h2⟩ := b2 hv
    have h3 := of_decide_eq_true h3; dsimp only at h3; subst h3
    exact len_i (ne_e hl) (am_b_i h2 (hX _ _ _ _ _ h))
  case sipush v =>
    unfold stJ at h; dsimp only at h
    obtain ⟨hv, h3⟩ := b2 hv
    obtain ⟨hl, h2⟩ := b2 hv
    have h3 := of_decide_eq_true h3; dsimp only at h3; subst h3
    exact len_i (ne_e hl) (am_b_i h2 (hX _ _ _ _ _ h))
  case lconst v =>
    unfold stJ at h; dsimp only at h
    obtain ⟨hl, h3⟩ := b2 hv
    have h3 := of_decide_eq_true h3; dsimp only at h3; subst h3
    exact len_i (ne_e hl) (hX _ _ _ _ _ h)
  case invokespecial => exact h.elim
  case new => exact h.elim
  case newarray => exact h.elim
  case anewarray => exact h.elim
  case ireturn =>
    unfold stJ at h; dsimp only at h
    obtain ⟨hv, e4⟩ := b2 hv
    obtain ⟨e1, e3⟩ := b2 hv
    have e1 := ne_e e1; have e3 := ne_e e3
    subst e3
    split at h
    · rename_i v
      obtain ⟨t, v⟩ := v
      obtain ⟨b, h⟩ := jb_e h
      have := Nat.eq_of_beq_eq_true b; subst this
      refine len_i e1 (am_p_i ⟨rfl, ?_, by omega, ?_⟩)
      · rcases Bool.or_eq_true_iff.mp e4 with e4 | e4
        · exact Or.inl (ne_e e4)
        · dsimp only at h
          have e4 := ne_e e4
          dsimp only at e4
          rw [e4] at h
          exact Or.inr ⟨e4, h.1⟩
      · dsimp only at h
        split at h
        · exact h.2
        · exact h
    · exact h.elim
  case lreturn =>
    unfold stJ at h; dsimp only at h
    obtain ⟨e1, e3⟩ := b2 hv
    split at h
    · rename_i v
      obtain ⟨t, v⟩ := v
      obtain ⟨b, h⟩ := jb_e h
      have := Nat.eq_of_beq_eq_true b; subst this
      exact len_i (ne_e e1) (am_p_i ⟨rfl, ne_e e3, by omega, h⟩)
    · exact h.elim
  case areturn =>
    unfold stJ at h; dsimp only at h
    obtain ⟨e1, e3⟩ := b2 hv
    split at h
    · rename_i v
      obtain ⟨t, v⟩ := v
      obtain ⟨b, h⟩ := jb_e h
      have := Nat.eq_of_beq_eq_true b; subst this
      exact len_i (ne_e e1) (am_p_i ⟨rfl, ne_e e3, by omega, h⟩)
    · exact h.elim
  case return_ =>
    unfold stJ at h; dsimp only at h
    obtain ⟨e1, e3⟩ := b2 hv
    split at h
    · exact len_i (ne_e e1) ⟨rfl, ne_e e3, by omega, h⟩
    · exact h.elim
  all_goals (unfold stJ at h; dsimp only at h)
  all_goals exact stI_mono (sc := sc) (d := d) (k := k) (n0 := 218 - (am_mk k : Int)) (X := fun pc ls st g r (_ : Int) => X pc ls st g r) (X2 := fun pc ls st g r (_ : Int) => Y pc ls st g r 218) (Q := fun _ _ _ _ => False) (Q2 := fun _ _ _ _ => False) (C := fun _ _ _ _ _ _ => False) cF (fun _ _ _ _ h => h) (fun pc ls st g r n w => hX pc ls st g r w) _ len h
