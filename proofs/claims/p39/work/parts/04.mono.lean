/-! the steps are monotone; so WP unfolds -/
def CMono (C : CTR) : Prop := ∀ (k : Nat) (as : List AV) (g r : GH) (n : Int) (Q Q2 : Int → GH → GH → Int → Prop), (∀ v g r n, Q v g r n → Q2 v g r n) → C k as g r n Q → C k as g r n Q2
theorem am_len_mono {a b : Nat} {q q2 : Prop} (h : q → q2) : am_len a b q → am_len a b q2 := by
  unfold am_len; split <;> intro h1
  · exact h h1
  · exact h1
theorem am_b_mono {b : Bool} {q q2 : Prop} (h : q → q2) : am_b b q → am_b b q2 := by
  unfold am_b; split <;> intro h1
  · exact h h1
  · exact h1
theorem am_p_mono {t : Nat} {st : List AV} {f f2 : Int → List AV → Prop} (h : ∀ x s, f x s → f2 x s) : am_p t st f → am_p t st f2 := by
  unfold am_p
  cases st with
  | nil => exact id
  | cons v s => dsimp only; split <;> intro h1
                · exact h _ _ h1
                · exact h1
theorem am_p2_mono {t u : Nat} {st : List AV} {f f2 : Int → Int → List AV → Prop} (h : ∀ x y s, f x y s → f2 x y s) : am_p2 t u st f → am_p2 t u st f2 :=
  am_p_mono fun y s => am_p_mono fun x s2 => h x y s2
theorem am_ld_mono {ls : List AV} {i t : Nat} {f f2 : Int → Prop} (h : ∀ x, f x → f2 x) : am_ld ls i t f → am_ld ls i t f2 := by
  unfold am_ld
  cases ls[i]? with
  | none => exact id
  | some v => dsimp only; split <;> intro h1
              · exact h _ h1
              · exact h1
theorem am_j_mono {pc : Nat} {o : Int} {f f2 : Nat → Prop} (h : ∀ x, f x → f2 x) : am_j pc o f → am_j pc o f2 := by
  unfold am_j; split <;> intro h1
  · exact h _ h1
  · exact h1
theorem am_tsw_mono {f f2 : Int → Prop} (h : ∀ x, f x → f2 x) (d x : Int) : ∀ (os : List Int) (lo : Int), am_tsw f d x lo os → am_tsw f2 d x lo os
  | [], _ => h d
  | o :: os, lo => by
    unfold am_tsw; split <;> intro h1
    · exact h _ h1
    · exact am_tsw_mono h d x os _ h1
theorem am_popN_mono : ∀ (m : Nat) (st : List AV) {f f2 : List AV → List AV → Prop}, (∀ x s, f x s → f2 x s) → am_popN m st f → am_popN m st f2
  | 0, st, f, f2, h => h _ _
  | m + 1, [], f, f2, h => id
  | m + 1, v :: s, f, f2, h => am_popN_mono m s fun _ _ => h _ _
theorem ite_mono {c : Prop} {inst : Decidable c} {a b a2 b2 : Prop} (h1 : a → a2) (h2 : b → b2) : (@ite Prop c inst a b) → (@ite Prop c inst a2 b2) := by
  split <;> assumption
theorem stArr_mono {k : Nat} {n0 : Int} {X X2 : XT} (hX : ∀ pc ls st g r n, X pc ls st g r n → X2 pc ls st g r n) {pc : Nat} {ls st : List AV} {g r : GH} {n : Int} {kd : Nat} : stArr k n0 X pc ls st g r n kd → stArr k n0 X2 pc ls st g r n kd :=
  am_p_mono fun _ _ h => ⟨h.1, h.2.1, h.2.2.1, h.2.2.2.1, h.2.2.2.2.1, hX _ _ _ _ _ _ h.2.2.2.2.2⟩
theorem stCall_mono {d k : Nat} {n0 : Int} {C : CTR} {X X2 : XT} (hC : CMono C) (hX : ∀ pc ls st g r n, X pc ls st g r n → X2 pc ls st g r n) {pc : Nat} {ls st : List AV} {g r : GH} {n : Int} (e : Nat × Nat × Nat × Nat) : stCall d C k n0 X pc ls st g r n e → stCall d C k n0 X2 pc ls st g r n e := by
  obtain ⟨e1, e2, e3, e4⟩ := e
  have hc : ∀ {s2 : List AV} {as : List AV}, C e1 as g r n (fun v g2 r2 n2 => X (pc + 3) ls (am_push (am_rc e1) v s2) g2 r2 n2) → C e1 as g r n (fun v g2 r2 n2 => X2 (pc + 3) ls (am_push (am_rc e1) v s2) g2 r2 n2) := fun h => hC _ _ _ _ _ _ _ (fun _ _ _ _ h => hX _ _ _ _ _ _ h) h
  unfold stCall
  dsimp only
  split
  · exact am_popN_mono _ _ fun _ _ => am_p_mono fun _ _ h => ⟨h.1, h.2.1, h.2.2.1, hc h.2.2.2⟩
  · exact am_popN_mono _ _ fun _ _ h => ⟨h.1, h.2.1, hc h.2.2⟩
  · exact am_popN_mono _ _ fun _ _ => am_p_mono fun _ _ h => ⟨h.1, h.2.1, h.2.2.1, h.2.2.2.1, hc h.2.2.2.2⟩
  · exact am_popN_mono _ _ fun _ _ => am_p_mono fun _ _ h => ⟨h.1, h.2.1, h.2.2.1, h.2.2.2.1, hc h.2.2.2.2⟩
  · exact am_p2_mono fun _ _ _ => am_p2_mono fun _ _ _ => am_p_mono fun _ _ h => ⟨h.1, h.2.1, h.2.2.1, h.2.2.2.1, h.2.2.2.2.1, h.2.2.2.2.2.1, h.2.2.2.2.2.2.1, hX _ _ _ _ _ _ h.2.2.2.2.2.2.2⟩
  · exact am_popN_mono _ _ fun _ _ h => ⟨h.1, h.2.1, hc h.2.2⟩
  · exact am_p_mono fun _ _ h => ⟨h.1, h.2.1, h.2.2.1, hX _ _ _ _ _ _ h.2.2.2⟩
  · exact am_p2_mono fun _ _ _ h => ⟨h.1, h.2.1, h.2.2.1, h.2.2.2.1, h.2.2.2.2.1, hX _ _ _ _ _ _ h.2.2.2.2.2⟩
  · exact am_p_mono fun _ _ h => ⟨h.1, h.2.1, h.2.2.1, hX _ _ _ _ _ _ h.2.2.2⟩
  · exact id
set_option maxHeartbeats 4000000 in
theorem stI_mono {sc : SCR} {d : Nat} {C : CTR} {k : Nat} {n0 : Int} {Q Q2 : Int → GH → GH → Int → Prop} {X X2 : XT} (hC : CMono C) (hQ : ∀ v g r n, Q v g r n → Q2 v g r n) (hX : ∀ pc ls st g r n, X pc ls st g r n → X2 pc ls st g r n) {pc : Nat} {ls st : List AV} {g r : GH} {n : Int} (i : Instr) (len : Nat) :
    stI sc d C k n0 Q X pc ls st g r n i len → stI sc d C k n0 Q2 X2 pc ls st g r n i len := by
  cases i
  all_goals first
    | exact id
    | exact am_len_mono (hX _ _ _ _ _ _)
    | exact am_len_mono (am_b_mono (hX _ _ _ _ _ _))
    | exact am_len_mono (am_b_mono (am_p_mono fun _ _ => hX _ _ _ _ _ _))
    | exact am_len_mono (am_b_mono (am_ld_mono fun _ => hX _ _ _ _ _ _))
    | exact am_len_mono (am_ld_mono fun _ => hX _ _ _ _ _ _)
    | exact am_len_mono (am_p_mono fun _ _ => hX _ _ _ _ _ _)
    | exact am_len_mono (am_p2_mono fun _ _ _ => hX _ _ _ _ _ _)
    | exact am_len_mono (am_p2_mono fun _ _ _ h => ⟨h.1, hX _ _ _ _ _ _ h.2⟩)
    | exact am_len_mono (am_p_mono fun _ _ => am_p2_mono fun _ _ _ h => ⟨h.1, hX _ _ _ _ _ _ h.2⟩)
    | exact am_len_mono (am_j_mono fun _ => hX _ _ _ _ _ _)
    | exact am_len_mono (am_p_mono fun _ _ h => ⟨h.1, h.2.1, h.2.2.1, hQ _ _ _ _ h.2.2.2⟩)
    | exact am_len_mono (fun h => ⟨h.1, h.2.1, h.2.2.1, hQ _ _ _ _ h.2.2.2⟩)
    | exact am_len_mono (am_p_mono fun _ _ => am_j_mono fun _ => ite_mono (hX _ _ _ _ _ _) (hX _ _ _ _ _ _))
    | exact am_len_mono (am_p2_mono fun _ _ _ => ite_mono (fun h => ⟨h.1, h.2.1, hX _ _ _ _ _ _ h.2.2⟩) (fun h => ⟨h.1, hX _ _ _ _ _ _ h.2⟩))
    | exact am_len_mono (am_p_mono fun _ _ => ite_mono (hX _ _ _ _ _ _) (fun h => ⟨h.1, hX _ _ _ _ _ _ h.2⟩))
    | exact am_p_mono fun _ _ h => ⟨h.1, am_tsw_mono (fun _ => am_j_mono fun _ => hX _ _ _ _ _ _) _ _ _ _ h.2⟩
    | skip
  all_goals unfold stI
  all_goals dsimp only
  case ifCond c o => exact am_len_mono (am_p_mono fun _ _ => am_j_mono fun _ => by cases c <;> exact ite_mono (hX _ _ _ _ _ _) (hX _ _ _ _ _ _))
  case if_icmp c o => exact am_len_mono (am_p2_mono fun _ _ _ => am_j_mono fun _ => by cases c <;> exact ite_mono (hX _ _ _ _ _ _) (hX _ _ _ _ _ _))
  case tableswitch => exact am_p_mono fun x s h => ⟨h.1, am_tsw_mono (f := fun o => am_j pc o fun t => X t ls s g r n) (f2 := fun o => am_j pc o fun t => X2 t ls s g r n) (fun o => am_j_mono fun _ => hX _ _ _ _ _ _) _ _ _ _ h.2⟩
  case dup => refine am_len_mono ?_; split
              · exact ite_mono id (hX _ _ _ _ _ _)
              · exact id
  case dup2 => refine am_len_mono ?_; split
               · exact ite_mono id (ite_mono id (hX _ _ _ _ _ _))
               · exact id
  case pop => refine am_len_mono ?_; split
              · exact ite_mono id (hX _ _ _ _ _ _)
              · exact id
  case ldc idx => refine am_len_mono ?_; split
                  · exact hX _ _ _ _ _ _
                  · split
                    · exact ite_mono (hX _ _ _ _ _ _) id
                    · exact id
  case ldc_w idx => refine am_len_mono ?_; split
                    · exact ite_mono (hX _ _ _ _ _ _) id
                    · exact id
  case ldc2_w idx => refine am_len_mono ?_; split
                     · exact ite_mono (hX _ _ _ _ _ _) id
                     · exact id
  case getfield idx => refine am_len_mono ?_; split
                       · exact am_p_mono fun _ _ h => ⟨h.1, hX _ _ _ _ _ _ h.2⟩
                       · exact id
  case putfield idx => refine am_len_mono ?_; split
                       · exact am_p2_mono fun _ _ _ h => ⟨h.1, h.2.1, ite_mono (hX _ _ _ _ _ _) (ite_mono (fun h => ⟨h.1, hX _ _ _ _ _ _ h.2⟩) (hX _ _ _ _ _ _)) h.2.2⟩
                       · exact id
  case new idx => refine am_len_mono ?_; split
                  · exact fun h => ⟨h.1, h.2.1, h.2.2.1, h.2.2.2.1, h.2.2.2.2.1, hX _ _ _ _ _ _ h.2.2.2.2.2⟩
                  · exact id
  case newarray t => refine am_len_mono ?_; split
                     · exact stArr_mono hX
                     · exact stArr_mono hX
                     · exact stArr_mono hX
                     · exact stArr_mono hX
                     · exact id
  case anewarray idx => refine am_len_mono ?_; split
                        · exact ite_mono (am_p_mono fun _ _ h => ⟨h.1, h.2.1, h.2.2.1, h.2.2.2.1, h.2.2.2.2.1, hX _ _ _ _ _ _ h.2.2.2.2.2⟩) (ite_mono (am_p_mono fun _ _ h => ⟨h.1, h.2.1, h.2.2.1, h.2.2.2.1, h.2.2.2.2.1, hX _ _ _ _ _ _ h.2.2.2.2.2⟩) id)
                        · exact id
  case invokevirtual idx => refine am_len_mono ?_; split
                            · exact ite_mono (stCall_mono hC hX _) id
                            · exact id
  case invokestatic idx => refine am_len_mono ?_; split
                           · exact ite_mono (stCall_mono hC hX _) id
                           · exact id
  case invokespecial idx => refine am_len_mono ?_; split
                            · exact ite_mono (stCall_mono hC hX _) id
                            · exact id
theorem stp_mono {sc : SCR} {d : Nat} {C : CTR} {k : Nat} {n0 : Int} {Q Q2 : Int → GH → GH → Int → Prop} {X X2 : XT} (hC : CMono C) (hQ : ∀ v g r n, Q v g r n → Q2 v g r n) (hX : ∀ pc ls st g r n, X pc ls st g r n → X2 pc ls st g r n) {pc : Nat} {ls st : List AV} {g r : GH} {n : Int} :
    stp sc d C k n0 Q X pc ls st g r n → stp sc d C k n0 Q2 X2 pc ls st g r n := by
  unfold stp; split
  · exact stI_mono hC hQ hX _ _
  · exact id
theorem WP_unf {sc : SCR} {d : Nat} {C : CTR} {k : Nat} {n0 : Int} {Q : Int → GH → GH → Int → Prop} (hC : CMono C) (pc : Nat) (ls st : List AV) (g r : GH) (n : Int) :
    WP sc d C k n0 Q pc ls st g r n = stp sc d C k n0 Q (WP sc d C k n0 Q) pc ls st g r n := by
  have h1 : ∀ pc ls st g r n, stp sc d C k n0 Q (WP sc d C k n0 Q) pc ls st g r n → WP sc d C k n0 Q pc ls st g r n :=
    fun pc ls st g r n h X hX => hX _ _ _ _ _ _ (stp_mono hC (fun _ _ _ _ h => h) (fun _ _ _ _ _ _ w => w X hX) h)
  refine propext ⟨fun h => h _ fun _ _ _ _ _ _ w => stp_mono hC (fun _ _ _ _ h => h) h1 w, h1 _ _ _ _ _ _⟩
theorem WP_mono {sc : SCR} {d : Nat} {C : CTR} {k : Nat} {n0 : Int} {Q Q2 : Int → GH → GH → Int → Prop} (hC : CMono C) (hQ : ∀ v g r n, Q v g r n → Q2 v g r n) {pc : Nat} {ls st : List AV} {g r : GH} {n : Int} :
    WP sc d C k n0 Q pc ls st g r n → WP sc d C k n0 Q2 pc ls st g r n :=
  fun h X hX => h X fun _ _ _ _ _ _ w => hX _ _ _ _ _ _ (stp_mono hC hQ (fun _ _ _ _ _ _ h => h) w)
theorem Cd_mono (sc : SCR) : ∀ d, CMono (Cd sc d)
  | 0 => fun _ _ _ _ _ _ _ _ h => h
  | d + 1 => fun _ _ _ _ _ _ _ hQ h => ⟨h.1, WP_mono (Cd_mono sc d) hQ h.2⟩
