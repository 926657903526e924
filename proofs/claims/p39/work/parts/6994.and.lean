/-! what two proofs of one run say may be said together -/
def CAnd (C : CTR) : Prop := ∀ (k : Nat) (as : List AV) (g r : GH) (n : Int) (Q Q2 : Int → GH → GH → Int → Prop), C k as g r n Q → C k as g r n Q2 → C k as g r n (fun v g r n => Q v g r n ∧ Q2 v g r n)
theorem am_len_and {a b : Nat} {q q2 q3 : Prop} (h : q → q2 → q3) : am_len a b q → am_len a b q2 → am_len a b q3 := by
  unfold am_len; split <;> intro h1 h2
  · exact h h1 h2
  · exact h1
theorem am_b_and {b : Bool} {q q2 q3 : Prop} (h : q → q2 → q3) : am_b b q → am_b b q2 → am_b b q3 := by
  unfold am_b; split <;> intro h1 h2
  · exact h h1 h2
  · exact h1
theorem am_p_and {t : Nat} {st : List AV} {f f2 f3 : Int → List AV → Prop} (h : ∀ x s, f x s → f2 x s → f3 x s) : am_p t st f → am_p t st f2 → am_p t st f3 := by
  unfold am_p
  cases st with
  | nil => exact fun h _ => h
  | cons v s => dsimp only; split <;> intro h1 h2
                · exact h _ _ h1 h2
                · exact h1
theorem am_p2_and {t u : Nat} {st : List AV} {f f2 f3 : Int → Int → List AV → Prop} (h : ∀ x y s, f x y s → f2 x y s → f3 x y s) : am_p2 t u st f → am_p2 t u st f2 → am_p2 t u st f3 :=
  am_p_and fun y s => am_p_and fun x s2 => h x y s2
theorem am_ld_and {ls : List AV} {i t : Nat} {f f2 f3 : Int → Prop} (h : ∀ x, f x → f2 x → f3 x) : am_ld ls i t f → am_ld ls i t f2 → am_ld ls i t f3 := by
  unfold am_ld
  cases ls[i]? with
  | none => exact fun h _ => h
  | some v => dsimp only; split <;> intro h1 h2
              · exact h _ h1 h2
              · exact h1
theorem am_j_and {pc : Nat} {o : Int} {f f2 f3 : Nat → Prop} (h : ∀ x, f x → f2 x → f3 x) : am_j pc o f → am_j pc o f2 → am_j pc o f3 := by
  unfold am_j; split <;> intro h1 h2
  · exact h _ h1 h2
  · exact h1
theorem am_tsw_and {f f2 f3 : Int → Prop} (h : ∀ x, f x → f2 x → f3 x) (d x : Int) : ∀ (os : List Int) (lo : Int), am_tsw f d x lo os → am_tsw f2 d x lo os → am_tsw f3 d x lo os
  | [], _ => h d
  | o :: os, lo => by
    unfold am_tsw; split <;> intro h1 h2
    · exact h _ h1 h2
    · exact am_tsw_and h d x os _ h1 h2
theorem am_popN_and : ∀ (m : Nat) (st : List AV) {f f2 f3 : List AV → List AV → Prop}, (∀ x s, f x s → f2 x s → f3 x s) → am_popN m st f → am_popN m st f2 → am_popN m st f3
  | 0, st, f, f2, f3, h => h _ _
  | m + 1, [], f, f2, f3, h => fun h _ => h
  | m + 1, v :: s, f, f2, f3, h => am_popN_and m s fun _ _ => h _ _
theorem ite_and {c : Prop} {inst : Decidable c} {a b a2 b2 a3 b3 : Prop} (h1 : a → a2 → a3) (h2 : b → b2 → b3) : (@ite Prop c inst a b) → (@ite Prop c inst a2 b2) → (@ite Prop c inst a3 b3) := by
  split <;> assumption
theorem stArr_and {k : Nat} {n0 : Int} {X X2 X3 : XT} (hX : ∀ pc ls st g r n, X pc ls st g r n → X2 pc ls st g r n → X3 pc ls st g r n) {pc : Nat} {ls st : List AV} {g r : GH} {n : Int} {kd : Nat} : stArr k n0 X pc ls st g r n kd → stArr k n0 X2 pc ls st g r n kd → stArr k n0 X3 pc ls st g r n kd :=
  am_p_and fun _ _ h h' => ⟨h.1, h.2.1, h.2.2.1, h.2.2.2.1, h.2.2.2.2.1, hX _ _ _ _ _ _ h.2.2.2.2.2 h'.2.2.2.2.2⟩
theorem stCall_and {d k : Nat} {n0 : Int} {C : CTR} {X X2 X3 : XT} (hM : CMono C) (hC : CAnd C) (hX : ∀ pc ls st g r n, X pc ls st g r n → X2 pc ls st g r n → X3 pc ls st g r n) {pc : Nat} {ls st : List AV} {g r : GH} {n : Int} (e : Nat × Nat × Nat × Nat) : stCall d C k n0 X pc ls st g r n e → stCall d C k n0 X2 pc ls st g r n e → stCall d C k n0 X3 pc ls st g r n e := by
  obtain ⟨e1, e2, e3, e4⟩ := e
  have hc : ∀ {s2 : List AV} {as : List AV}, C e1 as g r n (fun v g2 r2 n2 => X (pc + 3) ls (am_push (am_rc e1) v s2) g2 r2 n2) → C e1 as g r n (fun v g2 r2 n2 => X2 (pc + 3) ls (am_push (am_rc e1) v s2) g2 r2 n2) → C e1 as g r n (fun v g2 r2 n2 => X3 (pc + 3) ls (am_push (am_rc e1) v s2) g2 r2 n2) := fun h h' => hM _ _ _ _ _ _ _ (fun _ _ _ _ w => hX _ _ _ _ _ _ w.1 w.2) (hC _ _ _ _ _ _ _ h h')
  unfold stCall
  dsimp only
  split
  · exact am_popN_and _ _ fun _ _ => am_p_and fun _ _ h h' => ⟨h.1, h.2.1, h.2.2.1, hc h.2.2.2 h'.2.2.2⟩
  · exact am_popN_and _ _ fun _ _ h h' => ⟨h.1, h.2.1, hc h.2.2 h'.2.2⟩
  · exact am_popN_and _ _ fun _ _ => am_p_and fun _ _ h h' => ⟨h.1, h.2.1, h.2.2.1, h.2.2.2.1, hc h.2.2.2.2 h'.2.2.2.2⟩
  · exact am_popN_and _ _ fun _ _ => am_p_and fun _ _ h h' => ⟨h.1, h.2.1, h.2.2.1, h.2.2.2.1, hc h.2.2.2.2 h'.2.2.2.2⟩
  · exact am_p2_and fun _ _ _ => am_p2_and fun _ _ _ => am_p_and fun _ _ h h' => ⟨h.1, h.2.1, h.2.2.1, h.2.2.2.1, h.2.2.2.2.1, h.2.2.2.2.2.1, h.2.2.2.2.2.2.1, hX _ _ _ _ _ _ h.2.2.2.2.2.2.2 h'.2.2.2.2.2.2.2⟩
  · exact am_popN_and _ _ fun _ _ h h' => ⟨h.1, h.2.1, hc h.2.2 h'.2.2⟩
  · exact am_p_and fun _ _ h h' => ⟨h.1, h.2.1, h.2.2.1, hX _ _ _ _ _ _ h.2.2.2 h'.2.2.2⟩
  · exact am_p2_and fun _ _ _ h h' => ⟨h.1, h.2.1, h.2.2.1, h.2.2.2.1, h.2.2.2.2.1, hX _ _ _ _ _ _ h.2.2.2.2.2 h'.2.2.2.2.2⟩
  · exact am_p_and fun _ _ h h' => ⟨h.1, h.2.1, h.2.2.1, hX _ _ _ _ _ _ h.2.2.2 h'.2.2.2⟩
  · exact fun h _ => h
set_option maxHeartbeats 4000000 in
theorem stI_and {sc : SCR} {d : Nat} {C : CTR} {k : Nat} {n0 : Int} {Q Q2 Q3 : Int → GH → GH → Int → Prop} {X X2 X3 : XT} (hM : CMono C) (hC : CAnd C) (hQ : ∀ v g r n, Q v g r n → Q2 v g r n → Q3 v g r n) (hX : ∀ pc ls st g r n, X pc ls st g r n → X2 pc ls st g r n → X3 pc ls st g r n) {pc : Nat} {ls st : List AV} {g r : GH} {n : Int} (i : Instr) (len : Nat) :
    stI sc d C k n0 Q X pc ls st g r n i len → stI sc d C k n0 Q2 X2 pc ls st g r n i len → stI sc d C k n0 Q3 X3 pc ls st g r n i len := by
  cases i
  all_goals first
    | exact fun h _ => h
    | exact am_len_and (hX _ _ _ _ _ _)
    | exact am_len_and (am_b_and (hX _ _ _ _ _ _))
    | exact am_len_and (am_b_and (am_p_and fun _ _ => hX _ _ _ _ _ _))
    | exact am_len_and (am_b_and (am_ld_and fun _ => hX _ _ _ _ _ _))
    | exact am_len_and (am_ld_and fun _ => hX _ _ _ _ _ _)
    | exact am_len_and (am_p_and fun _ _ => hX _ _ _ _ _ _)
    | exact am_len_and (am_p2_and fun _ _ _ => hX _ _ _ _ _ _)
    | exact am_len_and (am_p2_and fun _ _ _ h h' => ⟨h.1, hX _ _ _ _ _ _ h.2 h'.2⟩)
    | exact am_len_and (am_p_and fun _ _ => am_p2_and fun _ _ _ h h' => ⟨h.1, hX _ _ _ _ _ _ h.2 h'.2⟩)
    | exact am_len_and (am_j_and fun _ => hX _ _ _ _ _ _)
    | exact am_len_and (am_p_and fun _ _ h h' => ⟨h.1, h.2.1, h.2.2.1, hQ _ _ _ _ h.2.2.2 h'.2.2.2⟩)
    | exact am_len_and (fun h h' => ⟨h.1, h.2.1, h.2.2.1, hQ _ _ _ _ h.2.2.2 h'.2.2.2⟩)
    | exact am_len_and (am_p_and fun _ _ => am_j_and fun _ => ite_and (hX _ _ _ _ _ _) (hX _ _ _ _ _ _))
    | exact am_len_and (am_p2_and fun _ _ _ => ite_and (fun h h' => ⟨h.1, h.2.1, hX _ _ _ _ _ _ h.2.2 h'.2.2⟩) (fun h h' => ⟨h.1, hX _ _ _ _ _ _ h.2 h'.2⟩))
    | exact am_len_and (am_p_and fun _ _ => ite_and (hX _ _ _ _ _ _) (fun h h' => ⟨h.1, hX _ _ _ _ _ _ h.2 h'.2⟩))
    | exact am_p_and fun _ _ h h' => ⟨h.1, am_tsw_and (fun _ => am_j_and fun _ => hX _ _ _ _ _ _) _ _ _ _ h.2 h'.2⟩
    | skip
  all_goals unfold stI
  all_goals dsimp only
  case ifCond c o => exact am_len_and (am_p_and fun _ _ => am_j_and fun _ => by cases c <;> exact ite_and (hX _ _ _ _ _ _) (hX _ _ _ _ _ _))
  case if_icmp c o => exact am_len_and (am_p2_and fun _ _ _ => am_j_and fun _ => by cases c <;> exact ite_and (hX _ _ _ _ _ _) (hX _ _ _ _ _ _))
  case tableswitch => exact am_p_and fun x s h h' => ⟨h.1, am_tsw_and (f := fun o => am_j pc o fun t => X t ls s g r n) (f2 := fun o => am_j pc o fun t => X2 t ls s g r n) (f3 := fun o => am_j pc o fun t => X3 t ls s g r n) (fun o => am_j_and fun _ => hX _ _ _ _ _ _) _ _ _ _ h.2 h'.2⟩
  case dup => refine am_len_and ?_; split
              · exact ite_and (fun h _ => h) (hX _ _ _ _ _ _)
              · exact fun h _ => h
  case dup2 => refine am_len_and ?_; split
               · exact ite_and (fun h _ => h) (ite_and (fun h _ => h) (hX _ _ _ _ _ _))
               · exact fun h _ => h
  case pop => refine am_len_and ?_; split
              · exact ite_and (fun h _ => h) (hX _ _ _ _ _ _)
              · exact fun h _ => h
  case ldc idx => refine am_len_and ?_; split
                  · exact hX _ _ _ _ _ _
                  · split
                    · exact ite_and (hX _ _ _ _ _ _) (fun h _ => h)
                    · exact fun h _ => h
  case ldc_w idx => refine am_len_and ?_; split
                    · exact ite_and (hX _ _ _ _ _ _) (fun h _ => h)
                    · exact fun h _ => h
  case ldc2_w idx => refine am_len_and ?_; split
                     · exact ite_and (hX _ _ _ _ _ _) (fun h _ => h)
                     · exact fun h _ => h
  case getfield idx => refine am_len_and ?_; split
                       · exact am_p_and fun _ _ h h' => ⟨h.1, hX _ _ _ _ _ _ h.2 h'.2⟩
                       · exact fun h _ => h
  case putfield idx => refine am_len_and ?_; split
                       · exact am_p2_and fun _ _ _ h h' => ⟨h.1, h.2.1, ite_and (hX _ _ _ _ _ _) (ite_and (fun h h' => ⟨h.1, hX _ _ _ _ _ _ h.2 h'.2⟩) (hX _ _ _ _ _ _)) h.2.2 h'.2.2⟩
                       · exact fun h _ => h
  case new idx => refine am_len_and ?_; split
                  · exact fun h h' => ⟨h.1, h.2.1, h.2.2.1, h.2.2.2.1, h.2.2.2.2.1, hX _ _ _ _ _ _ h.2.2.2.2.2 h'.2.2.2.2.2⟩
                  · exact fun h _ => h
  case newarray t => refine am_len_and ?_; split
                     · exact stArr_and hX
                     · exact stArr_and hX
                     · exact stArr_and hX
                     · exact stArr_and hX
                     · exact fun h _ => h
  case anewarray idx => refine am_len_and ?_; split
                        · exact ite_and (am_p_and fun _ _ h h' => ⟨h.1, h.2.1, h.2.2.1, h.2.2.2.1, h.2.2.2.2.1, hX _ _ _ _ _ _ h.2.2.2.2.2 h'.2.2.2.2.2⟩) (ite_and (am_p_and fun _ _ h h' => ⟨h.1, h.2.1, h.2.2.1, h.2.2.2.1, h.2.2.2.2.1, hX _ _ _ _ _ _ h.2.2.2.2.2 h'.2.2.2.2.2⟩) (fun h _ => h))
                        · exact fun h _ => h
  case invokevirtual idx => refine am_len_and ?_; split
                            · exact ite_and (stCall_and hM hC hX _) (fun h _ => h)
                            · exact fun h _ => h
  case invokestatic idx => refine am_len_and ?_; split
                           · exact ite_and (stCall_and hM hC hX _) (fun h _ => h)
                           · exact fun h _ => h
  case invokespecial idx => refine am_len_and ?_; split
                            · exact ite_and (stCall_and hM hC hX _) (fun h _ => h)
                            · exact fun h _ => h
theorem stp_and {sc : SCR} {d : Nat} {C : CTR} {k : Nat} {n0 : Int} {Q Q2 Q3 : Int → GH → GH → Int → Prop} {X X2 X3 : XT} (hM : CMono C) (hC : CAnd C) (hQ : ∀ v g r n, Q v g r n → Q2 v g r n → Q3 v g r n) (hX : ∀ pc ls st g r n, X pc ls st g r n → X2 pc ls st g r n → X3 pc ls st g r n) {pc : Nat} {ls st : List AV} {g r : GH} {n : Int} :
    stp sc d C k n0 Q X pc ls st g r n → stp sc d C k n0 Q2 X2 pc ls st g r n → stp sc d C k n0 Q3 X3 pc ls st g r n := by
  unfold stp; split
  · exact stI_and hM hC hQ hX _ _
  · exact fun h _ => h
theorem WP_and {sc : SCR} {d : Nat} {C : CTR} {k : Nat} {n0 : Int} {Q Q2 : Int → GH → GH → Int → Prop} (hM : CMono C) (hC : CAnd C) {pc : Nat} {ls st : List AV} {g r : GH} {n : Int} (h : WP sc d C k n0 Q pc ls st g r n) (h2 : WP sc d C k n0 Q2 pc ls st g r n) :
    WP sc d C k n0 (fun v g r n => Q v g r n ∧ Q2 v g r n) pc ls st g r n := by
  refine h (fun pc ls st g r n => WP sc d C k n0 Q2 pc ls st g r n → WP sc d C k n0 (fun v g r n => Q v g r n ∧ Q2 v g r n) pc ls st g r n) (fun pc ls st g r n w w2 => ?_) h2
  rw [WP_unf hM] at w2 ⊢
  exact stp_and hM hC (fun _ _ _ _ a b => ⟨a, b⟩) (fun _ _ _ _ _ _ a b => a b) w w2
theorem Cd_and (sc : SCR) : ∀ d, CAnd (Cd sc d)
  | 0 => fun _ _ _ _ _ _ _ h _ => h
  | d + 1 => fun _ _ _ _ _ _ _ h h2 => ⟨h.1, WP_and (Cd_mono sc d) (Cd_and sc d) h.2 h2.2⟩
theorem Ce_and {sc : SCR} {d k : Nat} {Q P : QJ} {as : List AV} {g r : GH} (h : Ce sc d k as g r Q) (h2 : Ce sc d k as g r P) : Ce sc d k as g r (fun v g r => Q v g r ∧ P v g r) :=
  Cd_mono sc d _ _ _ _ _ _ _ (fun _ _ _ _ w e => ⟨w.1 e, w.2 e⟩) (Cd_and sc d _ _ _ _ _ _ _ h h2)
