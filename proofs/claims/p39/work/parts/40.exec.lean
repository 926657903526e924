/-! constructors: a run on a heap that is a list of what was written; evaluation finds the objects as they lie at the start -/
abbrev HL : Type := List (Int × Int × Int)
abbrev XR : Type := Int × HL × HL × Int
def dn (z : Int) : HL → GH
  | [] => fun _ _ => z
  | e :: t => up (dn z t) e.1 e.2.1 e.2.2
def dl (z i j : Int) : HL → Int
  | [] => z
  | e :: t => if i = e.1 ∧ j = e.2.1 then e.2.2 else dl z i j t
theorem dl_dn (z i j : Int) : ∀ L : HL, dn z L i j = dl z i j L
  | [] => rfl
  | e :: t => by
    unfold dn dl up
    rw [dl_dn z i j t]
def xq (t : Nat) (st : List AV) (f : Int → List AV → Option XR) : Option XR := match st with
  | [] => none
  | (u, x) :: s => if u = t then f x s else none
def fN (m : Nat) (k : Nat → Option XR) : Option XR := match m with
  | 0 => k 0
  | m + 1 => k (m + 1)
theorem fN_e (m : Nat) (k : Nat → Option XR) : fN m k = k m := by cases m <;> rfl
def fI (x : Int) (k : Int → Option XR) : Option XR := match x with
  | .ofNat m => fN m fun m => k (.ofNat m)
  | .negSucc m => fN m fun m => k (.negSucc m)
theorem fI_e (x : Int) (k : Int → Option XR) : fI x k = k x := by
  cases x with
  | ofNat m => exact fN_e m fun m => k (.ofNat m)
  | negSucc m => exact fN_e m fun m => k (.negSucc m)
def xL : List AV → (List AV → Option XR) → Option XR
  | [], k => k []
  | (u, x) :: t, k => fN u fun u => fI x fun x => xL t fun t => k ((u, x) :: t)
theorem xL_e : ∀ (ls : List AV) (k : List AV → Option XR), xL ls k = k ls
  | [], _ => rfl
  | (u, x) :: t, k => by
    show fN u _ = _
    rw [fN_e, fI_e, xL_e t]
def xg (b : Bool) (o : Option XR) : Option XR := match b with
  | true => o
  | false => none
def xl : List AV → Nat → Nat → (Int → Option XR) → Option XR
  | [], _, _, _ => none
  | (u, x) :: _, 0, t, f => if u = t then f x else none
  | _ :: s, i + 1, t, f => xl s i t f
def xN : Nat → List AV → (List AV → List AV → Option XR) → Option XR
  | 0, st, f => f [] st
  | m + 1, st, f => match st with
    | [] => none
    | v :: s => xN m s fun as s2 => f (as ++ [v]) s2
def xf (G R : HL) (n : Int) : Bool := G.all (fun e => decide (e.1 < n)) && R.all (fun e => decide (e.1 < n))
def xO (i : Nat) (n : Int) (m : Int) (c : Nat) : Bool := decide (0 ≤ m) && decide (m < n) && am_sh m == c
def xC (o : Nat → Option XR) (D : Nat) : Option XR := match D with
  | 0 => none
  | D2 + 1 => o D2
def xrun : Nat → Nat → Nat → Int → Nat → List AV → List AV → HL → HL → Int → Option XR
  | 0 => fun _ _ _ _ _ _ _ _ _ => none
  | f + 1 => fun D k n0 pc ls st G R n =>
    let call := fun (e : Nat × Nat × Nat × Nat) (as s2 : List AV) => xC (fun D2 => xg (Nat.ble (am_cat s2) 8 && (am_mk e.1 == 0 || decide (n + am_mk e.1 ≤ n0 + am_mk k)) && Nat.ble (am_lay as).length (am_maxL e.1))
        (match xL (am_ent (am_maxL e.1) as) (fun ls => xrun f D2 e.1 n 0 ls [] G R n) with
        | none => none
        | some q => xL (am_push (am_rc e.1) q.1 s2) (fun st => xrun f (D2 + 1) k n0 (pc + 3) ls st q.2.1 q.2.2.1 q.2.2.2))) D
    let arr := fun (kd : Nat) (ln : Nat) => xq 0 st fun x s => xg (decide (0 ≤ x) && am_sh n == kd && decide (am_ln n = x) && decide (n < n0 + am_mk k) && xf G R n) (fI (n + 1) fun n2 => xrun f D k n0 (pc + ln) ls ((2, n) :: s) G R n2)
    fN pc fun pc => match dcF (am_code k) pc with
    | none => none
    | some (i, len) => match i with
      | .iconst v => xg (len == 1 && decide (-128 ≤ v ∧ v < 128)) (xrun f D k n0 (pc + 1) ls ((0, v) :: st) G R n)
      | .bipush v => xg (len == 2 && decide (-128 ≤ v ∧ v < 128)) (xrun f D k n0 (pc + 2) ls ((0, v) :: st) G R n)
      | .sipush v => xg (len == 3 && decide (-32768 ≤ v ∧ v < 32768)) (xrun f D k n0 (pc + 3) ls ((0, v) :: st) G R n)
      | .lconst v => xg (len == 1) (xrun f D k n0 (pc + 1) ls ((1, ((v : Nat) : Int)) :: st) G R n)
      | .iload_n j => xg (len == 1) (xl ls j 0 fun v => xrun f D k n0 (pc + 1) ls ((0, v) :: st) G R n)
      | .aload_n j => xg (len == 1) (xl ls j 2 fun v => xrun f D k n0 (pc + 1) ls ((2, v) :: st) G R n)
      | .istore_n j => xg (len == 1 && decide ((j : Nat) < am_maxL k)) (xq 0 st fun v s => xL (am_st1 ls j (0, v)) fun ls => xrun f D k n0 (pc + 1) ls s G R n)
      | .iinc j c => xg (len == 3 && decide (j < am_maxL k)) (xl ls j 0 fun v => xL (am_st1 ls j (0, wr (v + c))) fun ls => xrun f D k n0 (pc + 3) ls st G R n)
      | .dup => xg (len == 1) (match st with
        | (u, x) :: s => if u = 1 then none else xrun f D k n0 (pc + 1) ls ((u, x) :: (u, x) :: s) G R n
        | [] => none)
      | .goto o => xg (len == 3 && decide (0 ≤ (pc : Int) + o)) (xrun f D k n0 ((pc : Int) + o).toNat ls st G R n)
      | .if_icmp c o => xg (len == 3 && decide (0 ≤ (pc : Int) + o)) (xq 0 st fun y s => xq 0 s fun x s => match c with
        | .eq => if x = y then xrun f D k n0 ((pc : Int) + o).toNat ls s G R n else xrun f D k n0 (pc + 3) ls s G R n
        | .ne => if x = y then xrun f D k n0 (pc + 3) ls s G R n else xrun f D k n0 ((pc : Int) + o).toNat ls s G R n
        | .lt => if x < y then xrun f D k n0 ((pc : Int) + o).toNat ls s G R n else xrun f D k n0 (pc + 3) ls s G R n
        | .ge => if x < y then xrun f D k n0 (pc + 3) ls s G R n else xrun f D k n0 ((pc : Int) + o).toNat ls s G R n
        | .gt => if y < x then xrun f D k n0 ((pc : Int) + o).toNat ls s G R n else xrun f D k n0 (pc + 3) ls s G R n
        | .le => if y < x then xrun f D k n0 (pc + 3) ls s G R n else xrun f D k n0 ((pc : Int) + o).toNat ls s G R n)
      | .getfield idx => xg (len == 3) (match am_at k idx am_FL with
        | some e => xq 2 st fun x s => xg (xO 0 n x e.1) (xL ((am_tag e.2.2.1, if e.2.2.1 = 2 then dl (-1) x (e.2.1 : Int) R else dl 0 x (e.2.1 : Int) G) :: s) fun st => xrun f D k n0 (pc + 3) ls st G R n)
        | none => none)
      | .putfield idx => xg (len == 3) (match am_at k idx am_FL with
        | some e => xq (am_tag e.2.2.1) st fun v s => xq 2 s fun x s => xg (xO 0 n x e.1 && (!e.2.2.2.1 || (am_isI k && am_kd (am_own k) == e.1)))
            (if e.2.2.1 = 2 then xrun f D k n0 (pc + 3) ls s G ((x, (e.2.1 : Int), v) :: R) n else if e.2.2.1 = 3 then xg (decide (v = 0 ∨ v = 1)) (xrun f D k n0 (pc + 3) ls s ((x, (e.2.1 : Int), v) :: G) R n) else xrun f D k n0 (pc + 3) ls s ((x, (e.2.1 : Int), v) :: G) R n)
        | none => none)
      | .iastore => xg (len == 1) (xq 0 st fun v s => xq 0 s fun j s => xq 2 s fun x s => xg (xO 0 n x 11 && decide (0 ≤ j) && decide (j < am_ln x)) (xrun f D k n0 (pc + 1) ls s ((x, j, v) :: G) R n))
      | .aastore => xg (len == 1) (xq 2 st fun v s => xq 0 s fun j s => xq 2 s fun x s => xg (decide (0 ≤ j) && decide (j < am_ln x) && ((xO 0 n x 14 && xO 0 n v 2) || (xO 0 n x 15 && xO 0 n v 0))) (xrun f D k n0 (pc + 1) ls s G ((x, j, v) :: R) n))
      | .arraylength => xg (len == 1) (xq 2 st fun x s => xg (decide (0 ≤ x ∧ x < n ∧ 11 ≤ am_sh x ∧ am_sh x ≤ 15)) (xrun f D k n0 (pc + 1) ls ((0, am_ln x) :: s) G R n))
      | .new idx => xg (len == 3) (match am_at k idx am_NL with
        | some e => xg (Nat.ble e.1 9 && am_sh n == e.1 && decide (am_ln n = ((am_nf e.1 : Nat) : Int)) && decide (n < n0 + am_mk k) && xf G R n) (fI (n + 1) fun n2 => xrun f D k n0 (pc + 3) ls ((2, n) :: st) G R n2)
        | none => none)
      | .newarray t => xg (len == 2) (match t with
        | .int => arr 11 2
        | .long => arr 12 2
        | .boolean => arr 13 2
        | .byte => arr 10 2
        | _ => none)
      | .anewarray idx => xg (len == 3) (match am_at k idx am_NL with
        | some e => if e.1 = 2 then arr 14 3 else if e.1 = 0 then arr 15 3 else none
        | none => none)
      | .invokestatic idx => xg (len == 3) (match am_at k idx am_CL with
        | some e => if e.2.2.1 = 1 then xN e.2.1 st fun as s2 => call e as s2 else none
        | none => none)
      | .invokespecial idx => xg (len == 3) (match am_at k idx am_CL with
        | some e => if e.2.2.1 = 2 ∨ e.2.2.1 = 3 then xN e.2.1 st fun as s => xq 2 s fun x s2 => xg (decide (0 ≤ x ∧ x < 1000000)) (call e ((2, x) :: as) s2)
          else if e.2.2.1 = 8 then xq 2 st fun x s => xg (decide (0 ≤ x ∧ x < 1000000) && Nat.ble (am_cat s) 8) (xrun f D k n0 (pc + 3) ls s G R n) else none
        | none => none)
      | .ireturn => xg (len == 1) (xq 0 st fun v s => match s with
        | [] => xg (am_rc k == 1 && decide (n = n0 + am_mk k)) (some (v, G, R, n))
        | _ :: _ => none)
      | .return_ => xg (len == 1) (match st with
        | [] => xg (am_rc k == 0 && decide (n = n0 + am_mk k)) (some (0, G, R, n))
        | _ :: _ => none)
      | _ => none
theorem xq_i {t : Nat} {st : List AV} {f : Int → List AV → Option XR} {F : Int → List AV → Prop} {a : XR} (hf : ∀ v s, f v s = some a → F v s) (h : xq t st f = some a) : am_p t st F := by
  cases st with
  | nil => cases h
  | cons v s =>
    obtain ⟨u, x⟩ := v
    unfold xq at h
    show (if u = t then F x s else False)
    dsimp only at h
    split at h
    · rename_i e; rw [if_pos e]; exact hf _ _ h
    · cases h
theorem xg_e {b : Bool} {o : Option XR} {a : XR} (h : xg b o = some a) : b = true ∧ o = some a := by
  cases b
  · cases h
  · exact ⟨rfl, h⟩
theorem xl_i {a : XR} : ∀ {ls : List AV} {i t : Nat} {f : Int → Option XR} {F : Int → Prop}, (∀ v, f v = some a → F v) → xl ls i t f = some a → am_ld ls i t F
  | [], _, _, _, _, _, h => by cases h
  | (u, x) :: s, 0, t, f, F, hf, h => by
    unfold xl at h
    show (if u = t then F x else False)
    split at h
    · rename_i e; rw [if_pos e]; exact hf _ h
    · cases h
  | a :: s, i + 1, t, f, F, hf, h => xl_i (ls := s) hf h
theorem xN_i {a : XR} : ∀ (m : Nat) {st : List AV} {f : List AV → List AV → Option XR} {F : List AV → List AV → Prop}, (∀ as s, f as s = some a → F as s) → xN m st f = some a → am_popN m st F
  | 0, _, _, _, h, w => h _ _ w
  | m + 1, [], _, _, _, w => by cases w
  | m + 1, v :: s, _, _, h, w => xN_i m (fun as s2 w => h _ _ w) w
theorem ite_i {c : Prop} {inst : Decidable c} {x y : Option XR} {a : XR} {p q : Prop} (h1 : x = some a → p) (h2 : y = some a → q) (h : @ite _ c inst x y = some a) : @ite _ c inst p q := by
  split at h
  · rename_i e; rw [if_pos e]; exact h1 h
  · rename_i e; rw [if_neg e]; exact h2 h
theorem dn_fresh {z : Int} {n : Int} : ∀ {L : HL}, L.all (fun e => decide (e.1 < n)) = true → ∀ j, dn z L n j = z
  | [], _, _ => rfl
  | e :: t, h, j => by
    rw [List.all_cons] at h
    obtain ⟨h1, h2⟩ := b2 h
    have h1 := of_decide_eq_true h1
    unfold dn up
    rw [if_neg (by omega)]
    exact dn_fresh h2 j
theorem am_j_p {pc : Nat} {o : Int} {f : Nat → Prop} (h : 0 ≤ (pc : Int) + o) (w : f ((pc : Int) + o).toNat) : am_j pc o f := by unfold am_j; rw [if_pos h]; exact w
theorem xf_i {G R : HL} {n : Int} (h : xf G R n = true) : fresh (dn 0 G) (dn (-1) R) n := fun j => ⟨dn_fresh (b2 h).1 j, dn_fresh (b2 h).2 j⟩
theorem xO_i {i : Nat} {n m : Int} {c : Nat} (h : xO i n m c = true) : okr n m c := by
  obtain ⟨h, h3⟩ := b2 h
  obtain ⟨h1, h2⟩ := b2 h
  exact ⟨of_decide_eq_true h1, of_decide_eq_true h2, ne_e h3⟩
set_option maxHeartbeats 4000000 in
theorem xrun_ok {sc : SCR} : ∀ (f D k : Nat) (n0 : Int) (pc : Nat) (ls st : List AV) (G R : HL) (n : Int) (a : XR), xrun f D k n0 pc ls st G R n = some a →
    ∀ Q : Int → GH → GH → Int → Prop, Q a.1 (dn 0 a.2.1) (dn (-1) a.2.2.1) a.2.2.2 → WP sc D (Cd sc D) k n0 Q pc ls st (dn 0 G) (dn (-1) R) n
  | 0, _, _, _, _, _, _, _, _, _, _, h => by cases h
  | f + 1, D, k, n0, pc, ls, st, G, R, n, a, h => by
    intro Q hQ
    have ih : ∀ {k : Nat} {n0 : Int} {pc : Nat} {ls st : List AV} {G R : HL} {n : Int}, xrun f D k n0 pc ls st G R n = some a → k = k → True := fun _ _ => trivial
    have hx : ∀ {pc : Nat} {ls st : List AV} {G R : HL} {n : Int}, xrun f D k n0 pc ls st G R n = some a → WP sc D (Cd sc D) k n0 Q pc ls st (dn 0 G) (dn (-1) R) n := fun w => xrun_ok f D k n0 _ _ _ _ _ _ a w Q hQ
    have hcall : ∀ (e : Nat × Nat × Nat × Nat) (as s2 : List AV), xC (fun D2 => xg (Nat.ble (am_cat s2) 8 && (am_mk e.1 == 0 || decide (n + am_mk e.1 ≤ n0 + am_mk k)) && Nat.ble (am_lay as).length (am_maxL e.1))
        (match xL (am_ent (am_maxL e.1) as) (fun ls => xrun f D2 e.1 n 0 ls [] G R n) with
        | none => none
        | some q => xL (am_push (am_rc e.1) q.1 s2) (fun st => xrun f (D2 + 1) k n0 (pc + 3) ls st q.2.1 q.2.2.1 q.2.2.2))) D = some a →
        am_cat s2 ≤ 8 ∧ cellsOK k n0 e.1 n ∧ Cd sc D e.1 as (dn 0 G) (dn (-1) R) n (fun v g2 r2 n2 => WP sc D (Cd sc D) k n0 Q (pc + 3) ls (am_push (am_rc e.1) v s2) g2 r2 n2) := by
      intro e as s2 w
      cases D with
      | zero => cases w
      | succ D2 =>
        unfold xC at w
        dsimp only at w
        obtain ⟨b, w⟩ := xg_e w
        obtain ⟨b, b3⟩ := b2 b
        obtain ⟨b1, b2'⟩ := b2 b
        rw [xL_e] at w
        split at w
        · cases w
        · rename_i q hq
          rw [xL_e] at w
          refine ⟨Nat.le_of_ble_eq_true b1, fun hm => ?_, Nat.le_of_ble_eq_true b3, ?_⟩
          · rcases Bool.or_eq_true_iff.mp b2' with e | e
            · exact absurd (ne_e e) hm
            · exact of_decide_eq_true e
          · exact xrun_ok f D2 e.1 n 0 _ _ _ _ _ q hq _ (hx w)
    have harr : ∀ (kd ln : Nat), (xq 0 st fun x s => xg (decide (0 ≤ x) && am_sh n == kd && decide (am_ln n = x) && decide (n < n0 + am_mk k) && xf G R n) (fI (n + 1) fun n2 => xrun f D k n0 (pc + ln) ls ((2, n) :: s) G R n2)) = some a →
        am_p 0 st fun x s => 0 ≤ x ∧ am_sh n = kd ∧ am_ln n = x ∧ n < n0 + am_mk k ∧ fresh (dn 0 G) (dn (-1) R) n ∧ WP sc D (Cd sc D) k n0 Q (pc + ln) ls ((2, n) :: s) (dn 0 G) (dn (-1) R) (n + 1) := by
      intro kd ln w
      refine xq_i (fun x s w => ?_) w
      obtain ⟨b, w⟩ := xg_e w
      obtain ⟨b, b5⟩ := b2 b
      obtain ⟨b, b4⟩ := b2 b
      obtain ⟨b, b3⟩ := b2 b
      obtain ⟨b1, b2'⟩ := b2 b
      rw [fI_e] at w
      exact ⟨of_decide_eq_true b1, ne_e b2', of_decide_eq_true b3, of_decide_eq_true b4, xf_i b5, hx w⟩
    rw [WP_unf (Cd_mono sc D)]
    unfold stp
    unfold xrun at h
    dsimp only at h
    rw [fN_e] at h
    split at h
    · cases h
    · rename_i i len hd0
      have hd := dcF_of hd0
      rw [hd]
      dsimp only
      cases i
      case iconst v => obtain ⟨b, h⟩ := xg_e h; obtain ⟨b1, b2'⟩ := b2 b; exact len_i (ne_e b1) (am_b_i b2' (hx h))
      case bipush v => obtain ⟨b, h⟩ := xg_e h; obtain ⟨b1, b2'⟩ := b2 b; exact len_i (ne_e b1) (am_b_i b2' (hx h))
      case sipush v => obtain ⟨b, h⟩ := xg_e h; obtain ⟨b1, b2'⟩ := b2 b; exact len_i (ne_e b1) (am_b_i b2' (hx h))
      case lconst v => obtain ⟨b, h⟩ := xg_e h; exact len_i (ne_e b) (hx h)
      case iload_n j => obtain ⟨b, h⟩ := xg_e h; exact len_i (ne_e b) (xl_i (fun v w => hx w) h)
      case aload_n j => obtain ⟨b, h⟩ := xg_e h; exact len_i (ne_e b) (xl_i (fun v w => hx w) h)
      case istore_n j => obtain ⟨b, h⟩ := xg_e h; obtain ⟨b1, b2'⟩ := b2 b; exact len_i (ne_e b1) (am_b_i b2' (xq_i (fun v s w => hx (by rw [xL_e] at w; exact w)) h))
      case iinc j c => obtain ⟨b, h⟩ := xg_e h; obtain ⟨b1, b2'⟩ := b2 b; exact len_i (ne_e b1) (am_b_i b2' (xl_i (fun v w => hx (by rw [xL_e] at w; exact w)) h))
      case dup =>
        obtain ⟨b, h⟩ := xg_e h
        refine len_i (ne_e b) ?_
        split at h
        · split at h
          · cases h
          · rename_i hn
            show ite _ _ _
            rw [if_neg hn]; exact hx h
        · cases h
      case goto o => obtain ⟨b, h⟩ := xg_e h; obtain ⟨b1, b2'⟩ := b2 b; refine len_i (ne_e b1) ?_; unfold am_j; rw [if_pos (of_decide_eq_true b2')]; exact hx h
      case if_icmp c o =>
        obtain ⟨b, h⟩ := xg_e h; obtain ⟨b1, b2'⟩ := b2 b
        refine len_i (ne_e b1) (xq_i (fun y s w => xq_i (fun x s w => ?_) w) h)
        refine am_j_p (of_decide_eq_true b2') ?_
        cases c <;> exact ite_i hx hx w
      case getfield idx =>
        obtain ⟨b, h⟩ := xg_e h
        refine len_i (ne_e b) ?_
        split at h
        · rename_i e he
          rw [he]
          try dsimp only
          refine xq_i (fun x s w => ?_) h
          obtain ⟨b, w⟩ := xg_e w
          refine ⟨xO_i b, ?_⟩
          rw [dl_dn, dl_dn]; rw [xL_e] at w; exact hx w
        · cases h
      case putfield idx =>
        obtain ⟨b, h⟩ := xg_e h
        refine len_i (ne_e b) ?_
        split at h
        · rename_i e he
          rw [he]
          try dsimp only
          refine xq_i (fun v s w => xq_i (fun x s w => ?_) w) h
          obtain ⟨b, w⟩ := xg_e w
          obtain ⟨b1, b2'⟩ := b2 b
          refine ⟨xO_i b1, fun hf => ?_, ?_⟩
          · rw [hf] at b2'
            obtain ⟨c1, c2⟩ := b2 b2'
            exact ⟨c1, ne_e c2⟩
          · refine ite_i (fun w => hx w) (ite_i (fun w => ?_) (fun w => hx w)) w
            obtain ⟨b, w⟩ := xg_e w
            exact ⟨of_decide_eq_true b, hx w⟩
        · cases h
      case iastore =>
        obtain ⟨b, h⟩ := xg_e h
        refine len_i (ne_e b) (xq_i (fun v s w => xq_i (fun j s w => xq_i (fun x s w => ?_) w) w) h)
        obtain ⟨b, w⟩ := xg_e w
        obtain ⟨b, b3⟩ := b2 b
        obtain ⟨b1, b2'⟩ := b2 b
        exact ⟨⟨xO_i b1, of_decide_eq_true b2', of_decide_eq_true b3⟩, hx w⟩
      case aastore =>
        obtain ⟨b, h⟩ := xg_e h
        refine len_i (ne_e b) (xq_i (fun v s w => xq_i (fun j s w => xq_i (fun x s w => ?_) w) w) h)
        obtain ⟨b, w⟩ := xg_e w
        obtain ⟨b, b3⟩ := b2 b
        obtain ⟨b1, b2'⟩ := b2 b
        refine ⟨?_, hx w⟩
        rcases Bool.or_eq_true_iff.mp b3 with e | e
        · exact Or.inl ⟨⟨xO_i (b2 e).1, of_decide_eq_true b1, of_decide_eq_true b2'⟩, xO_i (b2 e).2⟩
        · exact Or.inr ⟨⟨xO_i (b2 e).1, of_decide_eq_true b1, of_decide_eq_true b2'⟩, xO_i (b2 e).2⟩
      case arraylength =>
        obtain ⟨b, h⟩ := xg_e h
        refine len_i (ne_e b) (xq_i (fun x s w => ?_) h)
        obtain ⟨b, w⟩ := xg_e w
        have b := of_decide_eq_true b
        show ite _ _ _
        rw [if_neg (by omega)]
        exact ⟨b, hx w⟩
      case new idx =>
        obtain ⟨b, h⟩ := xg_e h
        refine len_i (ne_e b) ?_
        split at h
        · rename_i e he
          rw [he]
          try dsimp only
          obtain ⟨b, w⟩ := xg_e h
          obtain ⟨b, b5⟩ := b2 b
          obtain ⟨b, b4⟩ := b2 b
          obtain ⟨b, b3⟩ := b2 b
          obtain ⟨b1, b2'⟩ := b2 b
          rw [fI_e] at w
          exact ⟨Nat.le_of_ble_eq_true b1, ne_e b2', of_decide_eq_true b3, of_decide_eq_true b4, xf_i b5, hx w⟩
        · cases h
      case newarray t =>
        obtain ⟨b, h⟩ := xg_e h
        refine len_i (ne_e b) ?_
        cases t <;> first | exact harr _ _ h | cases h
      case anewarray idx =>
        obtain ⟨b, h⟩ := xg_e h
        refine len_i (ne_e b) ?_
        split at h
        · rename_i e he
          rw [he]
          exact ite_i (harr 14 3) (ite_i (harr 15 3) (fun h => by cases h)) h
        · cases h
      case invokestatic idx =>
        obtain ⟨b, h⟩ := xg_e h
        refine len_i (ne_e b) ?_
        split at h
        · rename_i e he
          rw [he]
          try dsimp only
          obtain ⟨e1, e2, e3, e4⟩ := e
          dsimp only at h ⊢
          split at h
          · rename_i h1
            subst h1
            rw [if_pos (by decide)]
            exact xN_i _ (fun as s w => hcall (e1, e2, 1, e4) as s w) h
          · cases h
        · cases h
      case invokespecial idx =>
        obtain ⟨b, h⟩ := xg_e h
        refine len_i (ne_e b) ?_
        split at h
        · rename_i e he
          rw [he]
          try dsimp only
          obtain ⟨e1, e2, e3, e4⟩ := e
          dsimp only at h ⊢
          split at h
          · rename_i h1
            rw [if_pos (by omega)]
            rcases h1 with h1 | h1 <;> subst h1
            · refine xN_i _ (fun as s w => xq_i (fun x s2 w => ?_) w) h
              obtain ⟨b, w⟩ := xg_e w
              have b := of_decide_eq_true b
              exact ⟨b.1, b.2, hcall (e1, e2, 2, e4) _ s2 w⟩
            · refine xN_i _ (fun as s w => xq_i (fun x s2 w => ?_) w) h
              obtain ⟨b, w⟩ := xg_e w
              have b := of_decide_eq_true b
              exact ⟨b.1, b.2, hcall (e1, e2, 3, e4) _ s2 w⟩
          · split at h
            · rename_i h1
              subst h1
              rw [if_pos (by decide)]
              unfold stCall
              dsimp only
              refine xq_i (fun x s w => ?_) h
              obtain ⟨b, w⟩ := xg_e w
              obtain ⟨b, b3⟩ := b2 b
              have b := of_decide_eq_true b
              exact ⟨b.1, b.2, Nat.le_of_ble_eq_true b3, hx w⟩
            · cases h
        · cases h
      case ireturn =>
        obtain ⟨b, h⟩ := xg_e h
        refine len_i (ne_e b) (xq_i (fun v s w => ?_) h)
        split at w
        · obtain ⟨b, w⟩ := xg_e w
          cases w
          exact ⟨rfl, Or.inl (ne_e (b2 b).1), of_decide_eq_true (b2 b).2, hQ⟩
        · cases w
      case return_ =>
        obtain ⟨b, h⟩ := xg_e h
        refine len_i (ne_e b) ?_
        split at h
        · obtain ⟨b, w⟩ := xg_e h
          cases w
          exact ⟨rfl, ne_e (b2 b).1, of_decide_eq_true (b2 b).2, hQ⟩
        · cases h
      all_goals cases h
