/-! constructors: a run on a heap that is a list of what was written; evaluation finds the objects as they lie at the start -/
abbrev HL : Type := List (Int × Int × Int)
abbrev XR : Type := Int × HL × HL × Int
def dn (z : Int) : HL → GH
  | [] => fun _ _ => z
  | e :: t => up (dn z t) e.1 e.2.1 e.2.2
def dl (z i j : Int) : HL → Int
  | [] => z
  | e :: t => if i = e.1 ∧ j = e.2.1 then e.2.2 else dl z i j t
theorem dl_dn (z i j : Int) : ∀ L : HL, dn z L i j = dl z i j L
  | [] => rfl
  | e :: t => by
    unfold dn dl up
    rw [dl_dn z i j t]
def xq (t : Nat) (st : List AV) (f : Int → List AV → Option XR) : Option XR := match st with
  | [] => none
  | v :: s => if v.1 = t then f v.2 s else none
def xg (b : Bool) (o : Option XR) : Option XR := match b with
  | true => o
  | false => none
def xl (ls : List AV) (i t : Nat) (f : Int → Option XR) : Option XR := match ls[i]? with
  | none => none
  | some v => if v.1 = t then f v.2 else none
def xN : Nat → List AV → (List AV → List AV → Option XR) → Option XR
  | 0, st, f => f [] st
  | m + 1, st, f => match st with
    | [] => none
    | v :: s => xN m s fun as s2 => f (as ++ [v]) s2
def xf (G R : HL) (n : Int) : Bool := G.all (fun e => decide (e.1 < n)) && R.all (fun e => decide (e.1 < n))
def xO (i : Nat) (n : Int) (m : Int) (c : Nat) : Bool := decide (0 ≤ m) && decide (m < n) && am_sh m == c
def xrun : Nat → Nat → Nat → Int → Nat → List AV → List AV → HL → HL → Int → Option XR
  | 0 => fun _ _ _ _ _ _ _ _ _ => none
  | f + 1 => fun D k n0 pc ls st G R n =>
    let call := fun (e : Nat × Nat × Nat × Nat) (as s2 : List AV) => match D with
      | 0 => none
      | D2 + 1 => xg (Nat.ble (am_cat s2) 8 && (am_mk e.1 == 0 || decide (n + am_mk e.1 ≤ n0 + am_mk k)) && Nat.ble (am_lay as).length (am_maxL e.1))
        (match xrun f D2 e.1 n 0 (am_ent (am_maxL e.1) as) [] G R n with
        | none => none
        | some q => xrun f (D2 + 1) k n0 (pc + 3) ls (am_push (am_rc e.1) q.1 s2) q.2.1 q.2.2.1 q.2.2.2)
    let arr := fun (kd : Nat) (ln : Nat) => xq 0 st fun x s => xg (decide (0 ≤ x) && am_sh n == kd && decide (am_ln n = x) && decide (n < n0 + am_mk k) && xf G R n) (xrun f D k n0 (pc + ln) ls ((2, n) :: s) G R (n + 1))
    match decode (am_code k) pc with
    | .error _ => none
    | .ok (i, len) => match i with
      | .iconst v => xg (len == 1 && decide (-128 ≤ v ∧ v < 128)) (xrun f D k n0 (pc + 1) ls ((0, v) :: st) G R n)
      | .bipush v => xg (len == 2 && decide (-128 ≤ v ∧ v < 128)) (xrun f D k n0 (pc + 2) ls ((0, v) :: st) G R n)
      | .sipush v => xg (len == 3 && decide (-32768 ≤ v ∧ v < 32768)) (xrun f D k n0 (pc + 3) ls ((0, v) :: st) G R n)
      | .lconst v => xg (len == 1) (xrun f D k n0 (pc + 1) ls ((1, ((v : Nat) : Int)) :: st) G R n)
      | .iload_n j => xg (len == 1) (xl ls j 0 fun v => xrun f D k n0 (pc + 1) ls ((0, v) :: st) G R n)
      | .aload_n j => xg (len == 1) (xl ls j 2 fun v => xrun f D k n0 (pc + 1) ls ((2, v) :: st) G R n)
      | .istore_n j => xg (len == 1 && decide ((j : Nat) < am_maxL k)) (xq 0 st fun v s => xrun f D k n0 (pc + 1) (am_st1 ls j (0, v)) s G R n)
      | .iinc j c => xg (len == 3 && decide (j < am_maxL k)) (xl ls j 0 fun v => xrun f D k n0 (pc + 3) (am_st1 ls j (0, wr (v + c))) st G R n)
      | .dup => xg (len == 1) (match st with
        | v :: s => if v.1 = 1 then none else xrun f D k n0 (pc + 1) ls (v :: v :: s) G R n
        | [] => none)
      | .goto o => xg (len == 3 && decide (0 ≤ (pc : Int) + o)) (xrun f D k n0 ((pc : Int) + o).toNat ls st G R n)
      | .if_icmp c o => xg (len == 3 && decide (0 ≤ (pc : Int) + o)) (xq 0 st fun y s => xq 0 s fun x s => match c with
        | .eq => if x = y then xrun f D k n0 ((pc : Int) + o).toNat ls s G R n else xrun f D k n0 (pc + 3) ls s G R n
        | .ne => if x = y then xrun f D k n0 (pc + 3) ls s G R n else xrun f D k n0 ((pc : Int) + o).toNat ls s G R n
        | .lt => if x < y then xrun f D k n0 ((pc : Int) + o).toNat ls s G R n else xrun f D k n0 (pc + 3) ls s G R n
        | .ge => if x < y then xrun f D k n0 (pc + 3) ls s G R n else xrun f D k n0 ((pc : Int) + o).toNat ls s G R n
        | .gt => if y < x then xrun f D k n0 ((pc : Int) + o).toNat ls s G R n else xrun f D k n0 (pc + 3) ls s G R n
        | .le => if y < x then xrun f D k n0 (pc + 3) ls s G R n else xrun f D k n0 ((pc : Int) + o).toNat ls s G R n)
      | .getfield idx => xg (len == 3) (match am_at k idx am_FL with
        | some e => xq 2 st fun x s => xg (xO 0 n x e.1) (xrun f D k n0 (pc + 3) ls ((am_tag e.2.2.1, if e.2.2.1 = 2 then dl (-1) x (e.2.1 : Int) R else dl 0 x (e.2.1 : Int) G) :: s) G R n)
        | none => none)
      | .putfield idx => xg (len == 3) (match am_at k idx am_FL with
        | some e => xq (am_tag e.2.2.1) st fun v s => xq 2 s fun x s => xg (xO 0 n x e.1 && (!e.2.2.2.1 || (am_isI k && am_kd (am_own k) == e.1)))
            (if e.2.2.1 = 2 then xrun f D k n0 (pc + 3) ls s G ((x, (e.2.1 : Int), v) :: R) n else if e.2.2.1 = 3 then xg (decide (v = 0 ∨ v = 1)) (xrun f D k n0 (pc + 3) ls s ((x, (e.2.1 : Int), v) :: G) R n) else xrun f D k n0 (pc + 3) ls s ((x, (e.2.1 : Int), v) :: G) R n)
        | none => none)
      | .iastore => xg (len == 1) (xq 0 st fun v s => xq 0 s fun j s => xq 2 s fun x s => xg (xO 0 n x 11 && decide (0 ≤ j) && decide (j < am_ln x)) (xrun f D k n0 (pc + 1) ls s ((x, j, v) :: G) R n))
      | .aastore => xg (len == 1) (xq 2 st fun v s => xq 0 s fun j s => xq 2 s fun x s => xg (decide (0 ≤ j) && decide (j < am_ln x) && ((xO 0 n x 14 && xO 0 n v 2) || (xO 0 n x 15 && xO 0 n v 0))) (xrun f D k n0 (pc + 1) ls s G ((x, j, v) :: R) n))
      | .arraylength => xg (len == 1) (xq 2 st fun x s => xg (decide (0 ≤ x ∧ x < n ∧ 11 ≤ am_sh x ∧ am_sh x ≤ 15)) (xrun f D k n0 (pc + 1) ls ((0, am_ln x) :: s) G R n))
      | .new idx => xg (len == 3) (match am_at k idx am_NL with
        | some e => xg (Nat.ble e.1 9 && am_sh n == e.1 && decide (am_ln n = ((am_nf e.1 : Nat) : Int)) && decide (n < n0 + am_mk k) && xf G R n) (xrun f D k n0 (pc + 3) ls ((2, n) :: st) G R (n + 1))
        | none => none)
      | .newarray t => xg (len == 2) (match t with
        | .int => arr 11 2
        | .long => arr 12 2
        | .boolean => arr 13 2
        | .byte => arr 10 2
        | _ => none)
      | .anewarray idx => xg (len == 3) (match am_at k idx am_NL with
        | some e => if e.1 = 2 then arr 14 3 else if e.1 = 0 then arr 15 3 else none
        | none => none)
      | .invokestatic idx => xg (len == 3) (match am_at k idx am_CL with
        | some e => if e.2.2.1 = 1 then xN e.2.1 st fun as s2 => call e as s2 else none
        | none => none)
      | .invokespecial idx => xg (len == 3) (match am_at k idx am_CL with
        | some e => if e.2.2.1 = 2 ∨ e.2.2.1 = 3 then xN e.2.1 st fun as s => xq 2 s fun x s2 => xg (decide (0 ≤ x ∧ x < 1000000)) (call e ((2, x) :: as) s2)
          else if e.2.2.1 = 8 then xq 2 st fun x s => xg (decide (0 ≤ x ∧ x < 1000000) && Nat.ble (am_cat s) 8) (xrun f D k n0 (pc + 3) ls s G R n) else none
        | none => none)
      | .ireturn => xg (len == 1) (xq 0 st fun v s => match s with
        | [] => xg (am_rc k == 1 && decide (n = n0 + am_mk k)) (some (v, G, R, n))
        | _ :: _ => none)
      | .return_ => xg (len == 1) (match st with
        | [] => xg (am_rc k == 0 && decide (n = n0 + am_mk k)) (some (0, G, R, n))
        | _ :: _ => none)
      | _ => none
