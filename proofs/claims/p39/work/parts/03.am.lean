/-! A MACHINE OF NUMBERS: values are (kind, number): 0 int, 1 long, 2 reference (-1 null, else the object's number; texts from 1000000 on; -5 the script). The heap: numbers g and references r, by object and place. -/
abbrev AV : Type := Nat × Int
abbrev GH : Type := Int → Int → Int
abbrev SCR : Type := Int × (Int → Int)
abbrev CTR : Type := Nat → List AV → GH → GH → Int → (Int → GH → GH → Int → Prop) → Prop
abbrev XT : Type := Nat → List AV → List AV → GH → GH → Int → Prop
def wr (x : Int) : Int := (Int32.ofInt x).toInt
def wL (x : Int) : Int := (Int64.ofInt x).toInt
def up (f : GH) (i j v : Int) : GH := fun a b => if a = i ∧ b = j then v else f a b
def cpy (f : GH) (s sp d dp n : Int) : GH := fun a b => if a = d ∧ dp ≤ b ∧ b < dp + n then f s (sp + (b - dp)) else f a b
def okr (n x : Int) (c : Nat) : Prop := 0 ≤ x ∧ x < n ∧ am_sh x = c
def okI (n x : Int) (c : Nat) (j : Int) : Prop := okr n x c ∧ 0 ≤ j ∧ j < am_ln x
def fresh (g r : GH) (n : Int) : Prop := ∀ j : Int, g n j = 0 ∧ r n j = -1
def am_p (t : Nat) (st : List AV) (f : Int → List AV → Prop) : Prop := match st with
  | [] => False
  | v :: s => if v.1 = t then f v.2 s else False
def am_p2 (t u : Nat) (st : List AV) (f : Int → Int → List AV → Prop) : Prop := am_p u st fun y s => am_p t s fun x s2 => f x y s2
def am_ld (ls : List AV) (i t : Nat) (f : Int → Prop) : Prop := match ls[i]? with
  | none => False
  | some v => if v.1 = t then f v.2 else False
def am_kill (ls : List AV) (i : Nat) : List AV := match i with
  | 0 => ls
  | j + 1 => match ls[j]? with
    | some (1, _) => ls.set j (9, 0)
    | _ => ls
def am_st1 (ls : List AV) (i : Nat) (v : AV) : List AV := (am_kill ls i).set i v
def am_st2 (ls : List AV) (i : Nat) (v : AV) : List AV := ((am_kill ls i).set i v).set (i + 1) (8, 0)
def am_len (a b : Nat) (q : Prop) : Prop := if a = b then q else False
def am_b (b : Bool) (q : Prop) : Prop := if b = true then q else False
def am_j (pc : Nat) (off : Int) (f : Nat → Prop) : Prop := if 0 ≤ (pc : Int) + off then f ((pc : Int) + off).toNat else False
def am_tsw (f : Int → Prop) (d : Int) (x : Int) : Int → List Int → Prop
  | _, [] => f d
  | lo, o :: os => if x = lo then f o else am_tsw f d x (lo + 1) os
def am_popN : Nat → List AV → (List AV → List AV → Prop) → Prop
  | 0, st, f => f [] st
  | m + 1, st, f => match st with
    | [] => False
    | v :: s => am_popN m s fun as s2 => f (as ++ [v]) s2
def am_cat (st : List AV) : Nat := (st.map fun v => if v.1 = 1 then 2 else 1).sum
def am_lay : List AV → List AV
  | [] => []
  | v :: t => if v.1 = 1 then v :: (8, 0) :: am_lay t else v :: am_lay t
def am_ent (n : Nat) (as : List AV) : List AV := am_lay as ++ List.replicate (n - (am_lay as).length) (9, 0)
def am_push (rc : Nat) (v : Int) (s : List AV) : List AV := if rc = 0 then s else if rc = 3 then (1, v) :: s else if rc = 4 then (2, v) :: s else (0, v) :: s
def am_tag (ty : Nat) : Nat := if ty = 1 then 1 else if ty = 2 then 2 else 0
def am_key (k idx : Nat) : Nat := am_own k * 100000 + idx
def am_at {α : Type} (k idx : Nat) (L : List (Nat × α)) : Option α := if idx < 100000 then am_lk (am_key k idx) L else none
def i_shl (x y : Int) : Int := (Int32.ofInt x <<< (Int32.ofInt y &&& 31)).toInt
def i_shr (x y : Int) : Int := (Int32.ofInt x >>> (Int32.ofInt y &&& 31)).toInt
def i_and (x y : Int) : Int := (Int32.ofInt x &&& Int32.ofInt y).toInt
def i_or (x y : Int) : Int := (Int32.ofInt x ||| Int32.ofInt y).toInt
def i_xor (x y : Int) : Int := (Int32.ofInt x ^^^ Int32.ofInt y).toInt
def i_b (x : Int) : Int := (Int32.ofInt x).toInt8.toInt32.toInt
def l_and (x y : Int) : Int := (Int64.ofInt x &&& Int64.ofInt y).toInt
def l_or (x y : Int) : Int := (Int64.ofInt x ||| Int64.ofInt y).toInt
def l_xor (x y : Int) : Int := (Int64.ofInt x ^^^ Int64.ofInt y).toInt
def l_shl (x y : Int) : Int := (Int64.ofInt x <<< ((Int32.ofInt y).toInt64 &&& 63)).toInt
def l_shr (x y : Int) : Int := (Int64.ofInt x >>> ((Int32.ofInt y).toInt64 &&& 63)).toInt
def l_ushr (x y : Int) : Int := ((Int64.ofInt x).toUInt64 >>> ((Int32.ofInt y).toInt64.toUInt64 &&& Int64.toUInt64 63)).toInt64.toInt
def cmpL (x y : Int) : Int := if y < x then 1 else if x = y then 0 else -1
def am_tx (s : Int) : List Int := am_sb.getD (s - 1000000).toNat []
def okT (s : Int) : Prop := 1000000 ≤ s ∧ s < 1000022
section AM
variable (sc : SCR) (d : Nat) (C : CTR) (k : Nat) (n0 : Int) (Q : Int → GH → GH → Int → Prop) (X : XT)
def cellsOK (c : Nat) (n : Int) : Prop := am_mk c ≠ 0 → n + am_mk c ≤ n0 + am_mk k
def stCall (pc : Nat) (ls st : List AV) (g r : GH) (n : Int) (e : Nat × Nat × Nat × Nat) : Prop := match e.2.2.1 with
  | 0 => am_popN e.2.1 st fun as s => am_p 2 s fun x s2 => okr n x (am_kd (am_own e.1)) ∧ am_cat s2 ≤ 8 ∧ cellsOK k n0 e.1 n ∧ C e.1 ((2, x) :: as) g r n fun v g2 r2 n2 => X (pc + 3) ls (am_push (am_rc e.1) v s2) g2 r2 n2
  | 1 => am_popN e.2.1 st fun as s2 => am_cat s2 ≤ 8 ∧ cellsOK k n0 e.1 n ∧ C e.1 as g r n fun v g2 r2 n2 => X (pc + 3) ls (am_push (am_rc e.1) v s2) g2 r2 n2
  | 2 => am_popN e.2.1 st fun as s => am_p 2 s fun x s2 => 0 ≤ x ∧ x < 1000000 ∧ am_cat s2 ≤ 8 ∧ cellsOK k n0 e.1 n ∧ C e.1 ((2, x) :: as) g r n fun v g2 r2 n2 => X (pc + 3) ls (am_push (am_rc e.1) v s2) g2 r2 n2
  | 3 => am_popN e.2.1 st fun as s => am_p 2 s fun x s2 => 0 ≤ x ∧ x < 1000000 ∧ am_cat s2 ≤ 8 ∧ cellsOK k n0 e.1 n ∧ C e.1 ((2, x) :: as) g r n fun v g2 r2 n2 => X (pc + 3) ls (am_push (am_rc e.1) v s2) g2 r2 n2
  | 4 => am_p2 0 0 st fun dp len s => am_p2 0 2 s fun sp dst s2 => am_p 2 s2 fun src s3 => am_cat s3 ≤ 8 ∧ 0 ≤ sp ∧ 0 ≤ dp ∧ 0 ≤ len ∧ sp + len ≤ am_ln src ∧ dp + len ≤ am_ln dst ∧ ((okr n src 11 ∧ okr n dst 11) ∨ (okr n src 12 ∧ okr n dst 12)) ∧ X (pc + 3) ls s3 (cpy g src sp dst dp len) r n
  | 5 => am_popN e.2.1 st fun as s2 => am_cat s2 ≤ 8 ∧ cellsOK k n0 e.1 n ∧ C e.1 as g r n fun v g2 r2 n2 => X (pc + 3) ls (am_push (am_rc e.1) v s2) g2 r2 n2
  | 6 => am_p 2 st fun x s => am_cat s ≤ 8 ∧ 3 ≤ d ∧ okT x ∧ X (pc + 3) ls ((0, ((am_tx x).length : Int)) :: s) g r n
  | 7 => am_p2 2 0 st fun x j s => am_cat s ≤ 8 ∧ 3 ≤ d ∧ okT x ∧ 0 ≤ j ∧ j < ((am_tx x).length : Int) ∧ X (pc + 3) ls ((0, (am_tx x).getD j.toNat 0) :: s) g r n
  | 8 => am_p 2 st fun x s => 0 ≤ x ∧ x < 1000000 ∧ am_cat s ≤ 8 ∧ X (pc + 3) ls s g r n
  | _ => False
def stArr (pc : Nat) (ls st : List AV) (g r : GH) (n : Int) (kd : Nat) : Prop := am_p 0 st fun x s => 0 ≤ x ∧ am_sh n = kd ∧ am_ln n = x ∧ n < n0 + am_mk k ∧ fresh g r n ∧ X (pc + 2) ls ((2, n) :: s) g r (n + 1)
def stI (pc : Nat) (ls st : List AV) (g r : GH) (n : Int) (i : Instr) (len : Nat) : Prop := match i with
  | .iconst v => am_len len 1 (am_b (decide (-128 ≤ v ∧ v < 128)) (X (pc + 1) ls ((0, v) :: st) g r n))
  | .bipush v => am_len len 2 (am_b (decide (-128 ≤ v ∧ v < 128)) (X (pc + 2) ls ((0, v) :: st) g r n))
  | .sipush v => am_len len 3 (am_b (decide (-32768 ≤ v ∧ v < 32768)) (X (pc + 3) ls ((0, v) :: st) g r n))
  | .lconst v => am_len len 1 (X (pc + 1) ls ((1, ((v : Nat) : Int)) :: st) g r n)
  | .aconst_null => am_len len 1 (X (pc + 1) ls ((2, -1) :: st) g r n)
  | .iload_n j => am_len len 1 (am_ld ls j 0 fun v => X (pc + 1) ls ((0, v) :: st) g r n)
  | .iload j => am_len len 2 (am_ld ls j 0 fun v => X (pc + 2) ls ((0, v) :: st) g r n)
  | .lload_n j => am_len len 1 (am_ld ls j 1 fun v => X (pc + 1) ls ((1, v) :: st) g r n)
  | .lload j => am_len len 2 (am_ld ls j 1 fun v => X (pc + 2) ls ((1, v) :: st) g r n)
  | .aload_n j => am_len len 1 (am_ld ls j 2 fun v => X (pc + 1) ls ((2, v) :: st) g r n)
  | .aload j => am_len len 2 (am_ld ls j 2 fun v => X (pc + 2) ls ((2, v) :: st) g r n)
  | .istore_n j => am_len len 1 (am_b (decide ((j : Nat) < am_maxL k)) (am_p 0 st fun v s => X (pc + 1) (am_st1 ls j (0, v)) s g r n))
  | .istore j => am_len len 2 (am_b (decide (j < am_maxL k)) (am_p 0 st fun v s => X (pc + 2) (am_st1 ls j (0, v)) s g r n))
  | .astore_n j => am_len len 1 (am_b (decide ((j : Nat) < am_maxL k)) (am_p 2 st fun v s => X (pc + 1) (am_st1 ls j (2, v)) s g r n))
  | .astore j => am_len len 2 (am_b (decide (j < am_maxL k)) (am_p 2 st fun v s => X (pc + 2) (am_st1 ls j (2, v)) s g r n))
  | .lstore_n j => am_len len 1 (am_b (decide ((j : Nat) + 1 < am_maxL k)) (am_p 1 st fun v s => X (pc + 1) (am_st2 ls j (1, v)) s g r n))
  | .lstore j => am_len len 2 (am_b (decide (j + 1 < am_maxL k)) (am_p 1 st fun v s => X (pc + 2) (am_st2 ls j (1, v)) s g r n))
  | .iinc j c => am_len len 3 (am_b (decide (j < am_maxL k)) (am_ld ls j 0 fun v => X (pc + 3) (am_st1 ls j (0, wr (v + c))) st g r n))
  | .dup => am_len len 1 (match st with
    | v :: s => if v.1 = 1 then False else X (pc + 1) ls (v :: v :: s) g r n
    | _ => False)
  | .dup2 => am_len len 1 (match st with
    | v :: w :: s => if v.1 = 1 then False else if w.1 = 1 then False else X (pc + 1) ls (v :: w :: v :: w :: s) g r n
    | _ => False)
  | .pop => am_len len 1 (match st with
    | v :: s => if v.1 = 1 then False else X (pc + 1) ls s g r n
    | _ => False)
  | .pop2 => am_len len 1 (am_p 1 st fun _ s => X (pc + 1) ls s g r n)
  | .iadd => am_len len 1 (am_p2 0 0 st fun x y s => X (pc + 1) ls ((0, wr (x + y)) :: s) g r n)
  | .isub => am_len len 1 (am_p2 0 0 st fun x y s => X (pc + 1) ls ((0, wr (x - y)) :: s) g r n)
  | .imul => am_len len 1 (am_p2 0 0 st fun x y s => X (pc + 1) ls ((0, wr (x * y)) :: s) g r n)
  | .idiv => am_len len 1 (am_p2 0 0 st fun x y s => y ≠ 0 ∧ X (pc + 1) ls ((0, wr (x.tdiv y)) :: s) g r n)
  | .irem => am_len len 1 (am_p2 0 0 st fun x y s => y ≠ 0 ∧ X (pc + 1) ls ((0, x.tmod y) :: s) g r n)
  | .ineg => am_len len 1 (am_p 0 st fun x s => X (pc + 1) ls ((0, wr (-x)) :: s) g r n)
  | .ishl => am_len len 1 (am_p2 0 0 st fun x y s => X (pc + 1) ls ((0, i_shl x y) :: s) g r n)
  | .ishr => am_len len 1 (am_p2 0 0 st fun x y s => X (pc + 1) ls ((0, i_shr x y) :: s) g r n)
  | .iand => am_len len 1 (am_p2 0 0 st fun x y s => X (pc + 1) ls ((0, i_and x y) :: s) g r n)
  | .ior => am_len len 1 (am_p2 0 0 st fun x y s => X (pc + 1) ls ((0, i_or x y) :: s) g r n)
  | .ixor => am_len len 1 (am_p2 0 0 st fun x y s => X (pc + 1) ls ((0, i_xor x y) :: s) g r n)
  | .i2b => am_len len 1 (am_p 0 st fun x s => X (pc + 1) ls ((0, i_b x) :: s) g r n)
  | .i2l => am_len len 1 (am_p 0 st fun x s => X (pc + 1) ls ((1, x) :: s) g r n)
  | .l2i => am_len len 1 (am_p 1 st fun x s => X (pc + 1) ls ((0, wr x) :: s) g r n)
  | .ladd => am_len len 1 (am_p2 1 1 st fun x y s => X (pc + 1) ls ((1, wL (x + y)) :: s) g r n)
  | .lsub => am_len len 1 (am_p2 1 1 st fun x y s => X (pc + 1) ls ((1, wL (x - y)) :: s) g r n)
  | .lmul => am_len len 1 (am_p2 1 1 st fun x y s => X (pc + 1) ls ((1, wL (x * y)) :: s) g r n)
  | .ldiv => am_len len 1 (am_p2 1 1 st fun x y s => y ≠ 0 ∧ X (pc + 1) ls ((1, wL (x.tdiv y)) :: s) g r n)
  | .lrem => am_len len 1 (am_p2 1 1 st fun x y s => y ≠ 0 ∧ X (pc + 1) ls ((1, x.tmod y) :: s) g r n)
  | .land => am_len len 1 (am_p2 1 1 st fun x y s => X (pc + 1) ls ((1, l_and x y) :: s) g r n)
  | .lor => am_len len 1 (am_p2 1 1 st fun x y s => X (pc + 1) ls ((1, l_or x y) :: s) g r n)
  | .lxor => am_len len 1 (am_p2 1 1 st fun x y s => X (pc + 1) ls ((1, l_xor x y) :: s) g r n)
  | .lshl => am_len len 1 (am_p2 1 0 st fun x y s => X (pc + 1) ls ((1, l_shl x y) :: s) g r n)
  | .lshr => am_len len 1 (am_p2 1 0 st fun x y s => X (pc + 1) ls ((1, l_shr x y) :: s) g r n)
  | .lushr => am_len len 1 (am_p2 1 0 st fun x y s => X (pc + 1) ls ((1, l_ushr x y) :: s) g r n)
  | .lcmp => am_len len 1 (am_p2 1 1 st fun x y s => X (pc + 1) ls ((0, cmpL x y) :: s) g r n)
  | .goto o => am_len len 3 (am_j pc o fun t => X t ls st g r n)
  | .ifCond c o => am_len len 3 (am_p 0 st fun x s => am_j pc o fun t => match c with
    | .eq => if x = 0 then X t ls s g r n else X (pc + 3) ls s g r n
    | .ne => if x = 0 then X (pc + 3) ls s g r n else X t ls s g r n
    | .lt => if x < 0 then X t ls s g r n else X (pc + 3) ls s g r n
    | .ge => if x < 0 then X (pc + 3) ls s g r n else X t ls s g r n
    | .gt => if 0 < x then X t ls s g r n else X (pc + 3) ls s g r n
    | .le => if 0 < x then X (pc + 3) ls s g r n else X t ls s g r n)
  | .if_icmp c o => am_len len 3 (am_p2 0 0 st fun x y s => am_j pc o fun t => match c with
    | .eq => if x = y then X t ls s g r n else X (pc + 3) ls s g r n
    | .ne => if x = y then X (pc + 3) ls s g r n else X t ls s g r n
    | .lt => if x < y then X t ls s g r n else X (pc + 3) ls s g r n
    | .ge => if x < y then X (pc + 3) ls s g r n else X t ls s g r n
    | .gt => if y < x then X t ls s g r n else X (pc + 3) ls s g r n
    | .le => if y < x then X (pc + 3) ls s g r n else X t ls s g r n)
  | .ifnull o => am_len len 3 (am_p 2 st fun x s => am_j pc o fun t => if x = -1 then X t ls s g r n else X (pc + 3) ls s g r n)
  | .ifnonnull o => am_len len 3 (am_p 2 st fun x s => am_j pc o fun t => if x = -1 then X (pc + 3) ls s g r n else X t ls s g r n)
  | .tableswitch dflt lo hi offs => am_p 0 st fun x s => hi + 1 = lo + (offs.size : Int) ∧ am_tsw (fun o => am_j pc o fun t => X t ls s g r n) dflt x lo offs.toList
  | .ldc idx => am_len len 2 (match am_at k idx am_SL with
    | some e => X (pc + 2) ls ((2, 1000000 + (e.1 : Int)) :: st) g r n
    | none => match am_at k idx am_KL with
      | some e => if e.1 = 0 then X (pc + 2) ls ((0, e.2.1) :: st) g r n else False
      | none => False)
  | .ldc_w idx => am_len len 3 (match am_at k idx am_KL with
      | some e => if e.1 = 0 then X (pc + 3) ls ((0, e.2.1) :: st) g r n else False
      | none => False)
  | .ldc2_w idx => am_len len 3 (match am_at k idx am_KL with
      | some e => if e.1 = 1 then X (pc + 3) ls ((1, e.2.1) :: st) g r n else False
      | none => False)
  | .getfield idx => am_len len 3 (match am_at k idx am_FL with
      | some e => am_p 2 st fun x s => okr n x e.1 ∧ X (pc + 3) ls ((am_tag e.2.2.1, if e.2.2.1 = 2 then r x (e.2.1 : Int) else g x (e.2.1 : Int)) :: s) g r n
      | none => False)
  | .putfield idx => am_len len 3 (match am_at k idx am_FL with
      | some e => am_p2 2 (am_tag e.2.2.1) st fun x v s => okr n x e.1 ∧ (e.2.2.2.1 = true → am_isI k = true ∧ am_kd (am_own k) = e.1) ∧ (if e.2.2.1 = 2 then X (pc + 3) ls s g (up r x (e.2.1 : Int) v) n else if e.2.2.1 = 3 then (v = 0 ∨ v = 1) ∧ X (pc + 3) ls s (up g x (e.2.1 : Int) v) r n else X (pc + 3) ls s (up g x (e.2.1 : Int) v) r n)
      | none => False)
  | .iaload => am_len len 1 (am_p2 2 0 st fun x j s => if x = -5 then 0 ≤ j ∧ j < sc.1 ∧ X (pc + 1) ls ((0, sc.2 j) :: s) g r n else okI n x 11 j ∧ X (pc + 1) ls ((0, g x j) :: s) g r n)
  | .laload => am_len len 1 (am_p2 2 0 st fun x j s => okI n x 12 j ∧ X (pc + 1) ls ((1, g x j) :: s) g r n)
  | .baload => am_len len 1 (am_p2 2 0 st fun x j s => (okI n x 10 j ∨ okI n x 13 j) ∧ X (pc + 1) ls ((0, g x j) :: s) g r n)
  | .aaload => am_len len 1 (am_p2 2 0 st fun x j s => (okI n x 14 j ∨ okI n x 15 j) ∧ X (pc + 1) ls ((2, r x j) :: s) g r n)
  | .iastore => am_len len 1 (am_p 0 st fun v s => am_p2 2 0 s fun x j s2 => okI n x 11 j ∧ X (pc + 1) ls s2 (up g x j v) r n)
  | .lastore => am_len len 1 (am_p 1 st fun v s => am_p2 2 0 s fun x j s2 => okI n x 12 j ∧ X (pc + 1) ls s2 (up g x j v) r n)
  | .bastore => am_len len 1 (am_p 0 st fun v s => am_p2 2 0 s fun x j s2 => ((okI n x 10 j ∧ i_b v = v) ∨ (okI n x 13 j ∧ (v = 0 ∨ v = 1))) ∧ X (pc + 1) ls s2 (up g x j v) r n)
  | .aastore => am_len len 1 (am_p 2 st fun v s => am_p2 2 0 s fun x j s2 => ((okI n x 14 j ∧ okr n v 2) ∨ (okI n x 15 j ∧ okr n v 0)) ∧ X (pc + 1) ls s2 g (up r x j v) n)
  | .arraylength => am_len len 1 (am_p 2 st fun x s => if x = -5 then X (pc + 1) ls ((0, sc.1) :: s) g r n else (0 ≤ x ∧ x < n ∧ 11 ≤ am_sh x ∧ am_sh x ≤ 15) ∧ X (pc + 1) ls ((0, am_ln x) :: s) g r n)
  | .new idx => am_len len 3 (match am_at k idx am_NL with
      | some e => e.1 ≤ 9 ∧ am_sh n = e.1 ∧ am_ln n = ((am_nf e.1 : Nat) : Int) ∧ n < n0 + am_mk k ∧ fresh g r n ∧ X (pc + 3) ls ((2, n) :: st) g r (n + 1)
      | none => False)
  | .newarray t => am_len len 2 (match t with
      | .int => stArr k n0 X pc ls st g r n 11
      | .long => stArr k n0 X pc ls st g r n 12
      | .boolean => stArr k n0 X pc ls st g r n 13
      | .byte => stArr k n0 X pc ls st g r n 10
      | _ => False)
  | .anewarray idx => am_len len 3 (match am_at k idx am_NL with
      | some e => if e.1 = 2 then am_p 0 st fun x s => 0 ≤ x ∧ am_sh n = 14 ∧ am_ln n = x ∧ n < n0 + am_mk k ∧ fresh g r n ∧ X (pc + 3) ls ((2, n) :: s) g r (n + 1)
          else if e.1 = 0 then am_p 0 st fun x s => 0 ≤ x ∧ am_sh n = 15 ∧ am_ln n = x ∧ n < n0 + am_mk k ∧ fresh g r n ∧ X (pc + 3) ls ((2, n) :: s) g r (n + 1) else False
      | none => False)
  | .invokevirtual idx => am_len len 3 (match am_at k idx am_CL with
      | some e => if e.2.2.1 = 0 ∨ e.2.2.1 = 6 ∨ e.2.2.1 = 7 then stCall d C k n0 X pc ls st g r n e else False
      | none => False)
  | .invokestatic idx => am_len len 3 (match am_at k idx am_CL with
      | some e => if e.2.2.1 = 1 ∨ e.2.2.1 = 5 ∨ e.2.2.1 = 4 then stCall d C k n0 X pc ls st g r n e else False
      | none => False)
  | .invokespecial idx => am_len len 3 (match am_at k idx am_CL with
      | some e => if e.2.2.1 = 2 ∨ e.2.2.1 = 3 ∨ e.2.2.1 = 8 then stCall d C k n0 X pc ls st g r n e else False
      | none => False)
  | .ireturn => am_len len 1 (am_p 0 st fun v s => s = [] ∧ (am_rc k = 1 ∨ (am_rc k = 2 ∧ (v = 0 ∨ v = 1))) ∧ n = n0 + am_mk k ∧ Q v g r n)
  | .lreturn => am_len len 1 (am_p 1 st fun v s => s = [] ∧ am_rc k = 3 ∧ n = n0 + am_mk k ∧ Q v g r n)
  | .areturn => am_len len 1 (am_p 2 st fun v s => s = [] ∧ am_rc k = 4 ∧ n = n0 + am_mk k ∧ Q v g r n)
  | .return_ => am_len len 1 (st = [] ∧ am_rc k = 0 ∧ n = n0 + am_mk k ∧ Q 0 g r n)
  | _ => False
def stp (pc : Nat) (ls st : List AV) (g r : GH) (n : Int) : Prop := match decode (am_code k) pc with
  | .ok e => stI sc d C k n0 Q X pc ls st g r n e.1 e.2
  | .error _ => False
end AM
/-- the least predicate closed under the steps: the run comes to its end, and Q holds there -/
def WP (sc : SCR) (d : Nat) (C : CTR) (k : Nat) (n0 : Int) (Q : Int → GH → GH → Int → Prop) : XT := fun pc ls st g r n =>
  ∀ X : XT, (∀ pc ls st g r n, stp sc d C k n0 Q X pc ls st g r n → X pc ls st g r n) → X pc ls st g r n
def Cd (sc : SCR) : Nat → CTR
  | 0 => fun _ _ _ _ _ _ => False
  | d + 1 => fun k as g r n Q => (am_lay as).length ≤ am_maxL k ∧ WP sc d (Cd sc d) k n Q 0 (am_ent (am_maxL k) as) [] g r n
