/-! methods that make no object: n stays; equations of pieces of code, printed by a program and checked by evaluation -/
abbrev XJ : Type := Nat → List AV → List AV → GH → GH → Prop
abbrev QJ : Type := Int → GH → GH → Prop
abbrev CJ : Type := Nat → List AV → GH → GH → QJ → Prop
abbrev HJ : Type := Nat × Nat × Nat × Nat × Int
abbrev EJ : Type := Instr × Nat × HJ
def WQ (sc : SCR) (d k : Nat) (Q : QJ) : XJ := fun pc ls st g r => WP sc d (Cd sc d) k (218 - (am_mk k : Int)) (fun v g r _ => Q v g r) pc ls st g r 218
def Ce (sc : SCR) (d : Nat) : CJ := fun k as g r Q => Cd sc d k as g r 218 fun v g r n => n = 218 → Q v g r
def jb (b : Bool) (q : Prop) : Prop := match b with
  | true => q
  | false => False
def jp (t : Nat) (st : List AV) (f : Int → List AV → Prop) : Prop := match st with
  | [] => False
  | (u, x) :: s => jb (Nat.beq u t) (f x s)
def jld : List AV → Nat → Nat → (Int → Prop) → Prop
  | [], _, _, _ => False
  | (u, x) :: _, 0, t, f => jb (Nat.beq u t) (f x)
  | _ :: s, i + 1, t, f => jld s i t f
def jset : List AV → Nat → AV → (List AV → Prop) → Prop
  | [], _, _, k => k []
  | _ :: s, 0, v, k => k (v :: s)
  | a :: s, i + 1, v, k => jset s i v fun t => k (a :: t)
def jst : List AV → Nat → AV → (List AV → Prop) → Prop
  | [], _, _, k => k []
  | _ :: s, 0, v, k => k (v :: s)
  | (u, x) :: s, 1, v, k => (match u with
    | 1 => jset s 0 v fun t => k ((9, 0) :: t)
    | _ => jset s 0 v fun t => k ((u, x) :: t))
  | a :: s, i + 2, v, k => jst s (i + 1) v fun t => k (a :: t)
def jN : Nat → List AV → (List AV → List AV → Prop) → Prop
  | 0, st, f => f [] st
  | m + 1, st, f => match st with
    | [] => False
    | v :: s => jN m s fun as s2 => f (as ++ [v]) s2
def jc : List AV → Nat
  | [] => 0
  | v :: t => (match v.1 with | 1 => 2 | _ => 1) + jc t
def jpush (rc : Nat) (v : Int) (s : List AV) : List AV := match rc with
  | 0 => s
  | 3 => (1, v) :: s
  | 4 => (2, v) :: s
  | _ => (0, v) :: s
def jcall (sc : SCR) (d : Nat) (C : CJ) (X : XJ) (pc : Nat) (ls st : List AV) (g r : GH) (h : HJ) : Prop := match h with
  | (c, na, mode, kd, rc) => match mode with
    | 0 => jN na st fun as s => jp 2 s fun x s2 => jb (Nat.ble (jc s2) 8) (okr 218 x kd ∧ C c ((2, x) :: as) g r fun v g2 r2 => X (pc + 3) ls (jpush rc.toNat v s2) g2 r2)
    | 1 => jN na st fun as s2 => jb (Nat.ble (jc s2) 8) (C c as g r fun v g2 r2 => X (pc + 3) ls (jpush rc.toNat v s2) g2 r2)
    | 5 => jN na st fun as s2 => jb (Nat.ble (jc s2) 8) (C c as g r fun v g2 r2 => X (pc + 3) ls (jpush rc.toNat v s2) g2 r2)
    | 4 => jp 0 st fun len s => jp 0 s fun dp s => jp 2 s fun dst s => jp 0 s fun sp s => jp 2 s fun src s3 => jb (Nat.ble (jc s3) 8) ((0 ≤ sp ∧ 0 ≤ dp ∧ 0 ≤ len ∧ sp + len ≤ am_ln src ∧ dp + len ≤ am_ln dst ∧ ((okr 218 src 11 ∧ okr 218 dst 11) ∨ (okr 218 src 12 ∧ okr 218 dst 12))) ∧ ∀ g2, g2 = cpy g src sp dst dp len → X (pc + 3) ls s3 g2 r)
    | 6 => jp 2 st fun x s => jb (Nat.ble (jc s) 8) ((3 ≤ d ∧ okT x) ∧ X (pc + 3) ls ((0, ((am_tx x).length : Int)) :: s) g r)
    | 7 => jp 0 st fun j s => jp 2 s fun x s => jb (Nat.ble (jc s) 8) ((3 ≤ d ∧ okT x ∧ 0 ≤ j ∧ j < ((am_tx x).length : Int)) ∧ X (pc + 3) ls ((0, (am_tx x).getD j.toNat 0) :: s) g r)
    | _ => False
def stJ (sc : SCR) (d : Nat) (C : CJ) (k : Nat) (Q : QJ) (X : XJ) (pc : Nat) (ls st : List AV) (g r : GH) (e : EJ) : Prop := match e.1 with
  | .getfield _ => jp 2 st fun x s => okr 218 x e.2.2.1 ∧ X (pc + 3) ls ((match e.2.2.2.2.1 with | 2 => (2, r x (e.2.2.2.1 : Int)) | 1 => (1, g x (e.2.2.2.1 : Int)) | _ => (0, g x (e.2.2.2.1 : Int))) :: s) g r
  | .putfield _ => match st with
    | [] => False
    | v :: s => jp 2 s fun x s => match e.2.2.2.2.1 with
      | 2 => jb (Nat.beq v.1 2) (okr 218 x e.2.2.1 ∧ ∀ r2, r2 = up r x (e.2.2.2.1 : Int) v.2 → X (pc + 3) ls s g r2)
      | 3 => jb (Nat.beq v.1 0) (okr 218 x e.2.2.1 ∧ (v.2 = 0 ∨ v.2 = 1) ∧ ∀ g2, g2 = up g x (e.2.2.2.1 : Int) v.2 → X (pc + 3) ls s g2 r)
      | 1 => jb (Nat.beq v.1 1) (okr 218 x e.2.2.1 ∧ ∀ g2, g2 = up g x (e.2.2.2.1 : Int) v.2 → X (pc + 3) ls s g2 r)
      | _ => jb (Nat.beq v.1 0) (okr 218 x e.2.2.1 ∧ ∀ g2, g2 = up g x (e.2.2.2.1 : Int) v.2 → X (pc + 3) ls s g2 r)
  | .iastore => jp 0 st fun v s => jp 0 s fun j s => jp 2 s fun x s => okI 218 x 11 j ∧ ∀ g2, g2 = up g x j v → X (pc + 1) ls s g2 r
  | .lastore => jp 1 st fun v s => jp 0 s fun j s => jp 2 s fun x s => okI 218 x 12 j ∧ ∀ g2, g2 = up g x j v → X (pc + 1) ls s g2 r
  | .bastore => jp 0 st fun v s => jp 0 s fun j s => jp 2 s fun x s => ((okI 218 x 10 j ∧ i_b v = v) ∨ (okI 218 x 13 j ∧ (v = 0 ∨ v = 1))) ∧ ∀ g2, g2 = up g x j v → X (pc + 1) ls s g2 r
  | .aastore => jp 2 st fun v s => jp 0 s fun j s => jp 2 s fun x s => ((okI 218 x 14 j ∧ okr 218 v 2) ∨ (okI 218 x 15 j ∧ okr 218 v 0)) ∧ ∀ r2, r2 = up r x j v → X (pc + 1) ls s g r2
  | .iload_n j => jld ls j 0 fun v => X (pc + 1) ls ((0, v) :: st) g r
  | .iload j => jld ls j 0 fun v => X (pc + 2) ls ((0, v) :: st) g r
  | .lload_n j => jld ls j 1 fun v => X (pc + 1) ls ((1, v) :: st) g r
  | .lload j => jld ls j 1 fun v => X (pc + 2) ls ((1, v) :: st) g r
  | .aload_n j => jld ls j 2 fun v => X (pc + 1) ls ((2, v) :: st) g r
  | .aload j => jld ls j 2 fun v => X (pc + 2) ls ((2, v) :: st) g r
  | .istore_n j => jp 0 st fun v s => jst ls j (0, v) fun ls => X (pc + 1) ls s g r
  | .istore j => jp 0 st fun v s => jst ls j (0, v) fun ls => X (pc + 2) ls s g r
  | .astore_n j => jp 2 st fun v s => jst ls j (2, v) fun ls => X (pc + 1) ls s g r
  | .astore j => jp 2 st fun v s => jst ls j (2, v) fun ls => X (pc + 2) ls s g r
  | .lstore_n j => jp 1 st fun v s => jst ls j (1, v) fun ls => jset ls (j + 1) (8, 0) fun ls => X (pc + 1) ls s g r
  | .lstore j => jp 1 st fun v s => jst ls j (1, v) fun ls => jset ls (j + 1) (8, 0) fun ls => X (pc + 2) ls s g r
  | .iinc j _ => jld ls j 0 fun v => jst ls j (0, wr (v + e.2.2.2.2.2.2)) fun ls => X (pc + 3) ls st g r
  | .dup => match st with
    | (u, x) :: s => (match u with
      | 1 => False
      | _ => X (pc + 1) ls ((u, x) :: (u, x) :: s) g r)
    | _ => False
  | .dup2 => match st with
    | (u, x) :: (w, y) :: s => (match u with
      | 1 => False
      | _ => match w with
        | 1 => False
        | _ => X (pc + 1) ls ((u, x) :: (w, y) :: (u, x) :: (w, y) :: s) g r)
    | _ => False
  | .pop => match st with
    | (u, x) :: s => (match u with
      | 1 => False
      | _ => X (pc + 1) ls s g r)
    | _ => False
  | .pop2 => jp 1 st fun _ s => X (pc + 1) ls s g r
  | .iadd => jp 0 st fun y s => jp 0 s fun x s => X (pc + 1) ls ((0, wr (x + y)) :: s) g r
  | .isub => jp 0 st fun y s => jp 0 s fun x s => X (pc + 1) ls ((0, wr (x - y)) :: s) g r
  | .imul => jp 0 st fun y s => jp 0 s fun x s => X (pc + 1) ls ((0, wr (x * y)) :: s) g r
  | .iand => jp 0 st fun y s => jp 0 s fun x s => X (pc + 1) ls ((0, i_and x y) :: s) g r
  | .ior => jp 0 st fun y s => jp 0 s fun x s => X (pc + 1) ls ((0, i_or x y) :: s) g r
  | .ixor => jp 0 st fun y s => jp 0 s fun x s => X (pc + 1) ls ((0, i_xor x y) :: s) g r
  | .ishl => jp 0 st fun y s => jp 0 s fun x s => X (pc + 1) ls ((0, i_shl x y) :: s) g r
  | .ishr => jp 0 st fun y s => jp 0 s fun x s => X (pc + 1) ls ((0, i_shr x y) :: s) g r
  | .ladd => jp 1 st fun y s => jp 1 s fun x s => X (pc + 1) ls ((1, wL (x + y)) :: s) g r
  | .lsub => jp 1 st fun y s => jp 1 s fun x s => X (pc + 1) ls ((1, wL (x - y)) :: s) g r
  | .lmul => jp 1 st fun y s => jp 1 s fun x s => X (pc + 1) ls ((1, wL (x * y)) :: s) g r
  | .land => jp 1 st fun y s => jp 1 s fun x s => X (pc + 1) ls ((1, l_and x y) :: s) g r
  | .lor => jp 1 st fun y s => jp 1 s fun x s => X (pc + 1) ls ((1, l_or x y) :: s) g r
  | .lxor => jp 1 st fun y s => jp 1 s fun x s => X (pc + 1) ls ((1, l_xor x y) :: s) g r
  | .idiv => jp 0 st fun y s => jp 0 s fun x s => y ≠ 0 ∧ X (pc + 1) ls ((0, wr (x.tdiv y)) :: s) g r
  | .irem => jp 0 st fun y s => jp 0 s fun x s => y ≠ 0 ∧ X (pc + 1) ls ((0, x.tmod y) :: s) g r
  | .ldiv => jp 1 st fun y s => jp 1 s fun x s => y ≠ 0 ∧ X (pc + 1) ls ((1, wL (x.tdiv y)) :: s) g r
  | .lrem => jp 1 st fun y s => jp 1 s fun x s => y ≠ 0 ∧ X (pc + 1) ls ((1, x.tmod y) :: s) g r
  | .lshl => jp 0 st fun y s => jp 1 s fun x s => X (pc + 1) ls ((1, l_shl x y) :: s) g r
  | .lshr => jp 0 st fun y s => jp 1 s fun x s => X (pc + 1) ls ((1, l_shr x y) :: s) g r
  | .lushr => jp 0 st fun y s => jp 1 s fun x s => X (pc + 1) ls ((1, l_ushr x y) :: s) g r
  | .lcmp => jp 1 st fun y s => jp 1 s fun x s => X (pc + 1) ls ((0, cmpL x y) :: s) g r
  | .ineg => jp 0 st fun x s => X (pc + 1) ls ((0, wr (-x)) :: s) g r
  | .i2b => jp 0 st fun x s => X (pc + 1) ls ((0, i_b x) :: s) g r
  | .i2l => jp 0 st fun x s => X (pc + 1) ls ((1, x) :: s) g r
  | .l2i => jp 1 st fun x s => X (pc + 1) ls ((0, wr x) :: s) g r
  | .aconst_null => X (pc + 1) ls ((2, -1) :: st) g r
  | .laload => jp 0 st fun j s => jp 2 s fun x s => okI 218 x 12 j ∧ X (pc + 1) ls ((1, g x j) :: s) g r
  | .baload => jp 0 st fun j s => jp 2 s fun x s => (okI 218 x 10 j ∨ okI 218 x 13 j) ∧ X (pc + 1) ls ((0, g x j) :: s) g r
  | .aaload => jp 0 st fun j s => jp 2 s fun x s => (okI 218 x 14 j ∨ okI 218 x 15 j) ∧ X (pc + 1) ls ((2, r x j) :: s) g r
  | .iaload => jp 0 st fun j s => jp 2 s fun x s => match e.2.2.1 with
    | 1 => (x = -5 ∧ 0 ≤ j ∧ j < sc.1) ∧ X (pc + 1) ls ((0, sc.2 j) :: s) g r
    | _ => okI 218 x 11 j ∧ X (pc + 1) ls ((0, g x j) :: s) g r
  | .arraylength => jp 2 st fun x s => match e.2.2.1 with
    | 1 => x = -5 ∧ X (pc + 1) ls ((0, sc.1) :: s) g r
    | _ => (0 ≤ x ∧ x < 218 ∧ 11 ≤ am_sh x ∧ am_sh x ≤ 15) ∧ X (pc + 1) ls ((0, am_ln x) :: s) g r
  | .ldc _ => X (pc + 2) ls ((match e.2.2.1 with | 2 => (2, e.2.2.2.2.2.2) | _ => (0, e.2.2.2.2.2.2)) :: st) g r
  | .ldc_w _ => X (pc + 3) ls ((0, e.2.2.2.2.2.2) :: st) g r
  | .ldc2_w _ => X (pc + 3) ls ((1, e.2.2.2.2.2.2) :: st) g r
  | .invokevirtual _ => jcall sc d C X pc ls st g r e.2.2
  | .invokestatic _ => jcall sc d C X pc ls st g r e.2.2
  | .invokespecial _ => False
  | .new _ => False
  | .newarray _ => False
  | .anewarray _ => False
  | .ireturn => match st with
    | [v] => jb (Nat.beq v.1 0) (match e.2.2.1 with | 2 => (v.2 = 0 ∨ v.2 = 1) ∧ Q v.2 g r | _ => Q v.2 g r)
    | _ => False
  | .lreturn => match st with
    | [v] => jb (Nat.beq v.1 1) (Q v.2 g r)
    | _ => False
  | .areturn => match st with
    | [v] => jb (Nat.beq v.1 2) (Q v.2 g r)
    | _ => False
  | .return_ => match st with
    | [] => Q 0 g r
    | _ => False
  | .goto _ => X e.2.2.1 ls st g r
  | .ifCond c _ => jp 0 st fun x s => match c with
    | .eq => if x = 0 then X e.2.2.1 ls s g r else X (pc + 3) ls s g r
    | .ne => if x = 0 then X (pc + 3) ls s g r else X e.2.2.1 ls s g r
    | .lt => if x < 0 then X e.2.2.1 ls s g r else X (pc + 3) ls s g r
    | .ge => if x < 0 then X (pc + 3) ls s g r else X e.2.2.1 ls s g r
    | .gt => if 0 < x then X e.2.2.1 ls s g r else X (pc + 3) ls s g r
    | .le => if 0 < x then X (pc + 3) ls s g r else X e.2.2.1 ls s g r
  | .if_icmp c _ => jp 0 st fun y s => jp 0 s fun x s => match c with
    | .eq => if x = y then X e.2.2.1 ls s g r else X (pc + 3) ls s g r
    | .ne => if x = y then X (pc + 3) ls s g r else X e.2.2.1 ls s g r
    | .lt => if x < y then X e.2.2.1 ls s g r else X (pc + 3) ls s g r
    | .ge => if x < y then X (pc + 3) ls s g r else X e.2.2.1 ls s g r
    | .gt => if y < x then X e.2.2.1 ls s g r else X (pc + 3) ls s g r
    | .le => if y < x then X (pc + 3) ls s g r else X e.2.2.1 ls s g r
  | .ifnull _ => jp 2 st fun x s => if x = -1 then X e.2.2.1 ls s g r else X (pc + 3) ls s g r
  | .ifnonnull _ => jp 2 st fun x s => if x = -1 then X (pc + 3) ls s g r else X e.2.2.1 ls s g r
  | .iconst _ => X (pc + 1) ls ((0, e.2.2.2.2.2.2) :: st) g r
  | .lconst _ => X (pc + 1) ls ((1, e.2.2.2.2.2.2) :: st) g r
  | .bipush _ => X (pc + 2) ls ((0, e.2.2.2.2.2.2) :: st) g r
  | .sipush _ => X (pc + 3) ls ((0, e.2.2.2.2.2.2) :: st) g r
  | i => stI sc d (fun _ _ _ _ _ _ => False) k (218 - (am_mk k : Int)) (fun _ _ _ _ => False) (fun pc ls st g r _ => X pc ls st g r) pc ls st g r 218 i e.2.1
def lkJ {α : Type} (pc : Nat) : List (Nat × α) → Option (Nat × α)
  | [] => none
  | e :: t => match Nat.beq e.1 pc with
    | true => some e
    | false => lkJ pc t
def mskL : Nat → List Nat → List AV → List AV
  | _, _, [] => []
  | i, ds, v :: t => (match ds with
    | [] => v :: t
    | j :: js => match Nat.beq i j with
      | true => (9, 0) :: mskL (i + 1) js t
      | false => v :: mskL (i + 1) ds t)
def RG (sc : SCR) (d : Nat) (C : CJ) (k : Nat) (Q : QJ) (X : XJ) (L : List (Nat × EJ)) (M : List (Nat × List Nat)) : Nat → XJ
  | 0 => X
  | f + 1 => fun pc ls st g r => match lkJ pc L with
    | some e => stJ sc d C k Q (RG sc d C k Q X L M f) e.1 ls st g r e.2
    | none => match lkJ pc M with
      | some ds => X ds.1 (mskL 0 ds.2 ls) st g r
      | none => X pc ls st g r
def vI (pc k : Nat) (i : Instr) (len : Nat) (h : HJ) : Bool := match i with
  | .goto o => len == 3 && decide ((pc : Int) + o = (h.1 : Int))
  | .ifCond _ o => len == 3 && decide ((pc : Int) + o = (h.1 : Int))
  | .if_icmp _ o => len == 3 && decide ((pc : Int) + o = (h.1 : Int))
  | .ifnull o => len == 3 && decide ((pc : Int) + o = (h.1 : Int))
  | .ifnonnull o => len == 3 && decide ((pc : Int) + o = (h.1 : Int))
  | .iconst v => len == 1 && decide (-128 ≤ v ∧ v < 128) && decide (h.2.2.2.2 = v)
  | .bipush v => len == 2 && decide (-128 ≤ v ∧ v < 128) && decide (h.2.2.2.2 = v)
  | .sipush v => len == 3 && decide (-32768 ≤ v ∧ v < 32768) && decide (h.2.2.2.2 = v)
  | .lconst v => len == 1 && decide (h.2.2.2.2 = ((v : Nat) : Int))
  | .iload j => len == 2
  | .lload j => len == 2
  | .aload j => len == 2
  | .iload_n _ => len == 1
  | .lload_n _ => len == 1
  | .aload_n _ => len == 1
  | .istore_n j => len == 1 && decide ((j : Nat) < am_maxL k)
  | .astore_n j => len == 1 && decide ((j : Nat) < am_maxL k)
  | .lstore_n j => len == 1 && decide ((j : Nat) + 1 < am_maxL k)
  | .istore j => len == 2 && decide (j < am_maxL k)
  | .astore j => len == 2 && decide (j < am_maxL k)
  | .lstore j => len == 2 && decide (j + 1 < am_maxL k)
  | .iinc j c => len == 3 && decide (j < am_maxL k) && decide (h.2.2.2.2 = c)
  | .iadd => len == 1
  | .isub => len == 1
  | .imul => len == 1
  | .iand => len == 1
  | .ior => len == 1
  | .ixor => len == 1
  | .ishl => len == 1
  | .ishr => len == 1
  | .ladd => len == 1
  | .lsub => len == 1
  | .lmul => len == 1
  | .land => len == 1
  | .lor => len == 1
  | .lxor => len == 1
  | .idiv => len == 1
  | .irem => len == 1
  | .ldiv => len == 1
  | .lrem => len == 1
  | .lshl => len == 1
  | .lshr => len == 1
  | .lushr => len == 1
  | .lcmp => len == 1
  | .ineg => len == 1
  | .i2b => len == 1
  | .i2l => len == 1
  | .l2i => len == 1
  | .aconst_null => len == 1
  | .laload => len == 1
  | .baload => len == 1
  | .aaload => len == 1
  | .dup => len == 1
  | .dup2 => len == 1
  | .pop => len == 1
  | .pop2 => len == 1
  | .getfield idx => len == 3 && (match am_at k idx am_FL with
    | some f => f.1 == h.1 && f.2.1 == h.2.1 && (match f.2.2.1 with | 0 => h.2.2.1 == 0 | 1 => h.2.2.1 == 1 | 2 => h.2.2.1 == 2 | 3 => h.2.2.1 == 0 | _ => false)
    | none => false)
  | .putfield idx => len == 3 && (match am_at k idx am_FL with
    | some f => f.1 == h.1 && f.2.1 == h.2.1 && f.2.2.1 == h.2.2.1 && Nat.ble h.2.2.1 3 && !f.2.2.2.1
    | none => false)
  | .ldc idx => len == 2 && (match am_at k idx am_SL with
    | some f => h.1 == 2 && decide (h.2.2.2.2 = 1000000 + (f.1 : Int))
    | none => match am_at k idx am_KL with
      | some f => f.1 == 0 && h.1 == 0 && decide (h.2.2.2.2 = f.2.1)
      | none => false)
  | .ldc_w idx => len == 3 && (match am_at k idx am_KL with
      | some f => f.1 == 0 && decide (h.2.2.2.2 = f.2.1)
      | none => false)
  | .ldc2_w idx => len == 3 && (match am_at k idx am_KL with
      | some f => f.1 == 1 && decide (h.2.2.2.2 = f.2.1)
      | none => false)
  | .invokevirtual idx => len == 3 && (match am_at k idx am_CL with
      | some f => f.1 == h.1 && f.2.1 == h.2.1 && f.2.2.1 == h.2.2.1 && (f.2.2.1 == 0 || f.2.2.1 == 6 || f.2.2.1 == 7) && am_kd (am_own f.1) == h.2.2.2.1 && decide ((am_rc f.1 : Int) = h.2.2.2.2) && (f.2.2.1 == 4 || f.2.2.1 == 6 || f.2.2.1 == 7 || am_mk f.1 == 0)
      | none => false)
  | .invokestatic idx => len == 3 && (match am_at k idx am_CL with
      | some f => f.1 == h.1 && f.2.1 == h.2.1 && f.2.2.1 == h.2.2.1 && (f.2.2.1 == 1 || f.2.2.1 == 5 || f.2.2.1 == 4) && am_kd (am_own f.1) == h.2.2.2.1 && decide ((am_rc f.1 : Int) = h.2.2.2.2) && (f.2.2.1 == 4 || f.2.2.1 == 6 || f.2.2.1 == 7 || am_mk f.1 == 0)
      | none => false)
  | .iaload => len == 1
  | .arraylength => len == 1
  | .iastore => len == 1
  | .lastore => len == 1
  | .bastore => len == 1
  | .aastore => len == 1
  | .ireturn => len == 1 && h.1 == am_rc k && (h.1 == 1 || h.1 == 2)
  | .lreturn => len == 1 && am_rc k == 3
  | .areturn => len == 1 && am_rc k == 4
  | .return_ => len == 1 && am_rc k == 0
  | _ => true
def vld (k : Nat) (e : Nat × EJ) : Bool := (match decode (am_code k) e.1 with
  | .ok f => decide (f.1 = e.2.1) && f.2 == e.2.2.1
  | .error _ => false) && vI e.1 k e.2.1 e.2.2.1 e.2.2.2
theorem jb_e {b : Bool} {q : Prop} (h : jb b q) : b = true ∧ q := by
  cases b
  · exact h.elim
  · exact ⟨rfl, h⟩
theorem jp_e {t : Nat} {st : List AV} {f : Int → List AV → Prop} (h : jp t st f) : ∃ v s, st = (t, v) :: s ∧ f v s := by
  cases st with
  | nil => exact h.elim
  | cons v s =>
    obtain ⟨a, b⟩ := v
    obtain ⟨h1, h2⟩ := jb_e h
    have := Nat.eq_of_beq_eq_true h1
    subst this
    exact ⟨b, s, rfl, h2⟩
theorem am_p_i {t : Nat} {v : Int} {s : List AV} {f : Int → List AV → Prop} (h : f v s) : am_p t ((t, v) :: s) f := by
  show (if t = t then f v s else False)
  rw [if_pos rfl]; exact h
theorem jN_am : ∀ (m : Nat) {st : List AV} {f g : List AV → List AV → Prop}, (∀ a s, f a s → g a s) → jN m st f → am_popN m st g
  | 0, _, _, _, h, w => h _ _ w
  | m + 1, [], _, _, _, w => w.elim
  | m + 1, v :: s, _, _, h, w => jN_am m (fun a s2 w => h _ _ w) w
theorem jc_cat : ∀ st : List AV, jc st = am_cat st
  | [] => rfl
  | v :: t => by
    have ih := jc_cat t
    unfold jc
    rw [ih]
    show _ = ((if v.1 = 1 then 2 else 1) + (t.map _).sum)
    split
    · rename_i h; rw [if_pos h]; rfl
    · rename_i h; rw [if_neg h]; rfl
theorem len_i {a b : Nat} {q : Prop} (h : a = b) (w : q) : am_len a b q := by unfold am_len; rw [if_pos h]; exact w
theorem cF : CMono (fun _ _ _ _ _ _ => False) := fun _ _ _ _ _ _ _ _ h => h
theorem and4 {a b c d : Bool} : (a && b && c && d) = true → a = true ∧ b = true ∧ c = true ∧ d = true := by
  cases a <;> cases b <;> cases c <;> cases d <;> decide
/-- n comes back as it went in -/
theorem Cd_n {sc : SCR} {k : Nat} {as : List AV} {g r : GH} {n : Int} : ∀ {d : Nat} {Q : Int → GH → GH → Int → Prop}, Cd sc d k as g r n Q → Cd sc d k as g r n fun v g r n2 => n2 = n + am_mk k ∧ Q v g r n2
  | 0, _, h => h
  | d + 1, Q, h => by
    refine ⟨h.1, fun X hX => h.2 X fun pc ls st g r n2 w => hX _ _ _ _ _ _ ?_⟩
    unfold stp at w ⊢
    split at w
    · rename_i e he
      obtain ⟨i, len⟩ := e
      cases i
      case ireturn =>
        refine am_len_mono (am_p_mono fun v s h => ?_) w
        exact ⟨h.1, h.2.1, h.2.2.1, h.2.2.1, h.2.2.2⟩
      case lreturn =>
        refine am_len_mono (am_p_mono fun v s h => ?_) w
        exact ⟨h.1, h.2.1, h.2.2.1, h.2.2.1, h.2.2.2⟩
      case areturn =>
        refine am_len_mono (am_p_mono fun v s h => ?_) w
        exact ⟨h.1, h.2.1, h.2.2.1, h.2.2.1, h.2.2.2⟩
      case return_ =>
        refine am_len_mono (fun h => ?_) w
        exact ⟨h.1, h.2.1, h.2.2.1, h.2.2.1, h.2.2.2⟩
      all_goals exact w
    · exact w
theorem Ce_Cd {sc : SCR} {d k : Nat} {as : List AV} {g r : GH} {Q : Int → GH → GH → Int → Prop} {P : QJ} (h0 : am_mk k = 0) (h : Ce sc d k as g r P) (hq : ∀ v g r, P v g r → Q v g r 218) : Cd sc d k as g r 218 Q := by
  have h1 := Cd_n h
  rw [h0] at h1
  exact Cd_mono sc d _ _ _ _ _ _ _ (fun v g r n w => by have e : n = 218 := w.1; subst e; exact hq _ _ _ (w.2 rfl)) h1
