/-! arithmetic and branches -/
theorem i_div {x y : Int} (hx : rI x) (hy : rI y) : Int32.ofInt x / Int32.ofInt y = Int32.ofInt (x.tdiv y) := by
  apply Int32.toInt_inj.mp
  rw [Int32.toInt_div, Int32.toInt_ofInt_of_le hx.1 hx.2, Int32.toInt_ofInt_of_le hy.1 hy.2, Int32.toInt_ofInt]
theorem l_div {x y : Int} (hx : rL x) (hy : rL y) : Int64.ofInt x / Int64.ofInt y = Int64.ofInt (x.tdiv y) := by
  apply Int64.toInt_inj.mp
  rw [Int64.toInt_div, Int64.toInt_ofInt_of_le hx.1 hx.2, Int64.toInt_ofInt_of_le hy.1 hy.2, Int64.toInt_ofInt]
theorem i_rem {x y : Int} (hx : rI x) (hy : rI y) : Int32.ofInt x - Int32.ofInt x / Int32.ofInt y * Int32.ofInt y = Int32.ofInt (x.tmod y) := by
  rw [i_div hx hy, ← Int32.ofInt_mul, ← Int32.ofInt_sub, Int.tmod_def, Int.mul_comm y]
theorem l_rem {x y : Int} (hx : rL x) (hy : rL y) : Int64.ofInt x - Int64.ofInt x / Int64.ofInt y * Int64.ofInt y = Int64.ofInt (x.tmod y) := by
  rw [l_div hx hy, ← Int64.ofInt_mul, ← Int64.ofInt_sub, Int.tmod_def, Int.mul_comm y]
theorem tmod_le {x y : Int} {M : Int} (h1 : -M ≤ x) (h2 : x < M) : -M ≤ x.tmod y ∧ x.tmod y < M := by
  have ha : (x.tmod y).natAbs ≤ x.natAbs := by rw [Int.natAbs_tmod]; exact Nat.mod_le _ _
  rcases Int.le_total 0 x with h | h
  · have := Int.tmod_nonneg y h
    omega
  · have h3 := Int.tmod_nonneg y (show 0 ≤ -x by omega)
    rw [Int.neg_tmod] at h3
    omega
theorem rI_tmod {x y : Int} (h : rI x) : rI (x.tmod y) := tmod_le h.1 h.2
theorem rL_tmod {x y : Int} (h : rL x) : rL (x.tmod y) := tmod_le h.1 h.2
theorem cmp_l {x y : Int} (hx : rL x) (hy : rL y) : lg_cmp (Int64.ofInt x) (Int64.ofInt y) = Int32.ofInt (cmpL x y) := by
  unfold lg_cmp cmpL
  by_cases h1 : y < x
  · rw [if_pos ((l_lt hy hx).mpr h1), if_pos h1]; rfl
  · rw [if_neg (fun q => h1 ((l_lt hy hx).mp q)), if_neg h1]
    by_cases h2 : x = y
    · rw [if_pos ((l_eq hx hy).mpr h2), if_pos h2]; rfl
    · rw [if_neg (fun q => h2 ((l_eq hx hy).mp q)), if_neg h2]; rfl
theorem tv_i {G : AG} (E : Int32) : tv G (0, E.toInt) = .int E := by rw [tv_0, Int32.ofInt_toInt]
theorem tv_l {G : AG} (E : Int64) : tv G (1, E.toInt) = .long E := by rw [tv_1, Int64.ofInt_toInt]
theorem cmp_rng (x y : Int) : rI (cmpL x y) := by unfold cmpL rI; split <;> (try split) <;> decide
section SN2
variable {p : Program} {l : Launch} {e : Env} {R : Room} {s : State} {m : MethodId} {args : Array Value} {below : List Frame} {meth : Method} {c : Code} {G : AG} {sc : SCR} {d k : Nat} {n0 : Int} {QE : State → Prop}
variable {pc pc2 : Nat} {ls st st2 : List AV} {g r : GH} {n : Int}
theorem g_iadd (C : CX p R s m args meth c G sc d k n0) {x y : Int} (hd : decode (am_code k) pc = .ok (.iadd, 1)) (h : Gd p l e R s m args below meth c G k n0 QE (pc + 1) ls ((0, wr (x + y)) :: st) g r n) : Gd p l e R s m args below meth c G k n0 QE pc ls ((0, y) :: (0, x) :: st) g r n :=
  gd_pure (.int (Int32.ofInt y) :: .int (Int32.ofInt x) :: st.map (tv G)) (.int (Int32.ofInt x + Int32.ofInt y) :: st.map (tv G)) rfl (by rw [List.map_cons, tv_0, wr_of, Int32.ofInt_add]) (fun H locs cells slots lsM _ w => lv_iadd C.1 C.2.1 hd w) (fun h1 _ => fa_cons (ok0 (wr_rng _)) (fa_tl (fa_tl h1))) h
theorem g_isub (C : CX p R s m args meth c G sc d k n0) {x y : Int} (hd : decode (am_code k) pc = .ok (.isub, 1)) (h : Gd p l e R s m args below meth c G k n0 QE (pc + 1) ls ((0, wr (x - y)) :: st) g r n) : Gd p l e R s m args below meth c G k n0 QE pc ls ((0, y) :: (0, x) :: st) g r n :=
  gd_pure (.int (Int32.ofInt y) :: .int (Int32.ofInt x) :: st.map (tv G)) (.int (Int32.ofInt x - Int32.ofInt y) :: st.map (tv G)) rfl (by rw [List.map_cons, tv_0, wr_of, Int32.ofInt_sub]) (fun H locs cells slots lsM _ w => lv_isub C.1 C.2.1 hd w) (fun h1 _ => fa_cons (ok0 (wr_rng _)) (fa_tl (fa_tl h1))) h
theorem g_imul (C : CX p R s m args meth c G sc d k n0) {x y : Int} (hd : decode (am_code k) pc = .ok (.imul, 1)) (h : Gd p l e R s m args below meth c G k n0 QE (pc + 1) ls ((0, wr (x * y)) :: st) g r n) : Gd p l e R s m args below meth c G k n0 QE pc ls ((0, y) :: (0, x) :: st) g r n :=
  gd_pure (.int (Int32.ofInt y) :: .int (Int32.ofInt x) :: st.map (tv G)) (.int (Int32.ofInt x * Int32.ofInt y) :: st.map (tv G)) rfl (by rw [List.map_cons, tv_0, wr_of, Int32.ofInt_mul]) (fun H locs cells slots lsM _ w => lv_imul C.1 C.2.1 hd w) (fun h1 _ => fa_cons (ok0 (wr_rng _)) (fa_tl (fa_tl h1))) h
theorem g_ladd (C : CX p R s m args meth c G sc d k n0) {x y : Int} (hd : decode (am_code k) pc = .ok (.ladd, 1)) (h : Gd p l e R s m args below meth c G k n0 QE (pc + 1) ls ((1, wL (x + y)) :: st) g r n) : Gd p l e R s m args below meth c G k n0 QE pc ls ((1, y) :: (1, x) :: st) g r n :=
  gd_pure (.long (Int64.ofInt y) :: .long (Int64.ofInt x) :: st.map (tv G)) (.long (Int64.ofInt x + Int64.ofInt y) :: st.map (tv G)) rfl (by rw [List.map_cons, tv_1, wL_of, Int64.ofInt_add]) (fun H locs cells slots lsM _ w => lv_ladd C.1 C.2.1 hd w) (fun h1 _ => fa_cons (ok1 (wL_rng _)) (fa_tl (fa_tl h1))) h
theorem g_lsub (C : CX p R s m args meth c G sc d k n0) {x y : Int} (hd : decode (am_code k) pc = .ok (.lsub, 1)) (h : Gd p l e R s m args below meth c G k n0 QE (pc + 1) ls ((1, wL (x - y)) :: st) g r n) : Gd p l e R s m args below meth c G k n0 QE pc ls ((1, y) :: (1, x) :: st) g r n :=
  gd_pure (.long (Int64.ofInt y) :: .long (Int64.ofInt x) :: st.map (tv G)) (.long (Int64.ofInt x - Int64.ofInt y) :: st.map (tv G)) rfl (by rw [List.map_cons, tv_1, wL_of, Int64.ofInt_sub]) (fun H locs cells slots lsM _ w => lv_lsub C.1 C.2.1 hd w) (fun h1 _ => fa_cons (ok1 (wL_rng _)) (fa_tl (fa_tl h1))) h
theorem g_lmul (C : CX p R s m args meth c G sc d k n0) {x y : Int} (hd : decode (am_code k) pc = .ok (.lmul, 1)) (h : Gd p l e R s m args below meth c G k n0 QE (pc + 1) ls ((1, wL (x * y)) :: st) g r n) : Gd p l e R s m args below meth c G k n0 QE pc ls ((1, y) :: (1, x) :: st) g r n :=
  gd_pure (.long (Int64.ofInt y) :: .long (Int64.ofInt x) :: st.map (tv G)) (.long (Int64.ofInt x * Int64.ofInt y) :: st.map (tv G)) rfl (by rw [List.map_cons, tv_1, wL_of, Int64.ofInt_mul]) (fun H locs cells slots lsM _ w => lv_lmul C.1 C.2.1 hd w) (fun h1 _ => fa_cons (ok1 (wL_rng _)) (fa_tl (fa_tl h1))) h
theorem g_iand (C : CX p R s m args meth c G sc d k n0) {x y : Int} (hd : decode (am_code k) pc = .ok (.iand, 1)) (h : Gd p l e R s m args below meth c G k n0 QE (pc + 1) ls ((0, i_and x y) :: st) g r n) : Gd p l e R s m args below meth c G k n0 QE pc ls ((0, y) :: (0, x) :: st) g r n :=
  gd_pure (.int (Int32.ofInt y) :: .int (Int32.ofInt x) :: st.map (tv G)) (.int (Int32.ofInt x &&& Int32.ofInt y) :: st.map (tv G)) rfl (by exact congrArg (fun z => z :: st.map (tv G)) (tv_i (G := G) (Int32.ofInt x &&& Int32.ofInt y))) (fun H locs cells slots lsM _ w => lv_iand C.1 C.2.1 hd w) (fun h1 _ => fa_cons (ok0 ⟨Int32.le_toInt _, Int32.toInt_lt _⟩) (fa_tl (fa_tl h1))) h
theorem g_ior (C : CX p R s m args meth c G sc d k n0) {x y : Int} (hd : decode (am_code k) pc = .ok (.ior, 1)) (h : Gd p l e R s m args below meth c G k n0 QE (pc + 1) ls ((0, i_or x y) :: st) g r n) : Gd p l e R s m args below meth c G k n0 QE pc ls ((0, y) :: (0, x) :: st) g r n :=
  gd_pure (.int (Int32.ofInt y) :: .int (Int32.ofInt x) :: st.map (tv G)) (.int (Int32.ofInt x ||| Int32.ofInt y) :: st.map (tv G)) rfl (by exact congrArg (fun z => z :: st.map (tv G)) (tv_i (G := G) (Int32.ofInt x ||| Int32.ofInt y))) (fun H locs cells slots lsM _ w => lv_ior C.1 C.2.1 hd w) (fun h1 _ => fa_cons (ok0 ⟨Int32.le_toInt _, Int32.toInt_lt _⟩) (fa_tl (fa_tl h1))) h
theorem g_ixor (C : CX p R s m args meth c G sc d k n0) {x y : Int} (hd : decode (am_code k) pc = .ok (.ixor, 1)) (h : Gd p l e R s m args below meth c G k n0 QE (pc + 1) ls ((0, i_xor x y) :: st) g r n) : Gd p l e R s m args below meth c G k n0 QE pc ls ((0, y) :: (0, x) :: st) g r n :=
  gd_pure (.int (Int32.ofInt y) :: .int (Int32.ofInt x) :: st.map (tv G)) (.int (Int32.ofInt x ^^^ Int32.ofInt y) :: st.map (tv G)) rfl (by exact congrArg (fun z => z :: st.map (tv G)) (tv_i (G := G) (Int32.ofInt x ^^^ Int32.ofInt y))) (fun H locs cells slots lsM _ w => lv_ixor C.1 C.2.1 hd w) (fun h1 _ => fa_cons (ok0 ⟨Int32.le_toInt _, Int32.toInt_lt _⟩) (fa_tl (fa_tl h1))) h
theorem g_ishl (C : CX p R s m args meth c G sc d k n0) {x y : Int} (hd : decode (am_code k) pc = .ok (.ishl, 1)) (h : Gd p l e R s m args below meth c G k n0 QE (pc + 1) ls ((0, i_shl x y) :: st) g r n) : Gd p l e R s m args below meth c G k n0 QE pc ls ((0, y) :: (0, x) :: st) g r n :=
  gd_pure (.int (Int32.ofInt y) :: .int (Int32.ofInt x) :: st.map (tv G)) (.int (Int32.ofInt x <<< (Int32.ofInt y &&& 31)) :: st.map (tv G)) rfl (by exact congrArg (fun z => z :: st.map (tv G)) (tv_i (G := G) (Int32.ofInt x <<< (Int32.ofInt y &&& 31)))) (fun H locs cells slots lsM _ w => lv_ishl C.1 C.2.1 hd w) (fun h1 _ => fa_cons (ok0 ⟨Int32.le_toInt _, Int32.toInt_lt _⟩) (fa_tl (fa_tl h1))) h
theorem g_ishr (C : CX p R s m args meth c G sc d k n0) {x y : Int} (hd : decode (am_code k) pc = .ok (.ishr, 1)) (h : Gd p l e R s m args below meth c G k n0 QE (pc + 1) ls ((0, i_shr x y) :: st) g r n) : Gd p l e R s m args below meth c G k n0 QE pc ls ((0, y) :: (0, x) :: st) g r n :=
  gd_pure (.int (Int32.ofInt y) :: .int (Int32.ofInt x) :: st.map (tv G)) (.int (Int32.ofInt x >>> (Int32.ofInt y &&& 31)) :: st.map (tv G)) rfl (by exact congrArg (fun z => z :: st.map (tv G)) (tv_i (G := G) (Int32.ofInt x >>> (Int32.ofInt y &&& 31)))) (fun H locs cells slots lsM _ w => lv_ishr C.1 C.2.1 hd w) (fun h1 _ => fa_cons (ok0 ⟨Int32.le_toInt _, Int32.toInt_lt _⟩) (fa_tl (fa_tl h1))) h
theorem g_land (C : CX p R s m args meth c G sc d k n0) {x y : Int} (hd : decode (am_code k) pc = .ok (.land, 1)) (h : Gd p l e R s m args below meth c G k n0 QE (pc + 1) ls ((1, l_and x y) :: st) g r n) : Gd p l e R s m args below meth c G k n0 QE pc ls ((1, y) :: (1, x) :: st) g r n :=
  gd_pure (.long (Int64.ofInt y) :: .long (Int64.ofInt x) :: st.map (tv G)) (.long (Int64.ofInt x &&& Int64.ofInt y) :: st.map (tv G)) rfl (by exact congrArg (fun z => z :: st.map (tv G)) (tv_l (G := G) (Int64.ofInt x &&& Int64.ofInt y))) (fun H locs cells slots lsM _ w => lv_land C.1 C.2.1 hd w) (fun h1 _ => fa_cons (ok1 ⟨Int64.le_toInt _, Int64.toInt_lt _⟩) (fa_tl (fa_tl h1))) h
theorem g_lor (C : CX p R s m args meth c G sc d k n0) {x y : Int} (hd : decode (am_code k) pc = .ok (.lor, 1)) (h : Gd p l e R s m args below meth c G k n0 QE (pc + 1) ls ((1, l_or x y) :: st) g r n) : Gd p l e R s m args below meth c G k n0 QE pc ls ((1, y) :: (1, x) :: st) g r n :=
  gd_pure (.long (Int64.ofInt y) :: .long (Int64.ofInt x) :: st.map (tv G)) (.long (Int64.ofInt x ||| Int64.ofInt y) :: st.map (tv G)) rfl (by exact congrArg (fun z => z :: st.map (tv G)) (tv_l (G := G) (Int64.ofInt x ||| Int64.ofInt y))) (fun H locs cells slots lsM _ w => lv_lor C.1 C.2.1 hd w) (fun h1 _ => fa_cons (ok1 ⟨Int64.le_toInt _, Int64.toInt_lt _⟩) (fa_tl (fa_tl h1))) h
theorem g_lxor (C : CX p R s m args meth c G sc d k n0) {x y : Int} (hd : decode (am_code k) pc = .ok (.lxor, 1)) (h : Gd p l e R s m args below meth c G k n0 QE (pc + 1) ls ((1, l_xor x y) :: st) g r n) : Gd p l e R s m args below meth c G k n0 QE pc ls ((1, y) :: (1, x) :: st) g r n :=
  gd_pure (.long (Int64.ofInt y) :: .long (Int64.ofInt x) :: st.map (tv G)) (.long (Int64.ofInt x ^^^ Int64.ofInt y) :: st.map (tv G)) rfl (by exact congrArg (fun z => z :: st.map (tv G)) (tv_l (G := G) (Int64.ofInt x ^^^ Int64.ofInt y))) (fun H locs cells slots lsM _ w => lv_lxor C.1 C.2.1 hd w) (fun h1 _ => fa_cons (ok1 ⟨Int64.le_toInt _, Int64.toInt_lt _⟩) (fa_tl (fa_tl h1))) h
theorem g_lshl (C : CX p R s m args meth c G sc d k n0) {x y : Int} (hd : decode (am_code k) pc = .ok (.lshl, 1)) (h : Gd p l e R s m args below meth c G k n0 QE (pc + 1) ls ((1, l_shl x y) :: st) g r n) : Gd p l e R s m args below meth c G k n0 QE pc ls ((0, y) :: (1, x) :: st) g r n :=
  gd_pure (.int (Int32.ofInt y) :: .long (Int64.ofInt x) :: st.map (tv G)) (.long (Int64.ofInt x <<< ((Int32.ofInt y).toInt64 &&& 63)) :: st.map (tv G)) rfl (by exact congrArg (fun z => z :: st.map (tv G)) (tv_l (G := G) (Int64.ofInt x <<< ((Int32.ofInt y).toInt64 &&& 63)))) (fun H locs cells slots lsM _ w => lv_lshl C.1 C.2.1 hd rfl w) (fun h1 _ => fa_cons (ok1 ⟨Int64.le_toInt _, Int64.toInt_lt _⟩) (fa_tl (fa_tl h1))) h
theorem g_lshr (C : CX p R s m args meth c G sc d k n0) {x y : Int} (hd : decode (am_code k) pc = .ok (.lshr, 1)) (h : Gd p l e R s m args below meth c G k n0 QE (pc + 1) ls ((1, l_shr x y) :: st) g r n) : Gd p l e R s m args below meth c G k n0 QE pc ls ((0, y) :: (1, x) :: st) g r n :=
  gd_pure (.int (Int32.ofInt y) :: .long (Int64.ofInt x) :: st.map (tv G)) (.long (Int64.ofInt x >>> ((Int32.ofInt y).toInt64 &&& 63)) :: st.map (tv G)) rfl (by exact congrArg (fun z => z :: st.map (tv G)) (tv_l (G := G) (Int64.ofInt x >>> ((Int32.ofInt y).toInt64 &&& 63)))) (fun H locs cells slots lsM _ w => lv_lshr C.1 C.2.1 hd rfl w) (fun h1 _ => fa_cons (ok1 ⟨Int64.le_toInt _, Int64.toInt_lt _⟩) (fa_tl (fa_tl h1))) h
theorem g_lushr (C : CX p R s m args meth c G sc d k n0) {x y : Int} (hd : decode (am_code k) pc = .ok (.lushr, 1)) (h : Gd p l e R s m args below meth c G k n0 QE (pc + 1) ls ((1, l_ushr x y) :: st) g r n) : Gd p l e R s m args below meth c G k n0 QE pc ls ((0, y) :: (1, x) :: st) g r n :=
  gd_pure (.int (Int32.ofInt y) :: .long (Int64.ofInt x) :: st.map (tv G)) (.long (((Int64.ofInt x).toUInt64 >>> ((Int32.ofInt y).toInt64.toUInt64 &&& Int64.toUInt64 63)).toInt64) :: st.map (tv G)) rfl (by exact congrArg (fun z => z :: st.map (tv G)) (tv_l (G := G) (((Int64.ofInt x).toUInt64 >>> ((Int32.ofInt y).toInt64.toUInt64 &&& Int64.toUInt64 63)).toInt64))) (fun H locs cells slots lsM _ w => lv_lushr C.1 C.2.1 hd rfl w) (fun h1 _ => fa_cons (ok1 ⟨Int64.le_toInt _, Int64.toInt_lt _⟩) (fa_tl (fa_tl h1))) h
theorem g_idiv (C : CX p R s m args meth c G sc d k n0) {x y : Int} (hd : decode (am_code k) pc = .ok (.idiv, 1)) (hne : y ≠ 0) (h : Gd p l e R s m args below meth c G k n0 QE (pc + 1) ls ((0, wr (x.tdiv y)) :: st) g r n) : Gd p l e R s m args below meth c G k n0 QE pc ls ((0, y) :: (0, x) :: st) g r n := by
  intro a1 a2 a3 a4 a5 a6 H locs lsM b1 b2 b3 b4
  have hy := ok_r0 (fa_hd a3)
  have hx := ok_r0 (fa_hd (fa_tl a3))
  have w := h a1 a2 (fa_cons (ok0 (wr_rng _)) (fa_tl (fa_tl a3))) a4 a5 a6 H locs lsM b1 b2 b3 b4
  rw [List.map_cons, tv_0, wr_of, ← i_div hx hy] at w
  exact lv_idiv C.1 C.2.1 hd (fun q => hne ((i_eq hy rI0).mp q)) w
theorem g_irem (C : CX p R s m args meth c G sc d k n0) {x y : Int} (hd : decode (am_code k) pc = .ok (.irem, 1)) (hne : y ≠ 0) (h : Gd p l e R s m args below meth c G k n0 QE (pc + 1) ls ((0, x.tmod y) :: st) g r n) : Gd p l e R s m args below meth c G k n0 QE pc ls ((0, y) :: (0, x) :: st) g r n := by
  intro a1 a2 a3 a4 a5 a6 H locs lsM b1 b2 b3 b4
  have hy := ok_r0 (fa_hd a3)
  have hx := ok_r0 (fa_hd (fa_tl a3))
  have w := h a1 a2 (fa_cons (ok0 (rI_tmod hx)) (fa_tl (fa_tl a3))) a4 a5 a6 H locs lsM b1 b2 b3 b4
  rw [List.map_cons, tv_0, ← i_rem hx hy] at w
  exact lv_irem C.1 C.2.1 hd (fun q => hne ((i_eq hy rI0).mp q)) w
theorem g_ldiv (C : CX p R s m args meth c G sc d k n0) {x y : Int} (hd : decode (am_code k) pc = .ok (.ldiv, 1)) (hne : y ≠ 0) (h : Gd p l e R s m args below meth c G k n0 QE (pc + 1) ls ((1, wL (x.tdiv y)) :: st) g r n) : Gd p l e R s m args below meth c G k n0 QE pc ls ((1, y) :: (1, x) :: st) g r n := by
  intro a1 a2 a3 a4 a5 a6 H locs lsM b1 b2 b3 b4
  have hy := ok_r1 (fa_hd a3)
  have hx := ok_r1 (fa_hd (fa_tl a3))
  have w := h a1 a2 (fa_cons (ok1 (wL_rng _)) (fa_tl (fa_tl a3))) a4 a5 a6 H locs lsM b1 b2 b3 b4
  rw [List.map_cons, tv_1, wL_of, ← l_div hx hy] at w
  exact lv_ldiv C.1 C.2.1 hd (fun q => hne ((l_eq hy rL0).mp q)) w
theorem g_lrem (C : CX p R s m args meth c G sc d k n0) {x y : Int} (hd : decode (am_code k) pc = .ok (.lrem, 1)) (hne : y ≠ 0) (h : Gd p l e R s m args below meth c G k n0 QE (pc + 1) ls ((1, x.tmod y) :: st) g r n) : Gd p l e R s m args below meth c G k n0 QE pc ls ((1, y) :: (1, x) :: st) g r n := by
  intro a1 a2 a3 a4 a5 a6 H locs lsM b1 b2 b3 b4
  have hy := ok_r1 (fa_hd a3)
  have hx := ok_r1 (fa_hd (fa_tl a3))
  have w := h a1 a2 (fa_cons (ok1 (rL_tmod hx)) (fa_tl (fa_tl a3))) a4 a5 a6 H locs lsM b1 b2 b3 b4
  rw [List.map_cons, tv_1, ← l_rem hx hy] at w
  exact lv_lrem C.1 C.2.1 hd (fun q => hne ((l_eq hy rL0).mp q)) w
theorem g_lcmp (C : CX p R s m args meth c G sc d k n0) {x y : Int} (hd : decode (am_code k) pc = .ok (.lcmp, 1)) (h : Gd p l e R s m args below meth c G k n0 QE (pc + 1) ls ((0, cmpL x y) :: st) g r n) : Gd p l e R s m args below meth c G k n0 QE pc ls ((1, y) :: (1, x) :: st) g r n := by
  intro a1 a2 a3 a4 a5 a6 H locs lsM b1 b2 b3 b4
  have hy := ok_r1 (fa_hd a3)
  have hx := ok_r1 (fa_hd (fa_tl a3))
  have w := h a1 a2 (fa_cons (ok0 (cmp_rng _ _)) (fa_tl (fa_tl a3))) a4 a5 a6 H locs lsM b1 b2 b3 b4
  rw [List.map_cons, tv_0, ← cmp_l hx hy] at w
  exact W.lcmp C.1 C.2.1 hd w
theorem g_ineg (C : CX p R s m args meth c G sc d k n0) {x : Int} (hd : decode (am_code k) pc = .ok (.ineg, 1)) (h : Gd p l e R s m args below meth c G k n0 QE (pc + 1) ls ((0, wr (-x)) :: st) g r n) : Gd p l e R s m args below meth c G k n0 QE pc ls ((0, x) :: st) g r n :=
  gd_pure (.int (Int32.ofInt x) :: st.map (tv G)) (.int (-Int32.ofInt x) :: st.map (tv G)) rfl (by rw [List.map_cons, tv_0, wr_of, Int32.ofInt_neg]) (fun H locs cells slots lsM _ w => lv_ineg C.1 C.2.1 hd w) (fun h1 _ => fa_cons (ok0 (wr_rng _)) (fa_tl h1)) h
theorem g_i2b (C : CX p R s m args meth c G sc d k n0) {x : Int} (hd : decode (am_code k) pc = .ok (.i2b, 1)) (h : Gd p l e R s m args below meth c G k n0 QE (pc + 1) ls ((0, i_b x) :: st) g r n) : Gd p l e R s m args below meth c G k n0 QE pc ls ((0, x) :: st) g r n :=
  gd_pure (.int (Int32.ofInt x) :: st.map (tv G)) (.int ((Int32.ofInt x).toInt8.toInt32) :: st.map (tv G)) rfl (by exact congrArg (fun z => z :: st.map (tv G)) (tv_i (G := G) _)) (fun H locs cells slots lsM _ w => lv_i2b C.1 C.2.1 hd rfl w) (fun h1 _ => fa_cons (ok0 ⟨Int32.le_toInt _, Int32.toInt_lt _⟩) (fa_tl h1)) h
theorem g_l2i (C : CX p R s m args meth c G sc d k n0) {x : Int} (hd : decode (am_code k) pc = .ok (.l2i, 1)) (h : Gd p l e R s m args below meth c G k n0 QE (pc + 1) ls ((0, wr x) :: st) g r n) : Gd p l e R s m args below meth c G k n0 QE pc ls ((1, x) :: st) g r n :=
  gd_pure (.long (Int64.ofInt x) :: st.map (tv G)) (.int (Int32.ofInt x) :: st.map (tv G)) rfl (by rw [List.map_cons, tv_0, wr_of]) (fun H locs cells slots lsM _ w => lv_l2i C.1 C.2.1 hd Int64.toInt32_ofInt w) (fun h1 _ => fa_cons (ok0 (wr_rng _)) (fa_tl h1)) h
theorem g_i2l (C : CX p R s m args meth c G sc d k n0) {x : Int} (hd : decode (am_code k) pc = .ok (.i2l, 1)) (h : Gd p l e R s m args below meth c G k n0 QE (pc + 1) ls ((1, x) :: st) g r n) : Gd p l e R s m args below meth c G k n0 QE pc ls ((0, x) :: st) g r n := by
  intro a1 a2 a3 a4 a5 a6 H locs lsM b1 b2 b3 b4
  have hx := ok_r0 (fa_hd a3)
  have w := h a1 a2 (fa_cons (ok1 ⟨by have := hx.1; omega, by have := hx.2; omega⟩) (fa_tl a3)) a4 a5 a6 H locs lsM b1 b2 b3 b4
  have e : (Int32.ofInt x).toInt64 = Int64.ofInt x := by
    apply Int64.toInt_inj.mp
    rw [Int32.toInt_toInt64, Int32.toInt_ofInt_of_le hx.1 hx.2, Int64.toInt_ofInt_of_le (by have := hx.1; omega) (by have := hx.2; omega)]
  exact lv_i2l C.1 C.2.1 hd e w
theorem g_goto (C : CX p R s m args meth c G sc d k n0) {o : Int} {t : Nat} (hd : decode (am_code k) pc = .ok (.goto o, 3)) (ht : (pc : Int) + o = (t : Int)) (h : Gd p l e R s m args below meth c G k n0 QE t ls st g r n) : Gd p l e R s m args below meth c G k n0 QE pc ls st g r n :=
  gd_pure _ _ rfl rfl (fun H locs cells slots lsM _ w => lv_goto C.1 C.2.1 hd ht w) (fun h1 _ => h1) h
theorem g_if_eq (C : CX p R s m args meth c G sc d k n0) {x : Int} {o : Int} {t : Nat} (hd : decode (am_code k) pc = .ok (.ifCond .eq o, 3)) (ht : (pc : Int) + o = (t : Int)) (h : if x = 0 then Gd p l e R s m args below meth c G k n0 QE t ls st g r n else Gd p l e R s m args below meth c G k n0 QE (pc + 3) ls st g r n) : Gd p l e R s m args below meth c G k n0 QE pc ls ((0, x) :: st) g r n := by
  intro a1 a2 a3 a4 a5 a6 H locs lsM b1 b2 b3 b4
  have hx := ok_r0 (fa_hd a3)
  exact lv_if_eq C.1 C.2.1 hd ht (fun q => by rw [if_pos ((i_eq hx rI0).mp q)] at h; exact h a1 a2 (fa_tl a3) a4 a5 a6 H locs lsM b1 b2 b3 b4) (fun q => by rw [if_neg (fun z => q ((i_eq hx rI0).mpr z))] at h; exact h a1 a2 (fa_tl a3) a4 a5 a6 H locs lsM b1 b2 b3 b4)
theorem g_icmp_eq (C : CX p R s m args meth c G sc d k n0) {x y : Int} {o : Int} {t : Nat} (hd : decode (am_code k) pc = .ok (.if_icmp .eq o, 3)) (ht : (pc : Int) + o = (t : Int)) (h : if x = y then Gd p l e R s m args below meth c G k n0 QE t ls st g r n else Gd p l e R s m args below meth c G k n0 QE (pc + 3) ls st g r n) : Gd p l e R s m args below meth c G k n0 QE pc ls ((0, y) :: (0, x) :: st) g r n := by
  intro a1 a2 a3 a4 a5 a6 H locs lsM b1 b2 b3 b4
  have hy := ok_r0 (fa_hd a3)
  have hx := ok_r0 (fa_hd (fa_tl a3))
  exact lv_icmp_eq C.1 C.2.1 hd ht (fun q => by rw [if_pos ((i_eq hx hy).mp q)] at h; exact h a1 a2 (fa_tl (fa_tl a3)) a4 a5 a6 H locs lsM b1 b2 b3 b4) (fun q => by rw [if_neg (fun z => q ((i_eq hx hy).mpr z))] at h; exact h a1 a2 (fa_tl (fa_tl a3)) a4 a5 a6 H locs lsM b1 b2 b3 b4)
theorem g_if_ne (C : CX p R s m args meth c G sc d k n0) {x : Int} {o : Int} {t : Nat} (hd : decode (am_code k) pc = .ok (.ifCond .ne o, 3)) (ht : (pc : Int) + o = (t : Int)) (h : if x = 0 then Gd p l e R s m args below meth c G k n0 QE (pc + 3) ls st g r n else Gd p l e R s m args below meth c G k n0 QE t ls st g r n) : Gd p l e R s m args below meth c G k n0 QE pc ls ((0, x) :: st) g r n := by
  intro a1 a2 a3 a4 a5 a6 H locs lsM b1 b2 b3 b4
  have hx := ok_r0 (fa_hd a3)
  exact lv_if_ne C.1 C.2.1 hd ht (fun q => by rw [if_neg (fun z => q ((i_eq hx rI0).mpr z))] at h; exact h a1 a2 (fa_tl a3) a4 a5 a6 H locs lsM b1 b2 b3 b4) (fun q => by rw [if_pos ((i_eq hx rI0).mp q)] at h; exact h a1 a2 (fa_tl a3) a4 a5 a6 H locs lsM b1 b2 b3 b4)
theorem g_icmp_ne (C : CX p R s m args meth c G sc d k n0) {x y : Int} {o : Int} {t : Nat} (hd : decode (am_code k) pc = .ok (.if_icmp .ne o, 3)) (ht : (pc : Int) + o = (t : Int)) (h : if x = y then Gd p l e R s m args below meth c G k n0 QE (pc + 3) ls st g r n else Gd p l e R s m args below meth c G k n0 QE t ls st g r n) : Gd p l e R s m args below meth c G k n0 QE pc ls ((0, y) :: (0, x) :: st) g r n := by
  intro a1 a2 a3 a4 a5 a6 H locs lsM b1 b2 b3 b4
  have hy := ok_r0 (fa_hd a3)
  have hx := ok_r0 (fa_hd (fa_tl a3))
  exact lv_icmp_ne C.1 C.2.1 hd ht (fun q => by rw [if_neg (fun z => q ((i_eq hx hy).mpr z))] at h; exact h a1 a2 (fa_tl (fa_tl a3)) a4 a5 a6 H locs lsM b1 b2 b3 b4) (fun q => by rw [if_pos ((i_eq hx hy).mp q)] at h; exact h a1 a2 (fa_tl (fa_tl a3)) a4 a5 a6 H locs lsM b1 b2 b3 b4)
theorem g_if_lt (C : CX p R s m args meth c G sc d k n0) {x : Int} {o : Int} {t : Nat} (hd : decode (am_code k) pc = .ok (.ifCond .lt o, 3)) (ht : (pc : Int) + o = (t : Int)) (h : if x < 0 then Gd p l e R s m args below meth c G k n0 QE t ls st g r n else Gd p l e R s m args below meth c G k n0 QE (pc + 3) ls st g r n) : Gd p l e R s m args below meth c G k n0 QE pc ls ((0, x) :: st) g r n := by
  intro a1 a2 a3 a4 a5 a6 H locs lsM b1 b2 b3 b4
  have hx := ok_r0 (fa_hd a3)
  exact lv_if_lt C.1 C.2.1 hd ht (fun q => by rw [if_pos ((i_lt hx rI0).mp q)] at h; exact h a1 a2 (fa_tl a3) a4 a5 a6 H locs lsM b1 b2 b3 b4) (fun q => by rw [if_neg (fun z => q ((i_lt hx rI0).mpr z))] at h; exact h a1 a2 (fa_tl a3) a4 a5 a6 H locs lsM b1 b2 b3 b4)
theorem g_icmp_lt (C : CX p R s m args meth c G sc d k n0) {x y : Int} {o : Int} {t : Nat} (hd : decode (am_code k) pc = .ok (.if_icmp .lt o, 3)) (ht : (pc : Int) + o = (t : Int)) (h : if x < y then Gd p l e R s m args below meth c G k n0 QE t ls st g r n else Gd p l e R s m args below meth c G k n0 QE (pc + 3) ls st g r n) : Gd p l e R s m args below meth c G k n0 QE pc ls ((0, y) :: (0, x) :: st) g r n := by
  intro a1 a2 a3 a4 a5 a6 H locs lsM b1 b2 b3 b4
  have hy := ok_r0 (fa_hd a3)
  have hx := ok_r0 (fa_hd (fa_tl a3))
  exact lv_icmp_lt C.1 C.2.1 hd ht (fun q => by rw [if_pos ((i_lt hx hy).mp q)] at h; exact h a1 a2 (fa_tl (fa_tl a3)) a4 a5 a6 H locs lsM b1 b2 b3 b4) (fun q => by rw [if_neg (fun z => q ((i_lt hx hy).mpr z))] at h; exact h a1 a2 (fa_tl (fa_tl a3)) a4 a5 a6 H locs lsM b1 b2 b3 b4)
theorem g_if_ge (C : CX p R s m args meth c G sc d k n0) {x : Int} {o : Int} {t : Nat} (hd : decode (am_code k) pc = .ok (.ifCond .ge o, 3)) (ht : (pc : Int) + o = (t : Int)) (h : if x < 0 then Gd p l e R s m args below meth c G k n0 QE (pc + 3) ls st g r n else Gd p l e R s m args below meth c G k n0 QE t ls st g r n) : Gd p l e R s m args below meth c G k n0 QE pc ls ((0, x) :: st) g r n := by
  intro a1 a2 a3 a4 a5 a6 H locs lsM b1 b2 b3 b4
  have hx := ok_r0 (fa_hd a3)
  exact lv_if_ge C.1 C.2.1 hd ht (fun q => by have q := (i_le rI0 hx).mp q; rw [if_neg (by omega)] at h; exact h a1 a2 (fa_tl a3) a4 a5 a6 H locs lsM b1 b2 b3 b4) (fun q => by have q2 : ¬ 0 ≤ x := fun z => q ((i_le rI0 hx).mpr z); rw [if_pos (by omega)] at h; exact h a1 a2 (fa_tl a3) a4 a5 a6 H locs lsM b1 b2 b3 b4)
theorem g_icmp_ge (C : CX p R s m args meth c G sc d k n0) {x y : Int} {o : Int} {t : Nat} (hd : decode (am_code k) pc = .ok (.if_icmp .ge o, 3)) (ht : (pc : Int) + o = (t : Int)) (h : if x < y then Gd p l e R s m args below meth c G k n0 QE (pc + 3) ls st g r n else Gd p l e R s m args below meth c G k n0 QE t ls st g r n) : Gd p l e R s m args below meth c G k n0 QE pc ls ((0, y) :: (0, x) :: st) g r n := by
  intro a1 a2 a3 a4 a5 a6 H locs lsM b1 b2 b3 b4
  have hy := ok_r0 (fa_hd a3)
  have hx := ok_r0 (fa_hd (fa_tl a3))
  exact lv_icmp_ge C.1 C.2.1 hd ht (fun q => by have q := (i_le hy hx).mp q; rw [if_neg (by omega)] at h; exact h a1 a2 (fa_tl (fa_tl a3)) a4 a5 a6 H locs lsM b1 b2 b3 b4) (fun q => by have q2 : ¬ y ≤ x := fun z => q ((i_le hy hx).mpr z); rw [if_pos (by omega)] at h; exact h a1 a2 (fa_tl (fa_tl a3)) a4 a5 a6 H locs lsM b1 b2 b3 b4)
theorem g_if_gt (C : CX p R s m args meth c G sc d k n0) {x : Int} {o : Int} {t : Nat} (hd : decode (am_code k) pc = .ok (.ifCond .gt o, 3)) (ht : (pc : Int) + o = (t : Int)) (h : if 0 < x then Gd p l e R s m args below meth c G k n0 QE t ls st g r n else Gd p l e R s m args below meth c G k n0 QE (pc + 3) ls st g r n) : Gd p l e R s m args below meth c G k n0 QE pc ls ((0, x) :: st) g r n := by
  intro a1 a2 a3 a4 a5 a6 H locs lsM b1 b2 b3 b4
  have hx := ok_r0 (fa_hd a3)
  exact lv_if_gt C.1 C.2.1 hd ht (fun q => by rw [if_pos ((i_lt rI0 hx).mp q)] at h; exact h a1 a2 (fa_tl a3) a4 a5 a6 H locs lsM b1 b2 b3 b4) (fun q => by rw [if_neg (fun z => q ((i_lt rI0 hx).mpr z))] at h; exact h a1 a2 (fa_tl a3) a4 a5 a6 H locs lsM b1 b2 b3 b4)
theorem g_icmp_gt (C : CX p R s m args meth c G sc d k n0) {x y : Int} {o : Int} {t : Nat} (hd : decode (am_code k) pc = .ok (.if_icmp .gt o, 3)) (ht : (pc : Int) + o = (t : Int)) (h : if y < x then Gd p l e R s m args below meth c G k n0 QE t ls st g r n else Gd p l e R s m args below meth c G k n0 QE (pc + 3) ls st g r n) : Gd p l e R s m args below meth c G k n0 QE pc ls ((0, y) :: (0, x) :: st) g r n := by
  intro a1 a2 a3 a4 a5 a6 H locs lsM b1 b2 b3 b4
  have hy := ok_r0 (fa_hd a3)
  have hx := ok_r0 (fa_hd (fa_tl a3))
  exact lv_icmp_gt C.1 C.2.1 hd ht (fun q => by rw [if_pos ((i_lt hy hx).mp q)] at h; exact h a1 a2 (fa_tl (fa_tl a3)) a4 a5 a6 H locs lsM b1 b2 b3 b4) (fun q => by rw [if_neg (fun z => q ((i_lt hy hx).mpr z))] at h; exact h a1 a2 (fa_tl (fa_tl a3)) a4 a5 a6 H locs lsM b1 b2 b3 b4)
theorem g_if_le (C : CX p R s m args meth c G sc d k n0) {x : Int} {o : Int} {t : Nat} (hd : decode (am_code k) pc = .ok (.ifCond .le o, 3)) (ht : (pc : Int) + o = (t : Int)) (h : if 0 < x then Gd p l e R s m args below meth c G k n0 QE (pc + 3) ls st g r n else Gd p l e R s m args below meth c G k n0 QE t ls st g r n) : Gd p l e R s m args below meth c G k n0 QE pc ls ((0, x) :: st) g r n := by
  intro a1 a2 a3 a4 a5 a6 H locs lsM b1 b2 b3 b4
  have hx := ok_r0 (fa_hd a3)
  exact lv_if_le C.1 C.2.1 hd ht (fun q => by have q := (i_le hx rI0).mp q; rw [if_neg (by omega)] at h; exact h a1 a2 (fa_tl a3) a4 a5 a6 H locs lsM b1 b2 b3 b4) (fun q => by have q2 : ¬ x ≤ 0 := fun z => q ((i_le hx rI0).mpr z); rw [if_pos (by omega)] at h; exact h a1 a2 (fa_tl a3) a4 a5 a6 H locs lsM b1 b2 b3 b4)
theorem g_icmp_le (C : CX p R s m args meth c G sc d k n0) {x y : Int} {o : Int} {t : Nat} (hd : decode (am_code k) pc = .ok (.if_icmp .le o, 3)) (ht : (pc : Int) + o = (t : Int)) (h : if y < x then Gd p l e R s m args below meth c G k n0 QE (pc + 3) ls st g r n else Gd p l e R s m args below meth c G k n0 QE t ls st g r n) : Gd p l e R s m args below meth c G k n0 QE pc ls ((0, y) :: (0, x) :: st) g r n := by
  intro a1 a2 a3 a4 a5 a6 H locs lsM b1 b2 b3 b4
  have hy := ok_r0 (fa_hd a3)
  have hx := ok_r0 (fa_hd (fa_tl a3))
  exact lv_icmp_le C.1 C.2.1 hd ht (fun q => by have q := (i_le hx hy).mp q; rw [if_neg (by omega)] at h; exact h a1 a2 (fa_tl (fa_tl a3)) a4 a5 a6 H locs lsM b1 b2 b3 b4) (fun q => by have q2 : ¬ x ≤ y := fun z => q ((i_le hx hy).mpr z); rw [if_pos (by omega)] at h; exact h a1 a2 (fa_tl (fa_tl a3)) a4 a5 a6 H locs lsM b1 b2 b3 b4)
theorem g_ifnull (C : CX p R s m args meth c G sc d k n0) {x : Int} {o : Int} {t : Nat} (hd : decode (am_code k) pc = .ok (.ifnull o, 3)) (ht : (pc : Int) + o = (t : Int)) (h : if x = -1 then Gd p l e R s m args below meth c G k n0 QE t ls st g r n else Gd p l e R s m args below meth c G k n0 QE (pc + 3) ls st g r n) : Gd p l e R s m args below meth c G k n0 QE pc ls ((2, x) :: st) g r n := by
  intro a1 a2 a3 a4 a5 a6 H locs lsM b1 b2 b3 b4
  show W p l e R s m args below meth c H locs _ _ QE (F0 m pc lsM (va_rf (rfo G x) :: st.map (tv G)))
  by_cases hx : x = -1
  · rw [if_pos hx] at h
    rw [rfo, if_pos hx]
    exact lv_ifnullN C.1 C.2.1 hd ht (h a1 a2 (fa_tl a3) a4 a5 a6 H locs lsM b1 b2 b3 b4)
  · rw [if_neg hx] at h
    rw [rfo, if_neg hx]
    exact lv_ifnull C.1 C.2.1 hd (h a1 a2 (fa_tl a3) a4 a5 a6 H locs lsM b1 b2 b3 b4)
theorem g_ifnonnull (C : CX p R s m args meth c G sc d k n0) {x : Int} {o : Int} {t : Nat} (hd : decode (am_code k) pc = .ok (.ifnonnull o, 3)) (ht : (pc : Int) + o = (t : Int)) (h : if x = -1 then Gd p l e R s m args below meth c G k n0 QE (pc + 3) ls st g r n else Gd p l e R s m args below meth c G k n0 QE t ls st g r n) : Gd p l e R s m args below meth c G k n0 QE pc ls ((2, x) :: st) g r n := by
  intro a1 a2 a3 a4 a5 a6 H locs lsM b1 b2 b3 b4
  show W p l e R s m args below meth c H locs _ _ QE (F0 m pc lsM (va_rf (rfo G x) :: st.map (tv G)))
  by_cases hx : x = -1
  · rw [if_pos hx] at h
    rw [rfo, if_pos hx]
    exact lv_ifnonnullN C.1 C.2.1 hd (h a1 a2 (fa_tl a3) a4 a5 a6 H locs lsM b1 b2 b3 b4)
  · rw [if_neg hx] at h
    rw [rfo, if_neg hx]
    exact lv_ifnonnull C.1 C.2.1 hd ht (h a1 a2 (fa_tl a3) a4 a5 a6 H locs lsM b1 b2 b3 b4)
theorem tsw_at {f : Int → Prop} {dd x : Int} : ∀ (os : List Int) (lo : Int), am_tsw f dd x lo os → (x < lo ∨ lo + (os.length : Int) ≤ x → f dd) ∧ (∀ o, lo ≤ x → x < lo + (os.length : Int) → os[(x - lo).toNat]? = some o → f o)
  | [], lo, h => ⟨fun _ => h, fun o h1 h2 => by have h2 : x < lo + 0 := h2; omega⟩
  | o1 :: os, lo, h => by
    unfold am_tsw at h
    have hlen : ((o1 :: os).length : Int) = (os.length : Int) + 1 := by rw [List.length_cons]; omega
    rw [hlen]
    split at h
    · rename_i e
      refine ⟨fun z => by omega, fun o h1 h2 h3 => ?_⟩
      rw [e, Int.sub_self] at h3
      cases h3
      exact h
    · rename_i e
      obtain ⟨i1, i2⟩ := tsw_at os (lo + 1) h
      refine ⟨fun z => i1 (by omega), fun o h1 h2 h3 => i2 o (by omega) (by omega) ?_⟩
      rw [show (x - lo).toNat = (x - (lo + 1)).toNat + 1 by omega, List.getElem?_cons_succ] at h3
      exact h3
theorem g_tsw (C : CX p R s m args meth c G sc d k n0) {x : Int} {dflt lo hi : Int} {offs : Array Int} {len : Nat} (hd : decode (am_code k) pc = .ok (.tableswitch dflt lo hi offs, len)) (hh : hi + 1 = lo + (offs.size : Int))
    (h : am_tsw (fun o => am_j pc o fun t => Gd p l e R s m args below meth c G k n0 QE t ls st g r n) dflt x lo offs.toList) : Gd p l e R s m args below meth c G k n0 QE pc ls ((0, x) :: st) g r n := by
  intro a1 a2 a3 a4 a5 a6 H locs lsM b1 b2 b3 b4
  have hx := ok_r0 (fa_hd a3)
  have ex : (Int32.ofInt x).toInt = x := Int32.toInt_ofInt_of_le hx.1 hx.2
  obtain ⟨h1, h2⟩ := tsw_at _ _ h
  rw [Array.length_toList] at h1 h2
  by_cases hr : x < lo ∨ hi < x
  · obtain ⟨t, ht, hg⟩ := am_j_inv (h1 (by omega))
    exact lv_tableOut C.1 C.2.1 hd (by rw [ex]; exact hr) ht (hg a1 a2 (fa_tl a3) a4 a5 a6 H locs lsM b1 b2 b3 b4)
  · have hb : (x - lo).toNat < offs.size := by omega
    have hg := Array.getElem?_eq_getElem hb
    obtain ⟨t, ht, hG⟩ := am_j_inv (h2 _ (by omega) (by omega) (by rw [Array.getElem?_toList]; exact hg))
    exact lv_tableIn C.1 C.2.1 hd (by rw [ex]; omega) (by rw [ex]; omega) (by rw [ex]; exact hg) ht (hG a1 a2 (fa_tl a3) a4 a5 a6 H locs lsM b1 b2 b3 b4)
end SN2
