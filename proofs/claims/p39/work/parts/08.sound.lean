/-! each step of the machine of numbers is a step of the JVM's -/
def StrOK (G : AG) (U : State) : Prop := ∃ adV : Nat → Nat, vk_S 22 ((am_sb).map List.length) ((am_sb).map fun l => l.map Int32.ofInt) G.2.2.1 adV (fun q => G.1 ≤ q) U U.heap ∧ va_Z "java/lang/String" "COMPACT_STRINGS" "Z" (.int 1) (fun q => G.1 ≤ q) U U.heap ∧ va_Zq "jdk/internal/util/Preconditions" "SIOOBE_FORMATTER" "Ljava/util/function/BiFunction;" (fun q => G.1 ≤ q) U U.heap
def StrR (G : AG) (U : State) : Prop := ∀ e ∈ am_SL, vk_R (am_cn (e.1 / 100000)) (e.1 % 100000) (am_st.getD e.2.1 "") (G.2.2.1 e.2.1) U
def TXs (G : AG) (sc : SCR) (U : State) : Prop := va_X G.2.1 sc.1.toNat (fun j => Int32.ofInt (sc.2 (j : Int))) U U.heap ∧ G.2.1 < G.1 ∧ rI sc.1 ∧ 0 ≤ sc.1 ∧ (∀ j, rI (sc.2 j)) ∧ StrR G U ∧ StrOK G U ∧ va_AO "MillRow$Mill" U ∧ va_AO "MillRow$Brook" U ∧ ∀ q ∈ am_CL, (q.2.2.2.1 = 3 ∨ q.2.2.2.1 = 5) → va_Nw (w_C q) U
abbrev CX (p : Program) (R : Room) (s : State) (m : MethodId) (args : Array Value) (meth : Method) (c : Code) (G : AG) (sc : SCR) (d k : Nat) (n0 : Int) : Prop :=
  p.tables.exec = Jvm.exec ∧ c.code = am_code k ∧ c.maxLocals = am_maxL k ∧ s.vm.findClass (am_cn (am_own k)) = some m.cls ∧ (∀ w ∈ LW, w.before args s = true) ∧ va_K G.2.2.2.1 am_cl (tyA G) s ∧ (am_isI k = true → meth.name = "<init>") ∧
  (d + 1 ≤ R.frames ∧ 64 * d + 64 ≤ R.locals ∧ am_mk k ≤ R.cells ∧ am_cs (n0 + am_mk k) - am_cs n0 ≤ R.slots) ∧ (0 ≤ n0 ∧ n0 + am_mk k ≤ 218) ∧ TXs G sc s ∧ s.heap.size = G.1 + n0.toNat
def Gd (p : Program) (l : Launch) (e : Env) (R : Room) (s : State) (m : MethodId) (args : Array Value) (below : List Frame) (meth : Method) (c : Code) (G : AG) (k : Nat) (n0 : Int) (QE : State → Prop) : XT := fun pc ls st g r n =>
  n0 ≤ n → n ≤ n0 + am_mk k → (∀ v ∈ st, okv v) → (∀ v ∈ ls, okv v) → ls.length = am_maxL k → okG g r → ∀ (H : Heap) (locs : List Loc) (lsM : Array Slot), True → va_P G.2.2.2.1 am_cl (wd G g r n) H → va_S (fun q => G.1 ≤ q) s.heap H locs → lv_has lsM (am_maxL k) (lvl G 0 ls) →
  W p l e R s m args below meth c H locs (n - n0).toNat (am_cs n - am_cs n0) QE (F0 m pc lsM (st.map (tv G)))
theorem fa_cons {α : Type} {P : α → Prop} {a : α} {l : List α} (h1 : P a) (h2 : ∀ x ∈ l, P x) : ∀ x ∈ a :: l, P x := List.forall_mem_cons.mpr ⟨h1, h2⟩
theorem fa_hd {α : Type} {P : α → Prop} {a : α} {l : List α} (h : ∀ x ∈ a :: l, P x) : P a := h a List.mem_cons_self
theorem fa_tl {α : Type} {P : α → Prop} {a : α} {l : List α} (h : ∀ x ∈ a :: l, P x) : ∀ x ∈ l, P x := fun x hx => h x (List.mem_cons_of_mem _ hx)
section SND
variable {p : Program} {l : Launch} {e : Env} {R : Room} {s : State} {m : MethodId} {args : Array Value} {below : List Frame} {meth : Method} {c : Code} {G : AG} {sc : SCR} {d k : Nat} {n0 : Int} {QE : State → Prop}
variable {pc pc2 : Nat} {ls st st2 : List AV} {g r : GH} {n : Int}
theorem gd_pure (S S2 : List Value) (hS : st.map (tv G) = S) (hS2 : st2.map (tv G) = S2)
    (hrow : ∀ (H : Heap) (locs : List Loc) (cells slots : Nat) (lsM : Array Slot), lv_has lsM (am_maxL k) (lvl G 0 ls) → W p l e R s m args below meth c H locs cells slots QE (F0 m pc2 lsM S2) → W p l e R s m args below meth c H locs cells slots QE (F0 m pc lsM S))
    (hok : (∀ v ∈ st, okv v) → (∀ v ∈ ls, okv v) → ∀ v ∈ st2, okv v) (h : Gd p l e R s m args below meth c G k n0 QE pc2 ls st2 g r n) : Gd p l e R s m args below meth c G k n0 QE pc ls st g r n := by
  intro a1 a2 a3 a4 a5 a6 H locs lsM b1 b2 b3 b4
  have w := h a1 a2 (hok a3 a4) a4 a5 a6 H locs lsM b1 b2 b3 b4
  rw [hS2] at w
  rw [hS]
  exact hrow H locs _ _ lsM b4 w
theorem g_const (C : CX p R s m args meth c G sc d k n0) {v : Int} {i : Instr} {len : Nat} (hd : decode (am_code k) pc = .ok (i, len)) (hi : i = .iconst v ∧ len = 1 ∨ i = .bipush v ∧ len = 2 ∨ i = .sipush v ∧ len = 3) (hv : rI v) (hw : i = .bipush v → (Int8.ofInt v).toInt32 = Int32.ofInt v) (hw2 : i = .sipush v → (Int16.ofInt v).toInt32 = Int32.ofInt v)
    (h : Gd p l e R s m args below meth c G k n0 QE (pc + len) ls ((0, v) :: st) g r n) : Gd p l e R s m args below meth c G k n0 QE pc ls st g r n := by
  refine gd_pure _ _ rfl rfl (fun H locs cells slots lsM _ w => ?_) (fun h1 _ => fa_cons (ok0 hv) h1) h
  rcases hi with ⟨rfl, rfl⟩ | ⟨rfl, rfl⟩ | ⟨rfl, rfl⟩
  · exact lv_iconst (v := Int32.ofInt v) C.1 C.2.1 hd rfl w
  · exact lv_bipush (v := Int32.ofInt v) C.1 C.2.1 hd (hw rfl) w
  · exact lv_sipush (v := Int32.ofInt v) C.1 C.2.1 hd (hw2 rfl) w
theorem g_lconst (C : CX p R s m args meth c G sc d k n0) {v : Fin 2} (hd : decode (am_code k) pc = .ok (.lconst v, 1))
    (h : Gd p l e R s m args below meth c G k n0 QE (pc + 1) ls ((1, ((v : Nat) : Int)) :: st) g r n) : Gd p l e R s m args below meth c G k n0 QE pc ls st g r n :=
  gd_pure _ (.long (Int64.ofNat (v : Nat)) :: st.map (tv G)) rfl rfl (fun H locs cells slots lsM _ w => lv_lconst C.1 C.2.1 hd rfl w) (fun h1 _ => fa_cons (ok1 ⟨by omega, by omega⟩) h1) h
theorem g_null (C : CX p R s m args meth c G sc d k n0) (hd : decode (am_code k) pc = .ok (.aconst_null, 1))
    (h : Gd p l e R s m args below meth c G k n0 QE (pc + 1) ls ((2, -1) :: st) g r n) : Gd p l e R s m args below meth c G k n0 QE pc ls st g r n :=
  gd_pure _ (.null :: st.map (tv G)) rfl rfl (fun H locs cells slots lsM _ w => lv_null C.1 C.2.1 hd w) (fun h1 _ => fa_cons (ok2 (Or.inl rfl)) h1) h
theorem g_iload (C : CX p R s m args meth c G sc d k n0) {j : Nat} {x : Int} {i : Instr} {len : Nat} (hd : decode (am_code k) pc = .ok (i, len)) (hi : (∃ q : Fin 4, i = .iload_n q ∧ (q : Nat) = j ∧ len = 1) ∨ i = .iload j ∧ len = 2) (hl : ls[j]? = some (0, x))
    (h : Gd p l e R s m args below meth c G k n0 QE (pc + len) ls ((0, x) :: st) g r n) : Gd p l e R s m args below meth c G k n0 QE pc ls st g r n := by
  refine gd_pure _ (.int (Int32.ofInt x) :: st.map (tv G)) rfl rfl (fun H locs cells slots lsM hL w => ?_) (fun h1 h2 => fa_cons (h2 _ (List.mem_of_getElem? hl)) h1) h
  have ha := lvl_at hL hl (by decide)
  rcases hi with ⟨q, rfl, hq, rfl⟩ | ⟨rfl, rfl⟩
  · exact lv_iload_n C.1 C.2.1 hd hq ha w
  · exact lv_iload C.1 C.2.1 hd ha w
theorem g_lload (C : CX p R s m args meth c G sc d k n0) {j : Nat} {x : Int} {i : Instr} {len : Nat} (hd : decode (am_code k) pc = .ok (i, len)) (hi : (∃ q : Fin 4, i = .lload_n q ∧ (q : Nat) = j ∧ len = 1) ∨ i = .lload j ∧ len = 2) (hl : ls[j]? = some (1, x))
    (h : Gd p l e R s m args below meth c G k n0 QE (pc + len) ls ((1, x) :: st) g r n) : Gd p l e R s m args below meth c G k n0 QE pc ls st g r n := by
  refine gd_pure _ (.long (Int64.ofInt x) :: st.map (tv G)) rfl rfl (fun H locs cells slots lsM hL w => ?_) (fun h1 h2 => fa_cons (h2 _ (List.mem_of_getElem? hl)) h1) h
  have ha := lvl_at hL hl (by decide)
  rcases hi with ⟨q, rfl, hq, rfl⟩ | ⟨rfl, rfl⟩
  · exact lv_lload_n C.1 C.2.1 hd hq ha w
  · exact lv_lload C.1 C.2.1 hd ha w
theorem rf_cases (o : Option Nat) : va_rf o = .null ∨ ∃ a, va_rf o = .ref a := by cases o with
  | none => exact Or.inl rfl
  | some a => exact Or.inr ⟨a, rfl⟩
theorem g_aload (C : CX p R s m args meth c G sc d k n0) {j : Nat} {x : Int} {i : Instr} {len : Nat} (hd : decode (am_code k) pc = .ok (i, len)) (hi : (∃ q : Fin 4, i = .aload_n q ∧ (q : Nat) = j ∧ len = 1) ∨ i = .aload j ∧ len = 2) (hl : ls[j]? = some (2, x))
    (h : Gd p l e R s m args below meth c G k n0 QE (pc + len) ls ((2, x) :: st) g r n) : Gd p l e R s m args below meth c G k n0 QE pc ls st g r n := by
  refine gd_pure _ (va_rf (rfo G x) :: st.map (tv G)) rfl rfl (fun H locs cells slots lsM hL w => ?_) (fun h1 h2 => fa_cons (h2 _ (List.mem_of_getElem? hl)) h1) h
  have ha := lvl_at hL hl (by decide)
  rw [tv_2] at ha
  rcases rf_cases (rfo G x) with e | ⟨a, e⟩ <;> rw [e] at ha w
  · rcases hi with ⟨q, rfl, hq, rfl⟩ | ⟨rfl, rfl⟩
    · exact lv_aload_nN C.1 C.2.1 hd hq ha w
    · exact lv_aloadN C.1 C.2.1 hd ha w
  · rcases hi with ⟨q, rfl, hq, rfl⟩ | ⟨rfl, rfl⟩
    · exact lv_aload_n C.1 C.2.1 hd hq ha w
    · exact lv_aload C.1 C.2.1 hd ha w
theorem g_istore (C : CX p R s m args meth c G sc d k n0) {j : Nat} {x : Int} {i : Instr} {len : Nat} (hd : decode (am_code k) pc = .ok (i, len)) (hi : (∃ q : Fin 4, i = .istore_n q ∧ (q : Nat) = j ∧ len = 1) ∨ i = .istore j ∧ len = 2) (hj : j < am_maxL k)
    (h : Gd p l e R s m args below meth c G k n0 QE (pc + len) (am_st1 ls j (0, x)) st g r n) : Gd p l e R s m args below meth c G k n0 QE pc ls ((0, x) :: st) g r n := by
  intro a1 a2 a3 a4 a5 a6 H locs lsM b1 b2 b3 b4
  have w := fun ls' hL => h a1 a2 (fa_tl a3) (st1_ok a4 (fa_hd a3)) (by rw [st1_len]; exact a5) a6 H locs ls' b1 b2 b3 (lv_weak hL st1_sub)
  rcases hi with ⟨q, rfl, hq, rfl⟩ | ⟨rfl, rfl⟩
  · exact lv_istore_n C.1 C.2.1 hd hq b4 hj rfl w
  · exact lv_istore C.1 C.2.1 hd b4 hj rfl w
theorem g_lstore (C : CX p R s m args meth c G sc d k n0) {j : Nat} {x : Int} {i : Instr} {len : Nat} (hd : decode (am_code k) pc = .ok (i, len)) (hi : (∃ q : Fin 4, i = .lstore_n q ∧ (q : Nat) = j ∧ len = 1) ∨ i = .lstore j ∧ len = 2) (hj : j + 1 < am_maxL k)
    (h : Gd p l e R s m args below meth c G k n0 QE (pc + len) (am_st2 ls j (1, x)) st g r n) : Gd p l e R s m args below meth c G k n0 QE pc ls ((1, x) :: st) g r n := by
  intro a1 a2 a3 a4 a5 a6 H locs lsM b1 b2 b3 b4
  have w := fun ls' hL => h a1 a2 (fa_tl a3) (st2_ok a4 (fa_hd a3)) (by rw [st2_len]; exact a5) a6 H locs ls' b1 b2 b3 (lv_weak hL st2_sub)
  rcases hi with ⟨q, rfl, hq, rfl⟩ | ⟨rfl, rfl⟩
  · exact lv_lstore_n C.1 C.2.1 hd hq b4 hj rfl w
  · exact lv_lstore C.1 C.2.1 hd b4 hj rfl w
theorem g_astore (C : CX p R s m args meth c G sc d k n0) {j : Nat} {x : Int} {i : Instr} {len : Nat} (hd : decode (am_code k) pc = .ok (i, len)) (hi : (∃ q : Fin 4, i = .astore_n q ∧ (q : Nat) = j ∧ len = 1) ∨ i = .astore j ∧ len = 2) (hj : j < am_maxL k)
    (h : Gd p l e R s m args below meth c G k n0 QE (pc + len) (am_st1 ls j (2, x)) st g r n) : Gd p l e R s m args below meth c G k n0 QE pc ls ((2, x) :: st) g r n := by
  intro a1 a2 a3 a4 a5 a6 H locs lsM b1 b2 b3 b4
  have w := fun ls' hL => h a1 a2 (fa_tl a3) (st1_ok a4 (fa_hd a3)) (by rw [st1_len]; exact a5) a6 H locs ls' b1 b2 b3 (lv_weak hL st1_sub)
  show W p l e R s m args below meth c H locs _ _ QE (F0 m pc lsM (va_rf (rfo G x) :: st.map (tv G)))
  rw [tv_2] at w
  rcases rf_cases (rfo G x) with e | ⟨a, e⟩ <;> rw [e] at w ⊢
  · rcases hi with ⟨q, rfl, hq, rfl⟩ | ⟨rfl, rfl⟩
    · exact lv_astore_nN C.1 C.2.1 hd hq b4 hj rfl w
    · exact lv_astoreN C.1 C.2.1 hd b4 hj rfl w
  · rcases hi with ⟨q, rfl, hq, rfl⟩ | ⟨rfl, rfl⟩
    · exact lv_astore_n C.1 C.2.1 hd hq b4 hj rfl w
    · exact lv_astore C.1 C.2.1 hd b4 hj rfl w
theorem g_iinc (C : CX p R s m args meth c G sc d k n0) {j : Nat} {x q : Int} (hd : decode (am_code k) pc = .ok (.iinc j q, 3)) (hj : j < am_maxL k) (hl : ls[j]? = some (0, x))
    (h : Gd p l e R s m args below meth c G k n0 QE (pc + 3) (am_st1 ls j (0, wr (x + q))) st g r n) : Gd p l e R s m args below meth c G k n0 QE pc ls st g r n := by
  intro a1 a2 a3 a4 a5 a6 H locs lsM b1 b2 b3 b4
  have w := fun ls' hL => h a1 a2 a3 (st1_ok a4 (ok0 (wr_rng _))) (by rw [st1_len]; exact a5) a6 H locs ls' b1 b2 b3 (lv_weak hL st1_sub)
  obtain ⟨k0, hk0⟩ := List.getElem?_of_mem ((lvl_mem (G := G) ls 0 j _).mpr ⟨(0, x), Nat.zero_le _, hl, Nat.zero_le 2, rfl⟩)
  rw [tv_0, wr_of, Int32.ofInt_add] at w
  exact lv_iinc C.1 C.2.1 hd b4 hk0 rfl hj rfl w
theorem g_dup (C : CX p R s m args meth c G sc d k n0) {v : AV} (hd : decode (am_code k) pc = .ok (.dup, 1)) (hv : v.1 ≠ 1)
    (h : Gd p l e R s m args below meth c G k n0 QE (pc + 1) ls (v :: v :: st) g r n) : Gd p l e R s m args below meth c G k n0 QE pc ls (v :: st) g r n :=
  gd_pure (tv G v :: st.map (tv G)) (tv G v :: tv G v :: st.map (tv G)) rfl rfl (fun H locs cells slots lsM _ w => lv_dup C.1 C.2.1 hd (by rw [tv_cat, if_neg hv]) w) (fun h1 _ => fa_cons (fa_hd h1) h1) h
theorem g_dup2 (C : CX p R s m args meth c G sc d k n0) {v w : AV} (hd : decode (am_code k) pc = .ok (.dup2, 1)) (hv : v.1 ≠ 1) (hw : w.1 ≠ 1)
    (h : Gd p l e R s m args below meth c G k n0 QE (pc + 1) ls (v :: w :: v :: w :: st) g r n) : Gd p l e R s m args below meth c G k n0 QE pc ls (v :: w :: st) g r n :=
  gd_pure (tv G v :: tv G w :: st.map (tv G)) (tv G v :: tv G w :: tv G v :: tv G w :: st.map (tv G)) rfl rfl (fun H locs cells slots lsM _ z => lv_dup2_11 C.1 C.2.1 hd (by rw [tv_cat, if_neg hv]) (by rw [tv_cat, if_neg hw]) z) (fun h1 _ => fa_cons (fa_hd h1) (fa_cons (fa_hd (fa_tl h1)) h1)) h
theorem g_pop (C : CX p R s m args meth c G sc d k n0) {v : AV} (hd : decode (am_code k) pc = .ok (.pop, 1)) (hv : v.1 ≠ 1)
    (h : Gd p l e R s m args below meth c G k n0 QE (pc + 1) ls st g r n) : Gd p l e R s m args below meth c G k n0 QE pc ls (v :: st) g r n :=
  gd_pure (tv G v :: st.map (tv G)) (st.map (tv G)) rfl rfl (fun H locs cells slots lsM _ w => lv_pop C.1 C.2.1 hd (by rw [tv_cat, if_neg hv]) w) (fun h1 _ => fa_tl h1) h
theorem g_pop2 (C : CX p R s m args meth c G sc d k n0) {v : Int} (hd : decode (am_code k) pc = .ok (.pop2, 1))
    (h : Gd p l e R s m args below meth c G k n0 QE (pc + 1) ls st g r n) : Gd p l e R s m args below meth c G k n0 QE pc ls ((1, v) :: st) g r n :=
  gd_pure (.long (Int64.ofInt v) :: st.map (tv G)) (st.map (tv G)) rfl rfl (fun H locs cells slots lsM _ w => lv_pop2_2 C.1 C.2.1 hd rfl w) (fun h1 _ => fa_tl h1) h
end SND
