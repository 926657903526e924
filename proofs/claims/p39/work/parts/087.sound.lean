/-! constants, texts, Object's constructor, copies, ends -/
def yLen : MethodName := ⟨"java/lang/String", "length", "()I"⟩
def yChr : MethodName := ⟨"java/lang/String", "charAt", "(I)C"⟩
abbrev cLen : ByteArray := prog_14_method_54_code
abbrev cChr : ByteArray := prog_14_method_56_code
def rmS : Room := { frames := 3, cells := 0, slots := 0, locals := 192 }
def QS (v : Value) : Array Value → State → Outcome → State → Prop := fun _ st oc t => oc = .returned (some v) ∧ t.heap = st.heap
def StrM (l : Launch) (G : AG) (sc : SCR) : Prop :=
  (∀ i, i < 22 → Met l yLen (.code yLen cLen 1 (some .int) :: LW) rmS (va_Pc [.ref (G.2.2.1 i)] (fun U => TXs G sc U)) (QS (.int (Int32.ofInt (((am_sb.getD i []).length : Nat) : Int)))) 0 0 (fun _ => False)) ∧
  (∀ i j, i < 22 → j < (am_sb.getD i []).length → Met l yChr (.code yChr cChr 2 (some .char) :: LW) rmS (va_Pc [.ref (G.2.2.1 i), .int (Int32.ofInt (j : Int))] (fun U => TXs G sc U)) (QS (.int (Int32.ofInt ((am_sb.getD i []).getD j 0)))) 0 0 (fun _ => False))
theorem sb_ok : (List.range 22).all (fun i => (am_sb.getD i []).all (fun b => decide (0 ≤ b ∧ b < 128)) && decide ((am_sb.getD i []).length < 20)) = true := by decide +kernel
theorem S_ok : (am_SL.all fun q => decide (q.2.1 < 22)) = true := by decide +kernel
theorem K_at {k idx : Nat} {e : Nat × Int × Nat} (h : am_at k idx am_KL = some e) : (e.1 = 0 → rI e.2.1) ∧ rL e.2.1 ∧ (if e.1 = 0 then Cond.constant (am_cn (am_own k)) idx (Int32.ofInt e.2.1) else Cond.constantLong (am_cn (am_own k)) idx (Int64.ofInt e.2.1)) ∈ LW := by
  obtain ⟨hi, h⟩ := am_at_inv h
  have hm := am_lk_mem h
  have h1 := of_decide_eq_true (List.all_eq_true.mp K_ok _ hm)
  have h2 := K_in _ (List.mem_map_of_mem hm)
  have e1 : am_key k idx / 100000 = am_own k := by unfold am_key; omega
  have e2 : am_key k idx % 100000 = idx := by unfold am_key; omega
  unfold w_K at h2
  dsimp only at h1 h2
  rw [e1, e2] at h2
  refine ⟨h1.1, h1.2, LW_of h2 ?_⟩
  split <;> rfl
section SN8
variable {p : Program} {l : Launch} {e : Env} {R : Room} {s : State} {m : MethodId} {args : Array Value} {below : List Frame} {meth : Method} {c : Code} {G : AG} {sc : SCR} {d k : Nat} {n0 : Int} {QE : State → Prop} {CC : CTR}
variable {pc pc2 : Nat} {ls st st2 : List AV} {g r : GH} {n : Int}
theorem g_ldcI (C : CX p R s m args meth c G sc d k n0) {idx : Nat} {f : Nat × Int × Nat} {i : Instr} {len : Nat} (hd : decode (am_code k) pc = .ok (i, len)) (hi : i = .ldc idx ∧ len = 2 ∨ i = .ldc_w idx ∧ len = 3) (he : am_at k idx am_KL = some f) (hf : f.1 = 0)
    (h : Gd p l e R s m args below meth c G k n0 QE (pc + len) ls ((0, f.2.1) :: st) g r n) : Gd p l e R s m args below meth c G k n0 QE pc ls st g r n := by
  obtain ⟨k1, -, k3⟩ := K_at he
  rw [if_pos hf] at k3
  obtain ⟨cx, cb, cml, cown, cts, -⟩ := C
  refine gd_pure _ (.int (Int32.ofInt f.2.1) :: st.map (tv G)) rfl rfl (fun H locs cells slots lsM _ w => ?_) (fun h1 _ => fa_cons (ok0 (k1 hf)) h1) h
  rcases hi with ⟨rfl, rfl⟩ | ⟨rfl, rfl⟩
  · exact lv_ldc cx cb cown (cts _ k3) hd w
  · exact lv_ldcw cx cb cown (cts _ k3) hd w
theorem g_ldcL (C : CX p R s m args meth c G sc d k n0) {idx : Nat} {f : Nat × Int × Nat} (hd : decode (am_code k) pc = .ok (.ldc2_w idx, 3)) (he : am_at k idx am_KL = some f) (hf : f.1 = 1)
    (h : Gd p l e R s m args below meth c G k n0 QE (pc + 3) ls ((1, f.2.1) :: st) g r n) : Gd p l e R s m args below meth c G k n0 QE pc ls st g r n := by
  obtain ⟨-, k2, k3⟩ := K_at he
  rw [if_neg (by omega)] at k3
  obtain ⟨cx, cb, cml, cown, cts, -⟩ := C
  exact gd_pure _ (.long (Int64.ofInt f.2.1) :: st.map (tv G)) rfl rfl (fun H locs cells slots lsM _ w => lv_ldc2 cx cb cown (cts _ k3) hd w) (fun h1 _ => fa_cons (ok1 k2) h1) h
theorem tv_str {i : Nat} (hi : i < 22) : tv G (2, 1000000 + (i : Int)) = .ref (G.2.2.1 i) := by
  rw [tv_2, rfo, if_neg (by omega), adr, if_neg (by omega), if_pos (by omega), show (1000000 + (i : Int) - 1000000).toNat = i by omega]; rfl
theorem g_ldcS (C : CX p R s m args meth c G sc d k n0) {idx : Nat} {f : Nat × Nat} (hd : decode (am_code k) pc = .ok (.ldc idx, 2)) (he : am_at k idx am_SL = some f)
    (h : Gd p l e R s m args below meth c G k n0 QE (pc + 2) ls ((2, 1000000 + (f.1 : Int)) :: st) g r n) : Gd p l e R s m args below meth c G k n0 QE pc ls st g r n := by
  obtain ⟨hi, he⟩ := am_at_inv he
  have hm := am_lk_mem he
  have h22 := of_decide_eq_true (List.all_eq_true.mp S_ok _ hm)
  obtain ⟨cx, cb, cml, cown, cts, -, -, -, -, ⟨-, -, -, -, -, tS, -⟩, -⟩ := C
  have hs := tS _ hm
  dsimp only at hs h22
  rw [show am_key k idx / 100000 = am_own k by unfold am_key; omega, show am_key k idx % 100000 = idx by unfold am_key; omega] at hs
  exact gd_pure _ (.ref (G.2.2.1 f.1) :: st.map (tv G)) rfl (by rw [List.map_cons, tv_str h22]) (fun H locs cells slots lsM _ w => va_ldcS cx cb cown hs hd w) (fun h1 _ => fa_cons (ok2 (Or.inr (Or.inr (by omega)))) h1) h
theorem g_objinit (C : CX p R s m args meth c G sc d k n0) {idx : Nat} {f : Nat × Nat × Nat × Nat} {x : Int} (hd : decode (am_code k) pc = .ok (.invokespecial idx, 3)) (he : am_at k idx am_CL = some f) (hf : f.2.2.1 = 8) (h0 : 0 ≤ x) (h1 : x < 1000000) (hcat : am_cat st ≤ 8)
    (h : Gd p l e R s m args below meth c G k n0 QE (pc + 3) ls st g r n) : Gd p l e R s m args below meth c G k n0 QE pc ls ((2, x) :: st) g r n := by
  obtain ⟨-, e1, e2, hw⟩ := C_at he
  rw [w_C, hf] at hw
  dsimp only at hw
  rw [e1, e2] at hw
  obtain ⟨cx, cb, cml, cown, cts, -, -, ⟨c1, c2, -⟩, -⟩ := C
  refine gd_pure _ (st.map (tv G)) rfl rfl (fun H locs cells slots lsM hL w => ?_) (fun h1 _ => fa_tl h1) h
  rw [List.map_cons, tv_o h0 h1]
  refine W.objInit (a := G.1 + x.toNat) (rest := st.map (tv G)) cx cb cown (cts _ (LW_of hw rfl)) (cts _ (LW_of ob_in.1 rfl)) (cts _ (LW_of ob_in.2 rfl)) rfl (by rw [cml]; exact hL.1) rfl hd (by omega) ?_ w
  rw [cat_map]
  show 2 * 0 + _ + 12 ≤ _
  omega
theorem g_str (C : CX p R s m args meth c G sc d k n0) (h3 : 3 ≤ d) {idx : Nat} {y : MethodName} {bytes : ByteArray} {maxL : Nat} {ret : Option FieldType} {as2 : List AV} {x z : Int} (hd : decode (am_code k) pc = .ok (.invokevirtual idx, 3)) (hlink : Cond.methodLink (am_cn (am_own k)) idx y ∈ LW) (hcls : y.cls = "java/lang/String") (hmx : maxL ≤ 2)
    (hws : ∀ w ∈ wsV (am_cn (am_own k)) idx "java/lang/String" y (.code y bytes maxL ret :: LW), w ∈ LW) (hdesc : (parseMethodDescriptor y.desc).map (fun d => d.parameters.length) = some as2.length)
    (hx : okT x) (hM : Met l y (.code y bytes maxL ret :: LW) rmS (va_Pc (tv G (2, x) :: as2.map (tv G)) (fun U => TXs G sc U)) (QS (.int (Int32.ofInt z))) 0 0 (fun _ => False)) (hz : rI z) (hcat : am_cat st ≤ 8)
    (h : Gd p l e R s m args below meth c G k n0 QE (pc + 3) ls ((0, z) :: st) g r n) : Gd p l e R s m args below meth c G k n0 QE pc ls (as2.reverse ++ (2, x) :: st) g r n := by
  intro a1 a2 a3 a4 a5 a6 H locs lsM b1 b2 b3 b4
  obtain ⟨cx, cb, cml, cown, cts, cK, cI, ⟨c1, c2, c3, c4⟩, ⟨cn0, cn1⟩, cT, chs⟩ := C
  have w := h a1 a2 (fa_cons (ok0 hz) (fun v hv => a3 v (List.mem_append_right _ (List.mem_cons_of_mem _ hv)))) a4 a5 a6 H locs lsM b1 b2 b3 b4
  obtain ⟨adV, tS, -⟩ := cT.2.2.2.2.2.2.1
  have hi : (x - 1000000).toNat < 22 := by have := hx.1; have := hx.2; omega
  have ex : x = 1000000 + (((x - 1000000).toNat : Nat) : Int) := by have := hx.1; omega
  have etv : tv G (2, x) = .ref (G.2.2.1 (x - 1000000).toNat) := by
    conv => lhs; rw [ex]
    rw [tv_str hi]
  rw [etv] at hM
  rw [List.map_append, List.map_cons, List.map_reverse, etv]
  have hW8 : ((st.map (tv G)).map fun v => v.category).sum ≤ 8 := by rw [cat_map]; exact hcat
  have m1 := cs_mono cn0 a1 (by omega)
  have m2 := cs_mono (a := n) (b := n0 + am_mk k) (by omega) (by omega) (by omega)
  intro T hT X
  obtain ⟨v, st₀, t, T', L, q0, X', hL, e1, e2, ⟨hv, hh⟩, hst⟩ := va_runV (Ts := LW) (C := "java/lang/String") (mc := 0) (ms := 0) (n := as2.length) (rest := st.map (tv G)) (As := as2.map (tv G)) (H := H) (g := F0 m pc lsM ((as2.map (tv G)).reverse ++ .ref (G.2.2.1 (x - 1000000).toNat) :: st.map (tv G))) ⟨cx, cb, cml, cown, cts⟩ hM
    (cwV as2.length cts (LW_in hws) rfl rfl rfl ⟨hcls, by rw [hcls]; decide, by rw [hcls]; decide, hdesc⟩ ⟨by show 3 + 1 ≤ R.frames; omega, by show 8 + (maxL + 11) + 192 ≤ R.locals; omega⟩)
    ⟨fun a U f mk q => ⟨q.1, TX_call q.2⟩, vk_recv tS hi b3, fun U hU hW => ⟨rfl, TX_warm hW hU b3 cT⟩⟩ rfl (by rw [List.length_map]) b4.1 rfl (lv_room hW8) hd (by omega) T hT X
  cases hv
  have hhe : T'.heap = H := by rw [e1, hh, q0]
  obtain ⟨t2, q1, q2⟩ := w T' hhe (Stand.forget X' (fun q h => (hL q h).elim))
  exact ⟨t2, hst t2 q1, q2⟩
theorem okG_cpy {src sp dst dp len : Int} (h : okG g r) (hk : (okr n src 11 ∧ okr n dst 11) ∨ (okr n src 12 ∧ okr n dst 12)) : okG (cpy g src sp dst dp len) r := by
  refine ⟨fun a b hl => ?_, fun a b => ?_, h.2.2⟩
  · unfold cpy; split
    · rename_i q
      rcases hk with ⟨h1, h2⟩ | ⟨h1, h2⟩
      · exact h.1 _ _ (nlng_arr h1.2.2 (by decide))
      · exact absurd (Or.inl (by rw [q.1]; exact h2.2.2)) hl
    · exact h.1 _ _ hl
  · unfold cpy; split
    · exact h.2.1 _ _
    · exact h.2.1 _ _
theorem cpy_off {f : GH} {src sp dst dp len : Int} : ∀ i, i ≠ dst → ∀ j, cpy f src sp dst dp len i j = f i j := fun i hi j => by
  unfold cpy; rw [if_neg (fun q => hi q.1)]
theorem g_copy (C : CX p R s m args meth c G sc d k n0) {idx : Nat} {f : Nat × Nat × Nat × Nat} {src sp dst dp len : Int} (hd : decode (am_code k) pc = .ok (.invokestatic idx, 3)) (he : am_at k idx am_CL = some f) (hf : f.2.2.1 = 4) (hcat : am_cat st ≤ 8)
    (h0 : 0 ≤ sp) (h1 : 0 ≤ dp) (h2 : 0 ≤ len) (h3 : sp + len ≤ am_ln src) (h4 : dp + len ≤ am_ln dst) (hk : (okr n src 11 ∧ okr n dst 11) ∨ (okr n src 12 ∧ okr n dst 12))
    (h : Gd p l e R s m args below meth c G k n0 QE (pc + 3) ls st (cpy g src sp dst dp len) r n) : Gd p l e R s m args below meth c G k n0 QE pc ls ((0, len) :: (0, dp) :: (2, dst) :: (0, sp) :: (2, src) :: st) g r n := by
  intro a1 a2 a3 a4 a5 a6 H locs lsM b1 b2 b3 b4
  obtain ⟨-, e1, e2, hw⟩ := C_at he
  rw [w_C, hf] at hw
  dsimp only at hw
  rw [e1, e2] at hw
  obtain ⟨cx, cb, cml, cown, cts, cK, cI, ⟨c1, c2, c3, c4⟩, ⟨cn0, cn1⟩, cT, chs⟩ := C
  have r1 := ok_r0 (fa_hd a3)
  have r2 := ok_r0 (fa_hd (fa_tl a3))
  have r3 := ok_r0 (fa_hd (fa_tl (fa_tl (fa_tl a3))))
  have rest := fa_tl (fa_tl (fa_tl (fa_tl (fa_tl a3))))
  have hls := ln_rng src
  have hld := ln_rng dst
  have hml : c.maxLocals = lsM.size := by rw [cml]; exact b4.1.symm
  have hloc : ((st.map (tv G)).map fun v => v.category).sum + (nativeFrameWords "java/lang/System" "arraycopy" 5 + 11) ≤ R.locals := by
    rw [cat_map, show nativeFrameWords "java/lang/System" "arraycopy" 5 = 7 by decide +kernel]; omega
  have wnat := cts _ (LW_of cp_in.1 rfl)
  have wst := cts _ (LW_of cp_in.2.1 rfl)
  have wini := cts _ (LW_of cp_in.2.2 rfl)
  have wl := cts _ (LW_of hw rfl)
  have fin : ∀ (H1 : Heap) (locs1 : List Loc), va_P G.2.2.2.1 am_cl (wd G (cpy g src sp dst dp len) r n) H1 → va_S (fun q => G.1 ≤ q) s.heap H1 locs1 → W p l e R s m args below meth c H1 locs1 (n - n0).toNat (am_cs n - am_cs n0) QE (F0 m (pc + 3) lsM (st.map (tv G))) :=
    fun H1 locs1 z1 z3 => h a1 a2 rest a4 a5 (okG_cpy a6 hk) H1 locs1 lsM trivial z1 z3 b4
  rcases hk with ⟨k1, k2⟩ | ⟨k1, k2⟩
  · rw [List.map_cons, List.map_cons, List.map_cons, List.map_cons, List.map_cons, tv_0, tv_0, tv_0, tv_o k1.1 (by have := k1.2.1; omega), tv_o k2.1 (by have := k2.2.1; omega)]
    refine va_copyi cx cb hml cown wl wnat wst wini cK b2 wd_D b3 src.toNat dst.toNat 1 1 (c0 := G.2.2.2.2 11) (c1 := G.2.2.2.2 11) (n0 := (am_ln src).toNat) (n1 := (am_ln dst).toNat) (f := fun q => Int32.ofInt (g src (q : Int))) (g := fun q => Int32.ofInt (g dst (q : Int))) (ty := .int)
      (by rw [wd_get k1.1 k1.2.1, cell_int k1.2.2 (by decide)]) (by rw [wd_get k2.1 k2.2.1, cell_int k2.2.2 (by decide)]) rfl rfl rfl (i_nn r3 h0) (i_nn r2 h1) (i_nn r1 h2) (by rw [i_cl r3, i_cl r1]; omega) (by rw [i_cl r2, i_cl r1]; omega) (fun _ _ => rfl) (by omega) hloc hd (fun H1 locs1 z1 _ z3 => fin H1 locs1 ?_ z3)
    rw [i_cl r1, i_cl r2, i_cl r3] at z1
    have hc : cellE G (cpy g src sp dst dp len) r dst = .inl (G.2.2.2.2 11, (am_ln dst).toNat, .inl (va_cpy (fun q => Int32.ofInt (g src (q : Int))) (fun q => Int32.ofInt (g dst (q : Int))) sp.toNat dp.toNat len.toNat)) := by
      rw [cell_int k2.2.2 (by decide)]
      congr 3
      congr 1
      funext q
      unfold cpy va_cpy
      by_cases hq : dp ≤ (q : Int) ∧ (q : Int) < dp + len
      · rw [if_pos ⟨rfl, hq⟩, if_pos (by omega)]
        show _ = Int32.ofInt (g src ((sp.toNat + (q - dp.toNat) : Nat) : Int))
        rw [show ((sp.toNat + (q - dp.toNat) : Nat) : Int) = sp + ((q : Int) - dp) by omega]
      · rw [if_neg (fun z => hq z.2), if_neg (by omega)]
    rw [← hc, wd_set k2.1 k2.2.1 cpy_off (fun _ _ _ => rfl)] at z1
    exact z1
  · rw [List.map_cons, List.map_cons, List.map_cons, List.map_cons, List.map_cons, tv_0, tv_0, tv_0, tv_o k1.1 (by have := k1.2.1; omega), tv_o k2.1 (by have := k2.2.1; omega)]
    refine va_copyl cx cb hml cown wl wnat wst wini cK b2 wd_D b3 src.toNat dst.toNat 2 2 (c0 := G.2.2.2.2 12) (c1 := G.2.2.2.2 12) (n0 := (am_ln src).toNat) (n1 := (am_ln dst).toNat) (f := fun q => Int64.ofInt (g src (q : Int))) (g := fun q => Int64.ofInt (g dst (q : Int))) (ty := .long)
      (by rw [wd_get k1.1 k1.2.1, cell_long k1.2.2]) (by rw [wd_get k2.1 k2.2.1, cell_long k2.2.2]) rfl rfl rfl (i_nn r3 h0) (i_nn r2 h1) (i_nn r1 h2) (by rw [i_cl r3, i_cl r1]; omega) (by rw [i_cl r2, i_cl r1]; omega) (fun _ _ => rfl) (by omega) hloc hd (fun H1 locs1 z1 _ z3 => fin H1 locs1 ?_ z3)
    rw [i_cl r1, i_cl r2, i_cl r3] at z1
    have hc : cellE G (cpy g src sp dst dp len) r dst = .inl (G.2.2.2.2 12, (am_ln dst).toNat, .inr (.inl (va_cpy (fun q => Int64.ofInt (g src (q : Int))) (fun q => Int64.ofInt (g dst (q : Int))) sp.toNat dp.toNat len.toNat))) := by
      rw [cell_long k2.2.2]
      congr 4
      apply congrArg
      funext q
      unfold cpy va_cpy
      by_cases hq : dp ≤ (q : Int) ∧ (q : Int) < dp + len
      · rw [if_pos ⟨rfl, hq⟩, if_pos (by omega)]
        show _ = Int64.ofInt (g src ((sp.toNat + (q - dp.toNat) : Nat) : Int))
        rw [show ((sp.toNat + (q - dp.toNat) : Nat) : Int) = sp + ((q : Int) - dp) by omega]
      · rw [if_neg (fun z => hq z.2), if_neg (by omega)]
    rw [← hc, wd_set k2.1 k2.2.1 cpy_off (fun _ _ _ => rfl)] at z1
    exact z1
end SN8
