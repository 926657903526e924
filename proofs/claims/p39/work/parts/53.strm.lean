/-! String.length and String.charAt of the texts -/
def yCod : MethodName := ⟨"java/lang/String", "coder", "()B"⟩
def yLat : MethodName := ⟨"java/lang/String", "isLatin1", "()Z"⟩
def yLch : MethodName := ⟨"java/lang/StringLatin1", "charAt", "([BI)C"⟩
def yChk : MethodName := ⟨"java/lang/String", "checkIndex", "(II)V"⟩
def yPre : MethodName := ⟨"jdk/internal/util/Preconditions", "checkIndex", "(IILjava/util/function/BiFunction;)I"⟩
abbrev cCod : ByteArray := prog_14_method_152_code
abbrev cLat : ByteArray := prog_14_method_154_code
abbrev cLch : ByteArray := prog_15_method_2_code
abbrev cChk : ByteArray := prog_14_method_155_code
abbrev cPre : ByteArray := prog_19_method_11_code
def rmq0 : Room := { frames := 0, cells := 0, slots := 0, locals := 0 }
def rmq1 : Room := { frames := 1, cells := 0, slots := 0, locals := 64 }
def rmq2 : Room := { frames := 2, cells := 0, slots := 0, locals := 128 }
theorem wS1 : Cond.fieldLink "java/lang/String" 38 "java/lang/String" "COMPACT_STRINGS" "Z" ∈ tables_1 ∧ Cond.fieldLink "java/lang/String" 15 "java/lang/String" "coder" "B" ∈ tables_1 ∧ Cond.fieldLink "java/lang/String" 9 "java/lang/String" "value" "[B" ∈ tables_1 ∧ Cond.fieldLink "java/lang/String" 1053 "jdk/internal/util/Preconditions" "SIOOBE_FORMATTER" "Ljava/util/function/BiFunction;" ∈ tables_1 := by decide +kernel
theorem wS2 : ∀ w ∈ ([.methodLink "java/lang/String" 335 yCod, .instanceMethod yCod, .selects "java/lang/String" yCod yCod, .initialized "java/lang/String", .code yCod cCod 1 (some .byte)] : List Cond), w ∈ tables_1 := by decide +kernel
theorem wS3 : ∀ w ∈ ([.methodLink "java/lang/String" 492 yLat, .instanceMethod yLat, .selects "java/lang/String" yLat yLat, .initialized "java/lang/String", .code yLat cLat 1 (some .boolean)] : List Cond), w ∈ tables_1 := by decide +kernel
theorem wS4 : ∀ w ∈ ([.methodLink "java/lang/String" 495 yLch, .static yLch, .initialized "java/lang/StringLatin1", .code yLch cLch 2 (some .char)] : List Cond), w ∈ tables_1 := by decide +kernel
theorem wS5 : ∀ w ∈ ([.methodLink "java/lang/StringLatin1" 9 yChk, .static yChk, .initialized "java/lang/String", .code yChk cChk 2 none] : List Cond), w ∈ tables_1 := by decide +kernel
theorem wS6 : ∀ w ∈ ([.methodLink "java/lang/String" 1059 yPre, .static yPre, .initialized "jdk/internal/util/Preconditions", .code yPre cPre 3 (some .int)] : List Cond), w ∈ tables_1 := by decide +kernel
theorem b_ok : (List.range 128).all (fun x => decide ((((Int32.ofInt (x : Int)) &&& 255).toUInt32 % 65536).toInt32 = Int32.ofInt (x : Int) ∧ narrow .char (.int (Int32.ofInt (x : Int))) = .int (Int32.ofInt (x : Int)))) = true := by decide +kernel
theorem s_ok : (List.range 22).all (fun i => decide (((am_sb.map List.length).getD i 0) = (am_sb.getD i []).length ∧ Int32.ofNat ((am_sb.map List.length).getD i 0) >>> ((0 : Int32) &&& 31) = Int32.ofInt (((am_sb.getD i []).length : Nat) : Int)) && (List.range ((am_sb.getD i []).length)).all fun j => decide (((am_sb.map fun l => l.map Int32.ofInt).getD i []).getD j 0 = Int32.ofInt ((am_sb.getD i []).getD j 0) ∧ 0 ≤ (am_sb.getD i []).getD j 0 ∧ (am_sb.getD i []).getD j 0 < 128)) = true := by decide +kernel
theorem s_at {i : Nat} (hi : i < 22) : ((am_sb.map List.length).getD i 0) = (am_sb.getD i []).length ∧ Int32.ofNat ((am_sb.map List.length).getD i 0) >>> ((0 : Int32) &&& 31) = Int32.ofInt (((am_sb.getD i []).length : Nat) : Int) :=
  of_decide_eq_true (b2 (List.all_eq_true.mp s_ok i (List.mem_range.mpr hi))).1
theorem s_el {i j : Nat} (hi : i < 22) (hj : j < (am_sb.getD i []).length) : ((am_sb.map fun l => l.map Int32.ofInt).getD i []).getD j 0 = Int32.ofInt ((am_sb.getD i []).getD j 0) ∧ 0 ≤ (am_sb.getD i []).getD j 0 ∧ (am_sb.getD i []).getD j 0 < 128 :=
  of_decide_eq_true (List.all_eq_true.mp (b2 (List.all_eq_true.mp s_ok i (List.mem_range.mpr hi))).2 j (List.mem_range.mpr hj))
theorem b_at {x : Int} (h0 : 0 ≤ x) (h1 : x < 128) : (((Int32.ofInt x) &&& 255).toUInt32 % 65536).toInt32 = Int32.ofInt x ∧ narrow .char (.int (Int32.ofInt x)) = .int (Int32.ofInt x) := by
  have h := of_decide_eq_true (List.all_eq_true.mp b_ok x.toNat (List.mem_range.mpr (by omega)))
  rw [Int.toNat_of_nonneg h0] at h
  exact h
theorem s_len : (List.range 22).all (fun i => decide ((am_sb.getD i []).length < 20)) = true := by decide +kernel
def SA (G : AG) (adV : Nat → Nat) (U : State) : Prop := vk_S 22 ((am_sb).map List.length) ((am_sb).map fun l => l.map Int32.ofInt) G.2.2.1 adV (fun q => G.1 ≤ q) U U.heap ∧ va_Z "java/lang/String" "COMPACT_STRINGS" "Z" (.int 1) (fun q => G.1 ≤ q) U U.heap ∧ va_Zq "jdk/internal/util/Preconditions" "SIOOBE_FORMATTER" "Ljava/util/function/BiFunction;" (fun q => G.1 ≤ q) U U.heap
theorem SA_move {G : AG} {adV : Nat → Nat} {u U : State} (hvm : u.vm.Alike U.vm) (hh : U.heap = u.heap) (h : SA G adV u) : SA G adV U := by
  obtain ⟨h1, h2, h3⟩ := h
  unfold SA
  rw [hh]
  exact ⟨h1.moved hvm, h2.moved hvm, h3.moved hvm⟩
theorem SA_blind {G : AG} {adV : Nat → Nat} {av : List Value} : FrameBlind (va_Pc av (fun U => SA G adV U)) := fun a U f mk h => ⟨h.1, SA_move (u := U) (U := U.calling f mk a) (Vm.Alike.refl U.vm) rfl h.2⟩
theorem TX_blind {G : AG} {sc : SCR} {av : List Value} : FrameBlind (va_Pc av (fun U => TXs G sc U)) := fun a U f mk h => ⟨h.1, TX_call h.2⟩
def QV : Array Value → State → Outcome → State → Prop := fun _ st oc t => oc = .returned none ∧ t.heap = st.heap
section SRUN
variable {p : Program} {l : Launch} {e : Env} {R : Room} {s : State} {m : MethodId} {args : Array Value} {below : List Frame} {meth : Method} {c : Code} {H : Heap} {locs : List Loc} {cells slots : Nat} {Q : State → Prop}
variable {pc : Nat} {ls : Array Slot} {rest S : List Value} {a2 : Array Value}
theorem W.ofQS {v : Value} (hr : va_Run p l e R s m args below meth c H locs cells slots 0 0 (F0 m pc ls S) rest (QS v a2) (fun _ => False)) (w : W p l e R s m args below meth c H locs cells slots Q (F0 m (pc + 3) ls (v :: rest))) : W p l e R s m args below meth c H locs cells slots Q (F0 m pc ls S) := by
  intro T hT X
  obtain ⟨v', st₀, t, T', L, q0, X', hL, e1, e2, ⟨hv, hh⟩, hst⟩ := hr T hT X
  cases hv
  have hhe : T'.heap = H := by rw [e1, hh, q0]
  obtain ⟨t2, q1, q2⟩ := w T' hhe (Stand.forget X' (fun q h => (hL q h).elim))
  exact ⟨t2, hst t2 q1, q2⟩
theorem W.ofQV (hr : va_Run p l e R s m args below meth c H locs cells slots 0 0 (F0 m pc ls S) rest (QV a2) (fun _ => False)) (w : W p l e R s m args below meth c H locs cells slots Q (F0 m (pc + 3) ls rest)) : W p l e R s m args below meth c H locs cells slots Q (F0 m pc ls S) := by
  intro T hT X
  obtain ⟨v', st₀, t, T', L, q0, X', hL, e1, e2, ⟨hv, hh⟩, hst⟩ := hr T hT X
  cases hv
  have hhe : T'.heap = H := by rw [e1, hh, q0]
  obtain ⟨t2, q1, q2⟩ := w T' hhe (Stand.forget X' (fun q h => (hL q h).elim))
  exact ⟨t2, hst t2 q1, q2⟩
end SRUN
section SMET
variable {l : Launch} {G : AG} {sc : SCR} {adV : Nat → Nat}
theorem m_pre {a b : Int32} {v : Value} (hv : v = .null ∨ ∃ t, v = .ref t) (h0 : ¬ a < 0) (h1 : a < b) : Met l yPre (.code yPre cPre 3 (some .int) :: LW) rmq0 (va_Pc [.int a, .int b, v] (fun _ => True)) (QS (.int a)) 0 0 (fun _ => False) := by
  refine Met.ofWF (cc := cPre) (maxL := 3) (ret := some .int) (by decide) rfl ?_
  intro p e s m args below meth c s₁ B hml hv2
  obtain ⟨rfl, -⟩ := hv2
  have cx := B.exec
  have cb := B.bytes
  have hr := B.returns
  have hlocks := B.notSynchronized
  rw [lg_entry_eq]
  have hl := lv_entry [.int a, .int b, v] (n := 3) (by rcases hv with rfl | ⟨t, rfl⟩ <;> exact Nat.le_refl 3)
  have g0 := lv_at hl 0 (i := 0) (v := .int a) rfl
  have g1 := lv_at hl 1 (i := 1) (v := .int b) rfl
  revert hl g0 g1
  generalize ((lg_sl [Value.int a, .int b, v] ++ List.replicate (3 - (lg_sl [Value.int a, .int b, v]).length) Slot.unset).toArray) = ls
  intro hl g0 g1
  refine lv_iload_n cx cb (k := 0) (by decide +kernel) rfl g0 ?_
  refine lv_if_lt cx cb (off := 8) (tgt := 9) (by decide +kernel) (by decide) (fun h => absurd h h0) (fun _ => ?_)
  refine lv_iload_n cx cb (k := 0) (by decide +kernel) rfl g0 ?_
  refine lv_iload_n cx cb (k := 1) (by decide +kernel) rfl g1 ?_
  refine lv_icmp_lt cx cb (off := 10) (tgt := 16) (by decide +kernel) (by decide) (fun _ => ?_) (fun h => absurd h1 h)
  refine lv_iload_n cx cb (k := 0) (by decide +kernel) rfl g0 ?_
  exact W.iret cx cb hr (fun t ht _ => ⟨rfl, ht⟩) (fun q h => absurd h List.not_mem_nil) (by decide +kernel) hlocks
theorem m_chk {a b : Int32} (h0 : ¬ a < 0) (h1 : a < b) : Met l yChk (.code yChk cChk 2 none :: LW) rmq1 (va_Pc [.int a, .int b] (fun U => SA G adV U)) QV 0 0 (fun _ => False) := by
  refine Met.ofWF (cc := cChk) (maxL := 2) (ret := none) (by decide) rfl ?_
  intro p e s m args below meth c s₁ B hml hv2
  obtain ⟨rfl, tS, tZ, tZq⟩ := hv2
  have hts := atoms_spec (ws := Cond.code yChk cChk 2 none :: LW) B.pre
  have cts : ∀ w ∈ LW, w.before ([.int a, .int b] : List Value).toArray s = true := fun w hw => hts w (List.mem_cons_of_mem _ hw)
  have hown : s.vm.findClass "java/lang/String" = some m.cls := findClass_of_methodNamed B.named
  have cx := B.exec
  have cb := B.bytes
  have hr := B.returns
  have hlocks := B.notSynchronized
  rw [lg_entry_eq]
  have hl := lv_entry [.int a, .int b] (n := 2) (Nat.le_refl 2)
  have g0 := lv_at hl 0 (i := 0) (v := .int a) rfl
  have g1 := lv_at hl 1 (i := 1) (v := .int b) rfl
  revert hl g0 g1
  generalize ((lg_sl [Value.int a, .int b] ++ List.replicate (2 - (lg_sl [Value.int a, .int b]).length) Slot.unset).toArray) = ls
  intro hl g0 g1
  refine lv_iload_n cx cb (k := 0) (by decide +kernel) rfl g0 ?_
  refine lv_iload_n cx cb (k := 1) (by decide +kernel) rfl g1 ?_
  have key : ∀ v : Value, (v = .null ∨ ∃ t, v = .ref t) → va_Z "jdk/internal/util/Preconditions" "SIOOBE_FORMATTER" "Ljava/util/function/BiFunction;" v (fun q => G.1 ≤ q) s s.heap → W p l e (headSpec (Cond.code yChk cChk 2 none :: LW) rmq1).room s m ([.int a, .int b] : List Value).toArray below meth c s.heap [] 0 0 (MQ below QV ([.int a, .int b] : List Value).toArray s 0 0 (fun _ => False)) (F0 m 2 ls [.int b, .int a]) := by
    intro v hv hZ
    refine va_gets cx cb hZ va_S.rf hown (index := 1053) (cts _ (LW_of wS1.2.2.2 rfl)) (fun x h => h) (by decide +kernel) ?_
    refine W.ofQS (va_runS (Ts := LW) (cc := cChk) (nL := 2) (own := "java/lang/String") (index := 1059) (rest := []) (As := [.int a, .int b, v]) (n := 3) ⟨cx, cb, hml, hown, cts⟩ (m_pre hv h0 h1) (va_cwS 3 cts (LW_in fun w hw => ?_) rfl rfl rfl ⟨by decide, by decide, by decide +kernel⟩ ⟨by decide, by decide⟩) ⟨fun a U f mk h => h, fun U _ _ => ⟨rfl, trivial⟩⟩ rfl rfl hl.1 rfl (lv_room (Nat.zero_le 8)) (by decide +kernel : decode cChk 5 = .ok (.invokestatic 1059, 3)) ⟨Nat.zero_le _, Nat.zero_le _⟩) ?_
    · rcases List.mem_append.mp hw with h | h
      · exact LW_of (wS6 w (by simp only [List.mem_cons, List.not_mem_nil, or_false] at h ⊢; rcases h with rfl | rfl | rfl <;> simp [yPre])) (by simp only [List.mem_cons, List.not_mem_nil, or_false] at h; rcases h with rfl | rfl | rfl <;> rfl)
      · rcases List.mem_cons.mp h with rfl | h
        · exact LW_of (wS6 _ (by simp)) rfl
        · exact h
    · refine lv_pop cx cb (by decide +kernel) rfl ?_
      exact W.vret cx cb hr (fun t ht _ => ⟨rfl, ht⟩) (fun q h => absurd h List.not_mem_nil) (by decide +kernel) hlocks
  rcases tZq with hZ | ⟨t, hZ⟩
  · exact key _ (Or.inl rfl) hZ
  · exact key _ (Or.inr ⟨t, rfl⟩) hZ
theorem m_lch {i j : Nat} (hi : i < 22) (hj : j < (am_sb.getD i []).length) : Met l yLch (.code yLch cLch 2 (some .char) :: LW) rmq2 (va_Pc [.ref (adV i), .int (Int32.ofInt (j : Int))] (fun U => SA G adV U)) (QS (.int (Int32.ofInt ((am_sb.getD i []).getD j 0)))) 0 0 (fun _ => False) := by
  refine Met.ofWF (cc := cLch) (maxL := 2) (ret := some .char) (by decide) rfl ?_
  intro p e s m args below meth c s₁ B hml hv2
  obtain ⟨rfl, hSA⟩ := hv2
  have tS := hSA.1
  have hts := atoms_spec (ws := Cond.code yLch cLch 2 (some .char) :: LW) B.pre
  have cts : ∀ w ∈ LW, w.before ([.ref (adV i), .int (Int32.ofInt (j : Int))] : List Value).toArray s = true := fun w hw => hts w (List.mem_cons_of_mem _ hw)
  have hown : s.vm.findClass "java/lang/StringLatin1" = some m.cls := findClass_of_methodNamed B.named
  have cx := B.exec
  have cb := B.bytes
  have hr := B.returns
  have hlocks := B.notSynchronized
  rw [lg_entry_eq]
  have hl := lv_entry [.ref (adV i), .int (Int32.ofInt (j : Int))] (n := 2) (Nat.le_refl 2)
  have g0 := lv_at hl 0 (i := 0) (v := .ref (adV i)) rfl
  have g1 := lv_at hl 1 (i := 1) (v := .int (Int32.ofInt (j : Int))) rfl
  revert hl g0 g1
  generalize ((lg_sl [Value.ref (adV i), .int (Int32.ofInt (j : Int))] ++ List.replicate (2 - (lg_sl [Value.ref (adV i), .int (Int32.ofInt (j : Int))]).length) Slot.unset).toArray) = ls
  intro hl g0 g1
  obtain ⟨z1, z2⟩ := s_at hi
  obtain ⟨z3, z4, z5⟩ := s_el hi hj
  obtain ⟨z6, z7⟩ := b_at z4 z5
  have z8 := of_decide_eq_true (List.all_eq_true.mp s_len i (List.mem_range.mpr hi))
  have rj : rI (j : Int) := ⟨by omega, by omega⟩
  have hT := (tS.1 i hi).2.2.2
  have hn0 : ¬ Int32.ofInt (j : Int) < 0 := i_nn rj (by omega)
  have hlt : Int32.ofInt (j : Int) < Int32.ofNat ((am_sb.map List.length).getD i 0) := by
    rw [z1, show Int32.ofNat (am_sb.getD i []).length = Int32.ofInt (((am_sb.getD i []).length : Nat) : Int) from rfl, i_lt rj ⟨by omega, by omega⟩]
    omega
  refine lv_iload_n cx cb (k := 1) (by decide +kernel) rfl g1 ?_
  refine lv_aload_n cx cb (k := 0) (by decide +kernel) rfl g0 ?_
  refine va_tlen cx cb hT va_S.rf rfl (by decide +kernel) ?_
  refine W.ofQV (va_runS (Ts := LW) (cc := cLch) (nL := 2) (own := "java/lang/StringLatin1") (index := 9) (rest := []) (As := [.int (Int32.ofInt (j : Int)), .int (Int32.ofNat ((am_sb.map List.length).getD i 0))]) (n := 2) ⟨cx, cb, hml, hown, cts⟩ (m_chk (G := G) (adV := adV) hn0 hlt) (va_cwS 2 cts (LW_in fun w hw => ?_) rfl rfl rfl ⟨by decide, by decide, by decide +kernel⟩ ⟨by decide, by decide⟩) ⟨SA_blind, fun U hU hW => ⟨rfl, SA_move hW.alike hU hSA⟩⟩ rfl rfl hl.1 rfl (lv_room (Nat.zero_le 8)) (by decide +kernel : decode cLch 3 = .ok (.invokestatic 9, 3)) ⟨Nat.zero_le _, Nat.zero_le _⟩) ?_
  · rcases List.mem_append.mp hw with h | h
    · exact LW_of (wS5 w (by simp only [List.mem_cons, List.not_mem_nil, or_false] at h ⊢; rcases h with rfl | rfl | rfl <;> simp [yChk])) (by simp only [List.mem_cons, List.not_mem_nil, or_false] at h; rcases h with rfl | rfl | rfl <;> rfl)
    · rcases List.mem_cons.mp h with rfl | h
      · exact LW_of (wS5 _ (by simp)) rfl
      · exact h
  · refine lv_aload_n cx cb (k := 0) (by decide +kernel) rfl g0 ?_
    refine lv_iload_n cx cb (k := 1) (by decide +kernel) rfl g1 ?_
    refine va_tb cx cb hT va_S.rf (v := .int (Int32.ofInt ((am_sb.getD i []).getD j 0))) (i_in rj (by omega) (by rw [z1]; omega)) ?_ (by decide +kernel) ?_
    · show Value.int _ = _
      rw [i_cl rj, Int.toNat_natCast, z3]
    · refine lv_sipush cx cb (n := 255) (v := 255) (by decide +kernel) rfl ?_
      refine lv_iand cx cb (by decide +kernel) ?_
      refine lv_i2c cx cb (by decide +kernel) z6 ?_
      exact W.zret cx cb hr z7 (fun t ht _ => ⟨rfl, ht⟩) (fun q h => absurd h List.not_mem_nil) (by decide +kernel) hlocks
theorem m_cod {i : Nat} (hi : i < 22) : Met l yCod (.code yCod cCod 1 (some .byte) :: LW) rmq0 (va_Pc [.ref (G.2.2.1 i)] (fun U => TXs G sc U)) (QS (.int 0)) 0 0 (fun _ => False) := by
  refine Met.ofWF (cc := cCod) (maxL := 1) (ret := some .byte) (by decide) rfl ?_
  intro p e s m args below meth c s₁ B hml hv2
  obtain ⟨rfl, hT⟩ := hv2
  obtain ⟨-, -, -, -, -, -, ⟨adV, tS, tZ, tZq⟩, -⟩ := hT
  have hts := atoms_spec (ws := Cond.code yCod cCod 1 (some .byte) :: LW) B.pre
  have cts : ∀ w ∈ LW, w.before ([.ref (G.2.2.1 i)] : List Value).toArray s = true := fun w hw => hts w (List.mem_cons_of_mem _ hw)
  have hown : s.vm.findClass "java/lang/String" = some m.cls := findClass_of_methodNamed B.named
  have cx := B.exec
  have cb := B.bytes
  have hr := B.returns
  have hlocks := B.notSynchronized
  rw [lg_entry_eq]
  have hl := lv_entry [.ref (G.2.2.1 i)] (n := 1) (Nat.le_refl 1)
  have g0 := lv_at hl 0 (i := 0) (v := .ref (G.2.2.1 i)) rfl
  refine va_gets cx cb tZ va_S.rf hown (index := 38) (cts _ (LW_of wS1.1 rfl)) (fun x h => h) (by decide +kernel) ?_
  refine lv_if_eq cx cb (off := 10) (tgt := 13) (by decide +kernel) (by decide) (fun h => absurd h (by decide)) (fun _ => ?_)
  refine lv_aload_n cx cb (k := 0) (by decide +kernel) rfl g0 ?_
  refine vk_getf cx cb (tS.1 i hi).2.1 va_S.rf hown (index := 15) (cts _ (LW_of wS1.2.1 rfl)) (fun x h => h) (by decide +kernel) ?_
  refine lv_goto cx cb (off := 4) (tgt := 14) (by decide +kernel) (by decide) ?_
  exact W.zret cx cb hr (by decide) (fun t ht _ => ⟨rfl, ht⟩) (fun q h => absurd h List.not_mem_nil) (by decide +kernel) hlocks
theorem m_lat {i : Nat} (hi : i < 22) : Met l yLat (.code yLat cLat 1 (some .boolean) :: LW) rmq0 (va_Pc [.ref (G.2.2.1 i)] (fun U => TXs G sc U)) (QS (.int 1)) 0 0 (fun _ => False) := by
  refine Met.ofWF (cc := cLat) (maxL := 1) (ret := some .boolean) (by decide) rfl ?_
  intro p e s m args below meth c s₁ B hml hv2
  obtain ⟨rfl, hT⟩ := hv2
  obtain ⟨-, -, -, -, -, -, ⟨adV, tS, tZ, tZq⟩, -⟩ := hT
  have hts := atoms_spec (ws := Cond.code yLat cLat 1 (some .boolean) :: LW) B.pre
  have cts : ∀ w ∈ LW, w.before ([.ref (G.2.2.1 i)] : List Value).toArray s = true := fun w hw => hts w (List.mem_cons_of_mem _ hw)
  have hown : s.vm.findClass "java/lang/String" = some m.cls := findClass_of_methodNamed B.named
  have cx := B.exec
  have cb := B.bytes
  have hr := B.returns
  have hlocks := B.notSynchronized
  rw [lg_entry_eq]
  have hl := lv_entry [.ref (G.2.2.1 i)] (n := 1) (Nat.le_refl 1)
  have g0 := lv_at hl 0 (i := 0) (v := .ref (G.2.2.1 i)) rfl
  refine va_gets cx cb tZ va_S.rf hown (index := 38) (cts _ (LW_of wS1.1 rfl)) (fun x h => h) (by decide +kernel) ?_
  refine lv_if_eq cx cb (off := 14) (tgt := 17) (by decide +kernel) (by decide) (fun h => absurd h (by decide)) (fun _ => ?_)
  refine lv_aload_n cx cb (k := 0) (by decide +kernel) rfl g0 ?_
  refine vk_getf cx cb (tS.1 i hi).2.1 va_S.rf hown (index := 15) (cts _ (LW_of wS1.2.1 rfl)) (fun x h => h) (by decide +kernel) ?_
  refine lv_if_ne cx cb (off := 7) (tgt := 17) (by decide +kernel) (by decide) (fun h => absurd h (by decide)) (fun _ => ?_)
  refine lv_iconst cx cb (n := 1) (v := 1) (by decide +kernel) rfl ?_
  refine lv_goto cx cb (off := 4) (tgt := 18) (by decide +kernel) (by decide) ?_
  exact W.zret cx cb hr (by decide) (fun t ht _ => ⟨rfl, ht⟩) (fun q h => absurd h List.not_mem_nil) (by decide +kernel) hlocks
theorem m_len {i : Nat} (hi : i < 22) : Met l yLen (.code yLen cLen 1 (some .int) :: LW) rmS (va_Pc [.ref (G.2.2.1 i)] (fun U => TXs G sc U)) (QS (.int (Int32.ofInt (((am_sb.getD i []).length : Nat) : Int)))) 0 0 (fun _ => False) := by
  refine Met.ofWF (cc := cLen) (maxL := 1) (ret := some .int) (by decide) rfl ?_
  intro p e s m args below meth c s₁ B hml hv2
  obtain ⟨rfl, hT⟩ := hv2
  have hT0 := hT
  obtain ⟨-, -, -, -, -, -, ⟨adV, tS, tZ, tZq⟩, -⟩ := hT
  have hts := atoms_spec (ws := Cond.code yLen cLen 1 (some .int) :: LW) B.pre
  have cts : ∀ w ∈ LW, w.before ([.ref (G.2.2.1 i)] : List Value).toArray s = true := fun w hw => hts w (List.mem_cons_of_mem _ hw)
  have hown : s.vm.findClass "java/lang/String" = some m.cls := findClass_of_methodNamed B.named
  have cx := B.exec
  have cb := B.bytes
  have hr := B.returns
  have hlocks := B.notSynchronized
  rw [lg_entry_eq]
  have hl := lv_entry [.ref (G.2.2.1 i)] (n := 1) (Nat.le_refl 1)
  have g0 := lv_at hl 0 (i := 0) (v := .ref (G.2.2.1 i)) rfl
  obtain ⟨z1, z2⟩ := s_at hi
  have hA := (tS.1 i hi).2.2.2
  refine lv_aload_n cx cb (k := 0) (by decide +kernel) rfl g0 ?_
  refine vk_getf cx cb (tS.1 i hi).2.2.1 va_S.rf hown (index := 9) (cts _ (LW_of wS1.2.2.1 rfl)) (fun x h => h) (by decide +kernel) ?_
  refine va_tlen cx cb hA va_S.rf rfl (by decide +kernel) ?_
  refine lv_aload_n cx cb (k := 0) (by decide +kernel) rfl g0 ?_
  refine W.ofQS (va_runV (Ts := LW) (cc := cLen) (nL := 1) (own := "java/lang/String") (C := "java/lang/String") (index := 335) (rest := [.int (Int32.ofNat ((am_sb.map List.length).getD i 0))]) (As := []) (n := 0) ⟨cx, cb, hml, hown, cts⟩ (m_cod (G := G) (sc := sc) hi) (cwV 0 cts (LW_in fun w hw => ?_) rfl rfl rfl ⟨rfl, by decide, by decide, by decide +kernel⟩ ⟨by decide, by decide⟩) ⟨TX_blind, vk_recv tS hi va_S.rf, fun U hU hW => ⟨rfl, TX_warm hW hU va_S.rf hT0⟩⟩ rfl rfl hl.1 rfl (lv_room (by show (1 : Nat) ≤ 8; decide)) (by decide +kernel : decode cLen 6 = .ok (.invokevirtual 335, 3)) ⟨Nat.zero_le _, Nat.zero_le _⟩) ?_
  · rcases List.mem_append.mp hw with h | h
    · exact LW_of (wS2 w (by simp only [List.mem_cons, List.not_mem_nil, or_false] at h ⊢; rcases h with rfl | rfl | rfl | rfl <;> simp [yCod])) (by simp only [List.mem_cons, List.not_mem_nil, or_false] at h; rcases h with rfl | rfl | rfl | rfl <;> rfl)
    · rcases List.mem_cons.mp h with rfl | h
      · exact LW_of (wS2 _ (by simp)) rfl
      · exact h
  · refine lv_ishr cx cb (by decide +kernel) ?_
    rw [z2]
    exact W.iret cx cb hr (fun t ht _ => ⟨rfl, ht⟩) (fun q h => absurd h List.not_mem_nil) (by decide +kernel) hlocks
theorem m_chr {i j : Nat} (hi : i < 22) (hj : j < (am_sb.getD i []).length) : Met l yChr (.code yChr cChr 2 (some .char) :: LW) rmS (va_Pc [.ref (G.2.2.1 i), .int (Int32.ofInt (j : Int))] (fun U => TXs G sc U)) (QS (.int (Int32.ofInt ((am_sb.getD i []).getD j 0)))) 0 0 (fun _ => False) := by
  refine Met.ofWF (cc := cChr) (maxL := 2) (ret := some .char) (by decide) rfl ?_
  intro p e s m args below meth c s₁ B hml hv2
  obtain ⟨rfl, hT⟩ := hv2
  have hT0 := hT
  obtain ⟨-, -, -, -, -, -, ⟨adV, tS, tZ, tZq⟩, -⟩ := hT
  have hts := atoms_spec (ws := Cond.code yChr cChr 2 (some .char) :: LW) B.pre
  have cts : ∀ w ∈ LW, w.before ([.ref (G.2.2.1 i), .int (Int32.ofInt (j : Int))] : List Value).toArray s = true := fun w hw => hts w (List.mem_cons_of_mem _ hw)
  have hown : s.vm.findClass "java/lang/String" = some m.cls := findClass_of_methodNamed B.named
  have cx := B.exec
  have cb := B.bytes
  have hr := B.returns
  have hlocks := B.notSynchronized
  rw [lg_entry_eq]
  have hl := lv_entry [.ref (G.2.2.1 i), .int (Int32.ofInt (j : Int))] (n := 2) (Nat.le_refl 2)
  have g0 := lv_at hl 0 (i := 0) (v := .ref (G.2.2.1 i)) rfl
  have g1 := lv_at hl 1 (i := 1) (v := .int (Int32.ofInt (j : Int))) rfl
  revert hl g0 g1
  generalize ((lg_sl [Value.ref (G.2.2.1 i), .int (Int32.ofInt (j : Int))] ++ List.replicate (2 - (lg_sl [Value.ref (G.2.2.1 i), .int (Int32.ofInt (j : Int))]).length) Slot.unset).toArray) = ls
  intro hl g0 g1
  obtain ⟨z3, z4, z5⟩ := s_el hi hj
  obtain ⟨z6, z7⟩ := b_at z4 z5
  refine lv_aload_n cx cb (k := 0) (by decide +kernel) rfl g0 ?_
  refine W.ofQS (va_runV (Ts := LW) (cc := cChr) (nL := 2) (own := "java/lang/String") (C := "java/lang/String") (index := 492) (rest := []) (As := []) (n := 0) ⟨cx, cb, hml, hown, cts⟩ (m_lat (G := G) (sc := sc) hi) (cwV 0 cts (LW_in fun w hw => ?_) rfl rfl rfl ⟨rfl, by decide, by decide, by decide +kernel⟩ ⟨by decide, by decide⟩) ⟨TX_blind, vk_recv tS hi va_S.rf, fun U hU hW => ⟨rfl, TX_warm hW hU va_S.rf hT0⟩⟩ rfl rfl hl.1 rfl (lv_room (Nat.zero_le 8)) (by decide +kernel : decode cChr 1 = .ok (.invokevirtual 492, 3)) ⟨Nat.zero_le _, Nat.zero_le _⟩) ?_
  · rcases List.mem_append.mp hw with h | h
    · exact LW_of (wS3 w (by simp only [List.mem_cons, List.not_mem_nil, or_false] at h ⊢; rcases h with rfl | rfl | rfl | rfl <;> simp [yLat])) (by simp only [List.mem_cons, List.not_mem_nil, or_false] at h; rcases h with rfl | rfl | rfl | rfl <;> rfl)
    · rcases List.mem_cons.mp h with rfl | h
      · exact LW_of (wS3 _ (by simp)) rfl
      · exact h
  · refine lv_if_eq cx cb (off := 12) (tgt := 16) (by decide +kernel) (by decide) (fun h => absurd h (by decide)) (fun _ => ?_)
    refine lv_aload_n cx cb (k := 0) (by decide +kernel) rfl g0 ?_
    refine vk_getf cx cb (tS.1 i hi).2.2.1 va_S.rf hown (index := 9) (cts _ (LW_of wS1.2.2.1 rfl)) (fun x h => h) (by decide +kernel) ?_
    refine lv_iload_n cx cb (k := 1) (by decide +kernel) rfl g1 ?_
    refine W.ofQS (va_runS (Ts := LW) (cc := cChr) (nL := 2) (own := "java/lang/String") (index := 495) (rest := []) (As := [.ref (adV i), .int (Int32.ofInt (j : Int))]) (n := 2) ⟨cx, cb, hml, hown, cts⟩ (m_lch (G := G) (adV := adV) hi hj) (va_cwS 2 cts (LW_in fun w hw => ?_) rfl rfl rfl ⟨by decide, by decide, by decide +kernel⟩ ⟨by decide, by decide⟩) ⟨SA_blind, fun U hU hW => ⟨rfl, SA_move hW.alike hU ⟨tS, tZ, tZq⟩⟩⟩ rfl rfl hl.1 rfl (lv_room (Nat.zero_le 8)) (by decide +kernel : decode cChr 12 = .ok (.invokestatic 495, 3)) ⟨Nat.zero_le _, Nat.zero_le _⟩) ?_
    · rcases List.mem_append.mp hw with h | h
      · exact LW_of (wS4 w (by simp only [List.mem_cons, List.not_mem_nil, or_false] at h ⊢; rcases h with rfl | rfl | rfl <;> simp [yLch])) (by simp only [List.mem_cons, List.not_mem_nil, or_false] at h; rcases h with rfl | rfl | rfl <;> rfl)
      · rcases List.mem_cons.mp h with rfl | h
        · exact LW_of (wS4 _ (by simp)) rfl
        · exact h
    · exact W.zret cx cb hr z7 (fun t ht _ => ⟨rfl, ht⟩) (fun q h => absurd h List.not_mem_nil) (by decide +kernel) hlocks
theorem strM : StrM l G sc := ⟨fun i hi => m_len hi, fun i j hi hj => m_chr hi hj⟩
end SMET
