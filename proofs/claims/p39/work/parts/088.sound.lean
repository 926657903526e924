/-! all steps together, and the contracts at every depth -/
/-- what the end of the method asks -/
def RetOK (p : Program) (l : Launch) (e : Env) (R : Room) (s : State) (m : MethodId) (args : Array Value) (below : List Frame) (meth : Method) (c : Code) (G : AG) (k : Nat) (n0 : Int) (Q : Int → GH → GH → Int → Prop) (QE : State → Prop) : Prop :=
  ∀ (pc : Nat) (i : Instr) (v : Int) (g r : GH), decode (am_code k) pc = .ok (i, 1) → (i = .ireturn ∧ (am_rc k = 1 ∨ (am_rc k = 2 ∧ (v = 0 ∨ v = 1))) ∨ i = .lreturn ∧ am_rc k = 3 ∨ i = .areturn ∧ am_rc k = 4 ∨ i = .return_ ∧ am_rc k = 0) → okRet (am_rc k) v → Q v g r (n0 + am_mk k) → okG g r → ∀ (H : Heap) (locs : List Loc) (lsM : Array Slot), va_P G.2.2.2.1 am_cl (wd G g r (n0 + am_mk k)) H → va_S (fun q => G.1 ≤ q) s.heap H locs →
  W p l e R s m args below meth c H locs (am_mk k) (am_cs (n0 + am_mk k) - am_cs n0) QE (F0 m pc lsM (rvO G (am_rc k) v).toList)
section SN9
variable {p : Program} {l : Launch} {e : Env} {R : Room} {s : State} {m : MethodId} {args : Array Value} {below : List Frame} {meth : Method} {c : Code} {G : AG} {sc : SCR} {d k : Nat} {n0 : Int} {QE : State → Prop} {CC : CTR} {Q : Int → GH → GH → Int → Prop}
variable {pc pc2 : Nat} {ls st st2 : List AV} {g r : GH} {n : Int}
theorem ret_n (hn : n = n0 + am_mk k) : (n - n0).toNat = am_mk k := by omega
theorem g_ret (hret : RetOK p l e R s m args below meth c G k n0 Q QE) {i : Instr} {v : Int} (hd : decode (am_code k) pc = .ok (i, 1)) (hi : i = .ireturn ∧ (am_rc k = 1 ∨ (am_rc k = 2 ∧ (v = 0 ∨ v = 1))) ∧ st = [(0, v)] ∨ i = .lreturn ∧ am_rc k = 3 ∧ st = [(1, v)] ∨ i = .areturn ∧ am_rc k = 4 ∧ st = [(2, v)] ∨ i = .return_ ∧ am_rc k = 0 ∧ st = [] ∧ v = 0)
    (hn : n = n0 + am_mk k) (hQ : Q v g r n) : Gd p l e R s m args below meth c G k n0 QE pc ls st g r n := by
  intro a1 a2 a3 a4 a5 a6 H locs lsM b1 b2 b3 b4
  rw [ret_n hn]
  subst hn
  rcases hi with ⟨rfl, h1, rfl⟩ | ⟨rfl, h1, rfl⟩ | ⟨rfl, h1, rfl⟩ | ⟨rfl, h1, rfl, rfl⟩
  · have hv := ok_r0 (fa_hd a3)
    have w := hret pc _ v g r hd (Or.inl ⟨rfl, h1⟩) ⟨fun _ => hv, fun q => by omega, fun q => by omega⟩ hQ a6 H locs lsM b2 b3
    have e1 : (rvO G (am_rc k) v).toList = [Value.int (Int32.ofInt v)] := by
      unfold rvO; rw [if_neg (by omega), if_neg (by omega), if_neg (by omega)]; rfl
    rw [e1] at w
    exact w
  · have hv := ok_r1 (fa_hd a3)
    have w := hret pc _ v g r hd (Or.inr (Or.inl ⟨rfl, h1⟩)) ⟨fun q => by omega, fun _ => hv, fun q => by omega⟩ hQ a6 H locs lsM b2 b3
    have e1 : (rvO G (am_rc k) v).toList = [Value.long (Int64.ofInt v)] := by
      unfold rvO; rw [if_neg (by omega), if_pos h1]; rfl
    rw [e1] at w
    exact w
  · have hv := ok_r2 (fa_hd a3)
    have w := hret pc _ v g r hd (Or.inr (Or.inr (Or.inl ⟨rfl, h1⟩))) ⟨fun q => by omega, fun q => by omega, fun _ => hv⟩ hQ a6 H locs lsM b2 b3
    have e1 : (rvO G (am_rc k) v).toList = [va_rf (rfo G v)] := by
      unfold rvO; rw [if_neg (by omega), if_neg (by omega), if_pos h1]; rfl
    rw [e1] at w
    exact w
  · have w := hret pc _ 0 g r hd (Or.inr (Or.inr (Or.inr ⟨rfl, h1⟩))) ⟨fun q => by omega, fun q => by omega, fun q => by omega⟩ hQ a6 H locs lsM b2 b3
    have e1 : (rvO G (am_rc k) 0).toList = [] := by
      unfold rvO; rw [if_pos h1]; rfl
    rw [e1] at w
    exact w
set_option maxRecDepth 100000 in
theorem str_codes : Cond.code yLen cLen 1 (some .int) ∈ LW ∧ Cond.code yChr cChr 2 (some .char) ∈ LW :=
  ⟨LW_of (List.mem_of_getElem? (i := am_pLen) rfl) rfl, LW_of (List.mem_of_getElem? (i := am_pChr) rfl) rfl⟩
theorem str_words : Cond.instanceMethod yLen ∈ tables_1 ∧ Cond.selects "java/lang/String" yLen yLen ∈ tables_1 ∧ Cond.instanceMethod yChr ∈ tables_1 ∧ Cond.selects "java/lang/String" yChr yChr ∈ tables_1 ∧ Cond.initialized "java/lang/String" ∈ tables_1 := by decide +kernel
theorem str_ws {own : String} {idx : Nat} {y : MethodName} {cw : Cond} (h1 : Cond.methodLink own idx y ∈ LW) (h2 : Cond.instanceMethod y ∈ tables_1) (h3 : Cond.selects "java/lang/String" y y ∈ tables_1) (h4 : cw ∈ LW) : ∀ w ∈ wsV own idx "java/lang/String" y (cw :: LW), w ∈ LW := by
  intro w hw
  rcases List.mem_append.mp hw with h | h
  · simp only [List.mem_cons, List.not_mem_nil, or_false] at h
    rcases h with rfl | rfl | rfl | rfl
    · exact h1
    · exact LW_of h2 rfl
    · exact LW_of h3 rfl
    · exact LW_of str_words.2.2.2.2 rfl
  · rcases List.mem_cons.mp h with rfl | h
    · exact h4
    · exact h
theorem g_stCall (C : CX p R s m args meth c G sc d k n0) (hSD : SD l G sc d CC) (hStr : StrM l G sc) {idx : Nat} {f : Nat × Nat × Nat × Nat} {i : Instr} (hd : decode (am_code k) pc = .ok (i, 3)) (he : am_at k idx am_CL = some f)
    (hi : i = .invokevirtual idx ∧ (f.2.2.1 = 0 ∨ f.2.2.1 = 6 ∨ f.2.2.1 = 7) ∨ i = .invokestatic idx ∧ (f.2.2.1 = 1 ∨ f.2.2.1 = 5 ∨ f.2.2.1 = 4) ∨ i = .invokespecial idx ∧ (f.2.2.1 = 2 ∨ f.2.2.1 = 3 ∨ f.2.2.1 = 8))
    (h : stCall d CC k n0 (Gd p l e R s m args below meth c G k n0 QE) pc ls st g r n f) : Gd p l e R s m args below meth c G k n0 QE pc ls st g r n := by
  obtain ⟨f1, f2, f3, f4⟩ := f
  dsimp only at hi
  unfold stCall at h
  dsimp only at h
  have hcases : f3 = 0 ∨ f3 = 1 ∨ f3 = 2 ∨ f3 = 3 ∨ f3 = 4 ∨ f3 = 5 ∨ f3 = 6 ∨ f3 = 7 ∨ f3 = 8 := by
    rcases hi with ⟨-, q⟩ | ⟨-, q⟩ | ⟨-, q⟩ <;> omega
  rcases hcases with rfl | rfl | rfl | rfl | rfl | rfl | rfl | rfl | rfl
  · obtain ⟨as, s1, q1, rfl, h1⟩ := am_popN_inv _ _ h
    obtain ⟨x, s2, rfl, k1, k2, k3, k4⟩ := am_p_inv h1
    have hins : i = .invokevirtual idx := by rcases hi with ⟨q, -⟩ | ⟨-, q⟩ | ⟨-, q⟩ <;> first | exact q | omega
    exact g_call C hSD (rcv := [(2, x)]) hd he k2 k3 q1 rfl (Or.inl ⟨hins, rfl, x, rfl, k1⟩) k4
  · obtain ⟨as, s1, q1, rfl, k2, k3, k4⟩ := am_popN_inv _ _ h
    have hins : i = .invokestatic idx := by rcases hi with ⟨-, q⟩ | ⟨q, -⟩ | ⟨-, q⟩ <;> first | exact q | omega
    exact g_call C hSD (rcv := []) hd he k2 k3 q1 rfl (Or.inr (Or.inl ⟨hins, Or.inl rfl, rfl⟩)) k4
  · obtain ⟨as, s1, q1, rfl, h1⟩ := am_popN_inv _ _ h
    obtain ⟨x, s2, rfl, k0, k1, k2, k3, k4⟩ := am_p_inv h1
    have hins : i = .invokespecial idx := by rcases hi with ⟨-, q⟩ | ⟨-, q⟩ | ⟨q, -⟩ <;> first | exact q | omega
    exact g_call C hSD (rcv := [(2, x)]) hd he k2 k3 q1 rfl (Or.inr (Or.inr ⟨hins, Or.inl rfl, x, rfl, k0, k1⟩)) k4
  · obtain ⟨as, s1, q1, rfl, h1⟩ := am_popN_inv _ _ h
    obtain ⟨x, s2, rfl, k0, k1, k2, k3, k4⟩ := am_p_inv h1
    have hins : i = .invokespecial idx := by rcases hi with ⟨-, q⟩ | ⟨-, q⟩ | ⟨q, -⟩ <;> first | exact q | omega
    exact g_call C hSD (rcv := [(2, x)]) hd he k2 k3 q1 rfl (Or.inr (Or.inr ⟨hins, Or.inr rfl, x, rfl, k0, k1⟩)) k4
  · obtain ⟨dp, len, s1, rfl, h1⟩ := am_p2_inv h
    obtain ⟨sp, dst, s2, rfl, h2⟩ := am_p2_inv h1
    obtain ⟨src, s3, rfl, k1, k2, k3, k4, k5, k6, k7, k8⟩ := am_p_inv h2
    have hins : i = .invokestatic idx := by rcases hi with ⟨-, q⟩ | ⟨q, -⟩ | ⟨-, q⟩ <;> first | exact q | omega
    subst hins
    exact g_copy C hd he rfl k1 k2 k3 k4 k5 k6 k7 k8
  · obtain ⟨as, s1, q1, rfl, k2, k3, k4⟩ := am_popN_inv _ _ h
    have hins : i = .invokestatic idx := by rcases hi with ⟨-, q⟩ | ⟨q, -⟩ | ⟨-, q⟩ <;> first | exact q | omega
    exact g_call C hSD (rcv := []) hd he k2 k3 q1 rfl (Or.inr (Or.inl ⟨hins, Or.inr rfl, rfl⟩)) k4
  · obtain ⟨x, s1, rfl, k1, k2, k3, k4⟩ := am_p_inv h
    have hins : i = .invokevirtual idx := by rcases hi with ⟨q, -⟩ | ⟨-, q⟩ | ⟨-, q⟩ <;> first | exact q | omega
    subst hins
    obtain ⟨-, e1, e2, hw⟩ := C_at he
    rw [w_C] at hw
    dsimp only at hw
    rw [e1, e2] at hw
    have hi22 : (x - 1000000).toNat < 22 := by have := k3.1; have := k3.2; omega
    have hl := List.all_eq_true.mp sb_ok _ (List.mem_range.mpr hi22)
    rw [Bool.and_eq_true] at hl
    have hl2 := of_decide_eq_true hl.2
    refine g_str C k2 (y := yLen) (bytes := cLen) (maxL := 1) (ret := some .int) (as2 := []) hd (LW_of hw rfl) rfl (by decide) (str_ws (LW_of hw rfl) str_words.1 str_words.2.1 str_codes.1) rfl k3 ?_ ⟨by unfold am_tx; omega, by unfold am_tx; omega⟩ k1 k4
    rw [show tv G (2, x) = .ref (G.2.2.1 (x - 1000000).toNat) by rw [← tv_str hi22]; congr 2; have := k3.1; omega]
    exact hStr.1 _ hi22
  · obtain ⟨x, j, s1, rfl, k1, k2, k3, k4, k5, k6⟩ := am_p2_inv h
    have hins : i = .invokevirtual idx := by rcases hi with ⟨q, -⟩ | ⟨-, q⟩ | ⟨-, q⟩ <;> first | exact q | omega
    subst hins
    obtain ⟨-, e1, e2, hw⟩ := C_at he
    rw [w_C] at hw
    dsimp only at hw
    rw [e1, e2] at hw
    have hi22 : (x - 1000000).toNat < 22 := by have := k3.1; have := k3.2; omega
    have hl := List.all_eq_true.mp sb_ok _ (List.mem_range.mpr hi22)
    rw [Bool.and_eq_true] at hl
    have hj : j.toNat < (am_tx x).length := by omega
    have hb := of_decide_eq_true (List.all_eq_true.mp hl.1 ((am_tx x).getD j.toNat 0) (by
      show (am_tx x).getD j.toNat 0 ∈ am_tx x
      rw [List.getD_eq_getElem?_getD, List.getElem?_eq_getElem hj]
      exact List.getElem_mem hj))
    refine g_str C k2 (y := yChr) (bytes := cChr) (maxL := 2) (ret := some .char) (as2 := [(0, j)]) hd (LW_of hw rfl) rfl (by decide) (str_ws (LW_of hw rfl) str_words.2.2.1 str_words.2.2.2.1 str_codes.2) rfl k3 ?_ ⟨by omega, by omega⟩ k1 k6
    rw [show tv G (2, x) = .ref (G.2.2.1 (x - 1000000).toNat) by rw [← tv_str hi22]; congr 2; have := k3.1; omega]
    have := hStr.2 _ j.toNat hi22 hj
    rw [ofNat_toNat k4] at this
    exact this
  · obtain ⟨x, s1, rfl, k1, k2, k3, k4⟩ := am_p_inv h
    have hins : i = .invokespecial idx := by rcases hi with ⟨-, q⟩ | ⟨-, q⟩ | ⟨q, -⟩ <;> first | exact q | omega
    subst hins
    exact g_objinit C hd he rfl k1 k2 k3 k4
end SN9
section SN10
variable {p : Program} {l : Launch} {e : Env} {R : Room} {s : State} {m : MethodId} {args : Array Value} {below : List Frame} {meth : Method} {c : Code} {G : AG} {sc : SCR} {d k : Nat} {n0 : Int} {QE : State → Prop} {CC : CTR} {Q : Int → GH → GH → Int → Prop}
variable {pc pc2 : Nat} {ls st st2 : List AV} {g r : GH} {n : Int}
theorem i8_of {v : Int} (h : -128 ≤ v ∧ v < 128) : (Int8.ofInt v).toInt32 = Int32.ofInt v := by
  apply Int32.toInt_inj.mp
  rw [Int8.toInt_toInt32, Int8.toInt_ofInt_of_le h.1 h.2, Int32.toInt_ofInt_of_le (by omega) (by omega)]
theorem i16_of {v : Int} (h : -32768 ≤ v ∧ v < 32768) : (Int16.ofInt v).toInt32 = Int32.ofInt v := by
  apply Int32.toInt_inj.mp
  rw [Int16.toInt_toInt32, Int16.toInt_ofInt_of_le h.1 h.2, Int32.toInt_ofInt_of_le (by omega) (by omega)]
set_option maxHeartbeats 4000000 in
theorem gd_I (C : CX p R s m args meth c G sc d k n0) (hSD : SD l G sc d CC) (hStr : StrM l G sc) (hret : RetOK p l e R s m args below meth c G k n0 Q QE) {i : Instr} {len : Nat} (hd : decode (am_code k) pc = .ok (i, len))
    (h : stI sc d CC k n0 Q (Gd p l e R s m args below meth c G k n0 QE) pc ls st g r n i len) : Gd p l e R s m args below meth c G k n0 QE pc ls st g r n := by
  cases i
  case iconst v =>
    obtain ⟨e0, q0⟩ := am_len_inv h
    subst e0; clear h; have h := q0; clear q0
    obtain ⟨hb, h⟩ := am_b_inv h
    have hb := of_decide_eq_true hb
    exact g_const C hd (Or.inl ⟨rfl, rfl⟩) ⟨by omega, by omega⟩ (fun q => by cases q) (fun q => by cases q) h
  case bipush v =>
    obtain ⟨e0, q0⟩ := am_len_inv h
    subst e0; clear h; have h := q0; clear q0
    obtain ⟨hb, h⟩ := am_b_inv h
    have hb := of_decide_eq_true hb
    exact g_const C hd (Or.inr (Or.inl ⟨rfl, rfl⟩)) ⟨by omega, by omega⟩ (fun _ => i8_of hb) (fun q => by cases q) h
  case sipush v =>
    obtain ⟨e0, q0⟩ := am_len_inv h
    subst e0; clear h; have h := q0; clear q0
    obtain ⟨hb, h⟩ := am_b_inv h
    have hb := of_decide_eq_true hb
    exact g_const C hd (Or.inr (Or.inr ⟨rfl, rfl⟩)) ⟨by omega, by omega⟩ (fun q => by cases q) (fun _ => i16_of hb) h
  case lconst v => obtain ⟨e0, q0⟩ := am_len_inv h; subst e0; clear h; have h := q0; clear q0; exact g_lconst C hd h
  case aconst_null => obtain ⟨e0, q0⟩ := am_len_inv h; subst e0; clear h; have h := q0; clear q0; exact g_null C hd h
  case iload_n j => obtain ⟨e0, q0⟩ := am_len_inv h; subst e0; clear h; have h := q0; clear q0; obtain ⟨x, h1, h⟩ := am_ld_inv h; exact g_iload C hd (Or.inl ⟨j, rfl, rfl, rfl⟩) h1 h
  case iload j => obtain ⟨e0, q0⟩ := am_len_inv h; subst e0; clear h; have h := q0; clear q0; obtain ⟨x, h1, h⟩ := am_ld_inv h; exact g_iload C hd (Or.inr ⟨rfl, rfl⟩) h1 h
  case lload_n j => obtain ⟨e0, q0⟩ := am_len_inv h; subst e0; clear h; have h := q0; clear q0; obtain ⟨x, h1, h⟩ := am_ld_inv h; exact g_lload C hd (Or.inl ⟨j, rfl, rfl, rfl⟩) h1 h
  case lload j => obtain ⟨e0, q0⟩ := am_len_inv h; subst e0; clear h; have h := q0; clear q0; obtain ⟨x, h1, h⟩ := am_ld_inv h; exact g_lload C hd (Or.inr ⟨rfl, rfl⟩) h1 h
  case aload_n j => obtain ⟨e0, q0⟩ := am_len_inv h; subst e0; clear h; have h := q0; clear q0; obtain ⟨x, h1, h⟩ := am_ld_inv h; exact g_aload C hd (Or.inl ⟨j, rfl, rfl, rfl⟩) h1 h
  case aload j => obtain ⟨e0, q0⟩ := am_len_inv h; subst e0; clear h; have h := q0; clear q0; obtain ⟨x, h1, h⟩ := am_ld_inv h; exact g_aload C hd (Or.inr ⟨rfl, rfl⟩) h1 h
  case istore_n j => obtain ⟨e0, q0⟩ := am_len_inv h; subst e0; clear h; have h := q0; clear q0; obtain ⟨hb, h⟩ := am_b_inv h; obtain ⟨x, s2, rfl, h2⟩ := am_p_inv h; exact g_istore C hd (Or.inl ⟨j, rfl, rfl, rfl⟩) (of_decide_eq_true hb) h2
  case istore j => obtain ⟨e0, q0⟩ := am_len_inv h; subst e0; clear h; have h := q0; clear q0; obtain ⟨hb, h⟩ := am_b_inv h; obtain ⟨x, s2, rfl, h2⟩ := am_p_inv h; exact g_istore C hd (Or.inr ⟨rfl, rfl⟩) (of_decide_eq_true hb) h2
  case astore_n j => obtain ⟨e0, q0⟩ := am_len_inv h; subst e0; clear h; have h := q0; clear q0; obtain ⟨hb, h⟩ := am_b_inv h; obtain ⟨x, s2, rfl, h2⟩ := am_p_inv h; exact g_astore C hd (Or.inl ⟨j, rfl, rfl, rfl⟩) (of_decide_eq_true hb) h2
  case astore j => obtain ⟨e0, q0⟩ := am_len_inv h; subst e0; clear h; have h := q0; clear q0; obtain ⟨hb, h⟩ := am_b_inv h; obtain ⟨x, s2, rfl, h2⟩ := am_p_inv h; exact g_astore C hd (Or.inr ⟨rfl, rfl⟩) (of_decide_eq_true hb) h2
  case lstore_n j => obtain ⟨e0, q0⟩ := am_len_inv h; subst e0; clear h; have h := q0; clear q0; obtain ⟨hb, h⟩ := am_b_inv h; obtain ⟨x, s2, rfl, h2⟩ := am_p_inv h; exact g_lstore C hd (Or.inl ⟨j, rfl, rfl, rfl⟩) (of_decide_eq_true hb) h2
  case lstore j => obtain ⟨e0, q0⟩ := am_len_inv h; subst e0; clear h; have h := q0; clear q0; obtain ⟨hb, h⟩ := am_b_inv h; obtain ⟨x, s2, rfl, h2⟩ := am_p_inv h; exact g_lstore C hd (Or.inr ⟨rfl, rfl⟩) (of_decide_eq_true hb) h2
  case iinc j q => obtain ⟨e0, q0⟩ := am_len_inv h; subst e0; clear h; have h := q0; clear q0; obtain ⟨hb, h⟩ := am_b_inv h; obtain ⟨x, h1, h⟩ := am_ld_inv h; exact g_iinc C hd (of_decide_eq_true hb) h1 h
  case dup =>
    obtain ⟨e0, q0⟩ := am_len_inv h
    subst e0; clear h; have h := q0; clear q0
    split at h
    · split at h
      · exact h.elim
      · exact g_dup C hd ‹_› h
    · exact h.elim
  case dup2 =>
    obtain ⟨e0, q0⟩ := am_len_inv h
    subst e0; clear h; have h := q0; clear q0
    split at h
    · split at h
      · exact h.elim
      · split at h
        · exact h.elim
        · exact g_dup2 C hd ‹_› ‹_› h
    · exact h.elim
  case pop =>
    obtain ⟨e0, q0⟩ := am_len_inv h
    subst e0; clear h; have h := q0; clear q0
    split at h
    · split at h
      · exact h.elim
      · exact g_pop C hd ‹_› h
    · exact h.elim
  case pop2 => obtain ⟨e0, q0⟩ := am_len_inv h; subst e0; clear h; have h := q0; clear q0; obtain ⟨x, s2, rfl, h2⟩ := am_p_inv h; exact g_pop2 C hd h2
  case iadd => obtain ⟨e0, q0⟩ := am_len_inv h; subst e0; clear h; have h := q0; clear q0; obtain ⟨x, y, s2, rfl, h2⟩ := am_p2_inv h; exact g_iadd C hd h2
  case isub => obtain ⟨e0, q0⟩ := am_len_inv h; subst e0; clear h; have h := q0; clear q0; obtain ⟨x, y, s2, rfl, h2⟩ := am_p2_inv h; exact g_isub C hd h2
  case imul => obtain ⟨e0, q0⟩ := am_len_inv h; subst e0; clear h; have h := q0; clear q0; obtain ⟨x, y, s2, rfl, h2⟩ := am_p2_inv h; exact g_imul C hd h2
  case ladd => obtain ⟨e0, q0⟩ := am_len_inv h; subst e0; clear h; have h := q0; clear q0; obtain ⟨x, y, s2, rfl, h2⟩ := am_p2_inv h; exact g_ladd C hd h2
  case lsub => obtain ⟨e0, q0⟩ := am_len_inv h; subst e0; clear h; have h := q0; clear q0; obtain ⟨x, y, s2, rfl, h2⟩ := am_p2_inv h; exact g_lsub C hd h2
  case lmul => obtain ⟨e0, q0⟩ := am_len_inv h; subst e0; clear h; have h := q0; clear q0; obtain ⟨x, y, s2, rfl, h2⟩ := am_p2_inv h; exact g_lmul C hd h2
  case iand => obtain ⟨e0, q0⟩ := am_len_inv h; subst e0; clear h; have h := q0; clear q0; obtain ⟨x, y, s2, rfl, h2⟩ := am_p2_inv h; exact g_iand C hd h2
  case ior => obtain ⟨e0, q0⟩ := am_len_inv h; subst e0; clear h; have h := q0; clear q0; obtain ⟨x, y, s2, rfl, h2⟩ := am_p2_inv h; exact g_ior C hd h2
  case ixor => obtain ⟨e0, q0⟩ := am_len_inv h; subst e0; clear h; have h := q0; clear q0; obtain ⟨x, y, s2, rfl, h2⟩ := am_p2_inv h; exact g_ixor C hd h2
  case ishl => obtain ⟨e0, q0⟩ := am_len_inv h; subst e0; clear h; have h := q0; clear q0; obtain ⟨x, y, s2, rfl, h2⟩ := am_p2_inv h; exact g_ishl C hd h2
  case ishr => obtain ⟨e0, q0⟩ := am_len_inv h; subst e0; clear h; have h := q0; clear q0; obtain ⟨x, y, s2, rfl, h2⟩ := am_p2_inv h; exact g_ishr C hd h2
  case land => obtain ⟨e0, q0⟩ := am_len_inv h; subst e0; clear h; have h := q0; clear q0; obtain ⟨x, y, s2, rfl, h2⟩ := am_p2_inv h; exact g_land C hd h2
  case lor => obtain ⟨e0, q0⟩ := am_len_inv h; subst e0; clear h; have h := q0; clear q0; obtain ⟨x, y, s2, rfl, h2⟩ := am_p2_inv h; exact g_lor C hd h2
  case lxor => obtain ⟨e0, q0⟩ := am_len_inv h; subst e0; clear h; have h := q0; clear q0; obtain ⟨x, y, s2, rfl, h2⟩ := am_p2_inv h; exact g_lxor C hd h2
  case lshl => obtain ⟨e0, q0⟩ := am_len_inv h; subst e0; clear h; have h := q0; clear q0; obtain ⟨x, y, s2, rfl, h2⟩ := am_p2_inv h; exact g_lshl C hd h2
  case lshr => obtain ⟨e0, q0⟩ := am_len_inv h; subst e0; clear h; have h := q0; clear q0; obtain ⟨x, y, s2, rfl, h2⟩ := am_p2_inv h; exact g_lshr C hd h2
  case lushr => obtain ⟨e0, q0⟩ := am_len_inv h; subst e0; clear h; have h := q0; clear q0; obtain ⟨x, y, s2, rfl, h2⟩ := am_p2_inv h; exact g_lushr C hd h2
  case lcmp => obtain ⟨e0, q0⟩ := am_len_inv h; subst e0; clear h; have h := q0; clear q0; obtain ⟨x, y, s2, rfl, h2⟩ := am_p2_inv h; exact g_lcmp C hd h2
  case idiv => obtain ⟨e0, q0⟩ := am_len_inv h; subst e0; clear h; have h := q0; clear q0; obtain ⟨x, y, s2, rfl, h1, h2⟩ := am_p2_inv h; exact g_idiv C hd h1 h2
  case irem => obtain ⟨e0, q0⟩ := am_len_inv h; subst e0; clear h; have h := q0; clear q0; obtain ⟨x, y, s2, rfl, h1, h2⟩ := am_p2_inv h; exact g_irem C hd h1 h2
  case ldiv => obtain ⟨e0, q0⟩ := am_len_inv h; subst e0; clear h; have h := q0; clear q0; obtain ⟨x, y, s2, rfl, h1, h2⟩ := am_p2_inv h; exact g_ldiv C hd h1 h2
  case lrem => obtain ⟨e0, q0⟩ := am_len_inv h; subst e0; clear h; have h := q0; clear q0; obtain ⟨x, y, s2, rfl, h1, h2⟩ := am_p2_inv h; exact g_lrem C hd h1 h2
  case ineg => obtain ⟨e0, q0⟩ := am_len_inv h; subst e0; clear h; have h := q0; clear q0; obtain ⟨x, s2, rfl, h2⟩ := am_p_inv h; exact g_ineg C hd h2
  case i2b => obtain ⟨e0, q0⟩ := am_len_inv h; subst e0; clear h; have h := q0; clear q0; obtain ⟨x, s2, rfl, h2⟩ := am_p_inv h; exact g_i2b C hd h2
  case i2l => obtain ⟨e0, q0⟩ := am_len_inv h; subst e0; clear h; have h := q0; clear q0; obtain ⟨x, s2, rfl, h2⟩ := am_p_inv h; exact g_i2l C hd h2
  case l2i => obtain ⟨e0, q0⟩ := am_len_inv h; subst e0; clear h; have h := q0; clear q0; obtain ⟨x, s2, rfl, h2⟩ := am_p_inv h; exact g_l2i C hd h2
  case goto o => obtain ⟨e0, q0⟩ := am_len_inv h; subst e0; clear h; have h := q0; clear q0; obtain ⟨t, ht, h2⟩ := am_j_inv h; exact g_goto C hd ht h2
  case ifCond q o =>
    obtain ⟨e0, q0⟩ := am_len_inv h
    subst e0; clear h; have h := q0; clear q0
    obtain ⟨x, s2, rfl, h1⟩ := am_p_inv h
    obtain ⟨t, ht, h2⟩ := am_j_inv h1
    cases q
    case eq => exact g_if_eq C hd ht h2
    case ne => exact g_if_ne C hd ht h2
    case lt => exact g_if_lt C hd ht h2
    case ge => exact g_if_ge C hd ht h2
    case gt => exact g_if_gt C hd ht h2
    case le => exact g_if_le C hd ht h2
  case if_icmp q o =>
    obtain ⟨e0, q0⟩ := am_len_inv h
    subst e0; clear h; have h := q0; clear q0
    obtain ⟨x, y, s2, rfl, h1⟩ := am_p2_inv h
    obtain ⟨t, ht, h2⟩ := am_j_inv h1
    cases q
    case eq => exact g_icmp_eq C hd ht h2
    case ne => exact g_icmp_ne C hd ht h2
    case lt => exact g_icmp_lt C hd ht h2
    case ge => exact g_icmp_ge C hd ht h2
    case gt => exact g_icmp_gt C hd ht h2
    case le => exact g_icmp_le C hd ht h2
  case ifnull o => obtain ⟨e0, q0⟩ := am_len_inv h; subst e0; clear h; have h := q0; clear q0; obtain ⟨x, s2, rfl, h1⟩ := am_p_inv h; obtain ⟨t, ht, h2⟩ := am_j_inv h1; exact g_ifnull C hd ht h2
  case ifnonnull o => obtain ⟨e0, q0⟩ := am_len_inv h; subst e0; clear h; have h := q0; clear q0; obtain ⟨x, s2, rfl, h1⟩ := am_p_inv h; obtain ⟨t, ht, h2⟩ := am_j_inv h1; exact g_ifnonnull C hd ht h2
  case tableswitch dflt lo hi offs =>
    have h : am_p 0 st fun x sx => hi + 1 = lo + (offs.size : Int) ∧ am_tsw (fun o => am_j pc o fun t => Gd p l e R s m args below meth c G k n0 QE t ls sx g r n) dflt x lo offs.toList := h
    obtain ⟨x, s2, rfl, h1, h2⟩ := am_p_inv h
    exact g_tsw C hd h1 h2
  case ldc idx =>
    obtain ⟨e0, q0⟩ := am_len_inv h
    subst e0; clear h; have h := q0; clear q0
    split at h
    · exact g_ldcS C hd ‹_› h
    · split at h
      · split at h
        · exact g_ldcI C hd (Or.inl ⟨rfl, rfl⟩) ‹_› ‹_› h
        · exact h.elim
      · exact h.elim
  case ldc_w idx =>
    obtain ⟨e0, q0⟩ := am_len_inv h
    subst e0; clear h; have h := q0; clear q0
    split at h
    · split at h
      · exact g_ldcI C hd (Or.inr ⟨rfl, rfl⟩) ‹_› ‹_› h
      · exact h.elim
    · exact h.elim
  case ldc2_w idx =>
    obtain ⟨e0, q0⟩ := am_len_inv h
    subst e0; clear h; have h := q0; clear q0
    split at h
    · split at h
      · exact g_ldcL C hd ‹_› ‹_› h
      · exact h.elim
    · exact h.elim
  case getfield idx =>
    obtain ⟨e0, q0⟩ := am_len_inv h
    subst e0; clear h; have h := q0; clear q0
    split at h
    · obtain ⟨x, s2, rfl, h1, h2⟩ := am_p_inv h; exact g_getfield C hd ‹_› h1 h2
    · exact h.elim
  case putfield idx =>
    obtain ⟨e0, q0⟩ := am_len_inv h
    subst e0; clear h; have h := q0; clear q0
    split at h
    · obtain ⟨x, y, s2, rfl, h1, h2, h3⟩ := am_p2_inv h; exact g_putfield C hd ‹_› h1 h2 h3
    · exact h.elim
  case iaload => obtain ⟨e0, q0⟩ := am_len_inv h; subst e0; clear h; have h := q0; clear q0; obtain ⟨x, y, s2, rfl, h2⟩ := am_p2_inv h; exact g_iaload C hd h2
  case laload => obtain ⟨e0, q0⟩ := am_len_inv h; subst e0; clear h; have h := q0; clear q0; obtain ⟨x, y, s2, rfl, h1, h2⟩ := am_p2_inv h; exact g_laload C hd h1 h2
  case baload => obtain ⟨e0, q0⟩ := am_len_inv h; subst e0; clear h; have h := q0; clear q0; obtain ⟨x, y, s2, rfl, h1, h2⟩ := am_p2_inv h; exact g_baload C hd h1 h2
  case aaload => obtain ⟨e0, q0⟩ := am_len_inv h; subst e0; clear h; have h := q0; clear q0; obtain ⟨x, y, s2, rfl, h1, h2⟩ := am_p2_inv h; exact g_aaload C hd h1 h2
  case iastore => obtain ⟨e0, q0⟩ := am_len_inv h; subst e0; clear h; have h := q0; clear q0; obtain ⟨v, s1, rfl, h0⟩ := am_p_inv h; obtain ⟨x, y, s2, rfl, h1, h2⟩ := am_p2_inv h0; exact g_iastore C hd h1 h2
  case lastore => obtain ⟨e0, q0⟩ := am_len_inv h; subst e0; clear h; have h := q0; clear q0; obtain ⟨v, s1, rfl, h0⟩ := am_p_inv h; obtain ⟨x, y, s2, rfl, h1, h2⟩ := am_p2_inv h0; exact g_lastore C hd h1 h2
  case bastore => obtain ⟨e0, q0⟩ := am_len_inv h; subst e0; clear h; have h := q0; clear q0; obtain ⟨v, s1, rfl, h0⟩ := am_p_inv h; obtain ⟨x, y, s2, rfl, h1, h2⟩ := am_p2_inv h0; exact g_bastore C hd h1 h2
  case aastore => obtain ⟨e0, q0⟩ := am_len_inv h; subst e0; clear h; have h := q0; clear q0; obtain ⟨v, s1, rfl, h0⟩ := am_p_inv h; obtain ⟨x, y, s2, rfl, h1, h2⟩ := am_p2_inv h0; exact g_aastore C hd h1 h2
  case arraylength => obtain ⟨e0, q0⟩ := am_len_inv h; subst e0; clear h; have h := q0; clear q0; obtain ⟨x, s2, rfl, h2⟩ := am_p_inv h; exact g_alen C hd h2
  case new idx =>
    obtain ⟨e0, q0⟩ := am_len_inv h
    subst e0; clear h; have h := q0; clear q0
    split at h
    · obtain ⟨-, h2, h3, h4, h5, h6⟩ := h; exact g_new C hd ‹_› h2 h3 h4 h5 h6
    · exact h.elim
  case newarray t =>
    obtain ⟨e0, q0⟩ := am_len_inv h
    subst e0; clear h; have h := q0; clear q0
    split at h
    · exact g_newI C hd (Or.inl ⟨rfl, rfl⟩) h
    · exact g_newI C hd (Or.inr (Or.inl ⟨rfl, rfl⟩)) h
    · exact g_newI C hd (Or.inr (Or.inr (Or.inl ⟨rfl, rfl⟩))) h
    · exact g_newI C hd (Or.inr (Or.inr (Or.inr ⟨rfl, rfl⟩))) h
    · exact h.elim
  case anewarray idx =>
    obtain ⟨e0, q0⟩ := am_len_inv h
    subst e0; clear h; have h := q0; clear q0
    split at h
    · rename_i f hf
      have tx := C.2.2.2.2.2.2.2.2.2.1.2.2.2.2.2.2.2
      split at h
      · rename_i h2
        obtain ⟨x, s2, rfl, a1, a2, a3, a4, a5, a6⟩ := am_p_inv h
        exact g_anew C (t0 := 4) (kd := 14) hd hf (by rw [h2]; exact tx.1) (by rw [h2]; rfl) (Or.inl rfl) a1 a2 a3 a4 a5 a6
      · split at h
        · rename_i h2
          obtain ⟨x, s2, rfl, a1, a2, a3, a4, a5, a6⟩ := am_p_inv h
          exact g_anew C (t0 := 5) (kd := 15) hd hf (by rw [h2]; exact tx.2.1) (by rw [h2]; rfl) (Or.inr rfl) a1 a2 a3 a4 a5 a6
        · exact h.elim
    · exact h.elim
  case invokevirtual idx =>
    obtain ⟨e0, q0⟩ := am_len_inv h
    subst e0; clear h; have h := q0; clear q0
    split at h
    · split at h
      · exact g_stCall C hSD hStr hd ‹_› (Or.inl ⟨rfl, ‹_›⟩) h
      · exact h.elim
    · exact h.elim
  case invokestatic idx =>
    obtain ⟨e0, q0⟩ := am_len_inv h
    subst e0; clear h; have h := q0; clear q0
    split at h
    · split at h
      · exact g_stCall C hSD hStr hd ‹_› (Or.inr (Or.inl ⟨rfl, ‹_›⟩)) h
      · exact h.elim
    · exact h.elim
  case invokespecial idx =>
    obtain ⟨e0, q0⟩ := am_len_inv h
    subst e0; clear h; have h := q0; clear q0
    split at h
    · split at h
      · exact g_stCall C hSD hStr hd ‹_› (Or.inr (Or.inr ⟨rfl, ‹_›⟩)) h
      · exact h.elim
    · exact h.elim
  case ireturn => obtain ⟨e0, q0⟩ := am_len_inv h; subst e0; clear h; have h := q0; clear q0; obtain ⟨v, s2, rfl, rfl, h1, h2, h3⟩ := am_p_inv h; exact g_ret hret hd (Or.inl ⟨rfl, h1, rfl⟩) h2 h3
  case lreturn => obtain ⟨e0, q0⟩ := am_len_inv h; subst e0; clear h; have h := q0; clear q0; obtain ⟨v, s2, rfl, rfl, h1, h2, h3⟩ := am_p_inv h; exact g_ret hret hd (Or.inr (Or.inl ⟨rfl, h1, rfl⟩)) h2 h3
  case areturn => obtain ⟨e0, q0⟩ := am_len_inv h; subst e0; clear h; have h := q0; clear q0; obtain ⟨v, s2, rfl, rfl, h1, h2, h3⟩ := am_p_inv h; exact g_ret hret hd (Or.inr (Or.inr (Or.inl ⟨rfl, h1, rfl⟩))) h2 h3
  case return_ => obtain ⟨rfl, rfl, h1, h2, h3⟩ := am_len_inv h; exact g_ret hret hd (Or.inr (Or.inr (Or.inr ⟨rfl, h1, rfl, rfl⟩))) h2 h3
  all_goals exact h.elim
theorem gd_closed (C : CX p R s m args meth c G sc d k n0) (hSD : SD l G sc d CC) (hStr : StrM l G sc) (hret : RetOK p l e R s m args below meth c G k n0 Q QE) :
    ∀ pc ls st g r n, stp sc d CC k n0 Q (Gd p l e R s m args below meth c G k n0 QE) pc ls st g r n → Gd p l e R s m args below meth c G k n0 QE pc ls st g r n := by
  intro pc ls st g r n h
  unfold stp at h
  cases hd : decode (am_code k) pc with
  | error e => rw [hd] at h; exact h.elim
  | ok e =>
    obtain ⟨i, len⟩ := e
    rw [hd] at h
    exact gd_I C hSD hStr hret hd h
end SN10
