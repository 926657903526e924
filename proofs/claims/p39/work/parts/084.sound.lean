/-! objects and arrays made -/
theorem born_v {G : AG} {c j : Nat} (h9 : c ≤ 9) (hj : j < am_nf c) : defaultValue (am_fd c j) = fvl G (am_ft c j) 0 (-1) := by
  obtain ⟨-, t0, t1, t3, t2, f4⟩ := T_at h9 hj
  rcases f4 with h | h | h | h <;> rw [h]
  · rw [t0 h]; rfl
  · rw [t1 h]; rfl
  · have q := t2 h
    cases hf : am_fd c j <;> rw [hf] at q <;> first | (cases q; done) | rfl
  · rw [t3 h]; rfl
theorem N_at2 {k idx : Nat} {e : Nat × Nat} (h : am_at k idx am_NL = some e) : e.1 ≤ 9 ∧ Cond.classLink (am_cn (am_own k)) idx (am_nm e.1) ∈ LW ∧ Cond.instantiable (am_nm e.1) (am_nf e.1) ∈ LW ∧ Cond.initialized (am_nm e.1) ∈ LW := by
  obtain ⟨hi, h⟩ := am_at_inv h
  have hm := am_lk_mem h
  have h1 := of_decide_eq_true (List.all_eq_true.mp N_ok _ hm)
  have h2 := LW_of (N_in _ (List.mem_map_of_mem hm)) rfl
  have e1 : am_key k idx / 100000 = am_own k := by unfold am_key; omega
  have e2 : am_key k idx % 100000 = idx := by unfold am_key; omega
  unfold w_N at h2
  dsimp only at h1 h2
  rw [e1, e2] at h2
  exact ⟨h1.1, h2, LW_of (am_sub_mem _ _ IS_words _ (List.mem_map_of_mem (f := fun c => Cond.instantiable (am_nm c) (am_nf c)) h1.2)) rfl, LW_of (of_decide_eq_true (List.all_eq_true.mp IS_ini _ h1.2)) rfl⟩
section SN5
variable {p : Program} {l : Launch} {e : Env} {R : Room} {s : State} {m : MethodId} {args : Array Value} {below : List Frame} {meth : Method} {c : Code} {G : AG} {sc : SCR} {d k : Nat} {n0 : Int} {QE : State → Prop}
variable {pc pc2 : Nat} {ls st st2 : List AV} {g r : GH} {n : Int}
/-- the heap's size is known wherever the walk stands -/
theorem sz_of {T : State} {H : Heap} {locs : List Loc} {sl : Nat} (hs : s.heap.size = G.1 + n0.toNat) (h0 : 0 ≤ n0) (h1 : n0 ≤ n) (hT : T.heap = H) (X : Stand p l e R s m args below meth c T locs (n - n0).toNat sl) (hP : va_P G.2.2.2.1 am_cl (wd G g r n) H) (hS : va_S (fun q => G.1 ≤ q) s.heap H locs) : H.size = G.1 + n.toNat := by
  have a := X.heapSize
  rw [hT, hs] at a
  by_cases hn : n = n0
  · have b := hS.1
    rw [hs] at b
    rw [hn] at a ⊢
    rw [Int.sub_self] at a
    have a : H.size ≤ G.1 + n0.toNat + 0 := a
    omega
  · have b := (hP (n - 1).toNat _ (wd_get (x := n - 1) (by omega) (by omega))).lt
    have b : G.1 + (n - 1).toNat < H.size := b
    omega
theorem made_P {H H1 : Heap} {el : va_E} (hn : 0 ≤ n) (hP : va_P G.2.2.2.1 am_cl (wd G g r n) H) (hz : H.size = G.1 + n.toNat) (o1 : ∀ q, q < G.1 + n.toNat → H1[q]? = H[q]?) (hc : cellE G g r n = el) (ha : va_at G.2.2.2.1 am_cl (G.1 + n.toNat, el) H1) : va_P G.2.2.2.1 am_cl (wd G g r (n + 1)) H1 := by
  rw [wd_push hn, hc]
  refine (hP.kept (fun k q hk => o1 q.1 ?_)).app (fun k q hq => ?_)
  · rw [← hz]; exact (hP k q hk).lt
  · have hz1 : k < 1 := (List.getElem?_eq_some_iff.mp hq).1
    rw [show k = 0 by omega] at hq
    cases hq
    exact ha
theorem made_S {H H1 : Heap} {locs : List Loc} {N : Nat} (hS : va_S (fun q => G.1 ≤ q) s.heap H locs) (hz : H.size = N) (z1 : H1.size = N + 1) (o1 : ∀ q, q < N → H1[q]? = H[q]?) : va_S (fun q => G.1 ≤ q) s.heap H1 locs :=
  ⟨Nat.le_trans hS.1 (by omega), fun x h1 h2 => (o1 x (by have := hS.1; omega)).trans (hS.2.1 x h1 h2), hS.2.2⟩
theorem made_n (hn0 : 0 ≤ n0) (h1 : n0 ≤ n) (h2 : n < n0 + am_mk k) (h218 : n0 + am_mk k ≤ 218) (hR : am_mk k ≤ R.cells ∧ am_cs (n0 + am_mk k) - am_cs n0 ≤ R.slots) : (n + 1 - n0).toNat = (n - n0).toNat + 1 ∧ am_cs (n + 1) - am_cs n0 = (am_cs n - am_cs n0) + (am_ln n).toNat ∧ (n - n0).toNat + 1 ≤ R.cells ∧ (am_cs n - am_cs n0) + (am_ln n).toNat ≤ R.slots := by
  have e := cs_step (n := n) (by omega) (by omega)
  have m1 := cs_mono hn0 h1 (by omega)
  have m2 := cs_mono (a := n + 1) (b := n0 + am_mk k) (by omega) (by omega) h218
  omega
theorem g_new (C : CX p R s m args meth c G sc d k n0) {idx : Nat} {f : Nat × Nat} (hd : decode (am_code k) pc = .ok (.new idx, 3)) (he : am_at k idx am_NL = some f) (h2 : am_sh n = f.1) (h3 : am_ln n = ((am_nf f.1 : Nat) : Int)) (h4 : n < n0 + am_mk k) (hf : fresh g r n)
    (h : Gd p l e R s m args below meth c G k n0 QE (pc + 3) ls ((2, n) :: st) g r (n + 1)) : Gd p l e R s m args below meth c G k n0 QE pc ls st g r n := by
  intro a1 a2 a3 a4 a5 a6 H locs lsM b1 b2 b3 b4
  obtain ⟨cx, cb, cml, cown, cts, cK, cI, ⟨-, -, cR⟩, ⟨cn0, cn1⟩, -, chs⟩ := C
  obtain ⟨f9, fc, fi, fn⟩ := N_at2 he
  obtain ⟨m1, m2, m3, m4⟩ := made_n cn0 a1 h4 cn1 cR
  rw [h3, Int.toNat_natCast] at m2 m4
  have hn : 0 ≤ n := by omega
  have hKn := cK.1 f.1 _ (cl_at _ f9)
  intro T hT X
  have hz := sz_of chs cn0 a1 hT X b2 b3
  refine (W.newcK (C := am_nm f.1) cx cb cown (cts _ fc) (cts _ fi) (cts _ fn) rfl hd m3 m4 hKn.2.1 hz (fun H1 kC hkC e1 z1 o1 => ?_) : W p l e R s m args below meth c H locs (n - n0).toNat (am_cs n - am_cs n0) QE (F0 m pc lsM (st.map (tv G)))) T hT X
  have w := h (by omega) (by omega) (fa_cons (ok2 (Or.inr (Or.inr hn))) a3) a4 a5 a6 H1 locs lsM trivial
    (made_P hn b2 hz o1 (cell_obj h2 f9) ⟨_, cl_at _ f9, (u_born (am_fd f.1) cts (u_in f9) hKn hkC e1 (fun q hq => (T_at f9 hq).1)).to (fun j hj => by
      show defaultValue (am_fd f.1 j) = _
      unfold vp_V
      rw [List.getD_eq_getElem?_getD, List.getElem?_map, List.getElem?_range hj, Option.map_some, Option.getD_some, (hf j).1, (hf j).2]
      exact born_v f9 hj)⟩)
    (made_S b3 hz z1 o1) b4
  rw [m1, m2, List.map_cons, tv_o hn (by omega)] at w
  exact w
theorem ra_nm {U : State} {cA cB : ClassId} {ty : FieldType} (h : va_RA U cA ty) (h2 : U.vm.findClass ("[" ++ ty.toString) = some cB) : cB = cA := by
  cases ty with
  | object C =>
    obtain ⟨kA, comp, -, -, -, h4⟩ := h
    exact Option.some.inj (h2.symm.trans h4)
  | _ => exact Option.some.inj (h2.symm.trans h)
theorem g_newarr (C : CX p R s m args meth c G sc d k n0) {at_ : ArrayType} {ty : FieldType} {kd t0 : Nat} {x : Int} {ct : (Nat → Int32) ⊕ (Nat → Int64) ⊕ (Nat → UInt32) ⊕ (Nat → UInt64) ⊕ (Nat → Option Nat)} (hd : decode (am_code k) pc = .ok (.newarray at_, 2)) (hty : newarray.typeOf at_ = ty) (hb8 : componentBytes ty ≤ 8) (hw : Cond.arrayClass ty ∈ tables_1) (ht0 : (tyA G)[t0]? = some (G.2.2.2.2 kd, ty))
    (hcell : (hf : fresh g r n) → am_sh n = kd → cellE G g r n = .inl (G.2.2.2.2 kd, (am_ln n).toNat, ct)) (hdef : ∀ cA N, vp_cell cA (N, ct) = arrV cA N (fun _ => defaultValue ty))
    (h0 : 0 ≤ x) (h2 : am_sh n = kd) (h3 : am_ln n = x) (h4 : n < n0 + am_mk k) (hf : fresh g r n)
    (h : Gd p l e R s m args below meth c G k n0 QE (pc + 2) ls ((2, n) :: st) g r (n + 1)) : Gd p l e R s m args below meth c G k n0 QE pc ls ((0, x) :: st) g r n := by
  intro a1 a2 a3 a4 a5 a6 H locs lsM b1 b2 b3 b4
  obtain ⟨cx, cb, cml, cown, cts, cK, cI, ⟨-, -, cR⟩, ⟨cn0, cn1⟩, -, chs⟩ := C
  obtain ⟨m1, m2, m3, m4⟩ := made_n cn0 a1 h4 cn1 cR
  have hn : 0 ≤ n := by omega
  have hx := ok_r0 (fa_hd a3)
  have hl := ln_rng n
  intro T hT X
  have hz := sz_of chs cn0 a1 hT X b2 b3
  rw [List.map_cons, tv_0]
  refine (va_newaK (N := (am_ln n).toNat) cx cb (atype := at_) (by rw [hty]; exact cts _ (LW_of hw rfl)) rfl hd rfl (i_nn hx h0) (by rw [i_cl hx, h3]) (by rw [hty]; calc (am_ln n).toNat * componentBytes ty ≤ 4000 * 8 := Nat.mul_le_mul (by omega) hb8
      _ ≤ 536870912 := by decide) m3 m4 hz (fun H1 cB e1 z1 o1 _ hnm => ?_) : W p l e R s m args below meth c H locs (n - n0).toNat (am_cs n - am_cs n0) QE (F0 m pc lsM (.int (Int32.ofInt x) :: st.map (tv G)))) T hT X
  rw [hty] at e1 hnm
  have hcB := ra_nm (cK.2 t0 _ ht0).2 hnm
  subst hcB
  have w := h (by omega) (by omega) (fa_cons (ok2 (Or.inr (Or.inr hn))) (fa_tl a3)) a4 a5 a6 H1 locs lsM trivial
    (made_P hn b2 hz o1 (hcell hf h2) (by show H1[G.1 + n.toNat]? = some (vp_cell (G.2.2.2.2 kd) ((am_ln n).toNat, ct)); rw [hdef]; exact e1)) (made_S b3 hz z1 o1) b4
  rw [m1, m2, List.map_cons, tv_o hn (by omega)] at w
  exact w
theorem g_newI (C : CX p R s m args meth c G sc d k n0) {at_ : ArrayType} {kd : Nat} (hd : decode (am_code k) pc = .ok (.newarray at_, 2)) (hk : at_ = .int ∧ kd = 11 ∨ at_ = .long ∧ kd = 12 ∨ at_ = .boolean ∧ kd = 13 ∨ at_ = .byte ∧ kd = 10)
    (h : stArr k n0 (Gd p l e R s m args below meth c G k n0 QE) pc ls st g r n kd) : Gd p l e R s m args below meth c G k n0 QE pc ls st g r n := by
  obtain ⟨x, s2, rfl, h0, h2, h3, h4, hf, hG⟩ := am_p_inv h
  rcases hk with ⟨rfl, rfl⟩ | ⟨rfl, rfl⟩ | ⟨rfl, rfl⟩ | ⟨rfl, rfl⟩
  · exact g_newarr C (ty := .int) (t0 := 1) (ct := .inl fun _ => 0) hd rfl (by decide) arr_in.1 rfl (fun hf hs => by rw [cell_int hs (by decide)]; congr 3; congr 1; funext q; rw [(hf q).1]; rfl) (fun _ _ => rfl) h0 h2 h3 h4 hf hG
  · exact g_newarr C (ty := .long) (t0 := 2) (ct := .inr (.inl fun _ => 0)) hd rfl (by decide) arr_in.2.1 rfl (fun hf hs => by rw [cell_long hs]; congr 4; apply congrArg; funext q; rw [(hf q).1]; rfl) (fun _ _ => rfl) h0 h2 h3 h4 hf hG
  · exact g_newarr C (ty := .boolean) (t0 := 3) (ct := .inl fun _ => 0) hd rfl (by decide) arr_in.2.2.1 rfl (fun hf hs => by rw [cell_int hs (by decide)]; congr 3; congr 1; funext q; rw [(hf q).1]; rfl) (fun _ _ => rfl) h0 h2 h3 h4 hf hG
  · exact g_newarr C (ty := .byte) (t0 := 0) (ct := .inl fun _ => 0) hd rfl (by decide) arr_in.2.2.2.1 rfl (fun hf hs => by rw [cell_int hs (by decide)]; congr 3; congr 1; funext q; rw [(hf q).1]; rfl) (fun _ _ => rfl) h0 h2 h3 h4 hf hG
theorem g_anew (C : CX p R s m args meth c G sc d k n0) {idx : Nat} {f : Nat × Nat} {kd t0 : Nat} {x : Int} (hd : decode (am_code k) pc = .ok (.anewarray idx, 3)) (he : am_at k idx am_NL = some f) (hao : va_AO (am_nm f.1) s) (ht0 : (tyA G)[t0]? = some (G.2.2.2.2 kd, .object (am_nm f.1))) (hkd : kd = 14 ∨ kd = 15)
    (h0 : 0 ≤ x) (h2 : am_sh n = kd) (h3 : am_ln n = x) (h4 : n < n0 + am_mk k) (hf : fresh g r n)
    (h : Gd p l e R s m args below meth c G k n0 QE (pc + 3) ls ((2, n) :: st) g r (n + 1)) : Gd p l e R s m args below meth c G k n0 QE pc ls ((0, x) :: st) g r n := by
  intro a1 a2 a3 a4 a5 a6 H locs lsM b1 b2 b3 b4
  obtain ⟨cx, cb, cml, cown, cts, cK, cI, ⟨-, -, cR⟩, ⟨cn0, cn1⟩, -, chs⟩ := C
  obtain ⟨-, fc, -, -⟩ := N_at2 he
  obtain ⟨m1, m2, m3, m4⟩ := made_n cn0 a1 h4 cn1 cR
  have hn : 0 ≤ n := by omega
  have hx := ok_r0 (fa_hd a3)
  have hl := ln_rng n
  intro T hT X
  have hz := sz_of chs cn0 a1 hT X b2 b3
  rw [List.map_cons, tv_0]
  have ecl := i_cl hx
  refine (W.anew (C := am_nm f.1) cx cb cown (cts _ fc) (va_AO.use hao) rfl hd rfl (i_nn hx h0) (by rw [ecl, ← h3]; omega) m3 (by rw [ecl, ← h3]; exact m4) (fun cB kA comp f1 f2 f3 f4 => ?_) : W p l e R s m args below meth c H locs (n - n0).toNat (am_cs n - am_cs n0) QE (F0 m pc lsM (.int (Int32.ofInt x) :: st.map (tv G)))) T hT X
  have hcB := ra_nm (cK.2 t0 _ ht0).2 f1
  subst hcB
  rw [ecl, ← h3]
  generalize hH1 : H.push ({ cls := G.2.2.2.2 kd, slots := Array.replicate (am_ln n).toNat .null, vm := .none } : Cell) = H1
  have z1 : H1.size = (G.1 + n.toNat) + 1 := by rw [← hH1, Array.size_push, hz]
  have e1 : H1[G.1 + n.toNat]? = some (arrV (G.2.2.2.2 kd) (am_ln n).toNat (fun _ => .null)) := by rw [← hH1, ← hz, Array.getElem?_push_size, ← arrV_new]
  have o1 : ∀ q : Nat, q < G.1 + n.toNat → H1[q]? = H[q]? := fun q hq => by rw [← hH1, Array.getElem?_push, if_neg (by omega)]
  have hcell : cellE G g r n = .inl (G.2.2.2.2 kd, (am_ln n).toNat, .inr (.inr (.inr (.inr fun _ => none)))) := by
    rw [cell_ref h2 hkd]
    congr 7
    funext q
    rw [(hf q).2]; rfl
  have w := h (by omega) (by omega) (fa_cons (ok2 (Or.inr (Or.inr hn))) (fa_tl a3)) a4 a5 a6 H1 locs lsM trivial
    (made_P hn b2 hz o1 hcell (by show H1[G.1 + n.toNat]? = some (vp_cell _ _); rw [vp_cell_q]; exact e1)) (made_S b3 hz z1 o1) b4
  rw [m1, m2, List.map_cons, tv_o hn (by omega)] at w
  rw [hz]
  exact w
end SN5
