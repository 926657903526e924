/-! calls -/
section SN7
variable {p : Program} {l : Launch} {e : Env} {R : Room} {s : State} {m : MethodId} {args : Array Value} {below : List Frame} {meth : Method} {c : Code} {G : AG} {sc : SCR} {d k : Nat} {n0 : Int} {QE : State → Prop} {CC : CTR}
variable {pc pc2 : Nat} {ls st st2 : List AV} {g r : GH} {n : Int}
theorem LW_in {ws : List Cond} (h : ∀ w ∈ ws, w ∈ LW) : GoodIn LW ws := fun w hw => ⟨h w hw, LW_good (h w hw)⟩
theorem wsK_in {k2 : Nat} (h : k2 ∈ am_CO) : ∀ w ∈ wsK k2, w ∈ LW := fun w hw => by
  rcases List.mem_cons.mp hw with rfl | hw
  · exact CO_in h
  · exact hw
theorem rc4 {k2 : Nat} (h : k2 ∈ am_CO) : am_rc k2 ≤ 4 :=
  of_decide_eq_true (List.all_eq_true.mp (show am_CO.all (fun k => decide (am_rc k ≤ 4)) = true by decide +kernel) k2 h)
/-- the callee's world at the call -/
theorem pre_S {H : Heap} {locs : List Loc} {as2 : List AV} (C : CX p R s m args meth c G sc d k n0) (hz : H.size = G.1 + n.toNat) (b2 : va_P G.2.2.2.1 am_cl (wd G g r n) H) (b3 : va_S (fun q => G.1 ≤ q) s.heap H locs) : PreS s H (va_Pc (as2.map (tv G)) (fun U => WA G sc U g r n)) (as2.map (tv G)) := by
  obtain ⟨-, -, -, -, -, cK, -, -, -, cT, -⟩ := C
  exact ⟨blind_A, fun U hU hW => ⟨rfl, by rw [hU]; exact hz, by rw [hU]; exact b2, va_K.moved hW.alike cK, TX_warm hW hU b3 cT⟩⟩
theorem room_k {k2 : Nat} (h : k2 ∈ am_CO) (C : CX p R s m args meth c G sc d k n0) : (rmd d k2 n).frames + 1 ≤ R.frames ∧ 8 + (am_maxL k2 + 11) + (rmd d k2 n).locals ≤ R.locals := by
  obtain ⟨-, -, -, -, -, -, -, ⟨c1, c2, -⟩, -⟩ := C
  have h1 := (M_at h).1
  exact ⟨c1, by show 8 + (am_maxL k2 + 11) + 64 * d ≤ R.locals; omega⟩
theorem cells_k {k2 : Nat} (C : CX p R s m args meth c G sc d k n0) (a1 : n0 ≤ n) (a2 : n ≤ n0 + am_mk k) (hc : cellsOK k n0 k2 n) : n + am_mk k2 ≤ n0 + am_mk k ∧ ((n - n0).toNat + am_mk k2 ≤ R.cells ∧ (am_cs n - am_cs n0) + (am_cs (n + am_mk k2) - am_cs n) ≤ R.slots) := by
  obtain ⟨-, -, -, -, -, -, -, ⟨-, -, c3, c4⟩, ⟨cn0, cn1⟩, -⟩ := C
  have h1 : n + am_mk k2 ≤ n0 + am_mk k := by
    by_cases hz : am_mk k2 = 0
    · rw [hz]; omega
    · exact hc hz
  have m1 := cs_mono cn0 a1 (by omega)
  have m2 := cs_mono (a := n) (b := n + am_mk k2) (by omega) (by omega) (by omega)
  have m3 := cs_mono (a := n + am_mk k2) (b := n0 + am_mk k) (by omega) (by omega) (by omega)
  exact ⟨h1, by omega, by omega⟩
theorem g_call (C : CX p R s m args meth c G sc d k n0) (hSD : SD l G sc d CC) {idx : Nat} {f : Nat × Nat × Nat × Nat} {as : List AV} {s2 : List AV} {i : Instr} (hd : decode (am_code k) pc = .ok (i, 3)) (he : am_at k idx am_CL = some f) (hcat : am_cat s2 ≤ 8) (hce : cellsOK k n0 f.1 n)
    {rcv : List AV} (hlen : as.length = f.2.1) (hst : st = as.reverse ++ (rcv ++ s2))
    (hm : (i = .invokevirtual idx ∧ f.2.2.1 = 0 ∧ ∃ x, rcv = [(2, x)] ∧ okr n x (am_kd (am_own f.1))) ∨ (i = .invokestatic idx ∧ (f.2.2.1 = 1 ∨ f.2.2.1 = 5) ∧ rcv = []) ∨ (i = .invokespecial idx ∧ (f.2.2.1 = 2 ∨ f.2.2.1 = 3) ∧ ∃ x, rcv = [(2, x)] ∧ 0 ≤ x ∧ x < 1000000))
    (h : CC f.1 (rcv ++ as) g r n (fun v g2 r2 n2 => Gd p l e R s m args below meth c G k n0 QE (pc + 3) ls (am_push (am_rc f.1) v s2) g2 r2 n2)) : Gd p l e R s m args below meth c G k n0 QE pc ls st g r n := by
  subst hst
  intro a1 a2 a3 a4 a5 a6 H locs lsM b1 b2 b3 b4
  obtain ⟨hmem, hk1, hk2, hw⟩ := C_at he
  have hf := of_decide_eq_true (List.all_eq_true.mp C_ok _ hmem)
  dsimp only at hf
  obtain ⟨hco, hini, hcl, hy1, hy2, hdesc, hv0, hv1, hv2⟩ := hf (by rcases hm with ⟨-, q, -⟩ | ⟨-, q, -⟩ | ⟨-, q, -⟩ <;> omega)
  obtain ⟨hnk, hcells⟩ := cells_k C a1 a2 hce
  have C0 := C
  obtain ⟨cx, cb, cml, cown, cts, cK, cI, -, ⟨cn0, cn1⟩, cT, chs⟩ := C
  have hargs : ∀ w ∈ rcv ++ as, okv w := fun w hw => a3 w (by
    rcases List.mem_append.mp hw with h | h
    · exact List.mem_append_right _ (List.mem_append_left _ h)
    · exact List.mem_append_left _ (List.mem_reverse.mpr h))
  have hM := hSD f.1 (rcv ++ as) g r n _ hco h (by omega) (by omega) hargs a6
  have a3' : ∀ w ∈ s2, okv w := fun w hw => a3 w (List.mem_append_right _ (List.mem_append_right _ hw))
  have hiniw : (Cond.initialized (am_y f.1).cls).before args s = true := by
    rw [hcl]; exact cts _ (LW_of (am_sub_mem _ _ IN_words _ (List.mem_map_of_mem (f := fun c => Cond.initialized (am_cn c)) hini)) rfl)
  have hstk : (as.reverse ++ (rcv ++ s2)).map (tv G) = (as.map (tv G)).reverse ++ (rcv.map (tv G) ++ s2.map (tv G)) := by
    rw [List.map_append, List.map_append, List.map_reverse]
  intro T hT X
  have hz := sz_of chs cn0 a1 hT X b2 b3
  rw [hstk]
  have hroom := room_k (n := n) hco C0
  have hW8 : ((s2.map (tv G)).map fun v => v.category).sum ≤ 8 := by rw [cat_map]; exact hcat
  have hlsz : lsM.size = am_maxL k := b4.1
  have hargl : (as.map (tv G)).length = f.2.1 := by rw [List.length_map]; exact hlen
  refine (g_after (k2 := f.1) (s2 := s2) C0 (rc4 hco) a1 a2 hnk a3' a4 a5 b3 b4 (as2 := ((rcv ++ as).map (tv G)).toArray) ?_ : W p l e R s m args below meth c H locs (n - n0).toNat (am_cs n - am_cs n0) QE (F0 m pc lsM _)) T hT X
  rcases hm with ⟨rfl, hmode, x, rfl, hx⟩ | ⟨rfl, hmode, rfl⟩ | ⟨rfl, hmode, x, rfl, hx0, hx1⟩
  · obtain ⟨him, hse, hkd9, hnm⟩ := hv0 hmode
    obtain ⟨x0, x1, x2⟩ := hx
    rw [w_C, hmode] at hw
    dsimp only at hw
    rw [hk1, hk2] at hw
    have hpre := pre_S (as2 := [(2, x)] ++ as) C0 hz b2 b3
    rw [List.map_append, List.map_cons, List.map_nil, tv_o x0 (by omega)] at hpre hM ⊢
    refine va_runV (Ts := LW) ⟨cx, cb, cml, cown, cts⟩ hM (cwV f.2.1 cts (LW_in fun w hw2 => ?_) rfl rfl rfl ⟨rfl, hy1, hy2, hdesc⟩ hroom) ⟨hpre.1, ?_, hpre.2⟩ rfl hargl hlsz rfl (lv_room hW8) hd hcells
    · rcases List.mem_append.mp hw2 with h1 | h1
      · simp only [List.mem_cons, List.not_mem_nil, or_false] at h1
        rcases h1 with rfl | rfl | rfl | rfl
        · exact LW_of hw rfl
        · exact LW_of (am_sub_mem _ _ IM_words _ (List.mem_map_of_mem (f := fun k => Cond.instanceMethod (am_y k)) him)) rfl
        · exact sel_in hse
        · rw [hcl]; exact LW_of (am_sub_mem _ _ IN_words _ (List.mem_map_of_mem (f := fun c => Cond.initialized (am_cn c)) hini)) rfl
      · exact wsK_in hco w h1
    · have hr := va_recv (q0 := x.toNat) cK b2 (cl_at _ hkd9) (by rw [wd_get x0 x1, cell_obj x2 hkd9])
      rw [← hnm]
      exact hr
  · have hpre := pre_S (as2 := [] ++ as) C0 hz b2 b3
    have hsm := hv1 hmode
    rcases hmode with hmode | hmode
    · rw [w_C, hmode] at hw
      dsimp only at hw
      rw [hk1, hk2] at hw
      refine va_runS (Ts := LW) ⟨cx, cb, cml, cown, cts⟩ hM (va_cwS f.2.1 cts (LW_in fun w hw2 => ?_) rfl rfl rfl ⟨hy1, hy2, hdesc⟩ hroom) hpre rfl hargl hlsz rfl (lv_room hW8) hd hcells
      rcases List.mem_append.mp hw2 with h1 | h1
      · simp only [List.mem_cons, List.not_mem_nil, or_false] at h1
        rcases h1 with rfl | rfl | rfl
        · exact LW_of hw rfl
        · exact LW_of (am_sub_mem _ _ SM_words _ (List.mem_map_of_mem (f := fun k => Cond.static (am_y k)) hsm)) rfl
        · rw [hcl]; exact LW_of (am_sub_mem _ _ IN_words _ (List.mem_map_of_mem (f := fun c => Cond.initialized (am_cn c)) hini)) rfl
      · exact wsK_in hco w h1
    · have hnest := cT.2.2.2.2.2.2.2.2.2 _ hmem (Or.inr hmode)
      rw [w_C, hmode] at hnest
      dsimp only at hnest
      rw [hk1, hk2] at hnest
      exact va_runSN (Ts := LW) ⟨cx, cb, cml, cown, cts⟩ hM ⟨va_cnB f.2.1 cts (LW_in (wsK_in hco)) rfl rfl rfl hnest hiniw ⟨hy1, hy2, hdesc⟩ hroom, cts _ (LW_of (am_sub_mem _ _ SM_words _ (List.mem_map_of_mem (f := fun k => Cond.static (am_y k)) hsm)) rfl), trivial⟩ hpre rfl hargl hlsz rfl (lv_room hW8) hd hcells
  · obtain ⟨him, hname, hrc0, hret0⟩ := hv2 hmode
    have himw : (Cond.instanceMethod (am_y f.1)).before args s = true := cts _ (LW_of (am_sub_mem _ _ IM_words _ (List.mem_map_of_mem (f := fun k => Cond.instanceMethod (am_y k)) him)) rfl)
    have hpre := pre_S (as2 := [(2, x)] ++ as) C0 hz b2 b3
    rw [List.map_append, List.map_cons, List.map_nil, tv_o hx0 hx1] at hpre hM ⊢
    have hcode : wsK f.1 = Cond.code (am_y f.1) (am_code f.1) (am_maxL f.1) none :: LW := by unfold wsK; rw [hret0]
    rcases hmode with hmode | hmode
    · rw [w_C, hmode] at hw
      dsimp only at hw
      rw [hk1, hk2] at hw
      exact va_runI (Ts := LW) ⟨cx, cb, cml, cown, cts⟩ hM (cwI f.2.1 cts (LW_in (wsK_in hco)) hcode rfl rfl hiniw (cts _ (LW_of hw rfl)) himw hname ⟨hy1, hy2, hdesc⟩ hroom) hpre rfl hargl hlsz rfl (lv_room hW8) hd hcells
    · have hnest := cT.2.2.2.2.2.2.2.2.2 _ hmem (Or.inl hmode)
      rw [w_C, hmode] at hnest
      dsimp only at hnest
      rw [hk1, hk2] at hnest
      exact va_runIN (Ts := LW) ⟨cx, cb, cml, cown, cts⟩ hM ⟨va_cnB f.2.1 cts (LW_in (wsK_in hco)) hcode rfl rfl hnest hiniw ⟨hy1, hy2, hdesc⟩ hroom, hname, himw⟩ hpre rfl hargl hlsz rfl (lv_room hW8) hd hcells
end SN7
