/-! arrays -/
theorem okI_in {n x j : Int} {c : Nat} (h : okI n x c j) (hj : rI j) : vp_in (Int32.ofInt j) (am_ln x).toNat := i_in hj h.2.1 (by rw [ln_nat]; exact h.2.2)
theorem ofNat_toNat {j : Int} (h : 0 ≤ j) : ((j.toNat : Nat) : Int) = j := Int.toNat_of_nonneg h
theorem arr_i {G : AG} {g r : GH} {x j v : Int} {c : Nat} (hc : am_sh x = c) (h : c = 10 ∨ c = 11 ∨ c = 13) (hj : rI j) (h0 : 0 ≤ j) :
    cellE G (up g x j v) r x = .inl (G.2.2.2.2 c, (am_ln x).toNat, .inl (upd (fun q => Int32.ofInt (g x (q : Int))) (Int32.ofInt j).toNatClampNeg (Int32.ofInt v))) := by
  rw [cell_int hc h, i_cl hj]
  congr 3
  congr 1
  funext q
  rw [up_at]
  unfold upd
  by_cases hq : (q : Int) = j
  · rw [if_pos hq, if_pos (by omega)]
  · rw [if_neg hq, if_neg (by omega)]
theorem arr_l {G : AG} {g r : GH} {x j v : Int} (hc : am_sh x = 12) (hj : rI j) (h0 : 0 ≤ j) :
    cellE G (up g x j v) r x = .inl (G.2.2.2.2 12, (am_ln x).toNat, .inr (.inl (vp_updL (fun q => Int64.ofInt (g x (q : Int))) (Int32.ofInt j).toNatClampNeg (Int64.ofInt v)))) := by
  rw [cell_long hc, i_cl hj]
  congr 4
  apply congrArg
  funext q
  rw [up_at]
  unfold vp_updL
  by_cases hq : (q : Int) = j
  · rw [if_pos hq, if_pos (by omega)]
  · rw [if_neg hq, if_neg (by omega)]
theorem arr_r {G : AG} {g r : GH} {x j v : Int} {c : Nat} (hc : am_sh x = c) (h : c = 14 ∨ c = 15) (hj : rI j) (h0 : 0 ≤ j) :
    cellE G g (up r x j v) x = .inl (G.2.2.2.2 c, (am_ln x).toNat, .inr (.inr (.inr (.inr (va_up (fun q => rfo G (r x (q : Int))) (Int32.ofInt j).toNatClampNeg (rfo G v)))))) := by
  rw [cell_ref hc h, i_cl hj]
  congr 7
  funext q
  rw [up_at]
  unfold va_up
  by_cases hq : (q : Int) = j
  · rw [if_pos hq, if_pos (by omega)]
  · rw [if_neg hq, if_neg (by omega)]
section SN4
variable {p : Program} {l : Launch} {e : Env} {R : Room} {s : State} {m : MethodId} {args : Array Value} {below : List Frame} {meth : Method} {c : Code} {G : AG} {sc : SCR} {d k : Nat} {n0 : Int} {QE : State → Prop}
variable {pc pc2 : Nat} {ls st st2 : List AV} {g r : GH} {n : Int}
theorem g_iaload (C : CX p R s m args meth c G sc d k n0) {x j : Int} (hd : decode (am_code k) pc = .ok (.iaload, 1))
    (h : if x = -5 then 0 ≤ j ∧ j < sc.1 ∧ Gd p l e R s m args below meth c G k n0 QE (pc + 1) ls ((0, sc.2 j) :: st) g r n else okI n x 11 j ∧ Gd p l e R s m args below meth c G k n0 QE (pc + 1) ls ((0, g x j) :: st) g r n) : Gd p l e R s m args below meth c G k n0 QE pc ls ((0, j) :: (2, x) :: st) g r n := by
  intro a1 a2 a3 a4 a5 a6 H locs lsM b1 b2 b3 b4
  obtain ⟨cx, cb, cml, cown, cts, cK, cI, -, ⟨cn0, cn1⟩, ⟨tX, tb, tr, t0, tv2, -⟩, chs⟩ := C
  have hj := ok_r0 (fa_hd a3)
  rw [List.map_cons, List.map_cons, tv_0]
  split at h
  · rename_i hx
    subst hx
    obtain ⟨h0, h1, h⟩ := h
    have w := h a1 a2 (fa_cons (ok0 (tv2 j)) (fa_tl (fa_tl a3))) a4 a5 a6 H locs lsM b1 b2 b3 b4
    show W p l e R s m args below meth c H locs _ _ QE (F0 m pc lsM (.int (Int32.ofInt j) :: .ref G.2.1 :: st.map (tv G)))
    have hbl : G.2.1 < s.heap.size := by obtain ⟨scr, q1, -⟩ := tX; exact (Array.getElem?_eq_some_iff.mp q1).1
    refine va_sld cx cb tX hbl (Nat.not_le.mpr tb) b3 (i_in hj h0 (by rw [ofNat_toNat t0]; exact h1)) hd ?_
    rw [i_cl hj]
    rw [List.map_cons, tv_0] at w
    rw [ofNat_toNat h0]
    exact w
  · obtain ⟨hk, h⟩ := h
    have w := h a1 a2 (fa_cons (ok0 (a6.1 _ _ (nlng_arr hk.1.2.2 (by decide)))) (fa_tl (fa_tl a3))) a4 a5 a6 H locs lsM b1 b2 b3 b4
    rw [tv_o hk.1.1 (by have := hk.1.2.1; omega)]
    refine va_iald cx cb cK b2 x.toNat 1 (cA := G.2.2.2.2 11) (n := (am_ln x).toNat) (f := fun q => Int32.ofInt (g x (q : Int))) (by rw [wd_get hk.1.1 hk.1.2.1, cell_int hk.1.2.2 (by decide)]) rfl (okI_in hk hj) hd ?_
    rw [List.map_cons, tv_0] at w
    rw [i_cl hj, ofNat_toNat hk.2.1]
    exact w
theorem g_laload (C : CX p R s m args meth c G sc d k n0) {x j : Int} (hd : decode (am_code k) pc = .ok (.laload, 1)) (hk : okI n x 12 j)
    (h : Gd p l e R s m args below meth c G k n0 QE (pc + 1) ls ((1, g x j) :: st) g r n) : Gd p l e R s m args below meth c G k n0 QE pc ls ((0, j) :: (2, x) :: st) g r n := by
  intro a1 a2 a3 a4 a5 a6 H locs lsM b1 b2 b3 b4
  obtain ⟨cx, cb, cml, cown, cts, cK, cI, -, ⟨cn0, cn1⟩, -⟩ := C
  have hj := ok_r0 (fa_hd a3)
  rw [List.map_cons, List.map_cons, tv_0, tv_o hk.1.1 (by have := hk.1.2.1; omega)]
  have w := h a1 a2 (fa_cons (ok1 (a6.2.1 _ _)) (fa_tl (fa_tl a3))) a4 a5 a6 H locs lsM b1 b2 b3 b4
  refine va_lald cx cb cK b2 x.toNat 2 (cA := G.2.2.2.2 12) (n := (am_ln x).toNat) (f := fun q => Int64.ofInt (g x (q : Int))) (by rw [wd_get hk.1.1 hk.1.2.1, cell_long hk.1.2.2]) rfl (okI_in hk hj) hd ?_
  rw [List.map_cons, tv_1] at w
  rw [i_cl hj, ofNat_toNat hk.2.1]
  exact w
theorem g_baload (C : CX p R s m args meth c G sc d k n0) {x j : Int} (hd : decode (am_code k) pc = .ok (.baload, 1)) (hk : okI n x 10 j ∨ okI n x 13 j)
    (h : Gd p l e R s m args below meth c G k n0 QE (pc + 1) ls ((0, g x j) :: st) g r n) : Gd p l e R s m args below meth c G k n0 QE pc ls ((0, j) :: (2, x) :: st) g r n := by
  intro a1 a2 a3 a4 a5 a6 H locs lsM b1 b2 b3 b4
  obtain ⟨cx, cb, cml, cown, cts, cK, cI, -, ⟨cn0, cn1⟩, -⟩ := C
  have hj := ok_r0 (fa_hd a3)
  rcases hk with hk | hk
  · rw [List.map_cons, List.map_cons, tv_0, tv_o hk.1.1 (by have := hk.1.2.1; omega)]
    have w := h a1 a2 (fa_cons (ok0 (a6.1 _ _ (nlng_arr hk.1.2.2 (by decide)))) (fa_tl (fa_tl a3))) a4 a5 a6 H locs lsM b1 b2 b3 b4
    refine va_bald cx cb cK b2 x.toNat 0 (cA := G.2.2.2.2 10) (n := (am_ln x).toNat) (f := fun q => Int32.ofInt (g x (q : Int))) (by rw [wd_get hk.1.1 hk.1.2.1, cell_int hk.1.2.2 (by decide)]) rfl (okI_in hk hj) hd ?_
    rw [List.map_cons, tv_0] at w
    rw [i_cl hj, ofNat_toNat hk.2.1]
    exact w
  · rw [List.map_cons, List.map_cons, tv_0, tv_o hk.1.1 (by have := hk.1.2.1; omega)]
    have w := h a1 a2 (fa_cons (ok0 (a6.1 _ _ (nlng_arr hk.1.2.2 (by decide)))) (fa_tl (fa_tl a3))) a4 a5 a6 H locs lsM b1 b2 b3 b4
    refine va_zald cx cb cK b2 x.toNat 3 (cA := G.2.2.2.2 13) (n := (am_ln x).toNat) (f := fun q => Int32.ofInt (g x (q : Int))) (by rw [wd_get hk.1.1 hk.1.2.1, cell_int hk.1.2.2 (by decide)]) rfl (okI_in hk hj) hd ?_
    rw [List.map_cons, tv_0] at w
    rw [i_cl hj, ofNat_toNat hk.2.1]
    exact w
theorem g_aaload (C : CX p R s m args meth c G sc d k n0) {x j : Int} (hd : decode (am_code k) pc = .ok (.aaload, 1)) (hk : okI n x 14 j ∨ okI n x 15 j)
    (h : Gd p l e R s m args below meth c G k n0 QE (pc + 1) ls ((2, r x j) :: st) g r n) : Gd p l e R s m args below meth c G k n0 QE pc ls ((0, j) :: (2, x) :: st) g r n := by
  intro a1 a2 a3 a4 a5 a6 H locs lsM b1 b2 b3 b4
  obtain ⟨cx, cb, cml, cown, cts, cK, cI, -, ⟨cn0, cn1⟩, -⟩ := C
  have hj := ok_r0 (fa_hd a3)
  have w := h a1 a2 (fa_cons (ok2 (a6.2.2 _ _)) (fa_tl (fa_tl a3))) a4 a5 a6 H locs lsM b1 b2 b3 b4
  rcases hk with hk | hk
  · rw [List.map_cons, List.map_cons, tv_0, tv_o hk.1.1 (by have := hk.1.2.1; omega)]
    refine va_aldq cx cb cK b2 x.toNat 4 (cA := G.2.2.2.2 14) (C := "MillRow$Mill") (n := (am_ln x).toNat) (f := fun q => rfo G (r x (q : Int))) (by rw [wd_get hk.1.1 hk.1.2.1, cell_ref hk.1.2.2 (by decide)]) rfl (okI_in hk hj) hd ?_
    rw [List.map_cons, tv_2] at w
    rw [i_cl hj, ofNat_toNat hk.2.1]
    exact w
  · rw [List.map_cons, List.map_cons, tv_0, tv_o hk.1.1 (by have := hk.1.2.1; omega)]
    refine va_aldq cx cb cK b2 x.toNat 5 (cA := G.2.2.2.2 15) (C := "MillRow$Brook") (n := (am_ln x).toNat) (f := fun q => rfo G (r x (q : Int))) (by rw [wd_get hk.1.1 hk.1.2.1, cell_ref hk.1.2.2 (by decide)]) rfl (okI_in hk hj) hd ?_
    rw [List.map_cons, tv_2] at w
    rw [i_cl hj, ofNat_toNat hk.2.1]
    exact w
theorem g_iastore (C : CX p R s m args meth c G sc d k n0) {x j v : Int} (hd : decode (am_code k) pc = .ok (.iastore, 1)) (hk : okI n x 11 j)
    (h : Gd p l e R s m args below meth c G k n0 QE (pc + 1) ls st (up g x j v) r n) : Gd p l e R s m args below meth c G k n0 QE pc ls ((0, v) :: (0, j) :: (2, x) :: st) g r n := by
  intro a1 a2 a3 a4 a5 a6 H locs lsM b1 b2 b3 b4
  obtain ⟨cx, cb, cml, cown, cts, cK, cI, -, ⟨cn0, cn1⟩, -⟩ := C
  have hv := ok_r0 (fa_hd a3)
  have hj := ok_r0 (fa_hd (fa_tl a3))
  rw [List.map_cons, List.map_cons, List.map_cons, tv_0, tv_0, tv_o hk.1.1 (by have := hk.1.2.1; omega)]
  refine va_iast cx cb cK b2 wd_D b3 x.toNat 1 (cA := G.2.2.2.2 11) (n := (am_ln x).toNat) (f := fun q => Int32.ofInt (g x (q : Int))) (by rw [wd_get hk.1.1 hk.1.2.1, cell_int hk.1.2.2 (by decide)]) rfl (okI_in hk hj) hd (fun H1 locs1 z1 _ z3 => ?_)
  rw [← arr_i (r := r) hk.1.2.2 (by decide) hj hk.2.1, wd_set hk.1.1 hk.1.2.1 up_off (fun _ _ _ => rfl)] at z1
  exact h a1 a2 (fa_tl (fa_tl (fa_tl a3))) a4 a5 (okG_upI a6 hv) H1 locs1 lsM trivial z1 z3 b4
theorem g_lastore (C : CX p R s m args meth c G sc d k n0) {x j v : Int} (hd : decode (am_code k) pc = .ok (.lastore, 1)) (hk : okI n x 12 j)
    (h : Gd p l e R s m args below meth c G k n0 QE (pc + 1) ls st (up g x j v) r n) : Gd p l e R s m args below meth c G k n0 QE pc ls ((1, v) :: (0, j) :: (2, x) :: st) g r n := by
  intro a1 a2 a3 a4 a5 a6 H locs lsM b1 b2 b3 b4
  obtain ⟨cx, cb, cml, cown, cts, cK, cI, -, ⟨cn0, cn1⟩, -⟩ := C
  have hv := ok_r1 (fa_hd a3)
  have hj := ok_r0 (fa_hd (fa_tl a3))
  rw [List.map_cons, List.map_cons, List.map_cons, tv_1, tv_0, tv_o hk.1.1 (by have := hk.1.2.1; omega)]
  refine va_last cx cb cK b2 wd_D b3 x.toNat 2 (cA := G.2.2.2.2 12) (n := (am_ln x).toNat) (f := fun q => Int64.ofInt (g x (q : Int))) (by rw [wd_get hk.1.1 hk.1.2.1, cell_long hk.1.2.2]) rfl (okI_in hk hj) hd (fun H1 locs1 z1 _ z3 => ?_)
  rw [← arr_l (r := r) hk.1.2.2 hj hk.2.1, wd_set hk.1.1 hk.1.2.1 up_off (fun _ _ _ => rfl)] at z1
  exact h a1 a2 (fa_tl (fa_tl (fa_tl a3))) a4 a5 (okG_upL a6 (Or.inl hk.1.2.2) hv) H1 locs1 lsM trivial z1 z3 b4
theorem g_bastore (C : CX p R s m args meth c G sc d k n0) {x j v : Int} (hd : decode (am_code k) pc = .ok (.bastore, 1)) (hk : (okI n x 10 j ∧ i_b v = v) ∨ (okI n x 13 j ∧ (v = 0 ∨ v = 1)))
    (h : Gd p l e R s m args below meth c G k n0 QE (pc + 1) ls st (up g x j v) r n) : Gd p l e R s m args below meth c G k n0 QE pc ls ((0, v) :: (0, j) :: (2, x) :: st) g r n := by
  intro a1 a2 a3 a4 a5 a6 H locs lsM b1 b2 b3 b4
  obtain ⟨cx, cb, cml, cown, cts, cK, cI, -, ⟨cn0, cn1⟩, -⟩ := C
  have hv := ok_r0 (fa_hd a3)
  have hj := ok_r0 (fa_hd (fa_tl a3))
  rcases hk with ⟨hk, hb⟩ | ⟨hk, hb⟩
  · rw [List.map_cons, List.map_cons, List.map_cons, tv_0, tv_0, tv_o hk.1.1 (by have := hk.1.2.1; omega)]
    refine va_bast cx cb cK b2 wd_D b3 x.toNat 0 (cA := G.2.2.2.2 10) (n := (am_ln x).toNat) (f := fun q => Int32.ofInt (g x (q : Int))) (by rw [wd_get hk.1.1 hk.1.2.1, cell_int hk.1.2.2 (by decide)]) rfl (okI_in hk hj) hd (fun H1 locs1 z1 _ z3 => ?_)
    have e : vp_nar .byte (Int32.ofInt v) = Int32.ofInt v := by
      rw [vp_nar_byte]
      apply Int32.toInt_inj.mp
      rw [Int32.toInt_ofInt_of_le hv.1 hv.2]
      exact hb
    rw [e, ← arr_i (r := r) hk.1.2.2 (by decide) hj hk.2.1, wd_set hk.1.1 hk.1.2.1 up_off (fun _ _ _ => rfl)] at z1
    exact h a1 a2 (fa_tl (fa_tl (fa_tl a3))) a4 a5 (okG_upI a6 hv) H1 locs1 lsM trivial z1 z3 b4
  · rw [List.map_cons, List.map_cons, List.map_cons, tv_0, tv_0, tv_o hk.1.1 (by have := hk.1.2.1; omega)]
    refine va_zast cx cb cK b2 wd_D b3 x.toNat 3 (cA := G.2.2.2.2 13) (n := (am_ln x).toNat) (f := fun q => Int32.ofInt (g x (q : Int))) (by rw [wd_get hk.1.1 hk.1.2.1, cell_int hk.1.2.2 (by decide)]) rfl (okI_in hk hj) hd (fun H1 locs1 z1 _ z3 => ?_)
    have e : vp_nar .boolean (Int32.ofInt v) = Int32.ofInt v := by rcases hb with rfl | rfl <;> rfl
    rw [e, ← arr_i (r := r) hk.1.2.2 (by decide) hj hk.2.1, wd_set hk.1.1 hk.1.2.1 up_off (fun _ _ _ => rfl)] at z1
    exact h a1 a2 (fa_tl (fa_tl (fa_tl a3))) a4 a5 (okG_upI a6 hv) H1 locs1 lsM trivial z1 z3 b4
theorem rfo_o {x : Int} (h0 : 0 ≤ x) (h1 : x < 1000000) : rfo G x = some (G.1 + x.toNat) := by
  rw [rfo, if_neg (by omega), adr_o h0 h1]
theorem g_aastore (C : CX p R s m args meth c G sc d k n0) {x j v : Int} (hd : decode (am_code k) pc = .ok (.aastore, 1)) (hk : (okI n x 14 j ∧ okr n v 2) ∨ (okI n x 15 j ∧ okr n v 0))
    (h : Gd p l e R s m args below meth c G k n0 QE (pc + 1) ls st g (up r x j v) n) : Gd p l e R s m args below meth c G k n0 QE pc ls ((2, v) :: (0, j) :: (2, x) :: st) g r n := by
  intro a1 a2 a3 a4 a5 a6 H locs lsM b1 b2 b3 b4
  obtain ⟨cx, cb, cml, cown, cts, cK, cI, -, ⟨cn0, cn1⟩, -⟩ := C
  have hv := ok_r2 (fa_hd a3)
  have hj := ok_r0 (fa_hd (fa_tl a3))
  rcases hk with ⟨hk, kv⟩ | ⟨hk, kv⟩
  · have hv1 := kv.2.1
    rw [List.map_cons, List.map_cons, List.map_cons, tv_o kv.1 (by omega), tv_0, tv_o hk.1.1 (by have := hk.1.2.1; omega)]
    refine va_astq cx cb cK b2 wd_D b3 x.toNat 4 v.toNat 2 (cA := G.2.2.2.2 14) (r := ("MillRow$Mill", am_T 2, am_nf 2)) (n := (am_ln x).toNat) (f := fun q => rfo G (r x (q : Int))) (by rw [wd_get hk.1.1 hk.1.2.1, cell_ref hk.1.2.2 (by decide)]) rfl (by rw [wd_get kv.1 kv.2.1, cell_obj kv.2.2 (by decide)]) rfl (okI_in hk hj) hd (fun H1 locs1 z1 _ z3 => ?_)
    rw [← rfo_o kv.1 (by omega), ← arr_r (g := g) hk.1.2.2 (by decide) hj hk.2.1, wd_set hk.1.1 hk.1.2.1 (fun _ _ _ => rfl) up_off] at z1
    exact h a1 a2 (fa_tl (fa_tl (fa_tl a3))) a4 a5 (okG_upR a6 hv) H1 locs1 lsM trivial z1 z3 b4
  · have hv1 := kv.2.1
    rw [List.map_cons, List.map_cons, List.map_cons, tv_o kv.1 (by omega), tv_0, tv_o hk.1.1 (by have := hk.1.2.1; omega)]
    refine va_astq cx cb cK b2 wd_D b3 x.toNat 5 v.toNat 0 (cA := G.2.2.2.2 15) (r := ("MillRow$Brook", am_T 0, am_nf 0)) (n := (am_ln x).toNat) (f := fun q => rfo G (r x (q : Int))) (by rw [wd_get hk.1.1 hk.1.2.1, cell_ref hk.1.2.2 (by decide)]) rfl (by rw [wd_get kv.1 kv.2.1, cell_obj kv.2.2 (by decide)]) rfl (okI_in hk hj) hd (fun H1 locs1 z1 _ z3 => ?_)
    rw [← rfo_o kv.1 (by omega), ← arr_r (g := g) hk.1.2.2 (by decide) hj hk.2.1, wd_set hk.1.1 hk.1.2.1 (fun _ _ _ => rfl) up_off] at z1
    exact h a1 a2 (fa_tl (fa_tl (fa_tl a3))) a4 a5 (okG_upR a6 hv) H1 locs1 lsM trivial z1 z3 b4
theorem ofInt_nat (N : Nat) : Int32.ofInt (N : Int) = Int32.ofNat N := by
  apply Int32.toInt_inj.mp
  simp
theorem g_alen (C : CX p R s m args meth c G sc d k n0) {x : Int} (hd : decode (am_code k) pc = .ok (.arraylength, 1))
    (h : if x = -5 then Gd p l e R s m args below meth c G k n0 QE (pc + 1) ls ((0, sc.1) :: st) g r n else (0 ≤ x ∧ x < n ∧ 11 ≤ am_sh x ∧ am_sh x ≤ 15) ∧ Gd p l e R s m args below meth c G k n0 QE (pc + 1) ls ((0, am_ln x) :: st) g r n) : Gd p l e R s m args below meth c G k n0 QE pc ls ((2, x) :: st) g r n := by
  intro a1 a2 a3 a4 a5 a6 H locs lsM b1 b2 b3 b4
  obtain ⟨cx, cb, cml, cown, cts, cK, cI, -, ⟨cn0, cn1⟩, ⟨tX, tb, tr, t0, tv2, -⟩, chs⟩ := C
  split at h
  · rename_i hx
    subst hx
    have w := h a1 a2 (fa_cons (ok0 tr) (fa_tl a3)) a4 a5 a6 H locs lsM b1 b2 b3 b4
    show W p l e R s m args below meth c H locs _ _ QE (F0 m pc lsM (.ref G.2.1 :: st.map (tv G)))
    have hbl : G.2.1 < s.heap.size := by obtain ⟨scr, q1, -⟩ := tX; exact (Array.getElem?_eq_some_iff.mp q1).1
    refine va_slen cx cb tX hbl (Nat.not_le.mpr tb) b3 hd ?_
    rw [List.map_cons, tv_0] at w
    rw [← ofInt_nat, ofNat_toNat t0]
    exact w
  · obtain ⟨⟨k0, k1, k2, k3⟩, h⟩ := h
    have hl := ln_rng x
    have w := h a1 a2 (fa_cons (ok0 ⟨by omega, by omega⟩) (fa_tl a3)) a4 a5 a6 H locs lsM b1 b2 b3 b4
    rw [List.map_cons, tv_0] at w
    rw [List.map_cons, tv_o k0 (by omega)]
    have ev : Int32.ofNat (am_ln x).toNat = Int32.ofInt (am_ln x) := by rw [← ofInt_nat, ln_nat]
    have hsh : am_sh x = 11 ∨ am_sh x = 12 ∨ am_sh x = 13 ∨ am_sh x = 14 ∨ am_sh x = 15 := by omega
    rcases hsh with hs | hs | hs | hs | hs
    · exact va_alen cx cb cK b2 x.toNat 1 (cA := G.2.2.2.2 11) (x := ((am_ln x).toNat, .inl fun q => Int32.ofInt (g x (q : Int)))) (by rw [wd_get k0 k1, cell_int hs (by decide)]) (ty := .int) rfl ev hd w
    · exact va_alen cx cb cK b2 x.toNat 2 (cA := G.2.2.2.2 12) (x := ((am_ln x).toNat, .inr (.inl fun q => Int64.ofInt (g x (q : Int))))) (by rw [wd_get k0 k1, cell_long hs]) (ty := .long) rfl ev hd w
    · exact va_alen cx cb cK b2 x.toNat 3 (cA := G.2.2.2.2 13) (x := ((am_ln x).toNat, .inl fun q => Int32.ofInt (g x (q : Int)))) (by rw [wd_get k0 k1, cell_int hs (by decide)]) (ty := .boolean) rfl ev hd w
    · exact va_alen cx cb cK b2 x.toNat 4 (cA := G.2.2.2.2 14) (x := ((am_ln x).toNat, .inr (.inr (.inr (.inr fun q => rfo G (r x (q : Int))))))) (by rw [wd_get k0 k1, cell_ref hs (by decide)]) (ty := .object "MillRow$Mill") rfl ev hd w
    · exact va_alen cx cb cK b2 x.toNat 5 (cA := G.2.2.2.2 15) (x := ((am_ln x).toNat, .inr (.inr (.inr (.inr fun q => rfo G (r x (q : Int))))))) (by rw [wd_get k0 k1, cell_ref hs (by decide)]) (ty := .object "MillRow$Brook") rfl ev hd w
end SN4
