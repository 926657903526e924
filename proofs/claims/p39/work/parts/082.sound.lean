/-! fields, arrays, objects made -/
theorem fvl_tv {G : AG} {ty : Nat} {x y : Int} (h : ty = 0 ∨ ty = 1 ∨ ty = 2 ∨ ty = 3) : tv G (am_tag ty, if ty = 2 then y else x) = fvl G ty x y := by
  rcases h with rfl | rfl | rfl | rfl <;> rfl
theorem ln_rng (x : Int) : 0 ≤ am_ln x ∧ am_ln x ≤ 4000 := by
  unfold am_ln
  refine ⟨Int.natCast_nonneg _, ?_⟩
  by_cases h : x.toNat < 218
  · have h1 := of_decide_eq_true (List.all_eq_true.mp sh_ok x.toNat (List.mem_range.mpr h))
    have h2 := h1.2.2
    unfold am_ln at h2
    rw [Int.toNat_natCast, Int.toNat_natCast] at h2
    omega
  · have e : am_lnT.getD x.toNat 0 = 0 := by
      rw [List.getD_eq_getElem?_getD, List.getElem?_eq_none (by show 218 ≤ x.toNat; omega)]; rfl
    rw [e]; decide
theorem ln_nat (x : Int) : ((am_ln x).toNat : Int) = am_ln x := Int.toNat_of_nonneg (ln_rng x).1
theorem cs_step {n : Int} (h0 : 0 ≤ n) (h : n < 218) : am_cs (n + 1) = am_cs n + (am_ln n).toNat := by
  have h1 := of_decide_eq_true (List.all_eq_true.mp sh_ok n.toNat (List.mem_range.mpr (by omega)))
  rw [Int.toNat_of_nonneg h0] at h1
  exact h1.2.1
theorem cs_mono0 (a : Nat) : ∀ j : Nat, a + j ≤ 218 → am_cs (a : Int) ≤ am_cs ((a + j : Nat) : Int)
  | 0, _ => Nat.le_refl _
  | j + 1, h => by
    have h1 := cs_mono0 a j (by omega)
    have h2 := cs_step (n := ((a + j : Nat) : Int)) (by omega) (by omega)
    rw [show ((a + (j + 1) : Nat) : Int) = ((a + j : Nat) : Int) + 1 by omega, h2]
    omega
theorem cs_mono {a b : Int} (h0 : 0 ≤ a) (h : a ≤ b) (hb : b ≤ 218) : am_cs a ≤ am_cs b := by
  have h1 := cs_mono0 a.toNat (b.toNat - a.toNat) (by omega)
  rw [show ((a.toNat : Nat) : Int) = a by omega, show ((a.toNat + (b.toNat - a.toNat) : Nat) : Int) = b by omega] at h1
  exact h1
theorem okG_upI {g r : GH} {x j v : Int} (h : okG g r) (hv : rI v) : okG (up g x j v) r := by
  refine ⟨fun a b hl => ?_, fun a b => ?_, h.2.2⟩
  · unfold up; split
    · exact hv
    · exact h.1 a b hl
  · unfold up; split
    · exact ⟨by have := hv.1; omega, by have := hv.2; omega⟩
    · exact h.2.1 a b
theorem okG_upL {g r : GH} {x j v : Int} (h : okG g r) (hl : am_lng x j) (hv : rL v) : okG (up g x j v) r := by
  refine ⟨fun a b hl2 => ?_, fun a b => ?_, h.2.2⟩
  · unfold up; split
    · rename_i e; rw [e.1, e.2] at hl2; exact absurd hl hl2
    · exact h.1 a b hl2
  · unfold up; split
    · exact hv
    · exact h.2.1 a b
theorem okG_upR {g r : GH} {x j v : Int} (h : okG g r) (hv : rR v) : okG g (up r x j v) := by
  refine ⟨h.1, h.2.1, fun a b => ?_⟩
  unfold up; split
  · exact hv
  · exact h.2.2 a b
theorem up_off {f : GH} {x j v : Int} : ∀ i, i ≠ x → ∀ q, up f x j v i q = f i q := fun i hi q => by
  unfold up; rw [if_neg (fun h => hi h.1)]
theorem up_at {f : GH} {x j v q : Int} : up f x j v x q = if q = j then v else f x q := by
  unfold up; simp
theorem map_set {α : Type} (N j : Nat) (f f2 : Nat → α) (h : ∀ i, i ≠ j → f2 i = f i) : (List.range N).map f2 = ((List.range N).map f).set j (f2 j) := by
  apply List.ext_getElem?
  intro q
  by_cases hN : q < N
  · by_cases hq : j = q
    · subst hq
      rw [List.getElem?_set_self (by simpa using hN), List.getElem?_map, List.getElem?_range hN]; rfl
    · rw [List.getElem?_set_ne hq, List.getElem?_map, List.getElem?_map, List.getElem?_range hN, Option.map_some, Option.map_some, h q (fun e => hq e.symm)]
  · rw [List.getElem?_eq_none (by simpa using hN), List.getElem?_eq_none (by simpa using hN)]
theorem cell_put {G : AG} {g r : GH} {x v : Int} {c j : Nat} (hc : am_sh x = c) (h9 : c ≤ 9) :
    cellE G (up g x (j : Int) v) r x = .inr (c, ((List.range (am_nf c)).map fun i => fvl G (am_ft c i) (g x (i : Int)) (r x (i : Int))).set j (fvl G (am_ft c j) v (r x (j : Int)))) := by
  rw [cell_obj hc h9, map_set (am_nf c) j (fun i => fvl G (am_ft c i) (g x (i : Int)) (r x (i : Int))) _ (fun i hi => by rw [up_at, if_neg (by omega)]), up_at, if_pos rfl]
theorem cell_putR {G : AG} {g r : GH} {x v : Int} {c j : Nat} (hc : am_sh x = c) (h9 : c ≤ 9) :
    cellE G g (up r x (j : Int) v) x = .inr (c, ((List.range (am_nf c)).map fun i => fvl G (am_ft c i) (g x (i : Int)) (r x (i : Int))).set j (fvl G (am_ft c j) (g x (j : Int)) v)) := by
  rw [cell_obj hc h9, map_set (am_nf c) j (fun i => fvl G (am_ft c i) (g x (i : Int)) (r x (i : Int))) _ (fun i hi => by rw [up_at, if_neg (by omega)]), up_at, if_pos rfl]
theorem fs_at {G : AG} {g r : GH} {x : Int} {c j : Nat} (hj : j < am_nf c) : ((List.range (am_nf c)).map fun i => fvl G (am_ft c i) (g x (i : Int)) (r x (i : Int)))[j]? = some (fvl G (am_ft c j) (g x (j : Int)) (r x (j : Int))) := by
  rw [List.getElem?_map, List.getElem?_range hj]; rfl
theorem not_lng {x : Int} {c j : Nat} (hc : am_sh x = c) (h9 : c ≤ 9) (hf : am_ft c j ≠ 1) : ¬ am_lng x (j : Int) := by
  unfold am_lng
  rw [hc, Int.toNat_natCast]
  rintro (h | h)
  · omega
  · exact hf h
theorem is_lng {x : Int} {c j : Nat} (hc : am_sh x = c) (hf : am_ft c j = 1) : am_lng x (j : Int) := by
  unfold am_lng
  rw [hc, Int.toNat_natCast]
  exact Or.inr hf
theorem nlng_arr {x j : Int} {c : Nat} (hc : am_sh x = c) (h : c = 10 ∨ c = 11 ∨ c = 13) : ¬ am_lng x j := by
  unfold am_lng
  rw [hc]
  rcases h with rfl | rfl | rfl <;> (rintro (h | h) <;> revert h <;> exact of_decide_eq_true (by rfl))
section SN3
variable {p : Program} {l : Launch} {e : Env} {R : Room} {s : State} {m : MethodId} {args : Array Value} {below : List Frame} {meth : Method} {c : Code} {G : AG} {sc : SCR} {d k : Nat} {n0 : Int} {QE : State → Prop}
variable {pc pc2 : Nat} {ls st st2 : List AV} {g r : GH} {n : Int}
theorem g_getfield (C : CX p R s m args meth c G sc d k n0) {idx : Nat} {f : Nat × Nat × Nat × Bool × Nat} {x : Int} (hd : decode (am_code k) pc = .ok (.getfield idx, 3)) (he : am_at k idx am_FL = some f) (hk : okr n x f.1)
    (h : Gd p l e R s m args below meth c G k n0 QE (pc + 3) ls ((am_tag f.2.2.1, if f.2.2.1 = 2 then r x (f.2.1 : Int) else g x (f.2.1 : Int)) :: st) g r n) : Gd p l e R s m args below meth c G k n0 QE pc ls ((2, x) :: st) g r n := by
  intro a1 a2 a3 a4 a5 a6 H locs lsM b1 b2 b3 b4
  obtain ⟨cx, cb, cml, cown, cts, cK, -, -, ⟨cn0, cn1⟩, -⟩ := C
  obtain ⟨k0, k1, k2⟩ := hk
  obtain ⟨f9, fl, ft, -, -, fw⟩ := F_at he
  obtain ⟨-, -, -, -, -, f4⟩ := T_at f9 fl
  rw [ft] at f4
  have hv : okv (am_tag f.2.2.1, if f.2.2.1 = 2 then r x (f.2.1 : Int) else g x (f.2.1 : Int)) := by
    rcases f4 with h1 | h1 | h1 | h1 <;> rw [h1]
    · exact ok0 (a6.1 _ _ (not_lng k2 f9 (by rw [ft, h1]; decide)))
    · exact ok1 (a6.2.1 _ _)
    · exact ok2 (a6.2.2 _ _)
    · exact ok0 (a6.1 _ _ (not_lng k2 f9 (by rw [ft, h1]; decide)))
  have w := h a1 a2 (fa_cons hv (fa_tl a3)) a4 a5 a6 H locs lsM b1 b2 b3 b4
  rw [List.map_cons, fvl_tv f4, ← ft] at w
  rw [List.map_cons, tv_o k0 (by omega)]
  exact va_get (T := am_T f.1) (N := am_nf f.1) (ci := f.1) (C := am_nm f.1) cx cb cts (u_in f9) cown cK b2 x.toNat (by rw [wd_get k0 k1, cell_obj k2 f9]) (cl_at _ f9) f.2.1 fl (cts _ fw) (fun _ h => h) (fs_at fl) hd w
theorem fits_ref (o : Option Nat) (t : FieldType) (h : (match t with | .object _ => true | .array _ => true | _ => false) = true) : narrow t (va_rf o) = va_rf o ∧ fits t (va_rf o) = true := by
  cases t <;> first | (cases h; done) | (cases o <;> exact ⟨rfl, rfl⟩)
theorem kd_nm : ∀ {o : Nat}, am_kd o ≤ 9 → am_nm (am_kd o) = am_cn o := by
  intro o h
  by_cases ho : o < 14
  · have h1 := List.all_eq_true.mp (show (List.range 14).all (fun o => decide (am_kd o ≤ 9 → am_nm (am_kd o) = am_cn o)) = true by decide +kernel) o (List.mem_range.mpr ho)
    exact of_decide_eq_true h1 h
  · have e : am_kd o = 99 := by
      unfold am_kd
      rw [List.getD_eq_getElem?_getD, List.getElem?_eq_none (by show 14 ≤ o; omega)]; rfl
    omega
theorem g_putany (C : CX p R s m args meth c G sc d k n0) {idx : Nat} {f : Nat × Nat × Nat × Bool × Nat} {x : Int} {v : AV} {g2 r2 : GH} (hd : decode (am_code k) pc = .ok (.putfield idx, 3)) (he : am_at k idx am_FL = some f) (hk : okr n x f.1) (hfin : f.2.2.2.1 = true → am_isI k = true ∧ am_kd (am_own k) = f.1)
    (hnw : narrow (am_fd f.1 f.2.1) (tv G v) = tv G v ∧ fits (am_fd f.1 f.2.1) (tv G v) = true) (hcell : cellE G g2 r2 x = .inr (f.1, ((List.range (am_nf f.1)).map fun i => fvl G (am_ft f.1 i) (g x (i : Int)) (r x (i : Int))).set f.2.1 (tv G v)))
    (hg : ∀ i, i ≠ x → ∀ j, g2 i j = g i j) (hr : ∀ i, i ≠ x → ∀ j, r2 i j = r i j) (hok : okv v → okG g r → okG g2 r2)
    (h : Gd p l e R s m args below meth c G k n0 QE (pc + 3) ls st g2 r2 n) : Gd p l e R s m args below meth c G k n0 QE pc ls (v :: (2, x) :: st) g r n := by
  intro a1 a2 a3 a4 a5 a6 H locs lsM b1 b2 b3 b4
  obtain ⟨cx, cb, cml, cown, cts, cK, cI, -, ⟨cn0, cn1⟩, -⟩ := C
  obtain ⟨k0, k1, k2⟩ := hk
  obtain ⟨f9, fl, ft, ff, fn, fw⟩ := F_at he
  have hT := (T_at f9 fl).1
  have hw : (wd G g r n).set x.toNat (G.1 + x.toNat, .inr (f.1, ((List.range (am_nf f.1)).map fun i => fvl G (am_ft f.1 i) (g x (i : Int)) (r x (i : Int))).set f.2.1 (tv G v))) = wd G g2 r2 n := by
    rw [← hcell]; exact wd_set k0 k1 hg hr
  have w : ∀ (H1 : Heap) (locs1 : List Loc), va_P G.2.2.2.1 am_cl ((wd G g r n).set x.toNat (G.1 + x.toNat, .inr (f.1, ((List.range (am_nf f.1)).map fun i => fvl G (am_ft f.1 i) (g x (i : Int)) (r x (i : Int))).set f.2.1 (tv G v)))) H1 → va_D (fun q => G.1 ≤ q) ((wd G g r n).set x.toNat (G.1 + x.toNat, .inr (f.1, ((List.range (am_nf f.1)).map fun i => fvl G (am_ft f.1 i) (g x (i : Int)) (r x (i : Int))).set f.2.1 (tv G v)))) → va_S (fun q => G.1 ≤ q) s.heap H1 locs1 → W p l e R s m args below meth c H1 locs1 (n - n0).toNat (am_cs n - am_cs n0) QE (F0 m (pc + 3) lsM (st.map (tv G))) :=
    fun H1 locs1 z2 _ z3 => h a1 a2 (fa_tl (fa_tl a3)) a4 a5 (hok (fa_hd a3) a6) H1 locs1 lsM trivial (by rw [← hw]; exact z2) z3 b4
  rw [List.map_cons, List.map_cons, tv_o k0 (by omega)]
  have hlen : f.2.1 < ((List.range (am_nf f.1)).map fun i => fvl G (am_ft f.1 i) (g x (i : Int)) (r x (i : Int))).length := by simpa using fl
  have hws : (wd G g r n)[x.toNat]? = some (G.1 + x.toNat, .inr (f.1, (List.range (am_nf f.1)).map fun i => fvl G (am_ft f.1 i) (g x (i : Int)) (r x (i : Int)))) := by rw [wd_get k0 k1, cell_obj k2 f9]
  cases hfi : f.2.2.2.1 with
  | false => exact va_put (T := am_T f.1) (N := am_nf f.1) (ci := f.1) (C := am_nm f.1) cx cb cts (u_in f9) (am_fd f.1) (fun q hq => (T_at f9 hq).1) (fun a ha b hb hne => N_at f9 ha hb hne) cown cK b2 wd_D b3 x.toNat hws (cl_at _ f9) f.2.1 fl (cts _ fw) (fun _ h => h) (by rw [ff, hfi]) hT hnw.1 hnw.2 hlen hd w
  | true =>
    obtain ⟨i1, i2⟩ := hfin hfi
    exact va_putF (T := am_T f.1) (N := am_nf f.1) (ci := f.1) (C := am_nm f.1) cx cb cts (u_in f9) (am_fd f.1) (fun q hq => (T_at f9 hq).1) (fun a ha b hb hne => N_at f9 ha hb hne) cown cK b2 wd_D b3 x.toNat hws (cl_at _ f9) f.2.1 fl (cts _ fw) (fun _ h => h) (by rw [ff, hfi]) (cI i1) (by rw [fn, ← i2, kd_nm (by omega)]) hT hnw.1 hnw.2 hlen hd w
theorem g_putfield (C : CX p R s m args meth c G sc d k n0) {idx : Nat} {f : Nat × Nat × Nat × Bool × Nat} {x v : Int} (hd : decode (am_code k) pc = .ok (.putfield idx, 3)) (he : am_at k idx am_FL = some f) (hk : okr n x f.1) (hfin : f.2.2.2.1 = true → am_isI k = true ∧ am_kd (am_own k) = f.1)
    (h : if f.2.2.1 = 2 then Gd p l e R s m args below meth c G k n0 QE (pc + 3) ls st g (up r x (f.2.1 : Int) v) n else if f.2.2.1 = 3 then (v = 0 ∨ v = 1) ∧ Gd p l e R s m args below meth c G k n0 QE (pc + 3) ls st (up g x (f.2.1 : Int) v) r n else Gd p l e R s m args below meth c G k n0 QE (pc + 3) ls st (up g x (f.2.1 : Int) v) r n) :
    Gd p l e R s m args below meth c G k n0 QE pc ls ((am_tag f.2.2.1, v) :: (2, x) :: st) g r n := by
  obtain ⟨f9, fl, ft, -, -, -⟩ := F_at he
  obtain ⟨-, t0, t1, t3, t2, f4⟩ := T_at f9 fl
  have k2 := hk.2.2
  rw [ft] at t0 t1 t2 t3 f4
  have hc1 : ∀ v2, cellE G (up g x (f.2.1 : Int) v) r x = .inr (f.1, ((List.range (am_nf f.1)).map fun i => fvl G (am_ft f.1 i) (g x (i : Int)) (r x (i : Int))).set f.2.1 (fvl G (am_ft f.1 f.2.1) v v2)) → True := fun _ _ => trivial
  rcases f4 with h1 | h1 | h1 | h1 <;> rw [h1] at h ⊢
  · rw [if_neg (by decide), if_neg (by decide)] at h
    refine g_putany C hd he hk hfin (by rw [t0 h1]; exact ⟨rfl, rfl⟩) ?_ up_off (fun _ _ _ => rfl) (fun z1 z2 => okG_upI z2 (ok_r0 z1)) h
    rw [cell_put k2 f9, ft, h1]; rfl
  · rw [if_neg (by decide), if_neg (by decide)] at h
    refine g_putany C hd he hk hfin (by rw [t1 h1]; exact ⟨rfl, rfl⟩) ?_ up_off (fun _ _ _ => rfl) (fun z1 z2 => okG_upL z2 (is_lng k2 (by rw [ft, h1])) (ok_r1 z1)) h
    rw [cell_put k2 f9, ft, h1]; rfl
  · rw [if_pos rfl] at h
    refine g_putany C hd he hk hfin (fits_ref _ _ (t2 h1)) ?_ (fun _ _ _ => rfl) up_off (fun z1 z2 => okG_upR z2 (ok_r2 z1)) h
    rw [cell_putR k2 f9, ft, h1]; rfl
  · rw [if_neg (by decide), if_pos rfl] at h
    obtain ⟨hb, h⟩ := h
    refine g_putany C hd he hk hfin (by rw [t3 h1]; rcases hb with rfl | rfl <;> exact ⟨rfl, rfl⟩) ?_ up_off (fun _ _ _ => rfl) (fun z1 z2 => okG_upI z2 (ok_r0 z1)) h
    rw [cell_put k2 f9, ft, h1]; rfl
end SN3
