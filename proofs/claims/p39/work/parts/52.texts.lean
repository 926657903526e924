/-! what the law finds at its start: the script, the texts, the tables' words -/
theorem st_ex {args : Array Value} {s : State} (h : ∀ w ∈ flN, w.before args s = true) {i : Nat} (hi : i < 22) : (Cond.exactly (tmS i) "java/lang/String").before args s = true :=
  h _ (pick_mem flN 0 fp_ex _ (by rw [← fl_ex]; exact List.mem_map_of_mem (f := fun i => Cond.exactly (tmS i) "java/lang/String") (List.mem_range.mpr hi)))
theorem st_co {args : Array Value} {s : State} (h : ∀ w ∈ flN, w.before args s = true) {i : Nat} (hi : i < 22) : (Cond.eq (.field (tmS i) "java/lang/String" "coder" "B") (.int 0)).before args s = true :=
  h _ (pick_mem flN 0 fp_co _ (by rw [← fl_co]; exact List.mem_map_of_mem (f := fun i => Cond.eq (.field (tmS i) "java/lang/String" "coder" "B") (.int 0)) (List.mem_range.mpr hi)))
theorem st_ar {args : Array Value} {s : State} (h : ∀ w ∈ flN, w.before args s = true) {i : Nat} (hi : i < 22) : (Cond.arrayOf (tmV i) .byte).before args s = true :=
  h _ (pick_mem flN 0 fp_ar _ (by rw [← fl_ar]; exact List.mem_map_of_mem (f := fun i => Cond.arrayOf (tmV i) .byte) (List.mem_range.mpr hi)))
theorem st_le {args : Array Value} {s : State} (h : ∀ w ∈ flN, w.before args s = true) {i : Nat} (hi : i < 22) : (Cond.eq (.length (tmV i)) (.int (Int32.ofNat (lnS i)))).before args s = true :=
  h _ (pick_mem flN 0 fp_le _ (by rw [← fl_le]; exact List.mem_map_of_mem (f := fun i => Cond.eq (.length (tmV i)) (.int (Int32.ofNat (lnS i)))) (List.mem_range.mpr hi)))
theorem st_el {args : Array Value} {s : State} (h : ∀ w ∈ flN, w.before args s = true) {i j : Nat} (hi : i < 22) (hj : j < lnS i) : (Cond.eq (.elem (tmV i) (.int (Int32.ofNat j))) (.int (Int32.ofInt ((am_sb.getD i []).getD j 0)))).before args s = true :=
  h _ (pick_mem flN 0 fp_el _ (by rw [← fl_el]; exact List.mem_flatMap.mpr ⟨i, List.mem_range.mpr hi, List.mem_map_of_mem (f := fun j => Cond.eq (.elem (tmV i) (.int (Int32.ofNat j))) (.int (Int32.ofInt ((am_sb.getD i []).getD j 0)))) (List.mem_range.mpr hj)⟩))
theorem st_ne {args : Array Value} {s : State} (h : ∀ w ∈ flN, w.before args s = true) {i j : Nat} (hj : j < 22) (hi : i < j) : (Cond.not (Cond.eq (tmS i) (tmS j))).before args s = true :=
  h _ (pick_mem flN 0 fp_ne _ (by rw [← fl_ne]; exact List.mem_flatMap.mpr ⟨j, List.mem_range.mpr hj, List.mem_map_of_mem (f := fun i => Cond.not (Cond.eq (tmS i) (tmS j))) (List.mem_range.mpr hi)⟩))
set_option maxRecDepth 100000 in
set_option maxHeartbeats 4000000 in
theorem fl_cs : pick 0 [4, 5] flN = [Cond.eq (.static "java/lang/String" "COMPACT_STRINGS" "Z") (.int 1), Cond.isRef (.static "jdk/internal/util/Preconditions" "SIOOBE_FORMATTER" "Ljava/util/function/BiFunction;")] := rfl
def w_S (q : Nat × (Nat × Nat)) : Cond := .stringRef (am_cn (q.1 / 100000)) (q.1 % 100000) (am_st.getD q.2.1 "")
theorem S_in : ∀ q ∈ am_SL.map w_S, q ∈ tables_1 := by decide +kernel
theorem S_at : (am_SL.all fun q => decide (am_cn (q.1 / 100000) = "MillRow$Reader" ∧ q.2.1 < 22 ∧ (am_SL.getD q.2.1 (0, 0, 0)).1 = q.1)) = true := by decide +kernel
theorem Z_in : Cond.laysStatic "java/lang/String" "COMPACT_STRINGS" "Z" ∈ tables_1 ∧ Cond.initialized "java/lang/String" ∈ tables_1 ∧ Cond.laysStatic "jdk/internal/util/Preconditions" "SIOOBE_FORMATTER" "Ljava/util/function/BiFunction;" ∈ tables_1 ∧ Cond.initialized "jdk/internal/util/Preconditions" ∈ tables_1 := by decide +kernel
theorem len22 : (List.range 22).all (fun i => decide ((am_sb.map List.length).getD i 0 < 20 ∧ (am_sb.map List.length).getD i 0 = lnS i)) = true := by decide +kernel
theorem el22 : (List.range 22).all (fun i => (List.range (lnS i)).all fun j => decide (((am_sb.map fun l => l.map Int32.ofInt).getD i []).getD j 0 = Int32.ofInt ((am_sb.getD i []).getD j 0))) = true := by decide +kernel
/-- the texts, the script: all of TXs at the start -/
theorem start_TX {s : State} {b L : Nat} {xs : Nat → Int32} {args : Array Value} (hL : L ≤ 4000) (hT : ∀ w ∈ lw_tbl, w.before args s = true) (hX : va_X b L xs s s.heap) (hb : b < s.heap.size) (hg : (Jvm.Cond.and given_1 narrow_1).before args s = true) :
    ∃ adK : Nat → Nat, ∀ (D : va_G) (cA : Nat → ClassId), TXs (s.heap.size, b, adK, D, cA) ((L : Int), fun j => (xs j.toNat).toInt) s := by
  have h1 : ∀ w ∈ tables_1, w.before args s = true := fun w h => hT w (List.mem_append_right _ h)
  have hf := fl0_before _ hg
  have hA : ∀ a : Nat, a < s.heap.size → ¬ s.heap.size ≤ a := fun a h => Nat.not_le.mpr h
  have l22 : ∀ i, i < 22 → (am_sb.map List.length).getD i 0 < 20 ∧ (am_sb.map List.length).getD i 0 = lnS i := fun i hi => of_decide_eq_true (List.all_eq_true.mp len22 i (List.mem_range.mpr hi))
  have e22 : ∀ i j, i < 22 → j < lnS i → ((am_sb.map fun l => l.map Int32.ofInt).getD i []).getD j 0 = Int32.ofInt ((am_sb.getD i []).getD j 0) := fun i j hi hj => of_decide_eq_true (List.all_eq_true.mp (List.all_eq_true.mp el22 i (List.mem_range.mpr hi)) j (List.mem_range.mpr hj))
  obtain ⟨adK, adV, hS, hE⟩ := vk_Sof (args := args) (s := s) (N := 22) (tm := tmS) (len := am_sb.map List.length) (byt := am_sb.map fun l => l.map Int32.ofInt) (A := fun q => s.heap.size ≤ q)
    (fun i hi => by have := (l22 i hi).1; omega) (fun i hi => st_ex hf hi) (fun i hi => st_co hf hi) (fun i hi => st_ar hf hi) (fun i hi => by rw [(l22 i hi).2]; exact st_le hf hi)
    (fun i hi j hj => by rw [(l22 i hi).2] at hj; rw [e22 i j hi hj]; exact st_el hf hi hj)
    (fun i j hi hj hne => by
      rcases Nat.lt_or_ge i j with h | h
      · exact Or.inl (st_ne hf hj h)
      · exact Or.inr (st_ne hf hi (by omega))) hA
  refine ⟨adK, fun D cA => ⟨?_, hb, ⟨?_, ?_⟩, Int.natCast_nonneg L, fun j => ⟨Int32.le_toInt _, Int32.toInt_lt _⟩, ?_, ⟨adV, hS, ?_, ?_⟩, va_AO.of (h1 _ arr_in.2.2.2.2.1), va_AO.of (h1 _ arr_in.2.2.2.2.2), ?_⟩⟩
  · show va_X b ((L : Int)).toNat (fun j => Int32.ofInt ((xs ((j : Int)).toNat).toInt)) s s.heap
    have e : (fun j : Nat => Int32.ofInt ((xs ((j : Int)).toNat).toInt)) = xs := by
      funext j
      rw [Int32.ofInt_toInt, Int.toNat_natCast]
    rw [e, Int.toNat_natCast]
    exact hX
  · show (-2147483648 : Int) ≤ (L : Int); omega
  · show (L : Int) < 2147483648; omega
  · intro e he
    obtain ⟨q1, q2, q3⟩ := of_decide_eq_true (List.all_eq_true.mp S_at e he)
    have hv := hE e.2.1 q2
    unfold tmS at hv
    rw [q3] at hv
    refine vk_R.of (h1 _ (S_in _ (List.mem_map_of_mem (f := w_S) he))) ?_
    rw [q1]
    exact hv
  · exact va_Zof (h1 _ Z_in.1) (h1 _ Z_in.2.1) (va_eqi (hf _ (pick_mem flN 0 [4, 5] _ (by rw [fl_cs]; exact List.mem_cons_self)))) hA
  · exact va_Zqof (h1 _ Z_in.2.2.1) (h1 _ Z_in.2.2.2) (hf _ (pick_mem flN 0 [4, 5] _ (by rw [fl_cs]; exact List.mem_cons_of_mem _ List.mem_cons_self))) hA
  · intro q hq h2
    refine va_Nw.of ?_ (h1 _ (am_sub_mem _ _ C_words _ (List.mem_map_of_mem (f := w_C) hq)))
    unfold w_C
    rcases h2 with h2 | h2 <;> rw [h2] <;> rfl
