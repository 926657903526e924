/-! worlds: the heap's objects in the order of their making -/
theorem wd_len (G : AG) (g r : GH) (n : Int) : (wd G g r n).length = n.toNat := by simp [wd]
theorem wd_at {G : AG} {g r : GH} {n : Int} {k : Nat} {q : Nat × va_E} (h : (wd G g r n)[k]? = some q) : k < n.toNat ∧ q = (G.1 + k, cellE G g r (k : Int)) := by
  have hl := (List.getElem?_eq_some_iff.mp h).1
  rw [wd_len] at hl
  unfold wd at h
  rw [List.getElem?_map, List.getElem?_range hl] at h
  exact ⟨hl, (Option.some.inj h).symm⟩
theorem wd_get {G : AG} {g r : GH} {n x : Int} (h0 : 0 ≤ x) (h1 : x < n) : (wd G g r n)[x.toNat]? = some (G.1 + x.toNat, cellE G g r x) := by
  unfold wd
  rw [List.getElem?_map, List.getElem?_range (by omega)]
  show some (G.1 + x.toNat, cellE G g r (x.toNat : Int)) = _
  rw [Int.toNat_of_nonneg h0]
theorem cellE_congr {G : AG} {g r g2 r2 : GH} {i : Int} (h : ∀ j, g2 i j = g i j) (h2 : ∀ j, r2 i j = r i j) : cellE G g2 r2 i = cellE G g r i := by
  unfold cellE; simp only [h, h2]
theorem wd_set {G : AG} {g r g2 r2 : GH} {n x : Int} (h0 : 0 ≤ x) (h1 : x < n) (h : ∀ i, i ≠ x → ∀ j, g2 i j = g i j) (h2 : ∀ i, i ≠ x → ∀ j, r2 i j = r i j) :
    (wd G g r n).set x.toNat (G.1 + x.toNat, cellE G g2 r2 x) = wd G g2 r2 n := by
  apply List.ext_getElem?
  intro k
  by_cases hk : x.toNat = k
  · subst hk
    rw [List.getElem?_set_self (by rw [wd_len]; omega), wd_get h0 h1]
  · rw [List.getElem?_set_ne hk]
    by_cases hl : k < n.toNat
    · have e1 := wd_get (G := G) (g := g) (r := r) (n := n) (x := (k : Int)) (by omega) (by omega)
      have e2 := wd_get (G := G) (g := g2) (r := r2) (n := n) (x := (k : Int)) (by omega) (by omega)
      rw [Int.toNat_natCast] at e1 e2
      rw [e1, e2, cellE_congr (h _ (by omega)) (h2 _ (by omega))]
    · rw [List.getElem?_eq_none (by rw [wd_len]; omega), List.getElem?_eq_none (by rw [wd_len]; omega)]
theorem wd_D {G : AG} {g r : GH} {n : Int} : va_D (fun q => G.1 ≤ q) (wd G g r n) := by
  refine ⟨fun i j p q hi hj e => ?_, fun k q hk => ?_⟩
  · obtain ⟨-, rfl⟩ := wd_at hi
    obtain ⟨-, rfl⟩ := wd_at hj
    have e : G.1 + i = G.1 + j := e
    omega
  · obtain ⟨-, rfl⟩ := wd_at hk
    exact Nat.le_add_right _ _
theorem wd_push {G : AG} {g r : GH} {n : Int} (h0 : 0 ≤ n) : wd G g r (n + 1) = wd G g r n ++ [(G.1 + n.toNat, cellE G g r n)] := by
  unfold wd
  rw [show (n + 1).toNat = n.toNat + 1 by omega, List.range_succ, List.map_append]
  show _ ++ [(G.1 + n.toNat, cellE G g r (n.toNat : Int))] = _
  rw [Int.toNat_of_nonneg h0]
theorem cl_at : ∀ c, c ≤ 9 → am_cl[c]? = some (am_nm c, am_T c, am_nf c) := by
  intro c hc
  match c, hc with
  | 0, _ => rfl
  | 1, _ => rfl
  | 2, _ => rfl
  | 3, _ => rfl
  | 4, _ => rfl
  | 5, _ => rfl
  | 6, _ => rfl
  | 7, _ => rfl
  | 8, _ => rfl
  | 9, _ => rfl
theorem U_words : (List.range 10).all (fun c => am_sub (u_ws (am_nm c) (am_T c) (am_nf c)) tables_1) = true := by decide +kernel
theorem T_ok : (List.range 10).all (fun c => (List.range (am_nf c)).all fun j => decide (parseFieldDescriptor (am_T c j).2.2.1 = some (am_fd c j) ∧
   (am_ft c j = 0 → am_fd c j = .int) ∧ (am_ft c j = 1 → am_fd c j = .long) ∧ (am_ft c j = 3 → am_fd c j = .boolean) ∧ (am_ft c j = 2 → (match am_fd c j with | .object _ => true | .array _ => true | _ => false) = true) ∧ (am_ft c j = 0 ∨ am_ft c j = 1 ∨ am_ft c j = 2 ∨ am_ft c j = 3))) = true := by decide +kernel
theorem N_apart : (List.range 10).all (fun c => (List.range (am_nf c)).all fun a => (List.range (am_nf c)).all fun b => decide (a ≠ b → (am_T c a).2.1 ≠ (am_T c b).2.1)) = true := by decide +kernel
theorem u_in {c : Nat} (hc : c ≤ 9) : ∀ w ∈ u_ws (am_nm c) (am_T c) (am_nf c), w ∈ LW := by
  intro w hw
  have h := List.all_eq_true.mp U_words c (List.mem_range.mpr (by omega))
  refine LW_of (am_sub_mem _ _ h w hw) ?_
  obtain ⟨j, -, rfl⟩ := List.mem_map.mp hw
  unfold u_lay
  split <;> rfl
theorem T_at {c j : Nat} (hc : c ≤ 9) (hj : j < am_nf c) : parseFieldDescriptor (am_T c j).2.2.1 = some (am_fd c j) ∧ (am_ft c j = 0 → am_fd c j = .int) ∧ (am_ft c j = 1 → am_fd c j = .long) ∧ (am_ft c j = 3 → am_fd c j = .boolean) ∧ (am_ft c j = 2 → (match am_fd c j with | .object _ => true | .array _ => true | _ => false) = true) ∧ (am_ft c j = 0 ∨ am_ft c j = 1 ∨ am_ft c j = 2 ∨ am_ft c j = 3) := by
  have h := List.all_eq_true.mp (List.all_eq_true.mp T_ok c (List.mem_range.mpr (by omega))) j (List.mem_range.mpr hj)
  exact of_decide_eq_true h
theorem N_at {c a b : Nat} (hc : c ≤ 9) (ha : a < am_nf c) (hb : b < am_nf c) (hne : a ≠ b) : (am_T c a).2.1 ≠ (am_T c b).2.1 := by
  have h := List.all_eq_true.mp (List.all_eq_true.mp (List.all_eq_true.mp N_apart c (List.mem_range.mpr (by omega))) a (List.mem_range.mpr ha)) b (List.mem_range.mpr hb)
  exact (of_decide_eq_true h) hne
theorem cell_obj {G : AG} {g r : GH} {i : Int} {c : Nat} (h : am_sh i = c) (hc : c ≤ 9) : cellE G g r i = .inr (c, (List.range (am_nf c)).map fun j => fvl G (am_ft c j) (g i (j : Int)) (r i (j : Int))) := by
  unfold cellE; rw [h, if_pos hc]
theorem cell_int {G : AG} {g r : GH} {i : Int} {c : Nat} (h : am_sh i = c) (hc : c = 10 ∨ c = 11 ∨ c = 13) : cellE G g r i = .inl (G.2.2.2.2 c, (am_ln i).toNat, .inl fun j => Int32.ofInt (g i (j : Int))) := by
  unfold cellE; rw [h, if_neg (by omega), if_neg (by omega), if_neg (by omega)]
theorem cell_long {G : AG} {g r : GH} {i : Int} (h : am_sh i = 12) : cellE G g r i = .inl (G.2.2.2.2 12, (am_ln i).toNat, .inr (.inl fun j => Int64.ofInt (g i (j : Int)))) := by
  unfold cellE; rw [h, if_neg (by omega), if_pos rfl]
theorem cell_ref {G : AG} {g r : GH} {i : Int} {c : Nat} (h : am_sh i = c) (hc : c = 14 ∨ c = 15) : cellE G g r i = .inl (G.2.2.2.2 c, (am_ln i).toNat, .inr (.inr (.inr (.inr fun j => rfo G (r i (j : Int)))))) := by
  unfold cellE; rw [h, if_neg (by omega), if_neg (by omega), if_pos (by omega)]
theorem am_at_inv {α : Type} {k idx : Nat} {L : List (Nat × α)} {e : α} (h : am_at k idx L = some e) : idx < 100000 ∧ am_lk (am_key k idx) L = some e := by
  unfold am_at at h; split at h
  · exact ⟨‹_›, h⟩
  · cases h
theorem F_at {k idx : Nat} {e : Nat × Nat × Nat × Bool × Nat} (h : am_at k idx am_FL = some e) : e.1 ≤ 9 ∧ e.2.1 < am_nf e.1 ∧ am_ft e.1 e.2.1 = e.2.2.1 ∧ (am_T e.1 e.2.1).2.2.2 = e.2.2.2.1 ∧ (am_T e.1 e.2.1).1 = am_nm e.1 ∧ Cond.fieldLink (am_cn (am_own k)) idx (am_T e.1 e.2.1).1 (am_T e.1 e.2.1).2.1 (am_T e.1 e.2.1).2.2.1 ∈ LW := by
  obtain ⟨hi, h⟩ := am_at_inv h
  have hm := am_lk_mem h
  have h1 := of_decide_eq_true (List.all_eq_true.mp F_ok _ hm)
  have h2 := LW_of (am_sub_mem _ _ F_words _ (List.mem_map_of_mem hm)) rfl
  have e1 : am_key k idx / 100000 = am_own k := by unfold am_key; omega
  have e2 : am_key k idx % 100000 = idx := by unfold am_key; omega
  unfold w_F at h2
  dsimp only at h1 h2
  rw [e1, e2] at h2
  exact ⟨h1.1, h1.2.1, h1.2.2.1, h1.2.2.2.1, h1.2.2.2.2, h2⟩
