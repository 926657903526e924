/-! what the tables' words say of the program as data: checked by the kernel -/
def am_sub : List Cond → List Cond → Bool
  | [], _ => true
  | _ :: _, [] => false
  | w :: ws, t :: ts => if w = t then am_sub ws ts else am_sub (w :: ws) ts
theorem am_sub_mem : ∀ (ws ts : List Cond), am_sub ws ts = true → ∀ w ∈ ws, w ∈ ts
  | [], _, _ => fun w h => absurd h List.not_mem_nil
  | w :: ws, [], h => by simp [am_sub] at h
  | w :: ws, t :: ts, h => by
    unfold am_sub at h
    split at h
    · rename_i e
      intro x hx
      rcases List.mem_cons.mp hx with rfl | hx
      · rw [e]; exact List.mem_cons_self
      · exact List.mem_cons_of_mem _ (am_sub_mem ws ts h x hx)
    · intro x hx
      exact List.mem_cons_of_mem _ (am_sub_mem (w :: ws) ts h x hx)
theorem am_sub_sub : ∀ (ts ws : List Cond), ws.Sublist ts → am_sub ws ts = true
  | [], [], _ => rfl
  | [], w :: ws, h => by cases h
  | t :: ts, [], _ => by simp [am_sub]
  | t :: ts, w :: ws, h => by
    unfold am_sub
    split
    · rename_i e
      subst e
      exact am_sub_sub ts ws (List.cons_sublist_cons.mp h)
    · rename_i e
      cases h with
      | cons _ h => exact am_sub_sub ts (w :: ws) h
      | cons_cons _ h => exact absurd rfl e
theorem am_sub_pk {gs : List Nat} {ts ws : List Cond} (h : am_pk gs ts = ws) : am_sub ws ts = true := am_sub_sub ts ws (h ▸ am_pk_sub gs ts)
def LW : List Cond := lw_tbl.filter goodWord
theorem LW_of {w : Cond} (h : w ∈ tables_1) (hg : goodWord w = true) : w ∈ LW := List.mem_filter.mpr ⟨List.mem_append_right _ h, hg⟩
theorem LW_good {w : Cond} (h : w ∈ LW) : (w.onTables && w.keeps) = true ∨ ∃ ty, w = .arrayClass ty := good_of_word (List.mem_filter.mp h).2
theorem am_lk_mem {α : Type} {k : Nat} {e : α} : ∀ {L : List (Nat × α)}, am_lk k L = some e → (k, e) ∈ L
  | [], h => by simp [am_lk] at h
  | (a, b) :: t, h => by
    unfold am_lk at h
    split at h
    · rename_i ha; cases h; rw [ha]; exact List.mem_cons_self
    · exact List.mem_cons_of_mem _ (am_lk_mem h)
def am_T (c : Nat) : u_T := ((am_cl)[c]?.getD ("", am_T0, 0)).2.1
def am_nm (c : Nat) : String := ((am_cl)[c]?.getD ("", am_T0, 0)).1
def w_F (q : Nat × (Nat × Nat × Nat × Bool × Nat)) : Cond := .fieldLink (am_cn (q.1 / 100000)) (q.1 % 100000) (am_T q.2.1 q.2.2.1).1 (am_T q.2.1 q.2.2.1).2.1 (am_T q.2.1 q.2.2.1).2.2.1
set_option maxRecDepth 100000 in
set_option maxHeartbeats 4000000 in
theorem F_pk : am_pk [33, 0, 0, 0, 0, 0, 0, 0, 0, 0, 0, 0, 0, 43, 0, 0, 0, 0, 0, 0, 0, 0, 0, 0, 0, 0, 0, 0, 0, 0, 0, 0, 0, 0, 31, 0, 0, 0, 0, 0, 0, 0, 0, 0, 0, 0, 0, 0, 0, 0, 0, 0, 0, 0, 0, 0, 0, 0, 0, 0, 0, 0, 0, 0, 0, 0, 0, 0, 0, 0, 0, 27, 0, 0, 0, 0, 0, 0, 13, 0, 0, 0, 0, 0, 0, 0, 0, 0, 0, 0, 0, 0, 0, 0, 0, 0, 0, 19, 0, 0, 0, 0, 0, 0, 0, 0, 0, 0, 0, 0, 0, 0, 0, 0, 0, 0, 0, 0, 0, 0, 0, 0, 0, 0, 40, 0, 0, 0, 16, 0, 0, 0, 7, 0, 0, 0, 0, 0, 0, 0, 0, 0, 0, 0, 0, 0, 0, 0, 0, 0, 676, 0, 0, 0, 0, 0, 0, 0, 0, 0, 0, 0, 0, 0, 0, 0, 0, 0, 0, 0, 0, 0, 0, 0, 0, 0, 0, 0, 0, 0, 0, 0, 0, 0, 0, 0, 0, 0, 0, 0, 0, 0, 0, 0, 0, 0, 0, 0, 0, 0, 0, 0, 0, 0, 0, 0, 0, 0, 0, 0, 0, 0, 0, 0, 0, 0, 0, 0, 0, 0, 0, 0, 0, 0] tables_1 = am_FL.map w_F := rfl
theorem F_words : am_sub (am_FL.map w_F) tables_1 = true := am_sub_pk F_pk
theorem F_ok : (am_FL.all fun q => decide (q.2.1 ≤ 9 ∧ q.2.2.1 < am_nf q.2.1 ∧ am_ft q.2.1 q.2.2.1 = q.2.2.2.1 ∧ (am_T q.2.1 q.2.2.1).2.2.2 = q.2.2.2.2.1 ∧ (am_T q.2.1 q.2.2.1).1 = am_nm q.2.1)) = true := by decide +kernel
def w_C (q : Nat × (Nat × Nat × Nat × Nat)) : Cond := match q.2.2.2.1 with
  | 3 => .methodLinkNest (am_cn (q.1 / 100000)) (q.1 % 100000) (am_y q.2.1) "MillRow"
  | 5 => .methodLinkNest (am_cn (q.1 / 100000)) (q.1 % 100000) (am_y q.2.1) "MillRow"
  | 4 => .methodLink (am_cn (q.1 / 100000)) (q.1 % 100000) arraycopyName
  | 6 => .methodLink (am_cn (q.1 / 100000)) (q.1 % 100000) ⟨"java/lang/String", "length", "()I"⟩
  | 7 => .methodLink (am_cn (q.1 / 100000)) (q.1 % 100000) ⟨"java/lang/String", "charAt", "(I)C"⟩
  | 8 => .methodLink (am_cn (q.1 / 100000)) (q.1 % 100000) objectInit
  | _ => .methodLink (am_cn (q.1 / 100000)) (q.1 % 100000) (am_y q.2.1)
theorem C_words : am_sub (am_CL.map w_C) tables_1 = true := by decide +kernel
theorem IM_words : am_sub (am_IM.map fun k => .instanceMethod (am_y k)) tables_1 = true := by decide +kernel
theorem SM_words : am_sub (am_SM.map fun k => .static (am_y k)) tables_1 = true := by decide +kernel
theorem SE_words : am_sub (am_SE.map fun k => .selects (am_y k).cls (am_y k) (am_y k)) tables_1 = true := by decide +kernel
theorem IN_words : am_sub (am_IN.map fun c => .initialized (am_cn c)) tables_1 = true := by decide +kernel
theorem IS_words : am_sub (am_IS.map fun c => .instantiable (am_nm c) (am_nf c)) tables_1 = true := by decide +kernel
set_option maxRecDepth 100000 in
set_option maxHeartbeats 4000000 in
theorem PL_words : lw_privs.map (fun q => q.1) = am_PL.map am_y := rfl
def M_b (y : MethodName) (a : Nat) (r : Option FieldType) (c o : Nat) (i : Bool) : Bool := decide (a ≤ 41 ∧ y.cls = am_cn o ∧ (i = true → y.name = "<init>") ∧ (c = 0 → r = none) ∧ (c = 1 → r = some .int) ∧ (c = 2 → r = some .boolean) ∧ (c = 3 → r = some .long) ∧ (c = 4 → ((match r with | some (.object _) => true | some (.array _) => true | _ => false) = true)))
def M_w : List MethodName → List Nat → List (Option FieldType) → List Nat → List Nat → List Bool → Bool
  | y :: ys, a :: as, r :: rs, c :: cs, o :: os, i :: is => M_b y a r c o i && M_w ys as rs cs os is
  | [], _, _, _, _, _ => true
  | _, _, _, _, _, _ => false
theorem M_g : ∀ (ys : List MethodName) (as : List Nat) (rs : List (Option FieldType)) (cs os : List Nat) (is : List Bool), M_w ys as rs cs os is = true → ∀ k, k < ys.length → M_b (ys.getD k ⟨"", "", ""⟩) (as.getD k 0) (rs.getD k none) (cs.getD k 0) (os.getD k 0) (is.getD k false) = true
  | [], _, _, _, _, _, _, k, hk => absurd hk (Nat.not_lt_zero k)
  | y :: ys, [], _, _, _, _, h, _, _ => by cases h
  | y :: ys, a :: as, [], _, _, _, h, _, _ => by cases h
  | y :: ys, a :: as, r :: rs, [], _, _, h, _, _ => by cases h
  | y :: ys, a :: as, r :: rs, c :: cs, [], _, h, _, _ => by cases h
  | y :: ys, a :: as, r :: rs, c :: cs, o :: os, [], h, _, _ => by cases h
  | y :: ys, a :: as, r :: rs, c :: cs, o :: os, i :: is, h, 0, _ => (Bool.and_eq_true_iff.mp h).1
  | y :: ys, a :: as, r :: rs, c :: cs, o :: os, i :: is, h, k + 1, hk => M_g ys as rs cs os is (Bool.and_eq_true_iff.mp h).2 k (Nat.lt_of_succ_lt_succ hk)
theorem M_all : M_w am_yL [1, 2, 2, 3, 1, 7, 6, 13, 1, 5, 2, 3, 3, 5, 2, 4, 4, 2, 1, 1, 1, 1, 2, 2, 3, 2, 2, 1, 3, 3, 1, 3, 5, 7, 2, 1, 4, 2, 2, 2, 5, 2, 4, 5, 5, 6, 1, 1, 2, 4, 2, 8, 7, 6, 1, 1, 4, 3, 2, 4, 7, 4, 9, 2, 10, 2, 6, 5, 1, 5, 3, 7, 5, 6, 7, 8, 5, 21, 10, 6, 4, 2, 3, 2, 2, 3, 2, 5, 6, 8, 3, 1, 2, 1, 2, 7, 4, 7, 3, 3, 5, 8, 9, 11, 2, 7, 6, 9, 11, 12, 11, 4, 12, 5, 4, 8, 3, 4, 10, 9, 1, 2, 2, 3, 1, 1, 1, 1, 1, 3, 3, 3, 4, 2, 2, 7, 1, 6, 2, 1, 2, 3, 8, 1, 2, 1, 3, 4, 3, 4, 1, 5, 4, 2, 3, 2, 2, 2, 1, 5, 1, 1, 1, 3, 2, 4, 4, 4, 4, 6, 3, 3, 8, 12, 4, 2, 7, 8, 1, 2, 5, 4, 5, 5, 6, 7, 7, 3, 4, 4, 17, 7, 4, 4, 2, 4, 2, 3, 3, 5, 3, 1, 4, 4, 14, 8, 3, 3, 3, 7, 3, 1, 4, 1, 6, 2, 3, 5, 4, 6, 6, 7, 3, 3, 5, 9, 5, 7, 2, 7, 5, 5, 9, 10, 12, 9, 3, 14, 8, 3, 3, 3, 10, 8, 1, 2, 2, 3, 2, 4, 2, 4, 4, 4] [none, none, none, (some .int), (some .int), none, (some .int), (some .int), none, none, none, (some .int), (some .int), none, (some .int), (some .long), (some .long), (some .int), (some .int), none, none, none, (some .int), none, (some .boolean), (some .int), (some .int), none, none, (some .int), none, none, (some .int), none, (some .int), none, (some .boolean), (some .boolean), (some .boolean), (some .boolean), (some .boolean), (some .boolean), (some .boolean), (some .boolean), (some .boolean), (some .boolean), none, none, (some .boolean), (some .boolean), (some .boolean), (some .int), (some .boolean), (some .boolean), none, none, none, none, (some .boolean), (some .long), (some .long), (some .int), (some .long), (some .long), (some .int), none, (some .int), (some .int), (some .int), (some .int), (some .int), (some .long), (some .int), (some .long), (some .long), (some .long), (some .int), (some .int), (some .int), (some .long), (some .boolean), (some .int), (some .int), (some .int), (some .boolean), (some .long), (some .long), (some .long), (some .int), (some .int), (some .boolean), (some .int), (some .boolean), (some .int), (some .int), none, (some .long), (some .boolean), (some .boolean), (some .int), (some .int), (some .long), (some .int), (some .int), (some .int), (some .int), (some .int), (some .int), (some .long), (some .int), (some .int), (some .int), (some .long), (some .long), (some .int), (some .int), (some .int), (some .int), (some .int), (some .int), (some .int), (some .boolean), (some .int), (some .boolean), (some .boolean), (some .boolean), (some .boolean), (some .boolean), (some .boolean), (some (.object "MillRow$Mill")), (some (.object "MillRow$Wheel")), (some .int), (some .int), (some .int), (some .boolean), (some .long), none, (some .boolean), (some .int), (some .boolean), (some .boolean), none, (some .int), (some .int), none, none, (some .boolean), (some .boolean), none, (some .int), (some .int), none, none, (some .boolean), none, none, none, none, none, (some .int), (some .int), (some .int), (some .int), (some .int), (some .int), (some .int), (some .int), (some .int), (some .int), (some .int), (some .int), (some .int), (some .int), (some .long), (some .long), (some .int), (some .long), (some .long), (some .boolean), (some .boolean), (some .long), (some .int), (some .boolean), (some .long), (some .long), (some .int), (some .long), (some .int), (some .int), (some .long), (some .int), (some .long), none, (some .boolean), (some .int), (some .int), (some .boolean), (some .int), (some .int), (some .boolean), (some .int), none, (some .int), (some .int), (some .int), none, (some .int), (some .int), (some .long), (some .long), (some .int), (some .boolean), (some .int), (some .int), none, (some .boolean), (some .boolean), (some .long), none, (some .boolean), (some .int), (some .int), (some .boolean), (some .int), (some .long), (some .int), (some .int), (some .int), (some .int), (some .int), (some .int), (some .int), (some .int), (some .long), (some .int), (some .int), (some .int), (some .long), (some .int), (some .int), (some .int), (some .int), (some .int), (some .int), (some .int), (some .boolean), (some .int), (some .int), (some .int), (some .long), (some .int), (some .long), none, (some .boolean)] [0, 0, 0, 1, 1, 0, 1, 1, 0, 0, 0, 1, 1, 0, 1, 3, 3, 1, 1, 0, 0, 0, 1, 0, 2, 1, 1, 0, 0, 1, 0, 0, 1, 0, 1, 0, 2, 2, 2, 2, 2, 2, 2, 2, 2, 2, 0, 0, 2, 2, 2, 1, 2, 2, 0, 0, 0, 0, 2, 3, 3, 1, 3, 3, 1, 0, 1, 1, 1, 1, 1, 3, 1, 3, 3, 3, 1, 1, 1, 3, 2, 1, 1, 1, 2, 3, 3, 3, 1, 1, 2, 1, 2, 1, 1, 0, 3, 2, 2, 1, 1, 3, 1, 1, 1, 1, 1, 1, 3, 1, 1, 1, 3, 3, 1, 1, 1, 1, 1, 1, 1, 2, 1, 2, 2, 2, 2, 2, 2, 4, 4, 1, 1, 1, 2, 3, 0, 2, 1, 2, 2, 0, 1, 1, 0, 0, 2, 2, 0, 1, 1, 0, 0, 2, 0, 0, 0, 0, 0, 1, 1, 1, 1, 1, 1, 1, 1, 1, 1, 1, 1, 1, 1, 3, 3, 1, 3, 3, 2, 2, 3, 1, 2, 3, 3, 1, 3, 1, 1, 3, 1, 3, 0, 2, 1, 1, 2, 1, 1, 2, 1, 0, 1, 1, 1, 0, 1, 1, 3, 3, 1, 2, 1, 1, 0, 2, 2, 3, 0, 2, 1, 1, 2, 1, 3, 1, 1, 1, 1, 1, 1, 1, 1, 3, 1, 1, 1, 3, 1, 1, 1, 1, 1, 1, 1, 2, 1, 1, 1, 3, 1, 3, 0, 2] [0, 0, 0, 0, 0, 0, 0, 0, 1, 1, 1, 1, 1, 1, 1, 1, 1, 2, 2, 3, 3, 3, 3, 4, 4, 4, 4, 5, 5, 5, 6, 6, 6, 6, 6, 6, 6, 6, 6, 6, 6, 6, 6, 6, 6, 6, 7, 7, 7, 7, 7, 7, 7, 7, 8, 8, 8, 8, 8, 8, 8, 8, 8, 8, 8, 9, 9, 9, 9, 9, 9, 9, 9, 9, 9, 9, 9, 9, 9, 9, 9, 9, 9, 9, 9, 9, 9, 9, 9, 9, 9, 9, 9, 9, 9, 9, 9, 9, 9, 9, 9, 9, 9, 9, 9, 9, 9, 9, 9, 9, 9, 9, 9, 9, 9, 9, 9, 9, 9, 9, 9, 9, 9, 9, 9, 9, 9, 9, 9, 9, 9, 9, 9, 9, 9, 9, 10, 10, 10, 10, 10, 10, 10, 10, 10, 10, 10, 10, 10, 10, 10, 10, 10, 10, 10, 10, 10, 10, 10, 10, 10, 10, 10, 10, 10, 10, 10, 10, 10, 10, 10, 10, 10, 10, 10, 10, 10, 10, 10, 10, 10, 10, 10, 10, 10, 10, 10, 10, 10, 10, 10, 10, 10, 10, 10, 10, 10, 10, 10, 10, 10, 10, 10, 10, 10, 10, 10, 10, 10, 10, 10, 10, 10, 10, 10, 10, 10, 10, 10, 10, 10, 10, 10, 10, 10, 10, 10, 10, 10, 10, 10, 10, 10, 10, 10, 10, 10, 10, 10, 10, 10, 10, 10, 10, 10, 10, 10, 12, 12, 12, 12, 12, 13, 11] [true, false, false, false, false, false, false, false, true, false, false, false, false, false, false, false, false, false, false, true, false, false, false, true, false, false, false, true, false, false, true, false, false, false, false, false, false, false, false, false, false, false, false, false, false, false, true, false, false, false, false, false, false, false, true, false, false, false, false, false, false, false, false, false, false, true, false, false, false, false, false, false, false, false, false, false, false, false, false, false, false, false, false, false, false, false, false, false, false, false, false, false, false, false, false, false, false, false, false, false, false, false, false, false, false, false, false, false, false, false, false, false, false, false, false, false, false, false, false, false, false, false, false, false, false, false, false, false, false, false, false, false, false, false, false, false, true, false, false, false, false, false, false, false, false, false, false, false, false, false, false, false, false, false, false, false, false, false, false, false, false, false, false, false, false, false, false, false, false, false, false, false, false, false, false, false, false, false, false, false, false, false, false, false, false, false, false, false, false, false, false, false, false, false, false, false, false, false, false, false, false, false, false, false, false, false, false, false, false, false, false, false, false, false, false, false, false, false, false, false, false, false, false, false, false, false, false, false, false, false, false, false, false, false, false, false, false, false, false, false, false, false, false, false, false, false, false, false, false, false, false, false, false, false] = true := by decide +kernel
theorem M_lt : ∀ k ∈ am_CO, k < am_yL.length := by decide +kernel
theorem M_ok : (am_CO.all fun k => decide (am_maxL k ≤ 41 ∧ (am_y k).cls = am_cn (am_own k) ∧ (am_isI k = true → (am_y k).name = "<init>") ∧ (am_rc k = 0 → am_ret k = none) ∧ (am_rc k = 1 → am_ret k = some .int) ∧ (am_rc k = 2 → am_ret k = some .boolean) ∧ (am_rc k = 3 → am_ret k = some .long) ∧ (am_rc k = 4 → ((match am_ret k with | some (.object _) => true | some (.array _) => true | _ => false) = true)))) = true := List.all_eq_true.mpr fun k hk => M_g _ _ _ _ _ _ M_all k (M_lt k hk)
def w_K (q : Nat × (Nat × Int × Nat)) : Cond := if q.2.1 = 0 then .constant (am_cn (q.1 / 100000)) (q.1 % 100000) (Int32.ofInt q.2.2.1) else .constantLong (am_cn (q.1 / 100000)) (q.1 % 100000) (Int64.ofInt q.2.2.1)
theorem K_pk : am_pk [563, 94, 3, 9, 4, 31, 2, 0, 11, 12, 9, 0, 4, 77, 4, 9, 0, 0, 0, 0, 4, 92, 8, 32, 7, 0, 286, 11, 0, 0, 0, 0, 0, 0, 4, 16, 0, 4, 0, 0, 0, 0, 8, 0, 0, 0, 0, 4, 4, 8, 0, 0, 0, 0, 8, 0, 16, 3, 18, 0, 0, 40, 4, 12, 4, 0, 3, 8, 12, 0, 0, 4, 12, 12, 0, 4, 4, 68, 0, 4, 48, 0, 7, 0, 4, 8, 7, 4, 4, 0, 4, 20] tables_1 = am_KL.map w_K := by decide +kernel
theorem K_in : ∀ q ∈ am_KL.map w_K, q ∈ tables_1 := am_pk_in K_pk
theorem K_ok : (am_KL.all fun q => decide ((q.2.1 = 0 → -2147483648 ≤ q.2.2.1 ∧ q.2.2.1 < 2147483648) ∧ (-9223372036854775808 ≤ q.2.2.1 ∧ q.2.2.1 < 9223372036854775808))) = true := by decide +kernel
def w_N (q : Nat × (Nat × Nat)) : Cond := .classLink (am_cn (q.1 / 100000)) (q.1 % 100000) (am_nm q.2.1)
theorem N_pk : am_pk [19, 7, 42, 6, 5, 115, 55, 1, 63, 19, 707] tables_1 = am_NL.map w_N := by decide +kernel
theorem N_in : ∀ q ∈ am_NL.map w_N, q ∈ tables_1 := am_pk_in N_pk
theorem N_ok : (am_NL.all fun q => decide (q.2.1 ≤ 9 ∧ q.2.1 ∈ am_IS)) = true := by decide +kernel
theorem IS_ini : (am_IS.all fun c => decide (Cond.initialized (am_nm c) ∈ tables_1)) = true := by decide +kernel
set_option maxRecDepth 100000 in
set_option maxHeartbeats 4000000 in
theorem arr_pk : am_pk [69, 1, 247, 0, 291, 665] tables_1 = [Cond.arrayClass .int, Cond.arrayOver (.object "MillRow$Mill"), Cond.arrayClass .long, Cond.arrayOver (.object "MillRow$Brook"), Cond.arrayClass .byte, Cond.arrayClass .boolean] := rfl
theorem arr_in : Cond.arrayClass .int ∈ tables_1 ∧ Cond.arrayClass .long ∈ tables_1 ∧ Cond.arrayClass .boolean ∈ tables_1 ∧ Cond.arrayClass .byte ∈ tables_1 ∧ Cond.arrayOver (.object "MillRow$Mill") ∈ tables_1 ∧ Cond.arrayOver (.object "MillRow$Brook") ∈ tables_1 :=
  ⟨am_pk_in arr_pk _ (by simp only [List.mem_cons, true_or, or_true]), am_pk_in arr_pk _ (by simp only [List.mem_cons, true_or, or_true]), am_pk_in arr_pk _ (by simp only [List.mem_cons, true_or, or_true]), am_pk_in arr_pk _ (by simp only [List.mem_cons, true_or, or_true]), am_pk_in arr_pk _ (by simp only [List.mem_cons, true_or, or_true]), am_pk_in arr_pk _ (by simp only [List.mem_cons, true_or, or_true])⟩
set_option maxRecDepth 100000 in
set_option maxHeartbeats 4000000 in
theorem cp_pk : am_pk [18, 888, 0] tables_1 = [Cond.initialized "java/lang/System", Cond.static arraycopyName, Cond.native arraycopyName] := rfl
theorem cp_in : Cond.native arraycopyName ∈ tables_1 ∧ Cond.static arraycopyName ∈ tables_1 ∧ Cond.initialized "java/lang/System" ∈ tables_1 :=
  ⟨am_pk_in cp_pk _ (by simp only [List.mem_cons, true_or, or_true]), am_pk_in cp_pk _ (by simp only [List.mem_cons, true_or, or_true]), am_pk_in cp_pk _ (by simp only [List.mem_cons, true_or, or_true])⟩
set_option maxRecDepth 100000 in
set_option maxHeartbeats 4000000 in
theorem ob_pk : am_pk [25, 0] tables_1 = [Cond.instanceMethod objectInit, Cond.code objectInit ⟨#[0xb1]⟩ 1 none] := rfl
theorem ob_in : Cond.instanceMethod objectInit ∈ tables_1 ∧ Cond.code objectInit ⟨#[0xb1]⟩ 1 none ∈ tables_1 :=
  ⟨am_pk_in ob_pk _ (by simp only [List.mem_cons, true_or, or_true]), am_pk_in ob_pk _ (by simp only [List.mem_cons, true_or, or_true])⟩
def am_np (k : Nat) : Nat := ([0, 1, 1, 0, 0, 2, 1, 3, 0, 1, 1, 1, 1, 2, 1, 0, 0, 1, 1, 0, 0, 0, 1, 1, 2, 1, 1, 0, 2, 2, 0, 1, 2, 1, 1, 0, 1, 1, 1, 1, 2, 1, 1, 2, 2, 2, 0, 0, 1, 3, 1, 5, 2, 1, 0, 0, 3, 2, 1, 3, 3, 1, 4, 1, 3, 0, 5, 2, 0, 2, 2, 4, 3, 4, 5, 5, 3, 5, 5, 4, 3, 1, 1, 1, 1, 2, 1, 4, 3, 3, 2, 0, 1, 1, 2, 3, 2, 1, 2, 2, 1, 1, 2, 3, 1, 0, 3, 4, 5, 4, 4, 2, 4, 1, 1, 2, 1, 2, 2, 3, 0, 1, 1, 3, 1, 1, 1, 1, 0, 1, 1, 0, 3, 1, 1, 1, 0, 3, 1, 0, 1, 2, 5, 0, 0, 0, 1, 1, 1, 2, 0, 4, 0, 0, 0, 0, 0, 0, 0, 2, 0, 1, 1, 2, 1, 3, 2, 3, 2, 3, 2, 1, 4, 4, 3, 1, 4, 5, 1, 1, 4, 3, 4, 4, 5, 4, 5, 1, 3, 3, 5, 4, 2, 3, 1, 1, 1, 1, 2, 1, 1, 0, 1, 2, 4, 1, 0, 1, 2, 1, 2, 0, 0, 0, 3, 1, 2, 4, 2, 1, 3, 3, 2, 2, 1, 2, 1, 3, 1, 0, 2, 3, 4, 5, 4, 4, 2, 4, 2, 1, 2, 0, 2, 3, 0, 1, 1, 2, 2, 2, 2, 2, 2, 1] : List Nat).getD k 0
def P_b (y : MethodName) (n : Nat) : Bool := decide ((parseMethodDescriptor y.desc).map (fun d => d.parameters.length) = some n)
def P_w : List MethodName → List Nat → Bool
  | y :: ys, n :: ns => P_b y n && P_w ys ns
  | [], _ => true
  | _, _ => false
theorem P_g : ∀ (ys : List MethodName) (ns : List Nat), P_w ys ns = true → ∀ k, k < ys.length → P_b (ys.getD k ⟨"", "", ""⟩) (ns.getD k 0) = true
  | [], _, _, k, hk => absurd hk (Nat.not_lt_zero k)
  | y :: ys, [], h, _, _ => by cases h
  | y :: ys, n :: ns, h, 0, _ => (Bool.and_eq_true_iff.mp h).1
  | y :: ys, n :: ns, h, k + 1, hk => P_g ys ns (Bool.and_eq_true_iff.mp h).2 k (Nat.lt_of_succ_lt_succ hk)
theorem P_all : P_w am_yL [0, 1, 1, 0, 0, 2, 1, 3, 0, 1, 1, 1, 1, 2, 1, 0, 0, 1, 1, 0, 0, 0, 1, 1, 2, 1, 1, 0, 2, 2, 0, 1, 2, 1, 1, 0, 1, 1, 1, 1, 2, 1, 1, 2, 2, 2, 0, 0, 1, 3, 1, 5, 2, 1, 0, 0, 3, 2, 1, 3, 3, 1, 4, 1, 3, 0, 5, 2, 0, 2, 2, 4, 3, 4, 5, 5, 3, 5, 5, 4, 3, 1, 1, 1, 1, 2, 1, 4, 3, 3, 2, 0, 1, 1, 2, 3, 2, 1, 2, 2, 1, 1, 2, 3, 1, 0, 3, 4, 5, 4, 4, 2, 4, 1, 1, 2, 1, 2, 2, 3, 0, 1, 1, 3, 1, 1, 1, 1, 0, 1, 1, 0, 3, 1, 1, 1, 0, 3, 1, 0, 1, 2, 5, 0, 0, 0, 1, 1, 1, 2, 0, 4, 0, 0, 0, 0, 0, 0, 0, 2, 0, 1, 1, 2, 1, 3, 2, 3, 2, 3, 2, 1, 4, 4, 3, 1, 4, 5, 1, 1, 4, 3, 4, 4, 5, 4, 5, 1, 3, 3, 5, 4, 2, 3, 1, 1, 1, 1, 2, 1, 1, 0, 1, 2, 4, 1, 0, 1, 2, 1, 2, 0, 0, 0, 3, 1, 2, 4, 2, 1, 3, 3, 2, 2, 1, 2, 1, 3, 1, 0, 2, 3, 4, 5, 4, 4, 2, 4, 2, 1, 2, 0, 2, 3, 0, 1, 1, 2, 2, 2, 2, 2, 2, 1] = true := by decide +kernel
theorem C_n : (am_CL.all fun q => decide ((q.2.2.2.1 ≤ 3 ∨ q.2.2.2.1 = 5) → q.2.1 ∈ am_CO ∧ am_own q.2.1 ∈ am_IN ∧ am_np q.2.1 = q.2.2.1 ∧
    (q.2.2.2.1 = 0 → q.2.1 ∈ am_IM ∧ (q.2.1 ∈ am_SE ∨ q.2.1 ∈ am_PL) ∧ am_kd (am_own q.2.1) ≤ 9) ∧ ((q.2.2.2.1 = 1 ∨ q.2.2.2.1 = 5) → q.2.1 ∈ am_SM) ∧ ((q.2.2.2.1 = 2 ∨ q.2.2.2.1 = 3) → q.2.1 ∈ am_IM ∧ am_isI q.2.1 = true ∧ am_rc q.2.1 = 0))) = true := by decide +kernel
theorem C_cn : ∀ c ∈ am_IN, am_cn c ≠ "java/lang/invoke/MethodHandle" ∧ am_cn c ≠ "java/lang/invoke/VarHandle" ∧ (am_kd c ≤ 9 → am_nm (am_kd c) = am_cn c) := by decide +kernel
theorem C_ok : (am_CL.all fun q => decide ((q.2.2.2.1 ≤ 3 ∨ q.2.2.2.1 = 5) → q.2.1 ∈ am_CO ∧ am_own q.2.1 ∈ am_IN ∧ (am_y q.2.1).cls = am_cn (am_own q.2.1) ∧ (am_y q.2.1).cls ≠ "java/lang/invoke/MethodHandle" ∧ (am_y q.2.1).cls ≠ "java/lang/invoke/VarHandle" ∧ (parseMethodDescriptor (am_y q.2.1).desc).map (fun d => d.parameters.length) = some q.2.2.1 ∧
    (q.2.2.2.1 = 0 → q.2.1 ∈ am_IM ∧ (q.2.1 ∈ am_SE ∨ q.2.1 ∈ am_PL) ∧ am_kd (am_own q.2.1) ≤ 9 ∧ am_nm (am_kd (am_own q.2.1)) = (am_y q.2.1).cls) ∧ ((q.2.2.2.1 = 1 ∨ q.2.2.2.1 = 5) → q.2.1 ∈ am_SM) ∧ ((q.2.2.2.1 = 2 ∨ q.2.2.2.1 = 3) → q.2.1 ∈ am_IM ∧ (am_y q.2.1).name = "<init>" ∧ am_rc q.2.1 = 0 ∧ am_ret q.2.1 = none))) = true := List.all_eq_true.mpr fun q hq => decide_eq_true fun hm => by
  obtain ⟨h1, h2, h3, h4, h5, h6⟩ := of_decide_eq_true (List.all_eq_true.mp C_n q hq) hm
  have hM := of_decide_eq_true (List.all_eq_true.mp M_ok _ h1)
  have hN := C_cn _ h2
  refine ⟨h1, h2, hM.2.1, by rw [hM.2.1]; exact hN.1, by rw [hM.2.1]; exact hN.2.1, ?_, fun e => ⟨(h4 e).1, (h4 e).2.1, (h4 e).2.2, by rw [hM.2.1]; exact hN.2.2 (h4 e).2.2⟩, h5, fun e => ⟨(h6 e).1, hM.2.2.1 (h6 e).2.1, (h6 e).2.2, hM.2.2.2.1 (h6 e).2.2⟩⟩
  rw [← h3]
  exact of_decide_eq_true (P_g _ _ P_all _ (M_lt _ h1))
theorem PF_c : (List.range 12).all (fun c => plainName (am_cn c)) = true := by decide +kernel
theorem PF_r : (am_CO.all fun k => decide (am_own k < 12) || plainFor (am_y k)) = true := by decide +kernel
theorem PF_ok : (am_CO.all fun k => decide (plainFor (am_y k) = true)) = true := List.all_eq_true.mpr fun k hk => decide_eq_true (by
  rcases Bool.or_eq_true_iff.mp (List.all_eq_true.mp PF_r k hk) with h | h
  · refine plainFor_of_name ?_
    rw [(of_decide_eq_true (List.all_eq_true.mp M_ok k hk)).2.1]
    exact List.all_eq_true.mp PF_c _ (List.mem_range.mpr (of_decide_eq_true h))
  · exact h)
def sh_w : List Nat → List Nat → List Nat → Bool
  | s :: ss, l :: ls, c0 :: c1 :: cs => decide (s ≤ 15 ∧ c1 = c0 + l ∧ l ≤ 4000) && sh_w ss ls (c1 :: cs)
  | [], _, _ => true
  | _, _, _ => false
theorem sh_g : ∀ (ss ls cs : List Nat), sh_w ss ls cs = true → ∀ i, i < ss.length → ss.getD i 99 ≤ 15 ∧ cs.getD (i + 1) 0 = cs.getD i 0 + ls.getD i 0 ∧ ls.getD i 0 ≤ 4000
  | [], _, _, _, i, hi => absurd hi (Nat.not_lt_zero i)
  | s :: ss, [], _, h, _, _ => by cases h
  | s :: ss, l :: ls, [], h, _, _ => by cases h
  | s :: ss, l :: ls, [c], h, _, _ => by cases h
  | s :: ss, l :: ls, c0 :: c1 :: cs, h, 0, _ => of_decide_eq_true (Bool.and_eq_true_iff.mp h).1
  | s :: ss, l :: ls, c0 :: c1 :: cs, h, i + 1, hi => sh_g ss ls (c1 :: cs) (Bool.and_eq_true_iff.mp h).2 i (Nat.lt_of_succ_lt_succ hi)
theorem sh_all : sh_w am_shT am_lnT am_csT = true := by decide +kernel
theorem sh_len : am_shT.length = 218 := by decide +kernel
theorem sh_ok : (List.range 218).all (fun i => decide (am_sh (i : Int) ≤ 15 ∧ am_cs ((i : Int) + 1) = am_cs (i : Int) + (am_ln (i : Int)).toNat ∧ (am_ln (i : Int)).toNat ≤ 4000)) = true := List.all_eq_true.mpr fun i hi => decide_eq_true (sh_g _ _ _ sh_all i (by rw [sh_len]; exact List.mem_range.mp hi))
