/-! what the tables' words say of the program as data: checked by the kernel -/
def am_sub : List Cond → List Cond → Bool
  | [], _ => true
  | _ :: _, [] => false
  | w :: ws, t :: ts => if w = t then am_sub ws ts else am_sub (w :: ws) ts
theorem am_sub_mem : ∀ (ws ts : List Cond), am_sub ws ts = true → ∀ w ∈ ws, w ∈ ts
  | [], _, _ => fun w h => absurd h List.not_mem_nil
  | w :: ws, [], h => by simp [am_sub] at h
  | w :: ws, t :: ts, h => by
    unfold am_sub at h
    split at h
    · rename_i e
      intro x hx
      rcases List.mem_cons.mp hx with rfl | hx
      · rw [e]; exact List.mem_cons_self
      · exact List.mem_cons_of_mem _ (am_sub_mem ws ts h x hx)
    · intro x hx
      exact List.mem_cons_of_mem _ (am_sub_mem (w :: ws) ts h x hx)
def LW : List Cond := lw_tbl.filter goodWord
theorem LW_of {w : Cond} (h : w ∈ tables_1) (hg : goodWord w = true) : w ∈ LW := List.mem_filter.mpr ⟨List.mem_append_right _ h, hg⟩
theorem LW_good {w : Cond} (h : w ∈ LW) : (w.onTables && w.keeps) = true ∨ ∃ ty, w = .arrayClass ty := good_of_word (List.mem_filter.mp h).2
theorem am_lk_mem {α : Type} {k : Nat} {e : α} : ∀ {L : List (Nat × α)}, am_lk k L = some e → (k, e) ∈ L
  | [], h => by simp [am_lk] at h
  | (a, b) :: t, h => by
    unfold am_lk at h
    split at h
    · rename_i ha; cases h; rw [ha]; exact List.mem_cons_self
    · exact List.mem_cons_of_mem _ (am_lk_mem h)
def am_T (c : Nat) : u_T := ((am_cl)[c]?.getD ("", am_T0, 0)).2.1
def am_nm (c : Nat) : String := ((am_cl)[c]?.getD ("", am_T0, 0)).1
def w_F (q : Nat × (Nat × Nat × Nat × Bool × Nat)) : Cond := .fieldLink (am_cn (q.1 / 100000)) (q.1 % 100000) (am_T q.2.1 q.2.2.1).1 (am_T q.2.1 q.2.2.1).2.1 (am_T q.2.1 q.2.2.1).2.2.1
theorem F_words : am_sub (am_FL.map w_F) tables_1 = true := by decide +kernel
theorem F_ok : (am_FL.all fun q => decide (q.2.1 ≤ 9 ∧ q.2.2.1 < am_nf q.2.1 ∧ am_ft q.2.1 q.2.2.1 = q.2.2.2.1 ∧ (am_T q.2.1 q.2.2.1).2.2.2 = q.2.2.2.2.1 ∧ (am_T q.2.1 q.2.2.1).1 = am_nm q.2.1)) = true := by decide +kernel
def w_C (q : Nat × (Nat × Nat × Nat × Nat)) : Cond := match q.2.2.2.1 with
  | 3 => .methodLinkNest (am_cn (q.1 / 100000)) (q.1 % 100000) (am_y q.2.1) "MillRow"
  | 5 => .methodLinkNest (am_cn (q.1 / 100000)) (q.1 % 100000) (am_y q.2.1) "MillRow"
  | 4 => .methodLink (am_cn (q.1 / 100000)) (q.1 % 100000) arraycopyName
  | 6 => .methodLink (am_cn (q.1 / 100000)) (q.1 % 100000) ⟨"java/lang/String", "length", "()I"⟩
  | 7 => .methodLink (am_cn (q.1 / 100000)) (q.1 % 100000) ⟨"java/lang/String", "charAt", "(I)C"⟩
  | 8 => .methodLink (am_cn (q.1 / 100000)) (q.1 % 100000) objectInit
  | _ => .methodLink (am_cn (q.1 / 100000)) (q.1 % 100000) (am_y q.2.1)
theorem C_words : am_sub (am_CL.map w_C) tables_1 = true := by decide +kernel
theorem IM_words : am_sub (am_IM.map fun k => .instanceMethod (am_y k)) tables_1 = true := by decide +kernel
theorem SM_words : am_sub (am_SM.map fun k => .static (am_y k)) tables_1 = true := by decide +kernel
theorem SE_words : am_sub (am_SE.map fun k => .selects (am_y k).cls (am_y k) (am_y k)) tables_1 = true := by decide +kernel
theorem IN_words : am_sub (am_IN.map fun c => .initialized (am_cn c)) tables_1 = true := by decide +kernel
theorem IS_words : am_sub (am_IS.map fun c => .instantiable (am_nm c) (am_nf c)) tables_1 = true := by decide +kernel
theorem PL_words : lw_privs.map (fun q => q.1) = am_PL.map am_y := by decide +kernel
theorem C_ok : (am_CL.all fun q => decide ((q.2.2.2.1 ≤ 3 ∨ q.2.2.2.1 = 5) → q.2.1 ∈ am_CO ∧ am_own q.2.1 ∈ am_IN ∧ (am_y q.2.1).cls = am_cn (am_own q.2.1) ∧ (am_y q.2.1).cls ≠ "java/lang/invoke/MethodHandle" ∧ (am_y q.2.1).cls ≠ "java/lang/invoke/VarHandle" ∧ (parseMethodDescriptor (am_y q.2.1).desc).map (fun d => d.parameters.length) = some q.2.2.1 ∧
    (q.2.2.2.1 = 0 → q.2.1 ∈ am_IM ∧ (q.2.1 ∈ am_SE ∨ q.2.1 ∈ am_PL) ∧ am_kd (am_own q.2.1) ≤ 9 ∧ am_nm (am_kd (am_own q.2.1)) = (am_y q.2.1).cls) ∧ ((q.2.2.2.1 = 1 ∨ q.2.2.2.1 = 5) → q.2.1 ∈ am_SM) ∧ ((q.2.2.2.1 = 2 ∨ q.2.2.2.1 = 3) → q.2.1 ∈ am_IM ∧ (am_y q.2.1).name = "<init>" ∧ am_rc q.2.1 = 0 ∧ am_ret q.2.1 = none))) = true := by decide +kernel
theorem M_ok : (am_CO.all fun k => decide (am_maxL k ≤ 41 ∧ (am_y k).cls = am_cn (am_own k) ∧ (am_isI k = true → (am_y k).name = "<init>") ∧ (am_rc k = 0 → am_ret k = none) ∧ (am_rc k = 1 → am_ret k = some .int) ∧ (am_rc k = 2 → am_ret k = some .boolean) ∧ (am_rc k = 3 → am_ret k = some .long) ∧ (am_rc k = 4 → ((match am_ret k with | some (.object _) => true | some (.array _) => true | _ => false) = true)))) = true := by decide +kernel
def w_K (q : Nat × (Nat × Int × Nat)) : Cond := if q.2.1 = 0 then .constant (am_cn (q.1 / 100000)) (q.1 % 100000) (Int32.ofInt q.2.2.1) else .constantLong (am_cn (q.1 / 100000)) (q.1 % 100000) (Int64.ofInt q.2.2.1)
theorem K_in : ∀ q ∈ am_KL.map w_K, q ∈ tables_1 := by decide +kernel
theorem K_ok : (am_KL.all fun q => decide ((q.2.1 = 0 → -2147483648 ≤ q.2.2.1 ∧ q.2.2.1 < 2147483648) ∧ (-9223372036854775808 ≤ q.2.2.1 ∧ q.2.2.1 < 9223372036854775808))) = true := by decide +kernel
def w_N (q : Nat × (Nat × Nat)) : Cond := .classLink (am_cn (q.1 / 100000)) (q.1 % 100000) (am_nm q.2.1)
theorem N_in : ∀ q ∈ am_NL.map w_N, q ∈ tables_1 := by decide +kernel
theorem N_ok : (am_NL.all fun q => decide (q.2.1 ≤ 9 ∧ q.2.1 ∈ am_IS)) = true := by decide +kernel
theorem IS_ini : (am_IS.all fun c => decide (Cond.initialized (am_nm c) ∈ tables_1)) = true := by decide +kernel
theorem arr_in : Cond.arrayClass .int ∈ tables_1 ∧ Cond.arrayClass .long ∈ tables_1 ∧ Cond.arrayClass .boolean ∈ tables_1 ∧ Cond.arrayClass .byte ∈ tables_1 ∧ Cond.arrayOver (.object "MillRow$Mill") ∈ tables_1 ∧ Cond.arrayOver (.object "MillRow$Brook") ∈ tables_1 := by decide +kernel
theorem cp_in : Cond.native arraycopyName ∈ tables_1 ∧ Cond.static arraycopyName ∈ tables_1 ∧ Cond.initialized "java/lang/System" ∈ tables_1 := by decide +kernel
theorem ob_in : Cond.instanceMethod objectInit ∈ tables_1 ∧ Cond.code objectInit ⟨#[0xb1]⟩ 1 none ∈ tables_1 := by decide +kernel
theorem sh_ok : (List.range 218).all (fun i => decide (am_sh (i : Int) ≤ 15 ∧ am_cs ((i : Int) + 1) = am_cs (i : Int) + (am_ln (i : Int)).toNat ∧ (am_ln (i : Int)).toNat ≤ 4000)) = true := by decide +kernel
theorem PF_ok : (am_CO.all fun k => decide (plainFor (am_y k) = true)) = true := by decide +kernel
