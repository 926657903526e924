/-! contracts -/
def WA (G : AG) (sc : SCR) (U : State) (g r : GH) (n : Int) : Prop := U.heap.size = G.1 + n.toNat ∧ va_P G.2.2.2.1 am_cl (wd G g r n) U.heap ∧ va_K G.2.2.2.1 am_cl (tyA G) U ∧ TXs G sc U
def rvO (G : AG) (rc : Nat) (v : Int) : Option Value := if rc = 0 then none else if rc = 3 then some (.long (Int64.ofInt v)) else if rc = 4 then some (va_rf (rfo G v)) else some (.int (Int32.ofInt v))
def okRet (rc : Nat) (v : Int) : Prop := (rc = 1 ∨ rc = 2 → rI v) ∧ (rc = 3 → rL v) ∧ (rc = 4 → rR v)
def QcA (G : AG) (k : Nat) (n : Int) (Q : Int → GH → GH → Int → Prop) : Array Value → State → Outcome → State → Prop := fun _ st oc t => ∃ (v : Int) (g2 r2 : GH), oc = .returned (rvO G (am_rc k) v) ∧ okRet (am_rc k) v ∧ Q v g2 r2 (n + am_mk k) ∧ okG g2 r2 ∧ va_P G.2.2.2.1 am_cl (wd G g2 r2 (n + am_mk k)) t.heap ∧ (∀ q, q < G.1 → t.heap[q]? = st.heap[q]?) ∧ st.heap.size ≤ t.heap.size
def rmd (d k : Nat) (n : Int) : Room := { frames := d, cells := am_mk k, slots := am_cs (n + am_mk k) - am_cs n, locals := 64 * d }
def wsK (k : Nat) : List Cond := Cond.code (am_y k) (am_code k) (am_maxL k) (am_ret k) :: LW
/-- the contracts of all methods at a depth -/
def SD (l : Launch) (G : AG) (sc : SCR) (d : Nat) (C : CTR) : Prop := ∀ (k : Nat) (as : List AV) (g r : GH) (n : Int) (Q : Int → GH → GH → Int → Prop), k ∈ am_CO → C k as g r n Q → 0 ≤ n → n + am_mk k ≤ 218 → (∀ v ∈ as, okv v) → okG g r →
  Met l (am_y k) (wsK k) (rmd d k n) (va_Pc (as.map (tv G)) (fun U => WA G sc U g r n)) (QcA G k n Q) (am_mk k) (am_cs (n + am_mk k) - am_cs n) (fun q => G.1 ≤ q)
theorem CO_in {k : Nat} (h : k ∈ am_CO) : Cond.code (am_y k) (am_code k) (am_maxL k) (am_ret k) ∈ LW := by
  have h1 : Cond.code (am_y k) (am_code k) (am_maxL k) (am_ret k) ∈ am_CO.map fun k => Cond.code (am_y k) (am_code k) (am_maxL k) (am_ret k) := List.mem_map_of_mem (f := fun k => Cond.code (am_y k) (am_code k) (am_maxL k) (am_ret k)) h
  exact LW_of (am_pk_in CO_words _ h1) rfl
theorem M_at {k : Nat} (h : k ∈ am_CO) : am_maxL k ≤ 41 ∧ (am_y k).cls = am_cn (am_own k) ∧ (am_isI k = true → (am_y k).name = "<init>") ∧ (am_rc k = 0 → am_ret k = none) ∧ (am_rc k = 1 → am_ret k = some .int) ∧ (am_rc k = 2 → am_ret k = some .boolean) ∧ (am_rc k = 3 → am_ret k = some .long) ∧ (am_rc k = 4 → ((match am_ret k with | some (.object _) => true | some (.array _) => true | _ => false) = true)) :=
  of_decide_eq_true (List.all_eq_true.mp M_ok _ h)
theorem C_at {k idx : Nat} {e : Nat × Nat × Nat × Nat} (h : am_at k idx am_CL = some e) : (am_key k idx, e) ∈ am_CL ∧ am_key k idx / 100000 = am_own k ∧ am_key k idx % 100000 = idx ∧ w_C (am_key k idx, e) ∈ tables_1 := by
  obtain ⟨hi, h⟩ := am_at_inv h
  have hm := am_lk_mem h
  exact ⟨hm, by unfold am_key; omega, by unfold am_key; omega, am_sub_mem _ _ C_words _ (List.mem_map_of_mem hm)⟩
theorem sel_in {k : Nat} (h : k ∈ am_SE ∨ k ∈ am_PL) : Cond.selects (am_y k).cls (am_y k) (am_y k) ∈ LW := by
  rcases h with h | h
  · exact LW_of (am_sub_mem _ _ SE_words _ (List.mem_map_of_mem (f := fun k => Cond.selects (am_y k).cls (am_y k) (am_y k)) h)) rfl
  · have h1 : am_y k ∈ am_PL.map am_y := List.mem_map_of_mem h
    rw [← PL_words] at h1
    obtain ⟨q, hq, he⟩ := List.mem_map.mp h1
    refine List.mem_filter.mpr ⟨List.mem_append_left _ (List.mem_map.mpr ⟨q, hq, ?_⟩), rfl⟩
    rw [he]
theorem TX_move {G : AG} {sc : SCR} {u U : State} (hvm : u.vm.Alike U.vm) (hr : StrR G u → StrR G U) (hn : ∀ q ∈ am_CL, (q.2.2.2.1 = 3 ∨ q.2.2.2.1 = 5) → va_Nw (w_C q) u → va_Nw (w_C q) U) (hq : ∀ a : Nat, a < u.heap.size → ¬ G.1 ≤ a → U.heap[a]? = u.heap[a]?) (h : TXs G sc u) : TXs G sc U := by
  obtain ⟨t1, t2, t3, t4, t5, t6, ⟨adV, t7, t8, t9⟩, t10, t11, t12⟩ := h
  have hlt : G.2.1 < u.heap.size := by obtain ⟨scr, q1, -⟩ := t1; exact (Array.getElem?_eq_some_iff.mp q1).1
  exact ⟨(t1.moved hvm).kept (hq _ hlt (Nat.not_le.mpr t2)), t2, t3, t4, t5, hr t6, ⟨adV, (t7.moved hvm).kept hq, (t8.moved hvm).kept hq, (t9.moved hvm).kept hq⟩, t10.moved hvm, t11.moved hvm, fun q h1 h2 => hn q h1 h2 (t12 q h1 h2)⟩
theorem TX_call {G : AG} {sc : SCR} {U : State} {f : JFrame} {mk : MethodId} {a : Array Value} (h : TXs G sc U) : TXs G sc (U.calling f mk a) :=
  TX_move (Vm.Alike.refl U.vm) (fun h e he => vk_R.same (u := U) (U := U.calling f mk a) rfl (h e he)) (fun q _ h2 hz => va_Nw.same (u := U) (U := U.calling f mk a) (by unfold w_C; rcases h2 with h2 | h2 <;> rw [h2] <;> rfl) rfl hz) (fun _ _ _ => rfl) h
theorem TX_warm {G : AG} {sc : SCR} {s U : State} {H : Heap} {locs : List Loc} (hW : s.WarmedH U.vm) (hU : U.heap = H) (hS : va_S (fun q => G.1 ≤ q) s.heap H locs) (h : TXs G sc s) : TXs G sc U :=
  TX_move hW.alike (fun h e he => (h e he).warm hW) (fun q _ h2 hz => by
    revert hz
    unfold w_C
    rcases h2 with h2 | h2 <;> rw [h2] <;> exact fun hz => va_Nw.warmM hW hz) (fun a h1 h2 => by rw [hU]; exact hS.2.1 a h1 h2) h
theorem blind_A {G : AG} {sc : SCR} {g r : GH} {n : Int} {av : List Value} : FrameBlind (va_Pc av (fun U => WA G sc U g r n)) := fun a U f mk h => by
  obtain ⟨h1, h2, h3, h4, h5⟩ := h
  exact ⟨h1, h2, h3, va_K.moved (u := U) (U := U.calling f mk a) (Vm.Alike.refl U.vm) h4, TX_call h5⟩
section SN6
variable {p : Program} {l : Launch} {e : Env} {R : Room} {s : State} {m : MethodId} {args : Array Value} {below : List Frame} {meth : Method} {c : Code} {G : AG} {sc : SCR} {d k : Nat} {n0 : Int} {QE : State → Prop}
variable {pc pc2 : Nat} {ls st st2 : List AV} {g r : GH} {n : Int}
theorem push_tv {rc : Nat} {v : Int} (s2 : List AV) : (rvO G rc v).toList ++ s2.map (tv G) = (am_push rc v s2).map (tv G) := by
  unfold rvO am_push
  split
  · rfl
  · split
    · rfl
    · split
      · rfl
      · rfl
theorem push_ok {rc : Nat} {v : Int} {s2 : List AV} (h : okRet rc v) (hrc : rc ≤ 4) (h2 : ∀ w ∈ s2, okv w) : ∀ w ∈ am_push rc v s2, okv w := by
  unfold am_push
  split
  · exact h2
  · split
    · exact fa_cons (ok1 (h.2.1 ‹_›)) h2
    · split
      · exact fa_cons (ok2 (h.2.2 ‹_›)) h2
      · exact fa_cons (ok0 (h.1 (by omega))) h2
/-- behind any call by contract -/
theorem g_after {k2 : Nat} {as2 : Array Value} {s2 : List AV} (C : CX p R s m args meth c G sc d k n0) (hrc : am_rc k2 ≤ 4)
    (a1 : n0 ≤ n) (a2 : n ≤ n0 + am_mk k) (hnk : n + am_mk k2 ≤ n0 + am_mk k) (a3 : ∀ w ∈ s2, okv w) (a4 : ∀ v ∈ ls, okv v) (a5 : ls.length = am_maxL k) {H : Heap} {locs : List Loc} {lsM : Array Slot} (b3 : va_S (fun q => G.1 ≤ q) s.heap H locs) (b4 : lv_has lsM (am_maxL k) (lvl G 0 ls))
    {S : List Value} (hr : va_Run p l e R s m args below meth c H locs (n - n0).toNat (am_cs n - am_cs n0) (am_mk k2) (am_cs (n + am_mk k2) - am_cs n) (F0 m pc lsM S) (s2.map (tv G)) (QcA G k2 n (fun v g2 r2 n2 => Gd p l e R s m args below meth c G k n0 QE (pc + 3) ls (am_push (am_rc k2) v s2) g2 r2 n2) as2) (fun q => G.1 ≤ q)) :
    W p l e R s m args below meth c H locs (n - n0).toNat (am_cs n - am_cs n0) QE (F0 m pc lsM S) := by
  intro T hT X
  obtain ⟨v, st₀, t, T', L, h0, X', hL, e1, e2, ⟨vv, g2, r2, hv, hok, hG, hgr, hP, hbl, hsz⟩, hst⟩ := hr T hT X
  cases hv
  obtain ⟨-, -, -, -, -, -, -, -, ⟨cn0, cn1⟩, -⟩ := C
  have w := hG (by omega) hnk (push_ok hok hrc a3) a4 a5 hgr T'.heap (locs ++ L) lsM trivial (by rw [e1]; exact hP)
    ⟨by rw [e1]; exact Nat.le_trans b3.1 (by rw [← h0]; exact hsz), fun q h1 h2 => by rw [e1, hbl q (by omega), h0]; exact b3.2.1 q h1 h2, fun q hq => by
      rcases List.mem_append.mp hq with h | h
      · exact b3.2.2 q h
      · exact hL q h⟩ b4
  have m1 := cs_mono cn0 a1 (by omega)
  have m2 := cs_mono (a := n) (b := n + am_mk k2) (by omega) (by omega) (by omega)
  rw [show (n + am_mk k2 - n0).toNat = (n - n0).toNat + am_mk k2 by omega, show am_cs (n + am_mk k2) - am_cs n0 = (am_cs n - am_cs n0) + (am_cs (n + am_mk k2) - am_cs n) by omega, ← push_tv] at w
  obtain ⟨t2, q1, q2⟩ := w T' rfl X'
  exact ⟨t2, hst t2 q1, q2⟩
end SN6
