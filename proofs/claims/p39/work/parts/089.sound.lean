/-! a method's contract out of its run in the machine of numbers -/
theorem Met.ofWF {l : Launch} {y : MethodName} {ws ws' : List Cond} {rm : Room} {Pc : Array Value → State → Prop} {Qc : Array Value → State → Outcome → State → Prop} {mc ms : Nat} {free : Addr → Prop} {cc : ByteArray} {maxL : Nat} {ret : Option FieldType}
    (hy : plainFor y = true) (hw : ws = Cond.code y cc maxL ret :: ws')
    (body : ∀ p e s m args below meth c s₁, BodyLoose p l y (headSpec ws rm) cc maxL ret e s m args below meth c s₁ → c.maxLocals = maxL → Pc args s →
      W p l e (headSpec ws rm).room s m args below meth c s.heap [] 0 0 (MQ below Qc args s mc ms free) (entryFrame m args maxL)) : Met l y ws rm Pc Qc mc ms free := by
  refine MetFree.of_bodySF (code := cc) (maxLocals := maxL) (ret := ret) hy ?_ ?_
  · intro args s m h hn
    obtain ⟨meth, c, h1, h2, h3, h4, h5, h6, -, -⟩ := Cond.code_spec hn (atoms_spec (ws := ws) h _ (by rw [hw]; exact List.mem_cons_self))
    exact ⟨meth, c, h1, h2, h3, h4, h5, h6⟩
  · intro p e s m args below meth c s₁ B hml hP _
    have hh0 : s₁.heap = s.heap := by rw [B.state]; rfl
    obtain ⟨t, a1, o, b1, b2, b3⟩ := body p e s m args below meth c s₁ B hml hP s₁ hh0 (Stand.of_body B)
    exact ⟨t, o, a1, b1, b2, ⟨b3.1, b3.2⟩⟩
theorem lvl_args {G : AG} (n : Nat) : ∀ (as : List AV) (i : Nat), ∀ q ∈ lvl G i (am_lay as ++ List.replicate n (9, 0)), q ∈ lv_args i (as.map (tv G))
  | [], i => by
    intro q hq
    exfalso
    obtain ⟨j, x⟩ := q
    obtain ⟨v, h1, h2, h3, -⟩ := (lvl_mem _ _ _ _).mp hq
    have h4 := List.eq_of_mem_replicate (List.mem_of_getElem? (show (List.replicate n ((9, 0) : AV))[j - i]? = some v from h2))
    rw [h4] at h3
    exact absurd h3 (by decide)
  | v :: t, i => by
    intro q hq
    unfold am_lay at hq
    rw [List.map_cons]
    show q ∈ (i, tv G v) :: lv_args (if (tv G v).category = 2 then i + 2 else i + 1) (t.map (tv G))
    rw [tv_cat]
    split at hq
    · rename_i h1
      rw [if_pos h1, if_pos rfl]
      rw [List.cons_append, List.cons_append] at hq
      unfold lvl at hq
      rw [if_pos (by omega)] at hq
      unfold lvl at hq
      rw [if_neg (by decide)] at hq
      rcases List.mem_cons.mp hq with rfl | hq
      · exact List.mem_cons_self
      · exact List.mem_cons_of_mem _ (lvl_args n t (i + 2) q hq)
    · rename_i h1
      rw [if_neg h1, if_neg (by decide)]
      rw [List.cons_append] at hq
      unfold lvl at hq
      split at hq
      · rcases List.mem_cons.mp hq with rfl | hq
        · exact List.mem_cons_self
        · exact List.mem_cons_of_mem _ (lvl_args n t (i + 1) q hq)
      · exact List.mem_cons_of_mem _ (lvl_args n t (i + 1) q hq)
theorem lay_len {G : AG} : ∀ as : List AV, (lg_sl (as.map (tv G))).length = (am_lay as).length
  | [] => rfl
  | v :: t => by
    have ih := lay_len (G := G) t
    unfold am_lay
    rw [List.map_cons]
    show ((if (tv G v).category = 2 then [Slot.val (tv G v), Slot.second] else [Slot.val (tv G v)]) ++ lg_sl (t.map (tv G))).length = _
    rw [tv_cat, List.length_append, ih]
    split <;> simp <;> omega
theorem lay_ok : ∀ {as : List AV}, (∀ v ∈ as, okv v) → ∀ v ∈ am_lay as, okv v
  | [], _ => fun v h => absurd h List.not_mem_nil
  | v :: t, h => by
    unfold am_lay
    split
    · exact fa_cons (fa_hd h) (fa_cons (ok_8 (by decide)) (lay_ok (fa_tl h)))
    · exact fa_cons (fa_hd h) (lay_ok (fa_tl h))
theorem ent_ok {as : List AV} {n : Nat} (h : ∀ v ∈ as, okv v) : ∀ v ∈ am_ent n as, okv v := by
  intro v hv
  rcases List.mem_append.mp hv with hv | hv
  · exact lay_ok h v hv
  · rw [List.eq_of_mem_replicate hv]; exact ok_8 (by decide)
theorem PF_at {k : Nat} (h : k ∈ am_CO) : plainFor (am_y k) = true := of_decide_eq_true (List.all_eq_true.mp PF_ok _ h)
theorem SD_of {l : Launch} {G : AG} {sc : SCR} {d : Nat} {C : CTR} (hC : CMono C) (hSD : SD l G sc d C) (hStr : StrM l G sc) : SD l G sc (d + 1) (fun k as g r n Q => (am_lay as).length ≤ am_maxL k ∧ WP sc d C k n Q 0 (am_ent (am_maxL k) as) [] g r n) := by
  intro k as g r n Q hk hwp hn0 hn1 has hgr
  obtain ⟨hlen, hwp⟩ := hwp
  obtain ⟨-, mcl, mI, m0, m1, m2, m3, m4⟩ := M_at hk
  refine Met.ofWF (cc := am_code k) (maxL := am_maxL k) (ret := am_ret k) (PF_at hk) rfl ?_
  intro p e s m args below meth c s₁ B hml hv
  obtain ⟨rfl, hz, hP, hK, hT⟩ := hv
  have hts := atoms_spec (ws := wsK k) B.pre
  have hown : s.vm.findClass (am_y k).cls = some m.cls := findClass_of_methodNamed B.named
  rw [mcl] at hown
  have hlocks := B.notSynchronized
  have hr := B.returns
  have CX0 : CX p (headSpec (wsK k) (rmd (d + 1) k n)).room s m (as.map (tv G)).toArray meth c G sc d k n :=
    ⟨B.exec, B.bytes, hml, hown, fun w hw => hts w (List.mem_cons_of_mem _ hw), hK, fun h => (name_of_methodNamed B.named B.method).1.trans (mI h), ⟨Nat.le_refl _, by show 64 * d + 64 ≤ 64 * (d + 1); omega, Nat.le_refl _, Nat.le_refl _⟩, ⟨hn0, hn1⟩, hT, hz⟩
  have hret : RetOK p l e (headSpec (wsK k) (rmd (d + 1) k n)).room s m (as.map (tv G)).toArray below meth c G k n Q (MQ below (QcA G k n Q) (as.map (tv G)).toArray s (am_mk k) (am_cs (n + am_mk k) - am_cs n) (fun q => G.1 ≤ q)) := by
    intro pc i v g2 r2 hd hi hok hQ hg2 H locs lsM hP2 hS2
    have hf : ∀ q ∈ locs, G.1 ≤ q.base := hS2.2.2
    have hq : ∀ t : State, t.heap = H → QcA G k n Q (as.map (tv G)).toArray s (.returned (rvO G (am_rc k) v)) t := fun t ht =>
      ⟨v, g2, r2, rfl, hok, hQ, hg2, by rw [ht]; exact hP2, fun q hq => by rw [ht]; exact hS2.2.1 q (by omega) (Nat.not_le.mpr hq), by rw [ht]; exact hS2.1⟩
    rcases hi with ⟨rfl, h1 | ⟨h1, hb⟩⟩ | ⟨rfl, h1⟩ | ⟨rfl, h1⟩ | ⟨rfl, h1⟩
    · have er : rvO G (am_rc k) v = some (.int (Int32.ofInt v)) := by unfold rvO; rw [if_neg (by omega), if_neg (by omega), if_neg (by omega)]
      rw [er] at hq ⊢
      exact W.iret B.exec B.bytes (hr.trans (m1 h1)) (fun t ht _ => hq t ht) hf hd hlocks
    · have er : rvO G (am_rc k) v = some (.int (Int32.ofInt v)) := by unfold rvO; rw [if_neg (by omega), if_neg (by omega), if_neg (by omega)]
      rw [er] at hq ⊢
      exact W.zret (ty := .boolean) B.exec B.bytes (hr.trans (m2 h1)) (by rcases hb with rfl | rfl <;> rfl) (fun t ht _ => hq t ht) hf hd hlocks
    · have er : rvO G (am_rc k) v = some (.long (Int64.ofInt v)) := by unfold rvO; rw [if_neg (by omega), if_pos h1]
      rw [er] at hq ⊢
      exact W.lret B.exec B.bytes (hr.trans (m3 h1)) (fun t ht _ => hq t ht) hf hd hlocks
    · have er : rvO G (am_rc k) v = some (va_rf (rfo G v)) := by unfold rvO; rw [if_neg (by omega), if_neg (by omega), if_pos h1]
      rw [er] at hq ⊢
      have h4 := m4 h1
      cases hrt : am_ret k with
      | none => rw [hrt] at h4; cases h4
      | some ty =>
        rw [hrt] at h4
        refine W.aret (rt := ty) B.exec B.bytes (hr.trans hrt) ?_ (rf_cases _) (fun t ht _ => hq t ht) hf hd hlocks
        cases ty <;> first | (cases h4; done) | exact Or.inl ⟨_, rfl⟩ | exact Or.inr ⟨_, rfl⟩
    · have er : rvO G (am_rc k) v = none := by unfold rvO; rw [if_pos h1]
      rw [er] at hq ⊢
      exact W.vret B.exec B.bytes (hr.trans (m0 h1)) (fun t ht _ => hq t ht) hf hd hlocks
  have hG := hwp _ (gd_closed (QE := MQ below (QcA G k n Q) (as.map (tv G)).toArray s (am_mk k) (am_cs (n + am_mk k) - am_cs n) (fun q => G.1 ≤ q)) CX0 hSD hStr hret)
  have hl := lv_entry (as.map (tv G)) (n := am_maxL k) (by rw [lay_len]; exact hlen)
  rw [lg_entry_eq]
  have w := hG (Int.le_refl _) (by omega) (fun v h => absurd h List.not_mem_nil) (ent_ok has) (by rw [am_ent, List.length_append, List.length_replicate]; omega) hgr s.heap [] _ trivial hP va_S.rf (lv_weak hl (lvl_args _ as 0))
  rw [Int.sub_self, Nat.sub_self] at w
  exact w
theorem SD_all {l : Launch} {G : AG} {sc : SCR} (hStr : StrM l G sc) : ∀ d, SD l G sc d (Cd sc d)
  | 0 => fun _ _ _ _ _ _ _ h => h.elim
  | d + 1 => SD_of (Cd_mono sc d) (SD_all hStr d) hStr
