/-! the start of the law's call: the classes and the arrays' classes are there -/
theorem IS_all : (List.range 10).all (fun c => am_IS.contains c) = true := by decide +kernel
theorem start_K {s : State} {args : Array Value} (hT : ∀ w ∈ lw_tbl, w.before args s = true) : ∃ (D : va_G) (cA : Nat → ClassId), ∀ b a t, va_K D am_cl (tyA (b, a, t, D, cA)) s := by
  have hL : ∀ w ∈ LW, w.before args s = true := fun w h => hT w (List.mem_filter.mp h).1
  have h1 : ∀ w ∈ tables_1, w.before args s = true := fun w h => hT w (List.mem_append_right _ h)
  have h0 : ∀ c : Nat, ∃ q : ClassId × (Nat → Nat), c ≤ 9 → u_Kn s (am_nm c) (am_T c) (am_nf c) q.1 q.2 := by
    intro c
    by_cases hc : c ≤ 9
    · have hm : c ∈ am_IS := List.contains_iff_mem.mp (List.all_eq_true.mp IS_all c (List.mem_range.mpr (by omega)))
      have hi : (Cond.instantiable (am_nm c) (am_nf c)).before args s = true := h1 _ (am_sub_mem _ _ IS_words _ (List.mem_map_of_mem (f := fun c => Cond.instantiable (am_nm c) (am_nf c)) hm))
      obtain ⟨a, b, h⟩ := u_known hL (u_in hc) hi
      exact ⟨(a, b), fun _ => h⟩
    · exact ⟨(0, fun _ => 0), fun h => absurd h hc⟩
  obtain ⟨f, hf⟩ := Classical.axiomOfChoice h0
  obtain ⟨w11, w12, w13, w10, w14, w15⟩ := arr_in
  have aP : ∀ ty : FieldType, (match ty with | .object _ => False | _ => True) → (Cond.arrayClass ty).before args s = true → ∃ c, ArrOfT s c ty ∧ va_RA s c ty := by
    intro ty hty hw
    obtain ⟨c, k, comp, h1, h2, h3⟩ := Cond.arrayClass_spec hw
    refine ⟨c, fun N z => ⟨fun k h => (by cases h), k, h2, comp, h3⟩, ?_⟩
    cases ty <;> first | exact h1 | exact hty.elim
  have aO : ∀ C : String, (Cond.arrayOver (.object C)).before args s = true → ∃ c, ArrOfT s c (.object C) ∧ va_RA s c (.object C) := by
    intro C hw
    obtain ⟨comp, c, k, h1, h2, h3, h4, h5⟩ := Cond.arrayOver_spec hw
    exact ⟨c, fun N z => ⟨fun k h => (by cases h), k, h3, comp, h4⟩, k, comp, h3, h4, h1, h5⟩
  obtain ⟨c10, p10⟩ := aP .byte trivial (h1 _ w10)
  obtain ⟨c11, p11⟩ := aP .int trivial (h1 _ w11)
  obtain ⟨c12, p12⟩ := aP .long trivial (h1 _ w12)
  obtain ⟨c13, p13⟩ := aP .boolean trivial (h1 _ w13)
  obtain ⟨c14, p14⟩ := aO "MillRow$Mill" (h1 _ w14)
  obtain ⟨c15, p15⟩ := aO "MillRow$Brook" (h1 _ w15)
  refine ⟨(fun c => (f c).1, fun c => (f c).2), fun i => if i = 10 then c10 else if i = 11 then c11 else if i = 12 then c12 else if i = 13 then c13 else if i = 14 then c14 else c15, fun b a t => ⟨fun c q hq => ?_, fun k q hq => ?_⟩⟩
  · have hlen : c < am_cl.length := (List.getElem?_eq_some_iff.mp hq).1
    have hc : c ≤ 9 := by have : am_cl.length = 10 := by decide
                          omega
    rw [cl_at c hc] at hq
    cases hq
    exact hf c hc
  · match k, hq with
    | 0, hq => cases hq; exact p10
    | 1, hq => cases hq; exact p11
    | 2, hq => cases hq; exact p12
    | 3, hq => cases hq; exact p13
    | 4, hq => cases hq; exact p14
    | 5, hq => cases hq; exact p15
    | k + 6, hq => cases hq
