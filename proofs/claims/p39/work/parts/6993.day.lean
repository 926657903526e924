/-! day and seed: what they answer -/
section DAY
variable {sc : SCR} {d : Nat} {Q : QJ} {g r : GH} {l0 l1 l2 l3 : Int}
def DV (a b : Int) : Prop := 0 ≤ a ∧ a ≤ 39 ∧ 0 ≤ b ∧ b ≤ 99999
theorem w_80 (hr : RI r) (h1 : DV l1 l2 → ∀ g', EQ g g' → Q 1 g' r) (h0 : ¬ DV l1 l2 → ∀ g', EQ g g' → Q 0 g' r) : Ce sc (d + 4) 80 [(2, 0), (0, l1), (0, l2), (0, l3)] g r Q := by
  have k0 : okr 218 0 8 := okd (by decide +kernel)
  have k23 : okr 218 23 0 := okd (by decide +kernel)
  refine c_80 (w_127 (fun a b => ?_) (fun q => ?_))
  · rw [if_neg (by decide)]
    refine w_124 (fun c e => ?_) (fun q => ?_)
    · rw [if_neg (by decide), r_0_4 hr, r_23_4 hr, r_23_5 hr]
      refine ⟨k0, k23, i_24.mpr ⟨a, by omega⟩, fun g3 e3 => ⟨k0, k23, ite_c (fun _ => ⟨i_25.mpr ⟨a, by omega⟩, fun g4 e4 => ⟨Or.inr rfl, h1 ⟨a, b, c, e⟩ _ ?_⟩⟩) (fun _ => ⟨i_25.mpr ⟨a, by omega⟩, fun g4 e4 => ⟨Or.inr rfl, h1 ⟨a, b, c, e⟩ _ ?_⟩⟩)⟩⟩
      all_goals (rw [e4, e3]; exact ((EQ.rf g).up (nf_of (by decide +kernel))).up (nf_of (by decide +kernel)))
    · rw [if_pos rfl]
      exact ⟨k0, s_134 hr (by decide) (by decide) (fun g' e => ⟨Or.inl rfl, h0 (fun z => q ⟨z.2.2.1, z.2.2.2⟩) _ e⟩)⟩
  · rw [if_pos rfl]
    exact ⟨k0, s_134 hr (by decide) (by decide) (fun g' e => ⟨Or.inl rfl, h0 (fun z => q ⟨z.1, z.2.1⟩) _ e⟩)⟩
theorem w_193 (hr : RI r) (h3 : l3 = 0 ∨ l3 = 1) (h1 : DV l1 l2 → ∀ g', ME g g' → Q 1 g' r) (h0 : ¬ DV l1 l2 → ∀ g', ME g g' → Q 0 g' r) : Ce sc (d + 2) 193 [(2, 165), (0, l1), (0, l2), (0, l3)] g r Q := by
  have k9 : okr 218 165 9 := okd (by decide +kernel)
  refine c_193 (w_137 (fun a b => ?_) (fun q => ?_))
  · rw [if_neg (by decide)]
    refine w_178 (fun c e => ?_) (fun q => ?_)
    · rw [if_neg (by decide), r_165_37 hr, r_165_43 hr]
      refine ⟨k9, i_192.mpr ⟨a, by omega⟩, fun g3 e3 => ⟨k9, Or.inr ⟨i_198.mpr ⟨a, by omega⟩, h3⟩, fun g4 e4 => ⟨Or.inr rfl, h1 ⟨a, b, c, e⟩ _ ?_⟩⟩⟩
      rw [e4, e3]
      exact ((ME.rf g).u (by unfold MW MV; omega) (by decide)).ub (by unfold MW MV; omega) (by decide) h3
    · rw [if_pos rfl]
      exact ⟨k9, s_139 hr (fun g' e => ⟨Or.inl rfl, h0 (fun z => q ⟨z.2.2.1, z.2.2.2⟩) _ e⟩)⟩
  · rw [if_pos rfl]
    exact ⟨k9, s_139 hr (fun g' e => ⟨Or.inl rfl, h0 (fun z => q ⟨z.1, z.2.1⟩) _ e⟩)⟩
def SV (a : Int) : Prop := 0 ≤ a ∧ a ≤ 999999999
theorem w_84 (hr : RI r) (h1 : SV l1 → ∀ g', EQ g g' → Q 1 g' r) (h0 : ¬ SV l1 → ∀ g', EQ g g' → Q 0 g' r) : Ce sc (d + 4) 84 [(2, 0), (0, l1)] g r Q := by
  have k0 : okr 218 0 8 := okd (by decide +kernel)
  have k23 : okr 218 23 0 := okd (by decide +kernel)
  refine c_84 (w_123 (fun a b => ?_) (fun q => ?_))
  · rw [if_neg (by decide), r_0_4 hr]
    refine ⟨k0, k23, fun g2 e2 => ⟨Or.inr rfl, h1 ⟨a, b⟩ _ ?_⟩⟩
    rw [e2]; exact (EQ.rf g).up (nf_of (by decide +kernel))
  · rw [if_pos rfl]
    exact ⟨k0, s_134 hr (by decide) (by decide) (fun g' e => ⟨Or.inl rfl, h0 (fun z => q ⟨z.1, z.2⟩) _ e⟩)⟩
theorem w_196 (hr : RI r) (h1 : SV l1 → ∀ g', ME g g' → Q 1 g' r) (h0 : ¬ SV l1 → ∀ g', ME g g' → Q 0 g' r) : Ce sc (d + 2) 196 [(2, 165), (0, l1)] g r Q := by
  have k9 : okr 218 165 9 := okd (by decide +kernel)
  refine c_196 (w_137 (fun a b => ?_) (fun q => ?_))
  · rw [if_neg (by decide)]
    refine ⟨k9, fun g2 e2 => ⟨Or.inr rfl, h1 ⟨a, b⟩ _ ?_⟩⟩
    rw [e2]; exact (ME.rf g).u (by unfold MW MV; omega) (by decide)
  · rw [if_pos rfl]
    exact ⟨k9, s_139 hr (fun g' e => ⟨Or.inl rfl, h0 (fun z => q ⟨z.1, z.2⟩) _ e⟩)⟩
end DAY
