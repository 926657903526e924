/-! the mills told, the weights and the levels seen are the same on both sides -/
/-- what the class keeps of a mill, what stays from call to call -/
def F3 : Int → Prop := fun x => ¬ SC x ∧ ¬ (23 ≤ x ∧ x ≤ 33) ∧ ¬ (45 ≤ x ∧ x ≤ 47) ∧ ¬ (132 ≤ x ∧ x ≤ 164)
theorem sq3 : SQ F3 := fun _ h z => z.1 h
theorem f3_of {x : Int} (h : decide (¬ ((9 ≤ x ∧ x ≤ 12) ∨ (17 ≤ x ∧ x ≤ 22) ∨ (34 ≤ x ∧ x ≤ 44) ∨ (48 ≤ x ∧ x ≤ 50) ∨ x = 61 ∨ x = 65 ∨ (68 ≤ x ∧ x ≤ 71) ∨ x = 76 ∨ (79 ≤ x ∧ x ≤ 82) ∨ x = 87 ∨ (90 ≤ x ∧ x ≤ 93) ∨ x = 98 ∨ (101 ≤ x ∧ x ≤ 104) ∨ x = 109 ∨ (112 ≤ x ∧ x ≤ 115) ∨ x = 120 ∨ (123 ≤ x ∧ x ≤ 126) ∨ x = 131) ∧ ¬ (23 ≤ x ∧ x ≤ 33) ∧ ¬ (45 ≤ x ∧ x ≤ 47) ∧ ¬ (132 ≤ x ∧ x ≤ 164)) = true) : F3 x := by
  have h2 := of_decide_eq_true h
  exact h2
theorem cq3 : CQ F3 := ⟨f3_of (by decide), f3_of (by decide), f3_of (by decide), f3_of (by decide), f3_of (by decide), f3_of (by decide)⟩
theorem fp_f3 {i : Int} (h : FP i) : F3 i := by
  unfold FP at h
  unfold F3 SC
  omega
theorem EQF.e3 {g g' : GH} (e : EQF F3 g g') : EQ g g' := fun i hi j => e i (fp_f3 hi) j
/-- a mill whose reading came to its end -/
def XTM (m : GH) : Prop := XG 90 m ∧ XGB (90, 0, m, []) ∧ BT (m 0 0) ∧ m 0 11 ≤ 30 ∧ m 0 13 ≤ 350 ∧ W4 90 m ∧ W6 m ∧ GHS m
def MX3 (k : Int) (g m : GH) : Prop := (∀ j, 0 ≤ j → j ≤ 12 → g (168 + j) k = m 0 j) ∧ (∀ i, 0 ≤ i → i < m 0 11 → g 182 (30 * k + i) = m 2 i ∧ g 183 (30 * k + i) = 350 * k + pe m i ∧ g 184 (30 * k + i) = 350 * k + m 3 i) ∧ (∀ c, 0 ≤ c → c < m 0 13 → RC g (350 * k + c) (m 1 c))
def TK (k : Int) (g : GH) (M : Int) : Prop := (g M 0 = 0 ↔ g 167 k = 0) ∧ (g 167 k ≠ 0 → ∃ m, XTM m ∧ MC M g m ∧ MX3 k g m)
/-- where mill k is kept -/
def NV (k M i j : Int) : Prop := i = M ∨ i = M + 1 ∨ (M + 6 ≤ i ∧ i ≤ M + 9) ∨ (167 ≤ i ∧ i ≤ 180 ∧ j = k) ∨ (182 ≤ i ∧ i ≤ 184 ∧ 30 * k ≤ j ∧ j < 30 * k + 30) ∨ (185 ≤ i ∧ i ≤ 188 ∧ 350 * k ≤ j ∧ j < 350 * k + 350)
theorem MX3.nv {k M : Int} {g g' m : GH} (h : MX3 k g m) (t : XTM m) (e : ∀ i j, NV k M i j → g' i j = g i j) : MX3 k g' m := by
  obtain ⟨a, b, c⟩ := h
  have t1 := t.2.2.2.1
  have t2 := t.2.2.2.2.1
  refine ⟨fun j j0 j1 => ?_, fun i i0 i1 => ?_, fun q q0 q1 => ?_⟩
  · rw [e _ _ (by unfold NV; omega)]; exact a j j0 j1
  · rw [e 182 _ (by unfold NV; omega), e 183 _ (by unfold NV; omega), e 184 _ (by unfold NV; omega)]; exact b i i0 i1
  · exact (c q q0 q1).eq (fun i i0 i1 => e i _ (by unfold NV; omega))
theorem TK.nv {k M : Int} {g g' : GH} (h : TK k g M) (e : ∀ i j, NV k M i j → g' i j = g i j) : TK k g' M := by
  have e0 : g' M 0 = g M 0 := e M 0 (Or.inl rfl)
  have e1 : g' 167 k = g 167 k := e 167 k (by unfold NV; omega)
  refine ⟨by rw [e0, e1]; exact h.1, fun t => ?_⟩
  rw [e1] at t
  obtain ⟨m, x, c, z⟩ := h.2 t
  exact ⟨m, x, c.eq (fun i j hi => e i j (by unfold NV; omega)), z.nv (M := M) x e⟩
def K3 (g r : GH) : Prop := (∀ k, 0 ≤ k → k < 6 → TK k g (r 6 k)) ∧ (∀ k, 0 ≤ k → k < 6 → g 51 k = g 181 k ∧ 0 ≤ g 181 k ∧ g 181 k ≤ 99) ∧ g 52 2 = g 165 61 ∧ ∀ j, 0 ≤ j → j < g 52 2 → g 53 j = g 209 j ∧ g 54 j = g 210 j ∧ TM g (g 209 j)
def J3 (g r : GH) : Prop := J2 g r ∧ K3 g r
/-- the places that K3 speaks of -/
def KPV (i j : Int) : Prop := (i < 165 ∧ F3 i ∧ i ≠ 0 ∧ i ≠ 1 ∧ i ≠ 2 ∧ i ≠ 3 ∧ i ≠ 4 ∧ i ≠ 5 ∧ ¬ (55 ≤ i ∧ i ≤ 64)) ∨ i = 167 ∨ (168 ≤ i ∧ i ≤ 180 ∧ j < 6) ∨ (181 ≤ i ∧ i ≤ 188) ∨ i = 209 ∨ i = 210 ∨ (i = 165 ∧ j = 61)
def KE (g g' : GH) : Prop := ∀ i j, KPV i j → g' i j = g i j
theorem KE.rf (g : GH) : KE g g := fun _ _ _ => rfl
theorem KE.tr {a b c : GH} (h : KE a b) (k : KE b c) : KE a c := fun i j z => (k i j z).trans (h i j z)
theorem nv_kv {k M i j : Int} (hM : MO M) (k0 : 0 ≤ k) (k6 : k < 6) (h : NV k M i j) : KPV i j := by
  unfold NV at h
  unfold KPV F3 SC
  unfold MO at hM
  omega
theorem kv_5 {i j : Int} (h : i = 51 ∨ i = 52 ∨ i = 53 ∨ i = 54) : KPV i j := by
  unfold KPV F3 SC
  omega
theorem K3.ke {g g' r : GH} (hr : RI r) (h : K3 g r) (e : KE g g') : K3 g' r := by
  obtain ⟨a, b, c, f⟩ := h
  refine ⟨fun k k0 k6 => (a k k0 k6).nv (fun i j z => e i j (nv_kv (hr.2.1 k k0 k6) k0 k6 z)), fun k k0 k6 => ?_, ?_, fun j j0 j1 => ?_⟩
  · rw [e 51 k (kv_5 (by omega)), e 181 k (by unfold KPV; omega)]; exact b k k0 k6
  · rw [e 52 2 (kv_5 (by omega)), e 165 61 (by unfold KPV; omega)]; exact c
  · rw [e 52 2 (kv_5 (by omega))] at j1
    rw [e 53 j (kv_5 (by omega)), e 54 j (kv_5 (by omega)), e 209 j (by unfold KPV; omega), e 210 j (by unfold KPV; omega)]
    refine ⟨(f j j0 j1).1, (f j j0 j1).2.1, (f j j0 j1).2.2.1, (f j j0 j1).2.2.2.1, ?_⟩
    rw [e 167 _ (by unfold KPV; omega)]; exact (f j j0 j1).2.2.2.2
theorem EQF.ke {g g' : GH} (e : EQF F3 g g') : KE g g' := fun i j h => by
  refine e i ?_ j
  rcases h with z | z | z | z | z | z | z
  · exact z.2.1
  all_goals (unfold F3 SC; omega)
theorem ME.ke {g g' : GH} (e : ME g g') : KE g g' := fun i j h => e.1 i j (by unfold KPV at h; unfold MV; omega)
theorem up_ke {g : GH} {i j v : Int} (h : ¬ KPV i j) : KE g (up g i j v) := fun a b z => up_o (fun q => h (by rw [← q.1, ← q.2]; exact z))
theorem J3.eq {g g' r : GH} (h : J3 g r) (e : EQF F3 g g') : J3 g' r := ⟨h.1.eq e.e3, h.2.ke h.1.1.1 e.ke⟩
theorem J3.me {g g' r : GH} (h : J3 g r) (e : ME g g') : J3 g' r := ⟨h.1.me e, h.2.ke h.1.1.1 e.ke⟩
theorem brf_23 {r : GH} (hr : RI r) : BRF F3 r 23 := by
  obtain ⟨a, _, b4, b5, b6, b7, b8, b9, b10, b11, b12, b13⟩ := br_23 hr
  refine ⟨a, fun z => z.2.1 (by omega), b4.f ?_, b5.f ?_, b6.f ?_, b7.f ?_, b8.f ?_, b9.f ?_, b10.f ?_, b11.f ?_, b12.f ?_, b13.f ?_⟩
  · rw [r_23_4 hr]; exact fun z => z.2.1 (by omega)
  · rw [r_23_5 hr]; exact fun z => z.2.1 (by omega)
  · rw [r_23_6 hr]; exact fun z => z.2.1 (by omega)
  · rw [r_23_7 hr]; exact fun z => z.2.1 (by omega)
  · rw [r_23_8 hr]; exact fun z => z.2.1 (by omega)
  · rw [r_23_9 hr]; exact fun z => z.2.1 (by omega)
  · rw [r_23_10 hr]; exact fun z => z.2.1 (by omega)
  · rw [r_23_11 hr]; exact fun z => z.2.1 (by omega)
  · rw [r_23_12 hr]; exact fun z => z.2.1 (by omega)
  · rw [r_23_13 hr]; exact fun z => z.2.1 (by omega)
theorem brf_132 {r : GH} (hr : RI r) : BRF F3 r 132 := by
  obtain ⟨a, _, b4, b5, b6, b7, b8, b9, b10, b11, b12, b13⟩ := br_132 hr
  refine ⟨a, fun z => z.2.2.2 (by omega), b4.f ?_, b5.f ?_, b6.f ?_, b7.f ?_, b8.f ?_, b9.f ?_, b10.f ?_, b11.f ?_, b12.f ?_, b13.f ?_⟩
  · rw [r_132_4 hr]; exact fun z => z.2.2.2 (by omega)
  · rw [r_132_5 hr]; exact fun z => z.2.2.2 (by omega)
  · rw [r_132_6 hr]; exact fun z => z.2.2.2 (by omega)
  · rw [r_132_7 hr]; exact fun z => z.2.2.2 (by omega)
  · rw [r_132_8 hr]; exact fun z => z.2.2.2 (by omega)
  · rw [r_132_9 hr]; exact fun z => z.2.2.2 (by omega)
  · rw [r_132_10 hr]; exact fun z => z.2.2.2 (by omega)
  · rw [r_132_11 hr]; exact fun z => z.2.2.2 (by omega)
  · rw [r_132_12 hr]; exact fun z => z.2.2.2 (by omega)
  · rw [r_132_13 hr]; exact fun z => z.2.2.2 (by omega)
theorem brf_143 {r : GH} (hr : RI r) : BRF F3 r 143 := by
  obtain ⟨a, _, b4, b5, b6, b7, b8, b9, b10, b11, b12, b13⟩ := br_143 hr
  refine ⟨a, fun z => z.2.2.2 (by omega), b4.f ?_, b5.f ?_, b6.f ?_, b7.f ?_, b8.f ?_, b9.f ?_, b10.f ?_, b11.f ?_, b12.f ?_, b13.f ?_⟩
  · rw [r_143_4 hr]; exact fun z => z.2.2.2 (by omega)
  · rw [r_143_5 hr]; exact fun z => z.2.2.2 (by omega)
  · rw [r_143_6 hr]; exact fun z => z.2.2.2 (by omega)
  · rw [r_143_7 hr]; exact fun z => z.2.2.2 (by omega)
  · rw [r_143_8 hr]; exact fun z => z.2.2.2 (by omega)
  · rw [r_143_9 hr]; exact fun z => z.2.2.2 (by omega)
  · rw [r_143_10 hr]; exact fun z => z.2.2.2 (by omega)
  · rw [r_143_11 hr]; exact fun z => z.2.2.2 (by omega)
  · rw [r_143_12 hr]; exact fun z => z.2.2.2 (by omega)
  · rw [r_143_13 hr]; exact fun z => z.2.2.2 (by omega)
theorem brf_154 {r : GH} (hr : RI r) : BRF F3 r 154 := by
  obtain ⟨a, _, b4, b5, b6, b7, b8, b9, b10, b11, b12, b13⟩ := br_154 hr
  refine ⟨a, fun z => z.2.2.2 (by omega), b4.f ?_, b5.f ?_, b6.f ?_, b7.f ?_, b8.f ?_, b9.f ?_, b10.f ?_, b11.f ?_, b12.f ?_, b13.f ?_⟩
  · rw [r_154_4 hr]; exact fun z => z.2.2.2 (by omega)
  · rw [r_154_5 hr]; exact fun z => z.2.2.2 (by omega)
  · rw [r_154_6 hr]; exact fun z => z.2.2.2 (by omega)
  · rw [r_154_7 hr]; exact fun z => z.2.2.2 (by omega)
  · rw [r_154_8 hr]; exact fun z => z.2.2.2 (by omega)
  · rw [r_154_9 hr]; exact fun z => z.2.2.2 (by omega)
  · rw [r_154_10 hr]; exact fun z => z.2.2.2 (by omega)
  · rw [r_154_11 hr]; exact fun z => z.2.2.2 (by omega)
  · rw [r_154_12 hr]; exact fun z => z.2.2.2 (by omega)
  · rw [r_154_13 hr]; exact fun z => z.2.2.2 (by omega)
theorem imf_of {r : GH} (hr : RI r) {j : Int} (h0 : 0 ≤ j) (h1 : j < 3) : BRF F3 r (r 45 j) := by
  have e : j = 0 ∨ j = 1 ∨ j = 2 := by omega
  rcases e with rfl | rfl | rfl
  · rw [r_45_0 hr]; exact brf_132 hr
  · rw [r_45_1 hr]; exact brf_143 hr
  · rw [r_45_2 hr]; exact brf_154 hr
