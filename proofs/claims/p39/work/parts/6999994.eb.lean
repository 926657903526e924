/-! every asking call keeps the buckets of the mills told; printed by a program (wip/gen/gen_eb.py) -/
/-- a mill's bucket and its arrays -/
def BO (x : Int) : Prop := (9 ≤ x ∧ x ≤ 12) ∨ (68 ≤ x ∧ x ≤ 71) ∨ (79 ≤ x ∧ x ≤ 82) ∨ (90 ≤ x ∧ x ≤ 93) ∨ (101 ≤ x ∧ x ≤ 104) ∨ (112 ≤ x ∧ x ≤ 115) ∨ (123 ≤ x ∧ x ≤ 126)
def F4 : Int → Prop := fun x => F3 x ∨ BO x
def SQ4 (F : Int → Prop) : Prop := ∀ x, SC x → ¬ BO x → ¬ F x
theorem sq4 : SQ4 F4 := fun x h b z => z.elim (fun q => q.1 h) b
theorem sqz : SQ FZ := fun _ _ z => z
def T4 (r : GH) (S : Int → Prop) (V : Int → Int → Int) (g : GH) : Prop := ∀ k, 0 ≤ k → k < 6 → (g (r 6 k) 0 ≠ 0 → S k) ∧ (S k → WHR g (r 6 k + 1) (V k) ∧ WBd (V k) ∧ BK3 g (r 6 k + 1) (V k))
def EB (r : GH) (S : Int → Prop) (V : Int → Int → Int) (g g' : GH) : Prop := EQF F3 g g' ∧ T4 r S V g'
theorem wxo_of {r : GH} {m : Int} (hr : RI r) (h : MO m) : WXO r (m + 1) := by
  rcases h with rfl | rfl | rfl | rfl | rfl | rfl | rfl
  · exact ⟨okd (by decide +kernel), okd (by decide +kernel), r_8_9 hr, r_9_5 hr, r_9_6 hr, r_9_12 hr, ⟨okd (by decide +kernel), n_10⟩, ⟨okd (by decide +kernel), n_11⟩, ⟨okd (by decide +kernel), n_12⟩⟩
  · exact ⟨okd (by decide +kernel), okd (by decide +kernel), r_67_9 hr, r_68_5 hr, r_68_6 hr, r_68_12 hr, ⟨okd (by decide +kernel), n_69⟩, ⟨okd (by decide +kernel), n_70⟩, ⟨okd (by decide +kernel), n_71⟩⟩
  · exact ⟨okd (by decide +kernel), okd (by decide +kernel), r_78_9 hr, r_79_5 hr, r_79_6 hr, r_79_12 hr, ⟨okd (by decide +kernel), n_80⟩, ⟨okd (by decide +kernel), n_81⟩, ⟨okd (by decide +kernel), n_82⟩⟩
  · exact ⟨okd (by decide +kernel), okd (by decide +kernel), r_89_9 hr, r_90_5 hr, r_90_6 hr, r_90_12 hr, ⟨okd (by decide +kernel), n_91⟩, ⟨okd (by decide +kernel), n_92⟩, ⟨okd (by decide +kernel), n_93⟩⟩
  · exact ⟨okd (by decide +kernel), okd (by decide +kernel), r_100_9 hr, r_101_5 hr, r_101_6 hr, r_101_12 hr, ⟨okd (by decide +kernel), n_102⟩, ⟨okd (by decide +kernel), n_103⟩, ⟨okd (by decide +kernel), n_104⟩⟩
  · exact ⟨okd (by decide +kernel), okd (by decide +kernel), r_111_9 hr, r_112_5 hr, r_112_6 hr, r_112_12 hr, ⟨okd (by decide +kernel), n_113⟩, ⟨okd (by decide +kernel), n_114⟩, ⟨okd (by decide +kernel), n_115⟩⟩
  · exact ⟨okd (by decide +kernel), okd (by decide +kernel), r_122_9 hr, r_123_5 hr, r_123_6 hr, r_123_12 hr, ⟨okd (by decide +kernel), n_124⟩, ⟨okd (by decide +kernel), n_125⟩, ⟨okd (by decide +kernel), n_126⟩⟩
theorem BK3.fr {g g' : GH} {x : Int} {W : Int → Int} (h : BK3 g x W) (e : ∀ i, x + 1 ≤ i → i ≤ x + 4 → ∀ j, g' i j = g i j) : BK3 g' x W := by
  have e1 := e (x + 1) (by omega) (by omega)
  have e2 := e (x + 2) (by omega) (by omega)
  have e3 := e (x + 3) (by omega) (by omega)
  have e4 := e (x + 4) (by omega) (by omega)
  unfold BK3 BKS FIL
  simp only [e1, e2, e3, e4]
  exact h
theorem mo_f3 {m : Int} (h : MO m) : F3 m ∧ F3 (m + 1) ∧ ∀ i, m + 2 ≤ i → i ≤ m + 5 → BO i := by
  unfold F3 SC BO
  unfold MO at h
  exact ⟨by omega, by omega, fun i a b => by omega⟩
theorem T4.fr {r g g' : GH} {S : Int → Prop} {V : Int → Int → Int} (hr : RI r) (h : T4 r S V g) (e : ∀ i, F4 i → ∀ j, g' i j = g i j) : T4 r S V g' := fun k k0 k6 => by
  have hm := hr.2.1 k k0 k6
  obtain ⟨f0, f1, fb⟩ := mo_f3 hm
  obtain ⟨a, b⟩ := h k k0 k6
  refine ⟨fun z => a (by rw [← e _ (Or.inl f0) 0]; exact z), fun s => ?_⟩
  obtain ⟨x, y, z⟩ := b s
  refine ⟨?_, y, z.fr (fun i i0 i1 j => e i (Or.inr (fb i (by omega) (by omega))) j)⟩
  unfold WHR
  have w := e _ (Or.inl f1)
  rw [w, w, w, w, w, w, w, w, w]
  exact x
section EBL
variable {r : GH} {S : Int → Prop} {V : Int → Int → Int}
theorem EB.rf {g : GH} (hT : T4 r S V g) : EB r S V g g := ⟨EQF.rf g, hT⟩
theorem EB.t {a b : GH} (h : EB r S V a b) : T4 r S V b := h.2
theorem EB.tr {a b c : GH} (h : EB r S V a b) (k : EB r S V b c) : EB r S V a c := ⟨h.1.tr k.1, k.2⟩
theorem EB.e4 {a b c : GH} (hr : RI r) (h : EB r S V a b) (e : EQF F4 b c) : EB r S V a c := ⟨h.1.tr (fun i hi j => e i (Or.inl hi) j), h.2.fr hr e⟩
theorem EB.up {a b : GH} {x j v : Int} (hr : RI r) (h : EB r S V a b) (hx : NFF F4 x) : EB r S V a (up b x j v) := h.e4 hr ((EQF.rf b).up hx)
theorem EB.cp {a b : GH} {s sp x dp n : Int} (hr : RI r) (h : EB r S V a b) (hx : NFF F4 x) : EB r S V a (cpy b s sp x dp n) := h.e4 hr ((EQF.rf b).cp hx)
/-- one mill's bucket was filled -/
theorem EB.bu {a b c : GH} {k : Int} (hr : RI r) (h : EB r S V a b) (k0 : 0 ≤ k) (k6 : k < 6) (u : BUX (r 6 k + 1) b c) (z : BK3 c (r 6 k + 1) (V k)) : EB r S V a c := by
  have hm := hr.2.1 k k0 k6
  have bb := (mo_f3 hm).2.2
  have nb : ∀ i, BO i → ¬ F3 i := fun i hi f => by
    unfold BO at hi
    unfold F3 SC at f
    omega
  refine ⟨fun i hi j => (u i j (fun q => ?_)).trans (h.1 i hi j), fun q q0 q6 => ?_⟩
  · exact nb i (bb i (by omega) (by omega)) hi
  · have hq := hr.2.1 q q0 q6
    obtain ⟨f0, f1, _⟩ := mo_f3 hq
    obtain ⟨x, y⟩ := h.2 q q0 q6
    have e0 : c (r 6 q) 0 = b (r 6 q) 0 := u _ _ (fun w => nb _ (bb _ (by omega) (by omega)) f0)
    refine ⟨fun w => x (by rw [← e0]; exact w), fun s => ?_⟩
    obtain ⟨w1, w2, w3⟩ := y s
    have e1 : ∀ j, c (r 6 q + 1) j = b (r 6 q + 1) j := fun j => u _ _ (fun w => nb _ (bb _ (by omega) (by omega)) f1)
    refine ⟨?_, w2, ?_⟩
    · unfold WHR
      rw [e1, e1, e1, e1, e1, e1, e1, e1, e1]
      exact w1
    · by_cases e : q = k
      · rw [e]; exact z
      · have ap := mo_apart hm hq (hr.2.2.2.2 q k q0 q6 k0 k6 e)
        exact w3.fr (fun i i0 i1 j => u i j (by omega))
end EBL
def WHV (r : GH) (S : Int → Prop) (x : Int) : Prop := okr 218 x 7 ∧ ∃ k, 0 ≤ k ∧ k < 6 ∧ S k ∧ x = r 6 k + 1
def BKV (r : GH) (S : Int → Prop) (b : Int) : Prop := okr 218 b 1 ∧ ∃ k, 0 ≤ k ∧ k < 6 ∧ S k ∧ b = r 6 k + 1 + 1
def MLV (r : GH) (S : Int → Prop) (m : Int) : Prop := okr 218 m 2 ∧ True ∧ WHV r S (r m 1) ∧ RUF F4 r (r m 4)
def MRV (r : GH) (S : Int → Prop) : Prop := (0 ≤ (6 : Int) ∧ (6 : Int) < 218 ∧ 11 ≤ am_sh 6 ∧ am_sh 6 ≤ 15) ∧ am_ln 6 = 6 ∧ ∀ j : Int, 0 ≤ j → j < 6 → (okI 218 6 14 j ∨ okI 218 6 15 j) ∧ MO (r 6 j) ∧ okr 218 (r 6 j) 2 ∧ (S j → MLV r S (r 6 j))
theorem ruf_of {r : GH} {m : Int} (hr : RI r) (h : MO m) : RUF F4 r (r m 4) := by
  have u := (ml_of hr h).2.2.2
  refine ⟨u.1, u.2.1.fz, u.2.2.1.fz, u.2.2.2.1.fz, u.2.2.2.2.1.f ?_, trivial⟩
  rw [mo_4 hr h]
  rcases h with rfl | rfl | rfl | rfl | rfl | rfl | rfl
  · rw [show (7 : Int) + 6 = 13 by decide, r_13_5 hr]; exact sq4 _ (by unfold SC; omega) (by unfold BO; omega)
  · rw [show (66 : Int) + 6 = 72 by decide, r_72_5 hr]; exact sq4 _ (by unfold SC; omega) (by unfold BO; omega)
  · rw [show (77 : Int) + 6 = 83 by decide, r_83_5 hr]; exact sq4 _ (by unfold SC; omega) (by unfold BO; omega)
  · rw [show (88 : Int) + 6 = 94 by decide, r_94_5 hr]; exact sq4 _ (by unfold SC; omega) (by unfold BO; omega)
  · rw [show (99 : Int) + 6 = 105 by decide, r_105_5 hr]; exact sq4 _ (by unfold SC; omega) (by unfold BO; omega)
  · rw [show (110 : Int) + 6 = 116 by decide, r_116_5 hr]; exact sq4 _ (by unfold SC; omega) (by unfold BO; omega)
  · rw [show (121 : Int) + 6 = 127 by decide, r_127_5 hr]; exact sq4 _ (by unfold SC; omega) (by unfold BO; omega)
theorem mlv_of {r : GH} {S : Int → Prop} {k : Int} (hr : RI r) (k0 : 0 ≤ k) (k6 : k < 6) (s : S k) : MLV r S (r 6 k) := by
  have hm := hr.2.1 k k0 k6
  refine ⟨mo_ok hm, trivial, ?_, ruf_of hr hm⟩
  rw [mo_1 hr hm]
  exact ⟨mo_w hm, k, k0, k6, s, rfl⟩
theorem mrv_of {r : GH} {S : Int → Prop} (hr : RI r) : MRV r S := ⟨a_6.mpr trivial, n_6, fun j h0 h1 => ⟨Or.inl (i_6.mpr ⟨h0, h1⟩), hr.2.1 j h0 h1, mo_ok (hr.2.1 j h0 h1), mlv_of hr h0 h1⟩⟩
theorem mrz_of {r : GH} (hr : RI r) : MRF FZ r := mrf_of hr sqz
theorem brf4_34 {r : GH} (hr : RI r) : BRF F4 r 34 := by
  obtain ⟨a, _, b4, b5, b6, b7, b8, b9, b10, b11, b12, b13⟩ := br_34 hr
  refine ⟨a, sq4 34 (by unfold SC; omega) (by unfold BO; omega), b4.f ?_, b5.f ?_, b6.f ?_, b7.f ?_, b8.f ?_, b9.f ?_, b10.f ?_, b11.f ?_, b12.f ?_, b13.f ?_⟩
  · rw [r_34_4 hr]; exact sq4 _ (by unfold SC; omega) (by unfold BO; omega)
  · rw [r_34_5 hr]; exact sq4 _ (by unfold SC; omega) (by unfold BO; omega)
  · rw [r_34_6 hr]; exact sq4 _ (by unfold SC; omega) (by unfold BO; omega)
  · rw [r_34_7 hr]; exact sq4 _ (by unfold SC; omega) (by unfold BO; omega)
  · rw [r_34_8 hr]; exact sq4 _ (by unfold SC; omega) (by unfold BO; omega)
  · rw [r_34_9 hr]; exact sq4 _ (by unfold SC; omega) (by unfold BO; omega)
  · rw [r_34_10 hr]; exact sq4 _ (by unfold SC; omega) (by unfold BO; omega)
  · rw [r_34_11 hr]; exact sq4 _ (by unfold SC; omega) (by unfold BO; omega)
  · rw [r_34_12 hr]; exact sq4 _ (by unfold SC; omega) (by unfold BO; omega)
  · rw [r_34_13 hr]; exact sq4 _ (by unfold SC; omega) (by unfold BO; omega)
theorem brf4_23 {r : GH} (hr : RI r) : BRF F4 r 23 := by
  have n : ∀ x, 23 ≤ x → x ≤ 33 → ¬ F4 x := fun x a b z => z.elim (fun q => q.2.1 ⟨a, b⟩) (fun q => by unfold BO at q; omega)
  obtain ⟨a, _, b4, b5, b6, b7, b8, b9, b10, b11, b12, b13⟩ := br_23 hr
  refine ⟨a, n 23 (by decide) (by decide), b4.f ?_, b5.f ?_, b6.f ?_, b7.f ?_, b8.f ?_, b9.f ?_, b10.f ?_, b11.f ?_, b12.f ?_, b13.f ?_⟩
  · rw [r_23_4 hr]; exact n _ (by decide) (by decide)
  · rw [r_23_5 hr]; exact n _ (by decide) (by decide)
  · rw [r_23_6 hr]; exact n _ (by decide) (by decide)
  · rw [r_23_7 hr]; exact n _ (by decide) (by decide)
  · rw [r_23_8 hr]; exact n _ (by decide) (by decide)
  · rw [r_23_9 hr]; exact n _ (by decide) (by decide)
  · rw [r_23_10 hr]; exact n _ (by decide) (by decide)
  · rw [r_23_11 hr]; exact n _ (by decide) (by decide)
  · rw [r_23_12 hr]; exact n _ (by decide) (by decide)
  · rw [r_23_13 hr]; exact n _ (by decide) (by decide)
theorem plf4_48 {r : GH} (hr : RI r) : PLF F4 r 48 := by
  have p := pl_48 hr
  refine ⟨p.1, sq4 48 (by unfold SC; omega) (by unfold BO; omega), p.2.2.f ?_⟩
  rw [r_48_0 hr]; exact sq4 _ (by unfold SC; omega) (by unfold BO; omega)
section EBT
variable {S : Int → Prop} {V : Int → Int → Int} {sc : SCR} {d : Nat} {Q : QJ} {g r : GH} {l0 l1 l2 l3 l4 l5 l6 l7 l8 l9 : Int}
theorem v_129 (hr : RI r) (hT : T4 r S V g) (h1 : ∀ m, m ≠ -1 → 0 ≤ l1 → l1 < 6 → okr 218 m 2 → True → WHV r S (r m 1) → okr 218 (r m 1) 7 → RUF F4 r (r m 4) → okr 218 (r m 4) 6 → BKV r S (r (r m 1) 9) → okr 218 (r (r m 1) 9) 1 → Q m g r) (h0 : Q (-1) g r) : Ce sc (d + 2) 129 [(2, 0), (0, l1)] g r Q :=
  w_129 hr (fun t => by
    have hm := hr.2.1 l1 t.1 t.2.1
    have hl := mlv_of hr t.1 t.2.1 ((hT l1 t.1 t.2.1).1 t.2.2)
    have e9 : r (r (r 6 l1) 1) 9 = r 6 l1 + 1 + 1 := by rw [mo_1 hr hm]; exact (wxo_of hr hm).2.2.1
    have kb : okr 218 (r (r (r 6 l1) 1) 9) 1 := by rw [e9]; exact (wxo_of hr hm).2.1
    exact h1 _ (mo_ne hm) t.1 t.2.1 hl.1 hl.2.1 hl.2.2.1 hl.2.2.1.1 hl.2.2.2 hl.2.2.2.1 ⟨kb, l1, t.1, t.2.1, (hT l1 t.1 t.2.1).1 t.2.2, e9⟩ kb) (fun _ => h0)
theorem v_130 (hr : RI r) (hT : T4 r S V g) (h1 : ∀ x, x ≠ -1 → 0 ≤ l1 → l1 < 6 → WHV r S x → okr 218 x 7 → BKV r S (r x 9) → okr 218 (r x 9) 1 → Q x g r) (h0 : Q (-1) g r) : Ce sc (d + 3) 130 [(2, 0), (0, l1)] g r Q :=
  w_130 hr (fun t _ => by
    have hm := hr.2.1 l1 t.1 t.2.1
    have s := (hT l1 t.1 t.2.1).1 t.2.2
    have e9 : r (r 6 l1 + 1) 9 = r 6 l1 + 1 + 1 := (wxo_of hr hm).2.2.1
    have kb : okr 218 (r (r 6 l1 + 1) 9) 1 := by rw [e9]; exact (wxo_of hr hm).2.1
    exact h1 _ (by unfold MO at hm; omega) t.1 t.2.1 ⟨mo_w hm, l1, t.1, t.2.1, s, rfl⟩ (mo_w hm) ⟨kb, l1, t.1, t.2.1, s, e9⟩ kb) (fun _ => h0)
theorem v_59 (hr : RI r) (hW : WHV r S l0) (hT : T4 r S V g) (h : ∀ v g', EB r S V g g' → Q v g' r) : Ce sc (d + 4) 59 [(2, l0), (0, l1), (0, l2), (0, l3)] g r Q := by
  obtain ⟨_, k, k0, k6, s, rfl⟩ := hW
  obtain ⟨_, w, b3⟩ := (hT k k0 k6).2 s
  exact ay_59 (wxo_of hr (hr.2.1 k k0 k6)) b3 w (fun v g' u z => h _ _ ((EB.rf hT).bu hr k0 k6 u z))
theorem v_62 (hr : RI r) (hW : WHV r S l0) (hT : T4 r S V g) (h : ∀ v g', EB r S V g g' → Q v g' r) : Ce sc (d + 5) 62 [(2, l0), (0, l1), (0, l2), (0, l3), (0, l4)] g r Q := by
  obtain ⟨_, k, k0, k6, s, rfl⟩ := hW
  obtain ⟨_, w, b3⟩ := (hT k k0 k6).2 s
  exact ay_62 (wxo_of hr (hr.2.1 k k0 k6)) b3 w (fun v g' u z => h _ _ ((EB.rf hT).bu hr k0 k6 u z))
theorem v_63 (hr : RI r) (hW : WHV r S l0) (hT : T4 r S V g) (h : ∀ v g', EB r S V g g' → Q v g' r) : Ce sc (d + 6) 63 [(2, l0), (0, l1)] g r Q := by
  obtain ⟨_, k, k0, k6, s, rfl⟩ := hW
  obtain ⟨_, w, b3⟩ := (hT k k0 k6).2 s
  exact ay_63 (wxo_of hr (hr.2.1 k k0 k6)) b3 w (fun v g' u z => h _ _ ((EB.rf hT).bu hr k0 k6 u z))
theorem v_64 (hr : RI r) (hW : WHV r S l0) (hT : T4 r S V g) (h : ∀ v g', EB r S V g g' → Q v g' r) : Ce sc (d + 6) 64 [(2, l0), (0, l1), (0, l2), (0, l3)] g r Q := by
  obtain ⟨_, k, k0, k6, s, rfl⟩ := hW
  obtain ⟨_, w, b3⟩ := (hT k k0 k6).2 s
  exact ay_64 (wxo_of hr (hr.2.1 k k0 k6)) b3 w (fun v g' u z => h _ _ ((EB.rf hT).bu hr k0 k6 u z))
theorem v_10 (hr : RI r) (hB : BKV r S l0) (hT : T4 r S V g) (h : ∀ v g', EB r S V g g' → Q v g' r) : Ce sc (d + 2) 10 [(2, l0), (0, l1)] g r Q := by
  obtain ⟨_, k, k0, k6, s, rfl⟩ := hB
  obtain ⟨_, w, b3⟩ := (hT k k0 k6).2 s
  exact ay_10 (wxo_of hr (hr.2.1 k k0 k6)) b3.1 (fun g' u z e _ => h _ _ ((EB.rf hT).bu hr k0 k6 u ⟨z, fun _ _ a _ => absurd a (by omega)⟩))
theorem v_12 (hr : RI r) (hB : BKV r S l0) (hT : T4 r S V g) (h : ∀ v g', EB r S V g g' → Q v g' r) : Ce sc (d + 3) 12 [(2, l0), (0, l1)] g r Q := by
  obtain ⟨_, k, k0, k6, s, rfl⟩ := hB
  obtain ⟨_, w, b3⟩ := (hT k k0 k6).2 s
  exact ay_12 (wxo_of hr (hr.2.1 k k0 k6)) b3.1 (fun v g' u z => h _ _ ((EB.rf hT).bu hr k0 k6 u z))
theorem v_13 (hr : RI r) (hB : BKV r S l0) (hT : T4 r S V g) (h : ∀ v g', EB r S V g g' → Q v g' r) : Ce sc (d + 3) 13 [(2, l0), (0, l1), (0, l2)] g r Q := by
  obtain ⟨_, k, k0, k6, s, rfl⟩ := hB
  obtain ⟨_, w, b3⟩ := (hT k k0 k6).2 s
  exact ay_13 (wxo_of hr (hr.2.1 k k0 k6)) b3 w (fun g' u z => h _ _ ((EB.rf hT).bu hr k0 k6 u z))
theorem v_16 (hr : RI r) (hB : BKV r S l0) (hT : T4 r S V g) (h : ∀ v g', EB r S V g g' → Q v g' r) : Ce sc (d + 1) 16 [(2, l0)] g r Q := by
  obtain ⟨_, k, k0, k6, s, rfl⟩ := hB
  obtain ⟨_, w, b3⟩ := (hT k k0 k6).2 s
  exact ay_16 (wxo_of hr (hr.2.1 k k0 k6)) b3.1 w (fun v => h _ _ (EB.rf hT))
theorem v_11 (hr : RI r) (hB : BKV r S l0) (h : ∀ v, Q v g r) : Ce sc (d + 1) 11 [(2, l0), (0, l1)] g r Q := by
  obtain ⟨_, k, k0, k6, s, rfl⟩ := hB
  exact ay_11 (wxo_of hr (hr.2.1 k k0 k6)) h
theorem v_14 (hr : RI r) (hB : BKV r S l0) (h : ∀ v, Q v g r) : Ce sc (d + 1) 14 [(2, l0), (0, l1)] g r Q := by
  obtain ⟨_, k, k0, k6, s, rfl⟩ := hB
  have b := bkf_of (F := FZ) hr sqz (hr.2.1 k k0 k6)
  rw [show r 6 k + 2 = r 6 k + 1 + 1 by omega] at b
  exact t_14 b h
theorem v_15 (hr : RI r) (hB : BKV r S l0) (hT : T4 r S V g) (h : ∀ v g', EB r S V g g' → Q v g' r) : Ce sc (d + 3) 15 [(2, l0)] g r Q := by
  obtain ⟨_, k, k0, k6, s, rfl⟩ := hB
  obtain ⟨_, w, b3⟩ := (hT k k0 k6).2 s
  have hx := wxo_of hr (hr.2.1 k k0 k6)
  have k1 := hx.2.1
  have P := pls_b w
  have a2 := hx.2.2.2.2.2.2.1
  have a4 := hx.2.2.2.2.2.2.2.2
  have loop : ∀ (n : Nat) (q acc : Int), 0 ≤ q → q + n = plsE (V k) → WQ sc (d + 2) 15 Q 4 [(2, r 6 k + 1 + 1), (1, acc), (8, 0), (0, q)] [] g r := by
    intro n
    induction n with
    | zero =>
      intro q acc c0 e
      refine b_15_4 ⟨k1, ?_⟩
      rw [b3.1.2.2.2.2.1]
      exact ite_c (fun q => absurd q (by omega)) (fun _ => ⟨k1, by decide, h _ _ (EB.rf hT)⟩)
    | succ n ih =>
      intro q acc c0 e
      have pb := plc_e w c0 (by omega)
      have p180 := P.2.2.1 q c0 (by omega)
      refine b_15_4 ⟨k1, ?_⟩
      rw [b3.1.2.2.2.2.1, hx.2.2.2.2.2.1, hx.2.2.2.1, (b3.1.2.2.2.2.2 q c0 (by omega)).1, wr_id (x := q + 1) ⟨by omega, by omega⟩]
      exact ite_c (fun _ => ite_c (fun _ => ⟨k1, ⟨a4.1, c0, by rw [a4.2]; omega⟩, k1, ⟨a2.1, c0, by rw [a2.2]; omega⟩, w_17 pb.2.1 (by omega) (ih _ _ (by omega) (by omega))⟩) (fun q => absurd (by omega) q)) (fun q => absurd (by omega) q)
  exact c_15 (loop (plsE (V k)).toNat 0 0 (by decide) (by omega))
theorem v_6 {F : Int → Prop} (hR : BRF F r l0) (hM : MRF FZ r) (h : ∀ v g', EQF F g g' → Q v g' r) : Ce sc (d + 2) 6 [(2, l0), (2, 6)] g r Q := by
  obtain ⟨m1, m2, m3⟩ := hM
  have hR0 := hR
  obtain ⟨x1, x2, x3, x4, x5, x6, x7, x8, x9, x10, x11, x12⟩ := hR
  have mx3 := x3.2.1
  have nx3 := x3.2.2
  have mx4 := x4.2.1
  have nx4 := x4.2.2
  have mx5 := x5.2.1
  have nx5 := x5.2.2
  have mx6 := x6.2.1
  have nx6 := x6.2.2
  have mx7 := x7.2.1
  have nx7 := x7.2.2
  have mx8 := x8.2.1
  have nx8 := x8.2.2
  have mx9 := x9.2.1
  have nx9 := x9.2.2
  have mx10 := x10.2.1
  have nx10 := x10.2.2
  have mx11 := x11.2.1
  have nx11 := x11.2.2
  have mx12 := x12.2.1
  have nx12 := x12.2.2
  have loop : ∀ l4 : Int, -1 ≤ l4 → l4 < 2147483647 → l4 ≤ 5 → ∀ (l2 l3 : Int) g1, EQF F g g1 → WQ sc (d + 1) 6 Q 7 [(2, l0), (2, 6), (0, l2), (0, l3), (0, l4), (9, 0)] [] g1 r := by
    refine dnW fun l4 _ _ ih h5 l2 l3 g1 e0 => ?_
    refine b_6_7 (ite_c (fun _ => h _ _ e0) (fun hi => ⟨m1, ite_c (fun _ => ?_) (fun q => by omega)⟩))
    obtain ⟨k1, k2, k3, k4, k5, k6⟩ := m3 l4 (by omega) (by omega)
    refine ⟨k1, b_6_27 ?_⟩
    rw [if_neg (mo_ne k2)]
    have st : ∀ (a b : Int) g2, EQF F g g2 → WQ sc (d + 1) 6 Q 7 [(2, l0), (2, 6), (0, a), (0, b), (0, wr (l4 + (-1))), (9, 0)] [] g2 r := fun a b g2 e => ih (by omega) (by rw [wr_id ⟨by omega, by omega⟩]; omega) a b g2 e
    repeat' first
      | (with_reducible refine ite_01 ?_)
      | (with_reducible refine ite_00 ?_)
      | (with_reducible refine And.intro ?_ ?_; · first | assumption | decide | (exact ARF.i (by assumption) (by omega) (by omega)))
      | (refine ite_c (fun _ => ?_) (fun _ => ?_))
      | (intro _ e1; subst e1)
      | (refine s_22 (by assumption) (fun _ => ?_))
      | (exact st _ _ _ (by (repeat (with_reducible first | assumption | exact EQF.rf _ | (refine EQF.up ?_ (by assumption)) | (refine EQF.cp ?_ (by assumption)) | (refine EQF.tr ?_ (by assumption))))))
  exact c_6 (loop 5 (by decide) (by decide) (by decide) _ _ _ (EQF.rf g))
theorem r4_133 (hr : RI r) (h0 : 0 ≤ l1) (h2 : l1 ≤ 2) (h : ∀ v g', EQF F4 g g' → Q v g' r) : Ce sc (d + 2) 133 [(2, 0), (0, l1)] g r Q := w_133 hr h0 h2 (h _ _ ((EQF.rf g).up (sq4 _ (by unfold SC; omega) (by unfold BO; omega))))
theorem v_7 (hr : RI r) (hR : BRF F4 r l0) (hM : MLV r S l1) (hP : PLF FZ r l3) (hT : T4 r S V g) (h : ∀ v g', EB r S V g g' → Q v g' r) : Ce sc (d + 6) 7 [(2, l0), (2, l1), (0, l2), (2, l3)] g r Q := by
  have hR0 := hR
  obtain ⟨x1, x2, x3, x4, x5, x6, x7, x8, x9, x10, x11, x12⟩ := hR
  have mx3 := x3.2.1
  have nx3 := x3.2.2
  have mx4 := x4.2.1
  have nx4 := x4.2.2
  have mx5 := x5.2.1
  have nx5 := x5.2.2
  have mx6 := x6.2.1
  have nx6 := x6.2.2
  have mx7 := x7.2.1
  have nx7 := x7.2.2
  have mx8 := x8.2.1
  have nx8 := x8.2.2
  have mx9 := x9.2.1
  have nx9 := x9.2.2
  have mx10 := x10.2.1
  have nx10 := x10.2.2
  have mx11 := x11.2.1
  have nx11 := x11.2.2
  have mx12 := x12.2.1
  have nx12 := x12.2.2
  obtain ⟨m1, m2, hW, hU⟩ := hM
  have w1 := hW.1
  have u1 := hU.1
  have p1 := hP.1
  by_cases hl : 0 ≤ l2 ∧ l2 ≤ 5
  · obtain ⟨hl0, hl5⟩ := hl
    have end3 : ∀ (l4 l8 l9 t2 t3 : Int) g1, EB r S V g g1 → WQ sc (d + 5) 7 Q 225 [(2, l0), (9, 0), (0, l2), (9, 0), (0, l4), (9, 0), (9, 0), (9, 0), (0, l8), (0, l9), (9, 0), (9, 0), (9, 0)] [(0, t3), (0, t2), (0, l2), (2, r l0 9)] g1 r := by
      intro l4 l8 l9 t2 t3 g1 e0
      refine b_7_225 ?_
      repeat' first
        | (with_reducible refine ite_01 ?_)
        | (with_reducible refine ite_00 ?_)
        | (with_reducible refine And.intro ?_ ?_; · first | assumption | decide | (exact ARF.i (by assumption) (by omega) (by omega)) | (exact ARF.a (by assumption) (by decide) (by decide)) | (exact ARF.k (by assumption)) | omega | (have := cmp_gt.mp (by assumption : 0 < cmpL _ 0); omega))
        | (refine ite_c (fun _ => ?_) (fun _ => ?_))
        | (intro _ e1; subst e1)
        | (with_reducible refine t_4 (by assumption) (fun _ _ _ => ?_))
        | (with_reducible refine s_22 (by assumption) (fun _ => ?_))
        | (with_reducible refine t_29 (by assumption) (fun _ => ?_))
        | (with_reducible refine t_51 (by assumption) (fun _ _ _ => ?_))
        | (with_reducible refine v_62 (S := S) (V := V) hr (by assumption) (by first | assumption | exact EB.t (by assumption) | (refine EB.t (a := g) ?_; (repeat (with_reducible first | assumption | exact EB.rf hT | (refine EB.up hr ?_ (by assumption)) | (refine EB.cp hr ?_ (by assumption)) | (refine EB.tr ?_ (by assumption)) | (refine EB.e4 hr ?_ (by assumption)))))) (fun _ _ _ => ?_))
        | (with_reducible refine w_123 (fun _ _ => ?_) (fun _ => ?_))
        | (with_reducible refine w_248 (fun _ => ?_) (fun _ => ?_))
        | (with_reducible refine w_250 (fun _ => ?_) (fun _ => ?_))
        | (exfalso; omega)
        | (exact absurd trivial (by assumption))
        | ((with_reducible refine h _ _ ?_) <;> (first | ((repeat (with_reducible first | assumption | exact EB.rf hT | (refine EB.up hr ?_ (by assumption)) | (refine EB.cp hr ?_ (by assumption)) | (refine EB.tr ?_ (by assumption)) | (refine EB.e4 hr ?_ (by assumption)))); done) | omega | decide | (rw [wr_id ⟨by omega, by omega⟩]; omega)))
    have mid : ∀ (l4 l5 l7 : Int) g1, EB r S V g g1 → WQ sc (d + 5) 7 Q 113 [(2, l0), (2, l1), (0, l2), (9, 0), (0, l4), (0, l5), (9, 0), (0, l7), (9, 0), (9, 0), (9, 0), (9, 0), (9, 0)] [] g1 r := by
      intro l4 l5 l7 g1 e0
      refine b_7_113 ?_
      repeat' first
        | (with_reducible refine ite_01 ?_)
        | (with_reducible refine ite_00 ?_)
        | (with_reducible refine And.intro ?_ ?_; · first | assumption | decide | (exact ARF.i (by assumption) (by omega) (by omega)) | (exact ARF.a (by assumption) (by decide) (by decide)) | (exact ARF.k (by assumption)) | omega | (have := cmp_gt.mp (by assumption : 0 < cmpL _ 0); omega))
        | (refine ite_c (fun _ => ?_) (fun _ => ?_))
        | (intro _ e1; subst e1)
        | (with_reducible refine t_4 (by assumption) (fun _ _ _ => ?_))
        | (with_reducible refine s_22 (by assumption) (fun _ => ?_))
        | (with_reducible refine t_29 (by assumption) (fun _ => ?_))
        | (with_reducible refine t_51 (by assumption) (fun _ _ _ => ?_))
        | (with_reducible refine v_62 (S := S) (V := V) hr (by assumption) (by first | assumption | exact EB.t (by assumption) | (refine EB.t (a := g) ?_; (repeat (with_reducible first | assumption | exact EB.rf hT | (refine EB.up hr ?_ (by assumption)) | (refine EB.cp hr ?_ (by assumption)) | (refine EB.tr ?_ (by assumption)) | (refine EB.e4 hr ?_ (by assumption)))))) (fun _ _ _ => ?_))
        | (with_reducible refine w_123 (fun _ _ => ?_) (fun _ => ?_))
        | (with_reducible refine w_248 (fun _ => ?_) (fun _ => ?_))
        | (with_reducible refine w_250 (fun _ => ?_) (fun _ => ?_))
        | (exfalso; omega)
        | (exact absurd trivial (by assumption))
        | ((with_reducible refine end3 _ _ _ _ _ _ ?_) <;> (first | ((repeat (with_reducible first | assumption | exact EB.rf hT | (refine EB.up hr ?_ (by assumption)) | (refine EB.cp hr ?_ (by assumption)) | (refine EB.tr ?_ (by assumption)) | (refine EB.e4 hr ?_ (by assumption)))); done) | omega | decide | (rw [wr_id ⟨by omega, by omega⟩]; omega)))
        | ((with_reducible refine h _ _ ?_) <;> (first | ((repeat (with_reducible first | assumption | exact EB.rf hT | (refine EB.up hr ?_ (by assumption)) | (refine EB.cp hr ?_ (by assumption)) | (refine EB.tr ?_ (by assumption)) | (refine EB.e4 hr ?_ (by assumption)))); done) | omega | decide | (rw [wr_id ⟨by omega, by omega⟩]; omega)))
    refine c_7 ?_
    repeat' first
      | (with_reducible refine ite_01 ?_)
      | (with_reducible refine ite_00 ?_)
      | (with_reducible refine And.intro ?_ ?_; · first | assumption | decide | (exact ARF.i (by assumption) (by omega) (by omega)) | (exact ARF.a (by assumption) (by decide) (by decide)) | (exact ARF.k (by assumption)) | omega | (have := cmp_gt.mp (by assumption : 0 < cmpL _ 0); omega))
      | (refine ite_c (fun _ => ?_) (fun _ => ?_))
      | (intro _ e1; subst e1)
      | (with_reducible refine t_4 (by assumption) (fun _ _ _ => ?_))
      | (with_reducible refine s_22 (by assumption) (fun _ => ?_))
      | (with_reducible refine t_29 (by assumption) (fun _ => ?_))
      | (with_reducible refine t_51 (by assumption) (fun _ _ _ => ?_))
      | (with_reducible refine v_62 (S := S) (V := V) hr (by assumption) (by first | assumption | exact EB.t (by assumption) | (refine EB.t (a := g) ?_; (repeat (with_reducible first | assumption | exact EB.rf hT | (refine EB.up hr ?_ (by assumption)) | (refine EB.cp hr ?_ (by assumption)) | (refine EB.tr ?_ (by assumption)) | (refine EB.e4 hr ?_ (by assumption)))))) (fun _ _ _ => ?_))
      | (with_reducible refine w_123 (fun _ _ => ?_) (fun _ => ?_))
      | (with_reducible refine w_248 (fun _ => ?_) (fun _ => ?_))
      | (with_reducible refine w_250 (fun _ => ?_) (fun _ => ?_))
      | (exfalso; omega)
      | (exact absurd trivial (by assumption))
      | ((with_reducible refine mid _ _ _ _ ?_) <;> (first | ((repeat (with_reducible first | assumption | exact EB.rf hT | (refine EB.up hr ?_ (by assumption)) | (refine EB.cp hr ?_ (by assumption)) | (refine EB.tr ?_ (by assumption)) | (refine EB.e4 hr ?_ (by assumption)))); done) | omega | decide | (rw [wr_id ⟨by omega, by omega⟩]; omega)))
      | ((with_reducible refine h _ _ ?_) <;> (first | ((repeat (with_reducible first | assumption | exact EB.rf hT | (refine EB.up hr ?_ (by assumption)) | (refine EB.cp hr ?_ (by assumption)) | (refine EB.tr ?_ (by assumption)) | (refine EB.e4 hr ?_ (by assumption)))); done) | omega | decide | (rw [wr_id ⟨by omega, by omega⟩]; omega)))
  · refine c_7 (w_123 (fun a b => (hl ⟨a, b⟩).elim) (fun _ => ?_))
    rw [if_pos rfl]
    exact h _ _ (EB.rf hT)
theorem v_5 (hr : RI r) (hR : BRF F4 r l0) (hM : MRV r S) (hP : PLF FZ r l2) (hT : T4 r S V g) (h : ∀ v g', EB r S V g g' → Q v g' r) : Ce sc (d + 7) 5 [(2, l0), (2, 6), (2, l2)] g r Q := by
  have hR0 := hR
  obtain ⟨x1, x2, x3, x4, x5, x6, x7, x8, x9, x10, x11, x12⟩ := hR
  have mx3 := x3.2.1
  have nx3 := x3.2.2
  have mx4 := x4.2.1
  have nx4 := x4.2.2
  have mx5 := x5.2.1
  have nx5 := x5.2.2
  have mx6 := x6.2.1
  have nx6 := x6.2.2
  have mx7 := x7.2.1
  have nx7 := x7.2.2
  have mx8 := x8.2.1
  have nx8 := x8.2.2
  have mx9 := x9.2.1
  have nx9 := x9.2.2
  have mx10 := x10.2.1
  have nx10 := x10.2.2
  have mx11 := x11.2.1
  have nx11 := x11.2.2
  have mx12 := x12.2.1
  have nx12 := x12.2.2
  have hM0 := hM
  obtain ⟨m1, m2, m3⟩ := hM
  have end1 : ∀ (l3 : Int) g1, EB r S V g g1 → WQ sc (d + 6) 5 Q 134 [(2, l0), (9, 0), (9, 0), (0, l3), (9, 0), (9, 0), (9, 0)] [] g1 r := by
    intro l3 g1 e0
    refine b_5_134 ?_
    repeat' first
      | (with_reducible refine ite_01 ?_)
      | (with_reducible refine ite_00 ?_)
      | (with_reducible refine And.intro ?_ ?_; · first | assumption | decide | (exact ARF.i (by assumption) (by omega) (by omega)) | (exact ARF.a (by assumption) (by decide) (by decide)) | (exact ARF.k (by assumption)) | omega | (have := cmp_gt.mp (by assumption : 0 < cmpL _ 0); omega))
      | (refine ite_c (fun _ => ?_) (fun _ => ?_))
      | (intro _ e1; subst e1)
      | (with_reducible refine t_4 (by assumption) (fun _ _ _ => ?_))
      | (with_reducible refine v_6 (F := F4) (by assumption) (mrz_of hr) (fun _ _ _ => ?_))
      | (with_reducible refine v_7 (S := S) (V := V) hr (by assumption) (by assumption) (by assumption) (by first | assumption | exact EB.t (by assumption) | (refine EB.t (a := g) ?_; (repeat (with_reducible first | assumption | exact EB.rf hT | (refine EB.up hr ?_ (by assumption)) | (refine EB.cp hr ?_ (by assumption)) | (refine EB.tr ?_ (by assumption)) | (refine EB.e4 hr ?_ (by assumption)))))) (fun _ _ _ => ?_))
      | (with_reducible refine w_123 (fun _ _ => ?_) (fun _ => ?_))
      | (exfalso; omega)
      | (exact absurd trivial (by assumption))
      | ((with_reducible refine h _ _ ?_) <;> (first | ((repeat (with_reducible first | assumption | exact EB.rf hT | (refine EB.up hr ?_ (by assumption)) | (refine EB.cp hr ?_ (by assumption)) | (refine EB.tr ?_ (by assumption)) | (refine EB.e4 hr ?_ (by assumption)))); done) | omega | decide | (rw [wr_id ⟨by omega, by omega⟩]; omega)))
  have loop : ∀ l5 : Int, -2147483648 ≤ l5 → 0 ≤ l5 → ∀ (l3 l4 : Int) g1, EB r S V g g1 → WQ sc (d + 6) 5 Q 55 [(2, l0), (2, 6), (2, l2), (0, l3), (0, l4), (0, l5), (9, 0)] [] g1 r := by
    refine upW 6 (by decide) fun l5 _ ih h5 l3 l4 g1 e0 => ?_
    refine b_5_55 (ite_c (fun _ => end1 _ _ e0) (fun _ => ite_c (fun hi => ⟨m1, ite_c (fun _ => ?_) (fun _ => end1 _ _ e0)⟩) (fun _ => end1 _ _ e0)))
    obtain ⟨k1, k2, k4, k5⟩ := m3 l5 h5 hi
    refine ⟨k1, ?_⟩
    rw [if_neg (mo_ne k2)]
    refine ⟨k4, ite_c (fun _ => ih (by omega) (by rw [wr_id ⟨by omega, by omega⟩]; omega) _ _ _ e0) (fun nz => ?_)⟩
    have k3 := k5 ((e0.2 l5 h5 hi).1 nz)
    repeat' first
      | (with_reducible refine ite_01 ?_)
      | (with_reducible refine ite_00 ?_)
      | (with_reducible refine And.intro ?_ ?_; · first | assumption | decide | (exact ARF.i (by assumption) (by omega) (by omega)) | (exact ARF.a (by assumption) (by decide) (by decide)) | (exact ARF.k (by assumption)) | omega | (have := cmp_gt.mp (by assumption : 0 < cmpL _ 0); omega))
      | (refine ite_c (fun _ => ?_) (fun _ => ?_))
      | (intro _ e1; subst e1)
      | (with_reducible refine t_4 (by assumption) (fun _ _ _ => ?_))
      | (with_reducible refine v_6 (F := F4) (by assumption) (mrz_of hr) (fun _ _ _ => ?_))
      | (with_reducible refine v_7 (S := S) (V := V) hr (by assumption) (by assumption) (by assumption) (by first | assumption | exact EB.t (by assumption) | (refine EB.t (a := g) ?_; (repeat (with_reducible first | assumption | exact EB.rf hT | (refine EB.up hr ?_ (by assumption)) | (refine EB.cp hr ?_ (by assumption)) | (refine EB.tr ?_ (by assumption)) | (refine EB.e4 hr ?_ (by assumption)))))) (fun _ _ _ => ?_))
      | (with_reducible refine w_123 (fun _ _ => ?_) (fun _ => ?_))
      | (exfalso; omega)
      | (exact absurd trivial (by assumption))
      | ((with_reducible refine ih ?_ ?_ _ _ _ ?_) <;> (first | ((repeat (with_reducible first | assumption | exact EB.rf hT | (refine EB.up hr ?_ (by assumption)) | (refine EB.cp hr ?_ (by assumption)) | (refine EB.tr ?_ (by assumption)) | (refine EB.e4 hr ?_ (by assumption)))); done) | omega | decide | (rw [wr_id ⟨by omega, by omega⟩]; omega)))
      | ((with_reducible refine h _ _ ?_) <;> (first | ((repeat (with_reducible first | assumption | exact EB.rf hT | (refine EB.up hr ?_ (by assumption)) | (refine EB.cp hr ?_ (by assumption)) | (refine EB.tr ?_ (by assumption)) | (refine EB.e4 hr ?_ (by assumption)))); done) | omega | decide | (rw [wr_id ⟨by omega, by omega⟩]; omega)))
  refine c_5 ?_
  repeat' first
    | (with_reducible refine ite_01 ?_)
    | (with_reducible refine ite_00 ?_)
    | (with_reducible refine And.intro ?_ ?_; · first | assumption | decide | (exact ARF.i (by assumption) (by omega) (by omega)) | (exact ARF.a (by assumption) (by decide) (by decide)) | (exact ARF.k (by assumption)) | omega | (have := cmp_gt.mp (by assumption : 0 < cmpL _ 0); omega))
    | (refine ite_c (fun _ => ?_) (fun _ => ?_))
    | (intro _ e1; subst e1)
    | (with_reducible refine t_4 (by assumption) (fun _ _ _ => ?_))
    | (with_reducible refine v_6 (F := F4) (by assumption) (mrz_of hr) (fun _ _ _ => ?_))
    | (with_reducible refine v_7 (S := S) (V := V) hr (by assumption) (by assumption) (by assumption) (by first | assumption | exact EB.t (by assumption) | (refine EB.t (a := g) ?_; (repeat (with_reducible first | assumption | exact EB.rf hT | (refine EB.up hr ?_ (by assumption)) | (refine EB.cp hr ?_ (by assumption)) | (refine EB.tr ?_ (by assumption)) | (refine EB.e4 hr ?_ (by assumption)))))) (fun _ _ _ => ?_))
    | (with_reducible refine w_123 (fun _ _ => ?_) (fun _ => ?_))
    | (exfalso; omega)
    | (exact absurd trivial (by assumption))
    | ((with_reducible refine loop _ ?_ ?_ _ _ _ ?_) <;> (first | ((repeat (with_reducible first | assumption | exact EB.rf hT | (refine EB.up hr ?_ (by assumption)) | (refine EB.cp hr ?_ (by assumption)) | (refine EB.tr ?_ (by assumption)) | (refine EB.e4 hr ?_ (by assumption)))); done) | omega | decide | (rw [wr_id ⟨by omega, by omega⟩]; omega)))
    | ((with_reducible refine h _ _ ?_) <;> (first | ((repeat (with_reducible first | assumption | exact EB.rf hT | (refine EB.up hr ?_ (by assumption)) | (refine EB.cp hr ?_ (by assumption)) | (refine EB.tr ?_ (by assumption)) | (refine EB.e4 hr ?_ (by assumption)))); done) | omega | decide | (rw [wr_id ⟨by omega, by omega⟩]; omega)))
theorem v_69 (hr : RI r) (hT : T4 r S V g) (h : ∀ v g', EB r S V g g' → Q v g' r) : Ce sc (d + 4) 69 [(2, 0), (0, l1), (0, l2)] g r Q := by
  have k0 : okr 218 0 8 := okd (by decide +kernel)
  have b23 := (br_23 hr).fz
  have k23 := b23.1
  have q23 := b23.2.1
  have ar26 : ARF FZ 26 11 6 := AR.fz (ar_of (by decide +kernel) (by decide +kernel) (by decide +kernel))
  have nr26 := ar26.2.2
  have ar27 : ARF FZ 27 11 6 := AR.fz (ar_of (by decide +kernel) (by decide +kernel) (by decide +kernel))
  have nr27 := ar27.2.2
  refine c_69 ?_
  repeat' first
    | (with_reducible refine ite_01 ?_)
    | (with_reducible refine ite_00 ?_)
    | (with_reducible refine And.intro ?_ ?_; · first | assumption | decide | (exact ARF.i (by assumption) (by omega) (by omega)) | (exact ARF.a (by assumption) (by decide) (by decide)) | (exact ARF.k (by assumption)) | omega | (have := cmp_gt.mp (by assumption : 0 < cmpL _ 0); omega))
    | (simp only [r_0_4 hr, r_23_6 hr, r_23_7 hr])
    | (refine ite_c (fun _ => ?_) (fun _ => ?_))
    | (intro _ e1; subst e1)
    | (with_reducible refine v_12 (S := S) (V := V) hr (by assumption) (by first | assumption | exact EB.t (by assumption) | (refine EB.t (a := g) ?_; (repeat (with_reducible first | assumption | exact EB.rf hT | (refine EB.up hr ?_ (by assumption)) | (refine EB.cp hr ?_ (by assumption)) | (refine EB.tr ?_ (by assumption)) | (refine EB.e4 hr ?_ (by assumption)))))) (fun _ _ _ => ?_))
    | (with_reducible refine s_22 (by assumption) (fun _ => ?_))
    | (with_reducible refine v_129 (S := S) (V := V) hr (by first | assumption | exact EB.t (by assumption) | (refine EB.t (a := g) ?_; (repeat (with_reducible first | assumption | exact EB.rf hT | (refine EB.up hr ?_ (by assumption)) | (refine EB.cp hr ?_ (by assumption)) | (refine EB.tr ?_ (by assumption)) | (refine EB.e4 hr ?_ (by assumption)))))) (fun _ _ _ _ _ _ _ _ _ _ _ _ => ?_) ?_)
    | (exfalso; omega)
    | (exact absurd trivial (by assumption))
    | ((with_reducible refine h _ _ ?_) <;> (first | ((repeat (with_reducible first | assumption | exact EB.rf hT | (refine EB.up hr ?_ (by assumption)) | (refine EB.cp hr ?_ (by assumption)) | (refine EB.tr ?_ (by assumption)) | (refine EB.e4 hr ?_ (by assumption)))); done) | omega | decide | (rw [wr_id ⟨by omega, by omega⟩]; omega)))
theorem v_71 (hr : RI r) (hT : T4 r S V g) (h : ∀ v g', EB r S V g g' → Q v g' r) : Ce sc (d + 4) 71 [(2, 0), (0, l1), (0, l2), (0, l3), (0, l4)] g r Q := by
  have k0 : okr 218 0 8 := okd (by decide +kernel)
  refine c_71 ?_
  repeat' first
    | (with_reducible refine ite_01 ?_)
    | (with_reducible refine ite_00 ?_)
    | (with_reducible refine And.intro ?_ ?_; · first | assumption | decide | (exact ARF.i (by assumption) (by omega) (by omega)) | (exact ARF.a (by assumption) (by decide) (by decide)) | (exact ARF.k (by assumption)) | omega | (have := cmp_gt.mp (by assumption : 0 < cmpL _ 0); omega))
    | (refine ite_c (fun _ => ?_) (fun _ => ?_))
    | (intro _ e1; subst e1)
    | (with_reducible refine v_13 (S := S) (V := V) hr (by assumption) (by first | assumption | exact EB.t (by assumption) | (refine EB.t (a := g) ?_; (repeat (with_reducible first | assumption | exact EB.rf hT | (refine EB.up hr ?_ (by assumption)) | (refine EB.cp hr ?_ (by assumption)) | (refine EB.tr ?_ (by assumption)) | (refine EB.e4 hr ?_ (by assumption)))))) (fun _ _ _ => ?_))
    | (with_reducible refine v_14 hr (by assumption) (fun _ => ?_))
    | (with_reducible refine v_15 (S := S) (V := V) hr (by assumption) (by first | assumption | exact EB.t (by assumption) | (refine EB.t (a := g) ?_; (repeat (with_reducible first | assumption | exact EB.rf hT | (refine EB.up hr ?_ (by assumption)) | (refine EB.cp hr ?_ (by assumption)) | (refine EB.tr ?_ (by assumption)) | (refine EB.e4 hr ?_ (by assumption)))))) (fun _ _ _ => ?_))
    | (with_reducible refine v_16 (S := S) (V := V) hr (by assumption) (by first | assumption | exact EB.t (by assumption) | (refine EB.t (a := g) ?_; (repeat (with_reducible first | assumption | exact EB.rf hT | (refine EB.up hr ?_ (by assumption)) | (refine EB.cp hr ?_ (by assumption)) | (refine EB.tr ?_ (by assumption)) | (refine EB.e4 hr ?_ (by assumption)))))) (fun _ _ _ => ?_))
    | (with_reducible refine w_123 (fun _ _ => ?_) (fun _ => ?_))
    | (with_reducible refine w_124 (fun _ _ => ?_) (fun _ => ?_))
    | (with_reducible refine w_125 (fun _ _ => ?_) (fun _ => ?_))
    | (with_reducible refine v_130 (S := S) (V := V) hr (by first | assumption | exact EB.t (by assumption) | (refine EB.t (a := g) ?_; (repeat (with_reducible first | assumption | exact EB.rf hT | (refine EB.up hr ?_ (by assumption)) | (refine EB.cp hr ?_ (by assumption)) | (refine EB.tr ?_ (by assumption)) | (refine EB.e4 hr ?_ (by assumption)))))) (fun _ _ _ _ _ _ _ _ => ?_) ?_)
    | (exfalso; omega)
    | (exact absurd trivial (by assumption))
    | ((with_reducible refine h _ _ ?_) <;> (first | ((repeat (with_reducible first | assumption | exact EB.rf hT | (refine EB.up hr ?_ (by assumption)) | (refine EB.cp hr ?_ (by assumption)) | (refine EB.tr ?_ (by assumption)) | (refine EB.e4 hr ?_ (by assumption)))); done) | omega | decide | (rw [wr_id ⟨by omega, by omega⟩]; omega)))
theorem v_72 (hr : RI r) (hT : T4 r S V g) (h : ∀ v g', EB r S V g g' → Q v g' r) : Ce sc (d + 4) 72 [(2, 0), (0, l1), (0, l2), (0, l3)] g r Q := by
  have k0 : okr 218 0 8 := okd (by decide +kernel)
  refine c_72 ?_
  repeat' first
    | (with_reducible refine ite_01 ?_)
    | (with_reducible refine ite_00 ?_)
    | (with_reducible refine And.intro ?_ ?_; · first | assumption | decide | (exact ARF.i (by assumption) (by omega) (by omega)) | (exact ARF.a (by assumption) (by decide) (by decide)) | (exact ARF.k (by assumption)) | omega | (have := cmp_gt.mp (by assumption : 0 < cmpL _ 0); omega))
    | (refine ite_c (fun _ => ?_) (fun _ => ?_))
    | (intro _ e1; subst e1)
    | (with_reducible refine v_10 (S := S) (V := V) hr (by assumption) (by first | assumption | exact EB.t (by assumption) | (refine EB.t (a := g) ?_; (repeat (with_reducible first | assumption | exact EB.rf hT | (refine EB.up hr ?_ (by assumption)) | (refine EB.cp hr ?_ (by assumption)) | (refine EB.tr ?_ (by assumption)) | (refine EB.e4 hr ?_ (by assumption)))))) (fun _ _ _ => ?_))
    | (with_reducible refine v_11 hr (by assumption) (fun _ => ?_))
    | (with_reducible refine w_123 (fun _ _ => ?_) (fun _ => ?_))
    | (with_reducible refine w_125 (fun _ _ => ?_) (fun _ => ?_))
    | (with_reducible refine v_130 (S := S) (V := V) hr (by first | assumption | exact EB.t (by assumption) | (refine EB.t (a := g) ?_; (repeat (with_reducible first | assumption | exact EB.rf hT | (refine EB.up hr ?_ (by assumption)) | (refine EB.cp hr ?_ (by assumption)) | (refine EB.tr ?_ (by assumption)) | (refine EB.e4 hr ?_ (by assumption)))))) (fun _ _ _ _ _ _ _ _ => ?_) ?_)
    | (exfalso; omega)
    | (exact absurd trivial (by assumption))
    | ((with_reducible refine h _ _ ?_) <;> (first | ((repeat (with_reducible first | assumption | exact EB.rf hT | (refine EB.up hr ?_ (by assumption)) | (refine EB.cp hr ?_ (by assumption)) | (refine EB.tr ?_ (by assumption)) | (refine EB.e4 hr ?_ (by assumption)))); done) | omega | decide | (rw [wr_id ⟨by omega, by omega⟩]; omega)))
theorem v_73 (hr : RI r) (hT : T4 r S V g) (h : ∀ v g', EB r S V g g' → Q v g' r) : Ce sc (d + 5) 73 [(2, 0), (0, l1), (0, l2), (0, l3), (0, l4)] g r Q := by
  have k0 : okr 218 0 8 := okd (by decide +kernel)
  refine c_73 ?_
  repeat' first
    | (with_reducible refine ite_01 ?_)
    | (with_reducible refine ite_00 ?_)
    | (with_reducible refine And.intro ?_ ?_; · first | assumption | decide | (exact ARF.i (by assumption) (by omega) (by omega)) | (exact ARF.a (by assumption) (by decide) (by decide)) | (exact ARF.k (by assumption)) | omega | (have := cmp_gt.mp (by assumption : 0 < cmpL _ 0); omega))
    | (refine ite_c (fun _ => ?_) (fun _ => ?_))
    | (intro _ e1; subst e1)
    | (with_reducible refine s_58 (by assumption) ?_ ?_)
    | (with_reducible refine v_59 (S := S) (V := V) hr (by assumption) (by first | assumption | exact EB.t (by assumption) | (refine EB.t (a := g) ?_; (repeat (with_reducible first | assumption | exact EB.rf hT | (refine EB.up hr ?_ (by assumption)) | (refine EB.cp hr ?_ (by assumption)) | (refine EB.tr ?_ (by assumption)) | (refine EB.e4 hr ?_ (by assumption)))))) (fun _ _ _ => ?_))
    | (with_reducible refine w_124 (fun _ _ => ?_) (fun _ => ?_))
    | (with_reducible refine w_125 (fun _ _ => ?_) (fun _ => ?_))
    | (with_reducible refine v_129 (S := S) (V := V) hr (by first | assumption | exact EB.t (by assumption) | (refine EB.t (a := g) ?_; (repeat (with_reducible first | assumption | exact EB.rf hT | (refine EB.up hr ?_ (by assumption)) | (refine EB.cp hr ?_ (by assumption)) | (refine EB.tr ?_ (by assumption)) | (refine EB.e4 hr ?_ (by assumption)))))) (fun _ _ _ _ _ _ _ _ _ _ _ _ => ?_) ?_)
    | (exfalso; omega)
    | (exact absurd trivial (by assumption))
    | ((with_reducible refine h _ _ ?_) <;> (first | ((repeat (with_reducible first | assumption | exact EB.rf hT | (refine EB.up hr ?_ (by assumption)) | (refine EB.cp hr ?_ (by assumption)) | (refine EB.tr ?_ (by assumption)) | (refine EB.e4 hr ?_ (by assumption)))); done) | omega | decide | (rw [wr_id ⟨by omega, by omega⟩]; omega)))
theorem v_74 (hr : RI r) (hT : T4 r S V g) (h : ∀ v g', EB r S V g g' → Q v g' r) : Ce sc (d + 6) 74 [(2, 0), (0, l1), (0, l2), (0, l3), (0, l4), (0, l5)] g r Q := by
  have k0 : okr 218 0 8 := okd (by decide +kernel)
  refine c_74 ?_
  repeat' first
    | (with_reducible refine ite_01 ?_)
    | (with_reducible refine ite_00 ?_)
    | (with_reducible refine And.intro ?_ ?_; · first | assumption | decide | (exact ARF.i (by assumption) (by omega) (by omega)) | (exact ARF.a (by assumption) (by decide) (by decide)) | (exact ARF.k (by assumption)) | omega | (have := cmp_gt.mp (by assumption : 0 < cmpL _ 0); omega))
    | (refine ite_c (fun _ => ?_) (fun _ => ?_))
    | (intro _ e1; subst e1)
    | (with_reducible refine s_58 (by assumption) ?_ ?_)
    | (with_reducible refine v_62 (S := S) (V := V) hr (by assumption) (by first | assumption | exact EB.t (by assumption) | (refine EB.t (a := g) ?_; (repeat (with_reducible first | assumption | exact EB.rf hT | (refine EB.up hr ?_ (by assumption)) | (refine EB.cp hr ?_ (by assumption)) | (refine EB.tr ?_ (by assumption)) | (refine EB.e4 hr ?_ (by assumption)))))) (fun _ _ _ => ?_))
    | (with_reducible refine w_124 (fun _ _ => ?_) (fun _ => ?_))
    | (with_reducible refine w_125 (fun _ _ => ?_) (fun _ => ?_))
    | (with_reducible refine w_126 (fun _ _ => ?_) (fun _ => ?_))
    | (with_reducible refine v_129 (S := S) (V := V) hr (by first | assumption | exact EB.t (by assumption) | (refine EB.t (a := g) ?_; (repeat (with_reducible first | assumption | exact EB.rf hT | (refine EB.up hr ?_ (by assumption)) | (refine EB.cp hr ?_ (by assumption)) | (refine EB.tr ?_ (by assumption)) | (refine EB.e4 hr ?_ (by assumption)))))) (fun _ _ _ _ _ _ _ _ _ _ _ _ => ?_) ?_)
    | (exfalso; omega)
    | (exact absurd trivial (by assumption))
    | ((with_reducible refine h _ _ ?_) <;> (first | ((repeat (with_reducible first | assumption | exact EB.rf hT | (refine EB.up hr ?_ (by assumption)) | (refine EB.cp hr ?_ (by assumption)) | (refine EB.tr ?_ (by assumption)) | (refine EB.e4 hr ?_ (by assumption)))); done) | omega | decide | (rw [wr_id ⟨by omega, by omega⟩]; omega)))
theorem v_75 (hr : RI r) (hT : T4 r S V g) (h : ∀ v g', EB r S V g g' → Q v g' r) : Ce sc (d + 7) 75 [(2, 0), (0, l1), (0, l2), (0, l3), (0, l4), (0, l5)] g r Q := by
  have k0 : okr 218 0 8 := okd (by decide +kernel)
  refine c_75 ?_
  repeat' first
    | (with_reducible refine ite_01 ?_)
    | (with_reducible refine ite_00 ?_)
    | (with_reducible refine And.intro ?_ ?_; · first | assumption | decide | (exact ARF.i (by assumption) (by omega) (by omega)) | (exact ARF.a (by assumption) (by decide) (by decide)) | (exact ARF.k (by assumption)) | omega | (have := cmp_gt.mp (by assumption : 0 < cmpL _ 0); omega))
    | (refine ite_c (fun _ => ?_) (fun _ => ?_))
    | (intro _ e1; subst e1)
    | (with_reducible refine s_58 (by assumption) ?_ ?_)
    | (with_reducible refine v_62 (S := S) (V := V) hr (by assumption) (by first | assumption | exact EB.t (by assumption) | (refine EB.t (a := g) ?_; (repeat (with_reducible first | assumption | exact EB.rf hT | (refine EB.up hr ?_ (by assumption)) | (refine EB.cp hr ?_ (by assumption)) | (refine EB.tr ?_ (by assumption)) | (refine EB.e4 hr ?_ (by assumption)))))) (fun _ _ _ => ?_))
    | (with_reducible refine v_64 (S := S) (V := V) hr (by assumption) (by first | assumption | exact EB.t (by assumption) | (refine EB.t (a := g) ?_; (repeat (with_reducible first | assumption | exact EB.rf hT | (refine EB.up hr ?_ (by assumption)) | (refine EB.cp hr ?_ (by assumption)) | (refine EB.tr ?_ (by assumption)) | (refine EB.e4 hr ?_ (by assumption)))))) (fun _ _ _ => ?_))
    | (with_reducible refine w_123 (fun _ _ => ?_) (fun _ => ?_))
    | (with_reducible refine w_124 (fun _ _ => ?_) (fun _ => ?_))
    | (with_reducible refine w_126 (fun _ _ => ?_) (fun _ => ?_))
    | (with_reducible refine v_129 (S := S) (V := V) hr (by first | assumption | exact EB.t (by assumption) | (refine EB.t (a := g) ?_; (repeat (with_reducible first | assumption | exact EB.rf hT | (refine EB.up hr ?_ (by assumption)) | (refine EB.cp hr ?_ (by assumption)) | (refine EB.tr ?_ (by assumption)) | (refine EB.e4 hr ?_ (by assumption)))))) (fun _ _ _ _ _ _ _ _ _ _ _ _ => ?_) ?_)
    | (exfalso; omega)
    | (exact absurd trivial (by assumption))
    | ((with_reducible refine h _ _ ?_) <;> (first | ((repeat (with_reducible first | assumption | exact EB.rf hT | (refine EB.up hr ?_ (by assumption)) | (refine EB.cp hr ?_ (by assumption)) | (refine EB.tr ?_ (by assumption)) | (refine EB.e4 hr ?_ (by assumption)))); done) | omega | decide | (rw [wr_id ⟨by omega, by omega⟩]; omega)))
theorem v_76 (hr : RI r) (hT : T4 r S V g) (h : ∀ v g', EB r S V g g' → Q v g' r) : Ce sc (d + 7) 76 [(2, 0), (0, l1), (0, l2), (0, l3)] g r Q := by
  have k0 : okr 218 0 8 := okd (by decide +kernel)
  refine c_76 ?_
  repeat' first
    | (with_reducible refine ite_01 ?_)
    | (with_reducible refine ite_00 ?_)
    | (with_reducible refine And.intro ?_ ?_; · first | assumption | decide | (exact ARF.i (by assumption) (by omega) (by omega)) | (exact ARF.a (by assumption) (by decide) (by decide)) | (exact ARF.k (by assumption)) | omega | (have := cmp_gt.mp (by assumption : 0 < cmpL _ 0); omega) | (exact parts_ne (by assumption) (by assumption) (by assumption) (by assumption)))
    | (refine ite_c (fun _ => ?_) (fun _ => ?_))
    | (intro _ e1; subst e1)
    | (with_reducible refine v_63 (S := S) (V := V) hr (by assumption) (by first | assumption | exact EB.t (by assumption) | (refine EB.t (a := g) ?_; (repeat (with_reducible first | assumption | exact EB.rf hT | (refine EB.up hr ?_ (by assumption)) | (refine EB.cp hr ?_ (by assumption)) | (refine EB.tr ?_ (by assumption)) | (refine EB.e4 hr ?_ (by assumption)))))) (fun _ _ _ => ?_))
    | (with_reducible refine w_123 (fun _ _ => ?_) (fun _ => ?_))
    | (with_reducible refine v_129 (S := S) (V := V) hr (by first | assumption | exact EB.t (by assumption) | (refine EB.t (a := g) ?_; (repeat (with_reducible first | assumption | exact EB.rf hT | (refine EB.up hr ?_ (by assumption)) | (refine EB.cp hr ?_ (by assumption)) | (refine EB.tr ?_ (by assumption)) | (refine EB.e4 hr ?_ (by assumption)))))) (fun _ _ _ _ _ _ _ _ _ _ _ _ => ?_) ?_)
    | (exfalso; omega)
    | (exact absurd trivial (by assumption))
    | ((with_reducible refine h _ _ ?_) <;> (first | ((repeat (with_reducible first | assumption | exact EB.rf hT | (refine EB.up hr ?_ (by assumption)) | (refine EB.cp hr ?_ (by assumption)) | (refine EB.tr ?_ (by assumption)) | (refine EB.e4 hr ?_ (by assumption)))); done) | omega | decide | (rw [wr_id ⟨by omega, by omega⟩]; omega)))
theorem v_107 (hr : RI r) (hT : T4 r S V g) (h : ∀ v g', EB r S V g g' → Q v g' r) : Ce sc (d + 4) 107 [(2, 0), (0, l1), (0, l2), (0, l3), (0, l4)] g r Q := by
  have k0 : okr 218 0 8 := okd (by decide +kernel)
  refine c_107 ?_
  repeat' first
    | (with_reducible refine ite_01 ?_)
    | (with_reducible refine ite_00 ?_)
    | (with_reducible refine And.intro ?_ ?_; · first | assumption | decide | (exact ARF.i (by assumption) (by omega) (by omega)) | (exact ARF.a (by assumption) (by decide) (by decide)) | (exact ARF.k (by assumption)) | omega | (have := cmp_gt.mp (by assumption : 0 < cmpL _ 0); omega))
    | (refine ite_c (fun _ => ?_) (fun _ => ?_))
    | (intro _ e1; subst e1)
    | (with_reducible refine v_13 (S := S) (V := V) hr (by assumption) (by first | assumption | exact EB.t (by assumption) | (refine EB.t (a := g) ?_; (repeat (with_reducible first | assumption | exact EB.rf hT | (refine EB.up hr ?_ (by assumption)) | (refine EB.cp hr ?_ (by assumption)) | (refine EB.tr ?_ (by assumption)) | (refine EB.e4 hr ?_ (by assumption)))))) (fun _ _ _ => ?_))
    | (with_reducible refine v_14 hr (by assumption) (fun _ => ?_))
    | (with_reducible refine w_124 (fun _ _ => ?_) (fun _ => ?_))
    | (with_reducible refine w_125 (fun _ _ => ?_) (fun _ => ?_))
    | (with_reducible refine v_130 (S := S) (V := V) hr (by first | assumption | exact EB.t (by assumption) | (refine EB.t (a := g) ?_; (repeat (with_reducible first | assumption | exact EB.rf hT | (refine EB.up hr ?_ (by assumption)) | (refine EB.cp hr ?_ (by assumption)) | (refine EB.tr ?_ (by assumption)) | (refine EB.e4 hr ?_ (by assumption)))))) (fun _ _ _ _ _ _ _ _ => ?_) ?_)
    | (exfalso; omega)
    | (exact absurd trivial (by assumption))
    | ((with_reducible refine h _ _ ?_) <;> (first | ((repeat (with_reducible first | assumption | exact EB.rf hT | (refine EB.up hr ?_ (by assumption)) | (refine EB.cp hr ?_ (by assumption)) | (refine EB.tr ?_ (by assumption)) | (refine EB.e4 hr ?_ (by assumption)))); done) | omega | decide | (rw [wr_id ⟨by omega, by omega⟩]; omega)))
theorem v_109 (hr : RI r) (hT : T4 r S V g) (h : ∀ v g', EB r S V g g' → Q v g' r) : Ce sc (d + 7) 109 [(2, 0), (0, l1), (0, l2), (0, l3), (0, l4)] g r Q := by
  have k0 : okr 218 0 8 := okd (by decide +kernel)
  refine c_109 ?_
  repeat' first
    | (with_reducible refine ite_01 ?_)
    | (with_reducible refine ite_00 ?_)
    | (with_reducible refine And.intro ?_ ?_; · first | assumption | decide | (exact ARF.i (by assumption) (by omega) (by omega)) | (exact ARF.a (by assumption) (by decide) (by decide)) | (exact ARF.k (by assumption)) | omega | (have := cmp_gt.mp (by assumption : 0 < cmpL _ 0); omega))
    | (refine ite_c (fun _ => ?_) (fun _ => ?_))
    | (intro _ e1; subst e1)
    | (with_reducible refine v_62 (S := S) (V := V) hr (by assumption) (by first | assumption | exact EB.t (by assumption) | (refine EB.t (a := g) ?_; (repeat (with_reducible first | assumption | exact EB.rf hT | (refine EB.up hr ?_ (by assumption)) | (refine EB.cp hr ?_ (by assumption)) | (refine EB.tr ?_ (by assumption)) | (refine EB.e4 hr ?_ (by assumption)))))) (fun _ _ _ => ?_))
    | (with_reducible refine v_64 (S := S) (V := V) hr (by assumption) (by first | assumption | exact EB.t (by assumption) | (refine EB.t (a := g) ?_; (repeat (with_reducible first | assumption | exact EB.rf hT | (refine EB.up hr ?_ (by assumption)) | (refine EB.cp hr ?_ (by assumption)) | (refine EB.tr ?_ (by assumption)) | (refine EB.e4 hr ?_ (by assumption)))))) (fun _ _ _ => ?_))
    | (with_reducible refine w_123 (fun _ _ => ?_) (fun _ => ?_))
    | (with_reducible refine w_124 (fun _ _ => ?_) (fun _ => ?_))
    | (with_reducible refine v_129 (S := S) (V := V) hr (by first | assumption | exact EB.t (by assumption) | (refine EB.t (a := g) ?_; (repeat (with_reducible first | assumption | exact EB.rf hT | (refine EB.up hr ?_ (by assumption)) | (refine EB.cp hr ?_ (by assumption)) | (refine EB.tr ?_ (by assumption)) | (refine EB.e4 hr ?_ (by assumption)))))) (fun _ _ _ _ _ _ _ _ _ _ _ _ => ?_) ?_)
    | (with_reducible refine v_130 (S := S) (V := V) hr (by first | assumption | exact EB.t (by assumption) | (refine EB.t (a := g) ?_; (repeat (with_reducible first | assumption | exact EB.rf hT | (refine EB.up hr ?_ (by assumption)) | (refine EB.cp hr ?_ (by assumption)) | (refine EB.tr ?_ (by assumption)) | (refine EB.e4 hr ?_ (by assumption)))))) (fun _ _ _ _ _ _ _ _ => ?_) ?_)
    | (with_reducible refine w_250 (fun _ => ?_) (fun _ => ?_))
    | (with_reducible refine w_251 (fun _ => ?_) (fun _ => ?_))
    | (exfalso; omega)
    | (exact absurd trivial (by assumption))
    | ((with_reducible refine h _ _ ?_) <;> (first | ((repeat (with_reducible first | assumption | exact EB.rf hT | (refine EB.up hr ?_ (by assumption)) | (refine EB.cp hr ?_ (by assumption)) | (refine EB.tr ?_ (by assumption)) | (refine EB.e4 hr ?_ (by assumption)))); done) | omega | decide | (rw [wr_id ⟨by omega, by omega⟩]; omega)))
theorem v_108 (hr : RI r) (hT : T4 r S V g) (h : ∀ v g', EB r S V g g' → Q v g' r) : Ce sc (d + 7) 108 [(2, 0), (0, l1), (0, l2), (0, l3), (0, l4), (0, l5)] g r Q := by
  have k0 : okr 218 0 8 := okd (by decide +kernel)
  have end1 : ∀ (l4 l5 l6 l8 l9 : Int), okr 218 l6 2 → WHV r S (r l6 1) → WQ sc (d + 6) 108 Q 151 [(9, 0), (9, 0), (9, 0), (9, 0), (0, l4), (0, l5), (2, l6), (9, 0), (0, l8), (0, l9), (9, 0)] [] g r := by
    intro l4 l5 l6 l8 l9 k6 hw
    have kw := hw.1
    refine b_108_151 ?_
    repeat' first
      | (with_reducible refine ite_01 ?_)
      | (with_reducible refine ite_00 ?_)
      | (with_reducible refine And.intro ?_ ?_; · first | assumption | decide | (exact ARF.i (by assumption) (by omega) (by omega)) | (exact ARF.a (by assumption) (by decide) (by decide)) | (exact ARF.k (by assumption)) | omega | (have := cmp_gt.mp (by assumption : 0 < cmpL _ 0); omega))
      | (refine ite_c (fun _ => ?_) (fun _ => ?_))
      | (intro _ e1; subst e1)
      | (with_reducible refine v_63 (S := S) (V := V) hr (by assumption) (by first | assumption | exact EB.t (by assumption) | (refine EB.t (a := g) ?_; (repeat (with_reducible first | assumption | exact EB.rf hT | (refine EB.up hr ?_ (by assumption)) | (refine EB.cp hr ?_ (by assumption)) | (refine EB.tr ?_ (by assumption)) | (refine EB.e4 hr ?_ (by assumption)))))) (fun _ _ _ => ?_))
      | (with_reducible refine w_123 (fun _ _ => ?_) (fun _ => ?_))
      | (with_reducible refine w_124 (fun _ _ => ?_) (fun _ => ?_))
      | (with_reducible refine v_129 (S := S) (V := V) hr (by first | assumption | exact EB.t (by assumption) | (refine EB.t (a := g) ?_; (repeat (with_reducible first | assumption | exact EB.rf hT | (refine EB.up hr ?_ (by assumption)) | (refine EB.cp hr ?_ (by assumption)) | (refine EB.tr ?_ (by assumption)) | (refine EB.e4 hr ?_ (by assumption)))))) (fun _ _ _ _ _ _ _ _ _ _ _ _ => ?_) ?_)
      | (with_reducible refine w_250 (fun _ => ?_) (fun _ => ?_))
      | (exfalso; omega)
      | (exact absurd trivial (by assumption))
      | ((with_reducible refine h _ _ ?_) <;> (first | ((repeat (with_reducible first | assumption | exact EB.rf hT | (refine EB.up hr ?_ (by assumption)) | (refine EB.cp hr ?_ (by assumption)) | (refine EB.tr ?_ (by assumption)) | (refine EB.e4 hr ?_ (by assumption)))); done) | omega | decide | (rw [wr_id ⟨by omega, by omega⟩]; omega)))
  have loopb : ∀ l10 : Int, -2147483648 ≤ l10 → ∀ (l4 l5 l6 l7 l8 l9 : Int), okr 218 l6 2 → WHV r S (r l6 1) → WQ sc (d + 6) 108 Q 103 [(9, 0), (9, 0), (9, 0), (9, 0), (0, l4), (0, l5), (2, l6), (0, l7), (0, l8), (0, l9), (0, l10)] [] g r := by
    refine upW 24 (by decide) fun l10 _ ih l4 l5 l6 l7 l8 l9 k6 hw => ?_
    refine b_108_103 ?_
    repeat' first
      | (with_reducible refine ite_01 ?_)
      | (with_reducible refine ite_00 ?_)
      | (with_reducible refine And.intro ?_ ?_; · first | assumption | decide | (exact ARF.i (by assumption) (by omega) (by omega)) | (exact ARF.a (by assumption) (by decide) (by decide)) | (exact ARF.k (by assumption)) | omega | (have := cmp_gt.mp (by assumption : 0 < cmpL _ 0); omega))
      | (refine ite_c (fun _ => ?_) (fun _ => ?_))
      | (intro _ e1; subst e1)
      | (with_reducible refine v_63 (S := S) (V := V) hr (by assumption) (by first | assumption | exact EB.t (by assumption) | (refine EB.t (a := g) ?_; (repeat (with_reducible first | assumption | exact EB.rf hT | (refine EB.up hr ?_ (by assumption)) | (refine EB.cp hr ?_ (by assumption)) | (refine EB.tr ?_ (by assumption)) | (refine EB.e4 hr ?_ (by assumption)))))) (fun _ _ _ => ?_))
      | (with_reducible refine w_123 (fun _ _ => ?_) (fun _ => ?_))
      | (with_reducible refine w_124 (fun _ _ => ?_) (fun _ => ?_))
      | (with_reducible refine v_129 (S := S) (V := V) hr (by first | assumption | exact EB.t (by assumption) | (refine EB.t (a := g) ?_; (repeat (with_reducible first | assumption | exact EB.rf hT | (refine EB.up hr ?_ (by assumption)) | (refine EB.cp hr ?_ (by assumption)) | (refine EB.tr ?_ (by assumption)) | (refine EB.e4 hr ?_ (by assumption)))))) (fun _ _ _ _ _ _ _ _ _ _ _ _ => ?_) ?_)
      | (with_reducible refine w_250 (fun _ => ?_) (fun _ => ?_))
      | (exfalso; omega)
      | (exact absurd trivial (by assumption))
      | ((with_reducible refine ih ?_ _ _ _ _ _ _ k6 hw) <;> (first | ((repeat (with_reducible first | assumption | exact EB.rf hT | (refine EB.up hr ?_ (by assumption)) | (refine EB.cp hr ?_ (by assumption)) | (refine EB.tr ?_ (by assumption)) | (refine EB.e4 hr ?_ (by assumption)))); done) | omega | decide | (rw [wr_id ⟨by omega, by omega⟩]; omega)))
      | ((with_reducible refine end1 _ _ _ _ _ k6 hw))
      | ((with_reducible refine h _ _ ?_) <;> (first | ((repeat (with_reducible first | assumption | exact EB.rf hT | (refine EB.up hr ?_ (by assumption)) | (refine EB.cp hr ?_ (by assumption)) | (refine EB.tr ?_ (by assumption)) | (refine EB.e4 hr ?_ (by assumption)))); done) | omega | decide | (rw [wr_id ⟨by omega, by omega⟩]; omega)))
  have loopa : ∀ l3 : Int, l3 ≤ 23 → -2147483648 ≤ l3 → ∀ l9 : Int, -2147483648 ≤ l9 → ∀ (l4 l5 l6 l7 l8 : Int), okr 218 l6 2 → WHV r S (r l6 1) → WQ sc (d + 6) 108 Q 70 [(9, 0), (9, 0), (9, 0), (0, l3), (0, l4), (0, l5), (2, l6), (0, l7), (0, l8), (0, l9), (9, 0)] [] g r := by
    intro l3 hl hl2
    refine upW l3 (by omega) fun l9 _ ih l4 l5 l6 l7 l8 k6 hw => ?_
    refine b_108_70 ?_
    repeat' first
      | (with_reducible refine ite_01 ?_)
      | (with_reducible refine ite_00 ?_)
      | (with_reducible refine And.intro ?_ ?_; · first | assumption | decide | (exact ARF.i (by assumption) (by omega) (by omega)) | (exact ARF.a (by assumption) (by decide) (by decide)) | (exact ARF.k (by assumption)) | omega | (have := cmp_gt.mp (by assumption : 0 < cmpL _ 0); omega))
      | (refine ite_c (fun _ => ?_) (fun _ => ?_))
      | (intro _ e1; subst e1)
      | (with_reducible refine v_63 (S := S) (V := V) hr (by assumption) (by first | assumption | exact EB.t (by assumption) | (refine EB.t (a := g) ?_; (repeat (with_reducible first | assumption | exact EB.rf hT | (refine EB.up hr ?_ (by assumption)) | (refine EB.cp hr ?_ (by assumption)) | (refine EB.tr ?_ (by assumption)) | (refine EB.e4 hr ?_ (by assumption)))))) (fun _ _ _ => ?_))
      | (with_reducible refine w_123 (fun _ _ => ?_) (fun _ => ?_))
      | (with_reducible refine w_124 (fun _ _ => ?_) (fun _ => ?_))
      | (with_reducible refine v_129 (S := S) (V := V) hr (by first | assumption | exact EB.t (by assumption) | (refine EB.t (a := g) ?_; (repeat (with_reducible first | assumption | exact EB.rf hT | (refine EB.up hr ?_ (by assumption)) | (refine EB.cp hr ?_ (by assumption)) | (refine EB.tr ?_ (by assumption)) | (refine EB.e4 hr ?_ (by assumption)))))) (fun _ _ _ _ _ _ _ _ _ _ _ _ => ?_) ?_)
      | (with_reducible refine w_250 (fun _ => ?_) (fun _ => ?_))
      | (exfalso; omega)
      | (exact absurd trivial (by assumption))
      | ((with_reducible refine ih ?_ _ _ _ _ _ k6 hw) <;> (first | ((repeat (with_reducible first | assumption | exact EB.rf hT | (refine EB.up hr ?_ (by assumption)) | (refine EB.cp hr ?_ (by assumption)) | (refine EB.tr ?_ (by assumption)) | (refine EB.e4 hr ?_ (by assumption)))); done) | omega | decide | (rw [wr_id ⟨by omega, by omega⟩]; omega)))
      | ((with_reducible refine loopb _ ?_ _ _ _ _ _ _ k6 hw) <;> (first | ((repeat (with_reducible first | assumption | exact EB.rf hT | (refine EB.up hr ?_ (by assumption)) | (refine EB.cp hr ?_ (by assumption)) | (refine EB.tr ?_ (by assumption)) | (refine EB.e4 hr ?_ (by assumption)))); done) | omega | decide | (rw [wr_id ⟨by omega, by omega⟩]; omega)))
      | ((with_reducible refine h _ _ ?_) <;> (first | ((repeat (with_reducible first | assumption | exact EB.rf hT | (refine EB.up hr ?_ (by assumption)) | (refine EB.cp hr ?_ (by assumption)) | (refine EB.tr ?_ (by assumption)) | (refine EB.e4 hr ?_ (by assumption)))); done) | omega | decide | (rw [wr_id ⟨by omega, by omega⟩]; omega)))
  refine c_108 ?_
  repeat' first
    | (with_reducible refine ite_01 ?_)
    | (with_reducible refine ite_00 ?_)
    | (with_reducible refine And.intro ?_ ?_; · first | assumption | decide | (exact ARF.i (by assumption) (by omega) (by omega)) | (exact ARF.a (by assumption) (by decide) (by decide)) | (exact ARF.k (by assumption)) | omega | (have := cmp_gt.mp (by assumption : 0 < cmpL _ 0); omega))
    | (refine ite_c (fun _ => ?_) (fun _ => ?_))
    | (intro _ e1; subst e1)
    | (with_reducible refine v_63 (S := S) (V := V) hr (by assumption) (by first | assumption | exact EB.t (by assumption) | (refine EB.t (a := g) ?_; (repeat (with_reducible first | assumption | exact EB.rf hT | (refine EB.up hr ?_ (by assumption)) | (refine EB.cp hr ?_ (by assumption)) | (refine EB.tr ?_ (by assumption)) | (refine EB.e4 hr ?_ (by assumption)))))) (fun _ _ _ => ?_))
    | (with_reducible refine w_123 (fun _ _ => ?_) (fun _ => ?_))
    | (with_reducible refine w_124 (fun _ _ => ?_) (fun _ => ?_))
    | (with_reducible refine v_129 (S := S) (V := V) hr (by first | assumption | exact EB.t (by assumption) | (refine EB.t (a := g) ?_; (repeat (with_reducible first | assumption | exact EB.rf hT | (refine EB.up hr ?_ (by assumption)) | (refine EB.cp hr ?_ (by assumption)) | (refine EB.tr ?_ (by assumption)) | (refine EB.e4 hr ?_ (by assumption)))))) (fun _ _ _ _ _ _ _ _ _ _ _ _ => ?_) ?_)
    | (with_reducible refine w_250 (fun _ => ?_) (fun _ => ?_))
    | (exfalso; omega)
    | (exact absurd trivial (by assumption))
    | ((with_reducible refine loopa _ ?_ ?_ _ ?_ _ _ _ _ _ ?_ ?_) <;> (first | ((repeat (with_reducible first | assumption | exact EB.rf hT | (refine EB.up hr ?_ (by assumption)) | (refine EB.cp hr ?_ (by assumption)) | (refine EB.tr ?_ (by assumption)) | (refine EB.e4 hr ?_ (by assumption)))); done) | omega | decide | (rw [wr_id ⟨by omega, by omega⟩]; omega)))
    | ((with_reducible refine h _ _ ?_) <;> (first | ((repeat (with_reducible first | assumption | exact EB.rf hT | (refine EB.up hr ?_ (by assumption)) | (refine EB.cp hr ?_ (by assumption)) | (refine EB.tr ?_ (by assumption)) | (refine EB.e4 hr ?_ (by assumption)))); done) | omega | decide | (rw [wr_id ⟨by omega, by omega⟩]; omega)))
theorem v_119 (hr : RI r) (hT : T4 r S V g) (h : ∀ v g', EB r S V g g' → Q v g' r) : Ce sc (d + 7) 119 [(2, 0), (0, l1), (0, l2), (0, l3)] g r Q := by
  have k0 : okr 218 0 8 := okd (by decide +kernel)
  have b23 := (br_23 hr).fz
  have k23 := b23.1
  have q23 := b23.2.1
  have ar24 : ARF FZ 24 11 40 := AR.fz (ar_of (by decide +kernel) (by decide +kernel) (by decide +kernel))
  have nr24 := ar24.2.2
  have ar25 : ARF FZ 25 11 40 := AR.fz (ar_of (by decide +kernel) (by decide +kernel) (by decide +kernel))
  have nr25 := ar25.2.2
  have outer : ∀ l6 : Int, -2147483648 ≤ l6 → 0 ≤ l6 → ∀ (l2 l3 l4 l5 : Int) g1, okr 218 l4 2 → WHV r S (r l4 1) → EB r S V g g1 → WQ sc (d + 6) 119 Q 25 [(2, 0), (9, 0), (0, l2), (0, l3), (2, l4), (0, l5), (0, l6), (9, 0), (9, 0)] [] g1 r := by
    refine upS 1 40 (by decide) (by decide) fun l6 _ ih h0 l2 l3 l4 l5 g1 k4 hw e0 => ?_
    have kw := hw.1
    refine b_119_25 ?_
    repeat' first
      | (with_reducible refine ite_01 ?_)
      | (with_reducible refine ite_00 ?_)
      | (with_reducible refine And.intro ?_ ?_; · first | assumption | decide | (exact ARF.i (by assumption) (by omega) (by omega)) | (exact ARF.a (by assumption) (by decide) (by decide)) | (exact ARF.k (by assumption)) | omega | (have := cmp_gt.mp (by assumption : 0 < cmpL _ 0); omega))
      | (simp only [r_0_4 hr, r_23_4 hr, r_23_5 hr])
      | (refine ite_c (fun _ => ?_) (fun _ => ?_))
      | (intro _ e1; subst e1)
      | (with_reducible refine v_63 (S := S) (V := V) hr (by assumption) (by first | assumption | exact EB.t (by assumption) | (refine EB.t (a := g) ?_; (repeat (with_reducible first | assumption | exact EB.rf hT | (refine EB.up hr ?_ (by assumption)) | (refine EB.cp hr ?_ (by assumption)) | (refine EB.tr ?_ (by assumption)) | (refine EB.e4 hr ?_ (by assumption)))))) (fun _ _ _ => ?_))
      | (with_reducible refine v_129 (S := S) (V := V) hr (by first | assumption | exact EB.t (by assumption) | (refine EB.t (a := g) ?_; (repeat (with_reducible first | assumption | exact EB.rf hT | (refine EB.up hr ?_ (by assumption)) | (refine EB.cp hr ?_ (by assumption)) | (refine EB.tr ?_ (by assumption)) | (refine EB.e4 hr ?_ (by assumption)))))) (fun _ _ _ _ _ _ _ _ _ _ _ _ => ?_) ?_)
      | (exfalso; omega)
      | (exact absurd trivial (by assumption))
      | ((with_reducible refine ih ?_ ?_ _ _ _ _ _ k4 hw ?_) <;> (first | ((repeat (with_reducible first | assumption | exact EB.rf hT | (refine EB.up hr ?_ (by assumption)) | (refine EB.cp hr ?_ (by assumption)) | (refine EB.tr ?_ (by assumption)) | (refine EB.e4 hr ?_ (by assumption)))); done) | omega | decide | (rw [wr_id ⟨by omega, by omega⟩]; omega)))
      | ((with_reducible refine h _ _ ?_) <;> (first | ((repeat (with_reducible first | assumption | exact EB.rf hT | (refine EB.up hr ?_ (by assumption)) | (refine EB.cp hr ?_ (by assumption)) | (refine EB.tr ?_ (by assumption)) | (refine EB.e4 hr ?_ (by assumption)))); done) | omega | decide | (rw [wr_id ⟨by omega, by omega⟩]; omega)))
  refine c_119 ?_
  repeat' first
    | (with_reducible refine ite_01 ?_)
    | (with_reducible refine ite_00 ?_)
    | (with_reducible refine And.intro ?_ ?_; · first | assumption | decide | (exact ARF.i (by assumption) (by omega) (by omega)) | (exact ARF.a (by assumption) (by decide) (by decide)) | (exact ARF.k (by assumption)) | omega | (have := cmp_gt.mp (by assumption : 0 < cmpL _ 0); omega))
    | (simp only [r_0_4 hr, r_23_4 hr, r_23_5 hr])
    | (refine ite_c (fun _ => ?_) (fun _ => ?_))
    | (intro _ e1; subst e1)
    | (with_reducible refine v_63 (S := S) (V := V) hr (by assumption) (by first | assumption | exact EB.t (by assumption) | (refine EB.t (a := g) ?_; (repeat (with_reducible first | assumption | exact EB.rf hT | (refine EB.up hr ?_ (by assumption)) | (refine EB.cp hr ?_ (by assumption)) | (refine EB.tr ?_ (by assumption)) | (refine EB.e4 hr ?_ (by assumption)))))) (fun _ _ _ => ?_))
    | (with_reducible refine v_129 (S := S) (V := V) hr (by first | assumption | exact EB.t (by assumption) | (refine EB.t (a := g) ?_; (repeat (with_reducible first | assumption | exact EB.rf hT | (refine EB.up hr ?_ (by assumption)) | (refine EB.cp hr ?_ (by assumption)) | (refine EB.tr ?_ (by assumption)) | (refine EB.e4 hr ?_ (by assumption)))))) (fun _ _ _ _ _ _ _ _ _ _ _ _ => ?_) ?_)
    | (exfalso; omega)
    | (exact absurd trivial (by assumption))
    | ((with_reducible refine outer _ ?_ ?_ _ _ _ _ _ ?_ ?_ ?_) <;> (first | ((repeat (with_reducible first | assumption | exact EB.rf hT | (refine EB.up hr ?_ (by assumption)) | (refine EB.cp hr ?_ (by assumption)) | (refine EB.tr ?_ (by assumption)) | (refine EB.e4 hr ?_ (by assumption)))); done) | omega | decide | (rw [wr_id ⟨by omega, by omega⟩]; omega)))
    | ((with_reducible refine h _ _ ?_) <;> (first | ((repeat (with_reducible first | assumption | exact EB.rf hT | (refine EB.up hr ?_ (by assumption)) | (refine EB.cp hr ?_ (by assumption)) | (refine EB.tr ?_ (by assumption)) | (refine EB.e4 hr ?_ (by assumption)))); done) | omega | decide | (rw [wr_id ⟨by omega, by omega⟩]; omega)))
theorem v_82 (hr : RI r) (hT : T4 r S V g) (h : ∀ v g', EB r S V g g' → Q v g' r) : Ce sc (d + 8) 82 [(2, 0), (0, l1)] g r Q := by
  have k0 : okr 218 0 8 := okd (by decide +kernel)
  have hM := mrv_of (S := S) hr
  have b23 := brf4_23 hr
  have k23 := b23.1
  have q23 := b23.2.1
  have p46 := (pl_46 hr).fz
  have hl : l1 ≤ 96 ∨ ¬ l1 ≤ 96 := by omega
  have loop : l1 ≤ 96 → ∀ l2 : Int, -2147483648 ≤ l2 → 0 ≤ l2 → ∀ g1, EB r S V g g1 → WQ sc (d + 7) 82 Q 46 [(2, 0), (0, l1), (0, l2)] [] g1 r := by
    intro hl
    refine upS 1 l1 (by decide) (by omega) fun l2 _ ih h0 g1 e0 => ?_
    refine b_82_46 ?_
    repeat' first
      | (with_reducible refine ite_01 ?_)
      | (with_reducible refine ite_00 ?_)
      | (with_reducible refine And.intro ?_ ?_; · first | assumption | decide | (exact ARF.i (by assumption) (by omega) (by omega)) | (exact ARF.a (by assumption) (by decide) (by decide)) | (exact ARF.k (by assumption)) | omega | (have := cmp_gt.mp (by assumption : 0 < cmpL _ 0); omega))
      | (simp only [r_0_1 hr, r_0_4 hr, r_0_8 hr])
      | (refine ite_c (fun _ => ?_) (fun _ => ?_))
      | (intro _ e1; subst e1)
      | (with_reducible refine v_5 (S := S) (V := V) hr (by assumption) (by assumption) (by assumption) (by first | assumption | exact EB.t (by assumption) | (refine EB.t (a := g) ?_; (repeat (with_reducible first | assumption | exact EB.rf hT | (refine EB.up hr ?_ (by assumption)) | (refine EB.cp hr ?_ (by assumption)) | (refine EB.tr ?_ (by assumption)) | (refine EB.e4 hr ?_ (by assumption)))))) (fun _ _ _ => ?_))
      | (with_reducible refine w_123 (fun _ _ => ?_) (fun _ => ?_))
      | (with_reducible refine s_131 hr (fun _ => ?_))
      | (with_reducible refine r4_133 hr (by decide) (by decide) (fun _ _ _ => ?_))
      | (exfalso; omega)
      | (exact absurd trivial (by assumption))
      | ((with_reducible refine ih ?_ ?_ _ ?_) <;> (first | ((repeat (with_reducible first | assumption | exact EB.rf hT | (refine EB.up hr ?_ (by assumption)) | (refine EB.cp hr ?_ (by assumption)) | (refine EB.tr ?_ (by assumption)) | (refine EB.e4 hr ?_ (by assumption)))); done) | omega | decide | (rw [wr_id ⟨by omega, by omega⟩]; omega)))
      | ((with_reducible refine h _ _ ?_) <;> (first | ((repeat (with_reducible first | assumption | exact EB.rf hT | (refine EB.up hr ?_ (by assumption)) | (refine EB.cp hr ?_ (by assumption)) | (refine EB.tr ?_ (by assumption)) | (refine EB.e4 hr ?_ (by assumption)))); done) | omega | decide | (rw [wr_id ⟨by omega, by omega⟩]; omega)))
  refine c_82 ?_
  repeat' first
    | (with_reducible refine ite_01 ?_)
    | (with_reducible refine ite_00 ?_)
    | (with_reducible refine And.intro ?_ ?_; · first | assumption | decide | (exact ARF.i (by assumption) (by omega) (by omega)) | (exact ARF.a (by assumption) (by decide) (by decide)) | (exact ARF.k (by assumption)) | omega | (have := cmp_gt.mp (by assumption : 0 < cmpL _ 0); omega))
    | (simp only [r_0_1 hr, r_0_4 hr, r_0_8 hr])
    | (refine ite_c (fun _ => ?_) (fun _ => ?_))
    | (intro _ e1; subst e1)
    | (with_reducible refine v_5 (S := S) (V := V) hr (by assumption) (by assumption) (by assumption) (by first | assumption | exact EB.t (by assumption) | (refine EB.t (a := g) ?_; (repeat (with_reducible first | assumption | exact EB.rf hT | (refine EB.up hr ?_ (by assumption)) | (refine EB.cp hr ?_ (by assumption)) | (refine EB.tr ?_ (by assumption)) | (refine EB.e4 hr ?_ (by assumption)))))) (fun _ _ _ => ?_))
    | (with_reducible refine w_123 (fun _ _ => ?_) (fun _ => ?_))
    | (with_reducible refine s_131 hr (fun _ => ?_))
    | (with_reducible refine r4_133 hr (by decide) (by decide) (fun _ _ _ => ?_))
    | (exfalso; omega)
    | (exact absurd trivial (by assumption))
    | ((with_reducible refine loop ?_ _ ?_ ?_ _ ?_) <;> (first | ((repeat (with_reducible first | assumption | exact EB.rf hT | (refine EB.up hr ?_ (by assumption)) | (refine EB.cp hr ?_ (by assumption)) | (refine EB.tr ?_ (by assumption)) | (refine EB.e4 hr ?_ (by assumption)))); done) | omega | decide | (rw [wr_id ⟨by omega, by omega⟩]; omega)))
    | ((with_reducible refine h _ _ ?_) <;> (first | ((repeat (with_reducible first | assumption | exact EB.rf hT | (refine EB.up hr ?_ (by assumption)) | (refine EB.cp hr ?_ (by assumption)) | (refine EB.tr ?_ (by assumption)) | (refine EB.e4 hr ?_ (by assumption)))); done) | omega | decide | (rw [wr_id ⟨by omega, by omega⟩]; omega)))
theorem v_95 (hr : RI r) (hT : T4 r S V g) (h : ∀ v g', EB r S V g g' → Q v g' r) : Ce sc (d + 8) 95 [(2, 0), (0, l1), (0, l2), (0, l3)] g r Q := by
  have k0 : okr 218 0 8 := okd (by decide +kernel)
  have hM := mrv_of (S := S) hr
  have b23 := (br_23 hr).fz
  have k23 := b23.1
  have q23 := b23.2.1
  have ar28 : ARF FZ 28 12 6 := AR.fz (ar_of (by decide +kernel) (by decide +kernel) (by decide +kernel))
  have nr28 := ar28.2.2
  have b34 := brf4_34 hr
  have k34 := b34.1
  have q34 := b34.2.1
  have ar39 : ARF F4 39 12 6 := AR.f (ar_of (by decide +kernel) (by decide +kernel) (by decide +kernel)) (sq4 _ (by unfold SC; omega) (by unfold BO; omega))
  have nr39 := ar39.2.2
  have p48z := (pl_48 hr).fz
  have p48 := plf4_48 hr
  have k48 := p48.1
  have ar49 : ARF F4 49 11 6 := AR.f (ar_of (by decide +kernel) (by decide +kernel) (by decide +kernel)) (sq4 _ (by unfold SC; omega) (by unfold BO; omega))
  have nr49 := ar49.2.2
  have ar50 : ARF F4 50 12 192 := AR.f (ar_of (by decide +kernel) (by decide +kernel) (by decide +kernel)) (sq4 _ (by unfold SC; omega) (by unfold BO; omega))
  have mr50 := ar50.2.1
  have nr50 := ar50.2.2
  have loopc : ∀ l5 : Int, -2147483648 ≤ l5 → 0 ≤ l5 → ∀ (l4 : Int) g1, EB r S V g g1 → WQ sc (d + 7) 95 Q 113 [(2, 0), (9, 0), (9, 0), (0, l3), (0, l4), (0, l5), (9, 0)] [] g1 r := by
    refine upS 1 6 (by decide) (by first | decide | omega) fun l5 _ ih h0 l4 g1 e0 => ?_
    refine b_95_113 ?_
    repeat' first
      | (with_reducible refine ite_01 ?_)
      | (with_reducible refine ite_00 ?_)
      | (with_reducible refine And.intro ?_ ?_; · first | assumption | decide | (exact ARF.i (by assumption) (by omega) (by omega)) | (exact ARF.a (by assumption) (by decide) (by decide)) | (exact ARF.k (by assumption)) | omega | (have := cmp_gt.mp (by assumption : 0 < cmpL _ 0); omega))
      | (simp only [r_0_1 hr, r_0_4 hr, r_0_5 hr, r_0_9 hr, r_0_10 hr, r_23_8 hr, r_34_8 hr, r_48_0 hr, n_50, wr191])
      | (refine ite_c (fun _ => ?_) (fun _ => ?_))
      | (intro _ e1; subst e1)
      | (with_reducible refine t_1 (by assumption) (by assumption) (fun _ _ _ => ?_))
      | (with_reducible refine v_5 (S := S) (V := V) hr (by assumption) (by assumption) (by assumption) (by first | assumption | exact EB.t (by assumption) | (refine EB.t (a := g) ?_; (repeat (with_reducible first | assumption | exact EB.rf hT | (refine EB.up hr ?_ (by assumption)) | (refine EB.cp hr ?_ (by assumption)) | (refine EB.tr ?_ (by assumption)) | (refine EB.e4 hr ?_ (by assumption)))))) (fun _ _ _ => ?_))
      | (with_reducible refine t_28 (by assumption) (fun _ _ _ => ?_))
      | (with_reducible refine s_94 (fun _ => ?_))
      | (with_reducible refine w_123 (fun _ _ => ?_) (fun _ => ?_))
      | (with_reducible refine v_129 (S := S) (V := V) hr (by first | assumption | exact EB.t (by assumption) | (refine EB.t (a := g) ?_; (repeat (with_reducible first | assumption | exact EB.rf hT | (refine EB.up hr ?_ (by assumption)) | (refine EB.cp hr ?_ (by assumption)) | (refine EB.tr ?_ (by assumption)) | (refine EB.e4 hr ?_ (by assumption)))))) (fun _ _ _ _ _ _ _ _ _ _ _ _ => ?_) ?_)
      | (exfalso; omega)
      | (exact absurd trivial (by assumption))
      | ((with_reducible refine ih ?_ ?_ _ _ ?_) <;> (first | ((repeat (with_reducible first | assumption | exact EB.rf hT | (refine EB.up hr ?_ (by assumption)) | (refine EB.cp hr ?_ (by assumption)) | (refine EB.tr ?_ (by assumption)) | (refine EB.e4 hr ?_ (by assumption)))); done) | omega | decide | (rw [wr_id ⟨by omega, by omega⟩]; omega)))
      | ((with_reducible refine h _ _ ?_) <;> (first | ((repeat (with_reducible first | assumption | exact EB.rf hT | (refine EB.up hr ?_ (by assumption)) | (refine EB.cp hr ?_ (by assumption)) | (refine EB.tr ?_ (by assumption)) | (refine EB.e4 hr ?_ (by assumption)))); done) | omega | decide | (rw [wr_id ⟨by omega, by omega⟩]; omega)))
  have loopb : ∀ l5 : Int, -2147483648 ≤ l5 → 0 ≤ l5 → ∀ g1, EB r S V g g1 → WQ sc (d + 7) 95 Q 79 [(2, 0), (9, 0), (9, 0), (0, l3), (9, 0), (0, l5), (9, 0)] [] g1 r := by
    refine upS 1 24 (by decide) (by first | decide | omega) fun l5 _ ih h0 g1 e0 => ?_
    refine b_95_79 ?_
    repeat' first
      | (with_reducible refine ite_01 ?_)
      | (with_reducible refine ite_00 ?_)
      | (with_reducible refine And.intro ?_ ?_; · first | assumption | decide | (exact ARF.i (by assumption) (by omega) (by omega)) | (exact ARF.a (by assumption) (by decide) (by decide)) | (exact ARF.k (by assumption)) | omega | (have := cmp_gt.mp (by assumption : 0 < cmpL _ 0); omega))
      | (simp only [r_0_1 hr, r_0_4 hr, r_0_5 hr, r_0_9 hr, r_0_10 hr, r_23_8 hr, r_34_8 hr, r_48_0 hr, n_50, wr191])
      | (refine ite_c (fun _ => ?_) (fun _ => ?_))
      | (intro _ e1; subst e1)
      | (with_reducible refine t_1 (by assumption) (by assumption) (fun _ _ _ => ?_))
      | (with_reducible refine v_5 (S := S) (V := V) hr (by assumption) (by assumption) (by assumption) (by first | assumption | exact EB.t (by assumption) | (refine EB.t (a := g) ?_; (repeat (with_reducible first | assumption | exact EB.rf hT | (refine EB.up hr ?_ (by assumption)) | (refine EB.cp hr ?_ (by assumption)) | (refine EB.tr ?_ (by assumption)) | (refine EB.e4 hr ?_ (by assumption)))))) (fun _ _ _ => ?_))
      | (with_reducible refine t_28 (by assumption) (fun _ _ _ => ?_))
      | (with_reducible refine s_94 (fun _ => ?_))
      | (with_reducible refine w_123 (fun _ _ => ?_) (fun _ => ?_))
      | (with_reducible refine v_129 (S := S) (V := V) hr (by first | assumption | exact EB.t (by assumption) | (refine EB.t (a := g) ?_; (repeat (with_reducible first | assumption | exact EB.rf hT | (refine EB.up hr ?_ (by assumption)) | (refine EB.cp hr ?_ (by assumption)) | (refine EB.tr ?_ (by assumption)) | (refine EB.e4 hr ?_ (by assumption)))))) (fun _ _ _ _ _ _ _ _ _ _ _ _ => ?_) ?_)
      | (exfalso; omega)
      | (exact absurd trivial (by assumption))
      | ((with_reducible refine ih ?_ ?_ _ ?_) <;> (first | ((repeat (with_reducible first | assumption | exact EB.rf hT | (refine EB.up hr ?_ (by assumption)) | (refine EB.cp hr ?_ (by assumption)) | (refine EB.tr ?_ (by assumption)) | (refine EB.e4 hr ?_ (by assumption)))); done) | omega | decide | (rw [wr_id ⟨by omega, by omega⟩]; omega)))
      | ((with_reducible refine loopc _ ?_ ?_ _ _ ?_) <;> (first | ((repeat (with_reducible first | assumption | exact EB.rf hT | (refine EB.up hr ?_ (by assumption)) | (refine EB.cp hr ?_ (by assumption)) | (refine EB.tr ?_ (by assumption)) | (refine EB.e4 hr ?_ (by assumption)))); done) | omega | decide | (rw [wr_id ⟨by omega, by omega⟩]; omega)))
      | ((with_reducible refine h _ _ ?_) <;> (first | ((repeat (with_reducible first | assumption | exact EB.rf hT | (refine EB.up hr ?_ (by assumption)) | (refine EB.cp hr ?_ (by assumption)) | (refine EB.tr ?_ (by assumption)) | (refine EB.e4 hr ?_ (by assumption)))); done) | omega | decide | (rw [wr_id ⟨by omega, by omega⟩]; omega)))
  have loopa : ∀ l5 : Int, -2147483648 ≤ l5 → 0 ≤ l5 → ∀ (l4 : Int) g1, EB r S V g g1 → WQ sc (d + 7) 95 Q 15 [(2, 0), (9, 0), (9, 0), (0, l3), (0, l4), (0, l5), (9, 0)] [] g1 r := by
    refine upS 1 6 (by decide) (by first | decide | omega) fun l5 _ ih h0 l4 g1 e0 => ?_
    refine b_95_15 ?_
    repeat' first
      | (with_reducible refine ite_01 ?_)
      | (with_reducible refine ite_00 ?_)
      | (with_reducible refine And.intro ?_ ?_; · first | assumption | decide | (exact ARF.i (by assumption) (by omega) (by omega)) | (exact ARF.a (by assumption) (by decide) (by decide)) | (exact ARF.k (by assumption)) | omega | (have := cmp_gt.mp (by assumption : 0 < cmpL _ 0); omega))
      | (simp only [r_0_1 hr, r_0_4 hr, r_0_5 hr, r_0_9 hr, r_0_10 hr, r_23_8 hr, r_34_8 hr, r_48_0 hr, n_50, wr191])
      | (refine ite_c (fun _ => ?_) (fun _ => ?_))
      | (intro _ e1; subst e1)
      | (with_reducible refine t_1 (by assumption) (by assumption) (fun _ _ _ => ?_))
      | (with_reducible refine v_5 (S := S) (V := V) hr (by assumption) (by assumption) (by assumption) (by first | assumption | exact EB.t (by assumption) | (refine EB.t (a := g) ?_; (repeat (with_reducible first | assumption | exact EB.rf hT | (refine EB.up hr ?_ (by assumption)) | (refine EB.cp hr ?_ (by assumption)) | (refine EB.tr ?_ (by assumption)) | (refine EB.e4 hr ?_ (by assumption)))))) (fun _ _ _ => ?_))
      | (with_reducible refine t_28 (by assumption) (fun _ _ _ => ?_))
      | (with_reducible refine s_94 (fun _ => ?_))
      | (with_reducible refine w_123 (fun _ _ => ?_) (fun _ => ?_))
      | (with_reducible refine v_129 (S := S) (V := V) hr (by first | assumption | exact EB.t (by assumption) | (refine EB.t (a := g) ?_; (repeat (with_reducible first | assumption | exact EB.rf hT | (refine EB.up hr ?_ (by assumption)) | (refine EB.cp hr ?_ (by assumption)) | (refine EB.tr ?_ (by assumption)) | (refine EB.e4 hr ?_ (by assumption)))))) (fun _ _ _ _ _ _ _ _ _ _ _ _ => ?_) ?_)
      | (exfalso; omega)
      | (exact absurd trivial (by assumption))
      | ((with_reducible refine ih ?_ ?_ _ _ ?_) <;> (first | ((repeat (with_reducible first | assumption | exact EB.rf hT | (refine EB.up hr ?_ (by assumption)) | (refine EB.cp hr ?_ (by assumption)) | (refine EB.tr ?_ (by assumption)) | (refine EB.e4 hr ?_ (by assumption)))); done) | omega | decide | (rw [wr_id ⟨by omega, by omega⟩]; omega)))
      | ((with_reducible refine loopb _ ?_ ?_ _ ?_) <;> (first | ((repeat (with_reducible first | assumption | exact EB.rf hT | (refine EB.up hr ?_ (by assumption)) | (refine EB.cp hr ?_ (by assumption)) | (refine EB.tr ?_ (by assumption)) | (refine EB.e4 hr ?_ (by assumption)))); done) | omega | decide | (rw [wr_id ⟨by omega, by omega⟩]; omega)))
      | ((with_reducible refine h _ _ ?_) <;> (first | ((repeat (with_reducible first | assumption | exact EB.rf hT | (refine EB.up hr ?_ (by assumption)) | (refine EB.cp hr ?_ (by assumption)) | (refine EB.tr ?_ (by assumption)) | (refine EB.e4 hr ?_ (by assumption)))); done) | omega | decide | (rw [wr_id ⟨by omega, by omega⟩]; omega)))
  refine c_95 ?_
  repeat' first
    | (with_reducible refine ite_01 ?_)
    | (with_reducible refine ite_00 ?_)
    | (with_reducible refine And.intro ?_ ?_; · first | assumption | decide | (exact ARF.i (by assumption) (by omega) (by omega)) | (exact ARF.a (by assumption) (by decide) (by decide)) | (exact ARF.k (by assumption)) | omega | (have := cmp_gt.mp (by assumption : 0 < cmpL _ 0); omega))
    | (simp only [r_0_1 hr, r_0_4 hr, r_0_5 hr, r_0_9 hr, r_0_10 hr, r_23_8 hr, r_34_8 hr, r_48_0 hr, n_50, wr191])
    | (refine ite_c (fun _ => ?_) (fun _ => ?_))
    | (intro _ e1; subst e1)
    | (with_reducible refine t_1 (by assumption) (by assumption) (fun _ _ _ => ?_))
    | (with_reducible refine v_5 (S := S) (V := V) hr (by assumption) (by assumption) (by assumption) (by first | assumption | exact EB.t (by assumption) | (refine EB.t (a := g) ?_; (repeat (with_reducible first | assumption | exact EB.rf hT | (refine EB.up hr ?_ (by assumption)) | (refine EB.cp hr ?_ (by assumption)) | (refine EB.tr ?_ (by assumption)) | (refine EB.e4 hr ?_ (by assumption)))))) (fun _ _ _ => ?_))
    | (with_reducible refine t_28 (by assumption) (fun _ _ _ => ?_))
    | (with_reducible refine s_94 (fun _ => ?_))
    | (with_reducible refine w_123 (fun _ _ => ?_) (fun _ => ?_))
    | (with_reducible refine v_129 (S := S) (V := V) hr (by first | assumption | exact EB.t (by assumption) | (refine EB.t (a := g) ?_; (repeat (with_reducible first | assumption | exact EB.rf hT | (refine EB.up hr ?_ (by assumption)) | (refine EB.cp hr ?_ (by assumption)) | (refine EB.tr ?_ (by assumption)) | (refine EB.e4 hr ?_ (by assumption)))))) (fun _ _ _ _ _ _ _ _ _ _ _ _ => ?_) ?_)
    | (exfalso; omega)
    | (exact absurd trivial (by assumption))
    | ((with_reducible refine loopa _ ?_ ?_ _ _ ?_) <;> (first | ((repeat (with_reducible first | assumption | exact EB.rf hT | (refine EB.up hr ?_ (by assumption)) | (refine EB.cp hr ?_ (by assumption)) | (refine EB.tr ?_ (by assumption)) | (refine EB.e4 hr ?_ (by assumption)))); done) | omega | decide | (rw [wr_id ⟨by omega, by omega⟩]; omega)))
    | ((with_reducible refine h _ _ ?_) <;> (first | ((repeat (with_reducible first | assumption | exact EB.rf hT | (refine EB.up hr ?_ (by assumption)) | (refine EB.cp hr ?_ (by assumption)) | (refine EB.tr ?_ (by assumption)) | (refine EB.e4 hr ?_ (by assumption)))); done) | omega | decide | (rw [wr_id ⟨by omega, by omega⟩]; omega)))
theorem v_87 (hr : RI r) (hT : T4 r S V g) (h : ∀ v g', EB r S V g g' → Q v g' r) : Ce sc (d + 9) 87 [(2, 0), (0, l1), (0, l2), (0, l3), (0, l4)] g r Q := by
  have k0 : okr 218 0 8 := okd (by decide +kernel)
  refine c_87 ?_
  repeat' first
    | (with_reducible refine ite_01 ?_)
    | (with_reducible refine ite_00 ?_)
    | (with_reducible refine And.intro ?_ ?_; · first | assumption | decide | (exact ARF.i (by assumption) (by omega) (by omega)) | (exact ARF.a (by assumption) (by decide) (by decide)) | (exact ARF.k (by assumption)) | omega | (have := cmp_gt.mp (by assumption : 0 < cmpL _ 0); omega))
    | (refine ite_c (fun _ => ?_) (fun _ => ?_))
    | (intro _ e1; subst e1)
    | (with_reducible refine s_90 hr ?_ ?_)
    | (with_reducible refine s_91 hr (fun _ _ => ?_))
    | (with_reducible refine s_92 hr ?_ ?_)
    | (with_reducible refine v_95 (S := S) (V := V) hr (by first | assumption | exact EB.t (by assumption) | (refine EB.t (a := g) ?_; (repeat (with_reducible first | assumption | exact EB.rf hT | (refine EB.up hr ?_ (by assumption)) | (refine EB.cp hr ?_ (by assumption)) | (refine EB.tr ?_ (by assumption)) | (refine EB.e4 hr ?_ (by assumption)))))) (fun _ _ _ => ?_))
    | (with_reducible refine s_96 hr (fun _ => ?_))
    | (with_reducible refine w_123 (fun _ _ => ?_) (fun _ => ?_))
    | (exfalso; omega)
    | (exact absurd trivial (by assumption))
    | ((with_reducible refine h _ _ ?_) <;> (first | ((repeat (with_reducible first | assumption | exact EB.rf hT | (refine EB.up hr ?_ (by assumption)) | (refine EB.cp hr ?_ (by assumption)) | (refine EB.tr ?_ (by assumption)) | (refine EB.e4 hr ?_ (by assumption)))); done) | omega | decide | (rw [wr_id ⟨by omega, by omega⟩]; omega)))
theorem v_88 (hr : RI r) (hT : T4 r S V g) (h : ∀ v g', EB r S V g g' → Q v g' r) : Ce sc (d + 9) 88 [(2, 0), (0, l1), (0, l2), (0, l3)] g r Q := by
  have k0 : okr 218 0 8 := okd (by decide +kernel)
  have loopb : ∀ l5 : Int, -2147483648 ≤ l5 → 0 ≤ l5 → ∀ (l4 : Int) g1, EB r S V g g1 → WQ sc (d + 8) 88 Q 55 [(2, 0), (9, 0), (9, 0), (0, l3), (0, l4), (0, l5)] [] g1 r := by
    refine upS 1 64 (by decide) (by first | decide | omega) fun l5 _ ih h0 l4 g1 e0 => ?_
    refine b_88_55 ?_
    repeat' first
      | (with_reducible refine ite_01 ?_)
      | (with_reducible refine ite_00 ?_)
      | (with_reducible refine And.intro ?_ ?_; · first | assumption | decide | (exact ARF.i (by assumption) (by omega) (by omega)) | (exact ARF.a (by assumption) (by decide) (by decide)) | (exact ARF.k (by assumption)) | omega | (have := cmp_gt.mp (by assumption : 0 < cmpL _ 0); omega))
      | (refine ite_c (fun _ => ?_) (fun _ => ?_))
      | (intro _ e1; subst e1)
      | (with_reducible refine s_90 hr ?_ ?_)
      | (with_reducible refine s_92 hr ?_ ?_)
      | (with_reducible refine v_95 (S := S) (V := V) hr (by first | assumption | exact EB.t (by assumption) | (refine EB.t (a := g) ?_; (repeat (with_reducible first | assumption | exact EB.rf hT | (refine EB.up hr ?_ (by assumption)) | (refine EB.cp hr ?_ (by assumption)) | (refine EB.tr ?_ (by assumption)) | (refine EB.e4 hr ?_ (by assumption)))))) (fun _ _ _ => ?_))
      | (with_reducible refine s_97 hr ?_ ?_)
      | (exfalso; omega)
      | (exact absurd trivial (by assumption))
      | ((with_reducible refine ih ?_ ?_ _ _ ?_) <;> (first | ((repeat (with_reducible first | assumption | exact EB.rf hT | (refine EB.up hr ?_ (by assumption)) | (refine EB.cp hr ?_ (by assumption)) | (refine EB.tr ?_ (by assumption)) | (refine EB.e4 hr ?_ (by assumption)))); done) | omega | decide | (rw [wr_id ⟨by omega, by omega⟩]; omega)))
      | ((with_reducible refine h _ _ ?_) <;> (first | ((repeat (with_reducible first | assumption | exact EB.rf hT | (refine EB.up hr ?_ (by assumption)) | (refine EB.cp hr ?_ (by assumption)) | (refine EB.tr ?_ (by assumption)) | (refine EB.e4 hr ?_ (by assumption)))); done) | omega | decide | (rw [wr_id ⟨by omega, by omega⟩]; omega)))
  have loopa : ∀ l4 : Int, -2147483648 ≤ l4 → 0 ≤ l4 → ∀ g1, EB r S V g g1 → WQ sc (d + 8) 88 Q 19 [(2, 0), (0, l1), (0, l2), (0, l3), (0, l4), (9, 0)] [] g1 r := by
    refine upS 1 64 (by decide) (by first | decide | omega) fun l4 _ ih h0 g1 e0 => ?_
    refine b_88_19 ?_
    repeat' first
      | (with_reducible refine ite_01 ?_)
      | (with_reducible refine ite_00 ?_)
      | (with_reducible refine And.intro ?_ ?_; · first | assumption | decide | (exact ARF.i (by assumption) (by omega) (by omega)) | (exact ARF.a (by assumption) (by decide) (by decide)) | (exact ARF.k (by assumption)) | omega | (have := cmp_gt.mp (by assumption : 0 < cmpL _ 0); omega))
      | (refine ite_c (fun _ => ?_) (fun _ => ?_))
      | (intro _ e1; subst e1)
      | (with_reducible refine s_90 hr ?_ ?_)
      | (with_reducible refine s_92 hr ?_ ?_)
      | (with_reducible refine v_95 (S := S) (V := V) hr (by first | assumption | exact EB.t (by assumption) | (refine EB.t (a := g) ?_; (repeat (with_reducible first | assumption | exact EB.rf hT | (refine EB.up hr ?_ (by assumption)) | (refine EB.cp hr ?_ (by assumption)) | (refine EB.tr ?_ (by assumption)) | (refine EB.e4 hr ?_ (by assumption)))))) (fun _ _ _ => ?_))
      | (with_reducible refine s_97 hr ?_ ?_)
      | (exfalso; omega)
      | (exact absurd trivial (by assumption))
      | ((with_reducible refine ih ?_ ?_ _ ?_) <;> (first | ((repeat (with_reducible first | assumption | exact EB.rf hT | (refine EB.up hr ?_ (by assumption)) | (refine EB.cp hr ?_ (by assumption)) | (refine EB.tr ?_ (by assumption)) | (refine EB.e4 hr ?_ (by assumption)))); done) | omega | decide | (rw [wr_id ⟨by omega, by omega⟩]; omega)))
      | ((with_reducible refine loopb _ ?_ ?_ _ _ ?_) <;> (first | ((repeat (with_reducible first | assumption | exact EB.rf hT | (refine EB.up hr ?_ (by assumption)) | (refine EB.cp hr ?_ (by assumption)) | (refine EB.tr ?_ (by assumption)) | (refine EB.e4 hr ?_ (by assumption)))); done) | omega | decide | (rw [wr_id ⟨by omega, by omega⟩]; omega)))
      | ((with_reducible refine h _ _ ?_) <;> (first | ((repeat (with_reducible first | assumption | exact EB.rf hT | (refine EB.up hr ?_ (by assumption)) | (refine EB.cp hr ?_ (by assumption)) | (refine EB.tr ?_ (by assumption)) | (refine EB.e4 hr ?_ (by assumption)))); done) | omega | decide | (rw [wr_id ⟨by omega, by omega⟩]; omega)))
  refine c_88 ?_
  repeat' first
    | (with_reducible refine ite_01 ?_)
    | (with_reducible refine ite_00 ?_)
    | (with_reducible refine And.intro ?_ ?_; · first | assumption | decide | (exact ARF.i (by assumption) (by omega) (by omega)) | (exact ARF.a (by assumption) (by decide) (by decide)) | (exact ARF.k (by assumption)) | omega | (have := cmp_gt.mp (by assumption : 0 < cmpL _ 0); omega))
    | (refine ite_c (fun _ => ?_) (fun _ => ?_))
    | (intro _ e1; subst e1)
    | (with_reducible refine s_90 hr ?_ ?_)
    | (with_reducible refine s_92 hr ?_ ?_)
    | (with_reducible refine v_95 (S := S) (V := V) hr (by first | assumption | exact EB.t (by assumption) | (refine EB.t (a := g) ?_; (repeat (with_reducible first | assumption | exact EB.rf hT | (refine EB.up hr ?_ (by assumption)) | (refine EB.cp hr ?_ (by assumption)) | (refine EB.tr ?_ (by assumption)) | (refine EB.e4 hr ?_ (by assumption)))))) (fun _ _ _ => ?_))
    | (with_reducible refine s_97 hr ?_ ?_)
    | (exfalso; omega)
    | (exact absurd trivial (by assumption))
    | ((with_reducible refine loopa _ ?_ ?_ _ ?_) <;> (first | ((repeat (with_reducible first | assumption | exact EB.rf hT | (refine EB.up hr ?_ (by assumption)) | (refine EB.cp hr ?_ (by assumption)) | (refine EB.tr ?_ (by assumption)) | (refine EB.e4 hr ?_ (by assumption)))); done) | omega | decide | (rw [wr_id ⟨by omega, by omega⟩]; omega)))
    | ((with_reducible refine h _ _ ?_) <;> (first | ((repeat (with_reducible first | assumption | exact EB.rf hT | (refine EB.up hr ?_ (by assumption)) | (refine EB.cp hr ?_ (by assumption)) | (refine EB.tr ?_ (by assumption)) | (refine EB.e4 hr ?_ (by assumption)))); done) | omega | decide | (rw [wr_id ⟨by omega, by omega⟩]; omega)))
theorem v_89 (hr : RI r) (hT : T4 r S V g) (h : ∀ v g', EB r S V g g' → Q v g' r) : Ce sc (d + 9) 89 [(2, 0), (0, l1), (0, l2), (0, l3)] g r Q := by
  have k0 : okr 218 0 8 := okd (by decide +kernel)
  have outer : ∀ l4 : Int, l4 ≤ 3 → ∀ l5 : Int, -2147483648 ≤ l5 → 0 ≤ l5 → ∀ g1, EB r S V g g1 → WQ sc (d + 8) 89 Q 31 [(2, 0), (0, l1), (0, l2), (0, l3), (0, l4), (0, l5), (9, 0), (9, 0)] [] g1 r := by
    intro l4 hl
    refine upS 1 64 (by decide) (by decide) fun l5 _ ih h5 g1 e0 => ?_
    have inner : l5 < 64 → ∀ l7 : Int, -2147483648 ≤ l7 → 0 ≤ l7 → ∀ (l6 : Int) g2, EB r S V g g2 → WQ sc (d + 8) 89 Q 64 [(2, 0), (0, l1), (0, l2), (0, l3), (0, l4), (0, l5), (0, l6), (0, l7)] [] g2 r := by
      intro hlt
      refine upS 1 l4 (by decide) (by omega) fun l7 _ ih2 h7 l6 g2 e2 => ?_
      refine b_89_64 ?_
      repeat' first
        | (with_reducible refine ite_01 ?_)
        | (with_reducible refine ite_00 ?_)
        | (with_reducible refine And.intro ?_ ?_; · first | assumption | decide | (exact ARF.i (by assumption) (by omega) (by omega)) | (exact ARF.a (by assumption) (by decide) (by decide)) | (exact ARF.k (by assumption)) | omega | (have := cmp_gt.mp (by assumption : 0 < cmpL _ 0); omega))
        | (refine ite_c (fun _ => ?_) (fun _ => ?_))
        | (intro _ e1; subst e1)
        | (with_reducible refine s_90 hr ?_ ?_)
        | (with_reducible refine s_91 hr (fun _ _ => ?_))
        | (with_reducible refine s_92 hr ?_ ?_)
        | (with_reducible refine v_95 (S := S) (V := V) hr (by first | assumption | exact EB.t (by assumption) | (refine EB.t (a := g) ?_; (repeat (with_reducible first | assumption | exact EB.rf hT | (refine EB.up hr ?_ (by assumption)) | (refine EB.cp hr ?_ (by assumption)) | (refine EB.tr ?_ (by assumption)) | (refine EB.e4 hr ?_ (by assumption)))))) (fun _ _ _ => ?_))
        | (with_reducible refine s_96 hr (fun _ => ?_))
        | (with_reducible refine w_123 (fun _ _ => ?_) (fun _ => ?_))
        | (exfalso; omega)
        | (exact absurd trivial (by assumption))
        | ((with_reducible refine ih2 ?_ ?_ _ _ ?_) <;> (first | ((repeat (with_reducible first | assumption | exact EB.rf hT | (refine EB.up hr ?_ (by assumption)) | (refine EB.cp hr ?_ (by assumption)) | (refine EB.tr ?_ (by assumption)) | (refine EB.e4 hr ?_ (by assumption)))); done) | omega | decide | (rw [wr_id ⟨by omega, by omega⟩]; omega)))
        | ((with_reducible refine ih hlt ?_ _ ?_) <;> (first | ((repeat (with_reducible first | assumption | exact EB.rf hT | (refine EB.up hr ?_ (by assumption)) | (refine EB.cp hr ?_ (by assumption)) | (refine EB.tr ?_ (by assumption)) | (refine EB.e4 hr ?_ (by assumption)))); done) | omega | decide | (rw [wr_id ⟨by omega, by omega⟩]; omega)))
        | ((with_reducible refine h _ _ ?_) <;> (first | ((repeat (with_reducible first | assumption | exact EB.rf hT | (refine EB.up hr ?_ (by assumption)) | (refine EB.cp hr ?_ (by assumption)) | (refine EB.tr ?_ (by assumption)) | (refine EB.e4 hr ?_ (by assumption)))); done) | omega | decide | (rw [wr_id ⟨by omega, by omega⟩]; omega)))
    refine b_89_31 ?_
    repeat' first
      | (with_reducible refine ite_01 ?_)
      | (with_reducible refine ite_00 ?_)
      | (with_reducible refine And.intro ?_ ?_; · first | assumption | decide | (exact ARF.i (by assumption) (by omega) (by omega)) | (exact ARF.a (by assumption) (by decide) (by decide)) | (exact ARF.k (by assumption)) | omega | (have := cmp_gt.mp (by assumption : 0 < cmpL _ 0); omega))
      | (refine ite_c (fun _ => ?_) (fun _ => ?_))
      | (intro _ e1; subst e1)
      | (with_reducible refine s_90 hr ?_ ?_)
      | (with_reducible refine s_91 hr (fun _ _ => ?_))
      | (with_reducible refine s_92 hr ?_ ?_)
      | (with_reducible refine v_95 (S := S) (V := V) hr (by first | assumption | exact EB.t (by assumption) | (refine EB.t (a := g) ?_; (repeat (with_reducible first | assumption | exact EB.rf hT | (refine EB.up hr ?_ (by assumption)) | (refine EB.cp hr ?_ (by assumption)) | (refine EB.tr ?_ (by assumption)) | (refine EB.e4 hr ?_ (by assumption)))))) (fun _ _ _ => ?_))
      | (with_reducible refine s_96 hr (fun _ => ?_))
      | (with_reducible refine w_123 (fun _ _ => ?_) (fun _ => ?_))
      | (exfalso; omega)
      | (exact absurd trivial (by assumption))
      | ((with_reducible refine inner ?_ _ ?_ ?_ _ _ ?_) <;> (first | ((repeat (with_reducible first | assumption | exact EB.rf hT | (refine EB.up hr ?_ (by assumption)) | (refine EB.cp hr ?_ (by assumption)) | (refine EB.tr ?_ (by assumption)) | (refine EB.e4 hr ?_ (by assumption)))); done) | omega | decide | (rw [wr_id ⟨by omega, by omega⟩]; omega)))
      | ((with_reducible refine ih ?_ ?_ _ ?_) <;> (first | ((repeat (with_reducible first | assumption | exact EB.rf hT | (refine EB.up hr ?_ (by assumption)) | (refine EB.cp hr ?_ (by assumption)) | (refine EB.tr ?_ (by assumption)) | (refine EB.e4 hr ?_ (by assumption)))); done) | omega | decide | (rw [wr_id ⟨by omega, by omega⟩]; omega)))
      | ((with_reducible refine h _ _ ?_) <;> (first | ((repeat (with_reducible first | assumption | exact EB.rf hT | (refine EB.up hr ?_ (by assumption)) | (refine EB.cp hr ?_ (by assumption)) | (refine EB.tr ?_ (by assumption)) | (refine EB.e4 hr ?_ (by assumption)))); done) | omega | decide | (rw [wr_id ⟨by omega, by omega⟩]; omega)))
  refine c_89 ?_
  repeat' first
    | (with_reducible refine ite_01 ?_)
    | (with_reducible refine ite_00 ?_)
    | (with_reducible refine And.intro ?_ ?_; · first | assumption | decide | (exact ARF.i (by assumption) (by omega) (by omega)) | (exact ARF.a (by assumption) (by decide) (by decide)) | (exact ARF.k (by assumption)) | omega | (have := cmp_gt.mp (by assumption : 0 < cmpL _ 0); omega))
    | (refine ite_c (fun _ => ?_) (fun _ => ?_))
    | (intro _ e1; subst e1)
    | (with_reducible refine s_90 hr ?_ ?_)
    | (with_reducible refine s_91 hr (fun _ _ => ?_))
    | (with_reducible refine s_92 hr ?_ ?_)
    | (with_reducible refine v_95 (S := S) (V := V) hr (by first | assumption | exact EB.t (by assumption) | (refine EB.t (a := g) ?_; (repeat (with_reducible first | assumption | exact EB.rf hT | (refine EB.up hr ?_ (by assumption)) | (refine EB.cp hr ?_ (by assumption)) | (refine EB.tr ?_ (by assumption)) | (refine EB.e4 hr ?_ (by assumption)))))) (fun _ _ _ => ?_))
    | (with_reducible refine s_96 hr (fun _ => ?_))
    | (with_reducible refine w_123 (fun _ _ => ?_) (fun _ => ?_))
    | (exfalso; omega)
    | (exact absurd trivial (by assumption))
    | ((with_reducible refine outer _ ?_ _ ?_ ?_ _ ?_) <;> (first | ((repeat (with_reducible first | assumption | exact EB.rf hT | (refine EB.up hr ?_ (by assumption)) | (refine EB.cp hr ?_ (by assumption)) | (refine EB.tr ?_ (by assumption)) | (refine EB.e4 hr ?_ (by assumption)))); done) | omega | decide | (rw [wr_id ⟨by omega, by omega⟩]; omega)))
    | ((with_reducible refine h _ _ ?_) <;> (first | ((repeat (with_reducible first | assumption | exact EB.rf hT | (refine EB.up hr ?_ (by assumption)) | (refine EB.cp hr ?_ (by assumption)) | (refine EB.tr ?_ (by assumption)) | (refine EB.e4 hr ?_ (by assumption)))); done) | omega | decide | (rw [wr_id ⟨by omega, by omega⟩]; omega)))
theorem v_115 (hr : RI r) (hT : T4 r S V g) (h : ∀ v g', EB r S V g g' → Q v g' r) : Ce sc (d + 8) 115 [(2, 0), (0, l1), (0, l2)] g r Q := by
  have k0 : okr 218 0 8 := okd (by decide +kernel)
  have hM := mrv_of (S := S) hr
  have b23 := (br_23 hr).fz
  have k23 := b23.1
  have q23 := b23.2.1
  have b34 := brf4_34 hr
  have k34 := b34.1
  have q34 := b34.2.1
  have ar43 : ARF F4 43 11 6 := AR.f (ar_of (by decide +kernel) (by decide +kernel) (by decide +kernel)) (sq4 _ (by unfold SC; omega) (by unfold BO; omega))
  have nr43 := ar43.2.2
  have p46 := (pl_46 hr).fz
  have hx0 : (0 ≤ l1 ∧ l1 < 6) ∨ ¬ (0 ≤ l1 ∧ l1 < 6) := by omega
  have outer : 0 ≤ l1 → l1 < 6 → ∀ l7 : Int, -2147483648 ≤ l7 → 0 ≤ l7 → ∀ (l2 l3 l4 l5 l6 : Int) g1, EB r S V g g1 → WQ sc (d + 7) 115 Q 51 [(2, 0), (0, l1), (0, l2), (0, l3), (0, l4), (0, l5), (0, l6), (0, l7)] [] g1 r := by
    intro m0 m6
    refine upS 1 24 (by decide) (by decide) fun l7 _ ih h0 l2 l3 l4 l5 l6 g1 e0 => ?_
    have mid : l7 < 24 → ∀ (l2 l3 l4 l5 l6 : Int) g2, EB r S V g g2 → WQ sc (d + 7) 115 Q 100 [(2, 0), (0, l1), (0, l2), (0, l3), (0, l4), (0, l5), (0, l6), (0, l7)] [] g2 r := by
      intro hlt l2 l3 l4 l5 l6 g2 e2
      exact b_115_100 (ite_c (fun _ => ih hlt (by rw [wr_id ⟨by omega, by omega⟩]; omega) _ _ _ _ _ _ e2) (fun _ => ih hlt (by rw [wr_id ⟨by omega, by omega⟩]; omega) _ _ _ _ _ _ e2))
    refine b_115_51 ?_
    repeat' first
      | (with_reducible refine ite_01 ?_)
      | (with_reducible refine ite_00 ?_)
      | (with_reducible refine And.intro ?_ ?_; · first | assumption | decide | (exact ARF.i (by assumption) (by omega) (by omega)) | (exact ARF.a (by assumption) (by decide) (by decide)) | (exact ARF.k (by assumption)) | omega | (have := cmp_gt.mp (by assumption : 0 < cmpL _ 0); omega))
      | (simp only [r_0_1 hr, r_0_4 hr, r_0_5 hr, r_0_8 hr, r_34_12 hr])
      | (refine ite_c (fun _ => ?_) (fun _ => ?_))
      | (intro _ e1; subst e1)
      | (with_reducible refine t_1 (by assumption) (by assumption) (fun _ _ _ => ?_))
      | (with_reducible refine v_5 (S := S) (V := V) hr (by assumption) (by assumption) (by assumption) (by first | assumption | exact EB.t (by assumption) | (refine EB.t (a := g) ?_; (repeat (with_reducible first | assumption | exact EB.rf hT | (refine EB.up hr ?_ (by assumption)) | (refine EB.cp hr ?_ (by assumption)) | (refine EB.tr ?_ (by assumption)) | (refine EB.e4 hr ?_ (by assumption)))))) (fun _ _ _ => ?_))
      | (with_reducible refine w_123 (fun _ _ => ?_) (fun _ => ?_))
      | (with_reducible refine s_128 hr ?_ ?_)
      | (with_reducible refine v_129 (S := S) (V := V) hr (by first | assumption | exact EB.t (by assumption) | (refine EB.t (a := g) ?_; (repeat (with_reducible first | assumption | exact EB.rf hT | (refine EB.up hr ?_ (by assumption)) | (refine EB.cp hr ?_ (by assumption)) | (refine EB.tr ?_ (by assumption)) | (refine EB.e4 hr ?_ (by assumption)))))) (fun _ _ _ _ _ _ _ _ _ _ _ _ => ?_) ?_)
      | (exfalso; omega)
      | (exact absurd trivial (by assumption))
      | ((with_reducible refine mid ?_ _ _ _ _ _ _ ?_) <;> (first | ((repeat (with_reducible first | assumption | exact EB.rf hT | (refine EB.up hr ?_ (by assumption)) | (refine EB.cp hr ?_ (by assumption)) | (refine EB.tr ?_ (by assumption)) | (refine EB.e4 hr ?_ (by assumption)))); done) | omega | decide | (rw [wr_id ⟨by omega, by omega⟩]; omega)))
      | ((with_reducible refine h _ _ ?_) <;> (first | ((repeat (with_reducible first | assumption | exact EB.rf hT | (refine EB.up hr ?_ (by assumption)) | (refine EB.cp hr ?_ (by assumption)) | (refine EB.tr ?_ (by assumption)) | (refine EB.e4 hr ?_ (by assumption)))); done) | omega | decide | (rw [wr_id ⟨by omega, by omega⟩]; omega)))
  refine c_115 ?_
  repeat' first
    | (with_reducible refine ite_01 ?_)
    | (with_reducible refine ite_00 ?_)
    | (with_reducible refine And.intro ?_ ?_; · first | assumption | decide | (exact ARF.i (by assumption) (by omega) (by omega)) | (exact ARF.a (by assumption) (by decide) (by decide)) | (exact ARF.k (by assumption)) | omega | (have := cmp_gt.mp (by assumption : 0 < cmpL _ 0); omega))
    | (simp only [r_0_1 hr, r_0_4 hr, r_0_5 hr, r_0_8 hr, r_34_12 hr])
    | (refine ite_c (fun _ => ?_) (fun _ => ?_))
    | (intro _ e1; subst e1)
    | (with_reducible refine t_1 (by assumption) (by assumption) (fun _ _ _ => ?_))
    | (with_reducible refine v_5 (S := S) (V := V) hr (by assumption) (by assumption) (by assumption) (by first | assumption | exact EB.t (by assumption) | (refine EB.t (a := g) ?_; (repeat (with_reducible first | assumption | exact EB.rf hT | (refine EB.up hr ?_ (by assumption)) | (refine EB.cp hr ?_ (by assumption)) | (refine EB.tr ?_ (by assumption)) | (refine EB.e4 hr ?_ (by assumption)))))) (fun _ _ _ => ?_))
    | (with_reducible refine w_123 (fun _ _ => ?_) (fun _ => ?_))
    | (with_reducible refine s_128 hr ?_ ?_)
    | (with_reducible refine v_129 (S := S) (V := V) hr (by first | assumption | exact EB.t (by assumption) | (refine EB.t (a := g) ?_; (repeat (with_reducible first | assumption | exact EB.rf hT | (refine EB.up hr ?_ (by assumption)) | (refine EB.cp hr ?_ (by assumption)) | (refine EB.tr ?_ (by assumption)) | (refine EB.e4 hr ?_ (by assumption)))))) (fun _ _ _ _ _ _ _ _ _ _ _ _ => ?_) ?_)
    | (exfalso; omega)
    | (exact absurd trivial (by assumption))
    | ((with_reducible refine outer ?_ ?_ _ ?_ ?_ _ _ _ _ _ _ ?_) <;> (first | ((repeat (with_reducible first | assumption | exact EB.rf hT | (refine EB.up hr ?_ (by assumption)) | (refine EB.cp hr ?_ (by assumption)) | (refine EB.tr ?_ (by assumption)) | (refine EB.e4 hr ?_ (by assumption)))); done) | omega | decide | (rw [wr_id ⟨by omega, by omega⟩]; omega)))
    | ((with_reducible refine h _ _ ?_) <;> (first | ((repeat (with_reducible first | assumption | exact EB.rf hT | (refine EB.up hr ?_ (by assumption)) | (refine EB.cp hr ?_ (by assumption)) | (refine EB.tr ?_ (by assumption)) | (refine EB.e4 hr ?_ (by assumption)))); done) | omega | decide | (rw [wr_id ⟨by omega, by omega⟩]; omega)))
theorem v_116 (hr : RI r) (hT : T4 r S V g) (h : ∀ v g', EB r S V g g' → Q v g' r) : Ce sc (d + 8) 116 [(2, 0), (0, l1)] g r Q := by
  have k0 : okr 218 0 8 := okd (by decide +kernel)
  have hM := mrv_of (S := S) hr
  have b23 := (br_23 hr).fz
  have k23 := b23.1
  have q23 := b23.2.1
  have b34 := brf4_34 hr
  have k34 := b34.1
  have q34 := b34.2.1
  have ar42 : ARF F4 42 11 6 := AR.f (ar_of (by decide +kernel) (by decide +kernel) (by decide +kernel)) (sq4 _ (by unfold SC; omega) (by unfold BO; omega))
  have nr42 := ar42.2.2
  have p46 := (pl_46 hr).fz
  have outer : 0 ≤ l1 → l1 < 6 → ∀ l2 : Int, -2147483648 ≤ l2 → 0 ≤ l2 → ∀ g1, EB r S V g g1 → WQ sc (d + 7) 116 Q 30 [(2, 0), (0, l1), (0, l2)] [] g1 r := by
    intro m0 m6
    refine upS 1 24 (by decide) (by decide) fun l2 _ ih h0 g1 e0 => ?_
    refine b_116_30 ?_
    repeat' first
      | (with_reducible refine ite_01 ?_)
      | (with_reducible refine ite_00 ?_)
      | (with_reducible refine And.intro ?_ ?_; · first | assumption | decide | (exact ARF.i (by assumption) (by omega) (by omega)) | (exact ARF.a (by assumption) (by decide) (by decide)) | (exact ARF.k (by assumption)) | omega | (have := cmp_gt.mp (by assumption : 0 < cmpL _ 0); omega))
      | (simp only [r_0_1 hr, r_0_4 hr, r_0_5 hr, r_0_8 hr, r_34_11 hr])
      | (refine ite_c (fun _ => ?_) (fun _ => ?_))
      | (intro _ e1; subst e1)
      | (with_reducible refine t_1 (by assumption) (by assumption) (fun _ _ _ => ?_))
      | (with_reducible refine v_5 (S := S) (V := V) hr (by assumption) (by assumption) (by assumption) (by first | assumption | exact EB.t (by assumption) | (refine EB.t (a := g) ?_; (repeat (with_reducible first | assumption | exact EB.rf hT | (refine EB.up hr ?_ (by assumption)) | (refine EB.cp hr ?_ (by assumption)) | (refine EB.tr ?_ (by assumption)) | (refine EB.e4 hr ?_ (by assumption)))))) (fun _ _ _ => ?_))
      | (with_reducible refine s_128 hr ?_ ?_)
      | (with_reducible refine v_129 (S := S) (V := V) hr (by first | assumption | exact EB.t (by assumption) | (refine EB.t (a := g) ?_; (repeat (with_reducible first | assumption | exact EB.rf hT | (refine EB.up hr ?_ (by assumption)) | (refine EB.cp hr ?_ (by assumption)) | (refine EB.tr ?_ (by assumption)) | (refine EB.e4 hr ?_ (by assumption)))))) (fun _ _ _ _ _ _ _ _ _ _ _ _ => ?_) ?_)
      | (exfalso; omega)
      | (exact absurd trivial (by assumption))
      | ((with_reducible refine ih ?_ ?_ _ ?_) <;> (first | ((repeat (with_reducible first | assumption | exact EB.rf hT | (refine EB.up hr ?_ (by assumption)) | (refine EB.cp hr ?_ (by assumption)) | (refine EB.tr ?_ (by assumption)) | (refine EB.e4 hr ?_ (by assumption)))); done) | omega | decide | (rw [wr_id ⟨by omega, by omega⟩]; omega)))
      | ((with_reducible refine h _ _ ?_) <;> (first | ((repeat (with_reducible first | assumption | exact EB.rf hT | (refine EB.up hr ?_ (by assumption)) | (refine EB.cp hr ?_ (by assumption)) | (refine EB.tr ?_ (by assumption)) | (refine EB.e4 hr ?_ (by assumption)))); done) | omega | decide | (rw [wr_id ⟨by omega, by omega⟩]; omega)))
  refine c_116 ?_
  repeat' first
    | (with_reducible refine ite_01 ?_)
    | (with_reducible refine ite_00 ?_)
    | (with_reducible refine And.intro ?_ ?_; · first | assumption | decide | (exact ARF.i (by assumption) (by omega) (by omega)) | (exact ARF.a (by assumption) (by decide) (by decide)) | (exact ARF.k (by assumption)) | omega | (have := cmp_gt.mp (by assumption : 0 < cmpL _ 0); omega))
    | (simp only [r_0_1 hr, r_0_4 hr, r_0_5 hr, r_0_8 hr, r_34_11 hr])
    | (refine ite_c (fun _ => ?_) (fun _ => ?_))
    | (intro _ e1; subst e1)
    | (with_reducible refine t_1 (by assumption) (by assumption) (fun _ _ _ => ?_))
    | (with_reducible refine v_5 (S := S) (V := V) hr (by assumption) (by assumption) (by assumption) (by first | assumption | exact EB.t (by assumption) | (refine EB.t (a := g) ?_; (repeat (with_reducible first | assumption | exact EB.rf hT | (refine EB.up hr ?_ (by assumption)) | (refine EB.cp hr ?_ (by assumption)) | (refine EB.tr ?_ (by assumption)) | (refine EB.e4 hr ?_ (by assumption)))))) (fun _ _ _ => ?_))
    | (with_reducible refine s_128 hr ?_ ?_)
    | (with_reducible refine v_129 (S := S) (V := V) hr (by first | assumption | exact EB.t (by assumption) | (refine EB.t (a := g) ?_; (repeat (with_reducible first | assumption | exact EB.rf hT | (refine EB.up hr ?_ (by assumption)) | (refine EB.cp hr ?_ (by assumption)) | (refine EB.tr ?_ (by assumption)) | (refine EB.e4 hr ?_ (by assumption)))))) (fun _ _ _ _ _ _ _ _ _ _ _ _ => ?_) ?_)
    | (exfalso; omega)
    | (exact absurd trivial (by assumption))
    | ((with_reducible refine outer ?_ ?_ _ ?_ ?_ _ ?_) <;> (first | ((repeat (with_reducible first | assumption | exact EB.rf hT | (refine EB.up hr ?_ (by assumption)) | (refine EB.cp hr ?_ (by assumption)) | (refine EB.tr ?_ (by assumption)) | (refine EB.e4 hr ?_ (by assumption)))); done) | omega | decide | (rw [wr_id ⟨by omega, by omega⟩]; omega)))
    | ((with_reducible refine h _ _ ?_) <;> (first | ((repeat (with_reducible first | assumption | exact EB.rf hT | (refine EB.up hr ?_ (by assumption)) | (refine EB.cp hr ?_ (by assumption)) | (refine EB.tr ?_ (by assumption)) | (refine EB.e4 hr ?_ (by assumption)))); done) | omega | decide | (rw [wr_id ⟨by omega, by omega⟩]; omega)))
theorem v_118 (hr : RI r) (hT : T4 r S V g) (hc : CI g) (h : ∀ v g', EB r S V g g' → Q v g' r) : Ce sc (d + 8) 118 [(2, 0), (0, l1), (0, l2)] g r Q := by
  have k0 : okr 218 0 8 := okd (by decide +kernel)
  have hM := mrv_of (S := S) hr
  have b23 := (br_23 hr).fz
  have k23 := b23.1
  have q23 := b23.2.1
  have ar28 : ARF FZ 28 12 6 := AR.fz (ar_of (by decide +kernel) (by decide +kernel) (by decide +kernel))
  have nr28 := ar28.2.2
  have b34 := brf4_34 hr
  have k34 := b34.1
  have q34 := b34.2.1
  have ar39 : ARF F4 39 12 6 := AR.f (ar_of (by decide +kernel) (by decide +kernel) (by decide +kernel)) (sq4 _ (by unfold SC; omega) (by unfold BO; omega))
  have nr39 := ar39.2.2
  have p48z := (pl_48 hr).fz
  have p48 := plf4_48 hr
  have k48 := p48.1
  have ar49 : ARF F4 49 11 6 := AR.f (ar_of (by decide +kernel) (by decide +kernel) (by decide +kernel)) (sq4 _ (by unfold SC; omega) (by unfold BO; omega))
  have nr49 := ar49.2.2
  have k62 : okr 218 62 3 := okd (by decide +kernel)
  have pr62 := pr_62 hr
  have outer : 0 ≤ l1 → l1 < 6 → ∀ l6 : Int, -2147483648 ≤ l6 → 0 ≤ l6 → ∀ (l3 l5 : Int) g1, EB r S V g g1 → WQ sc (d + 7) 118 Q 67 [(2, 0), (0, l1), (9, 0), (1, l3), (8, 0), (0, l5), (0, l6), (9, 0), (9, 0), (9, 0)] [] g1 r := by
    intro m0 m6
    refine upS 1 25 (by decide) (by decide) fun l6 _ ih h6 l3 l5 g1 e0 => ?_
    have inner : l6 < 25 → ∀ l9 : Int, -2147483648 ≤ l9 → 0 ≤ l9 → ∀ (l3 l5 l7 : Int) g2, EB r S V g g2 → WQ sc (d + 7) 118 Q 113 [(2, 0), (0, l1), (9, 0), (1, l3), (8, 0), (0, l5), (0, l6), (1, l7), (8, 0), (0, l9)] [] g2 r := by
      intro hlt
      refine upS 1 8 (by decide) (by decide) fun l9 _ ih2 h9 l3 l5 l7 g2 e2 => ?_
      obtain ⟨⟨c1, c2⟩, ⟨c3, c4⟩, ⟨c5, c6⟩, ⟨c7, c8⟩, ⟨c9, c10⟩, c11, c12⟩ := hc.eqf cq3 e2.1
      refine b_118_113 ?_
      repeat' first
        | (with_reducible refine ite_01 ?_)
        | (with_reducible refine ite_00 ?_)
        | (with_reducible refine And.intro ?_ ?_; · first | assumption | decide | (exact ARF.i (by assumption) (by omega) (by omega)) | (exact ARF.a (by assumption) (by decide) (by decide)) | (exact ARF.k (by assumption)) | omega | (have := cmp_gt.mp (by assumption : 0 < cmpL _ 0); omega))
        | (simp only [r_0_1 hr, r_0_4 hr, r_0_5 hr, r_0_9 hr, r_0_16 hr, r_23_8 hr, r_34_8 hr, r_48_0 hr])
        | (refine ite_c (fun _ => ?_) (fun _ => ?_))
        | (intro _ e1; subst e1)
        | (with_reducible refine t_1 (by assumption) (by assumption) (fun _ _ _ => ?_))
        | (with_reducible refine v_5 (S := S) (V := V) hr (by assumption) (by assumption) (by assumption) (by first | assumption | exact EB.t (by assumption) | (refine EB.t (a := g) ?_; (repeat (with_reducible first | assumption | exact EB.rf hT | (refine EB.up hr ?_ (by assumption)) | (refine EB.cp hr ?_ (by assumption)) | (refine EB.tr ?_ (by assumption)) | (refine EB.e4 hr ?_ (by assumption)))))) (fun _ _ _ => ?_))
        | (with_reducible refine s_25 (by assumption) (fun _ => ?_))
        | (with_reducible refine s_26 (by assumption) (fun _ => ?_))
        | (with_reducible refine t_28 (by assumption) (fun _ _ _ => ?_))
        | (with_reducible refine w_123 (fun _ _ => ?_) (fun _ => ?_))
        | (with_reducible refine s_128 hr ?_ ?_)
        | (with_reducible refine v_129 (S := S) (V := V) hr (by first | assumption | exact EB.t (by assumption) | (refine EB.t (a := g) ?_; (repeat (with_reducible first | assumption | exact EB.rf hT | (refine EB.up hr ?_ (by assumption)) | (refine EB.cp hr ?_ (by assumption)) | (refine EB.tr ?_ (by assumption)) | (refine EB.e4 hr ?_ (by assumption)))))) (fun _ _ _ _ _ _ _ _ _ _ _ _ => ?_) ?_)
        | (exfalso; omega)
        | (exact absurd trivial (by assumption))
        | ((with_reducible refine ih2 ?_ ?_ _ _ _ _ ?_) <;> (first | ((repeat (with_reducible first | assumption | exact EB.rf hT | (refine EB.up hr ?_ (by assumption)) | (refine EB.cp hr ?_ (by assumption)) | (refine EB.tr ?_ (by assumption)) | (refine EB.e4 hr ?_ (by assumption)))); done) | omega | decide | (rw [wr_id ⟨by omega, by omega⟩]; omega)))
        | ((with_reducible refine ih hlt ?_ _ _ _ ?_) <;> (first | ((repeat (with_reducible first | assumption | exact EB.rf hT | (refine EB.up hr ?_ (by assumption)) | (refine EB.cp hr ?_ (by assumption)) | (refine EB.tr ?_ (by assumption)) | (refine EB.e4 hr ?_ (by assumption)))); done) | omega | decide | (rw [wr_id ⟨by omega, by omega⟩]; omega)))
        | ((with_reducible refine h _ _ ?_) <;> (first | ((repeat (with_reducible first | assumption | exact EB.rf hT | (refine EB.up hr ?_ (by assumption)) | (refine EB.cp hr ?_ (by assumption)) | (refine EB.tr ?_ (by assumption)) | (refine EB.e4 hr ?_ (by assumption)))); done) | omega | decide | (rw [wr_id ⟨by omega, by omega⟩]; omega)))
    refine b_118_67 ?_
    repeat' first
      | (with_reducible refine ite_01 ?_)
      | (with_reducible refine ite_00 ?_)
      | (with_reducible refine And.intro ?_ ?_; · first | assumption | decide | (exact ARF.i (by assumption) (by omega) (by omega)) | (exact ARF.a (by assumption) (by decide) (by decide)) | (exact ARF.k (by assumption)) | omega | (have := cmp_gt.mp (by assumption : 0 < cmpL _ 0); omega))
      | (simp only [r_0_1 hr, r_0_4 hr, r_0_5 hr, r_0_9 hr, r_0_16 hr, r_23_8 hr, r_34_8 hr, r_48_0 hr])
      | (refine ite_c (fun _ => ?_) (fun _ => ?_))
      | (intro _ e1; subst e1)
      | (with_reducible refine t_1 (by assumption) (by assumption) (fun _ _ _ => ?_))
      | (with_reducible refine v_5 (S := S) (V := V) hr (by assumption) (by assumption) (by assumption) (by first | assumption | exact EB.t (by assumption) | (refine EB.t (a := g) ?_; (repeat (with_reducible first | assumption | exact EB.rf hT | (refine EB.up hr ?_ (by assumption)) | (refine EB.cp hr ?_ (by assumption)) | (refine EB.tr ?_ (by assumption)) | (refine EB.e4 hr ?_ (by assumption)))))) (fun _ _ _ => ?_))
      | (with_reducible refine s_25 (by assumption) (fun _ => ?_))
      | (with_reducible refine s_26 (by assumption) (fun _ => ?_))
      | (with_reducible refine t_28 (by assumption) (fun _ _ _ => ?_))
      | (with_reducible refine w_123 (fun _ _ => ?_) (fun _ => ?_))
      | (with_reducible refine s_128 hr ?_ ?_)
      | (with_reducible refine v_129 (S := S) (V := V) hr (by first | assumption | exact EB.t (by assumption) | (refine EB.t (a := g) ?_; (repeat (with_reducible first | assumption | exact EB.rf hT | (refine EB.up hr ?_ (by assumption)) | (refine EB.cp hr ?_ (by assumption)) | (refine EB.tr ?_ (by assumption)) | (refine EB.e4 hr ?_ (by assumption)))))) (fun _ _ _ _ _ _ _ _ _ _ _ _ => ?_) ?_)
      | (exfalso; omega)
      | (exact absurd trivial (by assumption))
      | ((with_reducible refine inner ?_ _ ?_ ?_ _ _ _ _ ?_) <;> (first | ((repeat (with_reducible first | assumption | exact EB.rf hT | (refine EB.up hr ?_ (by assumption)) | (refine EB.cp hr ?_ (by assumption)) | (refine EB.tr ?_ (by assumption)) | (refine EB.e4 hr ?_ (by assumption)))); done) | omega | decide | (rw [wr_id ⟨by omega, by omega⟩]; omega)))
      | ((with_reducible refine h _ _ ?_) <;> (first | ((repeat (with_reducible first | assumption | exact EB.rf hT | (refine EB.up hr ?_ (by assumption)) | (refine EB.cp hr ?_ (by assumption)) | (refine EB.tr ?_ (by assumption)) | (refine EB.e4 hr ?_ (by assumption)))); done) | omega | decide | (rw [wr_id ⟨by omega, by omega⟩]; omega)))
  refine c_118 ?_
  repeat' first
    | (with_reducible refine ite_01 ?_)
    | (with_reducible refine ite_00 ?_)
    | (with_reducible refine And.intro ?_ ?_; · first | assumption | decide | (exact ARF.i (by assumption) (by omega) (by omega)) | (exact ARF.a (by assumption) (by decide) (by decide)) | (exact ARF.k (by assumption)) | omega | (have := cmp_gt.mp (by assumption : 0 < cmpL _ 0); omega))
    | (simp only [r_0_1 hr, r_0_4 hr, r_0_5 hr, r_0_9 hr, r_0_16 hr, r_23_8 hr, r_34_8 hr, r_48_0 hr])
    | (refine ite_c (fun _ => ?_) (fun _ => ?_))
    | (intro _ e1; subst e1)
    | (with_reducible refine t_1 (by assumption) (by assumption) (fun _ _ _ => ?_))
    | (with_reducible refine v_5 (S := S) (V := V) hr (by assumption) (by assumption) (by assumption) (by first | assumption | exact EB.t (by assumption) | (refine EB.t (a := g) ?_; (repeat (with_reducible first | assumption | exact EB.rf hT | (refine EB.up hr ?_ (by assumption)) | (refine EB.cp hr ?_ (by assumption)) | (refine EB.tr ?_ (by assumption)) | (refine EB.e4 hr ?_ (by assumption)))))) (fun _ _ _ => ?_))
    | (with_reducible refine s_25 (by assumption) (fun _ => ?_))
    | (with_reducible refine s_26 (by assumption) (fun _ => ?_))
    | (with_reducible refine t_28 (by assumption) (fun _ _ _ => ?_))
    | (with_reducible refine w_123 (fun _ _ => ?_) (fun _ => ?_))
    | (with_reducible refine s_128 hr ?_ ?_)
    | (with_reducible refine v_129 (S := S) (V := V) hr (by first | assumption | exact EB.t (by assumption) | (refine EB.t (a := g) ?_; (repeat (with_reducible first | assumption | exact EB.rf hT | (refine EB.up hr ?_ (by assumption)) | (refine EB.cp hr ?_ (by assumption)) | (refine EB.tr ?_ (by assumption)) | (refine EB.e4 hr ?_ (by assumption)))))) (fun _ _ _ _ _ _ _ _ _ _ _ _ => ?_) ?_)
    | (exfalso; omega)
    | (exact absurd trivial (by assumption))
    | ((with_reducible refine outer ?_ ?_ _ ?_ ?_ _ _ _ ?_) <;> (first | ((repeat (with_reducible first | assumption | exact EB.rf hT | (refine EB.up hr ?_ (by assumption)) | (refine EB.cp hr ?_ (by assumption)) | (refine EB.tr ?_ (by assumption)) | (refine EB.e4 hr ?_ (by assumption)))); done) | omega | decide | (rw [wr_id ⟨by omega, by omega⟩]; omega)))
    | ((with_reducible refine h _ _ ?_) <;> (first | ((repeat (with_reducible first | assumption | exact EB.rf hT | (refine EB.up hr ?_ (by assumption)) | (refine EB.cp hr ?_ (by assumption)) | (refine EB.tr ?_ (by assumption)) | (refine EB.e4 hr ?_ (by assumption)))); done) | omega | decide | (rw [wr_id ⟨by omega, by omega⟩]; omega)))
end EBT
