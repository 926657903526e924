/-! the same of the calls with the scratch wheel; printed by a program (wip/gen/gen_eb2.py) -/
theorem whf4_18 {r : GH} (hr : RI r) : WHF F4 r 18 := by
  have w := wh_18 hr
  have b := w.2.2
  rw [r_18_9 hr] at b
  refine ⟨w.1, trivial, ?_⟩
  rw [r_18_9 hr]
  refine ⟨b.1, sq4 19 (by unfold SC; omega) (by unfold BO; omega), b.2.2.1.f ?_, b.2.2.2.1.f ?_, b.2.2.2.2.f ?_⟩
  · rw [r_19_5 hr]; exact sq4 _ (by unfold SC; omega) (by unfold BO; omega)
  · rw [r_19_6 hr]; exact sq4 _ (by unfold SC; omega) (by unfold BO; omega)
  · rw [r_19_12 hr]; exact sq4 _ (by unfold SC; omega) (by unfold BO; omega)
theorem EB.ci {r : GH} {S : Int → Prop} {V : Int → Int → Int} {a b : GH} (hc : CI a) (h : EB r S V a b) : CI b := hc.eqf cq3 h.1
section EBU
variable {S : Int → Prop} {V : Int → Int → Int} {sc : SCR} {d : Nat} {Q : QJ} {g r : GH} {l0 l1 l2 l3 l4 l5 l6 l7 l8 l9 : Int}
theorem v_79 (hr : RI r) (hT : T4 r S V g) (h : ∀ v g', EB r S V g g' → Q v g' r) : Ce sc (d + 7) 79 [(2, 0), (0, l1), (0, l2), (0, l3), (0, l4)] g r Q := by
  have k0 : okr 218 0 8 := okd (by decide +kernel)
  have x18 : NFF F4 18 := sq4 18 (by unfold SC; omega) (by unfold BO; omega)
  have h18 := whf4_18 hr
  have k18 := h18.1
  refine c_79 ?_
  repeat' first
    | (with_reducible refine ite_01 ?_)
    | (with_reducible refine ite_00 ?_)
    | (with_reducible refine And.intro ?_ ?_; · first | assumption | decide | (exact ARF.i (by assumption) (by omega) (by omega)) | (exact ARF.a (by assumption) (by decide) (by decide)) | (exact ARF.k (by assumption)) | omega | (have := cmp_gt.mp (by assumption : 0 < cmpL _ 0); omega))
    | (simp only [r_0_3 hr])
    | (refine ite_c (fun _ => ?_) (fun _ => ?_))
    | (intro _ e1; subst e1)
    | (with_reducible refine t_57 (by assumption) (by assumption) (by assumption) (fun _ _ _ => ?_))
    | (with_reducible refine t_59 (F := F4) (by assumption) (fun _ _ _ => ?_))
    | (with_reducible refine v_59 (S := S) (V := V) hr (by assumption) (by first | assumption | exact EB.t (by assumption) | (refine EB.t (a := g) ?_; (repeat (with_reducible first | assumption | exact EB.rf hT | (refine EB.up hr ?_ (by assumption)) | (refine EB.cp hr ?_ (by assumption)) | (refine EB.tr ?_ (by assumption)) | (refine EB.e4 hr ?_ (by assumption)))))) (fun _ _ _ => ?_))
    | (with_reducible refine w_123 (fun _ _ => ?_) (fun _ => ?_))
    | (with_reducible refine w_124 (fun _ _ => ?_) (fun _ => ?_))
    | (with_reducible refine v_130 (S := S) (V := V) hr (by first | assumption | exact EB.t (by assumption) | (refine EB.t (a := g) ?_; (repeat (with_reducible first | assumption | exact EB.rf hT | (refine EB.up hr ?_ (by assumption)) | (refine EB.cp hr ?_ (by assumption)) | (refine EB.tr ?_ (by assumption)) | (refine EB.e4 hr ?_ (by assumption)))))) (fun _ _ _ _ _ _ _ _ => ?_) ?_)
    | (with_reducible refine w_250 (fun _ => ?_) (fun _ => ?_))
    | (exfalso; omega)
    | (exact absurd trivial (by assumption))
    | ((with_reducible refine h _ _ ?_) <;> (first | ((repeat (with_reducible first | assumption | exact EB.rf hT | (refine EB.up hr ?_ (by assumption)) | (refine EB.cp hr ?_ (by assumption)) | (refine EB.tr ?_ (by assumption)) | (refine EB.e4 hr ?_ (by assumption)))); done) | omega | decide | (rw [wr_id ⟨by omega, by omega⟩]; omega)))
theorem v_112 (hr : RI r) (hT : T4 r S V g) (hc : CI g) (h : ∀ v g', EB r S V g g' → Q v g' r) : Ce sc (d + 7) 112 [(2, 0), (0, l1), (0, l2), (0, l3), (0, l4)] g r Q := by
  have k0 : okr 218 0 8 := okd (by decide +kernel)
  have x18 : NFF F4 18 := sq4 18 (by unfold SC; omega) (by unfold BO; omega)
  have h18 := whf4_18 hr
  have k18 := h18.1
  have k58 : okr 218 58 3 := okd (by decide +kernel)
  have pr58 := pr_58 hr
  have ar61 : ARF F4 61 12 9 := AR.f (ar_of (by decide +kernel) (by decide +kernel) (by decide +kernel)) (sq4 _ (by unfold SC; omega) (by unfold BO; omega))
  have mr61 := ar61.2.1
  have nr61 := ar61.2.2
  have loopb : ∀ l9 : Int, -2147483648 ≤ l9 → 0 ≤ l9 → ∀ (l3 l4 l6 l7 : Int) g1, EB r S V g g1 → WQ sc (d + 6) 112 Q 122 [(2, 0), (9, 0), (9, 0), (0, l3), (0, l4), (9, 0), (0, l6), (1, l7), (8, 0), (0, l9), (9, 0), (9, 0)] [] g1 r := by
    refine upS 1 512 (by decide) (by decide) fun l9 _ ih h0 l3 l4 l6 l7 g1 e0 => ?_
    obtain ⟨⟨c1, c2⟩, ⟨c3, c4⟩, ⟨c5, c6⟩, ⟨c7, c8⟩, ⟨c9, c10⟩, c11, c12⟩ := hc.eqf cq3 e0.1
    have c13 := shl9 c9 c10
    refine b_112_122 ?_
    repeat' first
      | (with_reducible refine ite_01 ?_)
      | (with_reducible refine ite_00 ?_)
      | (with_reducible refine And.intro ?_ ?_; · first | assumption | decide | (exact ARF.i (by assumption) (by omega) (by omega)) | (exact ARF.a (by assumption) (by decide) (by decide)) | (exact ARF.k (by assumption)) | omega | (have := cmp_gt.mp (by assumption : 0 < cmpL _ 0); omega))
      | (simp only [r_0_3 hr, r_0_14 hr, r_0_15 hr])
      | (refine ite_c (fun _ => ?_) (fun _ => ?_))
      | (intro _ e1; subst e1)
      | (with_reducible refine s_25 (by assumption) (fun _ => ?_))
      | (with_reducible refine t_56 (by assumption) (by assumption) (by assumption) (fun _ _ _ => ?_))
      | (with_reducible refine t_63 (F := F4) (by assumption) (fun _ _ _ => ?_))
      | (with_reducible refine s_113 hr (fun _ => ?_))
      | (with_reducible refine s_114 hr (EB.ci hc (by (repeat (with_reducible first | assumption | exact EB.rf hT | (refine EB.up hr ?_ (by assumption)) | (refine EB.cp hr ?_ (by assumption)) | (refine EB.tr ?_ (by assumption)) | (refine EB.e4 hr ?_ (by assumption)))))) (fun _ => ?_))
      | (with_reducible refine w_123 (fun _ _ => ?_) (fun _ => ?_))
      | (with_reducible refine w_124 (fun _ _ => ?_) (fun _ => ?_))
      | (with_reducible refine v_130 (S := S) (V := V) hr (by first | assumption | exact EB.t (by assumption) | (refine EB.t (a := g) ?_; (repeat (with_reducible first | assumption | exact EB.rf hT | (refine EB.up hr ?_ (by assumption)) | (refine EB.cp hr ?_ (by assumption)) | (refine EB.tr ?_ (by assumption)) | (refine EB.e4 hr ?_ (by assumption)))))) (fun _ _ _ _ _ _ _ _ => ?_) ?_)
      | (exfalso; omega)
      | (exact absurd trivial (by assumption))
      | ((with_reducible refine ih ?_ ?_ _ _ _ _ _ ?_) <;> (first | ((repeat (with_reducible first | assumption | exact EB.rf hT | (refine EB.up hr ?_ (by assumption)) | (refine EB.cp hr ?_ (by assumption)) | (refine EB.tr ?_ (by assumption)) | (refine EB.e4 hr ?_ (by assumption)))); done) | omega | decide | (rw [wr_id ⟨by omega, by omega⟩]; omega)))
      | ((with_reducible refine h _ _ ?_) <;> (first | ((repeat (with_reducible first | assumption | exact EB.rf hT | (refine EB.up hr ?_ (by assumption)) | (refine EB.cp hr ?_ (by assumption)) | (refine EB.tr ?_ (by assumption)) | (refine EB.e4 hr ?_ (by assumption)))); done) | omega | decide | (rw [wr_id ⟨by omega, by omega⟩]; omega)))
  have loopa : ∀ l6 : Int, -2147483648 ≤ l6 → 0 ≤ l6 → ∀ (l2 l3 l4 l5 : Int) g1, okr 218 l5 7 → EB r S V g g1 → WQ sc (d + 6) 112 Q 47 [(2, 0), (9, 0), (0, l2), (0, l3), (0, l4), (2, l5), (0, l6), (9, 0), (9, 0), (9, 0), (9, 0), (9, 0)] [] g1 r := by
    refine upS 1 9 (by decide) (by decide) fun l6 _ ih h0 l2 l3 l4 l5 g1 k5 e0 => ?_
    obtain ⟨⟨c1, c2⟩, ⟨c3, c4⟩, ⟨c5, c6⟩, ⟨c7, c8⟩, ⟨c9, c10⟩, c11, c12⟩ := hc.eqf cq3 e0.1
    refine b_112_47 ?_
    repeat' first
      | (with_reducible refine ite_01 ?_)
      | (with_reducible refine ite_00 ?_)
      | (with_reducible refine And.intro ?_ ?_; · first | assumption | decide | (exact ARF.i (by assumption) (by omega) (by omega)) | (exact ARF.a (by assumption) (by decide) (by decide)) | (exact ARF.k (by assumption)) | omega | (have := cmp_gt.mp (by assumption : 0 < cmpL _ 0); omega))
      | (simp only [r_0_3 hr, r_0_14 hr, r_0_15 hr])
      | (refine ite_c (fun _ => ?_) (fun _ => ?_))
      | (intro _ e1; subst e1)
      | (with_reducible refine s_25 (by assumption) (fun _ => ?_))
      | (with_reducible refine t_56 (by assumption) (by assumption) (by assumption) (fun _ _ _ => ?_))
      | (with_reducible refine t_63 (F := F4) (by assumption) (fun _ _ _ => ?_))
      | (with_reducible refine s_113 hr (fun _ => ?_))
      | (with_reducible refine s_114 hr (EB.ci hc (by (repeat (with_reducible first | assumption | exact EB.rf hT | (refine EB.up hr ?_ (by assumption)) | (refine EB.cp hr ?_ (by assumption)) | (refine EB.tr ?_ (by assumption)) | (refine EB.e4 hr ?_ (by assumption)))))) (fun _ => ?_))
      | (with_reducible refine w_123 (fun _ _ => ?_) (fun _ => ?_))
      | (with_reducible refine w_124 (fun _ _ => ?_) (fun _ => ?_))
      | (with_reducible refine v_130 (S := S) (V := V) hr (by first | assumption | exact EB.t (by assumption) | (refine EB.t (a := g) ?_; (repeat (with_reducible first | assumption | exact EB.rf hT | (refine EB.up hr ?_ (by assumption)) | (refine EB.cp hr ?_ (by assumption)) | (refine EB.tr ?_ (by assumption)) | (refine EB.e4 hr ?_ (by assumption)))))) (fun _ _ _ _ _ _ _ _ => ?_) ?_)
      | (exfalso; omega)
      | (exact absurd trivial (by assumption))
      | ((with_reducible refine ih ?_ ?_ _ _ _ _ _ k5 ?_) <;> (first | ((repeat (with_reducible first | assumption | exact EB.rf hT | (refine EB.up hr ?_ (by assumption)) | (refine EB.cp hr ?_ (by assumption)) | (refine EB.tr ?_ (by assumption)) | (refine EB.e4 hr ?_ (by assumption)))); done) | omega | decide | (rw [wr_id ⟨by omega, by omega⟩]; omega)))
      | ((with_reducible refine loopb _ ?_ ?_ _ _ _ _ _ ?_) <;> (first | ((repeat (with_reducible first | assumption | exact EB.rf hT | (refine EB.up hr ?_ (by assumption)) | (refine EB.cp hr ?_ (by assumption)) | (refine EB.tr ?_ (by assumption)) | (refine EB.e4 hr ?_ (by assumption)))); done) | omega | decide | (rw [wr_id ⟨by omega, by omega⟩]; omega)))
      | ((with_reducible refine h _ _ ?_) <;> (first | ((repeat (with_reducible first | assumption | exact EB.rf hT | (refine EB.up hr ?_ (by assumption)) | (refine EB.cp hr ?_ (by assumption)) | (refine EB.tr ?_ (by assumption)) | (refine EB.e4 hr ?_ (by assumption)))); done) | omega | decide | (rw [wr_id ⟨by omega, by omega⟩]; omega)))
  refine c_112 ?_
  repeat' first
    | (with_reducible refine ite_01 ?_)
    | (with_reducible refine ite_00 ?_)
    | (with_reducible refine And.intro ?_ ?_; · first | assumption | decide | (exact ARF.i (by assumption) (by omega) (by omega)) | (exact ARF.a (by assumption) (by decide) (by decide)) | (exact ARF.k (by assumption)) | omega | (have := cmp_gt.mp (by assumption : 0 < cmpL _ 0); omega))
    | (simp only [r_0_3 hr, r_0_14 hr, r_0_15 hr])
    | (refine ite_c (fun _ => ?_) (fun _ => ?_))
    | (intro _ e1; subst e1)
    | (with_reducible refine s_25 (by assumption) (fun _ => ?_))
    | (with_reducible refine t_56 (by assumption) (by assumption) (by assumption) (fun _ _ _ => ?_))
    | (with_reducible refine t_63 (F := F4) (by assumption) (fun _ _ _ => ?_))
    | (with_reducible refine s_113 hr (fun _ => ?_))
    | (with_reducible refine s_114 hr (EB.ci hc (by (repeat (with_reducible first | assumption | exact EB.rf hT | (refine EB.up hr ?_ (by assumption)) | (refine EB.cp hr ?_ (by assumption)) | (refine EB.tr ?_ (by assumption)) | (refine EB.e4 hr ?_ (by assumption)))))) (fun _ => ?_))
    | (with_reducible refine w_123 (fun _ _ => ?_) (fun _ => ?_))
    | (with_reducible refine w_124 (fun _ _ => ?_) (fun _ => ?_))
    | (with_reducible refine v_130 (S := S) (V := V) hr (by first | assumption | exact EB.t (by assumption) | (refine EB.t (a := g) ?_; (repeat (with_reducible first | assumption | exact EB.rf hT | (refine EB.up hr ?_ (by assumption)) | (refine EB.cp hr ?_ (by assumption)) | (refine EB.tr ?_ (by assumption)) | (refine EB.e4 hr ?_ (by assumption)))))) (fun _ _ _ _ _ _ _ _ => ?_) ?_)
    | (exfalso; omega)
    | (exact absurd trivial (by assumption))
    | ((with_reducible refine loopa _ ?_ ?_ _ _ _ _ _ ?_ ?_) <;> (first | ((repeat (with_reducible first | assumption | exact EB.rf hT | (refine EB.up hr ?_ (by assumption)) | (refine EB.cp hr ?_ (by assumption)) | (refine EB.tr ?_ (by assumption)) | (refine EB.e4 hr ?_ (by assumption)))); done) | omega | decide | (rw [wr_id ⟨by omega, by omega⟩]; omega)))
    | ((with_reducible refine h _ _ ?_) <;> (first | ((repeat (with_reducible first | assumption | exact EB.rf hT | (refine EB.up hr ?_ (by assumption)) | (refine EB.cp hr ?_ (by assumption)) | (refine EB.tr ?_ (by assumption)) | (refine EB.e4 hr ?_ (by assumption)))); done) | omega | decide | (rw [wr_id ⟨by omega, by omega⟩]; omega)))
theorem v_78 (hr : RI r) (hT : T4 r S V g) (k1 : okr 218 l1 7) (hl3 : l3 ≤ 40) (hl2 : -2147483648 ≤ l2) (h : ∀ v g', EB r S V g g' → Q v g' r) : Ce sc (d + 7) 78 [(2, 0), (2, l1), (0, l2), (0, l3), (0, l4), (1, l5)] g r Q := by
  have k0 : okr 218 0 8 := okd (by decide +kernel)
  have x18 : NFF F4 18 := sq4 18 (by unfold SC; omega) (by unfold BO; omega)
  have h18 := whf4_18 hr
  have k18 := h18.1
  have outer : l3 ≤ 40 → ∀ l8 : Int, -2147483648 ≤ l8 → ∀ (l7 : Int) g1, EB r S V g g1 → WQ sc (d + 6) 78 Q 6 [(2, 0), (2, l1), (9, 0), (0, l3), (0, l4), (1, l5), (8, 0), (0, l7), (0, l8), (9, 0)] [] g1 r := by
    intro hl
    refine upS 1 41 (by decide) (by decide) fun l8 _ ih l7 g1 e0 => ?_
    have inner : l8 < 41 → ∀ l9 : Int, -2147483648 ≤ l9 → ∀ (l7 : Int) g2, EB r S V g g2 → WQ sc (d + 6) 78 Q 15 [(2, 0), (2, l1), (9, 0), (0, l3), (0, l4), (1, l5), (8, 0), (0, l7), (0, l8), (0, l9)] [] g2 r := by
      intro hlt
      refine upS 4 81 (by decide) (by decide) fun l9 _ ih2 l7 g2 e2 => ?_
      refine b_78_15 ?_
      repeat' first
        | (with_reducible refine ite_01 ?_)
        | (with_reducible refine ite_00 ?_)
        | (with_reducible refine And.intro ?_ ?_; · first | assumption | decide | (exact ARF.i (by assumption) (by omega) (by omega)) | (exact ARF.a (by assumption) (by decide) (by decide)) | (exact ARF.k (by assumption)) | omega | (have := cmp_gt.mp (by assumption : 0 < cmpL _ 0); omega))
        | (simp only [r_0_3 hr])
        | (refine ite_c (fun _ => ?_) (fun _ => ?_))
        | (intro _ e1; subst e1)
        | (with_reducible refine t_56 (by assumption) (by assumption) (by assumption) (fun _ _ _ => ?_))
        | (with_reducible refine t_63 (F := F4) (by assumption) (fun _ _ _ => ?_))
        | (exfalso; omega)
        | (exact absurd trivial (by assumption))
        | ((with_reducible refine ih2 ?_ _ _ ?_) <;> (first | ((repeat (with_reducible first | assumption | exact EB.rf hT | (refine EB.up hr ?_ (by assumption)) | (refine EB.cp hr ?_ (by assumption)) | (refine EB.tr ?_ (by assumption)) | (refine EB.e4 hr ?_ (by assumption)))); done) | omega | decide | (rw [wr_id ⟨by omega, by omega⟩]; omega)))
        | ((with_reducible refine ih hlt _ _ ?_) <;> (first | ((repeat (with_reducible first | assumption | exact EB.rf hT | (refine EB.up hr ?_ (by assumption)) | (refine EB.cp hr ?_ (by assumption)) | (refine EB.tr ?_ (by assumption)) | (refine EB.e4 hr ?_ (by assumption)))); done) | omega | decide | (rw [wr_id ⟨by omega, by omega⟩]; omega)))
        | ((with_reducible refine h _ _ ?_) <;> (first | ((repeat (with_reducible first | assumption | exact EB.rf hT | (refine EB.up hr ?_ (by assumption)) | (refine EB.cp hr ?_ (by assumption)) | (refine EB.tr ?_ (by assumption)) | (refine EB.e4 hr ?_ (by assumption)))); done) | omega | decide | (rw [wr_id ⟨by omega, by omega⟩]; omega)))
    refine b_78_6 ?_
    repeat' first
      | (with_reducible refine ite_01 ?_)
      | (with_reducible refine ite_00 ?_)
      | (with_reducible refine And.intro ?_ ?_; · first | assumption | decide | (exact ARF.i (by assumption) (by omega) (by omega)) | (exact ARF.a (by assumption) (by decide) (by decide)) | (exact ARF.k (by assumption)) | omega | (have := cmp_gt.mp (by assumption : 0 < cmpL _ 0); omega))
      | (simp only [r_0_3 hr])
      | (refine ite_c (fun _ => ?_) (fun _ => ?_))
      | (intro _ e1; subst e1)
      | (with_reducible refine t_56 (by assumption) (by assumption) (by assumption) (fun _ _ _ => ?_))
      | (with_reducible refine t_63 (F := F4) (by assumption) (fun _ _ _ => ?_))
      | (exfalso; omega)
      | (exact absurd trivial (by assumption))
      | ((with_reducible refine inner ?_ _ ?_ _ _ ?_) <;> (first | ((repeat (with_reducible first | assumption | exact EB.rf hT | (refine EB.up hr ?_ (by assumption)) | (refine EB.cp hr ?_ (by assumption)) | (refine EB.tr ?_ (by assumption)) | (refine EB.e4 hr ?_ (by assumption)))); done) | omega | decide | (rw [wr_id ⟨by omega, by omega⟩]; omega)))
      | ((with_reducible refine h _ _ ?_) <;> (first | ((repeat (with_reducible first | assumption | exact EB.rf hT | (refine EB.up hr ?_ (by assumption)) | (refine EB.cp hr ?_ (by assumption)) | (refine EB.tr ?_ (by assumption)) | (refine EB.e4 hr ?_ (by assumption)))); done) | omega | decide | (rw [wr_id ⟨by omega, by omega⟩]; omega)))
  exact c_78 (outer hl3 _ hl2 _ _ (EB.rf hT))
theorem v_77 (hr : RI r) (hT : T4 r S V g) (h : ∀ v g', EB r S V g g' → Q v g' r) : Ce sc (d + 8) 77 [(2, 0), (0, l1), (0, l2), (0, l3), (0, l4), (0, l5)] g r Q := by
  have k0 : okr 218 0 8 := okd (by decide +kernel)
  have x18 : NFF F4 18 := sq4 18 (by unfold SC; omega) (by unfold BO; omega)
  have h18 := whf4_18 hr
  have k18 := h18.1
  have outer : l3 ≤ 40 → 2 ≤ l2 → ∀ l15 : Int, -2147483648 ≤ l15 → ∀ (l6 l7 l8 l9 l10 l11 l13 : Int) g1, okr 218 l6 2 → okr 218 (r l6 1) 7 → EB r S V g g1 → WQ sc (d + 7) 77 Q 91 [(2, 0), (9, 0), (0, l2), (0, l3), (9, 0), (0, l5), (2, l6), (0, l7), (0, l8), (0, l9), (0, l10), (1, l11), (8, 0), (1, l13), (8, 0), (0, l15), (9, 0), (9, 0), (9, 0), (9, 0), (9, 0)] [] g1 r := by
    intro hl hl2
    refine upS 1 41 (by decide) (by decide) fun l15 _ ih l6 l7 l8 l9 l10 l11 l13 g1 k6 kw e0 => ?_
    have inner : l15 < 41 → ∀ l16 : Int, -2147483648 ≤ l16 → ∀ (l9 l10 l11 l13 : Int) g2, EB r S V g g2 → WQ sc (d + 7) 77 Q 100 [(2, 0), (9, 0), (0, l2), (0, l3), (9, 0), (0, l5), (2, l6), (0, l7), (0, l8), (0, l9), (0, l10), (1, l11), (8, 0), (1, l13), (8, 0), (0, l15), (0, l16), (9, 0), (9, 0), (9, 0), (9, 0)] [] g2 r := by
      intro hlt
      refine upS 4 81 (by decide) (by decide) fun l16 _ ih2 l9 l10 l11 l13 g2 e2 => ?_
      refine b_77_100 ?_
      repeat' first
        | (with_reducible refine ite_01 ?_)
        | (with_reducible refine ite_00 ?_)
        | (with_reducible refine And.intro ?_ ?_; · first | assumption | decide | (exact ARF.i (by assumption) (by omega) (by omega)) | (exact ARF.a (by assumption) (by decide) (by decide)) | (exact ARF.k (by assumption)) | omega | (have := cmp_gt.mp (by assumption : 0 < cmpL _ 0); omega))
        | (simp only [r_0_3 hr])
        | (refine ite_c (fun _ => ?_) (fun _ => ?_))
        | (intro _ e1; subst e1)
        | (with_reducible refine t_56 (by assumption) (by assumption) (by assumption) (fun _ _ _ => ?_))
        | (with_reducible refine t_63 (F := F4) (by assumption) (fun _ _ _ => ?_))
        | (with_reducible refine v_78 (S := S) (V := V) hr (by first | assumption | exact EB.t (by assumption) | (refine EB.t (a := g) ?_; (repeat (with_reducible first | assumption | exact EB.rf hT | (refine EB.up hr ?_ (by assumption)) | (refine EB.cp hr ?_ (by assumption)) | (refine EB.tr ?_ (by assumption)) | (refine EB.e4 hr ?_ (by assumption)))))) (by assumption) (by omega) (by omega) (fun _ _ _ => ?_))
        | (with_reducible refine w_123 (fun _ _ => ?_) (fun _ => ?_))
        | (with_reducible refine v_129 (S := S) (V := V) hr (by first | assumption | exact EB.t (by assumption) | (refine EB.t (a := g) ?_; (repeat (with_reducible first | assumption | exact EB.rf hT | (refine EB.up hr ?_ (by assumption)) | (refine EB.cp hr ?_ (by assumption)) | (refine EB.tr ?_ (by assumption)) | (refine EB.e4 hr ?_ (by assumption)))))) (fun _ _ _ _ _ _ _ _ _ _ _ _ => ?_) ?_)
        | (exfalso; omega)
        | (exact absurd trivial (by assumption))
        | ((with_reducible refine ih2 ?_ _ _ _ _ _ ?_) <;> (first | ((repeat (with_reducible first | assumption | exact EB.rf hT | (refine EB.up hr ?_ (by assumption)) | (refine EB.cp hr ?_ (by assumption)) | (refine EB.tr ?_ (by assumption)) | (refine EB.e4 hr ?_ (by assumption)))); done) | omega | decide | (rw [wr_id ⟨by omega, by omega⟩]; omega)))
        | ((with_reducible refine ih hlt _ _ _ _ _ _ _ _ k6 kw ?_) <;> (first | ((repeat (with_reducible first | assumption | exact EB.rf hT | (refine EB.up hr ?_ (by assumption)) | (refine EB.cp hr ?_ (by assumption)) | (refine EB.tr ?_ (by assumption)) | (refine EB.e4 hr ?_ (by assumption)))); done) | omega | decide | (rw [wr_id ⟨by omega, by omega⟩]; omega)))
        | ((with_reducible refine h _ _ ?_) <;> (first | ((repeat (with_reducible first | assumption | exact EB.rf hT | (refine EB.up hr ?_ (by assumption)) | (refine EB.cp hr ?_ (by assumption)) | (refine EB.tr ?_ (by assumption)) | (refine EB.e4 hr ?_ (by assumption)))); done) | omega | decide | (rw [wr_id ⟨by omega, by omega⟩]; omega)))
    refine b_77_91 ?_
    repeat' first
      | (with_reducible refine ite_01 ?_)
      | (with_reducible refine ite_00 ?_)
      | (with_reducible refine And.intro ?_ ?_; · first | assumption | decide | (exact ARF.i (by assumption) (by omega) (by omega)) | (exact ARF.a (by assumption) (by decide) (by decide)) | (exact ARF.k (by assumption)) | omega | (have := cmp_gt.mp (by assumption : 0 < cmpL _ 0); omega))
      | (simp only [r_0_3 hr])
      | (refine ite_c (fun _ => ?_) (fun _ => ?_))
      | (intro _ e1; subst e1)
      | (with_reducible refine t_56 (by assumption) (by assumption) (by assumption) (fun _ _ _ => ?_))
      | (with_reducible refine t_63 (F := F4) (by assumption) (fun _ _ _ => ?_))
      | (with_reducible refine v_78 (S := S) (V := V) hr (by first | assumption | exact EB.t (by assumption) | (refine EB.t (a := g) ?_; (repeat (with_reducible first | assumption | exact EB.rf hT | (refine EB.up hr ?_ (by assumption)) | (refine EB.cp hr ?_ (by assumption)) | (refine EB.tr ?_ (by assumption)) | (refine EB.e4 hr ?_ (by assumption)))))) (by assumption) (by omega) (by omega) (fun _ _ _ => ?_))
      | (with_reducible refine w_123 (fun _ _ => ?_) (fun _ => ?_))
      | (with_reducible refine v_129 (S := S) (V := V) hr (by first | assumption | exact EB.t (by assumption) | (refine EB.t (a := g) ?_; (repeat (with_reducible first | assumption | exact EB.rf hT | (refine EB.up hr ?_ (by assumption)) | (refine EB.cp hr ?_ (by assumption)) | (refine EB.tr ?_ (by assumption)) | (refine EB.e4 hr ?_ (by assumption)))))) (fun _ _ _ _ _ _ _ _ _ _ _ _ => ?_) ?_)
      | (exfalso; omega)
      | (exact absurd trivial (by assumption))
      | ((with_reducible refine inner ?_ _ ?_ _ _ _ _ _ ?_) <;> (first | ((repeat (with_reducible first | assumption | exact EB.rf hT | (refine EB.up hr ?_ (by assumption)) | (refine EB.cp hr ?_ (by assumption)) | (refine EB.tr ?_ (by assumption)) | (refine EB.e4 hr ?_ (by assumption)))); done) | omega | decide | (rw [wr_id ⟨by omega, by omega⟩]; omega)))
      | ((with_reducible refine h _ _ ?_) <;> (first | ((repeat (with_reducible first | assumption | exact EB.rf hT | (refine EB.up hr ?_ (by assumption)) | (refine EB.cp hr ?_ (by assumption)) | (refine EB.tr ?_ (by assumption)) | (refine EB.e4 hr ?_ (by assumption)))); done) | omega | decide | (rw [wr_id ⟨by omega, by omega⟩]; omega)))
  refine c_77 ?_
  repeat' first
    | (with_reducible refine ite_01 ?_)
    | (with_reducible refine ite_00 ?_)
    | (with_reducible refine And.intro ?_ ?_; · first | assumption | decide | (exact ARF.i (by assumption) (by omega) (by omega)) | (exact ARF.a (by assumption) (by decide) (by decide)) | (exact ARF.k (by assumption)) | omega | (have := cmp_gt.mp (by assumption : 0 < cmpL _ 0); omega))
    | (simp only [r_0_3 hr])
    | (refine ite_c (fun _ => ?_) (fun _ => ?_))
    | (intro _ e1; subst e1)
    | (with_reducible refine t_56 (by assumption) (by assumption) (by assumption) (fun _ _ _ => ?_))
    | (with_reducible refine t_63 (F := F4) (by assumption) (fun _ _ _ => ?_))
    | (with_reducible refine v_78 (S := S) (V := V) hr (by first | assumption | exact EB.t (by assumption) | (refine EB.t (a := g) ?_; (repeat (with_reducible first | assumption | exact EB.rf hT | (refine EB.up hr ?_ (by assumption)) | (refine EB.cp hr ?_ (by assumption)) | (refine EB.tr ?_ (by assumption)) | (refine EB.e4 hr ?_ (by assumption)))))) (by assumption) (by omega) (by omega) (fun _ _ _ => ?_))
    | (with_reducible refine w_123 (fun _ _ => ?_) (fun _ => ?_))
    | (with_reducible refine v_129 (S := S) (V := V) hr (by first | assumption | exact EB.t (by assumption) | (refine EB.t (a := g) ?_; (repeat (with_reducible first | assumption | exact EB.rf hT | (refine EB.up hr ?_ (by assumption)) | (refine EB.cp hr ?_ (by assumption)) | (refine EB.tr ?_ (by assumption)) | (refine EB.e4 hr ?_ (by assumption)))))) (fun _ _ _ _ _ _ _ _ _ _ _ _ => ?_) ?_)
    | (exfalso; omega)
    | (exact absurd trivial (by assumption))
    | ((with_reducible refine outer ?_ ?_ _ ?_ _ _ _ _ _ _ _ _ ?_ ?_ ?_) <;> (first | ((repeat (with_reducible first | assumption | exact EB.rf hT | (refine EB.up hr ?_ (by assumption)) | (refine EB.cp hr ?_ (by assumption)) | (refine EB.tr ?_ (by assumption)) | (refine EB.e4 hr ?_ (by assumption)))); done) | omega | decide | (rw [wr_id ⟨by omega, by omega⟩]; omega)))
    | ((with_reducible refine h _ _ ?_) <;> (first | ((repeat (with_reducible first | assumption | exact EB.rf hT | (refine EB.up hr ?_ (by assumption)) | (refine EB.cp hr ?_ (by assumption)) | (refine EB.tr ?_ (by assumption)) | (refine EB.e4 hr ?_ (by assumption)))); done) | omega | decide | (rw [wr_id ⟨by omega, by omega⟩]; omega)))
end EBU
