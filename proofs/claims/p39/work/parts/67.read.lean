/-! the class's reading comes to its end; printed by a program (wip/gen/gen_safe3.py) -/
def RN (g : GH) (u : Int) : Prop := 0 ≤ g u 1 ∧ 0 ≤ g u 4
/-- what the reading leaves: all that is asked between the calls, but the Reader and the Rules u, which stay not below 0 -/
def PF (u : Int) (g g' : GH) : Prop := (∀ i, FP i → i ≠ 1 → i ≠ u → ∀ j, g' i j = g i j) ∧ (RN g u → RN g' u) ∧ g' 1 1 = g 1 1
def UU (u : Int) : Prop := FP u ∧ u ≠ 1
/-- the same, and no text is left to read -/
def PF2 (u : Int) (g g' : GH) : Prop := (∀ i, FP i → i ≠ 1 → i ≠ u → ∀ j, g' i j = g i j) ∧ (RN g u → RN g' u) ∧ g' 1 1 = 0
theorem PF2.rn {u : Int} {a b : GH} (h : PF2 u a b) (q : RN a u) : RN b u := h.2.1 q
theorem rn_of {u : Int} {a b : GH} (h : PF u a b) (hn : RN a u) : RN b u := h.2.1 hn
theorem pf_rf (u : Int) (g : GH) : PF u g g := ⟨fun _ _ _ _ _ => rfl, fun h => h, rfl⟩
theorem pf_tr {u : Int} {a b c : GH} (h1 : PF u a b) (h2 : PF u b c) : PF u a c := ⟨fun i x y z j => (h2.1 i x y z j).trans (h1.1 i x y z j), fun h => h2.2.1 (h1.2.1 h), h2.2.2.trans h1.2.2⟩
theorem pf_up {u : Int} {a b : GH} {x j v : Int} (hu : UU u) (h : PF u a b) (hx : NF x) : PF u a (up b x j v) := by
  have hne : u ≠ x := fun q => hx (by rw [← q]; exact hu.1)
  have hn1 : 1 ≠ x := fun q => hx (by rw [← q]; unfold FP; omega)
  refine ⟨fun i hi y z k => ?_, fun q => ?_, ?_⟩
  · have h1 : i ≠ x := fun q => hx (by rw [← q]; exact hi)
    rw [up_i h1]; exact h.1 i hi y z k
  · have := h.2.1 q
    unfold RN at this ⊢
    rw [up_i hne, up_i hne]; exact this
  · rw [up_i hn1]; exact h.2.2
theorem pf_up1 {u : Int} {a b : GH} {j v : Int} (hu : UU u) (h : PF u a b) (hj : (1 : Int) ≠ j) : PF u a (up b 1 j v) := by
  refine ⟨fun i hi y z k => ?_, fun q => ?_, ?_⟩
  · rw [up_i y]; exact h.1 i hi y z k
  · have := h.2.1 q
    unfold RN at this ⊢
    rw [up_i hu.2, up_i hu.2]; exact this
  · rw [up_j hj]; exact h.2.2
theorem pf_eq {u : Int} {a b c : GH} (hu : UU u) (h : PF u a b) (e : EQ b c) : PF u a c := by
  refine ⟨fun i hi y z k => (e i hi k).trans (h.1 i hi y z k), fun q => ?_, (e 1 (by unfold FP; omega) 1).trans h.2.2⟩
  have := h.2.1 q
  unfold RN at this ⊢
  rw [e u hu.1 1, e u hu.1 4]; exact this
theorem PF2.tr {u : Int} {a b c : GH} (h : PF2 u a b) (_ : UU u) (e : PF u b c) : PF2 u a c := ⟨fun i hi y z j => (e.1 i hi y z j).trans (h.1 i hi y z j), fun q => e.2.1 (h.2.1 q), e.2.2.trans h.2.2⟩
theorem PF2.up1 {u : Int} {a b : GH} {j v : Int} (hu : UU u) (h : PF2 u a b) (hj : (1 : Int) ≠ j) : PF2 u a (up b 1 j v) := h.tr hu (pf_up1 hu (pf_rf u b) hj)
theorem PF2.mk {u : Int} {a b : GH} (hu : UU u) (h : PF u a b) : PF2 u a (up b 1 1 0) := by
  refine ⟨fun i hi y z k => ?_, fun q => ?_, by rw [up_s]⟩
  · rw [up_i y]; exact h.1 i hi y z k
  · have := h.2.1 q
    unfold RN at this ⊢
    rw [up_i hu.2, up_i hu.2]; exact this
theorem uu_of {r : GH} {m : Int} (hr : RI r) (hm : MO m) : UU (r m 4) := by
  rw [mo_4 hr hm]
  unfold MO at hm
  unfold UU FP
  omega
theorem upG {W : Int → Prop} (N : Int) (h : ∀ i, (i < N → ∀ i', i < i' → W i') → W i) : ∀ i, W i := by
  have key : ∀ (n : Nat) (i : Int), N ≤ i + n → W i := by
    intro n
    induction n with
    | zero => intro i h1; exact h i (fun q => by omega)
    | succ n ih =>
      intro i h1
      exact h i (fun q i' hi' => ih i' (by omega))
  intro i
  exact key (N - i).toNat i (by omega)
theorem tx_all : (List.range 22).all (fun i => decide ((am_tx (1000000 + (i : Int))).length < 20)) = true := by decide +kernel
theorem tx_len {x : Int} (h : okT x) : ((am_tx x).length : Int) < 20 := by
  have := of_decide_eq_true (List.all_eq_true.mp tx_all (x - 1000000).toNat (List.mem_range.mpr (by unfold okT at h; omega)))
  rw [show (1000000 + (((x - 1000000).toNat : Nat) : Int)) = x by unfold okT at h; omega] at this
  omega
section SRD
variable {sc : SCR} {d : Nat} {Q : QJ} {g r : GH} {l0 l1 l2 l3 l4 l5 l6 l7 l8 l9 u : Int}
theorem s_34 (h : ∀ v, Q v g r) : Ce sc (d + 1) 34 [(0, l0)] g r Q := by
  have e : ∀ x : Int, WQ sc d 34 Q 42 [(0, x), (9, 0)] [] g r := fun x => b_34_42 (ite_c (fun _ => h _) (fun _ => ite_c (fun _ => h _) (fun _ => ite_c (fun _ => h _) (fun _ => ite_c (fun _ => h _) (fun _ => ite_c (fun _ => h _) (fun _ => ite_c (fun _ => h _) (fun _ => h _)))))))
  refine c_34 ?_
  repeat' first
    | (with_reducible refine ite_01 ?_)
    | (with_reducible refine ite_00 ?_)
    | (refine ite_c (fun _ => ?_) (fun _ => ?_))
    | (exact h _)
    | (exact e _)
theorem s_35 (hr : RI r) (hu : UU u) (h : ∀ v g', PF u g g' → Q v g' r) : Ce sc (d + 1) 35 [(2, 1)] g r Q := by
  have k1 : okr 218 1 5 := okd (by decide +kernel)
  have t3 : AR 3 11 701 := ar_of (by decide +kernel) (by decide +kernel) (by decide +kernel)
  have t4 : AR 4 11 701 := ar_of (by decide +kernel) (by decide +kernel) (by decide +kernel)
  have t5 : AR 5 11 701 := ar_of (by decide +kernel) (by decide +kernel) (by decide +kernel)
  have m3 := t3.2.1
  have q3 := t3.2.2
  have q4 := t4.2.2
  have q5 := t5.2.2
  have n3 := t3.2.1
  refine c_35 ⟨k1, k1, fun g1 e1 => ⟨k1, ?_⟩⟩
  have p0 : PF u g g1 := by rw [e1]; exact pf_up1 hu (pf_rf u g) (by decide)
  refine ite_c (fun _ => h _ _ p0) (fun hn => ⟨k1, k1, by rw [r_1_3 hr]; exact t3.a (by decide) (by decide), ?_⟩)
  rw [r_1_3 hr, n3, r_1_4 hr, r_1_5 hr]
  refine ite_c (fun hi => ⟨k1, k1, t3.i (by omega) hi, k1, fun g2 e2 => ⟨k1, k1, ?_, k1, fun g3 e3 => ⟨k1, k1, ?_, k1, fun g4 e4 => h _ _ ?_⟩⟩⟩) (fun _ => h _ _ p0)
  · rw [e2, up_j (by decide)]; exact t4.i (by omega) hi
  · rw [e3, up_j (by decide), e2, up_j (by decide)]; exact t5.i (by omega) hi
  · rw [e4, e3, e2]; exact pf_up1 hu (pf_up1 hu (pf_up1 hu p0 (by decide)) (by decide)) (by decide)
theorem s_37 (hr : RI r) (h1 : Q 1 g r) (h0 : Q 0 g r) : Ce sc (d + 1) 37 [(2, 1), (0, l1)] g r Q := by
  have k1 : okr 218 1 5 := okd (by decide +kernel)
  have t3 : AR 3 11 701 := ar_of (by decide +kernel) (by decide +kernel) (by decide +kernel)
  have t4 : AR 4 11 701 := ar_of (by decide +kernel) (by decide +kernel) (by decide +kernel)
  have t5 : AR 5 11 701 := ar_of (by decide +kernel) (by decide +kernel) (by decide +kernel)
  have m3 := t3.2.1
  have q3 := t3.2.2
  have q4 := t4.2.2
  have q5 := t5.2.2
  refine c_37 ?_
  repeat' first
    | (with_reducible refine ite_01 ?_)
    | (with_reducible refine ite_00 ?_)
    | (with_reducible refine And.intro ?_ ?_; · first | assumption | decide | (exact AR.i (by assumption) (by omega) (by omega)) | (with_reducible exact i_2.mpr ⟨by omega, by omega⟩) | (exact AR.a (by assumption) (by decide) (by decide)) | (exact AR.k (by assumption)) | omega | (have := cmp_gt.mp (by assumption : 0 < cmpL _ 0); omega))
    | (simp only [r_1_0 hr, r_1_3 hr, r_1_4 hr, r_1_5 hr])
    | (refine ite_c (fun _ => ?_) (fun _ => ?_))
    | (intro _ e1; subst e1)
    | (exfalso; omega)
    | (exact absurd trivial (by assumption))
    | ((first | exact h1 | exact h0))
theorem s_36 (hr : RI r) (ht : okT l1) (h1 : Q 1 g r) (h0 : Q 0 g r) : Ce sc (d + 4) 36 [(2, 1), (2, l1)] g r Q := by
  have k1 : okr 218 1 5 := okd (by decide +kernel)
  have t3 : AR 3 11 701 := ar_of (by decide +kernel) (by decide +kernel) (by decide +kernel)
  have t4 : AR 4 11 701 := ar_of (by decide +kernel) (by decide +kernel) (by decide +kernel)
  have t5 : AR 5 11 701 := ar_of (by decide +kernel) (by decide +kernel) (by decide +kernel)
  have m3 := t3.2.1
  have q3 := t3.2.2
  have q4 := t4.2.2
  have q5 := t5.2.2
  have hlen := tx_len ht
  have loop : ∀ l2 : Int, -2147483648 ≤ l2 → 0 ≤ l2 → WQ sc (d + 3) 36 Q 28 [(2, 1), (2, l1), (0, l2), (9, 0)] [] g r := by
    refine upW 20 (by decide) fun l2 _ ih h2 => ?_
    refine b_36_28 ⟨⟨by omega, ht⟩, ?_⟩
    repeat' first
      | (with_reducible refine ite_01 ?_)
      | (with_reducible refine ite_00 ?_)
      | (with_reducible refine And.intro ?_ ?_; · first | assumption | decide | (exact AR.i (by assumption) (by omega) (by omega)) | (with_reducible exact i_2.mpr ⟨by omega, by omega⟩) | (exact AR.a (by assumption) (by decide) (by decide)) | (exact AR.k (by assumption)) | omega | (have := cmp_gt.mp (by assumption : 0 < cmpL _ 0); omega) | (exact ⟨by omega, ht, h2, by omega⟩))
      | (simp only [r_1_0 hr, r_1_3 hr, r_1_4 hr, r_1_5 hr])
      | (refine ite_c (fun _ => ?_) (fun _ => ?_))
      | (intro _ e1; subst e1)
      | (exfalso; omega)
      | (exact absurd trivial (by assumption))
      | ((with_reducible refine ih ?_ ?_) <;> (first | ((repeat (with_reducible first | assumption | exact pf_rf _ _ | (refine pf_up hu ?_ (by assumption)) | (refine pf_up1 hu ?_ (by decide)) | (refine pf_tr ?_ (by assumption)) | (refine pf_eq hu ?_ (by assumption)))); done) | omega | decide | (rw [wr_id ⟨by omega, by omega⟩]; omega)))
      | ((first | exact h1 | exact h0))
  refine c_36 ?_
  repeat' first
    | (with_reducible refine ite_01 ?_)
    | (with_reducible refine ite_00 ?_)
    | (with_reducible refine And.intro ?_ ?_; · first | assumption | decide | (exact AR.i (by assumption) (by omega) (by omega)) | (with_reducible exact i_2.mpr ⟨by omega, by omega⟩) | (exact AR.a (by assumption) (by decide) (by decide)) | (exact AR.k (by assumption)) | omega | (have := cmp_gt.mp (by assumption : 0 < cmpL _ 0); omega) | (exact ⟨by omega, ht⟩))
    | (simp only [r_1_0 hr, r_1_3 hr, r_1_4 hr, r_1_5 hr])
    | (refine ite_c (fun _ => ?_) (fun _ => ?_))
    | (intro _ e1; subst e1)
    | (exfalso; omega)
    | (exact absurd trivial (by assumption))
    | ((with_reducible refine loop _ ?_ ?_) <;> (first | ((repeat (with_reducible first | assumption | exact pf_rf _ _ | (refine pf_up hu ?_ (by assumption)) | (refine pf_up1 hu ?_ (by decide)) | (refine pf_tr ?_ (by assumption)) | (refine pf_eq hu ?_ (by assumption)))); done) | omega | decide | (rw [wr_id ⟨by omega, by omega⟩]; omega)))
    | ((first | exact h1 | exact h0))
theorem s_38 (hr : RI r) (hu : UU u) (ht : okT l1) (h1 : ∀ g', PF u g g' → Q 1 g' r) (h0 : ∀ g', PF u g g' → Q 0 g' r) : Ce sc (d + 5) 38 [(2, 1), (2, l1)] g r Q := by
  have k1 : okr 218 1 5 := okd (by decide +kernel)
  have t3 : AR 3 11 701 := ar_of (by decide +kernel) (by decide +kernel) (by decide +kernel)
  have t4 : AR 4 11 701 := ar_of (by decide +kernel) (by decide +kernel) (by decide +kernel)
  have t5 : AR 5 11 701 := ar_of (by decide +kernel) (by decide +kernel) (by decide +kernel)
  have m3 := t3.2.1
  have q3 := t3.2.2
  have q4 := t4.2.2
  have q5 := t5.2.2
  refine c_38 ?_
  repeat' first
    | (with_reducible refine ite_01 ?_)
    | (with_reducible refine ite_00 ?_)
    | (with_reducible refine And.intro ?_ ?_; · first | assumption | decide | (exact AR.i (by assumption) (by omega) (by omega)) | (with_reducible exact i_2.mpr ⟨by omega, by omega⟩) | (exact AR.a (by assumption) (by decide) (by decide)) | (exact AR.k (by assumption)) | omega | (have := cmp_gt.mp (by assumption : 0 < cmpL _ 0); omega))
    | (simp only [r_1_0 hr, r_1_3 hr, r_1_4 hr, r_1_5 hr])
    | (refine ite_c (fun _ => ?_) (fun _ => ?_))
    | (intro _ e1; subst e1)
    | (with_reducible refine s_35 hr hu (fun _ _ _ => ?_))
    | (with_reducible refine s_36 hr (by first | assumption | (unfold okT; decide)) ?_ ?_)
    | (exfalso; omega)
    | (exact absurd trivial (by assumption))
    | ((first | ((with_reducible refine h1 _ ?_); (repeat (with_reducible first | assumption | exact pf_rf _ _ | (refine pf_up hu ?_ (by assumption)) | (refine pf_up1 hu ?_ (by decide)) | (refine pf_tr ?_ (by assumption)) | (refine pf_eq hu ?_ (by assumption)))); done) | ((with_reducible refine h0 _ ?_); (repeat (with_reducible first | assumption | exact pf_rf _ _ | (refine pf_up hu ?_ (by assumption)) | (refine pf_up1 hu ?_ (by decide)) | (refine pf_tr ?_ (by assumption)) | (refine pf_eq hu ?_ (by assumption)))); done)))
theorem s_39 (hr : RI r) (hu : UU u) (h1 : ∀ g', PF u g g' → Q 1 g' r) (h0 : ∀ g', PF u g g' → Q 0 g' r) : Ce sc (d + 2) 39 [(2, 1), (0, l1)] g r Q := by
  have k1 : okr 218 1 5 := okd (by decide +kernel)
  have t3 : AR 3 11 701 := ar_of (by decide +kernel) (by decide +kernel) (by decide +kernel)
  have t4 : AR 4 11 701 := ar_of (by decide +kernel) (by decide +kernel) (by decide +kernel)
  have t5 : AR 5 11 701 := ar_of (by decide +kernel) (by decide +kernel) (by decide +kernel)
  have m3 := t3.2.1
  have q3 := t3.2.2
  have q4 := t4.2.2
  have q5 := t5.2.2
  refine c_39 ?_
  repeat' first
    | (with_reducible refine ite_01 ?_)
    | (with_reducible refine ite_00 ?_)
    | (with_reducible refine And.intro ?_ ?_; · first | assumption | decide | (exact AR.i (by assumption) (by omega) (by omega)) | (with_reducible exact i_2.mpr ⟨by omega, by omega⟩) | (exact AR.a (by assumption) (by decide) (by decide)) | (exact AR.k (by assumption)) | omega | (have := cmp_gt.mp (by assumption : 0 < cmpL _ 0); omega))
    | (simp only [r_1_0 hr, r_1_3 hr, r_1_4 hr, r_1_5 hr])
    | (refine ite_c (fun _ => ?_) (fun _ => ?_))
    | (intro _ e1; subst e1)
    | (with_reducible refine s_35 hr hu (fun _ _ _ => ?_))
    | (with_reducible refine s_37 hr ?_ ?_)
    | (exfalso; omega)
    | (exact absurd trivial (by assumption))
    | ((first | ((with_reducible refine h1 _ ?_); (repeat (with_reducible first | assumption | exact pf_rf _ _ | (refine pf_up hu ?_ (by assumption)) | (refine pf_up1 hu ?_ (by decide)) | (refine pf_tr ?_ (by assumption)) | (refine pf_eq hu ?_ (by assumption)))); done) | ((with_reducible refine h0 _ ?_); (repeat (with_reducible first | assumption | exact pf_rf _ _ | (refine pf_up hu ?_ (by assumption)) | (refine pf_up1 hu ?_ (by decide)) | (refine pf_tr ?_ (by assumption)) | (refine pf_eq hu ?_ (by assumption)))); done)))
theorem s_40 (hr : RI r) (hu : UU u) (h1 : ∀ g', PF u g g' → Q 1 g' r) (h0 : ∀ g', PF u g g' → Q 0 g' r) : Ce sc (d + 2) 40 [(2, 1), (0, l1), (0, l2)] g r Q := by
  have k1 : okr 218 1 5 := okd (by decide +kernel)
  have t3 : AR 3 11 701 := ar_of (by decide +kernel) (by decide +kernel) (by decide +kernel)
  have t4 : AR 4 11 701 := ar_of (by decide +kernel) (by decide +kernel) (by decide +kernel)
  have t5 : AR 5 11 701 := ar_of (by decide +kernel) (by decide +kernel) (by decide +kernel)
  have m3 := t3.2.1
  have q3 := t3.2.2
  have q4 := t4.2.2
  have q5 := t5.2.2
  have loop : ∀ l4 : Int, -2147483648 ≤ l4 → 0 ≤ l4 → ∀ (l3 : Int), WQ sc (d + 1) 40 Q 35 [(2, 1), (0, l1), (0, l2), (0, l3), (0, l4)] [] g r := by
    refine upW 700 (by decide) fun l4 _ ih h4 l3 => ?_
    refine b_40_35 ?_
    repeat' first
      | (with_reducible refine ite_01 ?_)
      | (with_reducible refine ite_00 ?_)
      | (with_reducible refine And.intro ?_ ?_; · first | assumption | decide | (exact AR.i (by assumption) (by omega) (by omega)) | (with_reducible exact i_2.mpr ⟨by omega, by omega⟩) | (exact AR.a (by assumption) (by decide) (by decide)) | (exact AR.k (by assumption)) | omega | (have := cmp_gt.mp (by assumption : 0 < cmpL _ 0); omega))
      | (simp only [r_1_0 hr, r_1_3 hr, r_1_4 hr, r_1_5 hr])
      | (refine ite_c (fun _ => ?_) (fun _ => ?_))
      | (intro _ e1; subst e1)
      | (with_reducible refine s_35 hr hu (fun _ _ _ => ?_))
      | (with_reducible refine w_248 (fun _ => ?_) (fun _ => ?_))
      | (exfalso; omega)
      | (exact absurd trivial (by assumption))
      | ((with_reducible refine ih ?_ ?_ _) <;> (first | ((repeat (with_reducible first | assumption | exact pf_rf _ _ | (refine pf_up hu ?_ (by assumption)) | (refine pf_up1 hu ?_ (by decide)) | (refine pf_tr ?_ (by assumption)) | (refine pf_eq hu ?_ (by assumption)))); done) | omega | decide | (rw [wr_id ⟨by omega, by omega⟩]; omega)))
      | ((first | ((with_reducible refine h1 _ ?_); (repeat (with_reducible first | assumption | exact pf_rf _ _ | (refine pf_up hu ?_ (by assumption)) | (refine pf_up1 hu ?_ (by decide)) | (refine pf_tr ?_ (by assumption)) | (refine pf_eq hu ?_ (by assumption)))); done) | ((with_reducible refine h0 _ ?_); (repeat (with_reducible first | assumption | exact pf_rf _ _ | (refine pf_up hu ?_ (by assumption)) | (refine pf_up1 hu ?_ (by decide)) | (refine pf_tr ?_ (by assumption)) | (refine pf_eq hu ?_ (by assumption)))); done)))
  refine c_40 ?_
  repeat' first
    | (with_reducible refine ite_01 ?_)
    | (with_reducible refine ite_00 ?_)
    | (with_reducible refine And.intro ?_ ?_; · first | assumption | decide | (exact AR.i (by assumption) (by omega) (by omega)) | (with_reducible exact i_2.mpr ⟨by omega, by omega⟩) | (exact AR.a (by assumption) (by decide) (by decide)) | (exact AR.k (by assumption)) | omega | (have := cmp_gt.mp (by assumption : 0 < cmpL _ 0); omega))
    | (simp only [r_1_0 hr, r_1_3 hr, r_1_4 hr, r_1_5 hr])
    | (refine ite_c (fun _ => ?_) (fun _ => ?_))
    | (intro _ e1; subst e1)
    | (with_reducible refine s_35 hr hu (fun _ _ _ => ?_))
    | (with_reducible refine w_248 (fun _ => ?_) (fun _ => ?_))
    | (exfalso; omega)
    | (exact absurd trivial (by assumption))
    | ((with_reducible refine loop _ ?_ ?_ _) <;> (first | ((repeat (with_reducible first | assumption | exact pf_rf _ _ | (refine pf_up hu ?_ (by assumption)) | (refine pf_up1 hu ?_ (by decide)) | (refine pf_tr ?_ (by assumption)) | (refine pf_eq hu ?_ (by assumption)))); done) | omega | decide | (rw [wr_id ⟨by omega, by omega⟩]; omega)))
    | ((first | ((with_reducible refine h1 _ ?_); (repeat (with_reducible first | assumption | exact pf_rf _ _ | (refine pf_up hu ?_ (by assumption)) | (refine pf_up1 hu ?_ (by decide)) | (refine pf_tr ?_ (by assumption)) | (refine pf_eq hu ?_ (by assumption)))); done) | ((with_reducible refine h0 _ ?_); (repeat (with_reducible first | assumption | exact pf_rf _ _ | (refine pf_up hu ?_ (by assumption)) | (refine pf_up1 hu ?_ (by decide)) | (refine pf_tr ?_ (by assumption)) | (refine pf_eq hu ?_ (by assumption)))); done)))
theorem s_33 (hr : RI r) (hu : UU u) (hl : l1 ≤ 700) (hl0 : 0 ≤ l1) (h : ∀ v g', PF u g g' → Q v g' r) : Ce sc (d + 2) 33 [(2, 1), (0, l1)] g r Q := by
  have k1 : okr 218 1 5 := okd (by decide +kernel)
  have t3 : AR 3 11 701 := ar_of (by decide +kernel) (by decide +kernel) (by decide +kernel)
  have t4 : AR 4 11 701 := ar_of (by decide +kernel) (by decide +kernel) (by decide +kernel)
  have t5 : AR 5 11 701 := ar_of (by decide +kernel) (by decide +kernel) (by decide +kernel)
  have m3 := t3.2.1
  have q3 := t3.2.2
  have q4 := t4.2.2
  have q5 := t5.2.2
  have last : ∀ (l2 : Int) g1, 0 ≤ l2 → l2 ≤ 700 → PF u g g1 → WQ sc (d + 1) 33 Q 139 [(2, 1), (0, l1), (0, l2), (9, 0), (9, 0), (9, 0), (9, 0)] [] g1 r := by
    intro l2 g1 a1 a2 e0
    refine b_33_139 ?_
    repeat' first
      | (with_reducible refine ite_01 ?_)
      | (with_reducible refine ite_00 ?_)
      | (with_reducible refine And.intro ?_ ?_; · first | assumption | decide | (exact AR.i (by assumption) (by omega) (by omega)) | (with_reducible exact i_2.mpr ⟨by omega, by omega⟩) | (exact AR.a (by assumption) (by decide) (by decide)) | (exact AR.k (by assumption)) | omega | (have := cmp_gt.mp (by assumption : 0 < cmpL _ 0); omega))
      | (simp only [r_1_0 hr, r_1_3 hr, r_1_4 hr, r_1_5 hr])
      | (refine ite_c (fun _ => ?_) (fun _ => ?_))
      | (intro _ e1; subst e1)
      | (with_reducible refine s_34 (fun _ => ?_))
      | (with_reducible refine s_35 hr hu (fun _ _ _ => ?_))
      | (exfalso; omega)
      | (exact absurd trivial (by assumption))
      | ((with_reducible refine h _ _ ?_) <;> (first | ((repeat (with_reducible first | assumption | exact pf_rf _ _ | (refine pf_up hu ?_ (by assumption)) | (refine pf_up1 hu ?_ (by decide)) | (refine pf_tr ?_ (by assumption)) | (refine pf_eq hu ?_ (by assumption)))); done) | omega | decide | (rw [wr_id ⟨by omega, by omega⟩]; omega)))
  have loop : ∀ l4 : Int, 0 ≤ l4 → ∀ (l2 : Int) g1, 0 ≤ l2 → l2 ≤ 700 → PF u g g1 → WQ sc (d + 1) 33 Q 7 [(2, 1), (0, l1), (0, l2), (9, 0), (0, l4), (9, 0), (9, 0)] [] g1 r := by
    refine upG 700 fun l4 ih h4 l2 g1 a1 a2 e0 => ?_
    have e94 : l4 < 700 → ∀ (l3 l5 : Int), l4 < l3 → WQ sc (d + 1) 33 Q 94 [(2, 1), (0, l1), (0, l2), (0, l3), (0, l4), (0, l5), (9, 0)] [] g1 r := by
      intro hlt l3 l5 h3
      refine b_33_94 ?_
      repeat' first
        | (with_reducible refine ite_01 ?_)
        | (with_reducible refine ite_00 ?_)
        | (with_reducible refine And.intro ?_ ?_; · first | assumption | decide | (exact AR.i (by assumption) (by omega) (by omega)) | (with_reducible exact i_2.mpr ⟨by omega, by omega⟩) | (exact AR.a (by assumption) (by decide) (by decide)) | (exact AR.k (by assumption)) | omega | (have := cmp_gt.mp (by assumption : 0 < cmpL _ 0); omega))
        | (simp only [r_1_0 hr, r_1_3 hr, r_1_4 hr, r_1_5 hr])
        | (refine ite_c (fun _ => ?_) (fun _ => ?_))
        | (intro _ e1; subst e1)
        | (with_reducible refine s_34 (fun _ => ?_))
        | (with_reducible refine s_35 hr hu (fun _ _ _ => ?_))
        | (exfalso; omega)
        | (exact absurd trivial (by assumption))
        | ((with_reducible refine ih hlt _ h3 ?_ _ _ ?_ ?_ ?_) <;> (first | ((repeat (with_reducible first | assumption | exact pf_rf _ _ | (refine pf_up hu ?_ (by assumption)) | (refine pf_up1 hu ?_ (by decide)) | (refine pf_tr ?_ (by assumption)) | (refine pf_eq hu ?_ (by assumption)))); done) | omega | decide | (rw [wr_id ⟨by omega, by omega⟩]; omega)))
        | ((with_reducible refine h _ _ ?_) <;> (first | ((repeat (with_reducible first | assumption | exact pf_rf _ _ | (refine pf_up hu ?_ (by assumption)) | (refine pf_up1 hu ?_ (by decide)) | (refine pf_tr ?_ (by assumption)) | (refine pf_eq hu ?_ (by assumption)))); done) | omega | decide | (rw [wr_id ⟨by omega, by omega⟩]; omega)))
    have e57 : l4 < 700 → ∀ l3 : Int, -2147483648 ≤ l3 → l4 < l3 → ∀ (l5 l6 : Int), WQ sc (d + 1) 33 Q 57 [(2, 1), (0, l1), (0, l2), (0, l3), (0, l4), (0, l5), (0, l6)] [] g1 r := by
      intro hlt
      refine upW 700 (by decide) fun l3 _ ih2 h3 l5 l6 => ?_
      refine b_33_57 ?_
      repeat' first
        | (with_reducible refine ite_01 ?_)
        | (with_reducible refine ite_00 ?_)
        | (with_reducible refine And.intro ?_ ?_; · first | assumption | decide | (exact AR.i (by assumption) (by omega) (by omega)) | (with_reducible exact i_2.mpr ⟨by omega, by omega⟩) | (exact AR.a (by assumption) (by decide) (by decide)) | (exact AR.k (by assumption)) | omega | (have := cmp_gt.mp (by assumption : 0 < cmpL _ 0); omega))
        | (simp only [r_1_0 hr, r_1_3 hr, r_1_4 hr, r_1_5 hr])
        | (refine ite_c (fun _ => ?_) (fun _ => ?_))
        | (intro _ e1; subst e1)
        | (with_reducible refine s_34 (fun _ => ?_))
        | (with_reducible refine s_35 hr hu (fun _ _ _ => ?_))
        | (exfalso; omega)
        | (exact absurd trivial (by assumption))
        | ((with_reducible refine ih2 ?_ ?_ _ _) <;> (first | ((repeat (with_reducible first | assumption | exact pf_rf _ _ | (refine pf_up hu ?_ (by assumption)) | (refine pf_up1 hu ?_ (by decide)) | (refine pf_tr ?_ (by assumption)) | (refine pf_eq hu ?_ (by assumption)))); done) | omega | decide | (rw [wr_id ⟨by omega, by omega⟩]; omega)))
        | ((with_reducible refine e94 hlt _ _ h3))
        | ((with_reducible refine h _ _ ?_) <;> (first | ((repeat (with_reducible first | assumption | exact pf_rf _ _ | (refine pf_up hu ?_ (by assumption)) | (refine pf_up1 hu ?_ (by decide)) | (refine pf_tr ?_ (by assumption)) | (refine pf_eq hu ?_ (by assumption)))); done) | omega | decide | (rw [wr_id ⟨by omega, by omega⟩]; omega)))
    refine b_33_7 ?_
    repeat' first
      | (with_reducible refine ite_01 ?_)
      | (with_reducible refine ite_00 ?_)
      | (with_reducible refine And.intro ?_ ?_; · first | assumption | decide | (exact AR.i (by assumption) (by omega) (by omega)) | (with_reducible exact i_2.mpr ⟨by omega, by omega⟩) | (exact AR.a (by assumption) (by decide) (by decide)) | (exact AR.k (by assumption)) | omega | (have := cmp_gt.mp (by assumption : 0 < cmpL _ 0); omega))
      | (simp only [r_1_0 hr, r_1_3 hr, r_1_4 hr, r_1_5 hr])
      | (refine ite_c (fun _ => ?_) (fun _ => ?_))
      | (intro _ e1; subst e1)
      | (with_reducible refine s_34 (fun _ => ?_))
      | (with_reducible refine s_35 hr hu (fun _ _ _ => ?_))
      | (exfalso; omega)
      | (exact absurd trivial (by assumption))
      | ((with_reducible refine e57 ?_ _ ?_ ?_ _ _) <;> (first | ((repeat (with_reducible first | assumption | exact pf_rf _ _ | (refine pf_up hu ?_ (by assumption)) | (refine pf_up1 hu ?_ (by decide)) | (refine pf_tr ?_ (by assumption)) | (refine pf_eq hu ?_ (by assumption)))); done) | omega | decide | (rw [wr_id ⟨by omega, by omega⟩]; omega)))
      | ((with_reducible refine last _ _ a1 a2 ?_) <;> (first | ((repeat (with_reducible first | assumption | exact pf_rf _ _ | (refine pf_up hu ?_ (by assumption)) | (refine pf_up1 hu ?_ (by decide)) | (refine pf_tr ?_ (by assumption)) | (refine pf_eq hu ?_ (by assumption)))); done) | omega | decide | (rw [wr_id ⟨by omega, by omega⟩]; omega)))
      | ((with_reducible refine h _ _ ?_) <;> (first | ((repeat (with_reducible first | assumption | exact pf_rf _ _ | (refine pf_up hu ?_ (by assumption)) | (refine pf_up1 hu ?_ (by decide)) | (refine pf_tr ?_ (by assumption)) | (refine pf_eq hu ?_ (by assumption)))); done) | omega | decide | (rw [wr_id ⟨by omega, by omega⟩]; omega)))
  exact c_33 (loop 0 (by decide) _ _ (by decide) (by decide) (pf_rf u g))
theorem rn_up {g : GH} {u x j v : Int} (hx : u ≠ x) (h : RN g u) : RN (up g x j v) u := by
  unfold RN at h ⊢
  rw [up_i hx, up_i hx]; exact h
theorem s_47 (hU : RU r u) (hu : UU u) (h : ∀ v g', PF u g g' → Q v g' r) : Ce sc (d + 1) 47 [(2, u)] g r Q := by
  refine c_47 ⟨hU.1, fun g1 e1 => ⟨hU.1, fun g2 e2 => h _ _ ⟨fun i hi y z k => ?_, fun q => ?_, ?_⟩⟩⟩
  · rw [e2, up_i z, e1, up_i z]
  · unfold RN
    rw [e2, up_s, up_j (by decide), e1, up_s]
    exact ⟨by decide, by decide⟩
  · rw [e2, up_i (fun q => hu.2 q.symm), e1, up_i (fun q => hu.2 q.symm)]
theorem s_48 (hU : RU r u) (hu : UU u) (hn : RN g u) (h1 : ∀ g', PF u g g' → Q 1 g' r) (h0 : ∀ g', PF u g g' → Q 0 g' r) : Ce sc (d + 1) 48 [(2, u), (0, l1)] g r Q := by
  obtain ⟨u1, u2, -, -, -, -⟩ := hU
  have hn0 := hn
  obtain ⟨n1, n2⟩ := hn
  have ne : u ≠ r u 0 := fun q => u2.2.2 (by rw [← q]; exact hu.1)
  refine c_48 ⟨u1, u1, u2.a (by decide) (by decide), ite_c (fun hi => ⟨u1, u1, ⟨u2.1, n1, hi⟩, fun g1 e1 => ⟨u1, u1, fun g2 e2 => ⟨by decide, h1 _ ⟨fun i hi y z k => ?_, fun q => ?_, ?_⟩⟩⟩⟩) (fun _ => ⟨by decide, h0 _ (pf_rf u g)⟩)⟩
  · have hx : i ≠ r u 0 := fun q => u2.2.2 (by rw [← q]; exact hi)
    rw [e2, up_i z, e1, up_i hx]
  · have m := u2.2.1
    unfold RN
    rw [e2, up_s, up_j (by decide), e1, up_i ne, up_i ne, wr_id ⟨by omega, by omega⟩]
    exact ⟨by omega, n2⟩
  · have hx : 1 ≠ r u 0 := fun q => u2.2.2 (by rw [← q]; unfold FP; omega)
    rw [e2, up_i (fun q => hu.2 q.symm), e1, up_i hx]
theorem s_49 (hU : RU r u) (hu : UU u) (hn : RN g u) (h1 : ∀ g', PF u g g' → Q 1 g' r) (h0 : ∀ g', PF u g g' → Q 0 g' r) : Ce sc (d + 2) 49 [(2, u), (0, l1), (0, l2), (0, l3)] g r Q :=
  c_49 ⟨hU.1, s_48 hU hu hn (fun g' e => ⟨Or.inr rfl, h1 g' e⟩) (fun g' e => ⟨Or.inl rfl, h0 g' e⟩)⟩
theorem s_50 (hU : RU r u) (hu : UU u) (hn : RN g u) (h1 : ∀ g', PF u g g' → Q 1 g' r) (h0 : ∀ g', PF u g g' → Q 0 g' r) : Ce sc (d + 1) 50 [(2, u), (0, l1)] g r Q := by
  obtain ⟨u1, u2, u3, u4, -, -⟩ := hU
  obtain ⟨n1, n2⟩ := hn
  have m3 := u3.2.1
  have ne2 : u ≠ r u 2 := fun q => u3.2.2 (by rw [← q]; exact hu.1)
  have ne3 : u ≠ r u 3 := fun q => u4.2.2 (by rw [← q]; exact hu.1)
  refine c_50 ⟨u1, u1, u3.a (by decide) (by decide), ite_c (fun hi => ⟨u1, u1, ⟨u3.1, n2, hi⟩, fun g1 e1 => ⟨u1, u1, u1, ?_, fun g2 e2 => ⟨u1, u1, fun g3 e3 => ⟨by decide, h1 _ ⟨fun i hi y z k => ?_, fun q => ?_, ?_⟩⟩⟩⟩⟩) (fun _ => ⟨by decide, h0 _ (pf_rf u g)⟩)⟩
  · rw [e1, up_i ne2]
    exact u4.i n2 (by omega)
  · have hx : i ≠ r u 2 := fun q => u3.2.2 (by rw [← q]; exact hi)
    have hy : i ≠ r u 3 := fun q => u4.2.2 (by rw [← q]; exact hi)
    rw [e3, up_i z, e2, up_i hy, e1, up_i hx]
  · unfold RN
    rw [e3, up_s, up_j (by decide), e2, up_i ne3, up_i ne3, e1, up_i ne2, up_i ne2, wr_id ⟨by omega, by omega⟩]
    exact ⟨n1, by omega⟩
  · have hx : 1 ≠ r u 2 := fun q => u3.2.2 (by rw [← q]; unfold FP; omega)
    have hy : 1 ≠ r u 3 := fun q => u4.2.2 (by rw [← q]; unfold FP; omega)
    rw [e3, up_i (fun q => hu.2 q.symm), e2, up_i hy, e1, up_i hx]
theorem s_45 (hr : RI r) (hU : RU r u) (hu : UU u) : ∀ (n : Nat) (y : Nat) (l2 : Int) (g : GH) (Q : QJ), 3 * n ≤ y → 9 ≤ l2 + n → 0 ≤ l2 → l2 ≤ 9 → RN g u → (∀ g', PF u g g' → Q 1 g' r) → (∀ g', PF u g g' → Q 0 g' r) → Ce sc (y + 6) 45 [(2, 1), (2, u), (0, l2)] g r Q := by
  intro n
  have k1 : okr 218 1 5 := okd (by decide +kernel)
  have u1 := hU.1
  have fin5 : ∀ (d : Nat) (g : GH) (Q : QJ), RN g u → (∀ g', PF u g g' → Q 1 g' r) → (∀ g', PF u g g' → Q 0 g' r) → ∀ (t0 : Int), WQ sc (d + 5) 45 Q 155 [(2, 1), (2, u), (9, 0), (9, 0), (9, 0), (9, 0)] [(0, t0)] g r := by
    intro d g Q hn h1 h0 t0
    have f2 : ∀ (l4 t1 : Int) g1, PF u g g1 → WQ sc (d + 5) 45 Q 205 [(2, 1), (2, u), (9, 0), (9, 0), (0, l4), (9, 0)] [(0, t1)] g1 r := by
      intro l4 t1 g1 e0
      refine b_45_205 ?_
      repeat' first
        | (with_reducible refine ite_01 ?_)
        | (with_reducible refine ite_00 ?_)
        | (with_reducible refine And.intro ?_ ?_; · first | assumption | decide | (exact AR.i (by assumption) (by omega) (by omega)) | (with_reducible exact i_2.mpr ⟨by omega, by omega⟩) | (exact AR.a (by assumption) (by decide) (by decide)) | (exact AR.k (by assumption)) | omega | (have := cmp_gt.mp (by assumption : 0 < cmpL _ 0); omega))
        | (refine ite_c (fun _ => ?_) (fun _ => ?_))
        | (intro _ e1; subst e1)
        | (with_reducible refine s_35 hr hu (fun _ _ _ => ?_))
        | (with_reducible refine s_36 hr (by first | assumption | (unfold okT; decide)) ?_ ?_)
        | (with_reducible refine s_37 hr ?_ ?_)
        | (with_reducible refine s_38 hr hu (by first | assumption | (unfold okT; decide)) (fun _ _ => ?_) (fun _ _ => ?_))
        | (with_reducible refine s_39 hr hu (fun _ _ => ?_) (fun _ _ => ?_))
        | (with_reducible refine s_40 hr hu (fun _ _ => ?_) (fun _ _ => ?_))
        | (with_reducible refine s_48 hU hu (rn_of (by (repeat (with_reducible first | assumption | exact pf_rf _ _ | (refine pf_up hu ?_ (by assumption)) | (refine pf_up1 hu ?_ (by decide)) | (refine pf_tr ?_ (by assumption)) | (refine pf_eq hu ?_ (by assumption))))) hn) (fun _ _ => ?_) (fun _ _ => ?_))
        | (with_reducible refine s_49 hU hu (rn_of (by (repeat (with_reducible first | assumption | exact pf_rf _ _ | (refine pf_up hu ?_ (by assumption)) | (refine pf_up1 hu ?_ (by decide)) | (refine pf_tr ?_ (by assumption)) | (refine pf_eq hu ?_ (by assumption))))) hn) (fun _ _ => ?_) (fun _ _ => ?_))
        | (exfalso; omega)
        | (exact absurd trivial (by assumption))
        | ((first | ((with_reducible refine h1 _ ?_); (repeat (with_reducible first | assumption | exact pf_rf _ _ | (refine pf_up hu ?_ (by assumption)) | (refine pf_up1 hu ?_ (by decide)) | (refine pf_tr ?_ (by assumption)) | (refine pf_eq hu ?_ (by assumption)))); done) | ((with_reducible refine h0 _ ?_); (repeat (with_reducible first | assumption | exact pf_rf _ _ | (refine pf_up hu ?_ (by assumption)) | (refine pf_up1 hu ?_ (by decide)) | (refine pf_tr ?_ (by assumption)) | (refine pf_eq hu ?_ (by assumption)))); done)))
    refine b_45_155 ?_
    repeat' first
      | (with_reducible refine ite_01 ?_)
      | (with_reducible refine ite_00 ?_)
      | (with_reducible refine And.intro ?_ ?_; · first | assumption | decide | (exact AR.i (by assumption) (by omega) (by omega)) | (with_reducible exact i_2.mpr ⟨by omega, by omega⟩) | (exact AR.a (by assumption) (by decide) (by decide)) | (exact AR.k (by assumption)) | omega | (have := cmp_gt.mp (by assumption : 0 < cmpL _ 0); omega))
      | (refine ite_c (fun _ => ?_) (fun _ => ?_))
      | (intro _ e1; subst e1)
      | (with_reducible refine s_35 hr hu (fun _ _ _ => ?_))
      | (with_reducible refine s_36 hr (by first | assumption | (unfold okT; decide)) ?_ ?_)
      | (with_reducible refine s_37 hr ?_ ?_)
      | (with_reducible refine s_38 hr hu (by first | assumption | (unfold okT; decide)) (fun _ _ => ?_) (fun _ _ => ?_))
      | (with_reducible refine s_39 hr hu (fun _ _ => ?_) (fun _ _ => ?_))
      | (with_reducible refine s_40 hr hu (fun _ _ => ?_) (fun _ _ => ?_))
      | (with_reducible refine s_48 hU hu (rn_of (by (repeat (with_reducible first | assumption | exact pf_rf _ _ | (refine pf_up hu ?_ (by assumption)) | (refine pf_up1 hu ?_ (by decide)) | (refine pf_tr ?_ (by assumption)) | (refine pf_eq hu ?_ (by assumption))))) hn) (fun _ _ => ?_) (fun _ _ => ?_))
      | (with_reducible refine s_49 hU hu (rn_of (by (repeat (with_reducible first | assumption | exact pf_rf _ _ | (refine pf_up hu ?_ (by assumption)) | (refine pf_up1 hu ?_ (by decide)) | (refine pf_tr ?_ (by assumption)) | (refine pf_eq hu ?_ (by assumption))))) hn) (fun _ _ => ?_) (fun _ _ => ?_))
      | (exfalso; omega)
      | (exact absurd trivial (by assumption))
      | ((with_reducible refine f2 _ _ _ ?_) <;> (first | ((repeat (with_reducible first | assumption | exact pf_rf _ _ | (refine pf_up hu ?_ (by assumption)) | (refine pf_up1 hu ?_ (by decide)) | (refine pf_tr ?_ (by assumption)) | (refine pf_eq hu ?_ (by assumption)))); done) | omega | decide | (rw [wr_id ⟨by omega, by omega⟩]; omega)))
      | ((first | ((with_reducible refine h1 _ ?_); (repeat (with_reducible first | assumption | exact pf_rf _ _ | (refine pf_up hu ?_ (by assumption)) | (refine pf_up1 hu ?_ (by decide)) | (refine pf_tr ?_ (by assumption)) | (refine pf_eq hu ?_ (by assumption)))); done) | ((with_reducible refine h0 _ ?_); (repeat (with_reducible first | assumption | exact pf_rf _ _ | (refine pf_up hu ?_ (by assumption)) | (refine pf_up1 hu ?_ (by decide)) | (refine pf_tr ?_ (by assumption)) | (refine pf_eq hu ?_ (by assumption)))); done)))
  have all5 : ∀ (d : Nat) (l2 : Int) (g : GH) (Q : QJ), RN g u → (∀ g', PF u g g' → Q 1 g' r) → (∀ g', PF u g g' → Q 0 g' r) → (∀ (l3 : Int), WQ sc (d + 5) 45 Q 20 [(2, 1), (2, u), (0, l2), (0, l3), (9, 0), (9, 0)] [] g r) → Ce sc (d + 6) 45 [(2, 1), (2, u), (0, l2)] g r Q := by
    intro d l2 g Q hn h1 h0 f20
    have f5 : ∀ (g1 : GH), PF u g g1 → ∀ (t0 : Int), WQ sc (d + 5) 45 Q 155 [(2, 1), (2, u), (9, 0), (9, 0), (9, 0), (9, 0)] [(0, t0)] g1 r := fun g1 e1 => fin5 d g1 Q (e1.2.1 hn) (fun g2 e2 => h1 g2 (pf_tr e1 e2)) (fun g2 e2 => h0 g2 (pf_tr e1 e2))
    refine c_45 ?_
    repeat' first
      | (with_reducible refine ite_01 ?_)
      | (with_reducible refine ite_00 ?_)
      | (with_reducible refine And.intro ?_ ?_; · first | assumption | decide | (exact AR.i (by assumption) (by omega) (by omega)) | (with_reducible exact i_2.mpr ⟨by omega, by omega⟩) | (exact AR.a (by assumption) (by decide) (by decide)) | (exact AR.k (by assumption)) | omega | (have := cmp_gt.mp (by assumption : 0 < cmpL _ 0); omega))
      | (refine ite_c (fun _ => ?_) (fun _ => ?_))
      | (intro _ e1; subst e1)
      | (with_reducible refine s_35 hr hu (fun _ _ _ => ?_))
      | (with_reducible refine s_36 hr (by first | assumption | (unfold okT; decide)) ?_ ?_)
      | (with_reducible refine s_37 hr ?_ ?_)
      | (with_reducible refine s_38 hr hu (by first | assumption | (unfold okT; decide)) (fun _ _ => ?_) (fun _ _ => ?_))
      | (with_reducible refine s_39 hr hu (fun _ _ => ?_) (fun _ _ => ?_))
      | (with_reducible refine s_40 hr hu (fun _ _ => ?_) (fun _ _ => ?_))
      | (with_reducible refine s_48 hU hu (rn_of (by (repeat (with_reducible first | assumption | exact pf_rf _ _ | (refine pf_up hu ?_ (by assumption)) | (refine pf_up1 hu ?_ (by decide)) | (refine pf_tr ?_ (by assumption)) | (refine pf_eq hu ?_ (by assumption))))) hn) (fun _ _ => ?_) (fun _ _ => ?_))
      | (with_reducible refine s_49 hU hu (rn_of (by (repeat (with_reducible first | assumption | exact pf_rf _ _ | (refine pf_up hu ?_ (by assumption)) | (refine pf_up1 hu ?_ (by decide)) | (refine pf_tr ?_ (by assumption)) | (refine pf_eq hu ?_ (by assumption))))) hn) (fun _ _ => ?_) (fun _ _ => ?_))
      | (exfalso; omega)
      | (exact absurd trivial (by assumption))
      | ((with_reducible refine f20 _))
      | ((with_reducible refine f5 _ ?_ _) <;> (first | ((repeat (with_reducible first | assumption | exact pf_rf _ _ | (refine pf_up hu ?_ (by assumption)) | (refine pf_up1 hu ?_ (by decide)) | (refine pf_tr ?_ (by assumption)) | (refine pf_eq hu ?_ (by assumption)))); done) | omega | decide | (rw [wr_id ⟨by omega, by omega⟩]; omega)))
      | ((first | ((with_reducible refine h1 _ ?_); (repeat (with_reducible first | assumption | exact pf_rf _ _ | (refine pf_up hu ?_ (by assumption)) | (refine pf_up1 hu ?_ (by decide)) | (refine pf_tr ?_ (by assumption)) | (refine pf_eq hu ?_ (by assumption)))); done) | ((with_reducible refine h0 _ ?_); (repeat (with_reducible first | assumption | exact pf_rf _ _ | (refine pf_up hu ?_ (by assumption)) | (refine pf_up1 hu ?_ (by decide)) | (refine pf_tr ?_ (by assumption)) | (refine pf_eq hu ?_ (by assumption)))); done)))
  induction n with
  | zero =>
    intro y l2 g Q _ hn9 h20 h29 hn h1 h0
    refine all5 y l2 g Q hn h1 h0 fun l3 => ?_
    refine b_45_20 ?_
    rw [if_neg (by omega)]
    exact ⟨by decide, h0 _ (pf_rf u g)⟩
  | succ n ih =>
    intro y l2 g Q hy hn9 h20 h29 hn h1 h0
    obtain ⟨z, rfl⟩ : ∃ z, y = z + 3 := ⟨y - 3, by omega⟩
    have c44 : ∀ (g : GH) (Q : QJ) (l2 : Int), 9 ≤ l2 + n → 0 ≤ l2 → l2 ≤ 9 → RN g u → (∀ g', PF u g g' → Q 1 g' r) → (∀ g', PF u g g' → Q 0 g' r) → Ce sc (z + 7) 44 [(2, 1), (2, u), (0, l2)] g r Q := by
      intro g Q l2 a1 a2 a3 hn h1 h0
      have loop : ∀ l4 : Int, -2147483648 ≤ l4 → ∀ (l3 : Int) g1, (l3 = 0 ∨ l3 = 1) → PF u g g1 → WQ sc (z + 6) 44 Q 10 [(2, 1), (2, u), (0, l2), (0, l3), (0, l4)] [] g1 r := by
        refine upW 700 (by decide) fun l4 _ ih4 l3 g1 hb e0 => ?_
        have end4 : (l3 = 0 ∨ l3 = 1) ∧ Q l3 g1 r := ⟨hb, by rcases hb with rfl | rfl <;> first | exact h0 _ e0 | exact h1 _ e0⟩
        refine b_44_10 (ite_c (fun hi => ite_c (fun _ => end4) (fun hz => ⟨k1, ?_⟩)) (fun _ => end4))
        have e1 : l3 = 1 := by omega
        subst e1
        refine s_38 hr hu (by unfold okT; decide) (fun g2 e2 => ?_) (fun g2 e2 => ?_)
        · rw [if_neg (by decide)]
          refine ⟨k1, ih z l2 g2 _ (by omega) a1 a2 a3 ((pf_tr e0 e2).2.1 hn) (fun g3 e3 => ?_) (fun g3 e3 => ?_)⟩
          · rw [if_neg (by decide)]
            refine ⟨u1, s_48 hU hu ((pf_tr (pf_tr e0 e2) e3).2.1 hn) (fun g4 e4 => ?_) (fun g4 e4 => ?_)⟩
            · rw [if_neg (by decide)]; exact ih4 hi _ _ (Or.inr rfl) (pf_tr (pf_tr (pf_tr e0 e2) e3) e4)
            · rw [if_pos rfl]; exact ih4 hi _ _ (Or.inl rfl) (pf_tr (pf_tr (pf_tr e0 e2) e3) e4)
          · rw [if_pos rfl]; exact ih4 hi _ _ (Or.inl rfl) (pf_tr (pf_tr e0 e2) e3)
        · rw [if_pos rfl]; exact ⟨Or.inr rfl, h1 _ (pf_tr e0 e2)⟩
      exact c_44 ⟨k1, ih z l2 g _ (by omega) a1 a2 a3 hn (fun g1 e1 => loop 0 (by decide) 1 g1 (Or.inr rfl) e1) (fun g1 e1 => loop 0 (by decide) 0 g1 (Or.inl rfl) e1)⟩
    have c43 : ∀ (g : GH) (Q : QJ) (l2 : Int), 9 ≤ l2 + n → 0 ≤ l2 → l2 ≤ 9 → RN g u → (∀ g', PF u g g' → Q 1 g' r) → (∀ g', PF u g g' → Q 0 g' r) → Ce sc (z + 8) 43 [(2, 1), (2, u), (0, l2)] g r Q := by
      intro g Q l2 a1 a2 a3 hn h1 h0
      have loop : ∀ l4 : Int, -2147483648 ≤ l4 → ∀ (l3 : Int) g1, (l3 = 0 ∨ l3 = 1) → PF u g g1 → WQ sc (z + 7) 43 Q 10 [(2, 1), (2, u), (0, l2), (0, l3), (0, l4)] [] g1 r := by
        refine upW 700 (by decide) fun l4 _ ih4 l3 g1 hb e0 => ?_
        have end4 : (l3 = 0 ∨ l3 = 1) ∧ Q l3 g1 r := ⟨hb, by rcases hb with rfl | rfl <;> first | exact h0 _ e0 | exact h1 _ e0⟩
        refine b_43_10 (ite_c (fun hi => ite_c (fun _ => end4) (fun hz => ⟨k1, ?_⟩)) (fun _ => end4))
        have e1 : l3 = 1 := by omega
        subst e1
        refine s_38 hr hu (by unfold okT; decide) (fun g2 e2 => ?_) (fun g2 e2 => ?_)
        · rw [if_neg (by decide)]
          refine ⟨k1, c44 g2 _ l2 a1 a2 a3 ((pf_tr e0 e2).2.1 hn) (fun g3 e3 => ?_) (fun g3 e3 => ?_)⟩
          · rw [if_neg (by decide)]
            refine ⟨u1, s_48 hU hu ((pf_tr (pf_tr e0 e2) e3).2.1 hn) (fun g4 e4 => ?_) (fun g4 e4 => ?_)⟩
            · rw [if_neg (by decide)]; exact ih4 hi _ _ (Or.inr rfl) (pf_tr (pf_tr (pf_tr e0 e2) e3) e4)
            · rw [if_pos rfl]; exact ih4 hi _ _ (Or.inl rfl) (pf_tr (pf_tr (pf_tr e0 e2) e3) e4)
          · rw [if_pos rfl]; exact ih4 hi _ _ (Or.inl rfl) (pf_tr (pf_tr e0 e2) e3)
        · rw [if_pos rfl]; exact ⟨Or.inr rfl, h1 _ (pf_tr e0 e2)⟩
      exact c_43 ⟨k1, c44 g _ l2 a1 a2 a3 hn (fun g1 e1 => loop 0 (by decide) 1 g1 (Or.inr rfl) e1) (fun g1 e1 => loop 0 (by decide) 0 g1 (Or.inl rfl) e1)⟩
    refine all5 (z + 3) l2 g Q hn h1 h0 fun l3 => ?_
    refine b_45_20 (ite_c (fun hi => ⟨k1, s_35 hr hu (fun v1 g1 e1 => ?_)⟩) (fun _ => ⟨by decide, h0 _ (pf_rf u g)⟩))
    rw [wr_id (x := l2 + 1) ⟨by omega, by omega⟩]
    refine ite_c (fun _ => ⟨k1, c43 g1 _ (l2 + 1) (by omega) (by omega) (by omega) (e1.2.1 hn) (fun g2 e2 => ?_) (fun g2 e2 => ?_)⟩) (fun _ => ⟨k1, ih (z + 2) (l2 + 1) g1 _ (by omega) (by omega) (by omega) (by omega) (e1.2.1 hn) (fun g2 e2 => ?_) (fun g2 e2 => ?_)⟩)
    · rw [if_neg (by decide)]
      refine ⟨k1, s_39 hr hu (fun g3 e3 => ?_) (fun g3 e3 => ?_)⟩
      · rw [if_neg (by decide)]; exact ⟨by decide, h1 _ (pf_tr (pf_tr e1 e2) e3)⟩
      · rw [if_pos rfl]; exact ⟨by decide, h0 _ (pf_tr (pf_tr e1 e2) e3)⟩
    · rw [if_pos rfl]; exact ⟨by decide, h0 _ (pf_tr e1 e2)⟩
    · rw [if_neg (by decide)]
      refine ⟨u1, s_48 hU hu ((pf_tr e1 e2).2.1 hn) (fun g3 e3 => ?_) (fun g3 e3 => ?_)⟩
      · rw [if_neg (by decide)]; exact ⟨by decide, h1 _ (pf_tr (pf_tr e1 e2) e3)⟩
      · rw [if_pos rfl]; exact ⟨by decide, h0 _ (pf_tr (pf_tr e1 e2) e3)⟩
    · rw [if_pos rfl]; exact ⟨by decide, h0 _ (pf_tr e1 e2)⟩
theorem s_44 (hr : RI r) (hU : RU r u) (hu : UU u) (hn : RN g u) (h1 : ∀ g', PF u g g' → Q 1 g' r) (h0 : ∀ g', PF u g g' → Q 0 g' r) : Ce sc (d + 34) 44 [(2, 1), (2, u), (0, 0)] g r Q := by
  have k1 : okr 218 1 5 := okd (by decide +kernel)
  have u1 := hU.1
  have loop : ∀ l4 : Int, -2147483648 ≤ l4 → ∀ (l3 : Int) g1, (l3 = 0 ∨ l3 = 1) → PF u g g1 → WQ sc (d + 33) 44 Q 10 [(2, 1), (2, u), (0, 0), (0, l3), (0, l4)] [] g1 r := by
    refine upW 700 (by decide) fun l4 _ ih4 l3 g1 hb e0 => ?_
    have end4 : (l3 = 0 ∨ l3 = 1) ∧ Q l3 g1 r := ⟨hb, by rcases hb with rfl | rfl <;> first | exact h0 _ e0 | exact h1 _ e0⟩
    refine b_44_10 (ite_c (fun hi => ite_c (fun _ => end4) (fun hz => ⟨k1, ?_⟩)) (fun _ => end4))
    have e1 : l3 = 1 := by omega
    subst e1
    refine s_38 hr hu (by unfold okT; decide) (fun g2 e2 => ?_) (fun g2 e2 => ?_)
    · rw [if_neg (by decide)]
      refine ⟨k1, s_45 hr hU hu 9 (d + 27) 0 g2 _ (by omega) (by decide) (by decide) (by decide) ((pf_tr e0 e2).2.1 hn) (fun g3 e3 => ?_) (fun g3 e3 => ?_)⟩
      · rw [if_neg (by decide)]
        refine ⟨u1, s_48 hU hu ((pf_tr (pf_tr e0 e2) e3).2.1 hn) (fun g4 e4 => ?_) (fun g4 e4 => ?_)⟩
        · rw [if_neg (by decide)]; exact ih4 hi _ _ (Or.inr rfl) (pf_tr (pf_tr (pf_tr e0 e2) e3) e4)
        · rw [if_pos rfl]; exact ih4 hi _ _ (Or.inl rfl) (pf_tr (pf_tr (pf_tr e0 e2) e3) e4)
      · rw [if_pos rfl]; exact ih4 hi _ _ (Or.inl rfl) (pf_tr (pf_tr e0 e2) e3)
    · rw [if_pos rfl]; exact ⟨Or.inr rfl, h1 _ (pf_tr e0 e2)⟩
  exact c_44 ⟨k1, s_45 hr hU hu 9 (d + 27) 0 g _ (by omega) (by decide) (by decide) (by decide) hn (fun g1 e1 => loop 0 (by decide) 1 g1 (Or.inr rfl) e1) (fun g1 e1 => loop 0 (by decide) 0 g1 (Or.inl rfl) e1)⟩
theorem s_43 (hr : RI r) (hU : RU r u) (hu : UU u) (hn : RN g u) (h1 : ∀ g', PF u g g' → Q 1 g' r) (h0 : ∀ g', PF u g g' → Q 0 g' r) : Ce sc (d + 35) 43 [(2, 1), (2, u), (0, 0)] g r Q := by
  have k1 : okr 218 1 5 := okd (by decide +kernel)
  have u1 := hU.1
  have loop : ∀ l4 : Int, -2147483648 ≤ l4 → ∀ (l3 : Int) g1, (l3 = 0 ∨ l3 = 1) → PF u g g1 → WQ sc (d + 34) 43 Q 10 [(2, 1), (2, u), (0, 0), (0, l3), (0, l4)] [] g1 r := by
    refine upW 700 (by decide) fun l4 _ ih4 l3 g1 hb e0 => ?_
    have end4 : (l3 = 0 ∨ l3 = 1) ∧ Q l3 g1 r := ⟨hb, by rcases hb with rfl | rfl <;> first | exact h0 _ e0 | exact h1 _ e0⟩
    refine b_43_10 (ite_c (fun hi => ite_c (fun _ => end4) (fun hz => ⟨k1, ?_⟩)) (fun _ => end4))
    have e1 : l3 = 1 := by omega
    subst e1
    refine s_38 hr hu (by unfold okT; decide) (fun g2 e2 => ?_) (fun g2 e2 => ?_)
    · rw [if_neg (by decide)]
      refine ⟨k1, s_44 hr hU hu ((pf_tr e0 e2).2.1 hn) (fun g3 e3 => ?_) (fun g3 e3 => ?_)⟩
      · rw [if_neg (by decide)]
        refine ⟨u1, s_48 hU hu ((pf_tr (pf_tr e0 e2) e3).2.1 hn) (fun g4 e4 => ?_) (fun g4 e4 => ?_)⟩
        · rw [if_neg (by decide)]; exact ih4 hi _ _ (Or.inr rfl) (pf_tr (pf_tr (pf_tr e0 e2) e3) e4)
        · rw [if_pos rfl]; exact ih4 hi _ _ (Or.inl rfl) (pf_tr (pf_tr (pf_tr e0 e2) e3) e4)
      · rw [if_pos rfl]; exact ih4 hi _ _ (Or.inl rfl) (pf_tr (pf_tr e0 e2) e3)
    · rw [if_pos rfl]; exact ⟨Or.inr rfl, h1 _ (pf_tr e0 e2)⟩
  exact c_43 ⟨k1, s_44 hr hU hu hn (fun g1 e1 => loop 0 (by decide) 1 g1 (Or.inr rfl) e1) (fun g1 e1 => loop 0 (by decide) 0 g1 (Or.inl rfl) e1)⟩
theorem s_41 (hr : RI r) (hu : UU u) (hW : WH r l1) (h1 : ∀ g', PF u g g' → Q 1 g' r) (h0 : ∀ g', PF u g g' → Q 0 g' r) : Ce sc (d + 6) 41 [(2, 1), (2, l1)] g r Q := by
  have k1 : okr 218 1 5 := okd (by decide +kernel)
  have t3 : AR 3 11 701 := ar_of (by decide +kernel) (by decide +kernel) (by decide +kernel)
  have t4 : AR 4 11 701 := ar_of (by decide +kernel) (by decide +kernel) (by decide +kernel)
  have t5 : AR 5 11 701 := ar_of (by decide +kernel) (by decide +kernel) (by decide +kernel)
  have m3 := t3.2.1
  have q3 := t3.2.2
  have q4 := t4.2.2
  have q5 := t5.2.2
  have w1 := hW.1
  have w2 := hW.2.1
  have e173 : ∀ g1, PF u g g1 → WQ sc (d + 5) 41 Q 173 [(2, 1), (2, l1)] [] g1 r := by
    intro g1 e0
    refine b_41_173 ?_
    repeat' first
      | (with_reducible refine ite_01 ?_)
      | (with_reducible refine ite_00 ?_)
      | (with_reducible refine And.intro ?_ ?_; · first | assumption | decide | (exact AR.i (by assumption) (by omega) (by omega)) | (with_reducible exact i_2.mpr ⟨by omega, by omega⟩) | (exact AR.a (by assumption) (by decide) (by decide)) | (exact AR.k (by assumption)) | omega | (have := cmp_gt.mp (by assumption : 0 < cmpL _ 0); omega))
      | (refine ite_c (fun _ => ?_) (fun _ => ?_))
      | (intro _ e1; subst e1)
      | (with_reducible refine s_38 hr hu (by first | assumption | (unfold okT; decide)) (fun _ _ => ?_) (fun _ _ => ?_))
      | (with_reducible refine s_39 hr hu (fun _ _ => ?_) (fun _ _ => ?_))
      | (with_reducible refine s_40 hr hu (fun _ _ => ?_) (fun _ _ => ?_))
      | (exfalso; omega)
      | (exact absurd trivial (by assumption))
      | ((first | ((with_reducible refine h1 _ ?_); (repeat (with_reducible first | assumption | exact pf_rf _ _ | (refine pf_up hu ?_ (by assumption)) | (refine pf_up1 hu ?_ (by decide)) | (refine pf_tr ?_ (by assumption)) | (refine pf_eq hu ?_ (by assumption)))); done) | ((with_reducible refine h0 _ ?_); (repeat (with_reducible first | assumption | exact pf_rf _ _ | (refine pf_up hu ?_ (by assumption)) | (refine pf_up1 hu ?_ (by decide)) | (refine pf_tr ?_ (by assumption)) | (refine pf_eq hu ?_ (by assumption)))); done)))
  have e37 : ∀ g1, PF u g g1 → WQ sc (d + 5) 41 Q 37 [(2, 1), (2, l1)] [] g1 r := by
    intro g1 e0
    refine b_41_37 ?_
    repeat' first
      | (with_reducible refine ite_01 ?_)
      | (with_reducible refine ite_00 ?_)
      | (with_reducible refine And.intro ?_ ?_; · first | assumption | decide | (exact AR.i (by assumption) (by omega) (by omega)) | (with_reducible exact i_2.mpr ⟨by omega, by omega⟩) | (exact AR.a (by assumption) (by decide) (by decide)) | (exact AR.k (by assumption)) | omega | (have := cmp_gt.mp (by assumption : 0 < cmpL _ 0); omega))
      | (refine ite_c (fun _ => ?_) (fun _ => ?_))
      | (intro _ e1; subst e1)
      | (with_reducible refine s_38 hr hu (by first | assumption | (unfold okT; decide)) (fun _ _ => ?_) (fun _ _ => ?_))
      | (with_reducible refine s_39 hr hu (fun _ _ => ?_) (fun _ _ => ?_))
      | (with_reducible refine s_40 hr hu (fun _ _ => ?_) (fun _ _ => ?_))
      | (exfalso; omega)
      | (exact absurd trivial (by assumption))
      | ((with_reducible refine e173 _ ?_) <;> (first | ((repeat (with_reducible first | assumption | exact pf_rf _ _ | (refine pf_up hu ?_ (by assumption)) | (refine pf_up1 hu ?_ (by decide)) | (refine pf_tr ?_ (by assumption)) | (refine pf_eq hu ?_ (by assumption)))); done) | omega | decide | (rw [wr_id ⟨by omega, by omega⟩]; omega)))
      | ((first | ((with_reducible refine h1 _ ?_); (repeat (with_reducible first | assumption | exact pf_rf _ _ | (refine pf_up hu ?_ (by assumption)) | (refine pf_up1 hu ?_ (by decide)) | (refine pf_tr ?_ (by assumption)) | (refine pf_eq hu ?_ (by assumption)))); done) | ((with_reducible refine h0 _ ?_); (repeat (with_reducible first | assumption | exact pf_rf _ _ | (refine pf_up hu ?_ (by assumption)) | (refine pf_up1 hu ?_ (by decide)) | (refine pf_tr ?_ (by assumption)) | (refine pf_eq hu ?_ (by assumption)))); done)))
  refine c_41 ?_
  repeat' first
    | (with_reducible refine ite_01 ?_)
    | (with_reducible refine ite_00 ?_)
    | (with_reducible refine And.intro ?_ ?_; · first | assumption | decide | (exact AR.i (by assumption) (by omega) (by omega)) | (with_reducible exact i_2.mpr ⟨by omega, by omega⟩) | (exact AR.a (by assumption) (by decide) (by decide)) | (exact AR.k (by assumption)) | omega | (have := cmp_gt.mp (by assumption : 0 < cmpL _ 0); omega))
    | (refine ite_c (fun _ => ?_) (fun _ => ?_))
    | (intro _ e1; subst e1)
    | (with_reducible refine s_38 hr hu (by first | assumption | (unfold okT; decide)) (fun _ _ => ?_) (fun _ _ => ?_))
    | (with_reducible refine s_39 hr hu (fun _ _ => ?_) (fun _ _ => ?_))
    | (with_reducible refine s_40 hr hu (fun _ _ => ?_) (fun _ _ => ?_))
    | (exfalso; omega)
    | (exact absurd trivial (by assumption))
    | ((with_reducible refine e37 _ ?_) <;> (first | ((repeat (with_reducible first | assumption | exact pf_rf _ _ | (refine pf_up hu ?_ (by assumption)) | (refine pf_up1 hu ?_ (by decide)) | (refine pf_tr ?_ (by assumption)) | (refine pf_eq hu ?_ (by assumption)))); done) | omega | decide | (rw [wr_id ⟨by omega, by omega⟩]; omega)))
    | ((first | ((with_reducible refine h1 _ ?_); (repeat (with_reducible first | assumption | exact pf_rf _ _ | (refine pf_up hu ?_ (by assumption)) | (refine pf_up1 hu ?_ (by decide)) | (refine pf_tr ?_ (by assumption)) | (refine pf_eq hu ?_ (by assumption)))); done) | ((with_reducible refine h0 _ ?_); (repeat (with_reducible first | assumption | exact pf_rf _ _ | (refine pf_up hu ?_ (by assumption)) | (refine pf_up1 hu ?_ (by decide)) | (refine pf_tr ?_ (by assumption)) | (refine pf_eq hu ?_ (by assumption)))); done)))
theorem s_42 (hr : RI r) (hM : ML r l1) (hu : UU (r l1 4)) (hn : RN g (r l1 4)) (h1 : ∀ g', PF (r l1 4) g g' → Q 1 g' r) (h0 : ∀ g', PF (r l1 4) g g' → Q 0 g' r) : Ce sc (d + 36) 42 [(2, 1), (2, l1)] g r Q := by
  have k1 : okr 218 1 5 := okd (by decide +kernel)
  have t3 : AR 3 11 701 := ar_of (by decide +kernel) (by decide +kernel) (by decide +kernel)
  have t4 : AR 4 11 701 := ar_of (by decide +kernel) (by decide +kernel) (by decide +kernel)
  have t5 : AR 5 11 701 := ar_of (by decide +kernel) (by decide +kernel) (by decide +kernel)
  have m3 := t3.2.1
  have q3 := t3.2.2
  have q4 := t4.2.2
  have q5 := t5.2.2
  obtain ⟨m1, m2, hW, hU⟩ := hM
  have w1 := hW.1
  have w2 := hW.2.1
  have u1 := hU.1
  have e169 : ∀ (l3 : Int) g1, PF (r l1 4) g g1 → WQ sc (d + 35) 42 Q 169 [(2, 1), (2, l1), (9, 0), (0, l3)] [] g1 r := by
    intro l3 g1 e0
    refine b_42_169 ?_
    repeat' first
      | (with_reducible refine ite_01 ?_)
      | (with_reducible refine ite_00 ?_)
      | (with_reducible refine And.intro ?_ ?_; · first | assumption | decide | (exact AR.i (by assumption) (by omega) (by omega)) | (with_reducible exact i_2.mpr ⟨by omega, by omega⟩) | (exact AR.a (by assumption) (by decide) (by decide)) | (exact AR.k (by assumption)) | omega | (have := cmp_gt.mp (by assumption : 0 < cmpL _ 0); omega))
      | (refine ite_c (fun _ => ?_) (fun _ => ?_))
      | (intro _ e1; subst e1)
      | (with_reducible refine s_38 hr hu (by first | assumption | (unfold okT; decide)) (fun _ _ => ?_) (fun _ _ => ?_))
      | (with_reducible refine s_39 hr hu (fun _ _ => ?_) (fun _ _ => ?_))
      | (with_reducible refine s_40 hr hu (fun _ _ => ?_) (fun _ _ => ?_))
      | (with_reducible refine s_43 hr hU hu (rn_of (by (repeat (with_reducible first | assumption | exact pf_rf _ _ | (refine pf_up hu ?_ (by assumption)) | (refine pf_up1 hu ?_ (by decide)) | (refine pf_tr ?_ (by assumption)) | (refine pf_eq hu ?_ (by assumption))))) hn) (fun _ _ => ?_) (fun _ _ => ?_))
      | (with_reducible refine s_50 hU hu (rn_of (by (repeat (with_reducible first | assumption | exact pf_rf _ _ | (refine pf_up hu ?_ (by assumption)) | (refine pf_up1 hu ?_ (by decide)) | (refine pf_tr ?_ (by assumption)) | (refine pf_eq hu ?_ (by assumption))))) hn) (fun _ _ => ?_) (fun _ _ => ?_))
      | (exfalso; omega)
      | (exact absurd trivial (by assumption))
      | ((first | ((with_reducible refine h1 _ ?_); (repeat (with_reducible first | assumption | exact pf_rf _ _ | (refine pf_up hu ?_ (by assumption)) | (refine pf_up1 hu ?_ (by decide)) | (refine pf_tr ?_ (by assumption)) | (refine pf_eq hu ?_ (by assumption)))); done) | ((with_reducible refine h0 _ ?_); (repeat (with_reducible first | assumption | exact pf_rf _ _ | (refine pf_up hu ?_ (by assumption)) | (refine pf_up1 hu ?_ (by decide)) | (refine pf_tr ?_ (by assumption)) | (refine pf_eq hu ?_ (by assumption)))); done)))
  refine c_42 ?_
  repeat' first
    | (with_reducible refine ite_01 ?_)
    | (with_reducible refine ite_00 ?_)
    | (with_reducible refine And.intro ?_ ?_; · first | assumption | decide | (exact AR.i (by assumption) (by omega) (by omega)) | (with_reducible exact i_2.mpr ⟨by omega, by omega⟩) | (exact AR.a (by assumption) (by decide) (by decide)) | (exact AR.k (by assumption)) | omega | (have := cmp_gt.mp (by assumption : 0 < cmpL _ 0); omega))
    | (refine ite_c (fun _ => ?_) (fun _ => ?_))
    | (intro _ e1; subst e1)
    | (with_reducible refine s_38 hr hu (by first | assumption | (unfold okT; decide)) (fun _ _ => ?_) (fun _ _ => ?_))
    | (with_reducible refine s_39 hr hu (fun _ _ => ?_) (fun _ _ => ?_))
    | (with_reducible refine s_40 hr hu (fun _ _ => ?_) (fun _ _ => ?_))
    | (with_reducible refine s_43 hr hU hu (rn_of (by (repeat (with_reducible first | assumption | exact pf_rf _ _ | (refine pf_up hu ?_ (by assumption)) | (refine pf_up1 hu ?_ (by decide)) | (refine pf_tr ?_ (by assumption)) | (refine pf_eq hu ?_ (by assumption))))) hn) (fun _ _ => ?_) (fun _ _ => ?_))
    | (with_reducible refine s_50 hU hu (rn_of (by (repeat (with_reducible first | assumption | exact pf_rf _ _ | (refine pf_up hu ?_ (by assumption)) | (refine pf_up1 hu ?_ (by decide)) | (refine pf_tr ?_ (by assumption)) | (refine pf_eq hu ?_ (by assumption))))) hn) (fun _ _ => ?_) (fun _ _ => ?_))
    | (exfalso; omega)
    | (exact absurd trivial (by assumption))
    | ((with_reducible refine e169 _ _ ?_) <;> (first | ((repeat (with_reducible first | assumption | exact pf_rf _ _ | (refine pf_up hu ?_ (by assumption)) | (refine pf_up1 hu ?_ (by decide)) | (refine pf_tr ?_ (by assumption)) | (refine pf_eq hu ?_ (by assumption)))); done) | omega | decide | (rw [wr_id ⟨by omega, by omega⟩]; omega)))
    | ((first | ((with_reducible refine h1 _ ?_); (repeat (with_reducible first | assumption | exact pf_rf _ _ | (refine pf_up hu ?_ (by assumption)) | (refine pf_up1 hu ?_ (by decide)) | (refine pf_tr ?_ (by assumption)) | (refine pf_eq hu ?_ (by assumption)))); done) | ((with_reducible refine h0 _ ?_); (repeat (with_reducible first | assumption | exact pf_rf _ _ | (refine pf_up hu ?_ (by assumption)) | (refine pf_up1 hu ?_ (by decide)) | (refine pf_tr ?_ (by assumption)) | (refine pf_eq hu ?_ (by assumption)))); done)))
theorem s_20 (hM : ML r l0) (hu : UU (r l0 4)) (h : ∀ v g', PF (r l0 4) g g' → Q v g' r) : Ce sc (d + 2) 20 [(2, l0)] g r Q := by
  obtain ⟨m1, m2, hW, hU⟩ := hM
  have w1 := hW.1
  have w2 := hW.2.1
  have u1 := hU.1
  refine c_20 ⟨m1, by decide, fun g1 e1 => ⟨m1, w1, c_55 ⟨w1, fun h1 a1 => ⟨w1, fun h2 a2 => ⟨w1, fun h3 a3 => ⟨w1, fun h4 a4 => ⟨m1, fun h5 a5 => ⟨m1, fun h6 a6 => ⟨m1, u1, s_47 hU hu (fun v g' e => h _ _ (pf_tr ?_ e))⟩⟩⟩⟩⟩⟩⟩⟩⟩
  subst e1 a1 a2 a3 a4 a5 a6
  exact pf_up hu (pf_up hu (pf_up hu (pf_up hu (pf_up hu (pf_up hu (pf_up hu (pf_rf _ _) m2) w2) w2) w2) w2) m2) m2
theorem s_21 (hM : ML r l0) (h : ∀ v g', EQ g g' → Q v g' r) : Ce sc (d + 5) 21 [(2, l0)] g r Q := by
  obtain ⟨m1, m2, hW, hU⟩ := hM
  have w1 := hW.1
  have b0 := hW.2.2
  have b1 := b0.1
  have hne := hW.ne
  refine c_21 ⟨m1, by decide, fun g1 e1 => ⟨m1, w1, m1, b1, s_9 b0 w1 hne (fun v g' e => h _ _ (EQ.tr ?_ e))⟩⟩
  subst e1
  exact (EQ.rf g).up m2
theorem s_32 (hr : RI r) (hM : ML r l1) (hu : UU (r l1 4)) (hn : RN g (r l1 4)) (ht : 0 ≤ g 1 1 ∧ g 1 1 ≤ 700) (hl : 0 ≤ l2) (h : ∀ v g', PF2 (r l1 4) g g' → Q v g' r) : Ce sc (d + 37) 32 [(2, 1), (2, l1), (0, l2)] g r Q := by
  have k1 : okr 218 1 5 := okd (by decide +kernel)
  have t3 : AR 3 11 701 := ar_of (by decide +kernel) (by decide +kernel) (by decide +kernel)
  have t4 : AR 4 11 701 := ar_of (by decide +kernel) (by decide +kernel) (by decide +kernel)
  have t5 : AR 5 11 701 := ar_of (by decide +kernel) (by decide +kernel) (by decide +kernel)
  have m3 := t3.2.1
  have q3 := t3.2.2
  have q4 := t4.2.2
  have q5 := t5.2.2
  have hM0 := hM
  obtain ⟨m1, m2, hW, hU⟩ := hM
  have w1 := hW.1
  have loop : ∀ l4 : Int, -2147483648 ≤ l4 → ∀ (l3 : Int) g1, PF2 (r l1 4) g g1 → WQ sc (d + 36) 32 Q 38 [(2, 1), (2, l1), (9, 0), (0, l3), (0, l4)] [] g1 r := by
    refine upW 30 (by decide) fun l4 _ ih l3 g1 e0 => ?_
    have hn1 := e0.rn hn
    have fin : okr 218 1 5 ∧ okr 218 1 5 ∧ ∀ g2, g2 = up g1 1 2 (g1 1 8) → Q (-1) g2 r := ⟨k1, k1, fun g2 e2 => h _ _ (by rw [e2]; exact e0.tr hu (pf_up1 hu (pf_rf _ _) (by decide)))⟩
    refine b_32_38 (ite_c (fun _ => fin) (fun _ => ite_c (fun _ => fin) (fun hi => ⟨k1, ite_c (fun _ => ⟨m1, s_21 hM0 (fun v g2 e2 => h _ _ (e0.tr hu (pf_eq hu (pf_rf _ _) e2)))⟩) (fun _ => ite_c (fun hi2 => ⟨k1, s_42 hr hM0 hu hn1 (fun g2 e2 => ?_) (fun g2 e2 => ?_)⟩) (fun hi2 => ?_))⟩)))
    · rw [if_neg (by decide)]; exact ih hi2 _ _ (e0.tr hu e2)
    · rw [if_pos rfl]; exact ih hi2 _ _ (e0.tr hu e2)
    · have e : l4 = 30 := by omega
      subst e
      refine b_32_38 (ite_c (fun _ => fin) (fun q => absurd rfl q))
  refine c_32 ⟨k1, w_250 (fun a => ?_) (fun a => ?_)⟩
  all_goals
    refine ⟨k1, s_33 hr hu (by omega) (by omega) (fun v1 g1 e1 => ⟨k1, fun g2 e2 => ⟨k1, fun g3 e3 => ⟨m1, s_20 hM0 hu (fun v2 g4 e4 => ⟨m1, k1, s_41 hr hu hW (fun g5 e5 => ?_) (fun g5 e5 => ?_)⟩)⟩⟩⟩)⟩
    all_goals
      refine loop _ (by decide) _ _ ?_
      refine PF2.tr ?_ hu (pf_tr e4 e5)
      rw [e3, e2]
      exact PF2.up1 hu (PF2.mk hu e1) (by decide)
end SRD
