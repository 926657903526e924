/-! the reference's call mill: the machine from its first state to its last -/
/-- what a reading that finds a fault may write -/
def FLT (g g' : GH) : Prop := ∀ i j, ¬ (i = 165 ∧ ((24 ≤ j ∧ j ≤ 33) ∨ j = 36)) → ¬ (i = 166 ∧ j = 2) → i ≠ 190 → i ≠ 191 → ¬ (168 ≤ i ∧ i ≤ 180 ∧ j = 7) → ¬ (182 ≤ i ∧ i ≤ 184 ∧ 210 ≤ j) → ¬ (185 ≤ i ∧ i ≤ 188 ∧ 2450 ≤ j) → g' i j = g i j
section MLL
variable {sc : SCR} {d : Nat} {Q : QJ} {g r : GH} {l1 l2 n s c : Int} {T : Int → Int} {m g0 m0 : GH} {x0 : XS} {ph ph' : Nat}
theorem f_159 (hr : RI r) (mb : MB g) (c24 : 0 ≤ g 165 24 ∧ g 165 24 ≤ 700) (hT : ∀ p, 0 ≤ p → p < l2 → i_and (g 189 p) 255 = T p) (i0 : I0 m0)
    (hbad : ¬ (0 ≤ l1 ∧ l1 ≤ 5 ∧ 0 ≤ l2 ∧ l2 ≤ g 165 24) → Q (-2) (up g 166 0 (wr (g 166 0 + 1))) r)
    (hok : (0 ≤ l1 ∧ l1 ≤ 5 ∧ 0 ≤ l2 ∧ l2 ≤ g 165 24) → ∀ g' s' m', Rch T l2 (0, tk T l2 0, m0, []) (90, s', m', []) → MTOLD l1 g g' m' → FQ l1 g g' → g' 166 2 = g 166 2 → Q (m' 0 12) g' r)
    (hft : (0 ≤ l1 ∧ l1 ≤ 5 ∧ 0 ≤ l2 ∧ l2 ≤ g 165 24) → ∀ g' s' m' st', Rch T l2 (0, tk T l2 0, m0, []) (91, s', m', st') → g' 165 25 = s' → g' 165 24 = 0 → g' 166 2 = wr (g 166 2 + 1) → FLT g g' → Q (-1) g' r) : Ce sc (d + 9) 159 [(2, 165), (0, l1), (0, l2)] g r Q := by
  have k9 : okr 218 165 9 := okd (by decide +kernel)
  have bad : ¬ (0 ≤ l1 ∧ l1 ≤ 5 ∧ 0 ≤ l2 ∧ l2 ≤ g 165 24) → okr 218 165 9 ∧ okI 218 166 11 0 ∧ okI 218 166 11 0 ∧ ∀ g1, g1 = up g 166 0 (wr (g 166 0 + 1)) → Q (-2) g1 r := fun z => ⟨k9, i_166.mpr ⟨by decide, by decide⟩, i_166.mpr ⟨by decide, by decide⟩, fun g1 e1 => by rw [e1]; exact hbad z⟩
  refine c_159 ?_
  rw [r_165_0 hr]
  refine ite_c (fun z => bad (fun y => by omega)) (fun z0 => ⟨k9, ite_c (fun z => bad (fun y => by omega)) (fun z1 => w_137 (fun a0 a5 => ?_) (fun z => ?_))⟩)
  rotate_left 1
  · rw [if_pos rfl, r_165_0 hr]
    exact bad (fun y => z ⟨y.1, y.2.1⟩)
  rw [if_neg (by decide), r_165_13 hr, r_165_14 hr, r_165_9 hr, r_165_10 hr, r_165_11 hr, r_165_12 hr]
  have hv : 0 ≤ l1 ∧ l1 ≤ 5 ∧ 0 ≤ l2 ∧ l2 ≤ g 165 24 := ⟨a0, a5, by omega, by omega⟩
  have hok := hok hv
  have hft := hft hv
  have hn : 0 ≤ l2 ∧ l2 ≤ 700 := ⟨by omega, by omega⟩
  refine ⟨k9, fun g2 e2 => ⟨k9, fun g3 e3 => ⟨k9, fun g4 e4 => ⟨k9, fun g5 e5 => ⟨k9, Or.inl rfl, fun g6 e6 => ⟨k9, fun g7 e7 => ⟨k9, i_179.mpr ⟨by decide, by decide⟩, fun g8 e8 => ⟨k9, i_180.mpr ⟨by decide, by decide⟩, fun g9 e9 => ⟨k9, i_175.mpr ⟨by decide, by decide⟩, fun g10 e10 => ⟨k9, i_176.mpr ⟨by decide, by decide⟩, fun g11 e11 => ⟨k9, i_177.mpr ⟨by decide, by decide⟩, fun g12 e12 => ⟨k9, i_178.mpr ⟨by decide, by decide⟩, fun g13 e13 => ⟨k9, ?_⟩⟩⟩⟩⟩⟩⟩⟩⟩⟩⟩⟩⟩
  have n7 : ∀ i j, i ≠ 165 → g7 i j = g i j := fun i j a => by
    rw [e7, up_i a, e6, up_i a, e5, up_i a, e4, up_i a, e3, up_i a, e2, up_i a]
  have n7' : ∀ j, j ≠ 24 → j ≠ 25 → j ≠ 26 → j ≠ 27 → j ≠ 31 → j ≠ 33 → g7 165 j = g 165 j := fun j a b c p q s => by
    rw [e7, up_j q, e6, up_j s, e5, up_j b, e4, up_j p, e3, up_j a, e2, up_j c]
  have n13 : ∀ i j, ¬ (175 ≤ i ∧ i ≤ 180 ∧ j = 7) → g13 i j = g7 i j := fun i j a => by
    rw [e13, up_o (by omega), e12, up_o (by omega), e11, up_o (by omega), e10, up_o (by omega), e9, up_o (by omega), e8, up_o (by omega)]
  have a26 : g13 165 26 = l2 := by rw [n13 _ _ (by omega), e7, up_j (by decide), e6, up_j (by decide), e5, up_j (by decide), e4, up_j (by decide), e3, up_j (by decide), e2, up_s]
  have a24 : g13 165 24 = 0 := by rw [n13 _ _ (by omega), e7, up_j (by decide), e6, up_j (by decide), e5, up_j (by decide), e4, up_j (by decide), e3, up_s]
  have a25 : g13 165 25 = -1 := by rw [n13 _ _ (by omega), e7, up_j (by decide), e6, up_j (by decide), e5, up_s]
  have a27 : g13 165 27 = 0 := by rw [n13 _ _ (by omega), e7, up_j (by decide), e6, up_j (by decide), e5, up_j (by decide), e4, up_s]
  have a33 : g13 165 33 = 0 := by rw [n13 _ _ (by omega), e7, up_j (by decide), e6, up_s]
  have a31 : g13 165 31 = 2450 := by rw [n13 _ _ (by omega), e7, up_s]
  have a79 : g13 179 7 = 0 := by rw [e13, up_i (by decide), e12, up_i (by decide), e11, up_i (by decide), e10, up_i (by decide), e9, up_i (by decide), e8, up_s]
  have a80 : g13 180 7 = 0 := by rw [e13, up_i (by decide), e12, up_i (by decide), e11, up_i (by decide), e10, up_i (by decide), e9, up_s]
  have a75 : g13 175 7 = 100 := by rw [e13, up_i (by decide), e12, up_i (by decide), e11, up_i (by decide), e10, up_s]
  have a76 : g13 176 7 = 100 := by rw [e13, up_i (by decide), e12, up_i (by decide), e11, up_s]
  have a77 : g13 177 7 = 50 := by rw [e13, up_i (by decide), e12, up_s]
  have a78 : g13 178 7 = 0 := by rw [e13, up_s]
  have hx : XI T l2 (0, tk T l2 0, m0, []) := xi_0 (tk_ts hn.1 0) i0
  have hxb : XB (0, tk T l2 0, m0, []) := fun z => absurd z (show ¬ 2 ≤ 0 by decide)
  have hxg : XGB (0, tk T l2 0, m0, []) := by
    obtain ⟨_, _, _, _, _, _, z11, _, z13⟩ := i0
    refine ⟨by show 0 ≤ m0 0 11; omega, by show 0 ≤ m0 0 13; omega, fun k k0 k1 => ?_⟩
    have k1 : k < m0 0 11 := k1
    omega
  have tx : TXM T l2 g13 := ⟨hn, fun p p0 p1 => by rw [n13 189 p (by omega), n7 189 p (by decide)]; exact hT p p0 p1, a26, a25⟩
  refine f_144 hr tx a27 (Int.le_refl 0) hn.1 (fun _ g14 o14 t14 => ⟨k9, ?_⟩)
  have t14 : TKM T l2 g14 (tk T l2 0) := t14
  have lv14 : LV T l2 g14 (tk T l2 0) := ⟨t14, by rw [o14 165 33 (by decide)]; exact a33⟩
  have f14 : ∀ i j, i ≠ 165 → ¬ (168 ≤ i ∧ i ≤ 180 ∧ j = 7) → g14 i j = g i j := fun i j a b => by rw [o14 i j (by omega), n13 i j (by omega)]; exact n7 i j a
  have f14' : ∀ j, ¬ (24 ≤ j ∧ j ≤ 33) → g14 165 j = g 165 j := fun j a => by rw [o14 165 j (by omega), n13 165 j (by omega)]; exact n7' j (by omega) (by omega) (by omega) (by omega) (by omega) (by omega)
  have f24 : g14 165 24 = 0 := by rw [o14 165 24 (by omega)]; exact a24
  have mb14 : MB g14 := by
    obtain ⟨q1, q2, q3, q4, q5⟩ := mb
    refine ⟨fun k => ?_, fun k => ?_, fun k => ?_, fun s s0 s1 => ?_, fun k => ?_⟩
    · rw [o14 168 k (by omega), n13 168 k (by omega), n7 168 k (by decide)]; exact q1 k
    · rw [f14 198 k (by decide) (by omega)]; exact q2 k
    · rw [f14 204 k (by decide) (by omega)]; exact q3 k
    · rw [f14 197 s (by decide) (by omega)]; exact q4 s s0 s1
    · rw [f14 207 k (by decide) (by omega)]; exact q5 k
  have lw : LWH T l2 g14 (0, tk T l2 0, m0, []) m0 0 g14 0 (tk T l2 0) m0 := by
    obtain ⟨_, _, z7, z8, z9, z10, z11, z12, _⟩ := i0
    refine ⟨WX.rf _, Rch.rf _, lv14, fun j a b => by omega, fun _ _ _ => rfl, by rw [o14 165 31 (by omega)]; exact a31, fun j a b => ?_⟩
    have j6 : j = 7 ∨ j = 8 ∨ j = 9 ∨ j = 10 ∨ j = 11 ∨ j = 12 := by omega
    rw [o14 (168 + j) 7 (by omega)]
    rcases j6 with rfl | rfl | rfl | rfl | rfl | rfl
    · rw [z7]; exact a75
    · rw [z8]; exact a76
    · rw [z9]; exact a77
    · rw [z10]; exact a78
    · rw [z11]; exact a79
    · rw [z12]; exact a80
  -- the end, in a fault
  have finB : ∀ g', BE T l2 g14 (0, tk T l2 0, m0, []) g' → WQ sc (d + 8) 159 Q 157 [(2, 165), (0, l1), (9, 0), (9, 0), (9, 0)] [] g' r := by
    intro g' be
    have nb := be.b
    obtain ⟨s', m', st', wx, rc, _, b25⟩ := be
    refine b_159_157 ⟨k9, ?_⟩
    rw [if_neg nb]
    have w166 : g' 166 2 = g 166 2 := by rw [wx 166 2 (by omega) (by omega) (by omega) (by omega) (by omega) (by omega)]; exact f14 166 2 (by decide) (by omega)
    refine ⟨k9, w_138 hr (by decide) (by decide) (hft _ s' m' st' rc ?_ ?_ ?_ (fun i j a b c e f k l => ?_))⟩
    · rw [up_i (by decide)]; exact b25
    · rw [up_i (by decide), wx 165 24 (by omega) (by omega) (by omega) (by omega) (by omega) (by omega)]; exact f24
    · rw [up_s, w166]
    · rw [up_o b, wx i j (by omega) c e f k l]
      by_cases z : i = 165
      · rw [z]; exact f14' j (by omega)
      · exact f14 i j z f
  -- statement by statement
  have loop : ∀ i : Int, ∀ g' m', MPL T l2 g14 (0, tk T l2 0, m0, []) g' 15 i m' → WQ sc (d + 8) 159 Q 132 [(2, 165), (0, l1), (9, 0), (9, 0), (9, 0)] [] g' r := by
    refine upG (l2 + 1) fun i ih g' m' mp => ?_
    have lv := mp.2.2.1
    have il : i ≤ l2 := lv.1.ts.2.1
    refine b_159_132 ⟨k9, ?_⟩
    rw [lv.1.f29]
    refine ite_c (fun z => ?_) (fun z => ⟨k9, ?_⟩)
    · refine f_159c (d := d + 6) hr hx hxb hxg a0 (by omega) mb14 mp (tok_0.mp z) (fun i j _ a b => f14 i j a b) f14' f24 (fun g2 rc mt fq w66 => hok g2 _ _ rc mt fq w66)
    · rw [if_pos lv.2]
      refine ⟨k9, f_157 hr hx mp (fun w => z (tok_0.mpr w)) (fun g2 b2 => ⟨k9, f_158 hr hx b2 (fun g3 b3 => ?_)⟩)⟩
      rcases b3 with ⟨s3, m3, lt3, mp3⟩ | be
      · exact ih (by omega) s3 (by omega) g3 m3 mp3
      · refine b_159_132 ⟨k9, ite_c (fun _ => finB g3 be) (fun _ => ⟨k9, ?_⟩)⟩
        rw [if_neg be.b]; exact finB g3 be
  refine f_155 hr i0 (Or.inl ⟨_, _, lw⟩) (fun g15 b15 => ⟨k9, ?_⟩)
  have b15' : LM2 T l2 g14 (0, tk T l2 0, m0, []) (-1) g15 14 := by
    rcases b15 with ⟨s, m, w⟩ | be
    · exact Or.inl ⟨s, m, by have := w.2.2.1.1.ts.1; omega, MPL.of i0 w⟩
    · exact Or.inr be
  refine f_158 hr hx b15' (fun g16 b16 => ?_)
  rcases b16 with ⟨s3, m3, _, mp3⟩ | be
  · exact loop s3 g16 m3 mp3
  · refine b_159_132 ⟨k9, ite_c (fun _ => finB g16 be) (fun _ => ⟨k9, ?_⟩)⟩
    rw [if_neg be.b]; exact finB g16 be
end MLL
