/-! hours, images: both sides -/
def hrN (gp : GH) (mm : Int → GH) (Pl : Int → Int → Int) : Nat → GH → GH
  | 0, b => b
  | n + 1, b => hrN gp mm Pl n (hrE gp mm Pl b)
section HR6
variable {sc : SCR} {d : Nat} {Q : QJ} {g r b gp : GH} {mm : Int → GH} {Pl : Int → Int → Int} {l0 l1 l2 l3 l4 l5 x s p a n m v w k : Int}
theorem hrN_b (hp : PO gp mm) (hP : PLO Pl) : ∀ (n : Nat) (b : GH), HB b → b 0 0 + n ≤ 960 → HB (hrN gp mm Pl n b) ∧ hrN gp mm Pl n b 0 0 = b 0 0 + n := by
  intro n
  induction n with
  | zero => intro b hb _; exact ⟨hb, by show b 0 0 = b 0 0 + ((0 : Nat) : Int); omega⟩
  | succ n ih =>
    intro b hb h
    have q := hr_b hp hP hb (by omega)
    obtain ⟨x, y⟩ := ih (hrE gp mm Pl b) q.1 (by rw [q.2.1]; omega)
    exact ⟨x, by show hrN gp mm Pl n (hrE gp mm Pl b) 0 0 = _; rw [y, q.2.1]; omega⟩
def P0 : Int → Int → Int := fun _ _ => -1
theorem plo_0 : PLO P0 := fun _ _ => Or.inl rfl
theorem plc_0 (h : RUL g) : PLC 46 g P0 := fun m t m0 m6 _ _ => ⟨fun _ => rfl, fun z => absurd (h m m0 m6) z⟩
theorem plm_0 (h52 : g 165 52 = 0) (h56 : g 165 56 = -1) : PLM g P0 := fun m t m0 m6 _ _ => by
  rw [h52, h56]
  have z : ∀ k : Int, i_and (i_shr 0 k) 1 = 0 := fun k => by
    have e : i_shr 0 k = 0 := by
      unfold i_shr
      rw [show Int32.ofInt 0 = 0 by decide, Int32.zero_shiftRight]
      decide
    rw [e]; decide
  exact ⟨fun y => absurd y (by omega), fun _ _ => rfl, fun _ y => absurd (z m) y⟩
theorem f_201 (hq : ∀ g', g' 165 52 = 0 → g' 165 56 = -1 → (∀ i j, ¬ (i = 165 ∧ (j = 52 ∨ j = 56)) → g' i j = g i j) → Q 0 g' r) : Ce sc (d + 1) 201 [(2, 165)] g r Q := by
  have k9 : okr 218 165 9 := okd (by decide +kernel)
  exact c_201 ⟨k9, fun g1 e1 => ⟨k9, fun g2 e2 => hq g2 (by rw [e2, up_j (by decide), e1, up_s]) (by rw [e2, up_s]) (fun i j h => by rw [e2, up_o (by omega), e1, up_o (by omega)])⟩⟩
/-- so many hours of the class's brook 23 by the rules -/
theorem f_82l (hr : RI r) (hp : PO gp mm) (hx : MXA gp mm) (hl : l1 ≤ 96) : ∀ (n : Nat) (i : Int) (g b : GH), 0 ≤ i → i + n = l1 → COK gp mm r g → HB b → b 0 0 + n ≤ 960 → CBR 23 g b → RUL g → (∀ g', FHC 23 g g' → CBR 23 g' (hrN gp mm P0 n b) → Q (hrN gp mm P0 n b 0 0) g' r) → WQ sc (d + 9) 82 Q 46 [(2, 0), (0, l1), (0, i)] [] g r := by
  have k0 : okr 218 0 8 := okd (by decide +kernel)
  have k23 : okr 218 23 0 := okd (by decide +kernel)
  intro n
  induction n with
  | zero =>
    intro i g b i0 e hc hb h9 cb ru hq
    refine b_82_46 (ite_c (fun z => absurd z (by omega)) (fun _ => ⟨k0, ?_⟩))
    rw [r_0_4 hr, cb.1.1]
    exact ⟨k23, hq g (FHC.rf 23 g) cb⟩
  | succ n ih =>
    intro i g b i0 e hc hb h9 cb ru hq
    refine b_82_46 (ite_c (fun _ => ⟨k0, k0, k0, ?_⟩) (fun z => absurd (by omega) z))
    rw [r_0_4 hr, r_0_1 hr, r_0_8 hr, wr_id (x := i + 1) ⟨by omega, by omega⟩]
    have q := hr_b hp plo_0 hb (by omega)
    refine ⟨k23, f_5 (mm := mm) (Pl := P0) (b := b) (gp := gp) hr (Or.inl rfl) hp plo_0 hx (px2_46 hr) hc hb (by omega) cb (plc_0 ru) (fun g1 f1 e1 c1 _ => ?_)⟩
    exact ih (i + 1) g1 (hrE gp mm P0 b) (by omega) (by omega) (hc.eb hr e1) q.1 (by rw [q.2.1]; omega) c1 (fun j j0 j1 => by rw [f1 47 j (by omega) (by unfold BO; omega) (by unfold AK; omega)]; exact ru j j0 j1) (fun g' f' c' => hq g' (f1.tr f') c')
theorem f_207l (hr : RI r) (hp : PO gp mm) (hx : MXA gp mm) (hl : l1 ≤ 96) : ∀ (n : Nat) (i : Int) (g b : GH), 0 ≤ i → i + n = l1 → EQK gp g → HB b → b 0 0 + n ≤ 960 → MBR 0 g b → g 165 52 = 0 → g 165 56 = -1 → (∀ g', FH 0 g g' → MBR 0 g' (hrN gp mm P0 n b) → Q (hrN gp mm P0 n b 0 0) g' r) → WQ sc (d + 9) 207 Q 51 [(2, 165), (0, l1), (0, i)] [] g r := by
  have k9 : okr 218 165 9 := okd (by decide +kernel)
  intro n
  induction n with
  | zero =>
    intro i g b i0 e hk hb h9 mb h52 h56 hq
    refine b_207_51 (ite_c (fun z => absurd z (by omega)) (fun _ => ⟨k9, ?_⟩))
    rw [r_165_42 hr, mb.1.1]
    exact ⟨i_197.mpr ⟨by decide, by decide⟩, hq g (FH.rf 0 g) mb⟩
  | succ n ih =>
    intro i g b i0 e hk hb h9 mb h52 h56 hq
    refine b_207_51 (ite_c (fun _ => ⟨k9, ?_⟩) (fun z => absurd (by omega) z))
    rw [wr_id (x := i + 1) ⟨by omega, by omega⟩]
    have q := hr_b hp plo_0 hb (by omega)
    refine f_205 (mm := mm) (Pl := P0) (b := b) (gp := gp) hr hp plo_0 hx (by decide) (by decide) hk hb (by omega) mb (plm_0 h52 h56) (fun g1 f1 m1 _ => ?_)
    exact ih (i + 1) g1 (hrE gp mm P0 b) (by omega) (by omega) (hk.fh f1) q.1 (by rw [q.2.1]; omega) m1 ((f1 165 52 (by omega) (by omega) (by omega)).trans h52) ((f1 165 56 (by omega) (by omega) (by omega)).trans h56) (fun g' f' m' => hq g' (f1.tr f') m')
theorem tolP_s (g : GH) {k : Int} (k0 : 0 ≤ k) : tolP g (k + 1).toNat = tolP g k.toNat + (if g 167 k = 0 then 0 else 1) := by
  rw [show (k + 1).toNat = k.toNat + 1 by omega]
  show tolP g k.toNat + (if g 167 (k.toNat : Int) = 0 then 0 else 1) = _
  rw [show ((k.toNat : Nat) : Int) = k by omega]
theorem f_131 (hJ : J3 g r) (hq : Q (tolP g 6) g r) : Ce sc (d + 3) 131 [(2, 0)] g r Q := by
  have hr := hJ.1.1.1
  have k0 : okr 218 0 8 := okd (by decide +kernel)
  have loop : ∀ (n : Nat) (k : Int), 0 ≤ k → k + n = 6 → WQ sc (d + 2) 131 Q 4 [(2, 0), (0, tolP g k.toNat), (0, k)] [] g r := by
    intro n
    induction n with
    | zero =>
      intro k k0' e
      have ek : k = 6 := by omega
      subst ek
      exact b_131_4 (ite_c (fun z => absurd z (by decide)) (fun _ => hq))
    | succ n ih =>
      intro k k0' e
      have nx := ih (k + 1) (by omega) (by omega)
      have tb := tolP_b g k.toNat
      rw [tolP_s g k0'] at nx
      refine b_131_4 (ite_c (fun _ => ⟨k0, w_129 hr (fun t => ?_) (fun t => ?_)⟩) (fun z => absurd (by omega) z))
      · have tm := (td_tm hJ k).mp t
        rw [if_neg (mo_ne (hr.2.1 k t.1 t.2.1)), wr_id (x := k + 1) ⟨by omega, by omega⟩, wr_id (x := tolP g k.toNat + 1) ⟨by omega, by omega⟩]
        rw [if_neg tm.2.2] at nx
        exact nx
      · have z : g 167 k = 0 := Decidable.byContradiction fun y => t ((td_tm hJ k).mpr ⟨k0', by omega, y⟩)
        rw [if_pos rfl, wr_id (x := k + 1) ⟨by omega, by omega⟩, wr_id (x := tolP g k.toNat + 0) ⟨by omega, by omega⟩]
        rw [if_pos z] at nx
        exact nx
  exact c_131 (loop 6 0 (by decide) (by decide))
theorem eqk_hi {g' : GH} (h : ∀ i j, 165 ≤ i → g' i j = g i j) : EQK g g' := fun i j z => h i j (by omega)
theorem FHC.z (h : FHC 23 g b) (hx : ∀ i, 165 ≤ i → ¬ AK i) : ∀ i j, 165 ≤ i → b i j = g i j := fun i j z => h i j (by omega) (by unfold BO; omega) (hx i z)
theorem ak_hi {i : Int} (h : 165 ≤ i) : ¬ AK i := by unfold AK; omega
theorem uu_82 (hJ : J6 g r) {A1 : Int} (D : Nat) : Ce sc (D + 10) 82 [(2, 0), (0, A1)] g r (fun v1 g1 r1 => Ce sc (D + 10) 207 [(2, 165), (0, A1)] g1 r1 fun v2 g2 r2 => v1 = v2 ∧ J6 g2 r2) := by
  have hr := hJ.1.1.1.1.1.1
  have hj3 := hJ.1.1.1
  have k0 : okr 218 0 8 := okd (by decide +kernel)
  have k23 : okr 218 23 0 := okd (by decide +kernel)
  have k9 : okr 218 165 9 := okd (by decide +kernel)
  obtain ⟨mm, hp, hx, hc⟩ := par hJ.1
  obtain ⟨b, hb, cb, mb, zz⟩ := hJ.2.1
  have e5 : Ce sc (D + 10) 82 [(2, 0), (0, A1)] g r (fun _ g1 r1 => r1 = r ∧ EB r (TM g) (MWh g) g g1) := v_82 (d := D + 2) hr hJ.1.2 (fun _ _ e => ⟨rfl, e⟩)
  have cv : Ce sc (D + 10) 82 [(2, 0), (0, A1)] g r (fun v1 g1 r1 => r1 = r ∧ (((1 ≤ A1 ∧ A1 ≤ 96) ∧ tolP g 6 ≠ 0 ∧ b 0 0 + A1 ≤ 960 ∧ FHC 23 g g1 ∧ CBR 23 g1 (hrN g mm P0 A1.toNat b) ∧ v1 = hrN g mm P0 A1.toNat b 0 0) ∨ (¬ ((1 ≤ A1 ∧ A1 ≤ 96) ∧ tolP g 6 ≠ 0 ∧ b 0 0 + A1 ≤ 960) ∧ v1 = -1 ∧ Z6 g g1))) := by
    have no : ∀ k, 0 ≤ k → k ≤ 2 → ¬ ((1 ≤ A1 ∧ A1 ≤ 96) ∧ tolP g 6 ≠ 0 ∧ b 0 0 + A1 ≤ 960) → Ce sc (D + 9) 133 [(2, 0), (0, k)] g r (fun v1 g1 r1 => r1 = r ∧ (((1 ≤ A1 ∧ A1 ≤ 96) ∧ tolP g 6 ≠ 0 ∧ b 0 0 + A1 ≤ 960 ∧ FHC 23 g g1 ∧ CBR 23 g1 (hrN g mm P0 A1.toNat b) ∧ v1 = hrN g mm P0 A1.toNat b 0 0) ∨ (¬ ((1 ≤ A1 ∧ A1 ≤ 96) ∧ tolP g 6 ≠ 0 ∧ b 0 0 + A1 ≤ 960) ∧ v1 = -1 ∧ Z6 g g1))) := fun k h0 h2 q => w_133 hr h0 h2 ⟨rfl, Or.inr ⟨q, rfl, z6_65⟩⟩
    refine c_82 (w_123 (fun q1 q2 => ?_) (fun q => ?_))
    · rw [if_neg (by decide)]
      refine ⟨k0, f_131 (d := D + 6) hj3 (ite_c (fun z => ⟨k0, no 0 (by decide) (by decide) (fun y => y.2.1 z)⟩) (fun z => ⟨k0, ?_⟩))⟩
      have h9 := hb.1
      rw [r_0_4 hr, cb.1.1, wr_id (x := b 0 0 + A1) ⟨by omega, by omega⟩]
      refine ⟨k23, ite_c (fun y => ⟨k0, no 1 (by decide) (by decide) (fun s => by omega)⟩) (fun y => ?_)⟩
      exact f_82l (d := D) hr hp hx q2 A1.toNat 0 g b (Int.le_refl 0) (by omega) hc hb (by omega) cb hJ.2.2.2 (fun g' f' c' => ⟨rfl, Or.inl ⟨⟨q1, q2⟩, z, by omega, f', c', rfl⟩⟩)
    · rw [if_pos rfl]
      exact ⟨k0, no 0 (by decide) (by decide) (fun y => q y.1)⟩
  refine Ce_mono (Ce_and e5 cv) (fun v1 g1 r1 u => ?_)
  obtain ⟨⟨er, eb⟩, _, u⟩ := u
  have er' := er.symm
  subst er'
  have hi1 : ∀ i j, 165 ≤ i → g1 i j = g i j := fun i j h => eb.1 i (fp_f3 (Or.inl h)) j
  have mi : MI g1 := hJ.1.1.1.1.1.2.2.2.1.hi hi1
  have t1 : tolP g1 6 = tolP g 6 := by
    have : ∀ n : Nat, tolP g1 n = tolP g n := fun n => by
      induction n with
      | zero => rfl
      | succ n ih =>
        show tolP g1 n + (if g1 167 n = 0 then 0 else 1) = tolP g n + (if g 167 n = 0 then 0 else 1)
        rw [ih, hi1 167 _ (by decide)]
    exact this 6
  have mb1 : MBR 0 g1 b := mb.fr (fun i j hi => hi1 i j (by omega))
  have m5 : Ce sc (D + 10) 207 [(2, 165), (0, A1)] g1 r (fun _ g2 r2 => r2 = r ∧ ME g1 g2) := s_207 (d := D + 1) hr mi (fun _ _ e => ⟨rfl, e⟩)
  have mv : Ce sc (D + 10) 207 [(2, 165), (0, A1)] g1 r (fun v2 g2 r2 => ((1 ≤ A1 ∧ A1 ≤ 96) ∧ tolP g 6 ≠ 0 ∧ b 0 0 + A1 ≤ 960 ∧ (∀ i j, ¬ (i = 165 ∧ (j = 52 ∨ j = 56)) → ¬ (193 ≤ i ∧ i ≤ 199 ∧ i ≠ 197 ∧ i ≠ 198 ∧ 0 ≤ j ∧ j ≤ 5) → ¬ ((i = 197 ∨ i = 200 ∨ i = 201) ∧ j = 0) → ¬ (203 ≤ i ∧ i ≤ 207) → g2 i j = g1 i j) ∧ MBR 0 g2 (hrN g mm P0 A1.toNat b) ∧ v2 = hrN g mm P0 A1.toNat b 0 0) ∨ (¬ ((1 ≤ A1 ∧ A1 ≤ 96) ∧ tolP g 6 ≠ 0 ∧ b 0 0 + A1 ≤ 960) ∧ v2 = -1 ∧ Z6 g1 g2)) := by
    have no : ∀ k, 0 ≤ k → k ≤ 2 → ¬ ((1 ≤ A1 ∧ A1 ≤ 96) ∧ tolP g 6 ≠ 0 ∧ b 0 0 + A1 ≤ 960) → Ce sc (D + 9) 138 [(2, 165), (0, k)] g1 r (fun v2 g2 r2 => ((1 ≤ A1 ∧ A1 ≤ 96) ∧ tolP g 6 ≠ 0 ∧ b 0 0 + A1 ≤ 960 ∧ (∀ i j, ¬ (i = 165 ∧ (j = 52 ∨ j = 56)) → ¬ (193 ≤ i ∧ i ≤ 199 ∧ i ≠ 197 ∧ i ≠ 198 ∧ 0 ≤ j ∧ j ≤ 5) → ¬ ((i = 197 ∨ i = 200 ∨ i = 201) ∧ j = 0) → ¬ (203 ≤ i ∧ i ≤ 207) → g2 i j = g1 i j) ∧ MBR 0 g2 (hrN g mm P0 A1.toNat b) ∧ v2 = hrN g mm P0 A1.toNat b 0 0) ∨ (¬ ((1 ≤ A1 ∧ A1 ≤ 96) ∧ tolP g 6 ≠ 0 ∧ b 0 0 + A1 ≤ 960) ∧ v2 = -1 ∧ Z6 g1 g2)) := fun k h0 h2 q => w_138 (d := D + 8) hr h0 h2 (Or.inr ⟨q, rfl, z6_166⟩)
    refine c_207 (w_137 (fun q1 q2 => ?_) (fun q => ?_))
    · rw [if_neg (by decide)]
      refine ⟨k9, s_206 (d := D + 8) hr ?_⟩
      rw [t1]
      refine ite_c (fun z => ⟨k9, no 0 (by decide) (by decide) (fun y => y.2.1 z)⟩) (fun z => ⟨k9, ?_⟩)
      have h9 := hb.1
      rw [r_165_42 hr, mb1.1.1, wr_id (x := b 0 0 + A1) ⟨by omega, by omega⟩]
      refine ⟨i_197.mpr ⟨by decide, by decide⟩, ite_c (fun y => ⟨k9, no 1 (by decide) (by decide) (fun s => by omega)⟩) (fun y => ⟨k9, f_201 (d := D + 8) (fun g3 a52 a56 fr => ?_)⟩)⟩
      refine f_207l (d := D) hr hp hx q2 A1.toNat 0 g3 b (Int.le_refl 0) (by omega) (fun i j hh => ?_) hb (by omega) (mb1.fr (fun i j hi => fr i j (by omega))) a52 a56 (fun g' f' m' => Or.inl ⟨⟨q1, q2⟩, z, by omega, fun i j a b c e => ?_, m', rfl⟩)
      · rw [fr i j (by omega)]; exact hi1 i j (by omega)
      · rw [f' i j (by omega) (by omega) e]; exact fr i j a
    · rw [if_pos rfl]
      exact ⟨k9, no 0 (by decide) (by decide) (fun y => q y.1)⟩
  refine Ce_mono (Ce_and m5 mv) (fun v2 g2 r2 t => ?_)
  obtain ⟨⟨er, me⟩, t⟩ := t
  have er' := er.symm
  subst er'
  have j5 : J5 g2 r := (hJ.1.eb eb).me me
  rcases u with ⟨a1, a2, a3, fh, c1, ev⟩ | ⟨na, ev, z1⟩
  · rcases t with ⟨_, _, _, fr, m2, ev2⟩ | ⟨nb, _⟩
    · refine ⟨ev.trans ev2.symm, j5, ⟨hrN g mm P0 A1.toNat b, (hrN_b hp plo_0 A1.toNat b hb (by omega)).1, ?_, m2, ?_⟩, ?_, fun j j0 j1 => ?_⟩
      · exact c1.o (fun i j i0 i1 => me.1 i j (Or.inl (by omega)))
      · rw [me.1 23 3 (Or.inl (by decide)), fr 165 49 (by omega) (by omega) (by omega) (by omega), fh 23 3 (by omega) (by unfold BO; omega) (by unfold AK; omega), hi1 165 49 (by decide)]; exact zz
      · refine hJ.2.2.1.i hJ.n3.2 ?_ (fun i j i0 i1 => ?_) (fun i j h => ?_)
        · rw [fr 165 48 (by omega) (by omega) (by omega) (by omega)]; exact hi1 165 48 (by decide)
        · rw [me.1 i j (Or.inl (by omega))]; exact fh i j (by omega) (by unfold BO; omega) (by unfold AK; omega)
        · rw [fr i j (by omega) (by omega) (by omega) (by omega)]; exact hi1 i j (by omega)
      · rw [me.1 47 j (Or.inl (by decide)), fh 47 j (by omega) (by unfold BO; omega) (by unfold AK; omega)]; exact hJ.2.2.2 j j0 j1
    · exact absurd ⟨a1, a2, a3⟩ nb
  · rcases t with ⟨b1, b2, b3, _⟩ | ⟨_, ev2, z2⟩
    · exact absurd ⟨b1, b2, b3⟩ na
    · exact ⟨ev.trans ev2.symm, hJ.z j5 (z1.tr z2)⟩
end HR6
