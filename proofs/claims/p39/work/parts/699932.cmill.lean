/-! the class's reading of a mill, from the tape to its end -/
/-- what the split into tokens may write -/
def SF (g g' : GH) : Prop := ∀ i j, ¬ (i = 1 ∧ 6 ≤ j ∧ j ≤ 9) → i ≠ 3 → i ≠ 4 → i ≠ 5 → g' i j = g i j
theorem SF.rf (g : GH) : SF g g := fun _ _ _ _ _ _ => rfl
theorem SF.u {a b : GH} {i j v : Int} (h : SF a b) (hi : i = 3 ∨ i = 4 ∨ i = 5 ∨ (i = 1 ∧ 6 ≤ j ∧ j ≤ 9)) : SF a (up b i j v) := fun p q a1 a2 a3 a4 => by
  rw [up_o (by omega)]; exact h p q a1 a2 a3 a4
theorem kc_1 {b : Int} : kc b = 1 ↔ cW b = true := by
  unfold kc
  by_cases z : cB b = true
  · rw [if_pos z]
    refine ⟨fun h => absurd h (by decide), fun h => ?_⟩
    have := cB_t.mp z
    have := cW_t.mp h
    omega
  · rw [if_neg z]
    by_cases y : cW b = true
    · rw [if_pos y]; exact ⟨fun _ => y, fun _ => rfl⟩
    · rw [if_neg y]
      refine ⟨fun h => ?_, fun h => absurd h y⟩
      split at h
      · exact absurd h (by decide)
      · split at h <;> exact absurd h (by decide)
theorem kc_2 {b : Int} : kc b = 2 ↔ cN b = true := by
  unfold kc
  by_cases z : cB b = true
  · rw [if_pos z]
    refine ⟨fun h => absurd h (by decide), fun h => ?_⟩
    have := cB_t.mp z
    have := cN_t.mp h
    omega
  · rw [if_neg z]
    by_cases y : cW b = true
    · rw [if_pos y]
      refine ⟨fun h => absurd h (by decide), fun h => ?_⟩
      have := cW_t.mp y
      have := cN_t.mp h
      omega
    · rw [if_neg y]
      by_cases x : cN b = true
      · rw [if_pos x]; exact ⟨fun _ => x, fun _ => rfl⟩
      · rw [if_neg x]
        refine ⟨fun h => ?_, fun h => absurd h x⟩
        split at h <;> exact absurd h (by decide)
section CMI
variable {sc : SCR} {d : Nat} {Q : QJ} {g r : GH} {l0 l1 l2 l3 l4 l5 n s M vv : Int} {T : Int → Int} {m : GH} {st : List (Int × Int)} {ph : Nat}
theorem f_33 (hr : RI r) (hT : ∀ p, g 2 p = T p) (hn : 0 ≤ n ∧ n ≤ 700) (h : ∀ v g', SF g g' → RD T n g' (tk T n 0) → Q v g' r) : Ce sc (d + 2) 33 [(2, 1), (0, n)] g r Q := by
  have k1 : okr 218 1 5 := okd (by decide +kernel)
  have rows : ∀ (i : Int), i ≤ n → 0 ≤ i → ∀ (N : Nat) (g1 : GH), SF g g1 → tk T n N = sk T n i → (N : Int) ≤ i → (∀ j : Nat, j < N → tk T n j < n ∧ g1 3 (j : Int) = kd T n (tk T n j) ∧ g1 4 (j : Int) = tk T n j ∧ g1 5 (j : Int) = en T n (tk T n j)) → WQ sc (d + 1) 33 Q 7 [(2, 1), (0, n), (0, (N : Int)), (9, 0), (0, i), (9, 0), (9, 0)] [] g1 r := by
    refine upG n fun i ih hi h0 N g1 sf tn ni old => ?_
    have t1 : ∀ p, g1 2 p = T p := fun p => (sf 2 p (by omega) (by decide) (by decide) (by decide)).trans (hT p)
    -- the end
    have fin : ¬ i < n → WQ sc (d + 1) 33 Q 139 [(2, 1), (0, n), (0, (N : Int)), (9, 0), (9, 0), (9, 0), (9, 0)] [] g1 r := by
      intro z
      have ei : i = n := by omega
      have tN : tk T n N = n := by
        rw [tn, ei]
        exact tkr_e (by omega)
      refine b_33_139 ⟨k1, ?_⟩
      rw [r_1_3 hr, r_1_4 hr, r_1_5 hr]
      refine ⟨i_3.mpr ⟨by omega, by omega⟩, fun g2 e2 => ⟨k1, i_4.mpr ⟨by omega, by omega⟩, fun g3 e3 => ⟨k1, i_5.mpr ⟨by omega, by omega⟩, fun g4 e4 => ⟨k1, fun g5 e5 => ⟨k1, ?_⟩⟩⟩⟩⟩
      have s5 : SF g g5 := by
        rw [e5, e4, e3, e2]
        exact (((sf.u (by omega)).u (by omega)).u (by omega)).u (by omega)
      have arc : ARC T n g5 := by
        refine ⟨N, tN, fun j hj => (old j hj).1, fun j hj => ?_⟩
        by_cases y : j = N
        · subst y
          rw [tN]
          refine ⟨?_, ?_, ?_⟩
          · rw [e5, up_i (by decide), e4, up_i (by decide), e3, up_i (by decide), e2, up_s]
            exact (kd_0.mpr (Int.lt_irrefl n)).symm
          · rw [e5, up_i (by decide), e4, up_i (by decide), e3, up_s]
          · rw [e5, up_i (by decide), e4, up_s]
            exact (en_n (Int.lt_irrefl n)).symm
        · obtain ⟨_, a, b, c⟩ := old j (by omega)
          refine ⟨?_, ?_, ?_⟩
          · rw [e5, up_i (by decide), e4, up_i (by decide), e3, up_i (by decide), e2, up_j (by omega)]; exact a
          · rw [e5, up_i (by decide), e4, up_i (by decide), e3, up_j (by omega), e2, up_i (by decide)]; exact b
          · rw [e5, up_i (by decide), e4, up_j (by omega), e3, up_i (by decide), e2, up_i (by decide)]; exact c
      refine w_35 (k := 0) hr (fun p => (s5 2 p (by omega) (by decide) (by decide) (by decide)).trans (hT p)) hn arc (by rw [e5, up_s]; decide) (fun j hj => absurd hj (by omega)) (fun v g6 c6 rd6 c10 => h 0 g6 ?_ rd6)
      intro a b p q s t
      by_cases y : a = 1 ∧ b = 10
      · rw [y.1, y.2, c10]; exact s5 1 10 (by omega) (by decide) (by decide) (by decide)
      · rw [c6 a b (by omega)]; exact s5 a b p q s t
    refine b_33_7 (ite_c (fun z => ?_) fin)
    rw [if_pos (show i < 700 by omega), r_1_0 hr, t1]
    have e94 : ∀ l3 : Int, i < l3 → l3 ≤ n → (kc (T i) = 4 → l3 = i + 1) → (kc (T i) ≠ 4 → l3 = en T n i) → WQ sc (d + 1) 33 Q 94 [(2, 1), (0, n), (0, (N : Int)), (0, l3), (0, i), (0, kc (T i)), (9, 0)] [] g1 r := by
      intro l3 a b c4 cn
      refine b_33_94 (ite_c (fun y => ?_) (fun y => ?_))
      · have cb := kc_4.mp y
        have := c4 y
        refine ih z l3 a b (by omega) N g1 sf ?_ (by omega) old
        rw [tn, this]
        exact tkr_s z cb
      · have cb : cB (T i) = false := by
          cases q : cB (T i) with
          | false => rfl
          | true => exact absurd (kc_4.mpr q) y
        have si : sk T n i = i := tkr_e (fun q => by rw [cb] at q; exact absurd q.2 (by decide))
        have l3e := cn y
        rw [if_pos (show (N : Int) < 700 by omega), r_1_3 hr, r_1_4 hr, r_1_5 hr]
        refine ⟨k1, i_3.mpr ⟨by omega, by omega⟩, fun g2 e2 => ⟨k1, i_4.mpr ⟨by omega, by omega⟩, fun g3 e3 => ⟨k1, i_5.mpr ⟨by omega, by omega⟩, fun g4 e4 => ?_⟩⟩⟩
        rw [wr_id ⟨by omega, by omega⟩, show (N : Int) + 1 = ((N + 1 : Nat) : Int) by omega]
        refine ih z l3 a b (by omega) (N + 1) g4 ?_ ?_ (by omega) (fun j hj => ?_)
        · rw [e4, e3, e2]
          exact ((sf.u (by omega)).u (by omega)).u (by omega)
        · show nx T n (tk T n N) = sk T n l3
          rw [tn, si]; unfold nx; rw [l3e]
        · by_cases x : j = N
          · subst x
            rw [tn, si]
            refine ⟨z, ?_, ?_, ?_⟩
            · rw [e4, up_i (by decide), e3, up_i (by decide), e2, up_s]
              exact (kd_kc z cb).symm
            · rw [e4, up_i (by decide), e3, up_s]
            · rw [e4, up_s]; exact l3e
          · obtain ⟨o, oa, ob, oc⟩ := old j (by omega)
            refine ⟨o, ?_, ?_, ?_⟩
            · rw [e4, up_i (by decide), e3, up_i (by decide), e2, up_j (by omega)]; exact oa
            · rw [e4, up_i (by decide), e3, up_j (by omega), e2, up_i (by decide)]; exact ob
            · rw [e4, up_j (by omega), e3, up_i (by decide), e2, up_i (by decide)]; exact oc
    have long : ∀ (c : Int → Bool) (kk : Int), kk ≠ 4 → (∀ b, kc b = kk ↔ c b = true) → kc (T i) = kk → en T n i = tkr c T n i → WQ sc (d + 1) 33 Q 57 [(2, 1), (0, n), (0, (N : Int)), (0, wr (i + 1)), (0, i), (0, kk), (0, 1)] [] g1 r := by
      intro c kk k4 hc hk he
      have go : ∀ l3 : Int, i < l3 → l3 ≤ n → tkr c T n l3 = tkr c T n i → WQ sc (d + 1) 33 Q 57 [(2, 1), (0, n), (0, (N : Int)), (0, l3), (0, i), (0, kk), (0, 1)] [] g1 r := by
        refine upG n fun l3 ih2 a b e => ?_
        have out : ¬ (l3 < n ∧ c (T l3) = true) → WQ sc (d + 1) 33 Q 94 [(2, 1), (0, n), (0, (N : Int)), (0, l3), (0, i), (0, kk), (9, 0)] [] g1 r := by
          intro q
          have l3e : l3 = en T n i := by rw [he, ← e, tkr_e q]
          have := e94 l3 a b (fun y => absurd (hk.symm.trans y) k4) (fun _ => l3e)
          rw [hk] at this; exact this
        refine b_33_57 (ite_c (fun q => absurd q (by decide)) (fun _ => ite_c (fun q => ?_) (fun q => out (fun y => q y.1))))
        rw [if_pos (show l3 < 700 by omega), r_1_0 hr, t1]
        refine ⟨k1, i_2.mpr ⟨by omega, by omega⟩, w_34 (ite_c (fun y => ?_) (fun y => out (fun x => y ((hc _).mpr x.2))))⟩
        rw [wr_id (x := l3 + 1) ⟨by omega, by omega⟩]
        refine ih2 q (l3 + 1) (by omega) (by omega) (by omega) ?_
        rw [← tkr_s q ((hc _).mp y)]; exact e
      rw [wr_id (x := i + 1) ⟨by omega, by omega⟩]
      refine go (i + 1) (by omega) (by omega) ?_
      exact (tkr_s z ((hc _).mp hk)).symm
    refine ⟨k1, i_2.mpr ⟨by omega, by omega⟩, w_34 (ite_c (fun y => ?_) (fun y => ite_c (fun x => ?_) (fun x => ?_)))⟩
    · have kd1 : kd T n i = 1 := kd_1.mpr ⟨z, cW_t.mp (kc_1.mp y)⟩
      have := long cW 1 (by decide) (fun b => kc_1) y (en_1 kd1)
      rw [y]; exact this
    · have kd2 : kd T n i = 2 := kd_2.mpr ⟨z, cN_t.mp (kc_2.mp x)⟩
      have := long cN 2 (by decide) (fun b => kc_2) x (en_2 kd2)
      rw [x]; exact this
    · refine b_33_57 ?_
      rw [if_pos rfl, wr_id (x := i + 1) ⟨by omega, by omega⟩]
      refine e94 (i + 1) (by omega) (by omega) (fun _ => rfl) (fun q => ?_)
      refine (en_3 ?_).symm
      have cb : cB (T i) = false := by
        cases w : cB (T i) with
        | false => rfl
        | true => exact absurd (kc_4.mpr w) q
      have kk := kd_kc z cb
      have := kd_r (T := T) (n := n) (s := i)
      have n0 : kd T n i ≠ 0 := fun w => kd_0.mp w z
      omega
  refine c_33 ?_
  have := rows 0 hn.1 (Int.le_refl 0) 0 g (SF.rf g) rfl (Int.le_refl _) (fun j hj => absurd hj (by omega))
  exact this
end CMI
