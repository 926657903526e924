/-! the reference's closing of brackets, and its reading of a whole condition -/
/-- the condition is read -/
def MD (T : Int → Int) (n : Int) (g0 : GH) (x0 : XS) (m0 : GH) (g : GH) (s : Int) (m : GH) : Prop := CK 2450 g0 g ∧ Rch T n x0 (22, s, m, []) ∧ KW m0 m ∧ LV T n g s ∧ STM g m
section MCL
variable {sc : SCR} {d : Nat} {Q : QJ} {g r : GH} {l0 l1 l2 n s : Int} {T : Int → Int} {m g0 m0 : GH} {x0 : XS} {st : List (Int × Int)} {ph : Nat}
theorem f_153 (hr : RI r) (hx : XI T n x0) (hn : n ≤ 700) (h1 : ∀ g' s' m' st', MS T n g0 x0 m0 g' 30 s' m' st' → Q 1 g' r) (hD : ∀ g' s' m', MD T n g0 x0 m0 g' s' m' → Q 0 g' r) (hE : ME2 T n g0 x0 r Q) : ∀ (st : List (Int × Int)) (g : GH) (s : Int) (m : GH), MS T n g0 x0 m0 g 31 s m st → Ce sc (d + 4) 153 [(2, 165)] g r Q := by
  have k9 : okr 218 165 9 := okd (by decide +kernel)
  have loop : ∀ (st : List (Int × Int)) (g : GH) (s : Int) (m : GH), MS T n g0 x0 m0 g 31 s m st → WQ sc (d + 3) 153 Q 13 [(2, 165), (9, 0)] [] g r := by
    intro st
    induction st with
    | nil =>
      intro g s m hs
      exact absurd rfl ((hx.r hs.2.1).2.2.2.2.2.2.2.2.1 (show 30 ≤ 31 by decide) (show 31 ≤ 35 by decide))
    | cons e t ih =>
      intro g s m hs
      obtain ⟨k, j⟩ := e
      obtain ⟨ck, rc, kw, lv, stm, jk, e36⟩ := hs
      have xi := hx.r rc
      have w31 := stm.1
      have len : t.length ≤ 9 := by
        have : ((k, j) :: t).length ≤ 10 := xi.2.2.2.2.2.1
        rw [List.length_cons] at this; omega
      have e36 : g 165 36 = (t.length : Int) := by rw [e36, List.length_cons]; omega
      have sw := xi.2.2.2.1.hd
      have sw : 0 ≤ k ∧ k ≤ 2 ∧ 0 ≤ j ∧ j ≤ 3 ∧ (k = 1 → j = 0) := sw
      have sb : SB ((k, j) :: t) := xi.2.2.2.2.1
      have c13 : 0 ≤ m 0 13 := xi.2.1
      have bud : 2 * (m 0 13 + (jn j + (if k = 1 then 1 else 0) + pd t)) ≤ n := by
        have a := xi.2.2.1
        have b := xi.1.2.1
        have a : 2 * (m 0 13 + (jn j + (if k = 1 then 1 else 0) + pd t) + 0) ≤ s := a
        have b : s ≤ n := b
        omega
      have pt := pd_b t
      have jb := jn_b' j
      have j191 : g 191 (t.length : Int) = j := jk.1
      have iJ : okI 218 191 11 (t.length : Int) := i_191.mpr ⟨by omega, by omega⟩
      -- no word before an operand: and, or, a bracket, or the end
      have e56 : k ≠ 1 → WQ sc (d + 3) 153 Q 56 [(2, 165), (9, 0)] [] g r := by
        intro hk
        rw [if_neg hk] at bud
        have ex31 : ∀ (q : Int), j % 2 = 1 → q = 0 → xp T n 31 s m ((k, j) :: t) = (32, s, put m (-2), (k, j - 1) :: t) := fun q z _ => by
          show (if k = 1 then _ else if j % 2 = 1 then _ else _) = _
          rw [if_neg hk, if_pos z]
        have ex31e : ¬ j % 2 = 1 → xp T n 31 s m ((k, j) :: t) = (32, s, m, (k, j) :: t) := fun z => by
          show (if k = 1 then _ else if j % 2 = 1 then _ else _) = _
          rw [if_neg hk, if_neg z]
        have jm : j.tmod 2 = 1 ↔ j % 2 = 1 := by
          have : j = 0 ∨ j = 1 ∨ j = 2 ∨ j = 3 := by omega
          rcases this with rfl | rfl | rfl | rfl <;> decide
        -- the end of a piece: all that waits is paid
        have e225 : ∀ (g1 : GH) (m1 : GH), CK 2450 g0 g1 → Rch T n x0 (33, s, m1, (k, 0) :: t) → KW m0 m1 → LV T n g1 s → STM g1 m1 → JK g1 ((k, 0) :: t) → g1 165 36 = (t.length : Int) → ¬ isW T n s (wdl 21) = true → WQ sc (d + 3) 153 Q 225 [(2, 165), (9, 0)] [(0, if 0 < g1 165 36 then 1 else 0)] g1 r := by
          intro g1 m1 ck1 rc1 kw1 lv1 stm1 jk1 e1 no
          refine b_153_225 ?_
          rw [e1]
          cases t with
          | nil =>
            rw [if_neg (show ¬ (0 : Int) < (([] : List (Int × Int)).length : Int) by rw [List.length_nil]; omega), if_pos rfl]
            refine ⟨Or.inl rfl, hD g1 s m1 ⟨ck1, rc1.st ?_, kw1, lv1, stm1⟩⟩
            show (if isW T n s (wdl 21) = true then _ else _) = _
            rw [if_neg no]
          | cons e2 t2 =>
            obtain ⟨k2, j2⟩ := e2
            rw [if_pos (show (0 : Int) < ((((k2, j2) :: t2).length : Nat) : Int) by rw [List.length_cons]; omega), if_neg (by decide), lv1.1.f29]
            refine ⟨k9, ite_c (fun z => ⟨k9, k9, fun g2 e2' => ⟨k9, ?_⟩⟩) (fun z => ⟨k9, f_145 lv1 (fun v g' e bb => ⟨Or.inl rfl, hE g' s m1 ((k, 0) :: (k2, j2) :: t2) (fun i j p q u w => (e i j (by omega)).trans (ck1 i j p q u w)) (rc1.st ?_) bb⟩)⟩)⟩
            · rw [List.length_cons, wr_id ⟨by rw [List.length_cons] at len; omega, by rw [List.length_cons] at len; omega⟩] at e2'
              have f2 : g2 165 36 = (t2.length : Int) := by rw [e2', up_s]; omega
              have lv2 : LV T n g2 s := by rw [e2']; exact lv1.up (by omega)
              refine fn_144 hr lv2.1 (fun _ g3 o3 t3 => ?_)
              have lv3 := lv2.nx o3 t3
              refine b_153_2 ?_
              rw [if_neg (by decide)]
              refine ⟨k9, ?_⟩
              rw [if_pos lv3.2]
              refine ih g3 (nx T n s) m1 ⟨OX.ck (by rw [e2']; exact ck1.u (by omega)) o3, rc1.st ?_, kw1, lv3, ?_, ?_, ?_⟩
              · show (if isW T n s (wdl 21) = true then _ else (if isS T n s 41 = true then _ else _)) = _
                rw [if_neg no, if_pos ((tok_c (by decide)).mp z)]
              · have : STM g2 m1 := by rw [e2']; exact stm1.up (by omega)
                exact this.ox o3
              · refine JK.ox ?_ o3
                rw [e2']
                exact JK.eq (fun p q hp hq => up_o (by omega)) jk1.2.2
              · rw [o3 165 36 (by decide), f2, List.length_cons]; omega
            · show (if isW T n s (wdl 21) = true then _ else (if isS T n s 41 = true then _ else _)) = _
              rw [if_neg no, if_neg (fun w => z ((tok_c (by decide)).mpr w))]
        -- behind the or's step: joined is cleared, then or
        have e181 : ∀ (g1 : GH) (m1 : GH) (jj : Int), CK 2450 g0 g1 → Rch T n x0 (33, s, m1, (k, 0) :: t) → KW m0 m1 → LV T n g1 s → STM g1 m1 → JK g1 ((k, jj) :: t) → g1 165 36 = (t.length : Int) → WQ sc (d + 3) 153 Q 181 [(2, 165), (9, 0)] [] g1 r := by
          intro g1 m1 jj ck1 rc1 kw1 lv1 stm1 jk1 e1
          refine b_153_181 ?_
          rw [r_165_35 hr, e1]
          refine ⟨k9, k9, iJ, fun g2 e2 => ⟨k9, ?_⟩⟩
          have ck2 : CK 2450 g0 g2 := by rw [e2]; exact ck1.u (by omega)
          have lv2 : LV T n g2 s := by rw [e2]; exact lv1.up (by omega)
          have stm2 : STM g2 m1 := by rw [e2]; exact stm1.up (by omega)
          have jk2 : JK g2 ((k, 0) :: t) := by rw [e2]; exact jk1.jo
          have e236 : g2 165 36 = (t.length : Int) := by rw [e2, up_i (by decide)]; exact e1
          refine f_147 hr 21 (by decide) rfl lv2 (fun z g3 o3 lv3 => ?_) (fun z => ?_)
          · rw [if_neg (by decide), r_165_35 hr]
            have e3 : g3 165 36 = (t.length : Int) := by rw [o3 165 36 (by decide)]; exact e236
            rw [e3]
            refine ⟨k9, k9, iJ, fun g4 e4 => ⟨Or.inr rfl, h1 g4 (nx T n s) m1 ((k, 2) :: t) ⟨?_, rc1.st ?_, kw1, ?_, ?_, ?_, ?_⟩⟩⟩
            · rw [e4]; exact (OX.ck ck2 o3).u (by omega)
            · show (if isW T n s (wdl 21) = true then _ else _) = _
              rw [if_pos z]
            · rw [e4]; exact lv3.up (by omega)
            · rw [e4]; exact (stm2.ox o3).up (by omega)
            · rw [e4]; exact (jk2.ox o3).jo
            · rw [e4, up_i (by decide), e3, List.length_cons]; omega
          · rw [if_pos rfl]
            have := e225 g2 m1 ck2 rc1 kw1 lv2 stm2 jk2 e236 z
            refine ⟨k9, ite_c (fun y => ?_) (fun y => ?_)⟩
            · rw [if_pos y] at this; exact this
            · rw [if_neg y] at this; exact this
        -- behind the and's step: joined without its unit, then the or's step
        have e138 : ∀ (g1 : GH) (m1 : GH) (jj jv : Int), (jj = 0 ∨ jj = 1 ∨ jj = 2 ∨ jj = 3) → jv = wr ((wr (jj.tdiv 2)) * 2) → (jv = 2 → m1 0 13 ≤ 349 ∧ 0 ≤ m1 0 13) → ¬ isW T n s (wdl 20) = true → CK 2450 g0 g1 → Rch T n x0 (32, s, m1, (k, jv) :: t) → KW m0 m1 → LV T n g1 s → STM g1 m1 → JK g1 ((k, jj) :: t) → g1 165 36 = (t.length : Int) → WQ sc (d + 3) 153 Q 138 [(2, 165), (9, 0)] [] g1 r := by
          intro g1 m1 jj jv hj hv room no ck1 rc1 kw1 lv1 stm1 jk1 e1
          have j1 : g1 191 (t.length : Int) = jj := jk1.1
          have jv2 : jv = 0 ∨ jv = 2 := by
            rcases hj with q | q | q | q <;> rw [hv, q] <;> decide
          refine b_153_138 ?_
          rw [r_165_35 hr, e1]
          refine ⟨k9, k9, k9, k9, iJ, by decide, iJ, fun g2 e2 => ⟨k9, k9, ?_⟩⟩
          rw [j1, ← hv] at e2
          have ck2 : CK 2450 g0 g2 := by rw [e2]; exact ck1.u (by omega)
          have lv2 : LV T n g2 s := by rw [e2]; exact lv1.up (by omega)
          have stm2 : STM g2 m1 := by rw [e2]; exact stm1.up (by omega)
          have jk2 : JK g2 ((k, jv) :: t) := by rw [e2]; exact jk1.jo
          have e236 : g2 165 36 = (t.length : Int) := by rw [e2, up_i (by decide)]; exact e1
          have j2 : g2 191 (t.length : Int) = jv := jk2.1
          rw [e236, j2]
          refine ⟨iJ, ite_c (fun z => ⟨k9, ?_⟩) (fun z => ?_)⟩
          · have jve : jv = 2 := by omega
            have rm := room jve
            have w2 := stm2.1
            subst jve
            refine s_151 hr (by omega) (by omega) (fun v => e181 _ (put m1 (-3)) 2 (ck2.ws (by omega)) (rc1.st ?_) kw1.pt lv2.ws (stm2.pt (Or.inr (Or.inr (Or.inl ⟨rfl, ws_185⟩)))) jk2.ws ?_)
            · show (if isW T n s (wdl 20) = true then _ else if (2 : Int) = 2 then _ else _) = _
              rw [if_neg no, if_pos rfl]
            · rw [ws_o (by omega)]; exact e236
          · have jve : jv = 0 := by omega
            subst jve
            refine e181 g2 m1 0 ck2 (rc1.st ?_) kw1 lv2 stm2 jk2 e236
            show (if isW T n s (wdl 20) = true then _ else if (0 : Int) = 2 then _ else _) = _
            rw [if_neg no, if_neg (by decide)]
        -- behind the and's step, and passed: joined with its unit
        have e89 : ∀ (g1 : GH) (m1 : GH) (jj jv : Int), jv = wr ((wr ((wr (jj.tdiv 2)) * 2)) + 1) → CK 2450 g0 g1 → Rch T n x0 (30, nx T n s, m1, (k, jv) :: t) → KW m0 m1 → LV T n g1 (nx T n s) → STM g1 m1 → JK g1 ((k, jj) :: t) → g1 165 36 = (t.length : Int) → WQ sc (d + 3) 153 Q 89 [(2, 165), (9, 0)] [] g1 r := by
          intro g1 m1 jj jv hv ck1 rc1 kw1 lv1 stm1 jk1 e1
          have j1 : g1 191 (t.length : Int) = jj := jk1.1
          refine b_153_89 ?_
          rw [r_165_35 hr, e1]
          refine ⟨k9, k9, k9, k9, iJ, by decide, iJ, fun g2 e2 => ⟨Or.inr rfl, ?_⟩⟩
          rw [j1, ← hv] at e2
          refine h1 g2 (nx T n s) m1 ((k, jv) :: t) ⟨by rw [e2]; exact ck1.u (by omega), rc1, kw1, by rw [e2]; exact lv1.up (by omega), by rw [e2]; exact stm1.up (by omega), by rw [e2]; exact jk1.jo, ?_⟩
          rw [e2, up_i (by decide), e1, List.length_cons]; omega
        have j4 : j = 0 ∨ j = 1 ∨ j = 2 ∨ j = 3 := by omega
        refine b_153_56 ⟨k9, f_147 hr 20 (by decide) rfl lv (fun z g1 o1 lv1 => ?_) (fun z => ?_)⟩
        · rw [if_neg (by decide), r_165_35 hr]
          have e1 : g1 165 36 = (t.length : Int) := by rw [o1 165 36 (by decide)]; exact e36
          have j1 : g1 191 (t.length : Int) = j := by rw [o1 191 _ (by omega)]; exact j191
          rw [e1, j1]
          refine ⟨k9, k9, iJ, by decide, ite_c (fun q => ⟨k9, ?_⟩) (fun q => ?_)⟩
          · have q' := jm.mp q
            have jo : j = 1 ∨ j = 3 := by omega
            have j0 : 1 ≤ jn j := by rcases jo with rfl | rfl <;> decide
            have w1 := (stm.ox o1).1
            refine s_151 hr (by omega) (by omega) (fun v => e89 _ (put m (-2)) j j (by rcases jo with rfl | rfl <;> decide) ((OX.ck ck o1).ws (by omega)) ((rc.st (ex31 0 q' rfl)).st ?_) kw.pt lv1.ws ((stm.ox o1).pt (Or.inr (Or.inl ⟨rfl, ws_185⟩))) (jk.ox o1).ws (by rw [ws_o (by omega)]; exact e1))
            show (if isW T n s (wdl 20) = true then (30, nx T n s, put m (-2), (k, j - 1 + 1) :: t) else _) = _
            rw [if_pos z, show j - 1 + 1 = j by omega]
          · have q' : ¬ j % 2 = 1 := fun w => q (jm.mpr w)
            have jo : j = 0 ∨ j = 2 := by omega
            refine e89 g1 m j (j + 1) (by rcases jo with rfl | rfl <;> decide) (OX.ck ck o1) ((rc.st (ex31e q')).st ?_) kw lv1 (stm.ox o1) (jk.ox o1) e1
            show (if isW T n s (wdl 20) = true then _ else _) = _
            rw [if_pos z]
        · rw [if_pos rfl, r_165_35 hr, e36, j191]
          refine ⟨k9, k9, iJ, by decide, ite_c (fun q => ⟨k9, ?_⟩) (fun q => ?_)⟩
          · have q' := jm.mp q
            have jo : j = 1 ∨ j = 3 := by omega
            have j0 : 1 ≤ jn j := by rcases jo with rfl | rfl <;> decide
            have j2 : j = 3 → jn j = 2 := fun w => by rw [w]; decide
            refine s_151 hr (by omega) (by omega) (fun v => e138 _ (put m (-2)) j (j - 1) j4 (by rcases jo with rfl | rfl <;> decide) (fun w => ?_) z (ck.ws (by omega)) (rc.st (ex31 0 q' rfl)) kw.pt lv.ws (stm.pt (Or.inr (Or.inl ⟨rfl, ws_185⟩))) jk.ws (by rw [ws_o (by omega)]; exact e36))
            rw [put_13]
            have := j2 (by omega)
            omega
          · have q' : ¬ j % 2 = 1 := fun w => q (jm.mpr w)
            have jo : j = 0 ∨ j = 2 := by omega
            refine e138 g m j j j4 (by rcases jo with rfl | rfl <;> decide) (fun w => ?_) z ck (rc.st (ex31e q')) kw lv stm jk e36
            have : jn j = 1 := by rw [w]; decide
            omega
      refine b_153_13 ?_
      rw [r_165_34 hr, e36]
      refine ⟨k9, ite_c (fun z => ?_) (fun z => e56 ?_)⟩
      · have tn : t ≠ [] := fun w => by rw [w, List.length_nil] at z; omega
        have w36 : wr ((t.length : Int) - 1) = (t.length : Int) - 1 := wr_id ⟨by omega, by omega⟩
        rw [w36, jk.2.1 tn]
        refine ⟨k9, k9, i_190.mpr ⟨by omega, by omega⟩, ite_c (fun q => ⟨k9, k9, fun g1 e1 => ⟨k9, ?_⟩⟩) (fun q => e56 q)⟩
        have q : k = 1 := q
        rw [if_pos q] at bud
        have f36 : g1 165 36 = (t.length : Int) - 1 := by rw [e1, up_s]
        have f31 : g1 165 31 = g 165 31 := by rw [e1, up_j (by decide)]
        refine s_151 hr (by omega) (by omega) (fun v => ih _ s (put m (-1)) ⟨?_, rc.st ?_, kw.pt, ?_, ?_, ?_, ?_⟩)
        · rw [e1]; exact (ck.u (by omega)).ws (by rw [up_j (by decide)]; omega)
        · show (if k = 1 then _ else _) = _
          rw [if_pos q]
        · rw [e1]; exact (lv.up (by omega)).ws
        · rw [e1]; exact (stm.up (by omega)).pt (Or.inl ⟨rfl, ws_185⟩)
        · refine JK.ws ?_
          rw [e1]
          exact JK.eq (fun p q hp hq => up_o (by omega)) jk.2.2
        · rw [ws_o (by omega), f36]
      · have tz : t = [] := by
          cases t with
          | nil => rfl
          | cons a b => exact absurd (by rw [List.length_cons]; omega) z
        subst tz
        have : k = 0 := sb
        omega
  intro st g s m hs
  have lv := hs.2.2.2.1
  refine c_153 (b_153_2 ?_)
  rw [if_neg (by decide)]
  refine ⟨k9, ?_⟩
  rw [if_pos lv.2]
  exact loop st g s m hs
theorem f_154 (hr : RI r) (hx : XI T n (30, s, m, [(0, 0)])) (lv : LV T n g s) (stm : STM g m) (hD : ∀ g' s' m', MD T n g (30, s, m, [(0, 0)]) m g' s' m' → Q 0 g' r) (hE : ME2 T n g (30, s, m, [(0, 0)]) r Q) : Ce sc (d + 6) 154 [(2, 165)] g r Q := by
  have k9 : okr 218 165 9 := okd (by decide +kernel)
  have hn : n ≤ 700 := lv.1.1.1.2
  have end0 : ∀ g', Q 0 g' r → WQ sc (d + 5) 154 Q 14 [(2, 165), (0, 0), (9, 0)] [] g' r := fun g' e => b_154_14 (by rw [if_pos rfl]; exact e)
  have loop : ∀ i : Int, ∀ (g1 : GH) (m1 : GH) (st : List (Int × Int)), MS T n g (30, s, m, [(0, 0)]) m g1 30 i m1 st → WQ sc (d + 5) 154 Q 14 [(2, 165), (0, 1), (9, 0)] [] g1 r := by
    refine upG (n + 1) fun i ih g1 m1 st hs => ?_
    have hs0 := hs
    obtain ⟨ck, rc, kw, lv, stm, jk, e36⟩ := hs
    have xi := hx.r rc
    have tsi := lv.1.ts
    have ilt : i < n + 1 := by have := tsi.2.1; omega
    have len : st.length ≤ 10 := xi.2.2.2.2.2.1
    have ne : st ≠ [] := xi.2.2.2.2.2.2.2.2.1 (show 30 ≤ 30 by decide) (show 30 ≤ 35 by decide)
    have len1 : 1 ≤ st.length := by
      cases st with
      | nil => exact absurd rfl ne
      | cons a b => rw [List.length_cons]; omega
    -- a bracket, or the word not
    have e46 : ∀ (v o : Int), (v = 0 → o = 2) → (v ≠ 0 → o = 1) → (xp T n 30 i m1 st = if 10 ≤ st.length then (91, i, m1, st) else (30, nx T n i, m1, (o, 0) :: st)) → i < n → WQ sc (d + 5) 154 Q 46 [(2, 165), (0, 1), (0, v)] [] g1 r := by
      intro v o ho ho1 ex lt
      refine b_154_46 ⟨k9, ?_⟩
      rw [e36]
      refine ite_c (fun z => ⟨k9, f_145 lv (fun v g' e bb => hE g' i m1 st (fun a b p q u w => (e a b (by omega)).trans (ck a b p q u w)) (rc.st ?_) bb)⟩) (fun z => ?_)
      · show xp T n 30 i m1 st = _
        rw [ex, if_pos (by omega)]
      · have ex2 : xp T n 30 i m1 st = (30, nx T n i, m1, (o, 0) :: st) := by rw [ex, if_neg (by omega)]
        have e77 : ∀ o', o' = o → WQ sc (d + 5) 154 Q 77 [(2, 165), (0, 1), (9, 0)] [(0, o'), (0, (st.length : Int) - 1), (2, 190)] g1 r := by
          intro o' eo
          refine b_154_77 ⟨i_190.mpr ⟨by omega, by omega⟩, fun g2 e2 => ⟨k9, k9, fun g3 e3 => ⟨k9, k9, ?_⟩⟩⟩
          have f36 : g2 165 36 = (st.length : Int) - 1 := by rw [e2, up_i (by decide)]; exact e36
          rw [f36, wr_id (x := (st.length : Int) - 1 + 1) ⟨by omega, by omega⟩, show (st.length : Int) - 1 + 1 = (st.length : Int) by omega] at e3
          have f363 : g3 165 36 = (st.length : Int) := by rw [e3, up_s]
          rw [r_165_35 hr, f363]
          refine ⟨i_191.mpr ⟨by omega, by omega⟩, fun g4 e4 => ⟨k9, ?_⟩⟩
          have lv4 : LV T n g4 i := by rw [e4, e3, e2]; exact ((lv.up (by omega)).up (by omega)).up (by omega)
          have stm4 : STM g4 m1 := by rw [e4, e3, e2]; exact ((stm.up (by omega)).up (by omega)).up (by omega)
          have ck4 : CK 2450 g g4 := by rw [e4, e3, e2]; exact ((ck.u (by omega)).u (by omega)).u (by omega)
          have jk4 : JK g4 ((o, 0) :: st) := by
            refine ⟨by rw [e4, up_s], fun _ => by rw [e4, up_i (by decide), e3, up_i (by decide), e2, up_s]; exact eo, ?_⟩
            cases st with
            | nil => exact trivial
            | cons a b =>
              have hl : (((a :: b).length : Nat) : Int) = (b.length : Int) + 1 := by rw [List.length_cons]; omega
              obtain ⟨x, y, z⟩ := jk
              refine ⟨?_, fun w => ?_, JK.eq (fun p q hp hq => ?_) z⟩
              · rw [e4, up_j (by omega), e3, up_i (by decide), e2, up_i (by decide)]; exact x
              · rw [e4, up_i (by decide), e3, up_i (by decide), e2, up_j (by omega)]; exact y w
              · rw [e4, up_o (by omega), e3, up_o (by omega), e2, up_o (by omega)]
          have f364 : g4 165 36 = (((o, 0) :: st).length : Int) - 1 := by rw [e4, up_i (by decide), f363, List.length_cons]; omega
          refine fn_144 hr lv4.1 (fun _ g5 o5 t5 => ?_)
          have gt := nx_gt (T := T) lt
          refine ih ilt (nx T n i) (by omega) g5 m1 ((o, 0) :: st) ⟨OX.ck ck4 o5, rc.st ex2, kw, lv4.nx o5 t5, stm4.ox o5, jk4.ox o5, by rw [o5 165 36 (by decide)]; exact f364⟩
        refine ⟨k9, k9, ?_⟩
        rw [r_165_34 hr]
        exact ite_c (fun y => e77 2 (ho y).symm) (fun y => e77 1 (ho1 y).symm)
    refine b_154_14 ?_
    rw [if_neg (by decide), if_pos lv.2]
    refine ⟨k9, k9, f_146 14 (by decide) rfl lv (fun z => ?_) (fun z14 => ?_)⟩
    · rw [if_neg (by decide)]
      refine e46 1 1 (fun w => absurd w (by decide)) (fun _ => rfl) ?_ (isW_lt z)
      show (if isW T n i (wdl 14) = true then _ else _) = _
      rw [if_pos z]
    · rw [if_pos rfl, lv.1.f29]
      refine ⟨k9, ite_c (fun z => ?_) (fun z => ⟨k9, ?_⟩)⟩
      · have z' := (tok_c (T := T) (n := n) (s := i) (c := 40) (by decide)).mp z
        refine e46 0 2 (fun _ => rfl) (fun w => absurd rfl w) ?_ (isS_lt z')
        show (if isW T n i (wdl 14) = true then _ else if isS T n i 40 = true then _ else _) = _
        rw [if_neg z14, if_pos z']
      · have z40 : ¬ isS T n i 40 = true := fun w => z ((tok_c (by decide)).mpr w)
        refine f_152 (g0 := g1) (x0 := (30, i, m1, st)) (m0 := m1) hr xi ⟨CK.rf _ _, Rch.rf _, KW.rf _, lv, stm, jk, e36⟩ z14 z40 (fun g2 s2 m2 hs2 lt2 => ⟨k9, ?_⟩) (fun g2 s2 m2 st2 ck2 rc2 bb => ⟨k9, ?_⟩)
        · have lv2 := hs2.2.2.2.1
          have xi2 := xi.r hs2.2.1
          rw [if_pos lv2.2]
          refine ⟨k9, f_153 (g0 := g2) (x0 := (31, s2, m2, st)) (m0 := m2) hr xi2 hn (fun g3 s3 m3 st3 hs3 => ?_) (fun g3 s3 m3 hd3 => ?_) (fun g3 s3 m3 st3 ck3 rc3 bb => ?_) st g2 s2 m2 ⟨CK.rf _ _, Rch.rf _, KW.rf _, lv2, hs2.2.2.2.2⟩⟩
          · rw [if_neg (by decide)]
            have le : s2 ≤ s3 := rch_le xi2 hs3.2.1
            exact ih ilt s3 (by omega) g3 m3 st3 ⟨(ck.tr hs2.1).tr hs3.1, (rc.tr hs2.2.1).tr hs3.2.1, (kw.tr hs2.2.2.1).tr hs3.2.2.1, hs3.2.2.2⟩
          · rw [if_pos rfl]
            exact end0 _ (hD g3 s3 m3 ⟨(ck.tr hs2.1).tr hd3.1, (rc.tr hs2.2.1).tr hd3.2.1, (kw.tr hs2.2.2.1).tr hd3.2.2.1, hd3.2.2.2⟩)
          · rw [if_pos rfl]
            exact end0 _ (hE g3 s3 m3 st3 ((ck.tr hs2.1).tr ck3) ((rc.tr hs2.2.1).tr rc3) bb)
        · rw [if_neg bb.1]
          exact end0 _ (hE g2 s2 m2 st2 (ck.tr ck2) (rc.tr rc2) bb)
  refine c_154 ⟨k9, fun g1 e1 => ⟨k9, ?_⟩⟩
  rw [r_165_35 hr]
  refine ⟨i_191.mpr ⟨by decide, by decide⟩, fun g2 e2 => ?_⟩
  refine loop s g2 m [(0, 0)] ⟨?_, Rch.rf _, KW.rf _, ?_, ?_, ?_, ?_⟩
  · rw [e2, e1]; exact ((CK.rf _ g).u (by omega)).u (by omega)
  · rw [e2, e1]; exact (lv.up (by omega)).up (by omega)
  · rw [e2, e1]; exact (stm.up (by omega)).up (by omega)
  · exact ⟨by rw [e2]; exact up_s, fun z => absurd rfl z, trivial⟩
  · rw [e2, up_i (by decide), e1, up_s]; rfl
end MCL
