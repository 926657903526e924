/-! the law's start: the two makings, then its loop on the objects as they lie -/
theorem wp_step {sc : SCR} {d : Nat} {k : Nat} {n0 : Int} {Q : Int → GH → GH → Int → Prop} {pc : Nat} {ls st : List AV} {g r : GH} {n : Int} {i : Instr} {len : Nat} (hd : decode (am_code k) pc = .ok (i, len)) (h : stI sc d (Cd sc d) k n0 Q (WP sc d (Cd sc d) k n0 Q) pc ls st g r n i len) : WP sc d (Cd sc d) k n0 Q pc ls st g r n := by
  rw [WP_unf (Cd_mono sc d)]; unfold stp; rw [hd]; exact h
def gF : GH := dn 0 oG
def rF : GH := dn (-1) oR
theorem objA {sc : SCR} {Q R : Int → GH → GH → Int → Prop} (h : ∀ v g r, fresh g r 165 → Cd sc 61 136 [(2, 165)] g r 166 R → Q v g r 165) (hR : ∀ v, R v gF rF 218) : Cd sc 61 65 [(2, 0)] (fun _ _ => 0) (fun _ _ => -1) 1 Q := by
  obtain ⟨q, w, hA, hB0, hn, ok1, hw, ok4, ok5⟩ := okAB_e resOK_e
  have hB : resBf (some q) = some w := (congrArg resBf hA).symm.trans hB0
  refine ⟨by decide, xrun_ok 5000 60 65 1 0 _ [] [] [] 1 q hA Q ?_⟩
  rw [hn]
  refine h _ _ _ (xf_i ok1) ⟨by decide, xrun_ok 5000 60 136 166 0 _ [] q.2.1 q.2.2.1 166 w hB R ?_⟩
  rw [hw, chkF_eq ok4, chkF_eq ok5]
  exact hR _
theorem law_start {sc : SCR} (h : WQ sc 61 253 (fun v _ _ => v = 1) 18 [(2, -5), (2, 0), (2, 165), (0, 0)] [] gF rF) : WP sc 61 (Cd sc 61) 253 0 (fun v _ _ _ => v = 1) 0 (am_ent 4 [(2, -5)]) [] (fun _ _ => 0) (fun _ _ => -1) 0 := by
  have mk : am_mk 253 = 218 := by decide
  have mA : am_mk 65 = 164 := by decide
  have mB : am_mk 136 = 52 := by decide
  unfold WQ at h
  rw [mk] at h
  have pu : ∀ (i : Nat) (v : Int) (s : List AV), am_rc i = 0 → am_push (am_rc i) v s = s := fun i v s e => by rw [e]; rfl
  refine wp_step (i := .new 7) (len := 3) (by decide +kernel) ?_
  show am_len 3 3 _
  rw [show am_at 253 7 am_NL = some (8, 19) by decide +kernel]
  refine len_i rfl ⟨by decide, by decide, by decide, by rw [mk]; decide, fun j => ⟨rfl, rfl⟩, ?_⟩
  show WP sc 61 (Cd sc 61) 253 0 (fun v _ _ _ => v = 1) 3 [(2, -5), (9, 0), (9, 0), (9, 0)] [(2, 0)] _ _ 1
  refine wp_step (i := .dup) (len := 1) (by decide +kernel) ?_
  show WP sc 61 (Cd sc 61) 253 0 (fun v _ _ _ => v = 1) 4 [(2, -5), (9, 0), (9, 0), (9, 0)] [(2, 0), (2, 0)] _ _ 1
  refine wp_step (i := .invokespecial 9) (len := 3) (by decide +kernel) ?_
  show am_len 3 3 _
  rw [show am_at 253 9 am_CL = some (65, 0, 2, 21) by decide +kernel]
  refine len_i rfl ?_
  show ite _ _ _
  rw [if_pos (Or.inl rfl)]
  unfold stCall
  dsimp only
  unfold am_popN
  refine am_p_i ⟨by decide, by decide, by decide, fun _ => by rw [mk]; decide, ?_⟩
  refine objA (R := fun v g r n => WP sc 61 (Cd sc 61) 253 0 (fun v _ _ _ => v = 1) 15 [(2, -5), (2, 0), (9, 0), (9, 0)] [(2, 165)] g r n) (fun v g r hf hB => ?_) (fun v => ?_)
  · rw [pu 65 _ _ (by decide)]
    show WP sc 61 (Cd sc 61) 253 0 (fun v _ _ _ => v = 1) 7 [(2, -5), (9, 0), (9, 0), (9, 0)] [(2, 0)] g r 165
    refine wp_step (i := .astore_n 1) (len := 1) (by decide +kernel) ?_
    show WP sc 61 (Cd sc 61) 253 0 (fun v _ _ _ => v = 1) 8 [(2, -5), (2, 0), (9, 0), (9, 0)] [] g r 165
    refine wp_step (i := .new 10) (len := 3) (by decide +kernel) ?_
    show am_len 3 3 _
    rw [show am_at 253 10 am_NL = some (9, 1049) by decide +kernel]
    refine len_i rfl ⟨by decide, by decide, by decide, by rw [mk]; decide, hf, ?_⟩
    show WP sc 61 (Cd sc 61) 253 0 (fun v _ _ _ => v = 1) 11 [(2, -5), (2, 0), (9, 0), (9, 0)] [(2, 165)] g r 166
    refine wp_step (i := .dup) (len := 1) (by decide +kernel) ?_
    show WP sc 61 (Cd sc 61) 253 0 (fun v _ _ _ => v = 1) 12 [(2, -5), (2, 0), (9, 0), (9, 0)] [(2, 165), (2, 165)] g r 166
    refine wp_step (i := .invokespecial 12) (len := 3) (by decide +kernel) ?_
    show am_len 3 3 _
    rw [show am_at 253 12 am_CL = some (136, 0, 2, 1051) by decide +kernel]
    refine len_i rfl ?_
    show ite _ _ _
    rw [if_pos (Or.inl rfl)]
    unfold stCall
    dsimp only
    unfold am_popN
    refine am_p_i ⟨by decide, by decide, by decide, fun _ => by rw [mk]; decide, ?_⟩
    refine Cd_mono sc 61 _ _ _ _ _ _ _ (fun v g r n w => ?_) hB
    rw [pu 136 _ _ (by decide)]
    exact w
  · refine wp_step (i := .astore_n 2) (len := 1) (by decide +kernel) ?_
    show WP sc 61 (Cd sc 61) 253 0 (fun v _ _ _ => v = 1) 16 [(2, -5), (2, 0), (2, 165), (9, 0)] [] gF rF 218
    refine wp_step (i := .iconst 0) (len := 1) (by decide +kernel) ?_
    show WP sc 61 (Cd sc 61) 253 0 (fun v _ _ _ => v = 1) 17 [(2, -5), (2, 0), (2, 165), (9, 0)] [(0, 0)] gF rF 218
    refine wp_step (i := .istore_n 3) (len := 1) (by decide +kernel) ?_
    exact h
