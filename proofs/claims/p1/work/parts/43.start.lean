/-! the law's start: the two makings, then its loop on the objects as they lie -/
theorem wp_step {sc : SCR} {d : Nat} {k : Nat} {n0 : Int} {Q : Int → GH → GH → Int → Prop} {pc : Nat} {ls st : List AV} {g r : GH} {n : Int} {i : Instr} {len : Nat} (hd : decode (am_code k) pc = .ok (i, len)) (h : stI sc d (Cd sc d) k n0 Q (WP sc d (Cd sc d) k n0 Q) pc ls st g r n i len) : WP sc d (Cd sc d) k n0 Q pc ls st g r n := by
  rw [WP_unf (Cd_mono sc d)]; unfold stp; rw [hd]; exact h
def gF : GH := dn 0 oG
def rF : GH := dn (-1) oR
theorem objA {sc : SCR} {Q : Int → GH → GH → Int → Prop} {R : Int → GH → GH → Int → Prop} (h : ∀ g r, fresh g r 165 → (Cd sc 61 136 [(2, 165)] g r 166 R → Q 0 g r 165)) (hR : R 0 gF rF 218) : Cd sc 61 65 [(2, 0)] (fun _ _ => 0) (fun _ _ => -1) 1 Q := by
  have ok := resOK_e
  unfold resOK at ok
  cases hA : resA with
  | none => rw [hA] at ok; cases ok
  | some q =>
    rw [hA] at ok
    dsimp only at ok
    obtain ⟨ok, ok2⟩ := b2 ok
    obtain ⟨ok0, ok1⟩ := b2 ok
    have hn := of_decide_eq_true ok0
    cases hB : resB with
    | none => rw [hB] at ok2; cases ok2
    | some w =>
      rw [hB] at ok2
      dsimp only at ok2
      obtain ⟨ok2, ok5⟩ := b2 ok2
      obtain ⟨ok3, ok4⟩ := b2 ok2
      have hw := of_decide_eq_true ok3
      refine ⟨by decide, xrun_ok 5000 60 65 1 0 _ [] [] [] 1 q hA Q ?_⟩
      sorry
