/-! one call of the law on a fresh object, printed by a program -/
section FLW
variable {sc : SCR}
theorem law_end {g r : GH} (e6 : sc.1 = 6) : WQ sc 61 253 (fun v _ _ => v = 1) 18 [(2, -5), (2, 0), (2, 165), (0, wr (0 + 6))] [] g r := by
  refine b_253_18 ⟨rfl, ?_⟩
  rw [e6, if_pos (by decide)]
  exact ⟨Or.inr rfl, rfl⟩
theorem law_ix {k : Int} (e6 : sc.1 = 6) (h0 : 0 ≤ wr (0 + k)) (h1 : wr (0 + k) < 6) : (-5 : Int) = -5 ∧ 0 ≤ wr (0 + k) ∧ wr (0 + k) < sc.1 := ⟨rfl, h0, by rw [e6]; exact h1⟩
theorem L_224 (e6 : sc.1 = 6) (hs : ∀ j, rI (sc.2 j)) : WQ sc 61 253 (fun v _ _ => v = 1) 224 [(2, -5), (2, 0), (2, 165), (0, 0)] [] gF rF := by
  refine b_253_224 ⟨law_ix e6 (by decide) (by decide), law_ix e6 (by decide) (by decide), law_ix e6 (by decide) (by decide), law_ix e6 (by decide) (by decide), law_ix e6 (by decide) (by decide), okd (by decide +kernel), A_66 fun g1 hc => ⟨law_ix e6 (by decide) (by decide), law_ix e6 (by decide) (by decide), law_ix e6 (by decide) (by decide), law_ix e6 (by decide) (by decide), law_ix e6 (by decide) (by decide), okd (by decide +kernel), B_142 hc fun g2 => ?_⟩⟩
  first | rw [if_pos rfl] | rw [if_pos (cmp_eq.mpr rfl)]
  exact law_end e6
theorem L_287 (e6 : sc.1 = 6) (hs : ∀ j, rI (sc.2 j)) : WQ sc 61 253 (fun v _ _ => v = 1) 287 [(2, -5), (2, 0), (2, 165), (0, 0)] [] gF rF := by
  refine b_253_287 ⟨law_ix e6 (by decide) (by decide), law_ix e6 (by decide) (by decide), okd (by decide +kernel), A_67 fun g1 hc => ⟨law_ix e6 (by decide) (by decide), law_ix e6 (by decide) (by decide), okd (by decide +kernel), B_159 hc fun g2 => ?_⟩⟩
  first | rw [if_pos rfl] | rw [if_pos (cmp_eq.mpr rfl)]
  exact law_end e6
theorem L_320 (e6 : sc.1 = 6) (hs : ∀ j, rI (sc.2 j)) : WQ sc 61 253 (fun v _ _ => v = 1) 320 [(2, -5), (2, 0), (2, 165), (0, 0)] [] gF rF := by
  refine b_253_320 ⟨okd (by decide +kernel), A_68 fun g1 hc => ⟨okd (by decide +kernel), B_160 hc fun g2 => ?_⟩⟩
  first | rw [if_pos rfl] | rw [if_pos (cmp_eq.mpr rfl)]
  exact law_end e6
theorem L_333 (e6 : sc.1 = 6) (hs : ∀ j, rI (sc.2 j)) : WQ sc 61 253 (fun v _ _ => v = 1) 333 [(2, -5), (2, 0), (2, 165), (0, 0)] [] gF rF := by
  refine b_253_333 ⟨law_ix e6 (by decide) (by decide), law_ix e6 (by decide) (by decide), okd (by decide +kernel), A_69 fun g1 hc => ⟨law_ix e6 (by decide) (by decide), law_ix e6 (by decide) (by decide), okd (by decide +kernel), B_210 hc fun g2 => ?_⟩⟩
  first | rw [if_pos rfl] | rw [if_pos (cmp_eq.mpr rfl)]
  exact law_end e6
theorem L_366 (e6 : sc.1 = 6) (hs : ∀ j, rI (sc.2 j)) : WQ sc 61 253 (fun v _ _ => v = 1) 366 [(2, -5), (2, 0), (2, 165), (0, 0)] [] gF rF := by
  refine b_253_366 ⟨law_ix e6 (by decide) (by decide), law_ix e6 (by decide) (by decide), okd (by decide +kernel), A_70 fun g1 hc => ⟨law_ix e6 (by decide) (by decide), law_ix e6 (by decide) (by decide), okd (by decide +kernel), B_163 hc fun g2 => ?_⟩⟩
  first | rw [if_pos rfl] | rw [if_pos (cmp_eq.mpr rfl)]
  exact law_end e6
theorem L_399 (e6 : sc.1 = 6) (hs : ∀ j, rI (sc.2 j)) : WQ sc 61 253 (fun v _ _ => v = 1) 399 [(2, -5), (2, 0), (2, 165), (0, 0)] [] gF rF := by
  refine b_253_399 ⟨law_ix e6 (by decide) (by decide), law_ix e6 (by decide) (by decide), law_ix e6 (by decide) (by decide), law_ix e6 (by decide) (by decide), okd (by decide +kernel), A_71 fun g1 hc => ⟨law_ix e6 (by decide) (by decide), law_ix e6 (by decide) (by decide), law_ix e6 (by decide) (by decide), law_ix e6 (by decide) (by decide), okd (by decide +kernel), B_180 hc fun g2 => ?_⟩⟩
  first | rw [if_pos rfl] | rw [if_pos (cmp_eq.mpr rfl)]
  exact law_end e6
theorem L_453 (e6 : sc.1 = 6) (hs : ∀ j, rI (sc.2 j)) : WQ sc 61 253 (fun v _ _ => v = 1) 453 [(2, -5), (2, 0), (2, 165), (0, 0)] [] gF rF := by
  refine b_253_453 ⟨law_ix e6 (by decide) (by decide), law_ix e6 (by decide) (by decide), law_ix e6 (by decide) (by decide), okd (by decide +kernel), A_72 fun g1 hc => ⟨law_ix e6 (by decide) (by decide), law_ix e6 (by decide) (by decide), law_ix e6 (by decide) (by decide), okd (by decide +kernel), B_181 hc fun g2 => ?_⟩⟩
  first | rw [if_pos rfl] | rw [if_pos (cmp_eq.mpr rfl)]
  exact law_end e6
theorem L_496 (e6 : sc.1 = 6) (hs : ∀ j, rI (sc.2 j)) : WQ sc 61 253 (fun v _ _ => v = 1) 496 [(2, -5), (2, 0), (2, 165), (0, 0)] [] gF rF := by
  refine b_253_496 ⟨law_ix e6 (by decide) (by decide), law_ix e6 (by decide) (by decide), law_ix e6 (by decide) (by decide), law_ix e6 (by decide) (by decide), okd (by decide +kernel), A_73 fun g1 hc => ⟨law_ix e6 (by decide) (by decide), law_ix e6 (by decide) (by decide), law_ix e6 (by decide) (by decide), law_ix e6 (by decide) (by decide), okd (by decide +kernel), B_183 hc fun g2 => ?_⟩⟩
  first | rw [if_pos rfl] | rw [if_pos (cmp_eq.mpr rfl)]
  exact law_end e6
theorem L_550 (e6 : sc.1 = 6) (hs : ∀ j, rI (sc.2 j)) : WQ sc 61 253 (fun v _ _ => v = 1) 550 [(2, -5), (2, 0), (2, 165), (0, 0)] [] gF rF := by
  refine b_253_550 ⟨law_ix e6 (by decide) (by decide), law_ix e6 (by decide) (by decide), law_ix e6 (by decide) (by decide), law_ix e6 (by decide) (by decide), law_ix e6 (by decide) (by decide), okd (by decide +kernel), A_74 fun g1 hc => ⟨law_ix e6 (by decide) (by decide), law_ix e6 (by decide) (by decide), law_ix e6 (by decide) (by decide), law_ix e6 (by decide) (by decide), law_ix e6 (by decide) (by decide), okd (by decide +kernel), B_184 hc fun g2 => ?_⟩⟩
  first | rw [if_pos rfl] | rw [if_pos (cmp_eq.mpr rfl)]
  exact law_end e6
theorem L_614 (e6 : sc.1 = 6) (hs : ∀ j, rI (sc.2 j)) : WQ sc 61 253 (fun v _ _ => v = 1) 614 [(2, -5), (2, 0), (2, 165), (0, 0)] [] gF rF := by
  refine b_253_614 ⟨law_ix e6 (by decide) (by decide), law_ix e6 (by decide) (by decide), law_ix e6 (by decide) (by decide), law_ix e6 (by decide) (by decide), law_ix e6 (by decide) (by decide), okd (by decide +kernel), A_75 fun g1 hc => ⟨law_ix e6 (by decide) (by decide), law_ix e6 (by decide) (by decide), law_ix e6 (by decide) (by decide), law_ix e6 (by decide) (by decide), law_ix e6 (by decide) (by decide), okd (by decide +kernel), B_186 hc fun g2 => ?_⟩⟩
  first | rw [if_pos rfl] | rw [if_pos (cmp_eq.mpr rfl)]
  exact law_end e6
theorem L_678 (e6 : sc.1 = 6) (hs : ∀ j, rI (sc.2 j)) : WQ sc 61 253 (fun v _ _ => v = 1) 678 [(2, -5), (2, 0), (2, 165), (0, 0)] [] gF rF := by
  refine b_253_678 ⟨law_ix e6 (by decide) (by decide), law_ix e6 (by decide) (by decide), law_ix e6 (by decide) (by decide), okd (by decide +kernel), A_76 fun g1 hc => ⟨law_ix e6 (by decide) (by decide), law_ix e6 (by decide) (by decide), law_ix e6 (by decide) (by decide), okd (by decide +kernel), B_188 hc fun g2 => ?_⟩⟩
  first | rw [if_pos rfl] | rw [if_pos (cmp_eq.mpr rfl)]
  exact law_end e6
theorem L_721 (e6 : sc.1 = 6) (hs : ∀ j, rI (sc.2 j)) : WQ sc 61 253 (fun v _ _ => v = 1) 721 [(2, -5), (2, 0), (2, 165), (0, 0)] [] gF rF := by
  refine b_253_721 ⟨law_ix e6 (by decide) (by decide), law_ix e6 (by decide) (by decide), law_ix e6 (by decide) (by decide), law_ix e6 (by decide) (by decide), law_ix e6 (by decide) (by decide), okd (by decide +kernel), A_77 fun g1 hc => ⟨law_ix e6 (by decide) (by decide), law_ix e6 (by decide) (by decide), law_ix e6 (by decide) (by decide), law_ix e6 (by decide) (by decide), law_ix e6 (by decide) (by decide), okd (by decide +kernel), B_190 hc fun g2 => ?_⟩⟩
  first | rw [if_pos rfl] | rw [if_pos (cmp_eq.mpr rfl)]
  exact law_end e6
theorem L_784 (e6 : sc.1 = 6) (hs : ∀ j, rI (sc.2 j)) : WQ sc 61 253 (fun v _ _ => v = 1) 784 [(2, -5), (2, 0), (2, 165), (0, 0)] [] gF rF := by
  refine b_253_784 ⟨law_ix e6 (by decide) (by decide), law_ix e6 (by decide) (by decide), law_ix e6 (by decide) (by decide), law_ix e6 (by decide) (by decide), okd (by decide +kernel), A_79 fun g1 hc => ⟨law_ix e6 (by decide) (by decide), law_ix e6 (by decide) (by decide), law_ix e6 (by decide) (by decide), law_ix e6 (by decide) (by decide), okd (by decide +kernel), B_191 hc fun g2 => ?_⟩⟩
  first | rw [if_pos rfl] | rw [if_pos (cmp_eq.mpr rfl)]
  exact law_end e6
theorem L_838 (e6 : sc.1 = 6) (hs : ∀ j, rI (sc.2 j)) : WQ sc 61 253 (fun v _ _ => v = 1) 838 [(2, -5), (2, 0), (2, 165), (0, 0)] [] gF rF := by
  refine b_253_838 ⟨law_ix e6 (by decide) (by decide), law_ix e6 (by decide) (by decide), law_ix e6 (by decide) (by decide), ?_⟩
  split
  · refine ⟨okd (by decide +kernel), A_80 fun g1 hc => ⟨law_ix e6 (by decide) (by decide), law_ix e6 (by decide) (by decide), law_ix e6 (by decide) (by decide), ?_⟩⟩
    refine ⟨okd (by decide +kernel), B_193 (Or.inl rfl) hc fun g2 => ?_⟩
    rw [if_pos rfl]
    exact law_end e6
  · refine ⟨okd (by decide +kernel), A_80 fun g1 hc => ⟨law_ix e6 (by decide) (by decide), law_ix e6 (by decide) (by decide), law_ix e6 (by decide) (by decide), ?_⟩⟩
    refine ⟨okd (by decide +kernel), B_193 (Or.inr rfl) hc fun g2 => ?_⟩
    rw [if_pos rfl]
    exact law_end e6
theorem L_897 (e6 : sc.1 = 6) (hs : ∀ j, rI (sc.2 j)) : WQ sc 61 253 (fun v _ _ => v = 1) 897 [(2, -5), (2, 0), (2, 165), (0, 0)] [] gF rF := by
  refine b_253_897 ⟨law_ix e6 (by decide) (by decide), okd (by decide +kernel), A_81 fun g1 hc => ⟨law_ix e6 (by decide) (by decide), okd (by decide +kernel), B_194 hc fun g2 => ?_⟩⟩
  first | rw [if_pos rfl] | rw [if_pos (cmp_eq.mpr rfl)]
  exact law_end e6
theorem L_920 (e6 : sc.1 = 6) (hs : ∀ j, rI (sc.2 j)) : WQ sc 61 253 (fun v _ _ => v = 1) 920 [(2, -5), (2, 0), (2, 165), (0, 0)] [] gF rF := by
  refine b_253_920 ⟨law_ix e6 (by decide) (by decide), okd (by decide +kernel), A_82 fun g1 hc => ⟨law_ix e6 (by decide) (by decide), okd (by decide +kernel), B_207 hc fun g2 => ?_⟩⟩
  first | rw [if_pos rfl] | rw [if_pos (cmp_eq.mpr rfl)]
  exact law_end e6
theorem L_943 (e6 : sc.1 = 6) (hs : ∀ j, rI (sc.2 j)) : WQ sc 61 253 (fun v _ _ => v = 1) 943 [(2, -5), (2, 0), (2, 165), (0, 0)] [] gF rF := by
  refine b_253_943 ⟨law_ix e6 (by decide) (by decide), okd (by decide +kernel), A_83 fun g1 hc => ⟨law_ix e6 (by decide) (by decide), okd (by decide +kernel), B_195 hc fun g2 => ?_⟩⟩
  first | rw [if_pos rfl] | rw [if_pos (cmp_eq.mpr rfl)]
  exact law_end e6
theorem L_966 (e6 : sc.1 = 6) (hs : ∀ j, rI (sc.2 j)) : WQ sc 61 253 (fun v _ _ => v = 1) 966 [(2, -5), (2, 0), (2, 165), (0, 0)] [] gF rF := by
  refine b_253_966 ⟨law_ix e6 (by decide) (by decide), okd (by decide +kernel), A_84 fun g1 hc => ⟨law_ix e6 (by decide) (by decide), okd (by decide +kernel), B_196 hc fun g2 => ?_⟩⟩
  first | rw [if_pos rfl] | rw [if_pos (cmp_eq.mpr rfl)]
  exact law_end e6
theorem L_989 (e6 : sc.1 = 6) (hs : ∀ j, rI (sc.2 j)) : WQ sc 61 253 (fun v _ _ => v = 1) 989 [(2, -5), (2, 0), (2, 165), (0, 0)] [] gF rF := by
  refine b_253_989 ⟨law_ix e6 (by decide) (by decide), law_ix e6 (by decide) (by decide), okd (by decide +kernel), A_85 fun g1 hc => ⟨law_ix e6 (by decide) (by decide), law_ix e6 (by decide) (by decide), okd (by decide +kernel), B_208 hc fun g2 => ?_⟩⟩
  first | rw [if_pos rfl] | rw [if_pos (cmp_eq.mpr rfl)]
  exact law_end e6
theorem L_1023 (e6 : sc.1 = 6) (hs : ∀ j, rI (sc.2 j)) : WQ sc 61 253 (fun v _ _ => v = 1) 1023 [(2, -5), (2, 0), (2, 165), (0, 0)] [] gF rF := by
  refine b_253_1023 ⟨law_ix e6 (by decide) (by decide), okd (by decide +kernel), A_86 fun g1 hc => ⟨law_ix e6 (by decide) (by decide), okd (by decide +kernel), B_209 hc fun g2 => ?_⟩⟩
  first | rw [if_pos rfl] | rw [if_pos (cmp_eq.mpr rfl)]
  exact law_end e6
theorem L_1047 (e6 : sc.1 = 6) (hs : ∀ j, rI (sc.2 j)) : WQ sc 61 253 (fun v _ _ => v = 1) 1047 [(2, -5), (2, 0), (2, 165), (0, 0)] [] gF rF := by
  refine b_253_1047 ⟨law_ix e6 (by decide) (by decide), law_ix e6 (by decide) (by decide), law_ix e6 (by decide) (by decide), law_ix e6 (by decide) (by decide), okd (by decide +kernel), A_87 fun g1 hc => ⟨law_ix e6 (by decide) (by decide), law_ix e6 (by decide) (by decide), law_ix e6 (by decide) (by decide), law_ix e6 (by decide) (by decide), okd (by decide +kernel), B_217 hc fun g2 => ?_⟩⟩
  first | rw [if_pos rfl] | rw [if_pos (cmp_eq.mpr rfl)]
  exact law_end e6
theorem L_1101 (e6 : sc.1 = 6) (hs : ∀ j, rI (sc.2 j)) : WQ sc 61 253 (fun v _ _ => v = 1) 1101 [(2, -5), (2, 0), (2, 165), (0, 0)] [] gF rF := by
  refine b_253_1101 ⟨law_ix e6 (by decide) (by decide), law_ix e6 (by decide) (by decide), law_ix e6 (by decide) (by decide), okd (by decide +kernel), A_88 fun g1 hc => ⟨law_ix e6 (by decide) (by decide), law_ix e6 (by decide) (by decide), law_ix e6 (by decide) (by decide), okd (by decide +kernel), B_220 hc fun g2 => ?_⟩⟩
  first | rw [if_pos rfl] | rw [if_pos (cmp_eq.mpr rfl)]
  exact law_end e6
theorem L_1144 (e6 : sc.1 = 6) (hs : ∀ j, rI (sc.2 j)) : WQ sc 61 253 (fun v _ _ => v = 1) 1144 [(2, -5), (2, 0), (2, 165), (0, 0)] [] gF rF := by
  refine b_253_1144 ⟨law_ix e6 (by decide) (by decide), law_ix e6 (by decide) (by decide), law_ix e6 (by decide) (by decide), okd (by decide +kernel), A_89 fun g1 hc => ⟨law_ix e6 (by decide) (by decide), law_ix e6 (by decide) (by decide), law_ix e6 (by decide) (by decide), okd (by decide +kernel), B_221 hc fun g2 => ?_⟩⟩
  first | rw [if_pos rfl] | rw [if_pos (cmp_eq.mpr rfl)]
  exact law_end e6
theorem L_1187 (e6 : sc.1 = 6) (hs : ∀ j, rI (sc.2 j)) : WQ sc 61 253 (fun v _ _ => v = 1) 1187 [(2, -5), (2, 0), (2, 165), (0, 0)] [] gF rF := by
  refine b_253_1187 ⟨law_ix e6 (by decide) (by decide), law_ix e6 (by decide) (by decide), okd (by decide +kernel), A_98 fun g1 hc => ⟨law_ix e6 (by decide) (by decide), law_ix e6 (by decide) (by decide), okd (by decide +kernel), B_222 hc fun g2 => ?_⟩⟩
  first | rw [if_pos rfl] | rw [if_pos (cmp_eq.mpr rfl)]
  exact law_end e6
theorem L_1220 (e6 : sc.1 = 6) (hs : ∀ j, rI (sc.2 j)) : WQ sc 61 253 (fun v _ _ => v = 1) 1220 [(2, -5), (2, 0), (2, 165), (0, 0)] [] gF rF := by
  refine b_253_1220 ⟨law_ix e6 (by decide) (by decide), law_ix e6 (by decide) (by decide), okd (by decide +kernel), A_99 fun g1 hc => ⟨law_ix e6 (by decide) (by decide), law_ix e6 (by decide) (by decide), okd (by decide +kernel), B_223 hc fun g2 => ?_⟩⟩
  first | rw [if_pos rfl] | rw [if_pos (cmp_eq.mpr rfl)]
  exact law_end e6
theorem L_1253 (e6 : sc.1 = 6) (hs : ∀ j, rI (sc.2 j)) : WQ sc 61 253 (fun v _ _ => v = 1) 1253 [(2, -5), (2, 0), (2, 165), (0, 0)] [] gF rF := by
  refine b_253_1253 ⟨law_ix e6 (by decide) (by decide), okd (by decide +kernel), A_100 fun g1 hc => ⟨law_ix e6 (by decide) (by decide), okd (by decide +kernel), B_226 hc fun g2 => ?_⟩⟩
  first | rw [if_pos rfl] | rw [if_pos (cmp_eq.mpr rfl)]
  exact law_end e6
theorem L_1276 (e6 : sc.1 = 6) (hs : ∀ j, rI (sc.2 j)) : WQ sc 61 253 (fun v _ _ => v = 1) 1276 [(2, -5), (2, 0), (2, 165), (0, 0)] [] gF rF := by
  refine b_253_1276 ⟨law_ix e6 (by decide) (by decide), law_ix e6 (by decide) (by decide), law_ix e6 (by decide) (by decide), okd (by decide +kernel), A_103 (hs _) (hs _) fun g1 hc => ⟨law_ix e6 (by decide) (by decide), law_ix e6 (by decide) (by decide), law_ix e6 (by decide) (by decide), okd (by decide +kernel), B_227 (hs _) (hs _) hc fun g2 => ?_⟩⟩
  first | rw [if_pos rfl] | rw [if_pos (cmp_eq.mpr rfl)]
  exact law_end e6
theorem L_1319 (e6 : sc.1 = 6) (hs : ∀ j, rI (sc.2 j)) : WQ sc 61 253 (fun v _ _ => v = 1) 1319 [(2, -5), (2, 0), (2, 165), (0, 0)] [] gF rF := by
  refine b_253_1319 ⟨law_ix e6 (by decide) (by decide), okd (by decide +kernel), A_104 fun g1 hc => ⟨law_ix e6 (by decide) (by decide), okd (by decide +kernel), B_228 hc fun g2 => ?_⟩⟩
  first | rw [if_pos rfl] | rw [if_pos (cmp_eq.mpr rfl)]
  exact law_end e6
theorem L_1342 (e6 : sc.1 = 6) (hs : ∀ j, rI (sc.2 j)) : WQ sc 61 253 (fun v _ _ => v = 1) 1342 [(2, -5), (2, 0), (2, 165), (0, 0)] [] gF rF := by
  refine b_253_1342 ⟨okd (by decide +kernel), A_105 fun g1 hc => ⟨okd (by decide +kernel), B_229 hc fun g2 => ?_⟩⟩
  first | rw [if_pos rfl] | rw [if_pos (cmp_eq.mpr rfl)]
  exact law_end e6
theorem L_1355 (e6 : sc.1 = 6) (hs : ∀ j, rI (sc.2 j)) : WQ sc 61 253 (fun v _ _ => v = 1) 1355 [(2, -5), (2, 0), (2, 165), (0, 0)] [] gF rF := by
  refine b_253_1355 ⟨law_ix e6 (by decide) (by decide), law_ix e6 (by decide) (by decide), law_ix e6 (by decide) (by decide), okd (by decide +kernel), A_106 fun g1 hc => ⟨law_ix e6 (by decide) (by decide), law_ix e6 (by decide) (by decide), law_ix e6 (by decide) (by decide), okd (by decide +kernel), B_231 hc fun g2 => ?_⟩⟩
  first | rw [if_pos rfl] | rw [if_pos (cmp_eq.mpr rfl)]
  exact law_end e6
theorem L_1398 (e6 : sc.1 = 6) (hs : ∀ j, rI (sc.2 j)) : WQ sc 61 253 (fun v _ _ => v = 1) 1398 [(2, -5), (2, 0), (2, 165), (0, 0)] [] gF rF := by
  refine b_253_1398 ⟨law_ix e6 (by decide) (by decide), law_ix e6 (by decide) (by decide), law_ix e6 (by decide) (by decide), law_ix e6 (by decide) (by decide), okd (by decide +kernel), A_107 fun g1 hc => ⟨law_ix e6 (by decide) (by decide), law_ix e6 (by decide) (by decide), law_ix e6 (by decide) (by decide), law_ix e6 (by decide) (by decide), okd (by decide +kernel), B_232 hc fun g2 => ?_⟩⟩
  first | rw [if_pos rfl] | rw [if_pos (cmp_eq.mpr rfl)]
  exact law_end e6
theorem L_1451 (e6 : sc.1 = 6) (hs : ∀ j, rI (sc.2 j)) : WQ sc 61 253 (fun v _ _ => v = 1) 1451 [(2, -5), (2, 0), (2, 165), (0, 0)] [] gF rF := by
  refine b_253_1451 ⟨law_ix e6 (by decide) (by decide), law_ix e6 (by decide) (by decide), law_ix e6 (by decide) (by decide), law_ix e6 (by decide) (by decide), law_ix e6 (by decide) (by decide), okd (by decide +kernel), A_108 fun g1 hc => ⟨law_ix e6 (by decide) (by decide), law_ix e6 (by decide) (by decide), law_ix e6 (by decide) (by decide), law_ix e6 (by decide) (by decide), law_ix e6 (by decide) (by decide), okd (by decide +kernel), B_233 hc fun g2 => ?_⟩⟩
  first | rw [if_pos rfl] | rw [if_pos (cmp_eq.mpr rfl)]
  exact law_end e6
theorem L_1515 (e6 : sc.1 = 6) (hs : ∀ j, rI (sc.2 j)) : WQ sc 61 253 (fun v _ _ => v = 1) 1515 [(2, -5), (2, 0), (2, 165), (0, 0)] [] gF rF := by
  refine b_253_1515 ⟨law_ix e6 (by decide) (by decide), law_ix e6 (by decide) (by decide), law_ix e6 (by decide) (by decide), law_ix e6 (by decide) (by decide), okd (by decide +kernel), A_109 fun g1 hc => ⟨law_ix e6 (by decide) (by decide), law_ix e6 (by decide) (by decide), law_ix e6 (by decide) (by decide), law_ix e6 (by decide) (by decide), okd (by decide +kernel), B_234 hc fun g2 => ?_⟩⟩
  first | rw [if_pos rfl] | rw [if_pos (cmp_eq.mpr rfl)]
  exact law_end e6
theorem L_1568 (e6 : sc.1 = 6) (hs : ∀ j, rI (sc.2 j)) : WQ sc 61 253 (fun v _ _ => v = 1) 1568 [(2, -5), (2, 0), (2, 165), (0, 0)] [] gF rF := by
  refine b_253_1568 ⟨law_ix e6 (by decide) (by decide), law_ix e6 (by decide) (by decide), law_ix e6 (by decide) (by decide), law_ix e6 (by decide) (by decide), okd (by decide +kernel), A_110 fun g1 hc => ⟨law_ix e6 (by decide) (by decide), law_ix e6 (by decide) (by decide), law_ix e6 (by decide) (by decide), law_ix e6 (by decide) (by decide), okd (by decide +kernel), B_235 hc fun g2 => ?_⟩⟩
  first | rw [if_pos rfl] | rw [if_pos (cmp_eq.mpr rfl)]
  exact law_end e6
theorem L_1621 (e6 : sc.1 = 6) (hs : ∀ j, rI (sc.2 j)) : WQ sc 61 253 (fun v _ _ => v = 1) 1621 [(2, -5), (2, 0), (2, 165), (0, 0)] [] gF rF := by
  refine b_253_1621 ⟨law_ix e6 (by decide) (by decide), law_ix e6 (by decide) (by decide), okd (by decide +kernel), A_111 fun g1 hc => ⟨law_ix e6 (by decide) (by decide), law_ix e6 (by decide) (by decide), okd (by decide +kernel), B_236 hc fun g2 => ?_⟩⟩
  first | rw [if_pos rfl] | rw [if_pos (cmp_eq.mpr rfl)]
  exact law_end e6
theorem L_1654 (e6 : sc.1 = 6) (hs : ∀ j, rI (sc.2 j)) : WQ sc 61 253 (fun v _ _ => v = 1) 1654 [(2, -5), (2, 0), (2, 165), (0, 0)] [] gF rF := by
  refine b_253_1654 ⟨law_ix e6 (by decide) (by decide), law_ix e6 (by decide) (by decide), law_ix e6 (by decide) (by decide), law_ix e6 (by decide) (by decide), okd (by decide +kernel), A_112 fun g1 hc => ⟨law_ix e6 (by decide) (by decide), law_ix e6 (by decide) (by decide), law_ix e6 (by decide) (by decide), law_ix e6 (by decide) (by decide), okd (by decide +kernel), B_237 hc fun g2 => ?_⟩⟩
  first | rw [if_pos rfl] | rw [if_pos (cmp_eq.mpr rfl)]
  exact law_end e6
theorem L_1708 (e6 : sc.1 = 6) (hs : ∀ j, rI (sc.2 j)) : WQ sc 61 253 (fun v _ _ => v = 1) 1708 [(2, -5), (2, 0), (2, 165), (0, 0)] [] gF rF := by
  refine b_253_1708 ⟨law_ix e6 (by decide) (by decide), law_ix e6 (by decide) (by decide), okd (by decide +kernel), A_115 fun g1 hc => ⟨law_ix e6 (by decide) (by decide), law_ix e6 (by decide) (by decide), okd (by decide +kernel), B_238 hc fun g2 => ?_⟩⟩
  first | rw [if_pos rfl] | rw [if_pos (cmp_eq.mpr rfl)]
  exact law_end e6
theorem L_1741 (e6 : sc.1 = 6) (hs : ∀ j, rI (sc.2 j)) : WQ sc 61 253 (fun v _ _ => v = 1) 1741 [(2, -5), (2, 0), (2, 165), (0, 0)] [] gF rF := by
  refine b_253_1741 ⟨law_ix e6 (by decide) (by decide), okd (by decide +kernel), A_116 fun g1 hc => ⟨law_ix e6 (by decide) (by decide), okd (by decide +kernel), B_239 hc fun g2 => ?_⟩⟩
  first | rw [if_pos rfl] | rw [if_pos (cmp_eq.mpr rfl)]
  exact law_end e6
theorem L_1764 (e6 : sc.1 = 6) (hs : ∀ j, rI (sc.2 j)) : WQ sc 61 253 (fun v _ _ => v = 1) 1764 [(2, -5), (2, 0), (2, 165), (0, 0)] [] gF rF := by
  refine b_253_1764 ⟨law_ix e6 (by decide) (by decide), law_ix e6 (by decide) (by decide), okd (by decide +kernel), A_117 fun g1 hc => ⟨law_ix e6 (by decide) (by decide), law_ix e6 (by decide) (by decide), okd (by decide +kernel), B_240 hc fun g2 => ?_⟩⟩
  first | rw [if_pos rfl] | rw [if_pos (cmp_eq.mpr rfl)]
  exact law_end e6
theorem L_1797 (e6 : sc.1 = 6) (hs : ∀ j, rI (sc.2 j)) : WQ sc 61 253 (fun v _ _ => v = 1) 1797 [(2, -5), (2, 0), (2, 165), (0, 0)] [] gF rF := by
  refine b_253_1797 ⟨law_ix e6 (by decide) (by decide), law_ix e6 (by decide) (by decide), okd (by decide +kernel), A_118 fun g1 hc => ⟨law_ix e6 (by decide) (by decide), law_ix e6 (by decide) (by decide), okd (by decide +kernel), B_242 hc fun g2 => ?_⟩⟩
  first | rw [if_pos rfl] | rw [if_pos (cmp_eq.mpr rfl)]
  exact law_end e6
theorem L_1830 (e6 : sc.1 = 6) (hs : ∀ j, rI (sc.2 j)) : WQ sc 61 253 (fun v _ _ => v = 1) 1830 [(2, -5), (2, 0), (2, 165), (0, 0)] [] gF rF := by
  refine b_253_1830 ⟨law_ix e6 (by decide) (by decide), law_ix e6 (by decide) (by decide), law_ix e6 (by decide) (by decide), okd (by decide +kernel), A_119 fun g1 hc => ⟨law_ix e6 (by decide) (by decide), law_ix e6 (by decide) (by decide), law_ix e6 (by decide) (by decide), okd (by decide +kernel), B_243 hc fun g2 => ?_⟩⟩
  first | rw [if_pos rfl] | rw [if_pos (cmp_eq.mpr rfl)]
  exact law_end e6
theorem L_1873 (e6 : sc.1 = 6) (hs : ∀ j, rI (sc.2 j)) : WQ sc 61 253 (fun v _ _ => v = 1) 1873 [(2, -5), (2, 0), (2, 165), (0, 0)] [] gF rF := by
  refine b_253_1873 ⟨okd (by decide +kernel), A_120 fun g1 hc => ⟨okd (by decide +kernel), B_244 hc fun g2 => ?_⟩⟩
  first | rw [if_pos rfl] | rw [if_pos (cmp_eq.mpr rfl)]
  exact law_end e6
theorem L_1886 (e6 : sc.1 = 6) (hs : ∀ j, rI (sc.2 j)) : WQ sc 61 253 (fun v _ _ => v = 1) 1886 [(2, -5), (2, 0), (2, 165), (0, 0)] [] gF rF := by
  refine b_253_1886 ⟨law_ix e6 (by decide) (by decide), okd (by decide +kernel), A_121 fun g1 hc => ⟨law_ix e6 (by decide) (by decide), okd (by decide +kernel), B_245 hc fun g2 => ?_⟩⟩
  first | rw [if_pos rfl] | rw [if_pos (cmp_eq.mpr rfl)]
  exact law_end e6
theorem L_1909 (e6 : sc.1 = 6) (hs : ∀ j, rI (sc.2 j)) : WQ sc 61 253 (fun v _ _ => v = 1) 1909 [(2, -5), (2, 0), (2, 165), (0, 0)] [] gF rF := by
  refine b_253_1909 ⟨law_ix e6 (by decide) (by decide), okd (by decide +kernel), A_122 fun g1 hc => ⟨law_ix e6 (by decide) (by decide), okd (by decide +kernel), B_246 hc fun g2 => ?_⟩⟩
  first | rw [if_pos rfl] | rw [if_pos (cmp_eq.mpr rfl)]
  exact law_end e6
theorem law_loop (sc : SCR) (h6 : sc.1 ≤ 6) (h0 : 0 ≤ sc.1) (hs : ∀ j, rI (sc.2 j)) : WQ sc 61 253 (fun v _ _ => v = 1) 18 [(2, -5), (2, 0), (2, 165), (0, 0)] [] gF rF := by
  refine b_253_18 ⟨rfl, ?_⟩
  rw [wr_id (x := sc.1 - 6) ⟨by omega, by omega⟩]
  refine ite_c (fun _ => ⟨Or.inr rfl, rfl⟩) (fun hn => ?_)
  have e6 : sc.1 = 6 := by omega
  refine ⟨⟨rfl, by omega, by omega⟩, by decide, ?_⟩
  refine ite_c (fun _ => L_224 e6 hs) (fun _ => ?_)
  refine ite_c (fun _ => L_287 e6 hs) (fun _ => ?_)
  refine ite_c (fun _ => L_320 e6 hs) (fun _ => ?_)
  refine ite_c (fun _ => L_333 e6 hs) (fun _ => ?_)
  refine ite_c (fun _ => L_366 e6 hs) (fun _ => ?_)
  refine ite_c (fun _ => L_399 e6 hs) (fun _ => ?_)
  refine ite_c (fun _ => L_453 e6 hs) (fun _ => ?_)
  refine ite_c (fun _ => L_496 e6 hs) (fun _ => ?_)
  refine ite_c (fun _ => L_550 e6 hs) (fun _ => ?_)
  refine ite_c (fun _ => L_614 e6 hs) (fun _ => ?_)
  refine ite_c (fun _ => L_678 e6 hs) (fun _ => ?_)
  refine ite_c (fun _ => L_721 e6 hs) (fun _ => ?_)
  refine ite_c (fun _ => L_784 e6 hs) (fun _ => ?_)
  refine ite_c (fun _ => L_838 e6 hs) (fun _ => ?_)
  refine ite_c (fun _ => L_897 e6 hs) (fun _ => ?_)
  refine ite_c (fun _ => L_920 e6 hs) (fun _ => ?_)
  refine ite_c (fun _ => L_943 e6 hs) (fun _ => ?_)
  refine ite_c (fun _ => L_966 e6 hs) (fun _ => ?_)
  refine ite_c (fun _ => L_989 e6 hs) (fun _ => ?_)
  refine ite_c (fun _ => L_1023 e6 hs) (fun _ => ?_)
  refine ite_c (fun _ => L_1047 e6 hs) (fun _ => ?_)
  refine ite_c (fun _ => L_1101 e6 hs) (fun _ => ?_)
  refine ite_c (fun _ => L_1144 e6 hs) (fun _ => ?_)
  refine ite_c (fun _ => L_1187 e6 hs) (fun _ => ?_)
  refine ite_c (fun _ => L_1220 e6 hs) (fun _ => ?_)
  refine ite_c (fun _ => L_1253 e6 hs) (fun _ => ?_)
  refine ite_c (fun _ => L_1276 e6 hs) (fun _ => ?_)
  refine ite_c (fun _ => L_1319 e6 hs) (fun _ => ?_)
  refine ite_c (fun _ => L_1342 e6 hs) (fun _ => ?_)
  refine ite_c (fun _ => L_1355 e6 hs) (fun _ => ?_)
  refine ite_c (fun _ => L_1398 e6 hs) (fun _ => ?_)
  refine ite_c (fun _ => L_1451 e6 hs) (fun _ => ?_)
  refine ite_c (fun _ => L_1515 e6 hs) (fun _ => ?_)
  refine ite_c (fun _ => L_1568 e6 hs) (fun _ => ?_)
  refine ite_c (fun _ => L_1621 e6 hs) (fun _ => ?_)
  refine ite_c (fun _ => L_1654 e6 hs) (fun _ => ?_)
  refine ite_c (fun _ => L_1708 e6 hs) (fun _ => ?_)
  refine ite_c (fun _ => L_1741 e6 hs) (fun _ => ?_)
  refine ite_c (fun _ => L_1764 e6 hs) (fun _ => ?_)
  refine ite_c (fun _ => L_1797 e6 hs) (fun _ => ?_)
  refine ite_c (fun _ => L_1830 e6 hs) (fun _ => ?_)
  refine ite_c (fun _ => L_1873 e6 hs) (fun _ => ?_)
  refine ite_c (fun _ => L_1886 e6 hs) (fun _ => ?_)
  refine ite_c (fun _ => L_1909 e6 hs) (fun _ => ?_)
  exact law_end e6
end FLW
