/-! every call of the law, on any heap of the invariant; printed by a program (wip/gen/gen_law7.py) -/
section LWJ
variable {sc : SCR} {g r : GH} {l3 : Int}
theorem ixk (h0 : 0 ≤ l3) (h6 : l3 + 6 ≤ sc.1) (hN : sc.1 ≤ 3072) {k : Int} (k1 : 1 ≤ k) (k5 : k ≤ 5) : (-5 : Int) = -5 ∧ 0 ≤ wr (l3 + k) ∧ wr (l3 + k) < sc.1 := by
  rw [wr_id ⟨by omega, by omega⟩]
  exact ⟨rfl, by omega, by omega⟩
def NX (sc : SCR) (l3 : Int) : Prop := ∀ g r, J6 g r → WQ sc 61 253 (fun v _ _ => v = 1) 18 [(2, -5), (2, 0), (2, 165), (0, wr (l3 + 6))] [] g r
theorem L_224 (hJ : J6 g r) (h0 : 0 ≤ l3) (h6 : l3 + 6 ≤ sc.1) (hN : sc.1 ≤ 3072) (hs : ∀ j, rI (sc.2 j)) (nx : NX sc l3) : WQ sc 61 253 (fun v _ _ => v = 1) 224 [(2, -5), (2, 0), (2, 165), (0, l3)] [] g r := by
  refine b_253_224 ⟨ixk h0 h6 hN (by decide) (by decide), ixk h0 h6 hN (by decide) (by decide), ixk h0 h6 hN (by decide) (by decide), ixk h0 h6 hN (by decide) (by decide), ixk h0 h6 hN (by decide) (by decide), okd (by decide +kernel), Ce_mono (uu_66 hJ _) (fun v1 g1 r1 hce => ⟨ixk h0 h6 hN (by decide) (by decide), ixk h0 h6 hN (by decide) (by decide), ixk h0 h6 hN (by decide) (by decide), ixk h0 h6 hN (by decide) (by decide), ixk h0 h6 hN (by decide) (by decide), okd (by decide +kernel), Ce_mono hce (fun v2 g2 r2 hq => ?_)⟩)⟩
  exact nx _ _ hq.2
theorem L_287 (hJ : J6 g r) (h0 : 0 ≤ l3) (h6 : l3 + 6 ≤ sc.1) (hN : sc.1 ≤ 3072) (hs : ∀ j, rI (sc.2 j)) (nx : NX sc l3) : WQ sc 61 253 (fun v _ _ => v = 1) 287 [(2, -5), (2, 0), (2, 165), (0, l3)] [] g r := by
  refine b_253_287 ⟨ixk h0 h6 hN (by decide) (by decide), ixk h0 h6 hN (by decide) (by decide), okd (by decide +kernel), Ce_mono (uu_67 hJ _) (fun v1 g1 r1 hce => ⟨ixk h0 h6 hN (by decide) (by decide), ixk h0 h6 hN (by decide) (by decide), okd (by decide +kernel), Ce_mono hce (fun v2 g2 r2 hq => ?_)⟩)⟩
  exact nx _ _ hq.2
theorem L_320 (hJ : J6 g r) (h0 : 0 ≤ l3) (h6 : l3 + 6 ≤ sc.1) (hN : sc.1 ≤ 3072) (hs : ∀ j, rI (sc.2 j)) (nx : NX sc l3) : WQ sc 61 253 (fun v _ _ => v = 1) 320 [(2, -5), (2, 0), (2, 165), (0, l3)] [] g r := by
  refine b_253_320 ⟨okd (by decide +kernel), Ce_mono (uu_68 hJ _) (fun v1 g1 r1 hce => ⟨okd (by decide +kernel), Ce_mono hce (fun v2 g2 r2 hq => ?_)⟩)⟩
  exact nx _ _ hq.2
theorem L_333 (hJ : J6 g r) (h0 : 0 ≤ l3) (h6 : l3 + 6 ≤ sc.1) (hN : sc.1 ≤ 3072) (hs : ∀ j, rI (sc.2 j)) (nx : NX sc l3) : WQ sc 61 253 (fun v _ _ => v = 1) 333 [(2, -5), (2, 0), (2, 165), (0, l3)] [] g r := by
  refine b_253_333 ⟨ixk h0 h6 hN (by decide) (by decide), ixk h0 h6 hN (by decide) (by decide), okd (by decide +kernel), Ce_mono (uu_69 hJ _) (fun v1 g1 r1 hce => ⟨ixk h0 h6 hN (by decide) (by decide), ixk h0 h6 hN (by decide) (by decide), okd (by decide +kernel), Ce_mono hce (fun v2 g2 r2 hq => ?_)⟩)⟩
  exact nx _ _ hq.2
theorem L_366 (hJ : J6 g r) (h0 : 0 ≤ l3) (h6 : l3 + 6 ≤ sc.1) (hN : sc.1 ≤ 3072) (hs : ∀ j, rI (sc.2 j)) (nx : NX sc l3) : WQ sc 61 253 (fun v _ _ => v = 1) 366 [(2, -5), (2, 0), (2, 165), (0, l3)] [] g r := by
  refine b_253_366 ⟨ixk h0 h6 hN (by decide) (by decide), ixk h0 h6 hN (by decide) (by decide), okd (by decide +kernel), s_70 ⟨ixk h0 h6 hN (by decide) (by decide), ixk h0 h6 hN (by decide) (by decide), okd (by decide +kernel), m_163 ?_⟩⟩
  exact nx _ _ hJ
theorem L_399 (hJ : J6 g r) (h0 : 0 ≤ l3) (h6 : l3 + 6 ≤ sc.1) (hN : sc.1 ≤ 3072) (hs : ∀ j, rI (sc.2 j)) (nx : NX sc l3) : WQ sc 61 253 (fun v _ _ => v = 1) 399 [(2, -5), (2, 0), (2, 165), (0, l3)] [] g r := by
  refine b_253_399 ⟨ixk h0 h6 hN (by decide) (by decide), ixk h0 h6 hN (by decide) (by decide), ixk h0 h6 hN (by decide) (by decide), ixk h0 h6 hN (by decide) (by decide), okd (by decide +kernel), Ce_mono (yy hJ (v_71 hJ.1.1.1.1.1.1 hJ.1.2 (fun _ _ e => ⟨rfl, e⟩)) (t_71 hJ.1.1.1.1.1.1 sqn (fun _ _ e => ⟨rfl, e⟩))) (fun v1 g1 r1 hq => ?_)⟩
  obtain ⟨er, j1⟩ := hq
  subst er
  exact ⟨ixk h0 h6 hN (by decide) (by decide), ixk h0 h6 hN (by decide) (by decide), ixk h0 h6 hN (by decide) (by decide), ixk h0 h6 hN (by decide) (by decide), okd (by decide +kernel), s_180 hJ.1.1.1.1.1.1 j1.1.1.1.1.1.2.2.2.1 (fun v2 => nx _ _ j1)⟩
theorem L_452 (hJ : J6 g r) (h0 : 0 ≤ l3) (h6 : l3 + 6 ≤ sc.1) (hN : sc.1 ≤ 3072) (hs : ∀ j, rI (sc.2 j)) (nx : NX sc l3) : WQ sc 61 253 (fun v _ _ => v = 1) 452 [(2, -5), (2, 0), (2, 165), (0, l3)] [] g r := by
  refine b_253_452 ⟨ixk h0 h6 hN (by decide) (by decide), ixk h0 h6 hN (by decide) (by decide), ixk h0 h6 hN (by decide) (by decide), okd (by decide +kernel), Ce_mono (yy hJ (v_72 hJ.1.1.1.1.1.1 hJ.1.2 (fun _ _ e => ⟨rfl, e⟩)) (t_72 hJ.1.1.1.1.1.1 sqn (fun _ _ e => ⟨rfl, e⟩))) (fun v1 g1 r1 hq => ?_)⟩
  obtain ⟨er, j1⟩ := hq
  subst er
  exact ⟨ixk h0 h6 hN (by decide) (by decide), ixk h0 h6 hN (by decide) (by decide), ixk h0 h6 hN (by decide) (by decide), okd (by decide +kernel), s_181 hJ.1.1.1.1.1.1 j1.1.1.1.1.1.2.2.2.1 (fun v2 => nx _ _ j1)⟩
theorem L_495 (hJ : J6 g r) (h0 : 0 ≤ l3) (h6 : l3 + 6 ≤ sc.1) (hN : sc.1 ≤ 3072) (hs : ∀ j, rI (sc.2 j)) (nx : NX sc l3) : WQ sc 61 253 (fun v _ _ => v = 1) 495 [(2, -5), (2, 0), (2, 165), (0, l3)] [] g r := by
  refine b_253_495 ⟨ixk h0 h6 hN (by decide) (by decide), ixk h0 h6 hN (by decide) (by decide), ixk h0 h6 hN (by decide) (by decide), ixk h0 h6 hN (by decide) (by decide), okd (by decide +kernel), Ce_mono (yy hJ (v_73 hJ.1.1.1.1.1.1 hJ.1.2 (fun _ _ e => ⟨rfl, e⟩)) (t_73 hJ.1.1.1.1.1.1 sqn (fun _ _ e => ⟨rfl, e⟩))) (fun v1 g1 r1 hq => ?_)⟩
  obtain ⟨er, j1⟩ := hq
  subst er
  exact ⟨ixk h0 h6 hN (by decide) (by decide), ixk h0 h6 hN (by decide) (by decide), ixk h0 h6 hN (by decide) (by decide), ixk h0 h6 hN (by decide) (by decide), okd (by decide +kernel), s_183 hJ.1.1.1.1.1.1 j1.1.1.1.1.1.2.2.2.1 (fun v2 => nx _ _ j1)⟩
theorem L_548 (hJ : J6 g r) (h0 : 0 ≤ l3) (h6 : l3 + 6 ≤ sc.1) (hN : sc.1 ≤ 3072) (hs : ∀ j, rI (sc.2 j)) (nx : NX sc l3) : WQ sc 61 253 (fun v _ _ => v = 1) 548 [(2, -5), (2, 0), (2, 165), (0, l3)] [] g r := by
  refine b_253_548 ⟨ixk h0 h6 hN (by decide) (by decide), ixk h0 h6 hN (by decide) (by decide), ixk h0 h6 hN (by decide) (by decide), ixk h0 h6 hN (by decide) (by decide), ixk h0 h6 hN (by decide) (by decide), okd (by decide +kernel), Ce_mono (yy hJ (v_74 hJ.1.1.1.1.1.1 hJ.1.2 (fun _ _ e => ⟨rfl, e⟩)) (t_74 hJ.1.1.1.1.1.1 sqn (fun _ _ e => ⟨rfl, e⟩))) (fun v1 g1 r1 hq => ?_)⟩
  obtain ⟨er, j1⟩ := hq
  subst er
  exact ⟨ixk h0 h6 hN (by decide) (by decide), ixk h0 h6 hN (by decide) (by decide), ixk h0 h6 hN (by decide) (by decide), ixk h0 h6 hN (by decide) (by decide), ixk h0 h6 hN (by decide) (by decide), okd (by decide +kernel), s_184 hJ.1.1.1.1.1.1 j1.1.1.1.1.1.2.2.2.1 (fun v2 => nx _ _ j1)⟩
theorem L_611 (hJ : J6 g r) (h0 : 0 ≤ l3) (h6 : l3 + 6 ≤ sc.1) (hN : sc.1 ≤ 3072) (hs : ∀ j, rI (sc.2 j)) (nx : NX sc l3) : WQ sc 61 253 (fun v _ _ => v = 1) 611 [(2, -5), (2, 0), (2, 165), (0, l3)] [] g r := by
  refine b_253_611 ⟨ixk h0 h6 hN (by decide) (by decide), ixk h0 h6 hN (by decide) (by decide), ixk h0 h6 hN (by decide) (by decide), ixk h0 h6 hN (by decide) (by decide), ixk h0 h6 hN (by decide) (by decide), okd (by decide +kernel), Ce_mono (yy hJ (v_75 hJ.1.1.1.1.1.1 hJ.1.2 (fun _ _ e => ⟨rfl, e⟩)) (t_75 hJ.1.1.1.1.1.1 sqn (fun _ _ e => ⟨rfl, e⟩))) (fun v1 g1 r1 hq => ?_)⟩
  obtain ⟨er, j1⟩ := hq
  subst er
  exact ⟨ixk h0 h6 hN (by decide) (by decide), ixk h0 h6 hN (by decide) (by decide), ixk h0 h6 hN (by decide) (by decide), ixk h0 h6 hN (by decide) (by decide), ixk h0 h6 hN (by decide) (by decide), okd (by decide +kernel), s_186 hJ.1.1.1.1.1.1 j1.1.1.1.1.1.2.2.2.1 (fun v2 => nx _ _ j1)⟩
theorem L_674 (hJ : J6 g r) (h0 : 0 ≤ l3) (h6 : l3 + 6 ≤ sc.1) (hN : sc.1 ≤ 3072) (hs : ∀ j, rI (sc.2 j)) (nx : NX sc l3) : WQ sc 61 253 (fun v _ _ => v = 1) 674 [(2, -5), (2, 0), (2, 165), (0, l3)] [] g r := by
  refine b_253_674 ⟨ixk h0 h6 hN (by decide) (by decide), ixk h0 h6 hN (by decide) (by decide), ixk h0 h6 hN (by decide) (by decide), okd (by decide +kernel), Ce_mono (yy hJ (v_76 hJ.1.1.1.1.1.1 hJ.1.2 (fun _ _ e => ⟨rfl, e⟩)) (t_76 hJ.1.1.1.1.1.1 sqn (fun _ _ e => ⟨rfl, e⟩))) (fun v1 g1 r1 hq => ?_)⟩
  obtain ⟨er, j1⟩ := hq
  subst er
  exact ⟨ixk h0 h6 hN (by decide) (by decide), ixk h0 h6 hN (by decide) (by decide), ixk h0 h6 hN (by decide) (by decide), okd (by decide +kernel), s_188 hJ.1.1.1.1.1.1 j1.1.1.1.1.1.2.2.2.1 (fun v2 => nx _ _ j1)⟩
theorem L_717 (hJ : J6 g r) (h0 : 0 ≤ l3) (h6 : l3 + 6 ≤ sc.1) (hN : sc.1 ≤ 3072) (hs : ∀ j, rI (sc.2 j)) (nx : NX sc l3) : WQ sc 61 253 (fun v _ _ => v = 1) 717 [(2, -5), (2, 0), (2, 165), (0, l3)] [] g r := by
  refine b_253_717 ⟨ixk h0 h6 hN (by decide) (by decide), ixk h0 h6 hN (by decide) (by decide), ixk h0 h6 hN (by decide) (by decide), ixk h0 h6 hN (by decide) (by decide), ixk h0 h6 hN (by decide) (by decide), okd (by decide +kernel), Ce_mono (yy hJ (v_77 hJ.1.1.1.1.1.1 hJ.1.2 (fun _ _ e => ⟨rfl, e⟩)) (t_77 hJ.1.1.1.1.1.1 sqn (fun _ _ e => ⟨rfl, e⟩))) (fun v1 g1 r1 hq => ?_)⟩
  obtain ⟨er, j1⟩ := hq
  subst er
  exact ⟨ixk h0 h6 hN (by decide) (by decide), ixk h0 h6 hN (by decide) (by decide), ixk h0 h6 hN (by decide) (by decide), ixk h0 h6 hN (by decide) (by decide), ixk h0 h6 hN (by decide) (by decide), okd (by decide +kernel), y_190 hJ.1.1.1.1.1.1 j1.1.1.1.1.1.2.2.2.1 (fun v2 g2 e2 => nx _ _ (j1.mf e2))⟩
theorem L_780 (hJ : J6 g r) (h0 : 0 ≤ l3) (h6 : l3 + 6 ≤ sc.1) (hN : sc.1 ≤ 3072) (hs : ∀ j, rI (sc.2 j)) (nx : NX sc l3) : WQ sc 61 253 (fun v _ _ => v = 1) 780 [(2, -5), (2, 0), (2, 165), (0, l3)] [] g r := by
  refine b_253_780 ⟨ixk h0 h6 hN (by decide) (by decide), ixk h0 h6 hN (by decide) (by decide), ixk h0 h6 hN (by decide) (by decide), ixk h0 h6 hN (by decide) (by decide), okd (by decide +kernel), Ce_mono (yy hJ (v_79 hJ.1.1.1.1.1.1 hJ.1.2 (fun _ _ e => ⟨rfl, e⟩)) (t_79 hJ.1.1.1.1.1.1 sqn (fun _ _ e => ⟨rfl, e⟩))) (fun v1 g1 r1 hq => ?_)⟩
  obtain ⟨er, j1⟩ := hq
  subst er
  exact ⟨ixk h0 h6 hN (by decide) (by decide), ixk h0 h6 hN (by decide) (by decide), ixk h0 h6 hN (by decide) (by decide), ixk h0 h6 hN (by decide) (by decide), okd (by decide +kernel), y_191 hJ.1.1.1.1.1.1 j1.1.1.1.1.1.2.2.2.1 (fun v2 g2 e2 => nx _ _ (j1.mf e2))⟩
theorem L_833 (hJ : J6 g r) (h0 : 0 ≤ l3) (h6 : l3 + 6 ≤ sc.1) (hN : sc.1 ≤ 3072) (hs : ∀ j, rI (sc.2 j)) (nx : NX sc l3) : WQ sc 61 253 (fun v _ _ => v = 1) 833 [(2, -5), (2, 0), (2, 165), (0, l3)] [] g r := by
  exact b_253_833 ⟨ixk h0 h6 hN (by decide) (by decide), ixk h0 h6 hN (by decide) (by decide), ixk h0 h6 hN (by decide) (by decide), ite_c (fun z => ⟨okd (by decide +kernel), Ce_mono (uu_80 hJ (by first | exact Or.inl rfl | exact Or.inr rfl) _) (fun v1 g1 r1 hce => ⟨ixk h0 h6 hN (by decide) (by decide), ixk h0 h6 hN (by decide) (by decide), ixk h0 h6 hN (by decide) (by decide), ite_c (fun y => ⟨okd (by decide +kernel), Ce_mono hce (fun v2 g2 r2 hq => by exact nx _ _ hq.2)⟩) (fun y => absurd z y)⟩)⟩) (fun z => ⟨okd (by decide +kernel), Ce_mono (uu_80 hJ (by first | exact Or.inl rfl | exact Or.inr rfl) _) (fun v1 g1 r1 hce => ⟨ixk h0 h6 hN (by decide) (by decide), ixk h0 h6 hN (by decide) (by decide), ixk h0 h6 hN (by decide) (by decide), ite_c (fun y => absurd y z) (fun y => ⟨okd (by decide +kernel), Ce_mono hce (fun v2 g2 r2 hq => by exact nx _ _ hq.2)⟩)⟩)⟩)⟩
theorem L_892 (hJ : J6 g r) (h0 : 0 ≤ l3) (h6 : l3 + 6 ≤ sc.1) (hN : sc.1 ≤ 3072) (hs : ∀ j, rI (sc.2 j)) (nx : NX sc l3) : WQ sc 61 253 (fun v _ _ => v = 1) 892 [(2, -5), (2, 0), (2, 165), (0, l3)] [] g r := by
  refine b_253_892 ⟨ixk h0 h6 hN (by decide) (by decide), okd (by decide +kernel), Ce_mono (uu_81 hJ _) (fun v1 g1 r1 hce => ⟨ixk h0 h6 hN (by decide) (by decide), okd (by decide +kernel), Ce_mono hce (fun v2 g2 r2 hq => ?_)⟩)⟩
  exact nx _ _ hq.2
theorem L_915 (hJ : J6 g r) (h0 : 0 ≤ l3) (h6 : l3 + 6 ≤ sc.1) (hN : sc.1 ≤ 3072) (hs : ∀ j, rI (sc.2 j)) (nx : NX sc l3) : WQ sc 61 253 (fun v _ _ => v = 1) 915 [(2, -5), (2, 0), (2, 165), (0, l3)] [] g r := by
  refine b_253_915 ⟨ixk h0 h6 hN (by decide) (by decide), okd (by decide +kernel), Ce_mono (uu_82 hJ _) (fun v1 g1 r1 hce => ⟨ixk h0 h6 hN (by decide) (by decide), okd (by decide +kernel), Ce_mono hce (fun v2 g2 r2 hq => ?_)⟩)⟩
  exact nx _ _ hq.2
theorem L_938 (hJ : J6 g r) (h0 : 0 ≤ l3) (h6 : l3 + 6 ≤ sc.1) (hN : sc.1 ≤ 3072) (hs : ∀ j, rI (sc.2 j)) (nx : NX sc l3) : WQ sc 61 253 (fun v _ _ => v = 1) 938 [(2, -5), (2, 0), (2, 165), (0, l3)] [] g r := by
  refine b_253_938 ⟨ixk h0 h6 hN (by decide) (by decide), okd (by decide +kernel), Ce_mono (uu_83 hJ _) (fun v1 g1 r1 hce => ⟨ixk h0 h6 hN (by decide) (by decide), okd (by decide +kernel), Ce_mono hce (fun v2 g2 r2 hq => ?_)⟩)⟩
  exact nx _ _ hq.2
theorem L_961 (hJ : J6 g r) (h0 : 0 ≤ l3) (h6 : l3 + 6 ≤ sc.1) (hN : sc.1 ≤ 3072) (hs : ∀ j, rI (sc.2 j)) (nx : NX sc l3) : WQ sc 61 253 (fun v _ _ => v = 1) 961 [(2, -5), (2, 0), (2, 165), (0, l3)] [] g r := by
  refine b_253_961 ⟨ixk h0 h6 hN (by decide) (by decide), okd (by decide +kernel), Ce_mono (uu_84 hJ _) (fun v1 g1 r1 hce => ⟨ixk h0 h6 hN (by decide) (by decide), okd (by decide +kernel), Ce_mono hce (fun v2 g2 r2 hq => ?_)⟩)⟩
  exact nx _ _ hq.2
theorem L_984 (hJ : J6 g r) (h0 : 0 ≤ l3) (h6 : l3 + 6 ≤ sc.1) (hN : sc.1 ≤ 3072) (hs : ∀ j, rI (sc.2 j)) (nx : NX sc l3) : WQ sc 61 253 (fun v _ _ => v = 1) 984 [(2, -5), (2, 0), (2, 165), (0, l3)] [] g r := by
  refine b_253_984 ⟨ixk h0 h6 hN (by decide) (by decide), ixk h0 h6 hN (by decide) (by decide), okd (by decide +kernel), Ce_mono (uu_85 hJ _) (fun v1 g1 r1 hce => ⟨ixk h0 h6 hN (by decide) (by decide), ixk h0 h6 hN (by decide) (by decide), okd (by decide +kernel), Ce_mono hce (fun v2 g2 r2 hq => ?_)⟩)⟩
  exact nx _ _ hq.2
theorem L_1017 (hJ : J6 g r) (h0 : 0 ≤ l3) (h6 : l3 + 6 ≤ sc.1) (hN : sc.1 ≤ 3072) (hs : ∀ j, rI (sc.2 j)) (nx : NX sc l3) : WQ sc 61 253 (fun v _ _ => v = 1) 1017 [(2, -5), (2, 0), (2, 165), (0, l3)] [] g r := by
  refine b_253_1017 ⟨ixk h0 h6 hN (by decide) (by decide), okd (by decide +kernel), Ce_mono (uu_86 hJ _) (fun v1 g1 r1 hce => ⟨ixk h0 h6 hN (by decide) (by decide), okd (by decide +kernel), Ce_mono hce (fun v2 g2 r2 hq => ?_)⟩)⟩
  exact nx _ _ hq.2
theorem L_1040 (hJ : J6 g r) (h0 : 0 ≤ l3) (h6 : l3 + 6 ≤ sc.1) (hN : sc.1 ≤ 3072) (hs : ∀ j, rI (sc.2 j)) (nx : NX sc l3) : WQ sc 61 253 (fun v _ _ => v = 1) 1040 [(2, -5), (2, 0), (2, 165), (0, l3)] [] g r := by
  refine b_253_1040 ⟨ixk h0 h6 hN (by decide) (by decide), ixk h0 h6 hN (by decide) (by decide), ixk h0 h6 hN (by decide) (by decide), ixk h0 h6 hN (by decide) (by decide), okd (by decide +kernel), Ce_mono (yy hJ (v_87 hJ.1.1.1.1.1.1 hJ.1.2 (fun _ _ e => ⟨rfl, e⟩)) (t_87 hJ.1.1.1.1.1.1 sqn (fun _ _ e => ⟨rfl, e⟩))) (fun v1 g1 r1 hq => ?_)⟩
  obtain ⟨er, j1⟩ := hq
  subst er
  exact ⟨ixk h0 h6 hN (by decide) (by decide), ixk h0 h6 hN (by decide) (by decide), ixk h0 h6 hN (by decide) (by decide), ixk h0 h6 hN (by decide) (by decide), okd (by decide +kernel), y_217 hJ.1.1.1.1.1.1 j1.1.1.1.1.1.2.2.2.1 (fun v2 g2 e2 => nx _ _ (j1.mf e2))⟩
theorem L_1093 (hJ : J6 g r) (h0 : 0 ≤ l3) (h6 : l3 + 6 ≤ sc.1) (hN : sc.1 ≤ 3072) (hs : ∀ j, rI (sc.2 j)) (nx : NX sc l3) : WQ sc 61 253 (fun v _ _ => v = 1) 1093 [(2, -5), (2, 0), (2, 165), (0, l3)] [] g r := by
  refine b_253_1093 ⟨ixk h0 h6 hN (by decide) (by decide), ixk h0 h6 hN (by decide) (by decide), ixk h0 h6 hN (by decide) (by decide), okd (by decide +kernel), Ce_mono (yy hJ (v_88 hJ.1.1.1.1.1.1 hJ.1.2 (fun _ _ e => ⟨rfl, e⟩)) (t_88 hJ.1.1.1.1.1.1 sqn (fun _ _ e => ⟨rfl, e⟩))) (fun v1 g1 r1 hq => ?_)⟩
  obtain ⟨er, j1⟩ := hq
  subst er
  exact ⟨ixk h0 h6 hN (by decide) (by decide), ixk h0 h6 hN (by decide) (by decide), ixk h0 h6 hN (by decide) (by decide), okd (by decide +kernel), y_220 hJ.1.1.1.1.1.1 j1.1.1.1.1.1.2.2.2.1 (fun v2 g2 e2 => nx _ _ (j1.mf e2))⟩
theorem L_1136 (hJ : J6 g r) (h0 : 0 ≤ l3) (h6 : l3 + 6 ≤ sc.1) (hN : sc.1 ≤ 3072) (hs : ∀ j, rI (sc.2 j)) (nx : NX sc l3) : WQ sc 61 253 (fun v _ _ => v = 1) 1136 [(2, -5), (2, 0), (2, 165), (0, l3)] [] g r := by
  refine b_253_1136 ⟨ixk h0 h6 hN (by decide) (by decide), ixk h0 h6 hN (by decide) (by decide), ixk h0 h6 hN (by decide) (by decide), okd (by decide +kernel), Ce_mono (yy hJ (v_89 hJ.1.1.1.1.1.1 hJ.1.2 (fun _ _ e => ⟨rfl, e⟩)) (t_89 hJ.1.1.1.1.1.1 sqn (fun _ _ e => ⟨rfl, e⟩))) (fun v1 g1 r1 hq => ?_)⟩
  obtain ⟨er, j1⟩ := hq
  subst er
  exact ⟨ixk h0 h6 hN (by decide) (by decide), ixk h0 h6 hN (by decide) (by decide), ixk h0 h6 hN (by decide) (by decide), okd (by decide +kernel), y_221 hJ.1.1.1.1.1.1 j1.1.1.1.1.1.2.2.2.1 (fun v2 g2 e2 => nx _ _ (j1.mf e2))⟩
theorem L_1179 (hJ : J6 g r) (h0 : 0 ≤ l3) (h6 : l3 + 6 ≤ sc.1) (hN : sc.1 ≤ 3072) (hs : ∀ j, rI (sc.2 j)) (nx : NX sc l3) : WQ sc 61 253 (fun v _ _ => v = 1) 1179 [(2, -5), (2, 0), (2, 165), (0, l3)] [] g r := by
  refine b_253_1179 ⟨ixk h0 h6 hN (by decide) (by decide), ixk h0 h6 hN (by decide) (by decide), okd (by decide +kernel), Ce_mono (uu_98 hJ _) (fun v1 g1 r1 hce => ⟨ixk h0 h6 hN (by decide) (by decide), ixk h0 h6 hN (by decide) (by decide), okd (by decide +kernel), Ce_mono hce (fun v2 g2 r2 hq => ?_)⟩)⟩
  exact nx _ _ hq.2
theorem L_1212 (hJ : J6 g r) (h0 : 0 ≤ l3) (h6 : l3 + 6 ≤ sc.1) (hN : sc.1 ≤ 3072) (hs : ∀ j, rI (sc.2 j)) (nx : NX sc l3) : WQ sc 61 253 (fun v _ _ => v = 1) 1212 [(2, -5), (2, 0), (2, 165), (0, l3)] [] g r := by
  refine b_253_1212 ⟨ixk h0 h6 hN (by decide) (by decide), ixk h0 h6 hN (by decide) (by decide), okd (by decide +kernel), Ce_mono (uu_99 hJ _) (fun v1 g1 r1 hce => ⟨ixk h0 h6 hN (by decide) (by decide), ixk h0 h6 hN (by decide) (by decide), okd (by decide +kernel), Ce_mono hce (fun v2 g2 r2 hq => ?_)⟩)⟩
  exact nx _ _ hq.2
theorem L_1245 (hJ : J6 g r) (h0 : 0 ≤ l3) (h6 : l3 + 6 ≤ sc.1) (hN : sc.1 ≤ 3072) (hs : ∀ j, rI (sc.2 j)) (nx : NX sc l3) : WQ sc 61 253 (fun v _ _ => v = 1) 1245 [(2, -5), (2, 0), (2, 165), (0, l3)] [] g r := by
  refine b_253_1245 ⟨ixk h0 h6 hN (by decide) (by decide), okd (by decide +kernel), Ce_mono (uu_100 hJ _) (fun v1 g1 r1 hce => ⟨ixk h0 h6 hN (by decide) (by decide), okd (by decide +kernel), Ce_mono hce (fun v2 g2 r2 hq => ?_)⟩)⟩
  exact nx _ _ hq.2
theorem L_1268 (hJ : J6 g r) (h0 : 0 ≤ l3) (h6 : l3 + 6 ≤ sc.1) (hN : sc.1 ≤ 3072) (hs : ∀ j, rI (sc.2 j)) (nx : NX sc l3) : WQ sc 61 253 (fun v _ _ => v = 1) 1268 [(2, -5), (2, 0), (2, 165), (0, l3)] [] g r := by
  refine b_253_1268 ⟨ixk h0 h6 hN (by decide) (by decide), ixk h0 h6 hN (by decide) (by decide), ixk h0 h6 hN (by decide) (by decide), okd (by decide +kernel), Ce_mono (uu_103 hJ (hs _) (hs _) _) (fun v1 g1 r1 hce => ⟨ixk h0 h6 hN (by decide) (by decide), ixk h0 h6 hN (by decide) (by decide), ixk h0 h6 hN (by decide) (by decide), okd (by decide +kernel), Ce_mono hce (fun v2 g2 r2 hq => ?_)⟩)⟩
  exact nx _ _ hq.2
theorem L_1311 (hJ : J6 g r) (h0 : 0 ≤ l3) (h6 : l3 + 6 ≤ sc.1) (hN : sc.1 ≤ 3072) (hs : ∀ j, rI (sc.2 j)) (nx : NX sc l3) : WQ sc 61 253 (fun v _ _ => v = 1) 1311 [(2, -5), (2, 0), (2, 165), (0, l3)] [] g r := by
  refine b_253_1311 ⟨ixk h0 h6 hN (by decide) (by decide), okd (by decide +kernel), Ce_mono (uu_104 hJ _) (fun v1 g1 r1 hce => ⟨ixk h0 h6 hN (by decide) (by decide), okd (by decide +kernel), Ce_mono hce (fun v2 g2 r2 hq => ?_)⟩)⟩
  exact nx _ _ hq.2
theorem L_1334 (hJ : J6 g r) (h0 : 0 ≤ l3) (h6 : l3 + 6 ≤ sc.1) (hN : sc.1 ≤ 3072) (hs : ∀ j, rI (sc.2 j)) (nx : NX sc l3) : WQ sc 61 253 (fun v _ _ => v = 1) 1334 [(2, -5), (2, 0), (2, 165), (0, l3)] [] g r := by
  refine b_253_1334 ⟨okd (by decide +kernel), Ce_mono (uu_105 hJ _) (fun v1 g1 r1 hce => ⟨okd (by decide +kernel), Ce_mono hce (fun v2 g2 r2 hq => ?_)⟩)⟩
  exact nx _ _ hq.2
theorem L_1347 (hJ : J6 g r) (h0 : 0 ≤ l3) (h6 : l3 + 6 ≤ sc.1) (hN : sc.1 ≤ 3072) (hs : ∀ j, rI (sc.2 j)) (nx : NX sc l3) : WQ sc 61 253 (fun v _ _ => v = 1) 1347 [(2, -5), (2, 0), (2, 165), (0, l3)] [] g r := by
  refine b_253_1347 ⟨ixk h0 h6 hN (by decide) (by decide), ixk h0 h6 hN (by decide) (by decide), ixk h0 h6 hN (by decide) (by decide), okd (by decide +kernel), s_106 ⟨ixk h0 h6 hN (by decide) (by decide), ixk h0 h6 hN (by decide) (by decide), ixk h0 h6 hN (by decide) (by decide), okd (by decide +kernel), m_231 ?_⟩⟩
  exact nx _ _ hJ
theorem L_1390 (hJ : J6 g r) (h0 : 0 ≤ l3) (h6 : l3 + 6 ≤ sc.1) (hN : sc.1 ≤ 3072) (hs : ∀ j, rI (sc.2 j)) (nx : NX sc l3) : WQ sc 61 253 (fun v _ _ => v = 1) 1390 [(2, -5), (2, 0), (2, 165), (0, l3)] [] g r := by
  refine b_253_1390 ⟨ixk h0 h6 hN (by decide) (by decide), ixk h0 h6 hN (by decide) (by decide), ixk h0 h6 hN (by decide) (by decide), ixk h0 h6 hN (by decide) (by decide), okd (by decide +kernel), Ce_mono (yy hJ (v_107 hJ.1.1.1.1.1.1 hJ.1.2 (fun _ _ e => ⟨rfl, e⟩)) (t_107 hJ.1.1.1.1.1.1 sqn (fun _ _ e => ⟨rfl, e⟩))) (fun v1 g1 r1 hq => ?_)⟩
  obtain ⟨er, j1⟩ := hq
  subst er
  exact ⟨ixk h0 h6 hN (by decide) (by decide), ixk h0 h6 hN (by decide) (by decide), ixk h0 h6 hN (by decide) (by decide), ixk h0 h6 hN (by decide) (by decide), okd (by decide +kernel), s_232 hJ.1.1.1.1.1.1 j1.1.1.1.1.1.2.2.2.1 (fun v2 => nx _ _ j1)⟩
theorem L_1443 (hJ : J6 g r) (h0 : 0 ≤ l3) (h6 : l3 + 6 ≤ sc.1) (hN : sc.1 ≤ 3072) (hs : ∀ j, rI (sc.2 j)) (nx : NX sc l3) : WQ sc 61 253 (fun v _ _ => v = 1) 1443 [(2, -5), (2, 0), (2, 165), (0, l3)] [] g r := by
  refine b_253_1443 ⟨ixk h0 h6 hN (by decide) (by decide), ixk h0 h6 hN (by decide) (by decide), ixk h0 h6 hN (by decide) (by decide), ixk h0 h6 hN (by decide) (by decide), ixk h0 h6 hN (by decide) (by decide), okd (by decide +kernel), Ce_mono (yy hJ (v_108 hJ.1.1.1.1.1.1 hJ.1.2 (fun _ _ e => ⟨rfl, e⟩)) (t_108 hJ.1.1.1.1.1.1 sqn (fun _ _ e => ⟨rfl, e⟩))) (fun v1 g1 r1 hq => ?_)⟩
  obtain ⟨er, j1⟩ := hq
  subst er
  exact ⟨ixk h0 h6 hN (by decide) (by decide), ixk h0 h6 hN (by decide) (by decide), ixk h0 h6 hN (by decide) (by decide), ixk h0 h6 hN (by decide) (by decide), ixk h0 h6 hN (by decide) (by decide), okd (by decide +kernel), s_233 hJ.1.1.1.1.1.1 j1.1.1.1.1.1.2.2.2.1 (fun v2 => nx _ _ j1)⟩
theorem L_1506 (hJ : J6 g r) (h0 : 0 ≤ l3) (h6 : l3 + 6 ≤ sc.1) (hN : sc.1 ≤ 3072) (hs : ∀ j, rI (sc.2 j)) (nx : NX sc l3) : WQ sc 61 253 (fun v _ _ => v = 1) 1506 [(2, -5), (2, 0), (2, 165), (0, l3)] [] g r := by
  refine b_253_1506 ⟨ixk h0 h6 hN (by decide) (by decide), ixk h0 h6 hN (by decide) (by decide), ixk h0 h6 hN (by decide) (by decide), ixk h0 h6 hN (by decide) (by decide), okd (by decide +kernel), Ce_mono (yy hJ (v_109 hJ.1.1.1.1.1.1 hJ.1.2 (fun _ _ e => ⟨rfl, e⟩)) (t_109 hJ.1.1.1.1.1.1 sqn (fun _ _ e => ⟨rfl, e⟩))) (fun v1 g1 r1 hq => ?_)⟩
  obtain ⟨er, j1⟩ := hq
  subst er
  exact ⟨ixk h0 h6 hN (by decide) (by decide), ixk h0 h6 hN (by decide) (by decide), ixk h0 h6 hN (by decide) (by decide), ixk h0 h6 hN (by decide) (by decide), okd (by decide +kernel), s_234 hJ.1.1.1.1.1.1 j1.1.1.1.1.1.2.2.2.1 (fun v2 => nx _ _ j1)⟩
theorem L_1559 (hJ : J6 g r) (h0 : 0 ≤ l3) (h6 : l3 + 6 ≤ sc.1) (hN : sc.1 ≤ 3072) (hs : ∀ j, rI (sc.2 j)) (nx : NX sc l3) : WQ sc 61 253 (fun v _ _ => v = 1) 1559 [(2, -5), (2, 0), (2, 165), (0, l3)] [] g r := by
  refine b_253_1559 ⟨ixk h0 h6 hN (by decide) (by decide), ixk h0 h6 hN (by decide) (by decide), ixk h0 h6 hN (by decide) (by decide), ixk h0 h6 hN (by decide) (by decide), okd (by decide +kernel), Ce_mono (uu_110 hJ (hs _).2 _) (fun v1 g1 r1 hce => ⟨ixk h0 h6 hN (by decide) (by decide), ixk h0 h6 hN (by decide) (by decide), ixk h0 h6 hN (by decide) (by decide), ixk h0 h6 hN (by decide) (by decide), okd (by decide +kernel), Ce_mono hce (fun v2 g2 r2 hq => ?_)⟩)⟩
  exact nx _ _ hq.2
theorem L_1612 (hJ : J6 g r) (h0 : 0 ≤ l3) (h6 : l3 + 6 ≤ sc.1) (hN : sc.1 ≤ 3072) (hs : ∀ j, rI (sc.2 j)) (nx : NX sc l3) : WQ sc 61 253 (fun v _ _ => v = 1) 1612 [(2, -5), (2, 0), (2, 165), (0, l3)] [] g r := by
  refine b_253_1612 ⟨ixk h0 h6 hN (by decide) (by decide), ixk h0 h6 hN (by decide) (by decide), okd (by decide +kernel), Ce_mono (uu_111 hJ _) (fun v1 g1 r1 hce => ⟨ixk h0 h6 hN (by decide) (by decide), ixk h0 h6 hN (by decide) (by decide), okd (by decide +kernel), Ce_mono hce (fun v2 g2 r2 hq => ?_)⟩)⟩
  exact nx _ _ hq.2
theorem L_1645 (hJ : J6 g r) (h0 : 0 ≤ l3) (h6 : l3 + 6 ≤ sc.1) (hN : sc.1 ≤ 3072) (hs : ∀ j, rI (sc.2 j)) (nx : NX sc l3) : WQ sc 61 253 (fun v _ _ => v = 1) 1645 [(2, -5), (2, 0), (2, 165), (0, l3)] [] g r := by
  refine b_253_1645 ⟨ixk h0 h6 hN (by decide) (by decide), ixk h0 h6 hN (by decide) (by decide), ixk h0 h6 hN (by decide) (by decide), ixk h0 h6 hN (by decide) (by decide), okd (by decide +kernel), Ce_mono (yy hJ (v_112 hJ.1.1.1.1.1.1 hJ.1.2 hJ.1.1.1.1.1.2.1 (fun _ _ e => ⟨rfl, e⟩)) (t_112 hJ.1.1.1.1.1.1 sqn cqn hJ.1.1.1.1.1.2.1 (fun _ _ e => ⟨rfl, e⟩))) (fun v1 g1 r1 hq => ?_)⟩
  obtain ⟨er, j1⟩ := hq
  subst er
  exact ⟨ixk h0 h6 hN (by decide) (by decide), ixk h0 h6 hN (by decide) (by decide), ixk h0 h6 hN (by decide) (by decide), ixk h0 h6 hN (by decide) (by decide), okd (by decide +kernel), y_237 hJ.1.1.1.1.1.1 j1.1.1.1.1.1.2.2.2.1 (fun v2 g2 e2 => nx _ _ (j1.mf e2))⟩
theorem L_1698 (hJ : J6 g r) (h0 : 0 ≤ l3) (h6 : l3 + 6 ≤ sc.1) (hN : sc.1 ≤ 3072) (hs : ∀ j, rI (sc.2 j)) (nx : NX sc l3) : WQ sc 61 253 (fun v _ _ => v = 1) 1698 [(2, -5), (2, 0), (2, 165), (0, l3)] [] g r := by
  refine b_253_1698 ⟨ixk h0 h6 hN (by decide) (by decide), ixk h0 h6 hN (by decide) (by decide), okd (by decide +kernel), Ce_mono (yy hJ (v_115 hJ.1.1.1.1.1.1 hJ.1.2 (fun _ _ e => ⟨rfl, e⟩)) (t_115 hJ.1.1.1.1.1.1 sqn (fun _ _ e => ⟨rfl, e⟩))) (fun v1 g1 r1 hq => ?_)⟩
  obtain ⟨er, j1⟩ := hq
  subst er
  exact ⟨ixk h0 h6 hN (by decide) (by decide), ixk h0 h6 hN (by decide) (by decide), okd (by decide +kernel), y_238 hJ.1.1.1.1.1.1 j1.1.1.1.1.1.2.2.2.1 (fun v2 g2 e2 => nx _ _ (j1.mf e2))⟩
theorem L_1731 (hJ : J6 g r) (h0 : 0 ≤ l3) (h6 : l3 + 6 ≤ sc.1) (hN : sc.1 ≤ 3072) (hs : ∀ j, rI (sc.2 j)) (nx : NX sc l3) : WQ sc 61 253 (fun v _ _ => v = 1) 1731 [(2, -5), (2, 0), (2, 165), (0, l3)] [] g r := by
  refine b_253_1731 ⟨ixk h0 h6 hN (by decide) (by decide), okd (by decide +kernel), Ce_mono (uu_116 hJ _) (fun v1 g1 r1 hce => ⟨ixk h0 h6 hN (by decide) (by decide), okd (by decide +kernel), Ce_mono hce (fun v2 g2 r2 hq => ?_)⟩)⟩
  rw [if_pos hq.1]
  exact nx _ _ hq.2
theorem L_1754 (hJ : J6 g r) (h0 : 0 ≤ l3) (h6 : l3 + 6 ≤ sc.1) (hN : sc.1 ≤ 3072) (hs : ∀ j, rI (sc.2 j)) (nx : NX sc l3) : WQ sc 61 253 (fun v _ _ => v = 1) 1754 [(2, -5), (2, 0), (2, 165), (0, l3)] [] g r := by
  refine b_253_1754 ⟨ixk h0 h6 hN (by decide) (by decide), ixk h0 h6 hN (by decide) (by decide), okd (by decide +kernel), Ce_mono (uu_117 hJ _) (fun v1 g1 r1 hce => ⟨ixk h0 h6 hN (by decide) (by decide), ixk h0 h6 hN (by decide) (by decide), okd (by decide +kernel), Ce_mono hce (fun v2 g2 r2 hq => ?_)⟩)⟩
  exact nx _ _ hq.2
theorem L_1787 (hJ : J6 g r) (h0 : 0 ≤ l3) (h6 : l3 + 6 ≤ sc.1) (hN : sc.1 ≤ 3072) (hs : ∀ j, rI (sc.2 j)) (nx : NX sc l3) : WQ sc 61 253 (fun v _ _ => v = 1) 1787 [(2, -5), (2, 0), (2, 165), (0, l3)] [] g r := by
  refine b_253_1787 ⟨ixk h0 h6 hN (by decide) (by decide), ixk h0 h6 hN (by decide) (by decide), okd (by decide +kernel), Ce_mono (yy hJ (v_118 hJ.1.1.1.1.1.1 hJ.1.2 hJ.1.1.1.1.1.2.1 (fun _ _ e => ⟨rfl, e⟩)) (t_118 hJ.1.1.1.1.1.1 sqn cqn hJ.1.1.1.1.1.2.1 (fun _ _ e => ⟨rfl, e⟩))) (fun v1 g1 r1 hq => ?_)⟩
  obtain ⟨er, j1⟩ := hq
  subst er
  exact ⟨ixk h0 h6 hN (by decide) (by decide), ixk h0 h6 hN (by decide) (by decide), okd (by decide +kernel), y_242 hJ.1.1.1.1.1.1 j1.1.1.1.1.1.2.2.2.1 (fun v2 g2 e2 => nx _ _ (j1.mf e2))⟩
theorem L_1820 (hJ : J6 g r) (h0 : 0 ≤ l3) (h6 : l3 + 6 ≤ sc.1) (hN : sc.1 ≤ 3072) (hs : ∀ j, rI (sc.2 j)) (nx : NX sc l3) : WQ sc 61 253 (fun v _ _ => v = 1) 1820 [(2, -5), (2, 0), (2, 165), (0, l3)] [] g r := by
  refine b_253_1820 ⟨ixk h0 h6 hN (by decide) (by decide), ixk h0 h6 hN (by decide) (by decide), ixk h0 h6 hN (by decide) (by decide), okd (by decide +kernel), Ce_mono (yy hJ (v_119 hJ.1.1.1.1.1.1 hJ.1.2 (fun _ _ e => ⟨rfl, e⟩)) (t_119 hJ.1.1.1.1.1.1 sqn (fun _ _ e => ⟨rfl, e⟩))) (fun v1 g1 r1 hq => ?_)⟩
  obtain ⟨er, j1⟩ := hq
  subst er
  exact ⟨ixk h0 h6 hN (by decide) (by decide), ixk h0 h6 hN (by decide) (by decide), ixk h0 h6 hN (by decide) (by decide), okd (by decide +kernel), s_243 hJ.1.1.1.1.1.1 j1.1.1.1.1.1.2.2.2.1 (fun v2 => nx _ _ j1)⟩
theorem L_1863 (hJ : J6 g r) (h0 : 0 ≤ l3) (h6 : l3 + 6 ≤ sc.1) (hN : sc.1 ≤ 3072) (hs : ∀ j, rI (sc.2 j)) (nx : NX sc l3) : WQ sc 61 253 (fun v _ _ => v = 1) 1863 [(2, -5), (2, 0), (2, 165), (0, l3)] [] g r := by
  refine b_253_1863 ⟨okd (by decide +kernel), Ce_mono (uu_120 hJ _) (fun v1 g1 r1 hce => ⟨okd (by decide +kernel), Ce_mono hce (fun v2 g2 r2 hq => ?_)⟩)⟩
  exact nx _ _ hq.2
theorem L_1876 (hJ : J6 g r) (h0 : 0 ≤ l3) (h6 : l3 + 6 ≤ sc.1) (hN : sc.1 ≤ 3072) (hs : ∀ j, rI (sc.2 j)) (nx : NX sc l3) : WQ sc 61 253 (fun v _ _ => v = 1) 1876 [(2, -5), (2, 0), (2, 165), (0, l3)] [] g r := by
  refine b_253_1876 ⟨ixk h0 h6 hN (by decide) (by decide), okd (by decide +kernel), Ce_mono (uu_121 hJ _) (fun v1 g1 r1 hce => ⟨ixk h0 h6 hN (by decide) (by decide), okd (by decide +kernel), Ce_mono hce (fun v2 g2 r2 hq => ?_)⟩)⟩
  exact nx _ _ hq.2
theorem L_1899 (hJ : J6 g r) (h0 : 0 ≤ l3) (h6 : l3 + 6 ≤ sc.1) (hN : sc.1 ≤ 3072) (hs : ∀ j, rI (sc.2 j)) (nx : NX sc l3) : WQ sc 61 253 (fun v _ _ => v = 1) 1899 [(2, -5), (2, 0), (2, 165), (0, l3)] [] g r := by
  refine b_253_1899 ⟨ixk h0 h6 hN (by decide) (by decide), okd (by decide +kernel), Ce_mono (z_122 hJ) (fun v1 g1 r1 hq => ?_)⟩
  obtain ⟨er, j1⟩ := hq
  subst er
  exact ⟨ixk h0 h6 hN (by decide) (by decide), okd (by decide +kernel), s_246 hJ.1.1.1.1.1.1 j1.1.1.1.1.1.2.2.2.1 (fun v2 => nx _ _ j1)⟩
theorem gf_0 {i : Int} (h : oG.all (fun e => decide (e.1 ≠ i)) = true) (j : Int) : gF i j = 0 := by
  unfold gF
  rw [dl_dn]
  refine dl_none (fun e he q => ?_)
  have := of_decide_eq_true (List.all_eq_true.mp h e he)
  exact this q.1.symm
theorem J_F : J gF rF := by
  refine ⟨RI_F, ?_, ?_, ⟨?_, ?_, ?_⟩, ?_⟩
  · unfold CI; decide +kernel
  · intro u hu
    rcases hu with rfl | rfl | rfl | rfl | rfl | rfl | rfl <;> (unfold RN; decide +kernel)
  · unfold MN
    refine ⟨by decide +kernel, by decide +kernel, by decide +kernel, by decide +kernel, by decide +kernel, by decide +kernel, fun k => ?_⟩
    rw [gf_0 (by decide +kernel)]; decide
  · refine ⟨fun k => Or.inl (gf_0 (by decide +kernel) k), fun k => Or.inl (gf_0 (by decide +kernel) k), fun k => Or.inl (gf_0 (by decide +kernel) k), fun s _ _ => ?_, fun k => ?_⟩
    · rw [gf_0 (by decide +kernel)]; decide
    · rw [gf_0 (by decide +kernel)]; exact rL0
  · intro m _ _ mt
    exact absurd (gf_0 (by decide +kernel) m) mt
  · unfold R0
    refine ⟨by decide +kernel, by decide +kernel, fun j j0 j1 => ?_, by decide +kernel, by decide +kernel⟩
    rw [gf_0 (by decide +kernel), gf_0 (by decide +kernel)]
theorem J2_F : J2 gF rF := by
  refine ⟨J_F, fun p p0 p1 => ?_, by decide +kernel⟩
  have z : gF 1 1 = 0 := by decide +kernel
  omega
theorem J3_F : J3 gF rF := by
  refine ⟨J2_F, fun k k0 k6 => ⟨?_, fun t => absurd (gf_0 (by decide +kernel) k) t⟩, fun k k0 k6 => ?_, by decide +kernel, fun j j0 j1 => ?_⟩
  · have hm := RI_F.2.1 k k0 k6
    rw [gf_0 (i := 167) (by decide +kernel) k]
    have e : ∀ M, MO M → gF M 0 = 0 := fun M h => by
      rcases h with rfl | rfl | rfl | rfl | rfl | rfl | rfl <;> decide +kernel
    exact ⟨fun _ => rfl, fun _ => e _ hm⟩
  · have e : k = 0 ∨ k = 1 ∨ k = 2 ∨ k = 3 ∨ k = 4 ∨ k = 5 := by omega
    rcases e with rfl | rfl | rfl | rfl | rfl | rfl <;> decide +kernel
  · have z : gF 52 2 = 0 := by decide +kernel
    omega
theorem J5_F : J5 gF rF := by
  refine ⟨⟨J3_F, by unfold IC; decide +kernel⟩, fun k k0 k6 => ⟨fun z => ?_, fun s => absurd (gf_0 (by decide +kernel) k) s.2.2⟩⟩
  have hm := RI_F.2.1 k k0 k6
  have e : ∀ M, MO M → gF M 0 = 0 := fun M h => by
    rcases h with rfl | rfl | rfl | rfl | rfl | rfl | rfl <;> decide +kernel
  exact absurd (e _ hm) z
theorem J6_F : J6 gF rF := by
  have h0 : HB (fun _ _ => 0) := by
    refine ⟨⟨Int.le_refl 0, (by decide : (0 : Int) ≤ 960)⟩, fun j _ _ => ⟨⟨Int.le_refl 0, (by decide : (0 : Int) ≤ 99999)⟩, Or.inl rfl⟩, fun k k0 k6 => ⟨⟨Int.le_refl 0, (by decide : (0 : Int) ≤ 9999)⟩, Int.le_refl 0, ?_⟩⟩
    show (0 : Int) ≤ 60000 + 10000 * (k + 1)
    omega
  refine ⟨J5_F, ⟨fun _ _ => 0, h0, ⟨⟨by decide +kernel, by decide +kernel, by decide +kernel⟩, fun j _ _ => ⟨gf_0 (by decide +kernel) j, gf_0 (by decide +kernel) j⟩, fun j _ _ => ⟨gf_0 (by decide +kernel) j, gf_0 (by decide +kernel) j, gf_0 (by decide +kernel) j, gf_0 (by decide +kernel) j, gf_0 (by decide +kernel) j⟩⟩, ⟨⟨gf_0 (by decide +kernel) _, gf_0 (by decide +kernel) _, gf_0 (by decide +kernel) _⟩, fun j _ _ => ⟨gf_0 (by decide +kernel) _, gf_0 (by decide +kernel) _⟩, fun j _ _ => ⟨gf_0 (by decide +kernel) _, gf_0 (by decide +kernel) _, gf_0 (by decide +kernel) _, gf_0 (by decide +kernel) _, gf_0 (by decide +kernel) _⟩⟩, by decide +kernel⟩, fun k k0 k1 => ?_, fun j j0 j1 => ?_⟩
  · have z : gF 165 48 = 0 := by decide +kernel
    omega
  · have e : j = 0 ∨ j = 1 ∨ j = 2 ∨ j = 3 ∨ j = 4 ∨ j = 5 := by omega
    rcases e with rfl | rfl | rfl | rfl | rfl | rfl <;> decide +kernel
theorem law_loop (sc : SCR) (hN : sc.1 ≤ 3072) (hz : 0 ≤ sc.1) (hs : ∀ j, rI (sc.2 j)) : WQ sc 61 253 (fun v _ _ => v = 1) 18 [(2, -5), (2, 0), (2, 165), (0, 0)] [] gF rF := by
  have loop : ∀ i : Int, -2147483648 ≤ i → 0 ≤ i → ∀ g r, J6 g r → WQ sc 61 253 (fun v _ _ => v = 1) 18 [(2, -5), (2, 0), (2, 165), (0, i)] [] g r := by
    refine upS 6 3072 (by decide) (by decide) fun i _ ih h0 g r hJ => ?_
    refine b_253_18 ⟨rfl, ?_⟩
    rw [wr_id (x := sc.1 - 6) ⟨by omega, by omega⟩]
    refine ite_c (fun _ => ⟨Or.inr rfl, rfl⟩) (fun hn => ?_)
    have h6 : i + 6 ≤ sc.1 := by omega
    have nx : NX sc i := fun g r j => ih (by omega) (by rw [wr_id ⟨by omega, by omega⟩]; omega) g r j
    refine ⟨⟨rfl, by omega, by omega⟩, by decide, ?_⟩
    refine ite_c (fun _ => L_224 hJ h0 h6 hN hs nx) (fun _ => ?_)
    refine ite_c (fun _ => L_287 hJ h0 h6 hN hs nx) (fun _ => ?_)
    refine ite_c (fun _ => L_320 hJ h0 h6 hN hs nx) (fun _ => ?_)
    refine ite_c (fun _ => L_333 hJ h0 h6 hN hs nx) (fun _ => ?_)
    refine ite_c (fun _ => L_366 hJ h0 h6 hN hs nx) (fun _ => ?_)
    refine ite_c (fun _ => L_399 hJ h0 h6 hN hs nx) (fun _ => ?_)
    refine ite_c (fun _ => L_452 hJ h0 h6 hN hs nx) (fun _ => ?_)
    refine ite_c (fun _ => L_495 hJ h0 h6 hN hs nx) (fun _ => ?_)
    refine ite_c (fun _ => L_548 hJ h0 h6 hN hs nx) (fun _ => ?_)
    refine ite_c (fun _ => L_611 hJ h0 h6 hN hs nx) (fun _ => ?_)
    refine ite_c (fun _ => L_674 hJ h0 h6 hN hs nx) (fun _ => ?_)
    refine ite_c (fun _ => L_717 hJ h0 h6 hN hs nx) (fun _ => ?_)
    refine ite_c (fun _ => L_780 hJ h0 h6 hN hs nx) (fun _ => ?_)
    refine ite_c (fun _ => L_833 hJ h0 h6 hN hs nx) (fun _ => ?_)
    refine ite_c (fun _ => L_892 hJ h0 h6 hN hs nx) (fun _ => ?_)
    refine ite_c (fun _ => L_915 hJ h0 h6 hN hs nx) (fun _ => ?_)
    refine ite_c (fun _ => L_938 hJ h0 h6 hN hs nx) (fun _ => ?_)
    refine ite_c (fun _ => L_961 hJ h0 h6 hN hs nx) (fun _ => ?_)
    refine ite_c (fun _ => L_984 hJ h0 h6 hN hs nx) (fun _ => ?_)
    refine ite_c (fun _ => L_1017 hJ h0 h6 hN hs nx) (fun _ => ?_)
    refine ite_c (fun _ => L_1040 hJ h0 h6 hN hs nx) (fun _ => ?_)
    refine ite_c (fun _ => L_1093 hJ h0 h6 hN hs nx) (fun _ => ?_)
    refine ite_c (fun _ => L_1136 hJ h0 h6 hN hs nx) (fun _ => ?_)
    refine ite_c (fun _ => L_1179 hJ h0 h6 hN hs nx) (fun _ => ?_)
    refine ite_c (fun _ => L_1212 hJ h0 h6 hN hs nx) (fun _ => ?_)
    refine ite_c (fun _ => L_1245 hJ h0 h6 hN hs nx) (fun _ => ?_)
    refine ite_c (fun _ => L_1268 hJ h0 h6 hN hs nx) (fun _ => ?_)
    refine ite_c (fun _ => L_1311 hJ h0 h6 hN hs nx) (fun _ => ?_)
    refine ite_c (fun _ => L_1334 hJ h0 h6 hN hs nx) (fun _ => ?_)
    refine ite_c (fun _ => L_1347 hJ h0 h6 hN hs nx) (fun _ => ?_)
    refine ite_c (fun _ => L_1390 hJ h0 h6 hN hs nx) (fun _ => ?_)
    refine ite_c (fun _ => L_1443 hJ h0 h6 hN hs nx) (fun _ => ?_)
    refine ite_c (fun _ => L_1506 hJ h0 h6 hN hs nx) (fun _ => ?_)
    refine ite_c (fun _ => L_1559 hJ h0 h6 hN hs nx) (fun _ => ?_)
    refine ite_c (fun _ => L_1612 hJ h0 h6 hN hs nx) (fun _ => ?_)
    refine ite_c (fun _ => L_1645 hJ h0 h6 hN hs nx) (fun _ => ?_)
    refine ite_c (fun _ => L_1698 hJ h0 h6 hN hs nx) (fun _ => ?_)
    refine ite_c (fun _ => L_1731 hJ h0 h6 hN hs nx) (fun _ => ?_)
    refine ite_c (fun _ => L_1754 hJ h0 h6 hN hs nx) (fun _ => ?_)
    refine ite_c (fun _ => L_1787 hJ h0 h6 hN hs nx) (fun _ => ?_)
    refine ite_c (fun _ => L_1820 hJ h0 h6 hN hs nx) (fun _ => ?_)
    refine ite_c (fun _ => L_1863 hJ h0 h6 hN hs nx) (fun _ => ?_)
    refine ite_c (fun _ => L_1876 hJ h0 h6 hN hs nx) (fun _ => ?_)
    refine ite_c (fun _ => L_1899 hJ h0 h6 hN hs nx) (fun _ => ?_)
    exact nx _ _ hJ
  exact loop 0 (by decide) (by decide) gF rF J6_F
end LWJ
