/-! the class on a fresh object: what each method answers, printed by a program -/
def CO (g : GH) : Prop := ∀ i j, 165 ≤ i → g i j = gF i j
theorem co_F : CO gF := fun _ _ _ => rfl
theorem co_up {g : GH} {x j v : Int} (hx : x < 165) (h : CO g) : CO (up g x j v) := fun a b ha => by
  unfold up; rw [if_neg (fun q => by have := q.1; omega)]; exact h a b ha
theorem co_cpy {g : GH} {s sp x dp n : Int} (hx : x < 165) (h : CO g) : CO (cpy g s sp x dp n) := fun a b ha => by
  unfold cpy; rw [if_neg (fun q => by have := q.1; omega)]; exact h a b ha
theorem nt_F {m : Int} : ¬ TD gF rF m := by
  intro t
  have e : ∀ n : Nat, n < 6 → gF (rF 6 (n : Int)) 0 = 0 := by
    intro n hn
    match n, hn with
    | 0, _ => decide +kernel
    | 1, _ => decide +kernel
    | 2, _ => decide +kernel
    | 3, _ => decide +kernel
    | 4, _ => decide +kernel
    | 5, _ => decide +kernel
  have h := e m.toNat (by have := t.1; have := t.2.1; omega)
  rw [Int.toNat_of_nonneg t.1] at h
  exact t.2.2 h
section FRA
variable {sc : SCR} {d : Nat} {Q : QJ} {g r : GH} {l0 l1 l2 l3 l4 l5 : Int}
theorem f_129 (h : Q (-1) gF rF) : Ce sc (d + 2) 129 [(2, 0), (0, l1)] gF rF Q := w_129 RI_F (fun t => (nt_F t).elim) (fun _ => h)
theorem f_130 (h : Q (-1) gF rF) : Ce sc (d + 3) 130 [(2, 0), (0, l1)] gF rF Q := w_130 RI_F (fun t _ => (nt_F t).elim) (fun _ => h)
theorem f_131 (h : Q 0 gF rF) : Ce sc (d + 3) 131 [(2, 0)] gF rF Q := by
  have key : ∀ (n : Nat) (l2 : Int), 0 ≤ l2 → l2 + n = 6 → WQ sc (d + 2) 131 Q 4 [(2, 0), (0, 0), (0, l2)] [] gF rF := by
    intro n
    induction n with
    | zero => intro l2 _ e; refine b_131_4 ?_; rw [if_neg (by omega)]; exact h
    | succ n ih =>
      intro l2 h0 e
      refine b_131_4 ?_
      rw [if_pos (by omega)]
      refine ⟨okd (by decide +kernel), f_129 ?_⟩
      rw [if_pos rfl, show wr (l2 + 1) = l2 + 1 from wr_id ⟨by omega, by omega⟩, show wr (0 + 0) = 0 by decide]
      exact ih (l2 + 1) (by omega) (by omega)
  exact c_131 (key 6 0 (by omega) (by omega))
theorem f_91 (h : Q 0 gF rF) : Ce sc (d + 4) 91 [(2, 0)] gF rF Q := c_91 ⟨okd (by decide +kernel), f_131 (w_250 (fun q => by omega) (fun _ => h))⟩
theorem f_90 (h : Q 0 gF rF) : Ce sc (d + 5) 90 [(2, 0), (0, l1), (0, l2)] gF rF Q := by
  refine c_90 (w_123 (fun _ _ => ?_) (fun _ => ?_))
  · rw [if_neg (by decide)]
    refine w_123 (fun _ _ => ?_) (fun _ => ?_)
    · rw [if_neg (by decide)]
      refine ⟨okd (by decide +kernel), f_91 ?_⟩
      rw [if_neg (by decide)]
      exact ⟨Or.inl rfl, h⟩
    · rw [if_pos rfl]; exact ⟨Or.inl rfl, h⟩
  · rw [if_pos rfl]; exact ⟨Or.inl rfl, h⟩
/-- a pair is put into an empty row of pairs -/
theorem f_132 {p a b n : Int} (hp : okr 218 p 3) (h0 : rF p 0 = a) (h1 : rF p 1 = b) (ha : okr 218 a 11) (hb : okr 218 b 11) (hla : am_ln a = n) (hlb : am_ln b = n) (hn : 0 < n) (hp2 : p < 165) (ha2 : a < 165) (hb2 : b < 165) (hap : a ≠ p) (hbp : b ≠ p) (hz : gF p 2 = 0) (h : ∀ g', CO g' → Q 1 g' rF) :
    Ce sc (d + 3) 132 [(2, 0), (2, p), (0, l2), (0, l3)] gF rF Q := by
  refine c_132 ⟨hp, c_24 ⟨hp, ?_⟩⟩
  rw [hz, if_neg (by decide), h0, h1, hla]
  refine ⟨hp, hp, ⟨ha.1, ha.2.1, by rw [ha.2.2]; decide, by rw [ha.2.2]; decide⟩, ?_⟩
  rw [if_pos hn]
  refine ⟨hp, hp, ⟨ha, by omega, by omega⟩, fun g1 e1 => ⟨hp, hp, ?_, fun g2 e2 => ⟨hp, hp, fun g3 e3 => ⟨Or.inr rfl, ?_⟩⟩⟩⟩
  · have z : g1 p 2 = 0 := by rw [e1]; unfold up; rw [if_neg (fun q => hap q.1.symm)]; exact hz
    rw [z]; exact ⟨hb, by omega, by omega⟩
  · rw [if_neg (by decide)]
    refine ⟨hp, ?_⟩
    have z1 : g1 p 2 = 0 := by rw [e1]; unfold up; rw [if_neg (fun q => hap q.1.symm)]; exact hz
    have z2 : g2 p 2 = 0 := by rw [e2]; unfold up; rw [if_neg (fun q => hbp q.1.symm)]; exact z1
    have z3 : g3 p 2 = 1 := by rw [e3, z2]; unfold up; rw [if_pos ⟨rfl, rfl⟩]; decide
    rw [z3]
    refine h g3 ?_
    rw [e3, e2, e1]
    exact co_up hp2 (co_up hb2 (co_up ha2 co_F))
theorem g_133 {c : Int} (h0 : 0 ≤ c) (h2 : c ≤ 2) (h : ∀ g', CO g' → Q (-1) g' rF) : Ce sc (d + 2) 133 [(2, 0), (0, c)] gF rF Q := w_133 RI_F h0 h2 (h _ (co_up (by omega) co_F))
theorem g_134 {c : Int} (h0 : 0 ≤ c) (h2 : c ≤ 2) (h : ∀ g', CO g' → Q 0 g' rF) : Ce sc (d + 3) 134 [(2, 0), (0, c)] gF rF Q := w_134 RI_F h0 h2 (h _ (co_up (by omega) co_F))
theorem A_69 (h : ∀ g', CO g' → Q (-1) g' rF) : Ce sc 61 69 [(2, 0), (0, l1), (0, l2)] gF rF Q := by
  refine c_69 ⟨okd (by decide +kernel), f_129 ?_⟩
  rw [if_pos rfl]
  exact h _ co_F
theorem A_73 (h : ∀ g', CO g' → Q (-1) g' rF) : Ce sc 61 73 [(2, 0), (0, l1), (0, l2), (0, l3), (0, l4)] gF rF Q := by
  refine c_73 ⟨okd (by decide +kernel), f_129 ?_⟩
  rw [if_pos rfl]
  exact h _ co_F
theorem A_74 (h : ∀ g', CO g' → Q (-1) g' rF) : Ce sc 61 74 [(2, 0), (0, l1), (0, l2), (0, l3), (0, l4), (0, l5)] gF rF Q := by
  refine c_74 ⟨okd (by decide +kernel), f_129 ?_⟩
  rw [if_pos rfl]
  exact h _ co_F
theorem A_75 (h : ∀ g', CO g' → Q (-1) g' rF) : Ce sc 61 75 [(2, 0), (0, l1), (0, l2), (0, l3), (0, l4), (0, l5)] gF rF Q := by
  refine c_75 ⟨okd (by decide +kernel), f_129 ?_⟩
  rw [if_pos rfl]
  exact h _ co_F
theorem A_76 (h : ∀ g', CO g' → Q (-1) g' rF) : Ce sc 61 76 [(2, 0), (0, l1), (0, l2), (0, l3)] gF rF Q := by
  refine c_76 ⟨okd (by decide +kernel), f_129 ?_⟩
  rw [if_pos rfl]
  exact h _ co_F
theorem A_77 (h : ∀ g', CO g' → Q (-1) g' rF) : Ce sc 61 77 [(2, 0), (0, l1), (0, l2), (0, l3), (0, l4), (0, l5)] gF rF Q := by
  refine c_77 ⟨okd (by decide +kernel), f_129 ?_⟩
  rw [if_pos rfl]
  exact h _ co_F
theorem A_85 (h : ∀ g', CO g' → Q (-1) g' rF) : Ce sc 61 85 [(2, 0), (0, l1), (0, l2)] gF rF Q := by
  refine c_85 ⟨okd (by decide +kernel), f_129 ?_⟩
  rw [if_pos rfl]
  exact h _ co_F
theorem A_100 (h : ∀ g', CO g' → Q (-1) g' rF) : Ce sc 61 100 [(2, 0), (0, l1)] gF rF Q := by
  refine c_100 ⟨okd (by decide +kernel), f_129 ?_⟩
  rw [if_pos rfl]
  exact h _ co_F
theorem A_108 (h : ∀ g', CO g' → Q (-1) g' rF) : Ce sc 61 108 [(2, 0), (0, l1), (0, l2), (0, l3), (0, l4), (0, l5)] gF rF Q := by
  refine c_108 ⟨okd (by decide +kernel), f_129 ?_⟩
  rw [if_pos rfl]
  exact h _ co_F
theorem A_115 (h : ∀ g', CO g' → Q (-1) g' rF) : Ce sc 61 115 [(2, 0), (0, l1), (0, l2)] gF rF Q := by
  refine c_115 ⟨okd (by decide +kernel), f_129 ?_⟩
  rw [if_pos rfl]
  exact h _ co_F
theorem A_116 (h : ∀ g', CO g' → Q (-1) g' rF) : Ce sc 61 116 [(2, 0), (0, l1)] gF rF Q := by
  refine c_116 ⟨okd (by decide +kernel), f_129 ?_⟩
  rw [if_pos rfl]
  exact h _ co_F
theorem A_118 (h : ∀ g', CO g' → Q (-1) g' rF) : Ce sc 61 118 [(2, 0), (0, l1), (0, l2)] gF rF Q := by
  refine c_118 ⟨okd (by decide +kernel), f_129 ?_⟩
  rw [if_pos rfl]
  exact h _ co_F
theorem A_119 (h : ∀ g', CO g' → Q (-1) g' rF) : Ce sc 61 119 [(2, 0), (0, l1), (0, l2), (0, l3)] gF rF Q := by
  refine c_119 ⟨okd (by decide +kernel), f_129 ?_⟩
  rw [if_pos rfl]
  exact h _ co_F
theorem A_71 (h : ∀ g', CO g' → Q (-1) g' rF) : Ce sc 61 71 [(2, 0), (0, l1), (0, l2), (0, l3), (0, l4)] gF rF Q := by
  refine c_71 ⟨okd (by decide +kernel), f_130 ?_⟩
  rw [if_pos rfl]
  exact h _ co_F
theorem A_72 (h : ∀ g', CO g' → Q (-1) g' rF) : Ce sc 61 72 [(2, 0), (0, l1), (0, l2), (0, l3)] gF rF Q := by
  refine c_72 ⟨okd (by decide +kernel), f_130 ?_⟩
  rw [if_pos rfl]
  exact h _ co_F
theorem A_79 (h : ∀ g', CO g' → Q (-1) g' rF) : Ce sc 61 79 [(2, 0), (0, l1), (0, l2), (0, l3), (0, l4)] gF rF Q := by
  refine c_79 ⟨okd (by decide +kernel), f_130 ?_⟩
  rw [if_pos rfl]
  exact h _ co_F
theorem A_107 (h : ∀ g', CO g' → Q (-1) g' rF) : Ce sc 61 107 [(2, 0), (0, l1), (0, l2), (0, l3), (0, l4)] gF rF Q := by
  refine c_107 ⟨okd (by decide +kernel), f_130 ?_⟩
  rw [if_pos rfl]
  exact h _ co_F
theorem A_112 (h : ∀ g', CO g' → Q (-1) g' rF) : Ce sc 61 112 [(2, 0), (0, l1), (0, l2), (0, l3), (0, l4)] gF rF Q := by
  refine c_112 ⟨okd (by decide +kernel), f_130 ?_⟩
  rw [if_pos rfl]
  exact h _ co_F
theorem A_109 (h : ∀ g', CO g' → Q (-1) g' rF) : Ce sc 61 109 [(2, 0), (0, l1), (0, l2), (0, l3), (0, l4)] gF rF Q := by
  refine c_109 ⟨okd (by decide +kernel), f_130 ⟨okd (by decide +kernel), f_129 ?_⟩⟩
  rw [if_pos rfl]
  exact h _ co_F
theorem A_110 (h : ∀ g', CO g' → Q (-2000000000) g' rF) : Ce sc 61 110 [(2, 0), (0, l1), (0, l2), (0, l3), (0, l4)] gF rF Q := by
  refine c_110 ⟨okd (by decide +kernel), f_129 ?_⟩
  rw [if_pos rfl]
  exact h _ co_F
theorem A_98 (h : ∀ g', CO g' → Q 0 g' rF) : Ce sc 61 98 [(2, 0), (0, l1), (0, l2)] gF rF Q := by
  refine c_98 ⟨okd (by decide +kernel), f_129 ?_⟩
  rw [if_pos rfl]
  exact ⟨okd (by decide +kernel), g_134 (by decide) (by decide) (fun g' hc => ⟨Or.inl rfl, h g' hc⟩)⟩
theorem A_99 (h : ∀ g', CO g' → Q (-1) g' rF) : Ce sc 61 99 [(2, 0), (0, l1), (0, l2)] gF rF Q := by
  refine c_99 ⟨okd (by decide +kernel), f_129 ?_⟩
  rw [if_pos rfl]
  exact ⟨okd (by decide +kernel), g_133 (by decide) (by decide) h⟩
theorem A_87 (h : ∀ g', CO g' → Q (-1) g' rF) : Ce sc 61 87 [(2, 0), (0, l1), (0, l2), (0, l3), (0, l4)] gF rF Q := by
  refine c_87 ⟨okd (by decide +kernel), f_90 ?_⟩
  rw [if_pos rfl]
  exact h _ co_F
theorem A_88 (h : ∀ g', CO g' → Q (-1) g' rF) : Ce sc 61 88 [(2, 0), (0, l1), (0, l2), (0, l3)] gF rF Q := by
  refine c_88 ⟨okd (by decide +kernel), f_90 ?_⟩
  rw [if_pos rfl]
  exact h _ co_F
theorem A_89 (h : ∀ g', CO g' → Q (-1) g' rF) : Ce sc 61 89 [(2, 0), (0, l1), (0, l2), (0, l3)] gF rF Q := by
  refine c_89 ⟨okd (by decide +kernel), f_90 ?_⟩
  rw [if_pos rfl]
  exact h _ co_F
theorem A_82 (h : ∀ g', CO g' → Q (-1) g' rF) : Ce sc 61 82 [(2, 0), (0, l1)] gF rF Q := by
  refine c_82 (w_123 (fun _ _ => ?_) (fun _ => ?_))
  · rw [if_neg (by decide)]
    refine ⟨okd (by decide +kernel), f_131 ?_⟩
    rw [if_pos rfl]
    exact ⟨okd (by decide +kernel), g_133 (by decide) (by decide) h⟩
  · rw [if_pos rfl]
    exact ⟨okd (by decide +kernel), g_133 (by decide) (by decide) h⟩
theorem A_68 (h : ∀ g', CO g' → Q (-1) g' rF) : Ce sc 61 68 [(2, 0)] gF rF Q := by
  refine c_68 ?_
  rw [r_0_0 RI_F, show gF 1 2 = -1 by decide +kernel]
  exact ⟨okd (by decide +kernel), okd (by decide +kernel), h _ co_F⟩
theorem A_70 (h : ∀ g', CO g' → Q (sineV l1 l2) g' rF) : Ce sc 61 70 [(2, 0), (0, l1), (0, l2)] gF rF Q := by
  exact s_70 (h _ co_F)
theorem A_106 (h : ∀ g', CO g' → Q (teethV l1 l2 l3) g' rF) : Ce sc 61 106 [(2, 0), (0, l1), (0, l2), (0, l3)] gF rF Q := by
  exact s_106 (h _ co_F)
def dayV (a b : Int) : Int := if 0 ≤ a ∧ a ≤ 39 ∧ 0 ≤ b ∧ b ≤ 99999 then 1 else 0
theorem A_80 (h : ∀ g', CO g' → Q (dayV l1 l2) g' rF) : Ce sc 61 80 [(2, 0), (0, l1), (0, l2), (0, l3)] gF rF Q := by
  unfold dayV at h
  refine c_80 (w_127 (fun a1 a2 => ?_) (fun a => ?_))
  · rw [if_neg (by decide)]
    refine w_124 (fun b1 b2 => ?_) (fun b => ?_)
    · rw [if_neg (by decide), r_0_4 RI_F, r_23_4 RI_F, r_23_5 RI_F]
      rw [if_pos ⟨a1, a2, b1, b2⟩] at h
      refine ⟨okd (by decide +kernel), okd (by decide +kernel), i_24.mpr ⟨a1, by omega⟩, fun g3 e3 => ⟨okd (by decide +kernel), okd (by decide +kernel), ?_⟩⟩
      have hc : CO g3 := by rw [e3]; exact co_up (by decide) co_F
      split
      · exact ⟨i_25.mpr ⟨a1, by omega⟩, fun g4 e4 => ⟨Or.inr rfl, h g4 (by rw [e4]; exact co_up (by decide) hc)⟩⟩
      · exact ⟨i_25.mpr ⟨a1, by omega⟩, fun g4 e4 => ⟨Or.inr rfl, h g4 (by rw [e4]; exact co_up (by decide) hc)⟩⟩
    · rw [if_pos rfl]
      rw [if_neg (by omega)] at h
      exact ⟨okd (by decide +kernel), g_134 (by decide) (by decide) (fun g' hc => ⟨Or.inl rfl, h g' hc⟩)⟩
  · rw [if_pos rfl]
    rw [if_neg (by omega)] at h
    exact ⟨okd (by decide +kernel), g_134 (by decide) (by decide) (fun g' hc => ⟨Or.inl rfl, h g' hc⟩)⟩
theorem z_F {i j : Int} (h : ∀ e ∈ oG, ¬ (i = e.1)) : gF i j = 0 := by
  unfold gF
  rw [dl_dn]
  exact dl_none fun e he q => h e he q.1
theorem zF_of {i j : Int} (h : (oG.all fun e => decide (i ≠ e.1)) = true) : gF i j = 0 := z_F fun e he q => (of_decide_eq_true (List.all_eq_true.mp h e he)) q
def flowV (a : Int) : Int := if 0 ≤ a ∧ a ≤ 39 then 0 else -1
theorem A_81 (h : ∀ g', CO g' → Q (flowV l1) g' rF) : Ce sc 61 81 [(2, 0), (0, l1)] gF rF Q := by
  unfold flowV at h
  refine c_81 (w_127 (fun a1 a2 => ?_) (fun a => ?_))
  · rw [if_neg (by decide), r_0_4 RI_F, r_23_4 RI_F]
    rw [if_pos ⟨a1, a2⟩] at h
    rw [zF_of (by decide +kernel)]
    exact ⟨okd (by decide +kernel), okd (by decide +kernel), i_24.mpr ⟨a1, by omega⟩, h _ co_F⟩
  · rw [if_pos rfl]
    rw [if_neg (by omega)] at h
    exact h _ co_F
theorem A_83 (h : ∀ g', CO g' → Q (flowV l1) g' rF) : Ce sc 61 83 [(2, 0), (0, l1)] gF rF Q := by
  unfold flowV at h
  refine c_83 (w_127 (fun a1 a2 => ?_) (fun a => ?_))
  · rw [if_neg (by decide), r_0_4 RI_F, r_23_4 RI_F]
    rw [if_pos ⟨a1, a2⟩] at h
    rw [zF_of (i := 24) (by decide +kernel)]
    have key : ∀ t : Int, ∀ g2, CO g2 → Ce sc 60 250 [(0, 99999), (0, wr (0 * t))] g2 rF fun v3 g3 r3 => okI 218 24 11 l1 ∧ ∀ g4, g4 = up g3 24 l1 v3 → okr 218 0 8 ∧ okr 218 (r3 0 4) 0 ∧ okI 218 (r3 (r3 0 4) 4) 11 l1 ∧ Q (g4 (r3 (r3 0 4) 4) l1) g4 r3 := by
      intro t g2 hc
      rw [Int.zero_mul, show wr 0 = 0 by decide]
      refine w_250 (fun q => by omega) (fun _ => ⟨i_24.mpr ⟨a1, by omega⟩, fun g4 e4 => ?_⟩)
      rw [r_0_4 RI_F, r_23_4 RI_F]
      have e : g4 24 l1 = 0 := by rw [e4]; unfold up; rw [if_pos ⟨rfl, rfl⟩]
      rw [e]
      exact ⟨okd (by decide +kernel), okd (by decide +kernel), i_24.mpr ⟨a1, by omega⟩, h _ (by rw [e4]; exact co_up (by decide) hc)⟩
    refine ⟨okd (by decide +kernel), okd (by decide +kernel), okd (by decide +kernel), okd (by decide +kernel), i_24.mpr ⟨a1, by omega⟩, okd (by decide +kernel), okd (by decide +kernel), c_3 ⟨okd (by decide +kernel), okd (by decide +kernel), fun g1 e1 => ⟨okd (by decide +kernel), by decide, ?_⟩⟩⟩
    have hc : CO g1 := by rw [e1]; exact co_up (by decide) co_F
    split
    · exact key _ _ hc
    · split
      · exact key _ _ hc
      · exact key _ _ hc
  · rw [if_pos rfl]
    rw [if_neg (by omega)] at h
    exact ⟨okd (by decide +kernel), g_133 (by decide) (by decide) h⟩
def seedV (a : Int) : Int := if 0 ≤ a ∧ a ≤ 999999999 then 1 else 0
theorem A_84 (h : ∀ g', CO g' → Q (seedV l1) g' rF) : Ce sc 61 84 [(2, 0), (0, l1)] gF rF Q := by
  unfold seedV at h
  refine c_84 (w_123 (fun a1 a2 => ?_) (fun a => ?_))
  · rw [if_neg (by decide), r_0_4 RI_F]
    rw [if_pos ⟨a1, a2⟩] at h
    exact ⟨okd (by decide +kernel), okd (by decide +kernel), fun g2 e2 => ⟨Or.inr rfl, h g2 (by rw [e2]; exact co_up (by decide) co_F)⟩⟩
  · rw [if_pos rfl]
    rw [if_neg (by omega)] at h
    exact ⟨okd (by decide +kernel), g_134 (by decide) (by decide) (fun g' hc => ⟨Or.inl rfl, h g' hc⟩)⟩
theorem f_135 {a : Int} (ha : okr 218 a 11) (hl : am_ln a = 6) (hz : ∀ j, gF a j = 0) (h : Q 0 gF rF) : Ce sc (d + 1) 135 [(2, a)] gF rF Q := by
  have key : ∀ (n : Nat) (l5 : Int), 0 ≤ l5 → l5 + n = 6 → WQ sc d 135 Q 11 [(9, 0), (1, 0), (8, 0), (2, a), (0, 6), (0, l5), (9, 0)] [] gF rF := by
    intro n
    induction n with
    | zero => intro l5 _ e; refine b_135_11 ?_; rw [if_neg (by omega)]; exact h
    | succ n ih =>
      intro l5 h0 e
      refine b_135_11 ?_
      rw [if_pos (by omega), hz, show wL (0 + 0) = 0 by decide, wr_id (x := l5 + 1) ⟨by omega, by omega⟩]
      exact ⟨⟨ha, h0, by omega⟩, ih (l5 + 1) (by omega) (by omega)⟩
  refine c_135 ⟨⟨ha.1, ha.2.1, by rw [ha.2.2]; decide, by rw [ha.2.2]; decide⟩, ?_⟩
  rw [hl]
  exact key 6 0 (by omega) (by omega)
def waterV (a : Int) : Int := if 0 ≤ a ∧ a ≤ 4 then 0 else -1
theorem A_86 (h : ∀ g', CO g' → Q (waterV l1) g' rF) : Ce sc 61 86 [(2, 0), (0, l1)] gF rF Q := by
  unfold waterV at h
  refine c_86 ⟨by decide, ?_⟩
  rw [r_0_4 RI_F, r_23_6 RI_F, r_23_7 RI_F, show gF 23 1 = 0 by decide +kernel, show gF 23 2 = 0 by decide +kernel, show gF 23 0 = 0 by decide +kernel]
  split
  · rw [if_pos (by omega)] at h; exact ⟨okd (by decide +kernel), okd (by decide +kernel), h _ co_F⟩
  · split
    · rw [if_pos (by omega)] at h; exact ⟨okd (by decide +kernel), okd (by decide +kernel), f_135 (okd (by decide +kernel)) (by decide +kernel) (fun j => zF_of (by decide +kernel)) (h _ co_F)⟩
    · split
      · rw [if_pos (by omega)] at h; exact ⟨okd (by decide +kernel), okd (by decide +kernel), f_135 (okd (by decide +kernel)) (by decide +kernel) (fun j => zF_of (by decide +kernel)) (h _ co_F)⟩
      · split
        · rw [if_pos (by omega)] at h; exact ⟨okd (by decide +kernel), okd (by decide +kernel), h _ co_F⟩
        · split
          · rw [if_pos (by omega)] at h; exact ⟨okd (by decide +kernel), okd (by decide +kernel), h _ co_F⟩
          · rw [if_neg (by omega)] at h; exact h _ co_F
theorem td_pos {a b : Int} (h : 0 ≤ a) : a.tdiv b = a / b := Int.tdiv_eq_ediv_of_nonneg h
theorem tm_pos {a b : Int} (h : 0 ≤ a) : a.tmod b = a % b := Int.tmod_eq_emod_of_nonneg h
theorem td_negE {a b : Int} (h : a ≤ 0) : a.tdiv b = -((-a) / b) := by
  have h1 : (-a).tdiv b = (-a) / b := td_pos (by omega)
  rw [Int.neg_tdiv] at h1
  omega
theorem td100 {x : Int} (h : rI x) : wr (x.tdiv 100) = x.tdiv 100 ∧ (x < 0 → x.tdiv 100 ≤ 0) := by
  have h1 := h.1
  have h2 := h.2
  by_cases q : x < 0
  · rw [td_negE (by omega)]
    exact ⟨wr_id ⟨by omega, by omega⟩, fun _ => by omega⟩
  · rw [td_pos (by omega)]
    exact ⟨wr_id ⟨by omega, by omega⟩, fun _ => by omega⟩
theorem td1000 {x : Int} (h : rI x) : wr (x.tdiv 1000) = x.tdiv 1000 ∧ (x < 0 → x.tdiv 1000 ≤ 0) := by
  have h1 := h.1
  have h2 := h.2
  by_cases q : x < 0
  · rw [td_negE (by omega)]
    exact ⟨wr_id ⟨by omega, by omega⟩, fun _ => by omega⟩
  · rw [td_pos (by omega)]
    exact ⟨wr_id ⟨by omega, by omega⟩, fun _ => by omega⟩
def ruinV (a b c : Int) : Int := if 1 ≤ a ∧ a ≤ 20 ∧ 2 ≤ b.tdiv 100 ∧ b.tmod 100 ≤ 40 ∧ b.tdiv 100 ≤ b.tmod 100 ∧ 1 ≤ c.tdiv 1000 ∧ c.tmod 1000 ≤ 300 ∧ c.tdiv 1000 ≤ c.tmod 1000 then 0 else -1
theorem A_103 (hl2 : rI l2) (hl3 : rI l3) (h : ∀ g', CO g' → Q (ruinV l1 l2 l3) g' rF) : Ce sc 61 103 [(2, 0), (0, l1), (0, l2), (0, l3)] gF rF Q := by
  have h := h gF co_F
  unfold ruinV at h
  have key : ∀ (l4 l5 l6 l7 : Int) (n : Nat) (l9 : Int), 0 ≤ l9 → l9 + n = 6 → Q 0 gF rF → WQ sc 60 103 Q 85 [(2, 0), (0, l1), (9, 0), (9, 0), (0, l4), (0, l5), (0, l6), (0, l7), (0, 0), (0, l9), (9, 0)] [] gF rF := by
    intro l4 l5 l6 l7 n
    induction n with
    | zero => intro l9 _ e hq; refine b_103_85 ?_; rw [if_neg (by omega)]; exact hq
    | succ n ih =>
      intro l9 h0 e hq
      refine b_103_85 ?_
      rw [if_pos (by omega)]
      refine ⟨okd (by decide +kernel), f_129 ?_⟩
      rw [if_pos rfl, wr_id (x := l9 + 1) ⟨by omega, by omega⟩]
      exact ih (l9 + 1) (by omega) (by omega) hq
  refine c_103 ⟨by decide, by decide, by decide, by decide, w_123 (fun a1 a2 => ?_) (fun a => ?_)⟩
  · rw [if_neg (by decide), (td100 hl2).1, (td1000 hl3).1]
    split
    · rw [if_neg (by omega)] at h; exact h
    · split
      · rw [if_neg (by omega)] at h; exact h
      · split
        · rw [if_neg (by omega)] at h; exact h
        · split
          · rw [if_neg (by omega)] at h; exact h
          · split
            · rw [if_neg (by omega)] at h; exact h
            · split
              · rw [if_neg (by omega)] at h; exact h
              · rw [if_pos (by omega)] at h
                exact key _ _ _ _ 6 0 (by omega) (by omega) h
  · rw [if_pos rfl]
    rw [if_neg (by omega)] at h; exact h
def loadV (a : Int) : Int := if 0 ≤ a ∧ a ≤ 9999 then 1 else -1
def fallV (a b : Int) : Int := if 2 ≤ a ∧ a ≤ 40 ∧ 1 ≤ b ∧ b ≤ 9999 then 1 else -1
def orderV (a b : Int) : Int := if 1 ≤ a ∧ a ≤ 24 ∧ 1 ≤ b ∧ b ≤ 999999999 then 1 else -1
def countV (a : Int) : Int := if 0 ≤ a ∧ a ≤ 9 then 0 else -1
def millV (a b : Int) : Int := if 0 ≤ a ∧ a ≤ 5 ∧ b = 0 then -1 else -2
theorem A_104 (h : ∀ g', CO g' → Q (loadV l1) g' rF) : Ce sc 61 104 [(2, 0), (0, l1)] gF rF Q := by
  unfold loadV at h
  refine c_104 (w_123 (fun a1 a2 => ?_) (fun a => ?_))
  · rw [if_neg (by decide), r_0_13 RI_F]
    rw [if_pos ⟨a1, a2⟩] at h
    exact ⟨okd (by decide +kernel), okd (by decide +kernel), f_132 (a := 56) (b := 57) (n := 24) (okd (by decide +kernel)) (r_55_0 RI_F) (r_55_1 RI_F) (okd (by decide +kernel)) (okd (by decide +kernel)) n_56 n_57 (by decide) (by decide) (by decide) (by decide) (by decide) (by decide) (zF_of (by decide +kernel)) h⟩
  · rw [if_pos rfl]
    rw [if_neg (by omega)] at h
    exact ⟨okd (by decide +kernel), g_133 (by decide) (by decide) h⟩
theorem A_111 (h : ∀ g', CO g' → Q (fallV l1 l2) g' rF) : Ce sc 61 111 [(2, 0), (0, l1), (0, l2)] gF rF Q := by
  unfold fallV at h
  refine c_111 (w_123 (fun a1 a2 => ?_) (fun a => ?_))
  · rw [if_neg (by decide)]
    refine w_123 (fun b1 b2 => ?_) (fun b => ?_)
    · rw [if_neg (by decide), r_0_14 RI_F]
      rw [if_pos ⟨a1, a2, b1, b2⟩] at h
      exact ⟨okd (by decide +kernel), okd (by decide +kernel), f_132 (a := 59) (b := 60) (n := 9) (okd (by decide +kernel)) (r_58_0 RI_F) (r_58_1 RI_F) (okd (by decide +kernel)) (okd (by decide +kernel)) n_59 n_60 (by decide) (by decide) (by decide) (by decide) (by decide) (by decide) (zF_of (by decide +kernel)) h⟩
    · rw [if_pos rfl]
      rw [if_neg (by omega)] at h
      exact ⟨okd (by decide +kernel), g_133 (by decide) (by decide) h⟩
  · rw [if_pos rfl]
    rw [if_neg (by omega)] at h
    exact ⟨okd (by decide +kernel), g_133 (by decide) (by decide) h⟩
theorem A_117 (h : ∀ g', CO g' → Q (orderV l1 l2) g' rF) : Ce sc 61 117 [(2, 0), (0, l1), (0, l2)] gF rF Q := by
  unfold orderV at h
  refine c_117 (w_123 (fun a1 a2 => ?_) (fun a => ?_))
  · rw [if_neg (by decide)]
    refine w_123 (fun b1 b2 => ?_) (fun b => ?_)
    · rw [if_neg (by decide), r_0_16 RI_F]
      rw [if_pos ⟨a1, a2, b1, b2⟩] at h
      exact ⟨okd (by decide +kernel), okd (by decide +kernel), f_132 (a := 63) (b := 64) (n := 8) (okd (by decide +kernel)) (r_62_0 RI_F) (r_62_1 RI_F) (okd (by decide +kernel)) (okd (by decide +kernel)) n_63 n_64 (by decide) (by decide) (by decide) (by decide) (by decide) (by decide) (zF_of (by decide +kernel)) h⟩
    · rw [if_pos rfl]
      rw [if_neg (by omega)] at h
      exact ⟨okd (by decide +kernel), g_133 (by decide) (by decide) h⟩
  · rw [if_pos rfl]
    rw [if_neg (by omega)] at h
    exact ⟨okd (by decide +kernel), g_133 (by decide) (by decide) h⟩
theorem A_105 (h : ∀ g', CO g' → Q (-1) g' rF) : Ce sc 61 105 [(2, 0)] gF rF Q := by
  refine c_105 ?_
  rw [r_0_13 RI_F, zF_of (i := 55) (j := 2) (by decide +kernel), if_neg (by decide)]
  exact ⟨okd (by decide +kernel), okd (by decide +kernel), h _ co_F⟩
theorem A_121 (h : ∀ g', CO g' → Q 0 g' rF) : Ce sc 61 121 [(2, 0), (0, l1)] gF rF Q := by
  refine c_121 ⟨okd (by decide +kernel), ?_⟩
  rw [zF_of (i := 0) (j := 7) (by decide +kernel), show wr (0 - 1) = -1 by decide]
  refine w_123 (fun a b => by omega) (fun _ => ?_)
  rw [if_pos rfl]
  exact ⟨okd (by decide +kernel), g_134 (by decide) (by decide) (fun g' hc => ⟨Or.inl rfl, h g' hc⟩)⟩
theorem A_122 (h : ∀ g', CO g' → Q (countV l1) g' rF) : Ce sc 61 122 [(2, 0), (0, l1)] gF rF Q := by
  have h := h gF co_F
  unfold countV at h
  refine c_122 ⟨by decide, ?_⟩
  rw [r_0_0 RI_F, r_0_17 RI_F, r_0_13 RI_F, r_0_12 RI_F, r_0_14 RI_F, r_0_16 RI_F]
  rw [show gF 1 1 = 0 by decide +kernel, show gF 0 7 = 0 by decide +kernel, show gF 65 0 = 0 by decide +kernel, show gF 65 1 = 0 by decide +kernel, show gF 65 2 = 0 by decide +kernel, show gF 55 2 = 0 by decide +kernel, show gF 52 2 = 0 by decide +kernel, show gF 58 2 = 0 by decide +kernel, show gF 62 2 = 0 by decide +kernel]
  split
  · rw [if_pos (by omega)] at h; exact ⟨okd (by decide +kernel), f_131 h⟩
  · split
    · rw [if_pos (by omega)] at h; exact ⟨okd (by decide +kernel), okd (by decide +kernel), h⟩
    · split
      · rw [if_pos (by omega)] at h; exact ⟨okd (by decide +kernel), h⟩
      · split
        · rw [if_pos (by omega)] at h; exact ⟨okd (by decide +kernel), i_65.mpr ⟨by omega, by omega⟩, h⟩
        · split
          · rw [if_pos (by omega)] at h; exact ⟨okd (by decide +kernel), i_65.mpr ⟨by omega, by omega⟩, h⟩
          · split
            · rw [if_pos (by omega)] at h; exact ⟨okd (by decide +kernel), i_65.mpr ⟨by omega, by omega⟩, h⟩
            · split
              · rw [if_pos (by omega)] at h; exact ⟨okd (by decide +kernel), okd (by decide +kernel), h⟩
              · split
                · rw [if_pos (by omega)] at h; exact ⟨okd (by decide +kernel), okd (by decide +kernel), h⟩
                · split
                  · rw [if_pos (by omega)] at h; exact ⟨okd (by decide +kernel), okd (by decide +kernel), h⟩
                  · split
                    · rw [if_pos (by omega)] at h; exact ⟨okd (by decide +kernel), okd (by decide +kernel), h⟩
                    · rw [if_neg (by omega)] at h; exact h
/-! the tape -/
theorem up_s {f : GH} {i j v : Int} : up f i j v i j = v := if_pos ⟨rfl, rfl⟩
theorem up_i {f : GH} {i j v a b : Int} (h : a ≠ i) : up f i j v a b = f a b := if_neg fun q => h q.1
theorem up_j {f : GH} {i j v a b : Int} (h : b ≠ j) : up f i j v a b = f a b := if_neg fun q => h q.2
def ap1 (g : GH) (t v s : Int) : GH := up (up g 2 t (i_and (i_shr v s) 255)) 1 1 (t + 1)
def ap4 (g : GH) (t v : Int) : GH := ap1 (ap1 (ap1 (ap1 g t v 24) (t + 1) v 16) (t + 1 + 1) v 8) (t + 1 + 1 + 1) v 0
theorem ap1_1 {g : GH} {t v s : Int} : ap1 g t v s 1 1 = t + 1 := up_s
theorem ap1_o {g : GH} {t v s i j : Int} (h1 : i ≠ 1) (h2 : i ≠ 2) : ap1 g t v s i j = g i j := by unfold ap1; rw [up_i h1, up_i h2]
theorem ap4_o {g : GH} {t v i j : Int} (h1 : i ≠ 1) (h2 : i ≠ 2) : ap4 g t v i j = g i j := by unfold ap4; rw [ap1_o h1 h2, ap1_o h1 h2, ap1_o h1 h2, ap1_o h1 h2]
theorem ap4_1 {g : GH} {t v : Int} : ap4 g t v 1 1 = t + 4 := by unfold ap4; rw [ap1_1]; omega
theorem w_31s (hr : RI r) {t v s : Int} (h1 : g 1 1 = t) (h0 : 0 ≤ t) (h7 : t < 700) (hs : 0 ≤ s) (h : WQ sc d 31 Q 3 [(2, 1), (0, v), (0, wr (s + (-8)))] [] (ap1 g t v s) r) : WQ sc d 31 Q 3 [(2, 1), (0, v), (0, s)] [] g r := by
  refine b_31_3 ?_
  rw [if_neg (by omega), h1, if_pos h7, r_1_0 hr]
  refine ⟨okd (by decide +kernel), okd (by decide +kernel), okd (by decide +kernel), i_2.mpr ⟨h0, h7⟩, fun g1 e1 => ⟨okd (by decide +kernel), okd (by decide +kernel), fun g2 e2 => ?_⟩⟩
  have z : g1 1 1 = t := by rw [e1, up_i (by decide)]; exact h1
  rw [z, wr_id (x := t + 1) ⟨by omega, by omega⟩, e1] at e2
  rw [e2]
  exact h
theorem w_31 (hr : RI r) {t v : Int} (h1 : g 1 1 = t) (h0 : 0 ≤ t) (h7 : t + 4 ≤ 700) (h : Q 0 (ap4 g t v) r) : Ce sc (d + 1) 31 [(2, 1), (0, v)] g r Q := by
  refine c_31 (w_31s hr h1 h0 (by omega) (by decide) ?_)
  rw [show wr (24 + -8) = 16 by decide]
  refine w_31s hr ap1_1 (by omega) (by omega) (by decide) ?_
  rw [show wr (16 + -8) = 8 by decide]
  refine w_31s hr ap1_1 (by omega) (by omega) (by decide) ?_
  rw [show wr (8 + -8) = 0 by decide]
  refine w_31s hr ap1_1 (by omega) (by omega) (by decide) ?_
  rw [show wr (0 + -8) = -8 by decide]
  refine b_31_3 ?_
  rw [if_pos (by decide)]
  exact h
def ap20 (g : GH) (t a b c d e : Int) : GH := ap4 (ap4 (ap4 (ap4 (ap4 g t a) (t + 4) b) (t + 4 + 4) c) (t + 4 + 4 + 4) d) (t + 4 + 4 + 4 + 4) e
theorem w_66 (hr : RI r) {t : Int} (h1 : g 1 1 = t) (h0 : 0 ≤ t) (h9 : t ≤ 700) (hy : t + 20 ≤ 700 → Q (t + 20) (ap20 g t l1 l2 l3 l4 l5) r) (hn : ¬ t + 20 ≤ 700 → Q (-1) g r) : Ce sc (d + 2) 66 [(2, 0), (0, l1), (0, l2), (0, l3), (0, l4), (0, l5)] g r Q := by
  refine c_66 ?_
  rw [r_0_0 hr, h1, wr_id (x := t + 20) ⟨by omega, by omega⟩]
  refine ⟨okd (by decide +kernel), okd (by decide +kernel), ?_⟩
  split
  · exact hn (by omega)
  · have h7 : t + 20 ≤ 700 := by omega
    refine ⟨okd (by decide +kernel), okd (by decide +kernel), w_31 hr h1 h0 (by omega) ?_⟩
    rw [r_0_0 hr]
    refine ⟨okd (by decide +kernel), okd (by decide +kernel), w_31 hr ap4_1 (by omega) (by omega) ?_⟩
    rw [r_0_0 hr]
    refine ⟨okd (by decide +kernel), okd (by decide +kernel), w_31 hr ap4_1 (by omega) (by omega) ?_⟩
    rw [r_0_0 hr]
    refine ⟨okd (by decide +kernel), okd (by decide +kernel), w_31 hr ap4_1 (by omega) (by omega) ?_⟩
    rw [r_0_0 hr]
    refine ⟨okd (by decide +kernel), okd (by decide +kernel), w_31 hr ap4_1 (by omega) (by omega) ?_⟩
    rw [r_0_0 hr, ap4_1]
    refine ⟨okd (by decide +kernel), okd (by decide +kernel), ?_⟩
    have e : t + 4 + 4 + 4 + 4 + 4 = t + 20 := by omega
    rw [e]
    exact hy h7
theorem A_66 (h : ∀ g', CO g' → Q 20 g' rF) : Ce sc 61 66 [(2, 0), (0, l1), (0, l2), (0, l3), (0, l4), (0, l5)] gF rF Q :=
  w_66 RI_F (t := 0) (by decide +kernel) (by decide) (by decide) (fun _ => h _ fun i j hi => by
    unfold ap20
    rw [ap4_o (by omega) (by omega), ap4_o (by omega) (by omega), ap4_o (by omega) (by omega), ap4_o (by omega) (by omega), ap4_o (by omega) (by omega)]) (fun q => absurd (by decide) q)
/-! an empty text -/
theorem f_35 (hr : RI r) (h6 : g 1 6 = -1) (h : ∀ g', (∀ i j, i ≠ 1 → g' i j = g i j) → g' 1 7 = g 3 0 → g' 1 8 = g 4 0 → Q 0 g' r) : Ce sc (d + 1) 35 [(2, 1)] g r Q := by
  refine c_35 ⟨okd (by decide +kernel), okd (by decide +kernel), fun g1 e1 => ⟨okd (by decide +kernel), ?_⟩⟩
  have z1 : g1 1 6 = 0 := by rw [e1, up_s, h6]; decide
  rw [z1, if_neg (by decide), r_1_3 hr, r_1_4 hr, r_1_5 hr, n_3]
  refine ⟨okd (by decide +kernel), okd (by decide +kernel), a_3.mpr trivial, ?_⟩
  rw [if_pos (by decide)]
  refine ⟨okd (by decide +kernel), okd (by decide +kernel), i_3.mpr ⟨by decide, by decide⟩, okd (by decide +kernel), fun g2 e2 => ?_⟩
  have z2 : g2 1 6 = 0 := by rw [e2, up_j (by decide), z1]
  rw [z2]
  refine ⟨okd (by decide +kernel), okd (by decide +kernel), i_4.mpr ⟨by decide, by decide⟩, okd (by decide +kernel), fun g3 e3 => ?_⟩
  have z3 : g3 1 6 = 0 := by rw [e3, up_j (by decide), z2]
  rw [z3]
  refine ⟨okd (by decide +kernel), okd (by decide +kernel), i_5.mpr ⟨by decide, by decide⟩, okd (by decide +kernel), fun g4 e4 => h g4 (fun i j hi => ?_) ?_ ?_⟩
  · rw [e4, up_i hi, e3, up_i hi, e2, up_i hi, e1, up_i hi]
  · rw [e4, up_j (by decide), e3, up_j (by decide), e2, up_s, e1, up_i (by decide)]
  · rw [e4, up_j (by decide), e3, up_s, e2, up_i (by decide), e1, up_i (by decide)]
theorem f_33 (hr : RI r) (h : ∀ g', (∀ i j, i ≠ 1 → i ≠ 3 → i ≠ 4 → i ≠ 5 → g' i j = g i j) → g' 1 7 = 0 → Q 0 g' r) : Ce sc (d + 2) 33 [(2, 1), (0, 0)] g r Q := by
  refine c_33 (b_33_7 ?_)
  rw [if_neg (by decide)]
  refine b_33_139 ?_
  rw [r_1_3 hr, r_1_4 hr, r_1_5 hr]
  refine ⟨okd (by decide +kernel), i_3.mpr ⟨by decide, by decide⟩, fun g1 e1 => ⟨okd (by decide +kernel), i_4.mpr ⟨by decide, by decide⟩, fun g2 e2 => ⟨okd (by decide +kernel), i_5.mpr ⟨by decide, by decide⟩, fun g3 e3 => ⟨okd (by decide +kernel), fun g4 e4 => ⟨okd (by decide +kernel), f_35 hr (by rw [e4, up_s]) fun g5 k1 k2 k3 => h g5 (fun i j a1 a2 a3 a4 => ?_) ?_⟩⟩⟩⟩⟩
  · rw [k1 i j a1, e4, up_i a1, e3, up_i a4, e2, up_i a3, e1, up_i a2]
  · rw [k2, e4, up_i (by decide), e3, up_i (by decide), e2, up_i (by decide), e1, up_s]
theorem f_38 (hr : RI r) (h7 : g 1 7 = 0) {t : Int} (h : Q 0 g r) : Ce sc (d + 2) 38 [(2, 1), (2, t)] g r Q := by
  refine c_38 ⟨okd (by decide +kernel), c_36 ⟨okd (by decide +kernel), ?_⟩⟩
  rw [h7, if_neg (by decide)]
  refine ⟨Or.inl rfl, ?_⟩
  rw [if_pos rfl]
  exact ⟨Or.inl rfl, h⟩
theorem f_20 (hr : RI r) (h : ∀ g', (∀ i j, i ≠ 7 → i ≠ 8 → i ≠ 13 → g' i j = g i j) → Q 0 g' r) : Ce sc (d + 2) 20 [(2, 7)] g r Q := by
  refine c_20 ⟨okd (by decide +kernel), Or.inl rfl, fun g1 e1 => ?_⟩
  rw [r_7_1 hr]
  refine ⟨okd (by decide +kernel), okd (by decide +kernel), c_55 ⟨okd (by decide +kernel), fun h1 a1 => ⟨okd (by decide +kernel), fun h2 a2 => ⟨okd (by decide +kernel), fun h3 a3 => ⟨okd (by decide +kernel), fun h4 a4 => ⟨okd (by decide +kernel), fun h5 a5 => ⟨okd (by decide +kernel), fun h6 a6 => ?_⟩⟩⟩⟩⟩⟩⟩
  rw [r_7_4 hr]
  refine ⟨okd (by decide +kernel), okd (by decide +kernel), c_47 ⟨okd (by decide +kernel), fun h7 a7 => ⟨okd (by decide +kernel), fun h8 a8 => h h8 fun i j b1 b2 b3 => ?_⟩⟩⟩
  rw [a8, up_i b3, a7, up_i b3, a6, up_i b1, a5, up_i b1, a4, up_i b2, a3, up_i b2, a2, up_i b2, a1, up_i b2, e1, up_i b1]
theorem A_67 (h : ∀ g', CO g' → Q (millV l1 l2) g' rF) : Ce sc 61 67 [(2, 0), (0, l1), (0, l2)] gF rF Q := by
  unfold millV at h
  refine c_67 (w_123 (fun a1 a2 => ?_) (fun a => ?_))
  · rw [if_neg (by decide), r_0_0 RI_F, show gF 1 1 = 0 by decide +kernel]
    refine ⟨okd (by decide +kernel), okd (by decide +kernel), w_123 (fun b1 b2 => ?_) (fun b => ?_)⟩
    · rw [if_neg (by decide), r_0_0 RI_F, show rF 0 2 = 7 by decide +kernel]
      rw [if_pos (by omega)] at h
      have e0 : l2 = 0 := by omega
      subst e0
      refine ⟨okd (by decide +kernel), okd (by decide +kernel), okd (by decide +kernel), c_32 ?_⟩
      rw [show gF 1 1 = 0 by decide +kernel]
      refine ⟨okd (by decide +kernel), w_250 (fun _ => ?_) (fun _ => ?_)⟩
      all_goals
        refine ⟨okd (by decide +kernel), f_33 RI_F fun g2 k1 k2 => ⟨okd (by decide +kernel), fun g3 e3 => ⟨okd (by decide +kernel), fun g4 e4 => ⟨okd (by decide +kernel), f_20 RI_F fun g5 k3 => ?_⟩⟩⟩⟩
        have z5 : g5 1 7 = 0 := by rw [k3 1 7 (by decide) (by decide) (by decide), e4, up_j (by decide), e3, up_j (by decide), k2]
        rw [r_7_1 RI_F]
        refine ⟨okd (by decide +kernel), okd (by decide +kernel), c_41 ⟨okd (by decide +kernel), f_38 RI_F z5 ?_⟩⟩
        rw [if_pos rfl]
        refine ⟨Or.inl rfl, b_32_38 ?_⟩
        rw [if_pos rfl]
        refine ⟨okd (by decide +kernel), okd (by decide +kernel), fun g6 e6 => ?_⟩
        rw [if_pos rfl]
        refine ⟨okd (by decide +kernel), w_133 RI_F (by decide) (by decide) (h _ (co_up (by decide) fun i j hi => ?_))⟩
        rw [e6, up_i (by omega), k3 i j (by omega) (by omega) (by omega), e4, up_i (by omega), e3, up_i (by omega), k1 i j (by omega) (by omega) (by omega) (by omega)]
    · rw [if_pos rfl]
      rw [if_neg (by omega)] at h
      exact ⟨okd (by decide +kernel), g_133 (by decide) (by decide) h⟩
  · rw [if_pos rfl]
    rw [if_neg (by omega)] at h
    exact ⟨okd (by decide +kernel), g_133 (by decide) (by decide) h⟩
/-! images -/
def BO (b : Int) : Prop := b = 23 ∨ b = 34 ∨ b = 132 ∨ b = 143 ∨ b = 154
theorem bo_r {r : GH} {b : Int} (hr : RI r) (h : BO b) : r b 4 = b + 1 ∧ r b 5 = b + 2 ∧ r b 6 = b + 3 ∧ r b 7 = b + 4 ∧ r b 8 = b + 5 ∧ r b 9 = b + 6 ∧ r b 10 = b + 7 ∧ r b 11 = b + 8 ∧ r b 12 = b + 9 ∧ r b 13 = b + 10 := by
  rcases h with rfl | rfl | rfl | rfl | rfl
  · exact ⟨r_23_4 hr, r_23_5 hr, r_23_6 hr, r_23_7 hr, r_23_8 hr, r_23_9 hr, r_23_10 hr, r_23_11 hr, r_23_12 hr, r_23_13 hr⟩
  · exact ⟨r_34_4 hr, r_34_5 hr, r_34_6 hr, r_34_7 hr, r_34_8 hr, r_34_9 hr, r_34_10 hr, r_34_11 hr, r_34_12 hr, r_34_13 hr⟩
  · exact ⟨r_132_4 hr, r_132_5 hr, r_132_6 hr, r_132_7 hr, r_132_8 hr, r_132_9 hr, r_132_10 hr, r_132_11 hr, r_132_12 hr, r_132_13 hr⟩
  · exact ⟨r_143_4 hr, r_143_5 hr, r_143_6 hr, r_143_7 hr, r_143_8 hr, r_143_9 hr, r_143_10 hr, r_143_11 hr, r_143_12 hr, r_143_13 hr⟩
  · exact ⟨r_154_4 hr, r_154_5 hr, r_154_6 hr, r_154_7 hr, r_154_8 hr, r_154_9 hr, r_154_10 hr, r_154_11 hr, r_154_12 hr, r_154_13 hr⟩
theorem bo_k {b : Int} (h : BO b) : okr 218 b 0 ∧ (okr 218 (b + 1) 11 ∧ am_ln (b + 1) = 40) ∧ (okr 218 (b + 2) 11 ∧ am_ln (b + 2) = 40) ∧ (okr 218 (b + 3) 11 ∧ am_ln (b + 3) = 6) ∧ (okr 218 (b + 4) 11 ∧ am_ln (b + 4) = 6) ∧ (okr 218 (b + 5) 12 ∧ am_ln (b + 5) = 6) ∧ (okr 218 (b + 6) 11 ∧ am_ln (b + 6) = 6) ∧ (okr 218 (b + 7) 11 ∧ am_ln (b + 7) = 6) ∧ (okr 218 (b + 8) 11 ∧ am_ln (b + 8) = 6) ∧ (okr 218 (b + 9) 11 ∧ am_ln (b + 9) = 6) ∧ okr 218 (b + 10) 11 ∧ am_ln (b + 10) = 6 := by
  rcases h with rfl | rfl | rfl | rfl | rfl <;> exact ⟨okd (by decide +kernel), ⟨okd (by decide +kernel), by decide +kernel⟩, ⟨okd (by decide +kernel), by decide +kernel⟩, ⟨okd (by decide +kernel), by decide +kernel⟩, ⟨okd (by decide +kernel), by decide +kernel⟩, ⟨okd (by decide +kernel), by decide +kernel⟩, ⟨okd (by decide +kernel), by decide +kernel⟩, ⟨okd (by decide +kernel), by decide +kernel⟩, ⟨okd (by decide +kernel), by decide +kernel⟩, ⟨okd (by decide +kernel), by decide +kernel⟩, okd (by decide +kernel), by decide +kernel⟩
theorem bo_ne {b : Int} (h : BO b) : ¬ b = -1 := by unfold BO at h; omega
def becm (g : GH) (a b : Int) : GH := cpy (cpy (cpy (cpy (cpy (cpy (cpy (up (up (up (up g a 0 (g b 0)) a 1 (g b 1)) a 2 (g b 2)) a 3 (g b 3)) (b + 1) 0 (a + 1) 0 40) (b + 2) 0 (a + 2) 0 40) (b + 3) 0 (a + 3) 0 6) (b + 4) 0 (a + 4) 0 6) (b + 5) 0 (a + 5) 0 6) (b + 6) 0 (a + 6) 0 6) (b + 7) 0 (a + 7) 0 6
theorem w_1 (hr : RI r) {a b : Int} (ha : BO a) (hb : BO b) (hab : a ≠ b) (h : Q 0 (becm g a b) r) : Ce sc (d + 1) 1 [(2, a), (2, b)] g r Q := by
  obtain ⟨ra1, ra2, ra3, ra4, ra5, ra6, ra7, -⟩ := bo_r hr ha
  obtain ⟨rb1, rb2, rb3, rb4, rb5, rb6, rb7, -⟩ := bo_r hr hb
  obtain ⟨ka, ka1, ka2, ka3, ka4, ka5, ka6, ka7, -⟩ := bo_k ha
  obtain ⟨kb, kb1, kb2, kb3, kb4, kb5, kb6, kb7, -⟩ := bo_k hb
  refine c_1 ?_
  rw [if_neg (bo_ne hb), ra1, ra2, ra3, ra4, ra5, ra6, ra7, rb1, rb2, rb3, rb4, rb5, rb6, rb7, ka1.2, ka2.2, ka3.2, ka4.2, ka5.2, ka6.2, ka7.2, kb1.2, kb2.2, kb3.2, kb4.2, kb5.2, kb6.2, kb7.2]
  refine ⟨kb, ka, fun g1 e1 => ⟨kb, ka, fun g2 e2 => ⟨kb, ka, fun g3 e3 => ⟨kb, ka, fun g4 e4 => ⟨kb, ka, ⟨by decide, by decide, by decide, by decide, by decide, Or.inl ⟨kb1.1, ka1.1⟩⟩, fun g5 e5 => ⟨kb, ka, ⟨by decide, by decide, by decide, by decide, by decide, Or.inl ⟨kb2.1, ka2.1⟩⟩, fun g6 e6 => ⟨kb, ka, ⟨by decide, by decide, by decide, by decide, by decide, Or.inl ⟨kb3.1, ka3.1⟩⟩, fun g7 e7 => ⟨kb, ka, ⟨by decide, by decide, by decide, by decide, by decide, Or.inl ⟨kb4.1, ka4.1⟩⟩, fun g8 e8 => ⟨kb, ka, ⟨by decide, by decide, by decide, by decide, by decide, Or.inr ⟨kb5.1, ka5.1⟩⟩, fun g9 e9 => ⟨kb, ka, ⟨by decide, by decide, by decide, by decide, by decide, Or.inl ⟨kb6.1, ka6.1⟩⟩, fun g10 e10 => ⟨kb, ka, ⟨by decide, by decide, by decide, by decide, by decide, Or.inl ⟨kb7.1, ka7.1⟩⟩, fun g11 e11 => ?_⟩⟩⟩⟩⟩⟩⟩⟩⟩⟩⟩
  have hne : b ≠ a := fun q => hab q.symm
  subst e1 e2 e3 e4 e5 e6 e7 e8 e9 e10 e11
  simp only [up_i hne]
  exact h
theorem becm_o {a b i j : Int} (h : i < a ∨ a + 7 < i) : becm g a b i j = g i j := by
  unfold becm
  rw [cpy_off _ (by omega), cpy_off _ (by omega), cpy_off _ (by omega), cpy_off _ (by omega), cpy_off _ (by omega), cpy_off _ (by omega), cpy_off _ (by omega), up_i (by omega), up_i (by omega), up_i (by omega), up_i (by omega)]
theorem A_120 (h : ∀ g', CO g' → Q 0 g' rF) : Ce sc 61 120 [(2, 0)] gF rF Q := by
  refine c_120 ⟨okd (by decide +kernel), ?_⟩
  rw [show gF 0 7 = 0 by decide +kernel, if_pos (by decide), r_0_6 RI_F, r_45_0 RI_F, r_0_4 RI_F]
  refine ⟨okd (by decide +kernel), okd (by decide +kernel), Or.inr (i_45.mpr ⟨by decide, by decide⟩), ?_⟩
  rw [if_neg (by decide)]
  refine ⟨okd (by decide +kernel), okd (by decide +kernel), Or.inr (i_45.mpr ⟨by decide, by decide⟩), okd (by decide +kernel), okd (by decide +kernel), w_1 RI_F (by unfold BO; omega) (by unfold BO; omega) (by decide) ⟨okd (by decide +kernel), okd (by decide +kernel), fun g2 e2 => ⟨okd (by decide +kernel), ?_⟩⟩⟩
  have z : g2 0 7 = 1 := by rw [e2, up_s, becm_o (by omega), show gF 0 7 = 0 by decide +kernel]; decide
  rw [z, show wr (1 - 1) = 0 by decide]
  refine h g2 ?_
  rw [e2]
  exact co_up (by decide) fun i j hi => becm_o (by omega)
end FRA
