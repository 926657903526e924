/-! the model on a fresh object, printed by a program -/
theorem zc {g : GH} {i j : Int} (hc : CO g) (h : 165 ≤ i) (hz : (oG.all fun e => decide (i ≠ e.1)) = true) : g i j = 0 := by rw [hc i j h]; exact zF_of hz
theorem up_id {f : GH} {i j v : Int} (h : f i j = v) : up f i j v = f := by
  funext a b
  unfold up
  split
  · rename_i q; rw [q.1, q.2, h]
  · rfl
section FRB
variable {sc : SCR} {d : Nat} {Q : QJ} {g r : GH} {l0 l1 l2 l3 l4 l5 : Int}
theorem nt_M {m : Int} (hc : CO g) : ¬ TM g m := fun t => t.2.2 (zc hc (by decide) (by decide +kernel))
theorem e_140 (hc : CO g) (h : Q 0 g rF) : Ce sc (d + 1) 140 [(2, 165), (0, l1)] g rF Q := w_140 RI_F (fun t => (nt_M hc t).elim) (fun _ => h)
theorem e_179 (hc : CO g) (h : Q 0 g rF) : Ce sc (d + 2) 179 [(2, 165), (0, l1)] g rF Q := w_179 RI_F (fun t => (nt_M hc t).elim) (fun _ => h)
theorem e_182 (hc : CO g) (h : Q 0 g rF) : Ce sc (d + 2) 182 [(2, 165), (0, l1), (0, l2), (0, l3), (0, l4)] g rF Q := by
  refine c_182 ⟨okd (by decide +kernel), e_140 hc ?_⟩
  rw [if_pos rfl]
  exact ⟨Or.inl rfl, h⟩
theorem e_206 (hc : CO g) (h : Q 0 g rF) : Ce sc (d + 1) 206 [(2, 165)] g rF Q := by
  have key : ∀ (n : Nat) (l2 : Int), 0 ≤ l2 → l2 + n = 6 → WQ sc d 206 Q 4 [(2, 165), (0, 0), (0, l2)] [] g rF := by
    intro n
    induction n with
    | zero => intro l2 _ e; refine b_206_4 ?_; rw [if_neg (by omega)]; exact h
    | succ n ih =>
      intro l2 h0 e
      refine b_206_4 ?_
      rw [if_pos (by omega), r_165_1 RI_F]
      refine ⟨okd (by decide +kernel), Or.inr (i_167.mpr ⟨h0, by omega⟩), ?_⟩
      rw [if_pos (zc hc (by decide) (by decide +kernel)), wr_id (x := l2 + 1) ⟨by omega, by omega⟩, show wr (0 + 0) = 0 by decide]
      exact ih (l2 + 1) (by omega) (by omega)
  exact c_206 (key 6 0 (by omega) (by omega))
theorem e_211 (hc : CO g) (h : Q 0 g rF) : Ce sc (d + 2) 211 [(2, 165)] g rF Q := by
  refine c_211 ⟨okd (by decide +kernel), e_206 hc ?_⟩
  rw [if_neg (by decide)]
  exact ⟨Or.inl rfl, h⟩
theorem e_216 (hc : CO g) (h : Q 0 g rF) : Ce sc (d + 3) 216 [(2, 165), (0, l1), (0, l2)] g rF Q := by
  refine c_216 ⟨okd (by decide +kernel), e_211 hc ?_⟩
  rw [if_pos rfl]
  exact ⟨Or.inl rfl, h⟩
theorem B_210 (hc : CO g) (h : ∀ g', Q (-1) g' rF) : Ce sc 61 210 [(2, 165), (0, l1), (0, l2)] g rF Q := by
  refine c_210 ⟨okd (by decide +kernel), e_140 hc ?_⟩
  rw [if_pos rfl]
  exact h _
theorem B_188 (hc : CO g) (h : ∀ g', Q (-1) g' rF) : Ce sc 61 188 [(2, 165), (0, l1), (0, l2), (0, l3)] g rF Q := by
  refine c_188 ⟨okd (by decide +kernel), e_140 hc ?_⟩
  rw [if_pos rfl]
  exact h _
theorem B_190 (hc : CO g) (h : ∀ g', Q (-1) g' rF) : Ce sc 61 190 [(2, 165), (0, l1), (0, l2), (0, l3), (0, l4), (0, l5)] g rF Q := by
  refine c_190 ⟨okd (by decide +kernel), e_140 hc ?_⟩
  rw [if_pos rfl]
  exact h _
theorem B_208 (hc : CO g) (h : ∀ g', Q (-1) g' rF) : Ce sc 61 208 [(2, 165), (0, l1), (0, l2)] g rF Q := by
  refine c_208 ⟨okd (by decide +kernel), e_140 hc ?_⟩
  rw [if_pos rfl]
  exact h _
theorem B_226 (hc : CO g) (h : ∀ g', Q (-1) g' rF) : Ce sc 61 226 [(2, 165), (0, l1)] g rF Q := by
  refine c_226 ⟨okd (by decide +kernel), e_140 hc ?_⟩
  rw [if_pos rfl]
  exact h _
theorem B_233 (hc : CO g) (h : ∀ g', Q (-1) g' rF) : Ce sc 61 233 [(2, 165), (0, l1), (0, l2), (0, l3), (0, l4), (0, l5)] g rF Q := by
  refine c_233 ⟨okd (by decide +kernel), e_140 hc ?_⟩
  rw [if_pos rfl]
  exact h _
theorem B_238 (hc : CO g) (h : ∀ g', Q (-1) g' rF) : Ce sc 61 238 [(2, 165), (0, l1), (0, l2)] g rF Q := by
  refine c_238 ⟨okd (by decide +kernel), e_140 hc ?_⟩
  rw [if_pos rfl]
  exact h _
theorem B_239 (hc : CO g) (h : ∀ g', Q (-1) g' rF) : Ce sc 61 239 [(2, 165), (0, l1)] g rF Q := by
  refine c_239 ⟨okd (by decide +kernel), e_140 hc ?_⟩
  rw [if_pos rfl]
  exact h _
theorem B_242 (hc : CO g) (h : ∀ g', Q (-1) g' rF) : Ce sc 61 242 [(2, 165), (0, l1), (0, l2)] g rF Q := by
  refine c_242 ⟨okd (by decide +kernel), e_140 hc ?_⟩
  rw [if_pos rfl]
  exact h _
theorem B_243 (hc : CO g) (h : ∀ g', Q (-1) g' rF) : Ce sc 61 243 [(2, 165), (0, l1), (0, l2), (0, l3)] g rF Q := by
  refine c_243 ⟨okd (by decide +kernel), e_140 hc ?_⟩
  rw [if_pos rfl]
  exact h _
theorem B_180 (hc : CO g) (h : ∀ g', Q (-1) g' rF) : Ce sc 61 180 [(2, 165), (0, l1), (0, l2), (0, l3), (0, l4)] g rF Q := by
  refine c_180 ⟨okd (by decide +kernel), e_179 hc ?_⟩
  rw [if_pos rfl]
  exact h _
theorem B_181 (hc : CO g) (h : ∀ g', Q (-1) g' rF) : Ce sc 61 181 [(2, 165), (0, l1), (0, l2), (0, l3)] g rF Q := by
  refine c_181 ⟨okd (by decide +kernel), e_179 hc ?_⟩
  rw [if_pos rfl]
  exact h _
theorem B_191 (hc : CO g) (h : ∀ g', Q (-1) g' rF) : Ce sc 61 191 [(2, 165), (0, l1), (0, l2), (0, l3), (0, l4)] g rF Q := by
  refine c_191 ⟨okd (by decide +kernel), e_179 hc ?_⟩
  rw [if_pos rfl]
  exact h _
theorem B_232 (hc : CO g) (h : ∀ g', Q (-1) g' rF) : Ce sc 61 232 [(2, 165), (0, l1), (0, l2), (0, l3), (0, l4)] g rF Q := by
  refine c_232 ⟨okd (by decide +kernel), e_179 hc ?_⟩
  rw [if_pos rfl]
  exact h _
theorem B_234 (hc : CO g) (h : ∀ g', Q (-1) g' rF) : Ce sc 61 234 [(2, 165), (0, l1), (0, l2), (0, l3), (0, l4)] g rF Q := by
  refine c_234 ⟨okd (by decide +kernel), e_179 hc ?_⟩
  rw [if_pos rfl]
  exact h _
theorem B_237 (hc : CO g) (h : ∀ g', Q (-1) g' rF) : Ce sc 61 237 [(2, 165), (0, l1), (0, l2), (0, l3), (0, l4)] g rF Q := by
  refine c_237 ⟨okd (by decide +kernel), e_179 hc ?_⟩
  rw [if_pos rfl]
  exact h _
theorem B_183 (hc : CO g) (h : ∀ g', Q (-1) g' rF) : Ce sc 61 183 [(2, 165), (0, l1), (0, l2), (0, l3), (0, l4)] g rF Q := by
  refine c_183 ⟨okd (by decide +kernel), e_182 hc ?_⟩
  rw [if_pos rfl]
  exact h _
theorem B_184 (hc : CO g) (h : ∀ g', Q (-1) g' rF) : Ce sc 61 184 [(2, 165), (0, l1), (0, l2), (0, l3), (0, l4), (0, l5)] g rF Q := by
  refine c_184 ⟨okd (by decide +kernel), e_182 hc ?_⟩
  rw [if_pos rfl]
  exact h _
theorem B_186 (hc : CO g) (h : ∀ g', Q (-1) g' rF) : Ce sc 61 186 [(2, 165), (0, l1), (0, l2), (0, l3), (0, l4), (0, l5)] g rF Q := by
  refine c_186 ⟨okd (by decide +kernel), e_182 hc ?_⟩
  rw [if_pos rfl]
  exact h _
theorem B_217 (hc : CO g) (h : ∀ g', Q (-1) g' rF) : Ce sc 61 217 [(2, 165), (0, l1), (0, l2), (0, l3), (0, l4)] g rF Q := by
  refine c_217 ⟨okd (by decide +kernel), e_216 hc ?_⟩
  rw [if_pos rfl]
  exact h _
theorem B_220 (hc : CO g) (h : ∀ g', Q (-1) g' rF) : Ce sc 61 220 [(2, 165), (0, l1), (0, l2), (0, l3)] g rF Q := by
  refine c_220 ⟨okd (by decide +kernel), e_216 hc ?_⟩
  rw [if_pos rfl]
  exact h _
theorem B_221 (hc : CO g) (h : ∀ g', Q (-1) g' rF) : Ce sc 61 221 [(2, 165), (0, l1), (0, l2), (0, l3)] g rF Q := by
  refine c_221 ⟨okd (by decide +kernel), e_216 hc ?_⟩
  rw [if_pos rfl]
  exact h _
theorem B_235 (hc : CO g) (h : ∀ g', Q (-2000000000) g' rF) : Ce sc 61 235 [(2, 165), (0, l1), (0, l2), (0, l3), (0, l4)] g rF Q := by
  refine c_235 ⟨okd (by decide +kernel), e_140 hc ?_⟩
  rw [if_pos rfl]
  exact h _
theorem B_222 (hc : CO g) (h : ∀ g', Q 0 g' rF) : Ce sc 61 222 [(2, 165), (0, l1), (0, l2)] g rF Q := by
  refine c_222 ⟨okd (by decide +kernel), e_140 hc ?_⟩
  rw [if_pos rfl]
  exact ⟨okd (by decide +kernel), w_139 RI_F ⟨Or.inl rfl, h _⟩⟩
theorem B_223 (hc : CO g) (h : ∀ g', Q (-1) g' rF) : Ce sc 61 223 [(2, 165), (0, l1), (0, l2)] g rF Q := by
  refine c_223 ⟨okd (by decide +kernel), e_140 hc ?_⟩
  rw [if_pos rfl]
  exact ⟨okd (by decide +kernel), w_138 RI_F (by decide) (by decide) (h _)⟩
theorem B_207 (hc : CO g) (h : ∀ g', Q (-1) g' rF) : Ce sc 61 207 [(2, 165), (0, l1)] g rF Q := by
  refine c_207 (w_137 (fun _ _ => ?_) (fun _ => ?_))
  · rw [if_neg (by decide)]
    refine ⟨okd (by decide +kernel), e_206 hc ?_⟩
    rw [if_pos rfl]
    exact ⟨okd (by decide +kernel), w_138 RI_F (by decide) (by decide) (h _)⟩
  · rw [if_pos rfl]
    exact ⟨okd (by decide +kernel), w_138 RI_F (by decide) (by decide) (h _)⟩
theorem B_160 (hc : CO g) (h : ∀ g', Q (-1) g' rF) : Ce sc 61 160 [(2, 165)] g rF Q := by
  refine c_160 ?_
  rw [hc 165 25 (by decide), show gF 165 25 = -1 by decide +kernel]
  exact ⟨okd (by decide +kernel), h _⟩
theorem B_163 (hc : CO g) (h : ∀ g', Q (sineV l1 l2) g' rF) : Ce sc 61 163 [(2, 165), (0, l1), (0, l2)] g rF Q := by
  exact m_163 (h _)
theorem B_231 (hc : CO g) (h : ∀ g', Q (teethV l1 l2 l3) g' rF) : Ce sc 61 231 [(2, 165), (0, l1), (0, l2), (0, l3)] g rF Q := by
  exact m_231 (h _)
theorem B_193 (hb : l3 = 0 ∨ l3 = 1) (hc : CO g) (h : ∀ g', Q (dayV l1 l2) g' rF) : Ce sc 61 193 [(2, 165), (0, l1), (0, l2), (0, l3)] g rF Q := by
  have h := h
  unfold dayV at h
  refine c_193 (w_137 (fun a1 a2 => ?_) (fun a => ?_))
  · rw [if_neg (by decide)]
    refine w_178 (fun b1 b2 => ?_) (fun b => ?_)
    · rw [if_neg (by decide), r_165_37 RI_F, r_165_43 RI_F]
      rw [if_pos ⟨a1, a2, b1, b2⟩] at h
      exact ⟨okd (by decide +kernel), i_192.mpr ⟨a1, by omega⟩, fun g3 e3 => ⟨okd (by decide +kernel), Or.inr ⟨i_198.mpr ⟨a1, by omega⟩, hb⟩, fun g4 e4 => ⟨Or.inr rfl, h _⟩⟩⟩
    · rw [if_pos rfl]
      rw [if_neg (by omega)] at h
      exact ⟨okd (by decide +kernel), w_139 RI_F ⟨Or.inl rfl, h _⟩⟩
  · rw [if_pos rfl]
    rw [if_neg (by omega)] at h
    exact ⟨okd (by decide +kernel), w_139 RI_F ⟨Or.inl rfl, h _⟩⟩
theorem B_194 (hc : CO g) (h : ∀ g', Q (flowV l1) g' rF) : Ce sc 61 194 [(2, 165), (0, l1)] g rF Q := by
  have h := h g
  unfold flowV at h
  refine c_194 (w_137 (fun a1 a2 => ?_) (fun a => ?_))
  · rw [if_neg (by decide), r_165_37 RI_F, zc (i := 192) hc (by decide) (by decide +kernel)]
    rw [if_pos ⟨a1, a2⟩] at h
    exact ⟨okd (by decide +kernel), i_192.mpr ⟨a1, by omega⟩, h⟩
  · rw [if_pos rfl]
    rw [if_neg (by omega)] at h
    exact h
theorem B_195 (hc : CO g) (h : ∀ g', Q (flowV l1) g' rF) : Ce sc 61 195 [(2, 165), (0, l1)] g rF Q := by
  have h := h
  unfold flowV at h
  refine c_195 (w_137 (fun a1 a2 => ?_) (fun a => ?_))
  · rw [if_neg (by decide), r_165_37 RI_F]
    rw [if_pos ⟨a1, a2⟩] at h
    have key : ∀ t g2, g2 192 l1 = 0 → WQ sc 60 195 Q 74 [(2, 165), (0, l1), (9, 0), (9, 0)] [(0, t), (0, g2 192 l1)] g2 rF := by
      intro t g2 hz
      rw [hz]
      refine b_195_74 ?_
      rw [Int.zero_mul, show wr 0 = 0 by decide, if_neg (by decide), r_165_37 RI_F]
      refine ⟨okd (by decide +kernel), i_192.mpr ⟨a1, by omega⟩, fun g1 e1 => ⟨okd (by decide +kernel), i_192.mpr ⟨a1, by omega⟩, ?_⟩⟩
      rw [e1, up_s]
      exact h _
    refine ⟨okd (by decide +kernel), okd (by decide +kernel), fun g2 e2 => ⟨okd (by decide +kernel), by decide, okd (by decide +kernel), i_192.mpr ⟨a1, by omega⟩, ?_⟩⟩
    have hz : g2 192 l1 = 0 := by rw [e2, up_i (by decide)]; exact zc hc (by decide) (by decide +kernel)
    split
    · exact key _ _ hz
    · split
      · exact key _ _ hz
      · exact key _ _ hz
  · rw [if_pos rfl]
    rw [if_neg (by omega)] at h
    exact ⟨okd (by decide +kernel), w_138 RI_F (by decide) (by decide) (h _)⟩
theorem B_196 (hc : CO g) (h : ∀ g', Q (seedV l1) g' rF) : Ce sc 61 196 [(2, 165), (0, l1)] g rF Q := by
  have h := h
  unfold seedV at h
  refine c_196 (w_137 (fun a1 a2 => ?_) (fun a => ?_))
  · rw [if_neg (by decide)]
    rw [if_pos ⟨a1, a2⟩] at h
    exact ⟨okd (by decide +kernel), fun g2 e2 => ⟨Or.inr rfl, h _⟩⟩
  · rw [if_pos rfl]
    rw [if_neg (by omega)] at h
    exact ⟨okd (by decide +kernel), w_139 RI_F ⟨Or.inl rfl, h _⟩⟩
theorem B_209 (hc : CO g) (h : ∀ g', Q (waterV l1) g' rF) : Ce sc 61 209 [(2, 165), (0, l1)] g rF Q := by
  have h := h g
  unfold waterV at h
  have key : ∀ (n : Nat) (l6 : Int), 0 ≤ l6 → l6 + n = 6 → WQ sc 60 209 Q 8 [(2, 165), (0, l1), (1, 0), (8, 0), (1, 0), (8, 0), (0, l6)] [] g rF := by
    intro n
    induction n with
    | zero =>
      intro l6 _ e
      refine b_209_8 ?_
      rw [if_neg (by omega), r_165_45 RI_F, r_165_46 RI_F, r_165_42 RI_F, zc (i := 200) hc (by decide) (by decide +kernel), zc (i := 201) hc (by decide) (by decide +kernel), zc (i := 197) hc (by decide) (by decide +kernel)]
      refine ⟨by decide, ?_⟩
      split
      · rw [if_pos (by omega)] at h; exact ⟨okd (by decide +kernel), i_200.mpr ⟨by decide, by decide⟩, h⟩
      · split
        · rw [if_pos (by omega)] at h; exact h
        · split
          · rw [if_pos (by omega)] at h; exact h
          · split
            · rw [if_pos (by omega)] at h; exact ⟨okd (by decide +kernel), i_201.mpr ⟨by decide, by decide⟩, h⟩
            · split
              · rw [if_pos (by omega)] at h; exact ⟨okd (by decide +kernel), i_197.mpr ⟨by decide, by decide⟩, h⟩
              · rw [if_neg (by omega)] at h; exact h
    | succ n ih =>
      intro l6 h0 e
      refine b_209_8 ?_
      rw [if_pos (by omega), r_165_38 RI_F, r_165_39 RI_F, zc (i := 193) hc (by decide) (by decide +kernel), zc (i := 194) hc (by decide) (by decide +kernel), show wL (0 + 0) = 0 by decide, wr_id (x := l6 + 1) ⟨by omega, by omega⟩]
      exact ⟨okd (by decide +kernel), i_193.mpr ⟨h0, by omega⟩, okd (by decide +kernel), i_194.mpr ⟨h0, by omega⟩, ih (l6 + 1) (by omega) (by omega)⟩
  exact c_209 (key 6 0 (by omega) (by omega))
theorem B_227 (hl2 : rI l2) (hl3 : rI l3) (hc : CO g) (h : ∀ g', Q (ruinV l1 l2 l3) g' rF) : Ce sc 61 227 [(2, 165), (0, l1), (0, l2), (0, l3)] g rF Q := by
  have h := h g
  unfold ruinV at h
  have key : ∀ (n : Nat) (l6 : Int), 0 ≤ l6 → l6 + n = 6 → Q 0 g rF → WQ sc 60 227 Q 113 [(2, 165), (0, l1), (0, l2), (0, l3), (9, 0), (0, 0), (0, l6)] [] g rF := by
    intro n
    induction n with
    | zero => intro l6 _ e hq; refine b_227_113 ?_; rw [if_neg (by omega)]; exact hq
    | succ n ih =>
      intro l6 h0 e hq
      refine b_227_113 ?_
      rw [if_pos (by omega), r_165_1 RI_F]
      refine ⟨okd (by decide +kernel), Or.inr (i_167.mpr ⟨h0, by omega⟩), ?_⟩
      rw [if_pos (zc hc (by decide) (by decide +kernel)), wr_id (x := l6 + 1) ⟨by omega, by omega⟩]
      exact ih (l6 + 1) (by omega) (by omega) hq
  refine c_227 (w_137 (fun a1 a2 => ?_) (fun a => ?_))
  · rw [if_neg (by decide), (td100 hl2).1, (td1000 hl3).1]
    have n2 := (td100 hl2).2
    have n3 := (td1000 hl3).2
    split
    · have := n2 (by assumption)
      rw [if_neg (by omega)] at h; exact h
    · split
      · have := n3 (by assumption)
        rw [if_neg (by omega)] at h; exact h
      · refine ⟨by decide, w_137 (fun b1 b2 => ?_) (fun b => ?_)⟩
        · rw [if_neg (by decide)]
          refine ⟨by decide, by decide, w_137 (fun x1 x2 => ?_) (fun x => ?_)⟩
          · rw [if_neg (by decide)]
            refine ⟨by decide, w_137 (fun y1 y2 => ?_) (fun y => ?_)⟩
            · rw [if_neg (by decide)]
              refine ⟨by decide, by decide, w_137 (fun u1 u2 => ?_) (fun u => ?_)⟩
              · rw [if_neg (by decide)]
                rw [if_pos (by omega)] at h
                exact key 6 0 (by omega) (by omega) h
              · rw [if_pos rfl]
                rw [if_neg (by omega)] at h; exact h
            · rw [if_pos rfl]
              rw [if_neg (by omega)] at h; exact h
          · rw [if_pos rfl]
            rw [if_neg (by omega)] at h; exact h
        · rw [if_pos rfl]
          rw [if_neg (by omega)] at h; exact h
  · rw [if_pos rfl]
    rw [if_neg (by omega)] at h; exact h
theorem B_228 (hc : CO g) (h : ∀ g', Q (loadV l1) g' rF) : Ce sc 61 228 [(2, 165), (0, l1)] g rF Q := by
  have h := h
  unfold loadV at h
  refine c_228 (w_137 (fun a1 a2 => ?_) (fun a => ?_))
  · rw [if_neg (by decide), r_165_65 RI_F, hc 165 64 (by decide), show gF 165 64 = 0 by decide +kernel, if_neg (by decide)]
    rw [if_pos ⟨a1, a2⟩] at h
    refine ⟨okd (by decide +kernel), okd (by decide +kernel), okd (by decide +kernel), i_211.mpr ⟨by decide, by decide⟩, fun g2 e2 => ⟨okd (by decide +kernel), okd (by decide +kernel), fun g3 e3 => ⟨okd (by decide +kernel), ?_⟩⟩⟩
    have z : g2 165 64 = 0 := by rw [e2, up_i (by decide), hc 165 64 (by decide)]; decide +kernel
    rw [e3, up_s, z, show wr (0 + 1) = 1 by decide]
    exact h _
  · rw [if_pos rfl]
    rw [if_neg (by omega)] at h
    exact ⟨okd (by decide +kernel), w_138 RI_F (by decide) (by decide) (h _)⟩
theorem B_236 (hc : CO g) (h : ∀ g', Q (fallV l1 l2) g' rF) : Ce sc 61 236 [(2, 165), (0, l1), (0, l2)] g rF Q := by
  have h := h
  unfold fallV at h
  refine c_236 (w_137 (fun a1 a2 => ?_) (fun a => ?_))
  · rw [if_neg (by decide)]
    refine w_137 (fun b1 b2 => ?_) (fun b => ?_)
    · rw [if_neg (by decide), r_165_67 RI_F, r_165_68 RI_F, hc 165 66 (by decide), show gF 165 66 = 0 by decide +kernel, if_neg (by decide)]
      rw [if_pos ⟨a1, a2, b1, b2⟩] at h
      refine ⟨okd (by decide +kernel), okd (by decide +kernel), okd (by decide +kernel), i_212.mpr ⟨by decide, by decide⟩, fun g3 e3 => ?_⟩
      have z3 : g3 165 66 = 0 := by rw [e3, up_i (by decide), hc 165 66 (by decide)]; decide +kernel
      rw [z3]
      refine ⟨okd (by decide +kernel), okd (by decide +kernel), i_213.mpr ⟨by decide, by decide⟩, fun g4 e4 => ⟨okd (by decide +kernel), okd (by decide +kernel), fun g5 e5 => ⟨okd (by decide +kernel), ?_⟩⟩⟩
      have z4 : g4 165 66 = 0 := by rw [e4, up_i (by decide)]; exact z3
      rw [e5, up_s, z4, show wr (0 + 1) = 1 by decide]
      exact h _
    · rw [if_pos rfl]
      rw [if_neg (by omega)] at h
      exact ⟨okd (by decide +kernel), w_138 RI_F (by decide) (by decide) (h _)⟩
  · rw [if_pos rfl]
    rw [if_neg (by omega)] at h
    exact ⟨okd (by decide +kernel), w_138 RI_F (by decide) (by decide) (h _)⟩
theorem B_240 (hc : CO g) (h : ∀ g', Q (orderV l1 l2) g' rF) : Ce sc 61 240 [(2, 165), (0, l1), (0, l2)] g rF Q := by
  have h := h
  unfold orderV at h
  refine c_240 (w_137 (fun a1 a2 => ?_) (fun a => ?_))
  · rw [if_neg (by decide)]
    refine w_137 (fun b1 b2 => ?_) (fun b => ?_)
    · rw [if_neg (by decide), r_165_71 RI_F, r_165_72 RI_F, hc 165 70 (by decide), show gF 165 70 = 0 by decide +kernel, if_neg (by decide)]
      rw [if_pos ⟨a1, a2, b1, b2⟩] at h
      refine ⟨okd (by decide +kernel), okd (by decide +kernel), okd (by decide +kernel), i_215.mpr ⟨by decide, by decide⟩, fun g3 e3 => ?_⟩
      have z3 : g3 165 70 = 0 := by rw [e3, up_i (by decide), hc 165 70 (by decide)]; decide +kernel
      rw [z3]
      refine ⟨okd (by decide +kernel), okd (by decide +kernel), i_216.mpr ⟨by decide, by decide⟩, fun g4 e4 => ⟨okd (by decide +kernel), okd (by decide +kernel), fun g5 e5 => ⟨okd (by decide +kernel), ?_⟩⟩⟩
      have z4 : g4 165 70 = 0 := by rw [e4, up_i (by decide)]; exact z3
      rw [e5, up_s, z4, show wr (0 + 1) = 1 by decide]
      exact h _
    · rw [if_pos rfl]
      rw [if_neg (by omega)] at h
      exact ⟨okd (by decide +kernel), w_138 RI_F (by decide) (by decide) (h _)⟩
  · rw [if_pos rfl]
    rw [if_neg (by omega)] at h
    exact ⟨okd (by decide +kernel), w_138 RI_F (by decide) (by decide) (h _)⟩
theorem B_229 (hc : CO g) (h : ∀ g', Q (-1) g' rF) : Ce sc 61 229 [(2, 165)] g rF Q := by
  refine c_229 ⟨okd (by decide +kernel), ?_⟩
  rw [hc 165 64 (by decide), show gF 165 64 = 0 by decide +kernel, if_pos rfl]
  exact h _
theorem B_245 (hc : CO g) (h : ∀ g', Q 0 g' rF) : Ce sc 61 245 [(2, 165), (0, l1)] g rF Q := by
  refine c_245 ⟨okd (by decide +kernel), ?_⟩
  rw [hc 165 48 (by decide), show gF 165 48 = 0 by decide +kernel, show wr (0 - 1) = -1 by decide]
  refine w_137 (fun a b => by omega) (fun _ => ?_)
  rw [if_pos rfl]
  exact ⟨okd (by decide +kernel), w_139 RI_F ⟨Or.inl rfl, h _⟩⟩
theorem B_246 (hc : CO g) (h : ∀ g', Q (countV l1) g' rF) : Ce sc 61 246 [(2, 165), (0, l1)] g rF Q := by
  have h := h g
  unfold countV at h
  refine c_246 ⟨by decide, ?_⟩
  rw [r_165_0 RI_F, hc 165 24 (by decide), show gF 165 24 = 0 by decide +kernel, hc 165 48 (by decide), show gF 165 48 = 0 by decide +kernel, zc (i := 166) hc (by decide) (by decide +kernel), hc 165 64 (by decide), show gF 165 64 = 0 by decide +kernel, hc 165 61 (by decide), show gF 165 61 = 0 by decide +kernel, hc 165 66 (by decide), show gF 165 66 = 0 by decide +kernel, hc 165 70 (by decide), show gF 165 70 = 0 by decide +kernel]
  split
  · rw [if_pos (by omega)] at h; exact ⟨okd (by decide +kernel), e_206 hc h⟩
  · split
    · rw [if_pos (by omega)] at h; exact ⟨okd (by decide +kernel), h⟩
    · split
      · rw [if_pos (by omega)] at h; exact ⟨okd (by decide +kernel), h⟩
      · split
        · rw [if_pos (by omega)] at h; exact ⟨okd (by decide +kernel), i_166.mpr (by rename_i e; rw [e]; decide), h⟩
        · split
          · rw [if_pos (by omega)] at h; exact ⟨okd (by decide +kernel), i_166.mpr (by rename_i e; rw [e]; decide), h⟩
          · split
            · rw [if_pos (by omega)] at h; exact ⟨okd (by decide +kernel), i_166.mpr (by rename_i e; rw [e]; decide), h⟩
            · split
              · rw [if_pos (by omega)] at h; exact ⟨okd (by decide +kernel), h⟩
              · split
                · rw [if_pos (by omega)] at h; exact ⟨okd (by decide +kernel), h⟩
                · split
                  · rw [if_pos (by omega)] at h; exact ⟨okd (by decide +kernel), h⟩
                  · split
                    · rw [if_pos (by omega)] at h; exact ⟨okd (by decide +kernel), h⟩
                    · rw [if_neg (by omega)] at h; exact h
/-! the model's tape -/
theorem ib_ib (x : Int) : i_b (i_b x) = i_b x := by
  unfold i_b
  rw [Int32.ofInt_toInt, Int8.toInt8_toInt32]
theorem e_142 (hr : RI r) (l1 l2 l3 l4 l5 : Int) : ∀ (n : Nat) (l6 : Int) (g : GH), 0 ≤ l6 → l6 + n = 20 → 0 ≤ g 165 24 → g 165 24 + n ≤ 700 → (∀ g', g' 165 24 = g 165 24 + n → Q (g 165 24 + n) g' r) → WQ sc d 142 Q 18 [(2, 165), (0, l1), (0, l2), (0, l3), (0, l4), (0, l5), (0, l6), (9, 0)] [] g r
  | 0, l6, g, h0, h1, h2, h3, h => by
    refine b_142_18 ?_
    rw [if_neg (by omega)]
    refine ⟨okd (by decide +kernel), ?_⟩
    have := h g (by omega)
    rw [show g 165 24 + ((0 : Nat) : Int) = g 165 24 by omega] at this
    exact this
  | n + 1, l6, g, h0, h1, h2, h3, h => by
    refine b_142_18 ?_
    rw [if_pos (by omega)]
    have key : ∀ t0 : Int, WQ sc d 142 Q 71 [(2, 165), (0, l1), (0, l2), (0, l3), (0, l4), (0, l5), (0, l6), (9, 0)] [(0, t0)] g r := by
      intro t0
      refine b_142_71 ?_
      rw [r_165_23 hr]
      refine ⟨okd (by decide +kernel), okd (by decide +kernel), by decide, Or.inl ⟨i_189.mpr ⟨h2, by omega⟩, ib_ib _⟩, fun g1 e1 => ⟨okd (by decide +kernel), okd (by decide +kernel), fun g2 e2 => ?_⟩⟩
      have z1 : g1 165 24 = g 165 24 := by rw [e1, up_i (by decide)]
      have z2 : g2 165 24 = g 165 24 + 1 := by rw [e2, up_s, z1, wr_id ⟨by omega, by omega⟩]
      rw [wr_id (x := l6 + 1) ⟨by omega, by omega⟩]
      refine e_142 hr l1 l2 l3 l4 l5 n (l6 + 1) g2 (by omega) (by omega) (by omega) (by omega) fun g' hg => ?_
      have := h g' (by omega)
      rw [show g 165 24 + ((n + 1 : Nat) : Int) = g2 165 24 + (n : Int) by omega] at this
      exact this
    split
    · exact key _
    · split
      · exact key _
      · split
        · exact key _
        · split
          · exact key _
          · exact key _
theorem B_142 (hc : CO g) (h : ∀ g', Q 20 g' rF) : Ce sc 61 142 [(2, 165), (0, l1), (0, l2), (0, l3), (0, l4), (0, l5)] g rF Q := by
  refine c_142 ⟨okd (by decide +kernel), ?_⟩
  have z : g 165 24 = 0 := by rw [hc 165 24 (by decide)]; decide +kernel
  rw [if_neg (by rw [z]; decide)]
  refine e_142 RI_F l1 l2 l3 l4 l5 20 0 g (by omega) (by omega) (by omega) (by omega) fun g' _ => ?_
  rw [z]
  exact h g'
/-! an empty text, by the model -/
theorem e_143 (h27 : g 165 27 = 0) (h26 : g 165 26 = 0) (h : Q (-1) g r) : Ce sc (d + 1) 143 [(2, 165)] g r Q := by
  refine c_143 ⟨okd (by decide +kernel), okd (by decide +kernel), ?_⟩
  rw [h27, h26, if_neg (by decide)]
  exact h
theorem e_144 (h27 : g 165 27 = 0) (h26 : g 165 26 = 0) (h : ∀ g', (∀ i j, i ≠ 165 → g' i j = g i j) → g' 165 29 = 0 → g' 165 28 = 0 → g' 165 33 = g 165 33 → Q 0 g' r) : Ce sc (d + 2) 144 [(2, 165)] g r Q := by
  refine c_144 ⟨okd (by decide +kernel), e_143 h27 h26 ?_⟩
  rw [if_neg (by decide)]
  refine ⟨okd (by decide +kernel), e_143 h27 h26 ?_⟩
  rw [if_neg (by decide)]
  refine ⟨okd (by decide +kernel), okd (by decide +kernel), fun g3 e3 => ⟨okd (by decide +kernel), e_143 (by rw [e3, up_j (by decide)]; exact h27) (by rw [e3, up_j (by decide)]; exact h26) ⟨okd (by decide +kernel), fun g5 e5 => ⟨okd (by decide +kernel), fun g6 e6 => ?_⟩⟩⟩⟩
  rw [if_pos (by decide)]
  refine ⟨okd (by decide +kernel), fun g7 e7 => h g7 (fun i j hi => ?_) ?_ ?_ ?_⟩
  · rw [e7, up_i hi, e6, up_i hi, e5, up_i hi, e3, up_i hi]
  · rw [e7, up_s]
  · rw [e7, up_j (by decide), e6, up_j (by decide), e5, up_j (by decide), e3, up_s, h27]
  · rw [e7, up_j (by decide), e6, up_j (by decide), e5, up_j (by decide), e3, up_j (by decide)]
theorem e_146 (h29 : g 165 29 = 0) {t : Int} (h : Q 0 g r) : Ce sc (d + 1) 146 [(2, 165), (1, t)] g r Q := by
  refine c_146 ⟨okd (by decide +kernel), ?_⟩
  rw [h29]
  split
  · refine ⟨okd (by decide +kernel), ?_⟩
    rw [if_neg (by decide)]
    exact ⟨Or.inl rfl, h⟩
  · exact ⟨Or.inl rfl, h⟩
theorem e_147 (h29 : g 165 29 = 0) {t : Int} (h : Q 0 g r) : Ce sc (d + 2) 147 [(2, 165), (1, t)] g r Q := by
  refine c_147 ⟨okd (by decide +kernel), e_146 h29 ?_⟩
  rw [if_pos rfl]
  exact ⟨Or.inl rfl, h⟩
theorem e_145 (h : ∀ g', (∀ i j, i ≠ 165 → g' i j = g i j) → g' 165 29 = g 165 29 → g' 165 33 ≠ 0 → Q 0 g' r) : Ce sc (d + 1) 145 [(2, 165)] g r Q := by
  refine c_145 ⟨okd (by decide +kernel), ?_⟩
  split
  · refine ⟨okd (by decide +kernel), Or.inr rfl, fun g1 e1 => ⟨okd (by decide +kernel), okd (by decide +kernel), fun g2 e2 => h g2 (fun i j hi => ?_) ?_ ?_⟩⟩
    · rw [e2, up_i hi, e1, up_i hi]
    · rw [e2, up_j (by decide), e1, up_j (by decide)]
    · rw [e2, up_j (by decide), e1, up_s]; decide
  · exact h g (fun _ _ _ => rfl) rfl (by assumption)
theorem e_148 (h29 : g 165 29 = 0) {t : Int} (h : ∀ g', (∀ i j, i ≠ 165 → g' i j = g i j) → g' 165 29 = 0 → g' 165 33 ≠ 0 → Q 0 g' r) : Ce sc (d + 3) 148 [(2, 165), (1, t)] g r Q := by
  refine c_148 ⟨okd (by decide +kernel), e_147 h29 ?_⟩
  rw [if_pos rfl]
  exact ⟨okd (by decide +kernel), e_145 fun g' a b c => h g' a (by rw [b, h29]) c⟩
theorem e_149 (h33 : g 165 33 ≠ 0) {a b : Int} (h : Q 0 g r) : Ce sc (d + 1) 149 [(2, 165), (0, a), (0, b)] g r Q := by
  refine c_149 ⟨okd (by decide +kernel), okd (by decide +kernel), ?_⟩
  rw [if_neg h33]
  exact h
/-- in error, at the end: what stays so -/
def ER (g : GH) : Prop := g 165 29 = 0 ∧ g 165 33 ≠ 0
theorem er_up {g : GH} {i j v : Int} (hi : i ≠ 165) (h : ER g) : ER (up g i j v) := by
  unfold ER
  rw [up_i (fun q => hi q.symm), up_i (fun q => hi q.symm)]; exact h
theorem e_148e (he : ER g) {t : Int} (h : ∀ g', ER g' → Q 0 g' r) : Ce sc (d + 3) 148 [(2, 165), (1, t)] g r Q := e_148 he.1 fun g' _ b c => h g' ⟨b, c⟩
theorem e_155 (hr : RI r) (h29 : g 165 29 = 0) (h : ∀ g', ER g' → Q 0 g' r) : Ce sc (d + 4) 155 [(2, 165)] g r Q := by
  refine c_155 ⟨okd (by decide +kernel), e_148 h29 fun g1 _ a1 b1 => ⟨okd (by decide +kernel), okd (by decide +kernel), e_147 a1 ?_⟩⟩
  rw [r_165_2 hr]
  refine ⟨Or.inr ⟨i_168.mpr ⟨by decide, by decide⟩, Or.inl rfl⟩, fun g3 e3 => ?_⟩
  have er3 : ER g3 := by rw [e3]; exact er_up (by decide) ⟨a1, b1⟩
  refine ⟨okd (by decide +kernel), Or.inr (i_168.mpr ⟨by decide, by decide⟩), ?_⟩
  rw [if_pos (by rw [e3, up_s])]
  refine ⟨okd (by decide +kernel), e_148e er3 fun g4 er4 => b_155_39 ?_⟩
  rw [r_165_3 hr]
  refine ⟨okd (by decide +kernel), okd (by decide +kernel), e_149 er4.2 ⟨i_169.mpr ⟨by decide, by decide⟩, fun g5 e5 => ⟨okd (by decide +kernel), e_148e (by rw [e5]; exact er_up (by decide) er4) fun g6 er6 => ?_⟩⟩⟩
  rw [r_165_4 hr]
  refine ⟨okd (by decide +kernel), okd (by decide +kernel), e_149 er6.2 ⟨i_170.mpr ⟨by decide, by decide⟩, fun g7 e7 => ⟨okd (by decide +kernel), e_148e (by rw [e7]; exact er_up (by decide) er6) fun g8 er8 => ?_⟩⟩⟩
  rw [r_165_5 hr]
  refine ⟨okd (by decide +kernel), okd (by decide +kernel), e_149 er8.2 ⟨i_171.mpr ⟨by decide, by decide⟩, fun g9 e9 => ⟨okd (by decide +kernel), e_148e (by rw [e9]; exact er_up (by decide) er8) fun g10 er10 => ?_⟩⟩⟩
  rw [r_165_6 hr]
  refine ⟨okd (by decide +kernel), okd (by decide +kernel), e_149 er10.2 ⟨i_172.mpr ⟨by decide, by decide⟩, fun g11 e11 => ?_⟩⟩
  have er11 : ER g11 := by rw [e11]; exact er_up (by decide) er10
  rw [r_165_7 hr]
  refine ⟨okd (by decide +kernel), okd (by decide +kernel), e_147 er11.1 ?_⟩
  rw [if_pos rfl]
  refine b_155_138 ⟨i_173.mpr ⟨by decide, by decide⟩, fun g12 e12 => ?_⟩
  have er12 : ER g12 := by rw [e12]; exact er_up (by decide) er11
  refine ⟨okd (by decide +kernel), okd (by decide +kernel), e_147 er12.1 ?_⟩
  rw [if_pos rfl, r_165_8 hr]
  exact ⟨i_174.mpr ⟨by decide, by decide⟩, fun g13 e13 => h g13 (by rw [e13]; exact er_up (by decide) er12)⟩
theorem e_158 (he : ER g) (h : ∀ g', ER g' → Q 0 g' r) : Ce sc (d + 1) 158 [(2, 165)] g r Q := by
  refine c_158 ⟨okd (by decide +kernel), ?_⟩
  rw [if_neg he.2]
  refine ⟨okd (by decide +kernel), ?_⟩
  rw [if_neg he.2]
  exact h g he
theorem B_159 (hc : CO g) (h : ∀ g', Q (millV l1 l2) g' rF) : Ce sc 61 159 [(2, 165), (0, l1), (0, l2)] g rF Q := by
  unfold millV at h
  have z24 : g 165 24 = 0 := by rw [hc 165 24 (by decide)]; decide +kernel
  refine c_159 ?_
  rw [r_165_0 RI_F, z24]
  split
  · rw [if_neg (by omega)] at h
    exact ⟨okd (by decide +kernel), i_166.mpr ⟨by decide, by decide⟩, i_166.mpr ⟨by decide, by decide⟩, fun g1 _ => h _⟩
  · refine ⟨okd (by decide +kernel), ?_⟩
    split
    · rw [if_neg (by omega)] at h
      exact ⟨okd (by decide +kernel), i_166.mpr ⟨by decide, by decide⟩, i_166.mpr ⟨by decide, by decide⟩, fun g1 _ => h _⟩
    · refine w_137 (fun a1 a2 => ?_) (fun a => ?_)
      · rw [if_neg (by decide), r_165_13 RI_F, r_165_14 RI_F, r_165_9 RI_F, r_165_10 RI_F, r_165_11 RI_F, r_165_12 RI_F]
        rw [if_pos (by omega)] at h
        have e0 : l2 = 0 := by omega
        subst e0
        refine ⟨okd (by decide +kernel), fun g2 e2 => ⟨okd (by decide +kernel), fun g3 e3 => ⟨okd (by decide +kernel), fun g4 e4 => ⟨okd (by decide +kernel), fun g5 e5 => ⟨okd (by decide +kernel), Or.inl rfl, fun g6 e6 => ⟨okd (by decide +kernel), fun g7 e7 => ⟨okd (by decide +kernel), i_179.mpr ⟨by decide, by decide⟩, fun g8 e8 => ⟨okd (by decide +kernel), i_180.mpr ⟨by decide, by decide⟩, fun g9 e9 => ⟨okd (by decide +kernel), i_175.mpr ⟨by decide, by decide⟩, fun g10 e10 => ⟨okd (by decide +kernel), i_176.mpr ⟨by decide, by decide⟩, fun g11 e11 => ⟨okd (by decide +kernel), i_177.mpr ⟨by decide, by decide⟩, fun g12 e12 => ⟨okd (by decide +kernel), i_178.mpr ⟨by decide, by decide⟩, fun g13 e13 => ⟨okd (by decide +kernel), e_144 ?_ ?_ fun g14 _ y1 y2 y3 => ⟨okd (by decide +kernel), e_155 RI_F y1 fun g15 er => ⟨okd (by decide +kernel), e_158 er fun g16 er => b_159_132 ⟨okd (by decide +kernel), ?_⟩⟩⟩⟩⟩⟩⟩⟩⟩⟩⟩⟩⟩⟩⟩⟩
        · rw [e13, up_i (by decide), e12, up_i (by decide), e11, up_i (by decide), e10, up_i (by decide), e9, up_i (by decide), e8, up_i (by decide), e7, up_j (by decide), e6, up_j (by decide), e5, up_j (by decide), e4, up_s]
        · rw [e13, up_i (by decide), e12, up_i (by decide), e11, up_i (by decide), e10, up_i (by decide), e9, up_i (by decide), e8, up_i (by decide), e7, up_j (by decide), e6, up_j (by decide), e5, up_j (by decide), e4, up_j (by decide), e3, up_j (by decide), e2, up_s]
        · rw [if_pos er.1]
          refine b_159_157 ⟨okd (by decide +kernel), ?_⟩
          rw [if_neg er.2]
          exact ⟨okd (by decide +kernel), w_138 RI_F (by decide) (by decide) (h _)⟩
      · rw [if_pos rfl, r_165_0 RI_F]
        rw [if_neg (by omega)] at h
        exact ⟨okd (by decide +kernel), i_166.mpr ⟨by decide, by decide⟩, i_166.mpr ⟨by decide, by decide⟩, fun g1 _ => h _⟩
/-! the model's image of a fresh object: zeros in place of zeros -/
def ZM (g : GH) : Prop := ∀ i j, 166 ≤ i → i ≠ 181 → g i j = 0
theorem zm_of (hc : CO g) : ZM g := fun i j h1 h2 => by
  rw [hc i j (by omega)]
  refine z_F fun e he q => ?_
  have hall : (oG.all fun e => decide (e.1 ≤ 165 ∨ e.1 = 181)) = true := by decide +kernel
  have := of_decide_eq_true (List.all_eq_true.mp hall e he)
  omega
theorem e_192 (hr : RI r) (hz : ZM g) (h : Q 0 g r) : Ce sc (d + 1) 192 [(2, 165), (0, 0), (0, 1)] g r Q := by
  have k2 : ∀ (n : Nat) (l3 : Int), 0 ≤ l3 → l3 + n = 6 → WQ sc d 192 Q 60 [(2, 165), (0, 0), (0, 1), (0, l3)] [] g r := by
    intro n
    induction n with
    | zero =>
      intro l3 _ e
      refine b_192_60 ?_
      rw [if_neg (by omega), r_165_45 hr, r_165_46 hr, r_165_42 hr]
      refine ⟨okd (by decide +kernel), okd (by decide +kernel), i_200.mpr ⟨by decide, by decide⟩, i_200.mpr ⟨by decide, by decide⟩, fun g1 e1 => ?_⟩
      rw [hz 200 0 (by decide) (by decide), up_id (hz 200 1 (by decide) (by decide))] at e1
      subst e1
      refine ⟨okd (by decide +kernel), okd (by decide +kernel), i_201.mpr ⟨by decide, by decide⟩, i_201.mpr ⟨by decide, by decide⟩, fun g2 e2 => ?_⟩
      rw [hz 201 0 (by decide) (by decide), up_id (hz 201 1 (by decide) (by decide))] at e2
      subst e2
      refine ⟨okd (by decide +kernel), okd (by decide +kernel), i_197.mpr ⟨by decide, by decide⟩, i_197.mpr ⟨by decide, by decide⟩, fun g3 e3 => ?_⟩
      rw [hz 197 0 (by decide) (by decide), up_id (hz 197 1 (by decide) (by decide))] at e3
      subst e3
      exact h
    | succ n ih =>
      intro l3 h0 e
      refine b_192_60 ?_
      rw [if_pos (by omega), show wr (6 * 0) = 0 by decide, show wr (6 * 1) = 6 by decide, wr_id (x := 0 + l3) ⟨by omega, by omega⟩, wr_id (x := 6 + l3) ⟨by omega, by omega⟩, wr_id (x := l3 + 1) ⟨by omega, by omega⟩, r_165_38 hr, r_165_39 hr, r_165_44 hr, r_165_40 hr, r_165_41 hr]
      refine ⟨okd (by decide +kernel), okd (by decide +kernel), i_193.mpr ⟨by omega, by omega⟩, i_193.mpr ⟨by omega, by omega⟩, fun g1 e1 => ?_⟩
      rw [hz 193 _ (by decide) (by decide), up_id (hz 193 _ (by decide) (by decide))] at e1
      subst e1
      refine ⟨okd (by decide +kernel), okd (by decide +kernel), i_194.mpr ⟨by omega, by omega⟩, i_194.mpr ⟨by omega, by omega⟩, fun g2 e2 => ?_⟩
      rw [hz 194 _ (by decide) (by decide), up_id (hz 194 _ (by decide) (by decide))] at e2
      subst e2
      refine ⟨okd (by decide +kernel), okd (by decide +kernel), i_199.mpr ⟨by omega, by omega⟩, i_199.mpr ⟨by omega, by omega⟩, fun g3 e3 => ?_⟩
      rw [hz 199 _ (by decide) (by decide), up_id (hz 199 _ (by decide) (by decide))] at e3
      subst e3
      refine ⟨okd (by decide +kernel), okd (by decide +kernel), i_195.mpr ⟨by omega, by omega⟩, i_195.mpr ⟨by omega, by omega⟩, fun g4 e4 => ?_⟩
      rw [hz 195 _ (by decide) (by decide), up_id (hz 195 _ (by decide) (by decide))] at e4
      subst e4
      refine ⟨okd (by decide +kernel), okd (by decide +kernel), i_196.mpr ⟨by omega, by omega⟩, i_196.mpr ⟨by omega, by omega⟩, fun g5 e5 => ?_⟩
      rw [hz 196 _ (by decide) (by decide), up_id (hz 196 _ (by decide) (by decide))] at e5
      subst e5
      exact ih (l3 + 1) (by omega) (by omega)
  have k1 : ∀ (n : Nat) (l3 : Int), 0 ≤ l3 → l3 + n = 40 → WQ sc d 192 Q 2 [(2, 165), (0, 0), (0, 1), (0, l3)] [] g r := by
    intro n
    induction n with
    | zero =>
      intro l3 _ e
      refine b_192_2 ?_
      rw [if_neg (by omega)]
      exact k2 6 0 (by omega) (by omega)
    | succ n ih =>
      intro l3 h0 e
      refine b_192_2 ?_
      rw [if_pos (by omega), show wr (40 * 0) = 0 by decide, show wr (40 * 1) = 40 by decide, wr_id (x := 0 + l3) ⟨by omega, by omega⟩, wr_id (x := 40 + l3) ⟨by omega, by omega⟩, wr_id (x := l3 + 1) ⟨by omega, by omega⟩, r_165_37 hr, r_165_43 hr]
      refine ⟨okd (by decide +kernel), okd (by decide +kernel), i_192.mpr ⟨by omega, by omega⟩, i_192.mpr ⟨by omega, by omega⟩, fun g1 e1 => ?_⟩
      rw [hz 192 _ (by decide) (by decide), up_id (hz 192 _ (by decide) (by decide))] at e1
      subst e1
      refine ⟨okd (by decide +kernel), okd (by decide +kernel), Or.inr (i_198.mpr ⟨by omega, by omega⟩), Or.inr ⟨i_198.mpr ⟨by omega, by omega⟩, Or.inl (hz 198 _ (by decide) (by decide))⟩, fun g2 e2 => ?_⟩
      rw [hz 198 _ (by decide) (by decide), up_id (hz 198 _ (by decide) (by decide))] at e2
      subst e2
      exact ih (l3 + 1) (by omega) (by omega)
  exact c_192 (k1 40 0 (by omega) (by omega))
theorem B_244 (hc : CO g) (h : ∀ g', Q 0 g' rF) : Ce sc 61 244 [(2, 165)] g rF Q := by
  refine c_244 ⟨okd (by decide +kernel), ?_⟩
  have z48 : g 165 48 = 0 := by rw [hc 165 48 (by decide)]; decide +kernel
  rw [z48, if_neg (by decide)]
  refine ⟨okd (by decide +kernel), okd (by decide +kernel), fun g1 e1 => ?_⟩
  have z1 : g1 165 48 = 1 := by rw [e1, up_s]; decide
  have hz : ZM g1 := fun i j h1 h2 => by rw [e1, up_i (by omega)]; exact zm_of hc i j h1 h2
  rw [z1]
  refine ⟨okd (by decide +kernel), okd (by decide +kernel), e_192 RI_F hz ?_⟩
  rw [z1, r_165_47 RI_F]
  refine ⟨okd (by decide +kernel), okd (by decide +kernel), okd (by decide +kernel), i_202.mpr ⟨by decide, by decide⟩, fun g3 e3 => ⟨okd (by decide +kernel), ?_⟩⟩
  have z3 : g3 165 48 = 1 := by rw [e3, up_i (by decide)]; exact z1
  rw [z3, show wr (1 - 1) = 0 by decide]
  exact h _
end FRB
