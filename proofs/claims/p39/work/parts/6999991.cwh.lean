/-! the class's wheel works and yields the same numbers -/
def WHR (g : GH) (x : Int) (W : Int → Int) : Prop := g x 0 = W 0 ∧ g x 1 = W 1 ∧ g x 2 = W 2 ∧ g x 3 = W 3 ∧ g x 4 = W 4 ∧ g x 5 = W 5 ∧ g x 6 = W 6 ∧ g x 7 = W 9 ∧ g x 8 = W 10
theorem WHR.b {g g' : GH} {x : Int} {W : Int → Int} (h : WHR g x W) (e : BUX x g g') : WHR g' x W := by
  unfold WHR
  have k : ∀ j, g' x j = g x j := fun j => e x j (by omega)
  rw [k, k, k, k, k, k, k, k, k]
  exact h
theorem rtF_b {v : Int} (v0 : 0 ≤ v) (v1 : v ≤ 4608000) : ∀ (n : Nat) (s : Int), 0 ≤ s → s + n = 2200 → s * s ≤ v → 0 ≤ rtF v n s ∧ rtF v n s * rtF v n s ≤ v ∧ v < (rtF v n s + 1) * (rtF v n s + 1) ∧ rtF v n s ≤ 2200 := by
  intro n
  induction n with
  | zero =>
    intro s s0 e q
    have z : s = 2200 := by omega
    rw [z] at q
    omega
  | succ n ih =>
    intro s s0 e q
    show 0 ≤ (if v < (s + 1) * (s + 1) then s else rtF v n (s + 1)) ∧ (if v < (s + 1) * (s + 1) then s else rtF v n (s + 1)) * (if v < (s + 1) * (s + 1) then s else rtF v n (s + 1)) ≤ v ∧ v < ((if v < (s + 1) * (s + 1) then s else rtF v n (s + 1)) + 1) * ((if v < (s + 1) * (s + 1) then s else rtF v n (s + 1)) + 1) ∧ (if v < (s + 1) * (s + 1) then s else rtF v n (s + 1)) ≤ 2200
    by_cases z : v < (s + 1) * (s + 1)
    · rw [if_pos z]; exact ⟨s0, q, z, by omega⟩
    · rw [if_neg z]; exact ih (s + 1) (by omega) (by omega) (by omega)
theorem rt_b {v : Int} (v0 : 0 ≤ v) (v1 : v ≤ 4608000) : 0 ≤ rtE v ∧ rtE v * rtE v ≤ v ∧ v < (rtE v + 1) * (rtE v + 1) ∧ rtE v ≤ 2200 := rtF_b v0 v1 2200 0 (by decide) (by decide) (by omega)
theorem rt_u {v s : Int} (v0 : 0 ≤ v) (v1 : v ≤ 4608000) (s0 : 0 ≤ s) (a : s * s ≤ v) (b : v < (s + 1) * (s + 1)) : s = rtE v := by
  obtain ⟨t0, t1, t2, _⟩ := rt_b v0 v1
  have x : ¬ rtE v + 1 ≤ s := fun z => by
    have := Int.mul_le_mul z z (by omega) s0
    omega
  have y : ¬ s + 1 ≤ rtE v := fun z => by
    have := Int.mul_le_mul z z (by omega) t0
    omega
  omega
theorem wL_0 : wL 0 = 0 := by decide
theorem sum_0 {W : Int → Int} (h : WBd W) {p : Int} (p0 : 1 ≤ p) (p1 : p ≤ 300) {c : Int → Int} : ∀ (n : Nat) (k : Int), sumR W p c n 0 0 k = 0 := by
  intro n
  induction n with
  | zero => intro k; rfl
  | succ n ih =>
    intro k
    have hb := (hel_b h p0 p1 (a := plcE W k)).1
    show sumR W p c n (wL (0 + (wL ((if helE W p (plcE W k) < 0 then helE W p (plcE W k) else 0) * c k)))) (if helE W p (plcE W k) < 0 then helE W p (plcE W k) else 0) (k + 1) = 0
    rw [if_neg (by omega), Int.zero_mul, wL_0, Int.zero_add, wL_0]
    exact ih _
theorem hw_0 {W : Int → Int} (h : WBd W) {p hd : Int} (p0 : 1 ≤ p) (p1 : p ≤ 300) : hwE W 0 p hd = 0 := by
  unfold hwE
  by_cases z : W 0 = 0
  · rw [if_pos z]
    by_cases y : rimE W p < rtE (19200 * hd)
    · rw [if_pos y, Int.zero_mul, wL_0, Int.zero_mul, wL_0, Int.zero_tdiv, wL_0]
    · rw [if_neg y]
  · rw [if_neg z]
    have g0 : getE W 0 p = 0 := by
      unfold getE offE
      rw [Int.mul_zero, Int.zero_ediv, Int.zero_mul, Int.zero_ediv]
    have s0 : sumE W 0 p (drC W) = 0 := by
      unfold sumE
      rw [g0]
      exact sum_0 h p0 p1 _ _
    unfold drpE
    rw [s0, Int.zero_mul, wL_0, Int.zero_tdiv, wL_0, Int.zero_mul, wL_0, Int.zero_mul, wL_0, Int.zero_mul, wL_0, Int.zero_tdiv, wL_0]
theorem rim_b {W : Int → Int} (h : WBd W) {p : Int} (p0 : 1 ≤ p) (p1 : p ≤ 300) : 0 ≤ rimE W p ∧ rimE W p ≤ 36000 := by
  have h1 := h.1
  have m := mlb (a := 3 * W 1) (b := p) (A := 120) (B := 300) (by omega) (by omega) (by omega) p1
  have t := tdb (x := 3 * W 1 * p) (m := 10) m.1 (by decide)
  unfold rimE
  rw [wr_id (x := 3 * W 1) ⟨by omega, by omega⟩, wr_id (x := 3 * W 1 * p) ⟨by omega, by omega⟩, t.1, wr_id (x := 3 * W 1 * p / 10) ⟨by omega, by omega⟩]
  omega
/-- the best of the paces -/
def bpR (y : Int → Int) : Nat → Int → Int → Int
  | 0, b, _ => b
  | n + 1, b, p => bpR y n (if y b < y p then p else b) (p + 1)
def bpE (W : Int → Int) (f hd b : Int) : Int := bpR (fun p => hyE W f p hd b) 299 1 2
theorem hy_b {W : Int → Int} {f p hd b : Int} : 0 ≤ hyE W f p hd b := by
  unfold hyE
  by_cases z : hyX W f p hd b < 0
  · rw [if_pos z]; omega
  · rw [if_neg z]; omega
section CWH
variable {sc : SCR} {d : Nat} {Q : QJ} {g r : GH} {l0 l1 l2 l3 l4 l5 x f p : Int} {W : Int → Int}
theorem f_14 (hx : WXO r x) (k0 : 0 ≤ l1) (k1 : l1 < 40) (hq : Q (g (x + 4) l1) g r) : Ce sc (d + 1) 14 [(2, x + 1), (0, l1)] g r Q := by
  have a := hx.2.2.2.2.2.2.2.2
  refine c_14 (ite_c (fun q => absurd q (by omega)) (fun _ => ⟨hx.2.1, ?_⟩))
  rw [hx.2.2.2.2.2.1, a.2]
  exact ⟨⟨a.1.1, a.1.2.1, by rw [a.1.2.2]; decide, by rw [a.1.2.2]; decide⟩, ite_c (fun q => ⟨hx.2.1, ⟨a.1, k0, by rw [a.2]; exact q⟩, hq⟩) (fun q => absurd k1 q)⟩
theorem f_16 (hx : WXO r x) (bs : BKS g x W) (fl : FIL g x W f p) (h : WBd W) (hq : Q (drpE W f p) g r) : Ce sc (d + 1) 16 [(2, x + 1)] g r Q := by
  have k1 := hx.2.1
  have P := pls_b h
  have a3 := hx.2.2.2.2.2.2.2.1
  have a4 := hx.2.2.2.2.2.2.2.2
  have loop : ∀ (n : Nat) (k acc : Int), 0 ≤ k → k + n = plsE W → sumR W p (drC W) n acc (hdE W f p k) k = sumE W f p (drC W) → WQ sc d 16 Q 4 [(2, x + 1), (1, acc), (8, 0), (0, k)] [] g r := by
    intro n
    induction n with
    | zero =>
      intro k acc c0 e es
      have es' : acc = sumE W f p (drC W) := es
      refine b_16_4 ⟨k1, ?_⟩
      rw [bs.2.2.2.2.1, bs.1, es']
      exact ite_c (fun q => absurd q (by omega)) (fun _ => ⟨k1, by decide, hq⟩)
    | succ n ih =>
      intro k acc c0 e es
      have hs := hdE_s (W := W) (f := f) (p := p) c0
      have es' : sumR W p (drC W) n (wL (acc + (wL ((if helE W p (plcE W k) < hdE W f p k then helE W p (plcE W k) else hdE W f p k) * drC W k)))) (if helE W p (plcE W k) < hdE W f p k then helE W p (plcE W k) else hdE W f p k) (k + 1) = sumE W f p (drC W) := es
      rw [← hs.1] at es'
      have hk := fl.2.2.2.2.2 k c0 (by omega)
      have dk := (bs.2.2.2.2.2 k c0 (by omega)).2
      refine b_16_4 ⟨k1, ?_⟩
      rw [bs.2.2.2.2.1, hx.2.2.2.2.2.1, hx.2.2.2.2.1, hk, dk, hs.2, wr_id (x := k + 1) ⟨by omega, by omega⟩]
      exact ite_c (fun _ => ite_c (fun _ => ⟨k1, ⟨a4.1, c0, by rw [a4.2]; omega⟩, k1, ⟨a3.1, c0, by rw [a3.2]; omega⟩, ih _ _ (by omega) (by omega) es'⟩) (fun q => absurd (by omega) q)) (fun q => absurd (by omega) q)
  exact c_16 (loop (plsE W).toNat 0 0 (by decide) (by omega) rfl)
theorem f_15 (hx : WXO r x) (bs : BKS g x W) (fl : FIL g x W f p) (h : WBd W) (hq : Q (pshE W f p) g r) : Ce sc (d + 3) 15 [(2, x + 1)] g r Q := by
  have k1 := hx.2.1
  have P := pls_b h
  have a2 := hx.2.2.2.2.2.2.1
  have a4 := hx.2.2.2.2.2.2.2.2
  have loop : ∀ (n : Nat) (k acc : Int), 0 ≤ k → k + n = plsE W → sumR W p (siC W) n acc (hdE W f p k) k = sumE W f p (siC W) → WQ sc (d + 2) 15 Q 4 [(2, x + 1), (1, acc), (8, 0), (0, k)] [] g r := by
    intro n
    induction n with
    | zero =>
      intro k acc c0 e es
      have es' : acc = sumE W f p (siC W) := es
      refine b_15_4 ⟨k1, ?_⟩
      rw [bs.2.2.2.2.1, bs.1, es']
      exact ite_c (fun q => absurd q (by omega)) (fun _ => ⟨k1, by decide, hq⟩)
    | succ n ih =>
      intro k acc c0 e es
      have hs := hdE_s (W := W) (f := f) (p := p) c0
      have es' : sumR W p (siC W) n (wL (acc + (wL ((if helE W p (plcE W k) < hdE W f p k then helE W p (plcE W k) else hdE W f p k) * siC W k)))) (if helE W p (plcE W k) < hdE W f p k then helE W p (plcE W k) else hdE W f p k) (k + 1) = sumE W f p (siC W) := es
      rw [← hs.1] at es'
      have hk := fl.2.2.2.2.2 k c0 (by omega)
      have dk := (bs.2.2.2.2.2 k c0 (by omega)).1
      have pb := plc_e h c0 (by omega)
      have p180 := P.2.2.1 k c0 (by omega)
      refine b_15_4 ⟨k1, ?_⟩
      rw [bs.2.2.2.2.1, hx.2.2.2.2.2.1, hx.2.2.2.1, hk, dk, hs.2, wr_id (x := k + 1) ⟨by omega, by omega⟩]
      exact ite_c (fun _ => ite_c (fun _ => ⟨k1, ⟨a4.1, c0, by rw [a4.2]; omega⟩, k1, ⟨a2.1, c0, by rw [a2.2]; omega⟩, w_17 pb.2.1 (by omega) (ih _ _ (by omega) (by omega) es')⟩) (fun q => absurd (by omega) q)) (fun q => absurd (by omega) q)
  exact c_15 (loop (plsE W).toNat 0 0 (by decide) (by omega) rfl)
theorem f_61 (v0 : 0 ≤ l0) (v1 : l0 ≤ 4608000) (hq : Q (rtE l0) g r) : Ce sc (d + 1) 61 [(0, l0)] g r Q := by
  have step : ∀ (b b2 : Int), 0 < b → b ≤ 2048 → i_shr b 1 = b2 → (∀ s, 0 ≤ s → s ≤ 6100 → s * s ≤ l0 → l0 < (s + b) * (s + b) → WQ sc d 61 Q 6 [(0, l0), (0, s), (0, b2), (9, 0)] [] g r) → ∀ s, 0 ≤ s → s ≤ 4000 → s * s ≤ l0 → l0 < (s + 2 * b) * (s + 2 * b) → WQ sc d 61 Q 6 [(0, l0), (0, s), (0, b), (9, 0)] [] g r := by
    intro b b2 b0 b1 eb nx s s0 s1 a c
    have m := mlb (a := s + b) (b := s + b) (A := 6048) (B := 6048) (by omega) (by omega) (by omega) (by omega)
    refine b_61_6 ?_
    rw [if_pos b0, eb, wr_id (x := s + b) ⟨by omega, by omega⟩, wr_id (x := (s + b) * (s + b)) ⟨by omega, by omega⟩]
    refine ite_c (fun q => nx s s0 (by omega) a q) (fun q => nx (s + b) (by omega) (by omega) (by omega) ?_)
    rw [show s + b + b = s + 2 * b by omega]
    exact c
  have small : ∀ s : Int, 0 ≤ s → s * s ≤ l0 → s ≤ 4000 := fun s s0 a => by
    refine Decidable.byContradiction fun z => ?_
    have := Int.mul_le_mul (show (4000 : Int) ≤ s by omega) (show (4000 : Int) ≤ s by omega) (by decide) s0
    omega
  have e0 : ∀ s, 0 ≤ s → s ≤ 6100 → s * s ≤ l0 → l0 < (s + 1) * (s + 1) → WQ sc d 61 Q 6 [(0, l0), (0, s), (0, 0), (9, 0)] [] g r := fun s s0 _ a c => by
    refine b_61_6 ?_
    rw [if_neg (by decide), rt_u v0 v1 s0 a c]
    exact hq
  have e1 := step 1 0 (by decide) (by decide) (by decide) e0
  have e2 := step 2 1 (by decide) (by decide) (by decide) (fun s s0 _ a c => e1 s s0 (small s s0 a) a c)
  have e3 := step 4 2 (by decide) (by decide) (by decide) (fun s s0 _ a c => e2 s s0 (small s s0 a) a c)
  have e4 := step 8 4 (by decide) (by decide) (by decide) (fun s s0 _ a c => e3 s s0 (small s s0 a) a c)
  have e5 := step 16 8 (by decide) (by decide) (by decide) (fun s s0 _ a c => e4 s s0 (small s s0 a) a c)
  have e6 := step 32 16 (by decide) (by decide) (by decide) (fun s s0 _ a c => e5 s s0 (small s s0 a) a c)
  have e7 := step 64 32 (by decide) (by decide) (by decide) (fun s s0 _ a c => e6 s s0 (small s s0 a) a c)
  have e8 := step 128 64 (by decide) (by decide) (by decide) (fun s s0 _ a c => e7 s s0 (small s s0 a) a c)
  have e9 := step 256 128 (by decide) (by decide) (by decide) (fun s s0 _ a c => e8 s s0 (small s s0 a) a c)
  have e10 := step 512 256 (by decide) (by decide) (by decide) (fun s s0 _ a c => e9 s s0 (small s s0 a) a c)
  have e11 := step 1024 512 (by decide) (by decide) (by decide) (fun s s0 _ a c => e10 s s0 (small s s0 a) a c)
  have e12 := step 2048 1024 (by decide) (by decide) (by decide) (fun s s0 _ a c => e11 s s0 (small s s0 a) a c)
  exact c_61 (e12 0 (by decide) (by decide) (by omega) (by omega))
theorem f_60 (hx : okr 218 x 7) (wh : WHR g x W) (h : WBd W) (f0 : 0 ≤ l1) (f1 : l1 ≤ 99999) (p0 : 1 ≤ l2) (p1 : l2 ≤ 300) (e0 : 0 ≤ l3) (e1 : l3 ≤ 240) (hq : Q (if rimE W l2 < rtE (19200 * l3) then wL ((wL ((wL (l1 * (wr (rtE (19200 * l3) - rimE W l2)))) * rimE W l2)).tdiv 2880) else 0) g r) : Ce sc (d + 2) 60 [(2, x), (0, l1), (0, l2), (0, l3)] g r Q := by
  have rb := rim_b h p0 p1
  have tb := rt_b (v := 19200 * l3) (by omega) (by omega)
  refine c_60 ?_
  rw [wh.2.1, wr_id (x := 19200 * l3) ⟨by omega, by omega⟩]
  have er : wr ((wr ((wr (3 * W 1)) * l2)).tdiv 10) = rimE W l2 := rfl
  refine ⟨hx, by decide, f_61 (by omega) (by omega) ?_⟩
  rw [er, wr_id (x := rtE (19200 * l3) - rimE W l2) ⟨by omega, by omega⟩]
  rw [wr_id (x := rtE (19200 * l3) - rimE W l2) ⟨by omega, by omega⟩] at hq
  have z0 : wL ((wL ((wL (l1 * 0)) * rimE W l2)).tdiv 2880) = 0 := by rw [Int.mul_zero, wL_0, Int.zero_mul, wL_0, Int.zero_tdiv, wL_0]
  refine w_248 (fun q => ⟨by decide, ?_⟩) (fun q => ⟨by decide, ?_⟩)
  · rw [z0]
    rw [if_neg (by omega)] at hq
    exact hq
  · by_cases z : rimE W l2 < rtE (19200 * l3)
    · rw [if_pos z] at hq; exact hq
    · rw [if_neg z] at hq
      rw [show rtE (19200 * l3) - rimE W l2 = 0 by omega, z0]
      exact hq
theorem fw_59 (hx : WXO r x) (wh : WHR g x W) (hb : BK3 g x W) (h : WBd W) (f0 : 0 ≤ l1) (f1 : l1 ≤ 99999) (p0 : 1 ≤ l2) (p1 : l2 ≤ 300) (e0 : (0 ≤ l3 ∧ l3 ≤ 240) ∨ W 0 ≠ 0) (hq : ∀ g', BUX x g g' → BK3 g' x W → Q (hwE W l1 l2 l3) g' r) : Ce sc (d + 4) 59 [(2, x), (0, l1), (0, l2), (0, l3)] g r Q := by
  have kx := hx.1
  refine c_59 (ite_c (fun z => ?_) (fun _ => ⟨kx, ?_⟩))
  · have := hq g (BUX.rf x g) hb
    rw [z, hw_0 h p0 p1] at this
    exact this
  rw [wh.1]
  refine ite_c (fun z => ⟨kx, f_60 kx wh h f0 f1 p0 p1 ?_ ?_ ?_⟩) (fun z => ⟨kx, ?_⟩)
  · rcases e0 with y | y
    · exact y.1
    · exact absurd z y
  · rcases e0 with y | y
    · exact y.2
    · exact absurd z y
  · have := hq g (BUX.rf x g) hb
    unfold hwE at this
    rw [if_pos z] at this
    exact this
  · rw [hx.2.2.1]
    refine ⟨hx.2.1, f_13 hx hb h f0 f1 p0 p1 (fun g' bu b3 fl => ⟨kx, ?_⟩)⟩
    rw [hx.2.2.1]
    refine ⟨hx.2.1, f_16 hx b3.1 fl h ⟨kx, by decide, ?_⟩⟩
    have := hq g' bu b3
    unfold hwE at this
    rw [if_neg z] at this
    rw [(wh.b bu).2.2.2.1]
    exact this
theorem f_62 (hx : WXO r x) (wh : WHR g x W) (hb : BK3 g x W) (h : WBd W) (f0 : 0 ≤ l1) (f1 : l1 ≤ 99999) (p0 : 1 ≤ l2) (p1 : l2 ≤ 300) (e0 : (0 ≤ l3 ∧ l3 ≤ 240) ∨ W 0 ≠ 0) (hq : ∀ g', BUX x g g' → BK3 g' x W → Q (hyE W l1 l2 l3 l4) g' r) : Ce sc (d + 5) 62 [(2, x), (0, l1), (0, l2), (0, l3), (0, l4)] g r Q := by
  have kx := hx.1
  refine c_62 ?_
  rw [wh.2.2.1, wh.2.2.2.2.2.2.2.2]
  refine ⟨kx, kx, by decide, kx, fw_59 hx wh hb h f0 f1 p0 p1 e0 (fun g' bu b3 => ?_)⟩
  have hh := hq g' bu b3
  have ex : wL ((wL (hwE W l1 l2 l3 - (wL ((wL (6 * l2)) * W 10)))) - (wL ((wL ((wL ((wL ((wL (6 * l2)) * W 2)) * l4)) * l4)).tdiv 10))) = hyX W l1 l2 l3 l4 := rfl
  rw [ex]
  unfold hyE at hh
  refine w_249 (fun q => ?_) (fun q => ?_)
  · by_cases z : hyX W l1 l2 l3 l4 < 0
    · rw [if_pos z] at hh; exact hh
    · rw [if_neg z] at hh
      rw [show hyX W l1 l2 l3 l4 = 0 by omega] at hh
      exact hh
  · rw [if_neg (by omega)] at hh; exact hh
theorem f_63 (hx : WXO r x) (wh : WHR g x W) (hb : BK3 g x W) (h : WBd W) (f0 : 0 ≤ l1) (f1 : l1 ≤ 99999) (hq : ∀ g', BUX x g g' → BK3 g' x W → Q (hyE W l1 (W 9) 60 0) g' r) : Ce sc (d + 6) 63 [(2, x), (0, l1)] g r Q := by
  refine c_63 ?_
  rw [wh.2.2.2.2.2.2.2.1]
  exact ⟨hx.1, hx.1, f_62 hx wh hb h f0 f1 h.2.2.2.2.2.2.1.1 h.2.2.2.2.2.2.1.2 (Or.inl ⟨by decide, by decide⟩) hq⟩
theorem f_64 (hx : WXO r x) (wh : WHR g x W) (hb : BK3 g x W) (h : WBd W) (f0 : 0 ≤ l1) (f1 : l1 ≤ 99999) (e0 : (0 ≤ l2 ∧ l2 ≤ 240) ∨ W 0 ≠ 0) (hq : ∀ g', BUX x g g' → BK3 g' x W → Q (bpE W l1 l2 l3) g' r) : Ce sc (d + 6) 64 [(2, x), (0, l1), (0, l2), (0, l3)] g r Q := by
  have kx := hx.1
  have loop : ∀ (n : Nat) (p b : Int) (gk : GH), 1 ≤ p → p + n = 301 → BUX x g gk → BK3 gk x W → bpR (fun p => hyE W l1 p l2 l3) n b p = bpE W l1 l2 l3 → WQ sc (d + 5) 64 Q 11 [(2, x), (0, l1), (0, l2), (0, l3), (0, b), (1, hyE W l1 b l2 l3), (8, 0), (0, p), (9, 0), (9, 0)] [] gk r := by
    intro n
    induction n with
    | zero =>
      intro p b gk pp e bu b3 es
      have es' : b = bpE W l1 l2 l3 := es
      refine b_64_11 (ite_c (fun _ => ?_) (fun q => absurd (by omega) q))
      rw [es']; exact hq gk bu b3
    | succ n ih =>
      intro p b gk pp e bu b3 es
      have es' : bpR (fun p => hyE W l1 p l2 l3) n (if hyE W l1 b l2 l3 < hyE W l1 p l2 l3 then p else b) (p + 1) = bpE W l1 l2 l3 := es
      refine b_64_11 (ite_c (fun q => absurd q (by omega)) (fun _ => ⟨kx, f_62 hx (wh.b bu) b3 h f0 f1 pp (by omega) e0 (fun g' bu' b3' => ?_)⟩))
      rw [wr_id (x := p + 1) ⟨by omega, by omega⟩]
      refine ite_c (fun q => ?_) (fun q => ?_)
      · rw [if_pos (cmp_gt.mp q)] at es'
        exact ih (p + 1) p g' (by omega) (by omega) (bu.tr bu') b3' es'
      · rw [if_neg (fun z => q (cmp_gt.mpr z))] at es'
        exact ih (p + 1) b g' (by omega) (by omega) (bu.tr bu') b3' es'
  refine c_64 (b_64_11 (ite_c (fun q => absurd q (by decide)) (fun _ => ⟨kx, f_62 hx wh hb h f0 f1 (by decide) (by decide) e0 (fun g' bu b3 => ?_)⟩)))
  have y := hy_b (W := W) (f := l1) (p := 1) (hd := l2) (b := l3)
  rw [if_pos (cmp_gt.mpr (by omega))]
  exact loop 299 2 1 g' (by decide) (by decide) bu b3 rfl
end CWH
