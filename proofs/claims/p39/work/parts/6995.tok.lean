/-! a mill's text without a heap: its tokens, and a machine that reads it -/
def tkR (c : Int → Bool) (T : Int → Int) (n : Int) : Nat → Int → Int
  | 0, p => p
  | k + 1, p => if p < n ∧ c (T p) = true then tkR c T n k (p + 1) else p
def tkr (c : Int → Bool) (T : Int → Int) (n p : Int) : Int := tkR c T n (n - p).toNat p
theorem tkr_s {c : Int → Bool} {T : Int → Int} {n p : Int} (h : p < n) (h2 : c (T p) = true) : tkr c T n p = tkr c T n (p + 1) := by
  unfold tkr
  rw [show (n - p).toNat = (n - (p + 1)).toNat + 1 by omega]
  show (if p < n ∧ c (T p) = true then tkR c T n (n - (p + 1)).toNat (p + 1) else p) = _
  rw [if_pos ⟨h, h2⟩]
theorem tkr_e {c : Int → Bool} {T : Int → Int} {n p : Int} (h : ¬ (p < n ∧ c (T p) = true)) : tkr c T n p = p := by
  unfold tkr
  cases (n - p).toNat with
  | zero => rfl
  | succ k =>
    show (if p < n ∧ c (T p) = true then tkR c T n k (p + 1) else p) = _
    rw [if_neg h]
theorem tkr_all {c : Int → Bool} {T : Int → Int} {n : Int} : ∀ (m : Nat) (p : Int), n - p ≤ m → p ≤ tkr c T n p ∧ (p ≤ n → tkr c T n p ≤ n) ∧ (∀ q, p ≤ q → q < tkr c T n p → c (T q) = true) ∧ (tkr c T n p < n → c (T (tkr c T n p)) = false) := by
  intro m
  induction m with
  | zero =>
    intro p h
    rw [tkr_e (by omega)]
    exact ⟨Int.le_refl _, fun h => h, fun q a b => absurd b (by omega), fun a => absurd a (by omega)⟩
  | succ m ih =>
    intro p h
    by_cases z : p < n ∧ c (T p) = true
    · rw [tkr_s z.1 z.2]
      obtain ⟨a, b, e, f⟩ := ih (p + 1) (by omega)
      refine ⟨by omega, fun _ => b (by omega), fun q q0 q1 => ?_, f⟩
      by_cases y : q = p
      · rw [y]; exact z.2
      · exact e q (by omega) q1
    · rw [tkr_e z]
      refine ⟨Int.le_refl _, fun h => h, fun q a b => absurd b (by omega), fun a => ?_⟩
      cases hc : c (T p) with
      | false => rfl
      | true => exact absurd ⟨a, hc⟩ z
theorem tkr_ge {c : Int → Bool} {T : Int → Int} {n p : Int} : p ≤ tkr c T n p := (tkr_all (n - p).toNat p (by omega)).1
theorem tkr_le {c : Int → Bool} {T : Int → Int} {n p : Int} (h : p ≤ n) : tkr c T n p ≤ n := (tkr_all (n - p).toNat p (by omega)).2.1 h
theorem tkr_in {c : Int → Bool} {T : Int → Int} {n p q : Int} (h : p ≤ q) (h2 : q < tkr c T n p) : c (T q) = true := (tkr_all (n - p).toNat p (by omega)).2.2.1 q h h2
theorem tkr_out {c : Int → Bool} {T : Int → Int} {n p : Int} (h : tkr c T n p < n) : c (T (tkr c T n p)) = false := (tkr_all (n - p).toNat p (by omega)).2.2.2 h
def cB (c : Int) : Bool := decide (c = 32 ∨ c = 10)
def cW (c : Int) : Bool := decide (97 ≤ c ∧ c ≤ 122)
def cN (c : Int) : Bool := decide (48 ≤ c ∧ c ≤ 57)
def cS (c : Int) : Bool := decide (c = 59 ∨ c = 40 ∨ c = 41 ∨ c = 60 ∨ c = 62 ∨ c = 61)
theorem cB_t {c : Int} : cB c = true ↔ c = 32 ∨ c = 10 := decide_eq_true_iff
theorem cW_t {c : Int} : cW c = true ↔ 97 ≤ c ∧ c ≤ 122 := decide_eq_true_iff
theorem cN_t {c : Int} : cN c = true ↔ 48 ≤ c ∧ c ≤ 57 := decide_eq_true_iff
theorem cS_t {c : Int} : cS c = true ↔ c = 59 ∨ c = 40 ∨ c = 41 ∨ c = 60 ∨ c = 62 ∨ c = 61 := decide_eq_true_iff
/-- the kind of the token at s (0 the end), and its end -/
def kd (T : Int → Int) (n s : Int) : Int := if s < n then (if cW (T s) = true then 1 else if cN (T s) = true then 2 else if cS (T s) = true then 3 else 5) else 0
def en (T : Int → Int) (n s : Int) : Int := if s < n then (if cW (T s) = true then tkr cW T n s else if cN (T s) = true then tkr cN T n s else s + 1) else n
def sk (T : Int → Int) (n p : Int) : Int := tkr cB T n p
def nx (T : Int → Int) (n s : Int) : Int := sk T n (en T n s)
def tk (T : Int → Int) (n : Int) : Nat → Int
  | 0 => sk T n 0
  | k + 1 => nx T n (tk T n k)
section TOK
variable {T : Int → Int} {n s p : Int}
theorem kd_0 : kd T n s = 0 ↔ ¬ s < n := by
  unfold kd
  by_cases z : s < n
  · rw [if_pos z]
    constructor
    · intro h
      split at h
      · exact absurd h (by decide)
      · split at h
        · exact absurd h (by decide)
        · split at h <;> exact absurd h (by decide)
    · exact fun h => absurd z h
  · rw [if_neg z]; exact ⟨fun _ => z, fun _ => rfl⟩
theorem kd_1 : kd T n s = 1 ↔ s < n ∧ 97 ≤ T s ∧ T s ≤ 122 := by
  unfold kd
  by_cases z : s < n
  · rw [if_pos z]
    by_cases y : cW (T s) = true
    · rw [if_pos y]; exact ⟨fun _ => ⟨z, cW_t.mp y⟩, fun _ => rfl⟩
    · rw [if_neg y]
      refine ⟨fun h => ?_, fun h => absurd (cW_t.mpr h.2) y⟩
      split at h
      · exact absurd h (by decide)
      · split at h <;> exact absurd h (by decide)
  · rw [if_neg z]; exact ⟨fun h => absurd h (by decide), fun h => absurd h.1 z⟩
theorem kd_2 : kd T n s = 2 ↔ s < n ∧ 48 ≤ T s ∧ T s ≤ 57 := by
  unfold kd
  by_cases z : s < n
  · rw [if_pos z]
    by_cases y : cW (T s) = true
    · rw [if_pos y]
      have := cW_t.mp y
      exact ⟨fun h => absurd h (by decide), fun h => by omega⟩
    · rw [if_neg y]
      by_cases x : cN (T s) = true
      · rw [if_pos x]; exact ⟨fun _ => ⟨z, cN_t.mp x⟩, fun _ => rfl⟩
      · rw [if_neg x]
        refine ⟨fun h => ?_, fun h => absurd (cN_t.mpr h.2) x⟩
        split at h <;> exact absurd h (by decide)
  · rw [if_neg z]; exact ⟨fun h => absurd h (by decide), fun h => absurd h.1 z⟩
theorem kd_3 : kd T n s = 3 ↔ s < n ∧ (T s = 59 ∨ T s = 40 ∨ T s = 41 ∨ T s = 60 ∨ T s = 62 ∨ T s = 61) := by
  unfold kd
  by_cases z : s < n
  · rw [if_pos z]
    by_cases y : cW (T s) = true
    · rw [if_pos y]
      have := cW_t.mp y
      exact ⟨fun h => absurd h (by decide), fun h => by omega⟩
    · rw [if_neg y]
      by_cases x : cN (T s) = true
      · rw [if_pos x]
        have := cN_t.mp x
        exact ⟨fun h => absurd h (by decide), fun h => by omega⟩
      · rw [if_neg x]
        by_cases w : cS (T s) = true
        · rw [if_pos w]; exact ⟨fun _ => ⟨z, cS_t.mp w⟩, fun _ => rfl⟩
        · rw [if_neg w]; exact ⟨fun h => absurd h (by decide), fun h => absurd (cS_t.mpr h.2) w⟩
  · rw [if_neg z]; exact ⟨fun h => absurd h (by decide), fun h => absurd h.1 z⟩
theorem kd_r : kd T n s = 0 ∨ kd T n s = 1 ∨ kd T n s = 2 ∨ kd T n s = 3 ∨ kd T n s = 5 := by
  unfold kd
  split
  · split
    · decide
    · split
      · decide
      · split <;> decide
  · decide
theorem en_n (h : ¬ s < n) : en T n s = n := by unfold en; rw [if_neg h]
theorem en_1 (h : kd T n s = 1) : en T n s = tkr cW T n s := by
  have h := kd_1.mp h
  unfold en; rw [if_pos h.1, if_pos (cW_t.mpr h.2)]
theorem en_2 (h : kd T n s = 2) : en T n s = tkr cN T n s := by
  have h := kd_2.mp h
  unfold en; rw [if_pos h.1, if_neg (fun z => by have := cW_t.mp z; omega), if_pos (cN_t.mpr h.2)]
theorem en_3 (h : kd T n s = 3 ∨ kd T n s = 5) : en T n s = s + 1 := by
  have h0 : s < n := by
    by_cases z : s < n
    · exact z
    · have := (kd_0 (T := T)).mpr z; rcases h with h | h <;> rw [h] at this <;> exact absurd this (by decide)
  have h1 : ¬ cW (T s) = true := fun z => by
    have := kd_1.mpr ⟨h0, cW_t.mp z⟩; rcases h with h | h <;> rw [h] at this <;> exact absurd this (by decide)
  have h2 : ¬ cN (T s) = true := fun z => by
    have := kd_2.mpr ⟨h0, cN_t.mp z⟩; rcases h with h | h <;> rw [h] at this <;> exact absurd this (by decide)
  unfold en; rw [if_pos h0, if_neg h1, if_neg h2]
theorem en_b (h : s < n) : s < en T n s ∧ en T n s ≤ n := by
  unfold en
  rw [if_pos h]
  split
  · rename_i z
    rw [tkr_s h z]
    exact ⟨by have := tkr_ge (c := cW) (T := T) (n := n) (p := s + 1); omega, tkr_le (by omega)⟩
  · split
    · rename_i z
      rw [tkr_s h z]
      exact ⟨by have := tkr_ge (c := cN) (T := T) (n := n) (p := s + 1); omega, tkr_le (by omega)⟩
    · omega
/-- s is where a token begins, or the end -/
def TS (T : Int → Int) (n s : Int) : Prop := 0 ≤ s ∧ s ≤ n ∧ (s < n → cB (T s) = false)
theorem sk_ts (h0 : 0 ≤ p) (h : p ≤ n) : TS T n (sk T n p) := by
  unfold sk
  refine ⟨?_, tkr_le h, tkr_out⟩
  have := tkr_ge (c := cB) (T := T) (n := n) (p := p)
  omega
theorem en_le (h : TS T n s) : en T n s ≤ n ∧ s ≤ en T n s := by
  by_cases z : s < n
  · have := en_b (T := T) z; omega
  · rw [en_n z]; exact ⟨Int.le_refl _, h.2.1⟩
theorem nx_ts (h : TS T n s) : TS T n (nx T n s) := by
  have := en_le h
  exact sk_ts (by have := h.1; omega) this.1
theorem nx_ge : en T n s ≤ nx T n s := tkr_ge
theorem nx_gt (h : s < n) : s < nx T n s := by
  have := en_b (T := T) h
  have := nx_ge (T := T) (n := n) (s := s)
  omega
theorem tk_ts (hn : 0 ≤ n) : ∀ k : Nat, TS T n (tk T n k)
  | 0 => sk_ts (Int.le_refl 0) hn
  | k + 1 => nx_ts (tk_ts hn k)
theorem tk_n (hn : 0 ≤ n) (k : Nat) (h : tk T n k = n) : tk T n (k + 1) = n := by
  show nx T n (tk T n k) = n
  rw [h]
  unfold nx sk
  rw [en_n (Int.lt_irrefl n)]
  exact tkr_e (by omega)
theorem tk_lt (hn : 0 ≤ n) : ∀ k : Nat, tk T n k < n → (k : Int) ≤ tk T n k
  | 0, _ => by have := (tk_ts (T := T) hn 0).1; omega
  | k + 1, h => by
    have t := tk_ts (T := T) hn k
    have z : tk T n k < n := by
      by_cases y : tk T n k < n
      · exact y
      · have := tk_n (T := T) hn k (by have := t.2.1; omega)
        omega
    have := tk_lt hn k z
    have g : tk T n k < tk T n (k + 1) := nx_gt z
    omega
/-- the word w stands at s -/
def isW (T : Int → Int) (n s : Int) (w : List Int) : Bool := decide (kd T n s = 1 ∧ en T n s - s = (w.length : Int)) && (List.range w.length).all (fun i => decide (T (s + (i : Int)) = w.getD i 0))
theorem isW_t {w : List Int} : isW T n s w = true ↔ kd T n s = 1 ∧ en T n s - s = (w.length : Int) ∧ ∀ i : Nat, i < w.length → T (s + (i : Int)) = w.getD i 0 := by
  unfold isW
  rw [Bool.and_eq_true, decide_eq_true_iff, List.all_eq_true]
  constructor
  · rintro ⟨⟨a, b⟩, h⟩
    exact ⟨a, b, fun i hi => of_decide_eq_true (h i (List.mem_range.mpr hi))⟩
  · rintro ⟨a, b, h⟩
    exact ⟨⟨a, b⟩, fun i hi => decide_eq_true (h i (List.mem_range.mp hi))⟩
/-- the sign c stands at s -/
def isS (T : Int → Int) (n s c : Int) : Bool := decide (kd T n s = 3 ∧ T s = c)
theorem isS_t {c : Int} : isS T n s c = true ↔ kd T n s = 3 ∧ T s = c := decide_eq_true_iff
/-- the number of k digits from s on -/
def nbF (T : Int → Int) (s : Int) : Nat → Int
  | 0 => 0
  | k + 1 => nbF T s k * 10 + (T (s + (k : Int)) - 48)
def nb (T : Int → Int) (n s : Int) : Int := nbF T s (en T n s - s).toNat
def isN (T : Int → Int) (n s lo hi : Int) : Bool := decide (kd T n s = 2 ∧ en T n s - s ≤ 4 ∧ lo ≤ nb T n s ∧ nb T n s ≤ hi)
theorem isN_t {lo hi : Int} : isN T n s lo hi = true ↔ kd T n s = 2 ∧ en T n s - s ≤ 4 ∧ lo ≤ nb T n s ∧ nb T n s ≤ hi := decide_eq_true_iff
theorem nbF_b : ∀ k : Nat, (∀ i : Nat, i < k → 48 ≤ T (s + (i : Int)) ∧ T (s + (i : Int)) ≤ 57) → 0 ≤ nbF T s k ∧ nbF T s k < 10 ^ k
  | 0, _ => by show (0 : Int) ≤ 0 ∧ (0 : Int) < 10 ^ 0; decide
  | k + 1, h => by
    have ih := nbF_b k (fun i hi => h i (by omega))
    have hk := h k (by omega)
    show 0 ≤ nbF T s k * 10 + (T (s + (k : Int)) - 48) ∧ nbF T s k * 10 + (T (s + (k : Int)) - 48) < 10 ^ (k + 1)
    have e : (10 : Int) ^ (k + 1) = 10 ^ k * 10 := Int.pow_succ 10 k
    omega
/-- the letters of a word as a number -/
def cdF (T : Int → Int) (s : Int) : Nat → Int
  | 0 => 0
  | k + 1 => cdF T s k * 27 + (T (s + (k : Int)) - 96)
def cdR : List Int → Int
  | [] => 0
  | c :: t => cdR t * 27 + (c - 96)
theorem cdR_b : ∀ {l : List Int}, (∀ c ∈ l, 97 ≤ c ∧ c ≤ 122) → 0 ≤ cdR l
  | [], _ => Int.le_refl 0
  | c :: t, h => by
    have := cdR_b (l := t) (fun x hx => h x (List.mem_cons_of_mem _ hx))
    have := h c List.mem_cons_self
    show 0 ≤ cdR t * 27 + (c - 96)
    omega
theorem cdF_b : ∀ {k : Nat}, (∀ i : Nat, i < k → 97 ≤ T (s + (i : Int)) ∧ T (s + (i : Int)) ≤ 122) → 0 ≤ cdF T s k
  | 0, _ => Int.le_refl 0
  | k + 1, h => by
    have := cdF_b (k := k) (fun i hi => h i (by omega))
    have := h k (by omega)
    show 0 ≤ cdF T s k * 27 + (T (s + (k : Int)) - 96)
    omega
theorem cdF_lt : ∀ {k : Nat}, (∀ i : Nat, i < k → 97 ≤ T (s + (i : Int)) ∧ T (s + (i : Int)) ≤ 122) → cdF T s k < 27 ^ k
  | 0, _ => by show (0 : Int) < 27 ^ 0; decide
  | k + 1, h => by
    have := cdF_lt (k := k) (fun i hi => h i (by omega))
    have := h k (by omega)
    have e : (27 : Int) ^ (k + 1) = 27 ^ k * 27 := Int.pow_succ 27 k
    show cdF T s k * 27 + (T (s + (k : Int)) - 96) < 27 ^ (k + 1)
    omega
theorem cd_inj : ∀ (k : Nat) (l : List Int), (∀ i : Nat, i < k → 97 ≤ T (s + (i : Int)) ∧ T (s + (i : Int)) ≤ 122) → (∀ c ∈ l, 97 ≤ c ∧ c ≤ 122) → (cdF T s k = cdR l ↔ l.length = k ∧ ∀ i : Nat, i < k → T (s + (i : Int)) = l.reverse.getD i 0)
  | 0, [], _, _ => ⟨fun _ => ⟨rfl, fun i hi => absurd hi (by omega)⟩, fun _ => rfl⟩
  | 0, c :: t, _, h => by
    have h1 := cdR_b (l := t) (fun x hx => h x (List.mem_cons_of_mem _ hx))
    have h2 := h c List.mem_cons_self
    constructor
    · intro e
      have e : (0 : Int) = cdR t * 27 + (c - 96) := e
      omega
    · intro e; exact absurd e.1 (by rw [List.length_cons]; omega)
  | k + 1, [], h, _ => by
    have h1 := cdF_b (k := k) (fun i hi => h i (by omega))
    have h2 := h k (by omega)
    constructor
    · intro e
      have e : cdF T s k * 27 + (T (s + (k : Int)) - 96) = (0 : Int) := e
      omega
    · intro e; exact absurd e.1 (by rw [List.length_nil]; omega)
  | k + 1, c :: t, h, hl => by
    have ih := cd_inj k t (fun i hi => h i (by omega)) (fun x hx => hl x (List.mem_cons_of_mem _ hx))
    have h1 := cdR_b (l := t) (fun x hx => hl x (List.mem_cons_of_mem _ hx))
    have h2 := hl c List.mem_cons_self
    have h3 := cdF_b (k := k) (fun i hi => h i (by omega))
    have h4 := h k (by omega)
    have lt : t.reverse.length = t.length := List.length_reverse
    constructor
    · intro e
      have e : cdF T s k * 27 + (T (s + (k : Int)) - 96) = cdR t * 27 + (c - 96) := e
      obtain ⟨a, b⟩ := ih.mp (by omega)
      refine ⟨by rw [List.length_cons, a], fun i hi => ?_⟩
      rw [List.reverse_cons, List.getD_eq_getElem?_getD]
      by_cases y : i < k
      · rw [List.getElem?_append_left (by omega), ← List.getD_eq_getElem?_getD]
        exact b i y
      · have : i = k := by omega
        subst this
        rw [List.getElem?_append_right (by omega), lt, a, Nat.sub_self]
        show _ = c
        omega
    · rintro ⟨a, b⟩
      rw [List.length_cons] at a
      have b1 : ∀ i : Nat, i < k → T (s + (i : Int)) = t.reverse.getD i 0 := fun i hi => by
        have := b i (by omega)
        rw [List.reverse_cons, List.getD_eq_getElem?_getD, List.getElem?_append_left (by omega), ← List.getD_eq_getElem?_getD] at this
        exact this
      have b2 := b k (by omega)
      rw [List.reverse_cons, List.getD_eq_getElem?_getD, List.getElem?_append_right (by omega), lt, show k - t.length = 0 by omega] at b2
      have b2 : T (s + (k : Int)) = c := b2
      have := ih.mpr ⟨by omega, b1⟩
      show cdF T s k * 27 + (T (s + (k : Int)) - 96) = cdR t * 27 + (c - 96)
      omega
theorem word_l (h : kd T n s = 1) : ∀ i : Nat, (i : Int) < en T n s - s → 97 ≤ T (s + (i : Int)) ∧ T (s + (i : Int)) ≤ 122 := fun i hi => by
  rw [en_1 h] at hi
  exact cW_t.mp (tkr_in (n := n) (p := s) (by omega) (by omega))
theorem num_l (h : kd T n s = 2) : ∀ i : Nat, (i : Int) < en T n s - s → 48 ≤ T (s + (i : Int)) ∧ T (s + (i : Int)) ≤ 57 := fun i hi => by
  rw [en_2 h] at hi
  exact cN_t.mp (tkr_in (n := n) (p := s) (by omega) (by omega))
theorem nb_b (h : kd T n s = 2) (h4 : en T n s - s ≤ 4) : 0 ≤ nb T n s ∧ nb T n s ≤ 9999 := by
  have lt := (kd_2.mp h).1
  have e := en_b (T := T) lt
  have b := nbF_b (T := T) (s := s) (en T n s - s).toNat (fun i hi => num_l h i (by omega))
  unfold nb
  have p4 : ∀ k : Nat, k ≤ 4 → (10 : Int) ^ k ≤ 10000 := fun k hk => by
    have : k = 0 ∨ k = 1 ∨ k = 2 ∨ k = 3 ∨ k = 4 := by omega
    rcases this with rfl | rfl | rfl | rfl | rfl <;> decide
  have := p4 (en T n s - s).toNat (by omega)
  omega
/-- a word by its number -/
theorem isW_c {w : List Int} {W : Int} (hw : ∀ c ∈ w.reverse, 97 ≤ c ∧ c ≤ 122) (hl : w.length ≤ 10) (hW : cdR w.reverse = W) : isW T n s w = true ↔ kd T n s = 1 ∧ en T n s - s ≤ 10 ∧ cdF T s (en T n s - s).toNat = W := by
  rw [isW_t, ← hW]
  constructor
  · rintro ⟨a, b, h⟩
    refine ⟨a, by omega, ?_⟩
    refine (cd_inj _ _ (fun i hi => word_l a i (by omega)) hw).mpr ⟨by rw [List.length_reverse]; omega, fun i hi => ?_⟩
    rw [List.reverse_reverse]; exact h i (by omega)
  · rintro ⟨a, b, h⟩
    have lt := (kd_1.mp a).1
    have e := en_b (T := T) lt
    obtain ⟨x, y⟩ := (cd_inj _ _ (fun i hi => word_l a i (by omega)) hw).mp h
    rw [List.length_reverse] at x
    refine ⟨a, by omega, fun i hi => ?_⟩
    have := y i (by omega)
    rw [List.reverse_reverse] at this; exact this
end TOK
