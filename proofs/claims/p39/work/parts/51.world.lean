/-! the texts at the start, printed by a program (wip/gen/gen_txt.py) -/
def tmS (i : Nat) : Term := .string "MillRow$Reader" (((am_SL.getD i (0, 0, 0)).1) % 100000)
def tmV (i : Nat) : Term := .field (tmS i) "java/lang/String" "value" "[B"
def lnS (i : Nat) : Nat := (am_sb.getD i []).length
def fl0 : Cond → List Cond
  | .and a b => fl0 a ++ fl0 b
  | .tt => []
  | c => [c]
theorem fl0_before {args : Array Value} {s : State} (T : Cond) : T.before args s = true → ∀ c ∈ fl0 T, c.before args s = true := by
  induction T with
  | and a b iha ihb =>
    intro h c hc
    rw [Cond.before_and, Bool.and_eq_true] at h
    simp only [fl0, List.mem_append] at hc
    rcases hc with hc | hc
    · exact iha h.1 c hc
    · exact ihb h.2 c hc
  | tt =>
    intro h c hc
    simp only [fl0, List.not_mem_nil] at hc
  | _ =>
    intro h c hc
    simp only [fl0, List.mem_singleton] at hc
    rw [hc]; exact h
abbrev flN : List Cond := fl0 (Jvm.Cond.and given_1 narrow_1)
/-- those at the places told (ascending), in one pass -/
def pick : Nat → List Nat → List Cond → List Cond
  | _, [], _ => []
  | _, _ :: _, [] => []
  | i, p :: ps, c :: cs => match Nat.beq i p with
    | true => c :: pick (i + 1) ps cs
    | false => pick (i + 1) (p :: ps) cs
theorem pick_mem : ∀ (cs : List Cond) (i : Nat) (ps : List Nat), ∀ w ∈ pick i ps cs, w ∈ cs
  | [], i, [], w, h => by cases h
  | [], i, p :: ps, w, h => by cases h
  | c :: cs, i, [], w, h => by cases h
  | c :: cs, i, p :: ps, w, h => by
    unfold pick at h
    split at h
    · rcases List.mem_cons.mp h with rfl | h
      · exact List.mem_cons_self
      · exact List.mem_cons_of_mem _ (pick_mem cs _ _ w h)
    · exact List.mem_cons_of_mem _ (pick_mem cs _ _ w h)
abbrev fp_ex : List Nat := [29, 38, 47, 58, 69, 84, 97, 112, 125, 141, 158, 176, 194, 214, 233, 254, 277, 302, 327, 352, 380, 407]
set_option maxRecDepth 100000 in
set_option maxHeartbeats 4000000 in
theorem fl_ex : (List.range 22).map (fun i => Cond.exactly (tmS i) "java/lang/String") = pick 0 fp_ex flN := rfl
abbrev fp_co : List Nat := [30, 39, 48, 59, 70, 85, 98, 113, 126, 142, 159, 177, 195, 215, 234, 255, 278, 303, 328, 353, 381, 408]
set_option maxRecDepth 100000 in
set_option maxHeartbeats 4000000 in
theorem fl_co : (List.range 22).map (fun i => Cond.eq (.field (tmS i) "java/lang/String" "coder" "B") (.int 0)) = pick 0 fp_co flN := rfl
abbrev fp_ar : List Nat := [31, 40, 49, 60, 71, 86, 99, 114, 127, 143, 160, 178, 196, 216, 235, 256, 279, 304, 329, 354, 382, 409]
set_option maxRecDepth 100000 in
set_option maxHeartbeats 4000000 in
theorem fl_ar : (List.range 22).map (fun i => Cond.arrayOf (tmV i) .byte) = pick 0 fp_ar flN := rfl
abbrev fp_le : List Nat := [32, 41, 50, 61, 72, 87, 100, 115, 128, 144, 161, 179, 197, 217, 236, 257, 280, 305, 330, 355, 383, 410]
set_option maxRecDepth 100000 in
set_option maxHeartbeats 4000000 in
theorem fl_le : (List.range 22).map (fun i => Cond.eq (.length (tmV i)) (.int (Int32.ofNat (lnS i)))) = pick 0 fp_le flN := rfl
abbrev fp_el : List Nat := [33, 34, 35, 36, 37, 42, 43, 44, 45, 51, 52, 53, 54, 55, 62, 63, 64, 65, 73, 74, 75, 76, 77, 78, 79, 88, 89, 90, 91, 101, 102, 103, 104, 105, 116, 117, 129, 130, 131, 132, 145, 146, 147, 148, 162, 163, 164, 165, 180, 181, 182, 198, 199, 200, 201, 218, 219, 237, 238, 239, 258, 259, 260, 261, 281, 282, 283, 284, 285, 306, 307, 308, 309, 331, 332, 333, 356, 357, 358, 359, 360, 384, 385, 386, 411, 412]
set_option maxRecDepth 100000 in
set_option maxHeartbeats 4000000 in
theorem fl_el : (List.range 22).flatMap (fun i => (List.range (lnS i)).map fun j => Cond.eq (.elem (tmV i) (.int (Int32.ofNat j))) (.int (Int32.ofInt ((am_sb.getD i []).getD j 0)))) = pick 0 fp_el flN := rfl
abbrev fp_ne : List Nat := [46, 56, 57, 66, 67, 68, 80, 81, 82, 83, 92, 93, 94, 95, 96, 106, 107, 108, 109, 110, 111, 118, 119, 120, 121, 122, 123, 124, 133, 134, 135, 136, 137, 138, 139, 140, 149, 150, 151, 152, 153, 154, 155, 156, 157, 166, 167, 168, 169, 170, 171, 172, 173, 174, 175, 183, 184, 185, 186, 187, 188, 189, 190, 191, 192, 193, 202, 203, 204, 205, 206, 207, 208, 209, 210, 211, 212, 213, 220, 221, 222, 223, 224, 225, 226, 227, 228, 229, 230, 231, 232, 240, 241, 242, 243, 244, 245, 246, 247, 248, 249, 250, 251, 252, 253, 262, 263, 264, 265, 266, 267, 268, 269, 270, 271, 272, 273, 274, 275, 276, 286, 287, 288, 289, 290, 291, 292, 293, 294, 295, 296, 297, 298, 299, 300, 301, 310, 311, 312, 313, 314, 315, 316, 317, 318, 319, 320, 321, 322, 323, 324, 325, 326, 334, 335, 336, 337, 338, 339, 340, 341, 342, 343, 344, 345, 346, 347, 348, 349, 350, 351, 361, 362, 363, 364, 365, 366, 367, 368, 369, 370, 371, 372, 373, 374, 375, 376, 377, 378, 379, 387, 388, 389, 390, 391, 392, 393, 394, 395, 396, 397, 398, 399, 400, 401, 402, 403, 404, 405, 406, 413, 414, 415, 416, 417, 418, 419, 420, 421, 422, 423, 424, 425, 426, 427, 428, 429, 430, 431, 432, 433]
set_option maxRecDepth 100000 in
set_option maxHeartbeats 4000000 in
theorem fl_ne : (List.range 22).flatMap (fun j => (List.range j).map fun i => Cond.not (Cond.eq (tmS i) (tmS j))) = pick 0 fp_ne flN := rfl
