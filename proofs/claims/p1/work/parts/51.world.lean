/-! the texts at the start, printed by a program (wip/gen/gen_txt.py) -/
def tmS (i : Nat) : Term := .string "MillRow$Reader" (((am_SL.getD i (0, 0, 0)).1) % 100000)
def tmV (i : Nat) : Term := .field (tmS i) "java/lang/String" "value" "[B"
def lnS (i : Nat) : Nat := (am_sb.getD i []).length
abbrev flN : List Cond := Jvm.Free.XT.flat (Jvm.Cond.and given_1 narrow_1)
/-- those at the places told (ascending), in one pass -/
def pick : Nat → List Nat → List Cond → List Cond
  | _, [], _ => []
  | _, _ :: _, [] => []
  | i, p :: ps, c :: cs => match Nat.beq i p with
    | true => c :: pick (i + 1) ps cs
    | false => pick (i + 1) (p :: ps) cs
theorem pick_mem : ∀ (cs : List Cond) (i : Nat) (ps : List Nat), ∀ w ∈ pick i ps cs, w ∈ cs
  | [], i, [], w, h => by cases h
  | [], i, p :: ps, w, h => by cases h
  | c :: cs, i, [], w, h => by cases h
  | c :: cs, i, p :: ps, w, h => by
    unfold pick at h
    split at h
    · rcases List.mem_cons.mp h with rfl | h
      · exact List.mem_cons_self
      · exact List.mem_cons_of_mem _ (pick_mem cs _ _ w h)
    · exact List.mem_cons_of_mem _ (pick_mem cs _ _ w h)
abbrev fp_ex : List Nat := [29, 38, 47, 58, 69, 84, 97, 112, 125, 141, 158, 176, 194, 214, 233, 254, 277, 302, 327, 352, 380, 407]
set_option maxRecDepth 100000 in
set_option maxHeartbeats 4000000 in
theorem fl_ex : (List.range 22).map (fun i => Cond.exactly (tmS i) "java/lang/String") = pick 0 fp_ex flN := rfl
