-- ===== PART A: goes FIRST, ahead of the names: the tables' words, and 'selects' of the private methods out of them =====
/-- a private method of a class that the tables say can be made, by its rows of tables_1 -/
def lw_okq (q : MethodName × Nat) : Prop := (q.1.cls ≠ "java/lang/invoke/MethodHandle" ∧ q.1.cls ≠ "java/lang/invoke/VarHandle") ∧ Cond.instantiable q.1.cls q.2 ∈ tables_1 ∧ Cond.privateMethod q.1 ∈ tables_1 ∧ Cond.instanceMethod q.1 ∈ tables_1
/-- the words of a list that stand behind so many others each -/
def am_pk : List Nat → List Cond → List Cond
  | [], _ => []
  | g :: gs, ts => match ts.drop g with
    | [] => []
    | t :: r => t :: am_pk gs r
theorem am_pk_sub : ∀ (gs : List Nat) (ts : List Cond), (am_pk gs ts).Sublist ts
  | [], ts => List.nil_sublist ts
  | g :: gs, ts => by
    unfold am_pk
    split
    · exact List.nil_sublist ts
    · rename_i t r h
      have h1 : (t :: r).Sublist ts := h ▸ List.drop_sublist g ts
      exact ((am_pk_sub gs r).cons_cons t).trans h1
theorem am_pk_in {gs : List Nat} {ts ws : List Cond} (h : am_pk gs ts = ws) : ∀ w ∈ ws, w ∈ ts := fun w hw => (am_pk_sub gs ts).subset (h.symm ▸ hw)
def lw_privs_1 : List (MethodName × Nat) := [(⟨"MillRow", "refuse", "(I)I"⟩, 18), (⟨"MillRow$Reader", "split", "(I)V"⟩, 11), (⟨"MillRow$Reader", "step", "()V"⟩, 11), (⟨"MillRow$Reader", "takesWheel", "(LMillRow$Wheel;)Z"⟩, 11), (⟨"MillRow$Reader", "takesWord", "(Ljava/lang/String;)Z"⟩, 11), (⟨"MillRow$Reader", "isWord", "(Ljava/lang/String;)Z"⟩, 11), (⟨"MillRow$Reader", "takesNumber", "(II)Z"⟩, 11), (⟨"MillRow$Reader", "takesSign", "(I)Z"⟩, 11), (⟨"MillRow$Reader", "isSign", "(I)Z"⟩, 11), (⟨"MillRow$Reader", "takesStatement", "(LMillRow$Mill;)Z"⟩, 11), (⟨"MillRow$Reader", "takesAny", "(LMillRow$Rules;I)Z"⟩, 11), (⟨"MillRow$Reader", "takesAll", "(LMillRow$Rules;I)Z"⟩, 11), (⟨"MillRow$Reader", "takesOne", "(LMillRow$Rules;I)Z"⟩, 11), (⟨"MillRow", "toldMill", "(I)LMillRow$Mill;"⟩, 18), (⟨"MillRow", "overWheel", "(I)LMillRow$Wheel;"⟩, 18), (⟨"MillRow$Wheel", "underWork", "(III)J"⟩, 10)]
def lw_privs_2 : List (MethodName × Nat) := [(⟨"MillRow", "moreByOneFlow", "(LMillRow$Wheel;IIIJ)I"⟩, 18), (⟨"MillRow", "refusal", "(I)Z"⟩, 18), (⟨"MillRow", "toldMills", "()I"⟩, 18), (⟨"MillRow$Brook", "lookBelow", "([LMillRow$Mill;)I"⟩, 14), (⟨"MillRow$Brook", "today", "()I"⟩, 14), (⟨"MillRow$Brook", "passMill", "(LMillRow$Mill;ILMillRow$Plan;)I"⟩, 14), (⟨"MillRow$Rules", "allows", "(II)Z"⟩, 6), (⟨"MillRow$Rules", "compares", "(I)Z"⟩, 6), (⟨"MillRow", "isShift", "(II)Z"⟩, 18), (⟨"MillRow", "shifters", "()I"⟩, 18), (⟨"MillRow", "dayIsLeft", "()Z"⟩, 18), (⟨"MillRow", "isWay", "(I)Z"⟩, 18), (⟨"MillRow", "tryWay", "(III)V"⟩, 18), (⟨"MillRow", "groundBy", "(II)J"⟩, 18), (⟨"MillRow", "isRest", "(I)Z"⟩, 18), (⟨"MillRow", "noted", "(LMillRow$Pairs;II)I"⟩, 18)]
def lw_privs_3 : List (MethodName × Nat) := [(⟨"MillRow", "weighs", "(I)J"⟩, 18), (⟨"MillRow", "setYield", "(I)J"⟩, 18), (⟨"MillRow", "setPrice", "(I)I"⟩, 18), (⟨"MillRowModel", "next", "()V"⟩, 74), (⟨"MillRowModel", "here", "()I"⟩, 74), (⟨"MillRowModel", "readWheel", "()V"⟩, 74), (⟨"MillRowModel", "needs", "(J)V"⟩, 74), (⟨"MillRowModel", "takes", "(J)Z"⟩, 74), (⟨"MillRowModel", "is", "(J)Z"⟩, 74), (⟨"MillRowModel", "errs", "()V"⟩, 74), (⟨"MillRowModel", "numeral", "(II)I"⟩, 74), (⟨"MillRowModel", "ends", "()V"⟩, 74), (⟨"MillRowModel", "readStatement", "()V"⟩, 74), (⟨"MillRowModel", "readGate", "()V"⟩, 74), (⟨"MillRowModel", "readCondition", "()V"⟩, 74), (⟨"MillRowModel", "readTest", "()V"⟩, 74)]
def lw_privs_4 : List (MethodName × Nat) := [(⟨"MillRowModel", "wordHere", "()I"⟩, 74), (⟨"MillRowModel", "step", "(IIII)V"⟩, 74), (⟨"MillRowModel", "closes", "()Z"⟩, 74), (⟨"MillRowModel", "refuses", "(I)I"⟩, 74), (⟨"MillRowModel", "copies", "(II)V"⟩, 74), (⟨"MillRowModel", "isOverMill", "(I)Z"⟩, 74), (⟨"MillRowModel", "isMill", "(I)Z"⟩, 74), (⟨"MillRowModel", "placesOf", "(I)I"⟩, 74), (⟨"MillRowModel", "placeOf", "(II)I"⟩, 74), (⟨"MillRowModel", "hasOf", "(IIII)I"⟩, 74), (⟨"MillRowModel", "getsOf", "(III)I"⟩, 74), (⟨"MillRowModel", "offeredOf", "(III)I"⟩, 74), (⟨"MillRowModel", "splashOf", "(II)I"⟩, 74), (⟨"MillRowModel", "holdsOf", "(III)I"⟩, 74), (⟨"MillRowModel", "capOf", "(I)I"⟩, 74), (⟨"MillRowModel", "thrownOf", "(II)I"⟩, 74)]
def lw_privs_5 : List (MethodName × Nat) := [(⟨"MillRowModel", "sumOf", "(IIIZ)J"⟩, 74), (⟨"MillRowModel", "bucketWork", "(III)J"⟩, 74), (⟨"MillRowModel", "isWork", "(IIII)Z"⟩, 74), (⟨"MillRowModel", "workOf", "(IIII)J"⟩, 74), (⟨"MillRowModel", "yieldOf", "(IIIII)J"⟩, 74), (⟨"MillRowModel", "bestPace", "(IIII)I"⟩, 74), (⟨"MillRowModel", "tried", "(III)J"⟩, 74), (⟨"MillRowModel", "isNot", "()Z"⟩, 74), (⟨"MillRowModel", "tolds", "()I"⟩, 74), (⟨"MillRowModel", "byRules", "()V"⟩, 74), (⟨"MillRowModel", "hour", "(I)V"⟩, 74), (⟨"MillRowModel", "mills", "(IIII)I"⟩, 74), (⟨"MillRowModel", "behind", "(I)I"⟩, 74), (⟨"MillRowModel", "levelOf", "(II)I"⟩, 74), (⟨"MillRowModel", "gateOf", "(II)I"⟩, 74), (⟨"MillRowModel", "openOf", "(I)I"⟩, 74)]
def lw_privs_6 : List (MethodName × Nat) := [(⟨"MillRowModel", "holdsAll", "(I)Z"⟩, 74), (⟨"MillRowModel", "shiftOf", "(I)I"⟩, 74), (⟨"MillRowModel", "lastOf", "(I)I"⟩, 74), (⟨"MillRowModel", "isShift", "(II)Z"⟩, 74), (⟨"MillRowModel", "hasDay", "()Z"⟩, 74), (⟨"MillRowModel", "isWay", "(I)Z"⟩, 74), (⟨"MillRowModel", "shiftMany", "()I"⟩, 74), (⟨"MillRowModel", "tryShift", "(III)V"⟩, 74), (⟨"MillRowModel", "copyState", "(II)V"⟩, 74), (⟨"MillRowModel", "shiftMills", "()I"⟩, 74), (⟨"MillRowModel", "tryAll", "(II)V"⟩, 74), (⟨"MillRowModel", "isRest", "(I)Z"⟩, 74), (⟨"MillRowModel", "weighed", "(I)J"⟩, 74), (⟨"MillRowModel", "served", "()I"⟩, 74)]
def lw_privs : List (MethodName × Nat) := lw_privs_1 ++ (lw_privs_2 ++ (lw_privs_3 ++ (lw_privs_4 ++ (lw_privs_5 ++ (lw_privs_6)))))
def lw_tbl : List Cond := k2_sels lw_privs ++ tables_1
def lw_cl : List (String × Nat) := [("MillRow", 18), ("MillRow$Reader", 11), ("MillRow$Mill", 5), ("MillRow$Wheel", 10), ("MillRow$Bucket", 15), ("MillRow$Rules", 6), ("MillRow$Brook", 14), ("MillRow$Plan", 3), ("MillRow$Pairs", 3), ("MillRowModel", 74)]
set_option maxRecDepth 100000 in
set_option maxHeartbeats 4000000 in
theorem lw_pk1 : am_pk [20, 7, 43, 5, 5, 115, 57, 63, 19, 707] tables_1 = lw_cl.map (fun q => Cond.instantiable q.1 q.2) := rfl
set_option maxRecDepth 100000 in
set_option maxHeartbeats 4000000 in
theorem lw_pk2 : am_pk [432, 10, 6, 15, 4, 3, 53, 9, 3, 21, 9, 3, 3, 38, 29, 49, 58, 20, 11, 7, 4, 5, 14, 5, 38, 3, 3, 3, 6, 17, 7, 15, 11, 63, 3, 277, 3, 10, 4, 3, 3, 3, 5, 8, 3, 8, 4, 4, 3, 8, 3, 5, 3, 23, 3, 9, 3, 3, 3, 3, 3, 3, 3, 3, 3, 4, 12, 4, 13, 8, 15, 12, 23, 3, 3, 3, 3, 3, 3, 3, 3, 3, 15, 7, 3, 5, 4, 3, 3, 3, 7, 3, 19, 77] tables_1 = lw_privs.map (fun q => Cond.privateMethod q.1) := rfl
set_option maxRecDepth 100000 in
set_option maxHeartbeats 4000000 in
theorem lw_pk3 : am_pk [433, 10, 6, 15, 4, 3, 53, 9, 3, 21, 9, 3, 3, 38, 29, 49, 58, 20, 11, 7, 4, 5, 14, 5, 38, 3, 3, 3, 6, 17, 7, 15, 11, 63, 3, 277, 3, 10, 4, 3, 3, 3, 5, 8, 3, 8, 4, 4, 3, 8, 3, 5, 3, 23, 3, 9, 3, 3, 3, 3, 3, 3, 3, 3, 3, 4, 12, 4, 13, 8, 15, 12, 23, 3, 3, 3, 3, 3, 3, 3, 3, 3, 15, 7, 3, 5, 4, 3, 3, 3, 7, 3, 19, 77] tables_1 = lw_privs.map (fun q => Cond.instanceMethod q.1) := rfl
def lw_ix : List Nat := [0, 1, 1, 1, 1, 1, 1, 1, 1, 1, 1, 1, 1, 0, 0, 3, 0, 0, 0, 6, 6, 6, 5, 5, 0, 0, 0, 0, 0, 0, 0, 0, 0, 0, 0, 9, 9, 9, 9, 9, 9, 9, 9, 9, 9, 9, 9, 9, 9, 9, 9, 9, 9, 9, 9, 9, 9, 9, 9, 9, 9, 9, 9, 9, 9, 9, 9, 9, 9, 9, 9, 9, 9, 9, 9, 9, 9, 9, 9, 9, 9, 9, 9, 9, 9, 9, 9, 9, 9, 9, 9, 9, 9, 9]
set_option maxRecDepth 100000 in
set_option maxHeartbeats 4000000 in
theorem lw_pk4 : lw_privs.map (fun q => (q.1.cls, q.2)) = lw_ix.map (fun i => lw_cl.getD i ("MillRow", 0)) := rfl
theorem lw_pk5 : ∀ i ∈ lw_ix, i < lw_cl.length := by decide +kernel
theorem lw_pk6 : ∀ e ∈ lw_cl, e.1 ≠ "java/lang/invoke/MethodHandle" ∧ e.1 ≠ "java/lang/invoke/VarHandle" := by decide +kernel
theorem lw_privs_ok : ∀ q ∈ lw_privs, lw_okq q := fun q hq => by
  have h3 : (q.1.cls, q.2) ∈ lw_cl := by
    have h := List.mem_map_of_mem (f := fun q : MethodName × Nat => (q.1.cls, q.2)) hq
    rw [lw_pk4] at h
    obtain ⟨i, hi, e⟩ := List.mem_map.mp h
    have hl := lw_pk5 i hi
    rw [← e, List.getD_eq_getElem?_getD, List.getElem?_eq_getElem hl]
    exact List.getElem_mem hl
  exact ⟨lw_pk6 _ h3, am_pk_in lw_pk1 _ (List.mem_map_of_mem (f := fun q : String × Nat => Cond.instantiable q.1 q.2) h3), am_pk_in lw_pk2 _ (List.mem_map_of_mem (f := fun q : MethodName × Nat => Cond.privateMethod q.1) hq), am_pk_in lw_pk3 _ (List.mem_map_of_mem (f := fun q : MethodName × Nat => Cond.instanceMethod q.1) hq)⟩
