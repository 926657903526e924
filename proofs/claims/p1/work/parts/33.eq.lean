/-! equations, printed by a program -/
/-! 122: MillRow.count(I)I -/
def M_122 : List (Nat × List Nat) := []
def L_122_0 : List (Nat × EJ) := [(1, .tableswitch 126 0 9 #[55, 60, 68, 73, 80, 87, 94, 102, 110, 118], 55, 0, 0, 0, 0, 0), (56, .aload_n 0, 1, 0, 0, 0, 0, 0), (57, .invokevirtual 301, 3, 131, 0, 0, 8, 1), (60, .ireturn, 1, 1, 0, 0, 0, 0), (61, .aload_n 0, 1, 0, 0, 0, 0, 0), (62, .getfield 12, 3, 8, 0, 2, 0, 0), (65, .getfield 90, 3, 5, 1, 0, 0, 0), (68, .ireturn, 1, 1, 0, 0, 0, 0), (69, .aload_n 0, 1, 0, 0, 0, 0, 0), (70, .getfield 112, 3, 8, 7, 0, 0, 0), (73, .ireturn, 1, 1, 0, 0, 0, 0), (74, .aload_n 0, 1, 0, 0, 0, 0, 0), (75, .getfield 87, 3, 8, 17, 2, 0, 0), (78, .iconst 0, 1, 0, 0, 0, 0, 0), (79, .iaload, 1, 0, 0, 0, 0, 0), (80, .ireturn, 1, 1, 0, 0, 0, 0), (81, .aload_n 0, 1, 0, 0, 0, 0, 0), (82, .getfield 87, 3, 8, 17, 2, 0, 0), (85, .iconst 1, 1, 0, 0, 0, 0, 1), (86, .iaload, 1, 0, 0, 0, 0, 0), (87, .ireturn, 1, 1, 0, 0, 0, 0), (88, .aload_n 0, 1, 0, 0, 0, 0, 0), (89, .getfield 87, 3, 8, 17, 2, 0, 0), (92, .iconst 2, 1, 0, 0, 0, 0, 2), (93, .iaload, 1, 0, 0, 0, 0, 0), (94, .ireturn, 1, 1, 0, 0, 0, 0), (95, .aload_n 0, 1, 0, 0, 0, 0, 0), (96, .getfield 75, 3, 8, 13, 2, 0, 0), (99, .getfield 393, 3, 3, 2, 0, 0, 0), (102, .ireturn, 1, 1, 0, 0, 0, 0), (103, .aload_n 0, 1, 0, 0, 0, 0, 0), (104, .getfield 71, 3, 8, 12, 2, 0, 0), (107, .getfield 393, 3, 3, 2, 0, 0, 0), (110, .ireturn, 1, 1, 0, 0, 0, 0), (111, .aload_n 0, 1, 0, 0, 0, 0, 0), (112, .getfield 78, 3, 8, 14, 2, 0, 0), (115, .getfield 393, 3, 3, 2, 0, 0, 0), (118, .ireturn, 1, 1, 0, 0, 0, 0), (119, .aload_n 0, 1, 0, 0, 0, 0, 0), (120, .getfield 84, 3, 8, 16, 2, 0, 0), (123, .getfield 393, 3, 3, 2, 0, 0, 0), (126, .ireturn, 1, 1, 0, 0, 0, 0), (127, .iconst (-1), 1, 0, 0, 0, 0, (-1)), (128, .ireturn, 1, 1, 0, 0, 0, 0)]
def E_122_0 : Nat × EJ := (0, .iload_n 1, 1, 0, 0, 0, 0, 0)
theorem V_122_0 : (E_122_0 :: L_122_0).all (vld 122) = true := by decide +kernel
theorem c_122 {sc : SCR} {d : Nat} {Q : QJ} {g r : GH} {l0 l1 : Int} (h : ((9 : Int) + 1 = 0 + (10 : Nat)) ∧ (if l1 = 0 then okr 218 l0 8 ∧ Ce sc d 131 [(2, l0)] g r fun v1 g1 r1 => Q v1 g1 r1 else (if l1 = 1 then okr 218 l0 8 ∧ okr 218 (r l0 0) 5 ∧ Q (g (r l0 0) 1) g r else (if l1 = 2 then okr 218 l0 8 ∧ Q (g l0 7) g r else (if l1 = 3 then okr 218 l0 8 ∧ okI 218 (r l0 17) 11 0 ∧ Q (g (r l0 17) 0) g r else (if l1 = 4 then okr 218 l0 8 ∧ okI 218 (r l0 17) 11 1 ∧ Q (g (r l0 17) 1) g r else (if l1 = 5 then okr 218 l0 8 ∧ okI 218 (r l0 17) 11 2 ∧ Q (g (r l0 17) 2) g r else (if l1 = 6 then okr 218 l0 8 ∧ okr 218 (r l0 13) 3 ∧ Q (g (r l0 13) 2) g r else (if l1 = 7 then okr 218 l0 8 ∧ okr 218 (r l0 12) 3 ∧ Q (g (r l0 12) 2) g r else (if l1 = 8 then okr 218 l0 8 ∧ okr 218 (r l0 14) 3 ∧ Q (g (r l0 14) 2) g r else (if l1 = 9 then okr 218 l0 8 ∧ okr 218 (r l0 16) 3 ∧ Q (g (r l0 16) 2) g r else Q (-1) g r))))))))))) : Ce sc (d + 1) 122 [(2, l0), (0, l1)] g r Q :=
  Ce_of rfl (RS_WQ (sc := sc) (d := d) (k := 122) (Q := Q) (L := L_122_0) (M := M_122) (e := E_122_0) (ls := [(2, l0), (0, l1)]) (st := []) (g := g) (r := r) V_122_0 8 h)
/-! 123: MillRow.within(III)Z -/
def M_123 : List (Nat × List Nat) := []
def L_123_0 : List (Nat × EJ) := [(1, .iload_n 1, 1, 0, 0, 0, 0, 0), (2, .if_icmp .lt 12, 3, 14, 0, 0, 0, 0), (5, .iload_n 0, 1, 0, 0, 0, 0, 0), (6, .iload_n 2, 1, 0, 0, 0, 0, 0), (7, .if_icmp .gt 7, 3, 14, 0, 0, 0, 0), (10, .iconst 1, 1, 0, 0, 0, 0, 1), (11, .goto 4, 3, 15, 0, 0, 0, 0), (14, .iconst 0, 1, 0, 0, 0, 0, 0), (15, .ireturn, 1, 2, 0, 0, 0, 0)]
def E_123_0 : Nat × EJ := (0, .iload_n 0, 1, 0, 0, 0, 0, 0)
theorem V_123_0 : (E_123_0 :: L_123_0).all (vld 123) = true := by decide +kernel
theorem c_123 {sc : SCR} {d : Nat} {Q : QJ} {g r : GH} {l0 l1 l2 : Int} (h : (if l0 < l1 then ((0 : Int) = 0 ∨ (0 : Int) = 1) ∧ Q 0 g r else (if l2 < l0 then ((0 : Int) = 0 ∨ (0 : Int) = 1) ∧ Q 0 g r else ((1 : Int) = 0 ∨ (1 : Int) = 1) ∧ Q 1 g r))) : Ce sc (d + 1) 123 [(0, l0), (0, l1), (0, l2)] g r Q :=
  Ce_of rfl (RS_WQ (sc := sc) (d := d) (k := 123) (Q := Q) (L := L_123_0) (M := M_123) (e := E_123_0) (ls := [(0, l0), (0, l1), (0, l2)]) (st := []) (g := g) (r := r) V_123_0 10 h)
/-! 124: MillRow.isFlow(I)Z -/
def M_124 : List (Nat × List Nat) := []
def L_124_0 : List (Nat × EJ) := [(1, .iconst 0, 1, 0, 0, 0, 0, 0), (2, .ldc_w 261, 3, 0, 0, 0, 0, 99999), (5, .invokestatic 97, 3, 123, 3, 1, 8, 2), (8, .ireturn, 1, 2, 0, 0, 0, 0)]
def E_124_0 : Nat × EJ := (0, .iload_n 0, 1, 0, 0, 0, 0, 0)
theorem V_124_0 : (E_124_0 :: L_124_0).all (vld 124) = true := by decide +kernel
theorem c_124 {sc : SCR} {d : Nat} {Q : QJ} {g r : GH} {l0 : Int} (h : Ce sc d 123 [(0, l0), (0, 0), (0, 99999)] g r fun v1 g1 r1 => (v1 = 0 ∨ v1 = 1) ∧ Q v1 g1 r1) : Ce sc (d + 1) 124 [(0, l0)] g r Q :=
  Ce_of rfl (RS_WQ (sc := sc) (d := d) (k := 124) (Q := Q) (L := L_124_0) (M := M_124) (e := E_124_0) (ls := [(0, l0)]) (st := []) (g := g) (r := r) V_124_0 6 h)
/-! 125: MillRow.isPace(I)Z -/
def M_125 : List (Nat × List Nat) := []
def L_125_0 : List (Nat × EJ) := [(1, .iconst 1, 1, 0, 0, 0, 0, 1), (2, .sipush 300, 3, 0, 0, 0, 0, 300), (5, .invokestatic 97, 3, 123, 3, 1, 8, 2), (8, .ireturn, 1, 2, 0, 0, 0, 0)]
def E_125_0 : Nat × EJ := (0, .iload_n 0, 1, 0, 0, 0, 0, 0)
theorem V_125_0 : (E_125_0 :: L_125_0).all (vld 125) = true := by decide +kernel
theorem c_125 {sc : SCR} {d : Nat} {Q : QJ} {g r : GH} {l0 : Int} (h : Ce sc d 123 [(0, l0), (0, 1), (0, 300)] g r fun v1 g1 r1 => (v1 = 0 ∨ v1 = 1) ∧ Q v1 g1 r1) : Ce sc (d + 1) 125 [(0, l0)] g r Q :=
  Ce_of rfl (RS_WQ (sc := sc) (d := d) (k := 125) (Q := Q) (L := L_125_0) (M := M_125) (e := E_125_0) (ls := [(0, l0)]) (st := []) (g := g) (r := r) V_125_0 6 h)
/-! 126: MillRow.isBelow(I)Z -/
def M_126 : List (Nat × List Nat) := []
def L_126_0 : List (Nat × EJ) := [(1, .iconst 0, 1, 0, 0, 0, 0, 0), (2, .bipush 100, 2, 0, 0, 0, 0, 100), (4, .invokestatic 97, 3, 123, 3, 1, 8, 2), (7, .ireturn, 1, 2, 0, 0, 0, 0)]
def E_126_0 : Nat × EJ := (0, .iload_n 0, 1, 0, 0, 0, 0, 0)
theorem V_126_0 : (E_126_0 :: L_126_0).all (vld 126) = true := by decide +kernel
theorem c_126 {sc : SCR} {d : Nat} {Q : QJ} {g r : GH} {l0 : Int} (h : Ce sc d 123 [(0, l0), (0, 0), (0, 100)] g r fun v1 g1 r1 => (v1 = 0 ∨ v1 = 1) ∧ Q v1 g1 r1) : Ce sc (d + 1) 126 [(0, l0)] g r Q :=
  Ce_of rfl (RS_WQ (sc := sc) (d := d) (k := 126) (Q := Q) (L := L_126_0) (M := M_126) (e := E_126_0) (ls := [(0, l0)]) (st := []) (g := g) (r := r) V_126_0 6 h)
/-! 127: MillRow.isDay(I)Z -/
def M_127 : List (Nat × List Nat) := []
def L_127_0 : List (Nat × EJ) := [(1, .iconst 0, 1, 0, 0, 0, 0, 0), (2, .bipush 39, 2, 0, 0, 0, 0, 39), (4, .invokestatic 97, 3, 123, 3, 1, 8, 2), (7, .ireturn, 1, 2, 0, 0, 0, 0)]
def E_127_0 : Nat × EJ := (0, .iload_n 0, 1, 0, 0, 0, 0, 0)
theorem V_127_0 : (E_127_0 :: L_127_0).all (vld 127) = true := by decide +kernel
theorem c_127 {sc : SCR} {d : Nat} {Q : QJ} {g r : GH} {l0 : Int} (h : Ce sc d 123 [(0, l0), (0, 0), (0, 39)] g r fun v1 g1 r1 => (v1 = 0 ∨ v1 = 1) ∧ Q v1 g1 r1) : Ce sc (d + 1) 127 [(0, l0)] g r Q :=
  Ce_of rfl (RS_WQ (sc := sc) (d := d) (k := 127) (Q := Q) (L := L_127_0) (M := M_127) (e := E_127_0) (ls := [(0, l0)]) (st := []) (g := g) (r := r) V_127_0 6 h)
/-! 128: MillRow.dayIsLeft()Z -/
def M_128 : List (Nat × List Nat) := []
def L_128_0 : List (Nat × EJ) := [(1, .getfield 37, 3, 8, 4, 2, 0, 0), (4, .getfield 305, 3, 0, 0, 0, 0, 0), (7, .bipush 24, 2, 0, 0, 0, 0, 24), (9, .iadd, 1, 0, 0, 0, 0, 0), (10, .sipush 960, 3, 0, 0, 0, 0, 960), (13, .if_icmp .gt 7, 3, 20, 0, 0, 0, 0), (16, .iconst 1, 1, 0, 0, 0, 0, 1), (17, .goto 4, 3, 21, 0, 0, 0, 0), (20, .iconst 0, 1, 0, 0, 0, 0, 0), (21, .ireturn, 1, 2, 0, 0, 0, 0)]
def E_128_0 : Nat × EJ := (0, .aload_n 0, 1, 0, 0, 0, 0, 0)
theorem V_128_0 : (E_128_0 :: L_128_0).all (vld 128) = true := by decide +kernel
theorem c_128 {sc : SCR} {d : Nat} {Q : QJ} {g r : GH} {l0 : Int} (h : okr 218 l0 8 ∧ okr 218 (r l0 4) 0 ∧ (if 960 < (wr ((g (r l0 4) 0) + 24)) then ((0 : Int) = 0 ∨ (0 : Int) = 1) ∧ Q 0 g r else ((1 : Int) = 0 ∨ (1 : Int) = 1) ∧ Q 1 g r)) : Ce sc (d + 1) 128 [(2, l0)] g r Q :=
  Ce_of rfl (RS_WQ (sc := sc) (d := d) (k := 128) (Q := Q) (L := L_128_0) (M := M_128) (e := E_128_0) (ls := [(2, l0)]) (st := []) (g := g) (r := r) V_128_0 11 h)
/-! 129: MillRow.toldMill(I)LMillRow$Mill; -/
def M_129 : List (Nat × List Nat) := []
def L_129_0 : List (Nat × EJ) := [(1, .iconst 0, 1, 0, 0, 0, 0, 0), (2, .iconst 5, 1, 0, 0, 0, 0, 5), (3, .invokestatic 97, 3, 123, 3, 1, 8, 2), (6, .ifCond .eq 12, 3, 18, 0, 0, 0, 0), (9, .aload_n 0, 1, 0, 0, 0, 0, 0), (10, .getfield 18, 3, 8, 1, 2, 0, 0), (13, .iload_n 1, 1, 0, 0, 0, 0, 0), (14, .aaload, 1, 0, 0, 0, 0, 0), (15, .goto 4, 3, 19, 0, 0, 0, 0), (18, .aconst_null, 1, 0, 0, 0, 0, 0), (19, .astore_n 2, 1, 0, 0, 0, 0, 0), (20, .aload_n 2, 1, 0, 0, 0, 0, 0), (21, .ifnull 14, 3, 35, 0, 0, 0, 0), (24, .aload_n 2, 1, 0, 0, 0, 0, 0), (25, .getfield 425, 3, 2, 0, 0, 0, 0), (28, .ifCond .eq 7, 3, 35, 0, 0, 0, 0), (31, .aload_n 2, 1, 0, 0, 0, 0, 0), (32, .goto 4, 3, 36, 0, 0, 0, 0), (35, .aconst_null, 1, 0, 0, 0, 0, 0), (36, .areturn, 1, 0, 0, 0, 0, 0)]
def E_129_0 : Nat × EJ := (0, .iload_n 1, 1, 0, 0, 0, 0, 0)
theorem V_129_0 : (E_129_0 :: L_129_0).all (vld 129) = true := by decide +kernel
theorem c_129 {sc : SCR} {d : Nat} {Q : QJ} {g r : GH} {l0 l1 : Int} (h : Ce sc d 123 [(0, l1), (0, 0), (0, 5)] g r fun v1 g1 r1 => (if v1 = 0 then Q (-1) g1 r1 else okr 218 l0 8 ∧ (okI 218 (r1 l0 1) 14 l1 ∨ okI 218 (r1 l0 1) 15 l1) ∧ (if (r1 (r1 l0 1) l1) = -1 then Q (-1) g1 r1 else okr 218 (r1 (r1 l0 1) l1) 2 ∧ (if (g1 (r1 (r1 l0 1) l1) 0) = 0 then Q (-1) g1 r1 else Q (r1 (r1 l0 1) l1) g1 r1)))) : Ce sc (d + 1) 129 [(2, l0), (0, l1)] g r Q :=
  Ce_of rfl (RS_WQ (sc := sc) (d := d) (k := 129) (Q := Q) (L := L_129_0) (M := M_129) (e := E_129_0) (ls := [(2, l0), (0, l1), (9, 0)]) (st := []) (g := g) (r := r) V_129_0 20 h)
/-! 130: MillRow.overWheel(I)LMillRow$Wheel; -/
def M_130 : List (Nat × List Nat) := []
def L_130_0 : List (Nat × EJ) := [(1, .iload_n 1, 1, 0, 0, 0, 0, 0), (2, .invokevirtual 118, 3, 129, 1, 0, 8, 4), (5, .astore_n 2, 1, 0, 0, 0, 0, 0), (6, .aload_n 2, 1, 0, 0, 0, 0, 0), (7, .ifnull 20, 3, 27, 0, 0, 0, 0), (10, .aload_n 2, 1, 0, 0, 0, 0, 0), (11, .getfield 122, 3, 2, 1, 2, 0, 0), (14, .getfield 125, 3, 7, 0, 0, 0, 0), (17, .ifCond .eq 10, 3, 27, 0, 0, 0, 0), (20, .aload_n 2, 1, 0, 0, 0, 0, 0), (21, .getfield 122, 3, 2, 1, 2, 0, 0), (24, .goto 4, 3, 28, 0, 0, 0, 0), (27, .aconst_null, 1, 0, 0, 0, 0, 0), (28, .areturn, 1, 0, 0, 0, 0, 0)]
def E_130_0 : Nat × EJ := (0, .aload_n 0, 1, 0, 0, 0, 0, 0)
theorem V_130_0 : (E_130_0 :: L_130_0).all (vld 130) = true := by decide +kernel
theorem c_130 {sc : SCR} {d : Nat} {Q : QJ} {g r : GH} {l0 l1 : Int} (h : okr 218 l0 8 ∧ Ce sc d 129 [(2, l0), (0, l1)] g r fun v1 g1 r1 => (if v1 = -1 then Q (-1) g1 r1 else okr 218 v1 2 ∧ okr 218 (r1 v1 1) 7 ∧ (if (g1 (r1 v1 1) 0) = 0 then Q (-1) g1 r1 else okr 218 v1 2 ∧ Q (r1 v1 1) g1 r1))) : Ce sc (d + 1) 130 [(2, l0), (0, l1)] g r Q :=
  Ce_of rfl (RS_WQ (sc := sc) (d := d) (k := 130) (Q := Q) (L := L_130_0) (M := M_130) (e := E_130_0) (ls := [(2, l0), (0, l1), (9, 0)]) (st := []) (g := g) (r := r) V_130_0 15 h)
/-! 131: MillRow.toldMills()I -/
def M_131 : List (Nat × List Nat) := [(4, [])]
def L_131_0 : List (Nat × EJ) := [(1, .istore_n 1, 1, 0, 0, 0, 0, 0), (2, .iconst 0, 1, 0, 0, 0, 0, 0), (3, .istore_n 2, 1, 0, 0, 0, 0, 0)]
def E_131_0 : Nat × EJ := (0, .iconst 0, 1, 0, 0, 0, 0, 0)
theorem V_131_0 : (E_131_0 :: L_131_0).all (vld 131) = true := by decide +kernel
theorem c_131 {sc : SCR} {d : Nat} {Q : QJ} {g r : GH} {l0 : Int} (h : WQ sc d 131 Q 4 [(2, l0), (0, 0), (0, 0)] [] g r) : Ce sc (d + 1) 131 [(2, l0)] g r Q :=
  Ce_of rfl (RS_WQ (sc := sc) (d := d) (k := 131) (Q := Q) (L := L_131_0) (M := M_131) (e := E_131_0) (ls := [(2, l0), (9, 0), (9, 0)]) (st := []) (g := g) (r := r) V_131_0 6 h)
def L_131_4 : List (Nat × EJ) := [(5, .bipush 6, 2, 0, 0, 0, 0, 6), (7, .if_icmp .ge 25, 3, 32, 0, 0, 0, 0), (10, .iload_n 1, 1, 0, 0, 0, 0, 0), (11, .aload_n 0, 1, 0, 0, 0, 0, 0), (12, .iload_n 2, 1, 0, 0, 0, 0, 0), (13, .invokevirtual 118, 3, 129, 1, 0, 8, 4), (16, .ifnonnull 7, 3, 23, 0, 0, 0, 0), (19, .iconst 0, 1, 0, 0, 0, 0, 0), (20, .goto 4, 3, 24, 0, 0, 0, 0), (23, .iconst 1, 1, 0, 0, 0, 0, 1), (24, .iadd, 1, 0, 0, 0, 0, 0), (25, .istore_n 1, 1, 0, 0, 0, 0, 0), (26, .iinc 2 1, 3, 0, 0, 0, 0, 0), (29, .goto (-25), 3, 4, 0, 0, 0, 0), (32, .iload_n 1, 1, 0, 0, 0, 0, 0), (33, .ireturn, 1, 1, 0, 0, 0, 0)]
def E_131_4 : Nat × EJ := (4, .iload_n 2, 1, 0, 0, 0, 0, 0)
theorem V_131_4 : (E_131_4 :: L_131_4).all (vld 131) = true := by decide +kernel
theorem b_131_4 {sc : SCR} {d : Nat} {Q : QJ} {g r : GH} {l0 l1 l2 : Int} (h : (if l2 < 6 then okr 218 l0 8 ∧ Ce sc d 129 [(2, l0), (0, l2)] g r fun v1 g1 r1 => (if v1 = -1 then WQ sc d 131 Q 4 [(2, l0), (0, wr (l1 + 0)), (0, wr (l2 + 1))] [] g1 r1 else WQ sc d 131 Q 4 [(2, l0), (0, wr (l1 + 1)), (0, wr (l2 + 1))] [] g1 r1) else Q l1 g r)) : WQ sc d 131 Q 4 [(2, l0), (0, l1), (0, l2)] [] g r :=
  RS_WQ (sc := sc) (d := d) (k := 131) (Q := Q) (L := L_131_4) (M := M_131) (e := E_131_4) (ls := [(2, l0), (0, l1), (0, l2)]) (st := []) (g := g) (r := r) V_131_4 16 h
/-! 132: MillRow.noted(LMillRow$Pairs;II)I -/
def M_132 : List (Nat × List Nat) := []
def L_132_0 : List (Nat × EJ) := [(1, .iload_n 2, 1, 0, 0, 0, 0, 0), (2, .iload_n 3, 1, 0, 0, 0, 0, 0), (3, .invokevirtual 428, 3, 24, 2, 0, 3, 2), (6, .ifCond .eq 10, 3, 16, 0, 0, 0, 0), (9, .aload_n 1, 1, 0, 0, 0, 0, 0), (10, .getfield 393, 3, 3, 2, 0, 0, 0), (13, .goto 8, 3, 21, 0, 0, 0, 0), (16, .aload_n 0, 1, 0, 0, 0, 0, 0), (17, .iconst 1, 1, 0, 0, 0, 0, 1), (18, .invokevirtual 101, 3, 133, 1, 0, 8, 1), (21, .ireturn, 1, 1, 0, 0, 0, 0)]
def E_132_0 : Nat × EJ := (0, .aload_n 1, 1, 0, 0, 0, 0, 0)
theorem V_132_0 : (E_132_0 :: L_132_0).all (vld 132) = true := by decide +kernel
theorem c_132 {sc : SCR} {d : Nat} {Q : QJ} {g r : GH} {l0 l1 l2 l3 : Int} (h : okr 218 l1 3 ∧ Ce sc d 24 [(2, l1), (0, l2), (0, l3)] g r fun v1 g1 r1 => (if v1 = 0 then okr 218 l0 8 ∧ Ce sc d 133 [(2, l0), (0, 1)] g1 r1 fun v2 g2 r2 => Q v2 g2 r2 else okr 218 l1 3 ∧ Q (g1 l1 2) g1 r1)) : Ce sc (d + 1) 132 [(2, l0), (2, l1), (0, l2), (0, l3)] g r Q :=
  Ce_of rfl (RS_WQ (sc := sc) (d := d) (k := 132) (Q := Q) (L := L_132_0) (M := M_132) (e := E_132_0) (ls := [(2, l0), (2, l1), (0, l2), (0, l3)]) (st := []) (g := g) (r := r) V_132_0 10 h)
/-! 133: MillRow.refuse(I)I -/
def M_133 : List (Nat × List Nat) := []
def L_133_0 : List (Nat × EJ) := [(1, .iconst 0, 1, 0, 0, 0, 0, 0), (2, .iconst 2, 1, 0, 0, 0, 0, 2), (3, .invokestatic 97, 3, 123, 3, 1, 8, 2), (6, .ifCond .eq 13, 3, 19, 0, 0, 0, 0), (9, .aload_n 0, 1, 0, 0, 0, 0, 0), (10, .getfield 87, 3, 8, 17, 2, 0, 0), (13, .iload_n 1, 1, 0, 0, 0, 0, 0), (14, .dup2, 1, 0, 0, 0, 0, 0), (15, .iaload, 1, 0, 0, 0, 0, 0), (16, .iconst 1, 1, 0, 0, 0, 0, 1), (17, .iadd, 1, 0, 0, 0, 0, 0), (18, .iastore, 1, 0, 0, 0, 0, 0), (19, .iconst (-1), 1, 0, 0, 0, 0, (-1)), (20, .ireturn, 1, 1, 0, 0, 0, 0)]
def E_133_0 : Nat × EJ := (0, .iload_n 1, 1, 0, 0, 0, 0, 0)
theorem V_133_0 : (E_133_0 :: L_133_0).all (vld 133) = true := by decide +kernel
theorem c_133 {sc : SCR} {d : Nat} {Q : QJ} {g r : GH} {l0 l1 : Int} (h : Ce sc d 123 [(0, l1), (0, 0), (0, 2)] g r fun v1 g1 r1 => (if v1 = 0 then Q (-1) g1 r1 else okr 218 l0 8 ∧ okI 218 (r1 l0 17) 11 l1 ∧ okI 218 (r1 l0 17) 11 l1 ∧ ∀ g2, g2 = up g1 (r1 l0 17) l1 (wr ((g1 (r1 l0 17) l1) + 1)) → Q (-1) g2 r1)) : Ce sc (d + 1) 133 [(2, l0), (0, l1)] g r Q :=
  Ce_of rfl (RS_WQ (sc := sc) (d := d) (k := 133) (Q := Q) (L := L_133_0) (M := M_133) (e := E_133_0) (ls := [(2, l0), (0, l1)]) (st := []) (g := g) (r := r) V_133_0 16 h)
/-! 134: MillRow.refusal(I)Z -/
def M_134 : List (Nat × List Nat) := []
def L_134_0 : List (Nat × EJ) := [(1, .iload_n 1, 1, 0, 0, 0, 0, 0), (2, .invokevirtual 101, 3, 133, 1, 0, 8, 1), (5, .pop, 1, 0, 0, 0, 0, 0), (6, .iconst 0, 1, 0, 0, 0, 0, 0), (7, .ireturn, 1, 2, 0, 0, 0, 0)]
def E_134_0 : Nat × EJ := (0, .aload_n 0, 1, 0, 0, 0, 0, 0)
theorem V_134_0 : (E_134_0 :: L_134_0).all (vld 134) = true := by decide +kernel
theorem c_134 {sc : SCR} {d : Nat} {Q : QJ} {g r : GH} {l0 l1 : Int} (h : okr 218 l0 8 ∧ Ce sc d 133 [(2, l0), (0, l1)] g r fun v1 g1 r1 => ((0 : Int) = 0 ∨ (0 : Int) = 1) ∧ Q 0 g1 r1) : Ce sc (d + 1) 134 [(2, l0), (0, l1)] g r Q :=
  Ce_of rfl (RS_WQ (sc := sc) (d := d) (k := 134) (Q := Q) (L := L_134_0) (M := M_134) (e := E_134_0) (ls := [(2, l0), (0, l1)]) (st := []) (g := g) (r := r) V_134_0 7 h)
/-! 135: MillRow.sum([I)J -/
def M_135 : List (Nat × List Nat) := [(11, [0, 6])]
def L_135_0 : List (Nat × EJ) := [(1, .lstore_n 1, 1, 0, 0, 0, 0, 0), (2, .aload_n 0, 1, 0, 0, 0, 0, 0), (3, .astore_n 3, 1, 0, 0, 0, 0, 0), (4, .aload_n 3, 1, 0, 0, 0, 0, 0), (5, .arraylength, 1, 0, 0, 0, 0, 0), (6, .istore 4, 2, 0, 0, 0, 0, 0), (8, .iconst 0, 1, 0, 0, 0, 0, 0), (9, .istore 5, 2, 0, 0, 0, 0, 0)]
def E_135_0 : Nat × EJ := (0, .lconst 0, 1, 0, 0, 0, 0, 0)
theorem V_135_0 : (E_135_0 :: L_135_0).all (vld 135) = true := by decide +kernel
theorem c_135 {sc : SCR} {d : Nat} {Q : QJ} {g r : GH} {l0 : Int} (h : (0 ≤ l0 ∧ l0 < 218 ∧ 11 ≤ am_sh l0 ∧ am_sh l0 ≤ 15) ∧ WQ sc d 135 Q 11 [(9, 0), (1, 0), (8, 0), (2, l0), (0, am_ln l0), (0, 0), (9, 0)] [] g r) : Ce sc (d + 1) 135 [(2, l0)] g r Q :=
  Ce_of rfl (RS_WQ (sc := sc) (d := d) (k := 135) (Q := Q) (L := L_135_0) (M := M_135) (e := E_135_0) (ls := [(2, l0), (9, 0), (9, 0), (9, 0), (9, 0), (9, 0), (9, 0)]) (st := []) (g := g) (r := r) V_135_0 11 h)
def L_135_11 : List (Nat × EJ) := [(13, .iload 4, 2, 0, 0, 0, 0, 0), (15, .if_icmp .ge 21, 3, 36, 0, 0, 0, 0), (18, .aload_n 3, 1, 0, 0, 0, 0, 0), (19, .iload 5, 2, 0, 0, 0, 0, 0), (21, .iaload, 1, 0, 0, 0, 0, 0), (22, .istore 6, 2, 0, 0, 0, 0, 0), (24, .lload_n 1, 1, 0, 0, 0, 0, 0), (25, .iload 6, 2, 0, 0, 0, 0, 0), (27, .i2l, 1, 0, 0, 0, 0, 0), (28, .ladd, 1, 0, 0, 0, 0, 0), (29, .lstore_n 1, 1, 0, 0, 0, 0, 0), (30, .iinc 5 1, 3, 0, 0, 0, 0, 0), (33, .goto (-22), 3, 11, 0, 0, 0, 0), (36, .lload_n 1, 1, 0, 0, 0, 0, 0), (37, .lreturn, 1, 0, 0, 0, 0, 0)]
def E_135_11 : Nat × EJ := (11, .iload 5, 2, 0, 0, 0, 0, 0)
theorem V_135_11 : (E_135_11 :: L_135_11).all (vld 135) = true := by decide +kernel
theorem b_135_11 {sc : SCR} {d : Nat} {Q : QJ} {g r : GH} {l1 l3 l4 l5 : Int} (h : (if l5 < l4 then okI 218 l3 11 l5 ∧ WQ sc d 135 Q 11 [(9, 0), (1, wL (l1 + (g l3 l5))), (8, 0), (2, l3), (0, l4), (0, wr (l5 + 1)), (9, 0)] [] g r else Q l1 g r)) : WQ sc d 135 Q 11 [(9, 0), (1, l1), (8, 0), (2, l3), (0, l4), (0, l5), (9, 0)] [] g r :=
  RS_WQ (sc := sc) (d := d) (k := 135) (Q := Q) (L := L_135_11) (M := M_135) (e := E_135_11) (ls := [(9, 0), (1, l1), (8, 0), (2, l3), (0, l4), (0, l5), (9, 0)]) (st := []) (g := g) (r := r) V_135_11 16 h
