/-! a quicker check of the methods' words: the tables in groups, a method's code in pieces; printed by a program (wip/gen/gen_fast.py) -/
def lkP {α : Type} (k : Nat) : List (Nat × List (Nat × α)) → Option α
  | [] => none
  | (m, g) :: t => match Nat.ble k m with
    | true => am_lk k g
    | false => lkP k t
theorem lkP_of {α : Type} {k : Nat} {b : α} {L : List (Nat × α)} : ∀ {G : List (Nat × List (Nat × α))}, (∀ e ∈ G, ∀ q ∈ e.2, am_lk q.1 L = some q.2) → lkP k G = some b → am_lk k L = some b
  | [], _, h => by cases h
  | (m, g) :: t, hG, h => by
    unfold lkP at h
    split at h
    · exact hG (m, g) List.mem_cons_self (k, b) (am_lk_mem h)
    · exact lkP_of (fun e he => hG e (List.mem_cons_of_mem _ he)) h
def atF {α : Type} (k idx : Nat) (G : List (Nat × List (Nat × α))) : Option α := if idx < 100000 then lkP (am_key k idx) G else none
theorem atF_of {α : Type} {k idx : Nat} {b : α} {L : List (Nat × α)} {G : List (Nat × List (Nat × α))} (hG : ∀ e ∈ G, ∀ q ∈ e.2, am_lk q.1 L = some q.2) (h : atF k idx G = some b) : am_at k idx L = some b := by
  unfold atF at h
  unfold am_at
  by_cases z : idx < 100000
  · rw [if_pos z] at h ⊢; exact lkP_of hG h
  · rw [if_neg z] at h; cases h
def am_FG : List (Nat × List (Nat × (Nat × Nat × Nat × Bool × Nat))) := [(108, [(9, 0, 3, 1, false, 269), (15, 0, 4, 2, true, 271), (19, 0, 5, 2, true, 273), (22, 0, 6, 2, true, 275), (25, 0, 7, 2, true, 277), (28, 0, 8, 2, true, 279), (32, 0, 9, 2, true, 281), (35, 0, 10, 2, true, 283), (38, 0, 11, 2, true, 285), (41, 0, 12, 2, true, 287), (44, 0, 13, 2, true, 289), (47, 0, 0, 0, false, 263), (51, 0, 1, 1, false, 265), (54, 0, 2, 1, false, 267), (94, 2, 0, 3, false, 226), (108, 2, 2, 0, false, 234)]), (100048, [(116, 2, 4, 2, true, 242), (126, 2, 3, 0, false, 238), (130, 2, 1, 2, true, 231), (134, 7, 7, 0, false, 170), (100009, 1, 1, 0, false, 90), (100015, 1, 5, 2, true, 96), (100019, 1, 6, 2, true, 97), (100022, 1, 12, 2, true, 107), (100025, 1, 13, 0, false, 108), (100028, 1, 14, 0, false, 109), (100031, 7, 1, 0, false, 144), (100036, 1, 0, 0, false, 89), (100037, 7, 3, 0, false, 152), (100044, 7, 5, 0, false, 161), (100047, 1, 2, 0, false, 91), (100048, 7, 2, 0, false, 148)]), (400013, [(100051, 7, 4, 0, false, 156), (100054, 1, 3, 0, false, 92), (100057, 1, 4, 0, false, 94), (100060, 7, 6, 0, false, 165), (100071, 1, 10, 0, false, 104), (100074, 1, 11, 0, false, 106), (100084, 1, 7, 0, false, 98), (100087, 1, 8, 0, false, 100), (100090, 1, 9, 0, false, 102), (300012, 2, 1, 2, true, 228), (300021, 2, 4, 2, true, 240), (300025, 2, 0, 3, false, 225), (300032, 2, 2, 0, false, 232), (300036, 2, 3, 0, false, 236), (300042, 7, 9, 2, true, 176), (400013, 3, 0, 2, true, 350)]), (600077, [(400019, 3, 1, 2, true, 351), (400022, 3, 2, 0, false, 352), (500009, 4, 0, 2, true, 330), (500021, 4, 1, 0, false, 332), (500025, 4, 2, 0, false, 333), (600009, 5, 0, 2, true, 33), (600015, 5, 2, 0, false, 36), (600019, 5, 3, 2, true, 38), (600022, 5, 4, 2, true, 39), (600025, 5, 5, 2, true, 40), (600028, 5, 1, 0, false, 35), (600046, 2, 1, 2, true, 229), (600054, 5, 7, 0, false, 42), (600064, 5, 8, 0, false, 43), (600071, 5, 6, 0, false, 41), (600077, 5, 9, 0, false, 44)]), (700018, [(600101, 5, 10, 0, false, 45), (600110, 7, 0, 3, false, 143), (600121, 7, 1, 0, false, 147), (600126, 7, 2, 0, false, 151), (600130, 7, 3, 0, false, 155), (600135, 7, 4, 0, false, 159), (600139, 7, 5, 0, false, 163), (600143, 7, 6, 0, false, 167), (600151, 2, 2, 0, false, 235), (600156, 2, 3, 0, false, 239), (600160, 7, 7, 0, false, 171), (600164, 7, 8, 0, false, 174), (600170, 2, 4, 2, true, 243), (700009, 6, 0, 2, true, 205), (700015, 6, 2, 2, true, 207), (700018, 6, 3, 2, true, 208)]), (900023, [(700021, 6, 5, 2, true, 211), (700024, 6, 1, 0, false, 206), (700028, 6, 4, 0, false, 209), (800012, 7, 9, 2, true, 175), (800018, 7, 5, 0, false, 160), (800022, 7, 6, 0, false, 164), (800025, 7, 7, 0, false, 168), (800028, 7, 8, 0, false, 172), (800031, 7, 0, 3, false, 141), (800035, 7, 1, 0, false, 145), (800038, 7, 2, 0, false, 149), (800041, 7, 3, 0, false, 153), (800044, 7, 4, 0, false, 157), (900012, 8, 0, 2, true, 361), (900018, 8, 1, 2, true, 362), (900023, 8, 2, 2, false, 363)]), (900112, [(900030, 8, 3, 2, true, 364), (900037, 8, 4, 2, true, 365), (900041, 8, 5, 2, true, 366), (900044, 8, 6, 2, true, 367), (900051, 8, 8, 2, true, 369), (900055, 8, 9, 2, true, 370), (900058, 8, 10, 2, true, 371), (900062, 8, 11, 2, true, 372), (900071, 8, 12, 2, true, 373), (900075, 8, 13, 2, true, 374), (900078, 8, 14, 2, true, 375), (900081, 8, 15, 2, true, 376), (900084, 8, 16, 2, true, 377), (900087, 8, 17, 2, true, 378), (900090, 5, 1, 0, false, 34), (900112, 8, 7, 0, false, 368)]), (900166, [(900115, 5, 2, 0, false, 37), (900122, 2, 1, 2, true, 230), (900125, 7, 0, 3, false, 142), (900129, 7, 1, 0, false, 146), (900132, 7, 2, 0, false, 150), (900135, 7, 3, 0, false, 154), (900138, 7, 4, 0, false, 158), (900141, 7, 5, 0, false, 162), (900144, 7, 6, 0, false, 166), (900147, 2, 2, 0, false, 233), (900150, 2, 3, 0, false, 237), (900153, 7, 7, 0, false, 169), (900156, 7, 8, 0, false, 173), (900159, 2, 4, 2, true, 241), (900163, 6, 4, 0, false, 210), (900166, 7, 9, 2, true, 177)]), (900329, [(900170, 1, 3, 0, false, 93), (900175, 0, 6, 2, true, 276), (900181, 0, 7, 2, true, 278), (900212, 1, 7, 0, false, 99), (900215, 1, 8, 0, false, 101), (900218, 1, 9, 0, false, 103), (900221, 1, 10, 0, false, 105), (900224, 1, 4, 0, false, 95), (900295, 0, 4, 2, true, 272), (900298, 0, 5, 2, true, 274), (900305, 0, 0, 0, false, 264), (900316, 0, 3, 1, false, 270), (900320, 0, 8, 2, true, 280), (900323, 0, 9, 2, true, 282), (900326, 0, 10, 2, true, 284), (900329, 0, 1, 1, false, 266)]), (1000038, [(900336, 0, 2, 1, false, 268), (900370, 4, 0, 2, true, 331), (900393, 3, 2, 0, false, 353), (900419, 0, 12, 2, true, 288), (900422, 0, 11, 2, true, 286), (900425, 2, 0, 3, false, 227), (1000007, 9, 0, 2, true, 1055), (1000013, 9, 1, 2, true, 1056), (1000017, 9, 2, 2, true, 1057), (1000020, 9, 3, 2, true, 1058), (1000023, 9, 4, 2, true, 1059), (1000026, 9, 5, 2, true, 1060), (1000029, 9, 6, 2, true, 1061), (1000032, 9, 7, 2, true, 1062), (1000035, 9, 8, 2, true, 1063), (1000038, 9, 9, 2, true, 1064)]), (1000088, [(1000041, 9, 10, 2, true, 1065), (1000044, 9, 11, 2, true, 1066), (1000047, 9, 12, 2, true, 1067), (1000050, 9, 13, 2, true, 1068), (1000053, 9, 14, 2, true, 1069), (1000056, 9, 15, 2, true, 1070), (1000059, 9, 16, 2, true, 1071), (1000062, 9, 17, 2, true, 1072), (1000065, 9, 18, 2, true, 1073), (1000068, 9, 19, 2, true, 1074), (1000071, 9, 20, 2, true, 1075), (1000074, 9, 21, 2, true, 1076), (1000077, 9, 22, 2, true, 1077), (1000080, 9, 23, 2, true, 1078), (1000084, 9, 25, 0, false, 1080), (1000088, 9, 34, 2, true, 1089)]), (1000138, [(1000091, 9, 35, 2, true, 1090), (1000094, 9, 37, 2, true, 1092), (1000097, 9, 38, 2, true, 1093), (1000100, 9, 39, 2, true, 1094), (1000103, 9, 40, 2, true, 1095), (1000106, 9, 41, 2, true, 1096), (1000109, 9, 42, 2, true, 1097), (1000112, 9, 43, 2, true, 1098), (1000115, 9, 44, 2, true, 1099), (1000119, 9, 45, 2, true, 1100), (1000122, 9, 46, 2, true, 1101), (1000125, 9, 47, 2, true, 1102), (1000128, 9, 49, 1, false, 1104), (1000132, 9, 50, 2, true, 1105), (1000135, 9, 51, 2, true, 1106), (1000138, 9, 57, 2, true, 1112)]), (1000190, [(1000141, 9, 58, 2, true, 1113), (1000144, 9, 59, 2, true, 1114), (1000147, 9, 60, 2, true, 1115), (1000150, 9, 62, 2, true, 1117), (1000153, 9, 63, 2, true, 1118), (1000156, 9, 65, 2, true, 1120), (1000159, 9, 67, 2, true, 1122), (1000162, 9, 68, 2, true, 1123), (1000165, 9, 69, 2, true, 1124), (1000168, 9, 71, 2, true, 1126), (1000171, 9, 72, 2, true, 1127), (1000174, 9, 73, 2, true, 1128), (1000177, 9, 24, 0, false, 1079), (1000180, 9, 27, 0, false, 1082), (1000183, 9, 26, 0, false, 1081), (1000190, 9, 28, 0, false, 1083)]), (1000579, [(1000195, 9, 32, 1, false, 1087), (1000198, 9, 30, 0, false, 1085), (1000201, 9, 29, 0, false, 1084), (1000219, 9, 33, 3, false, 1088), (1000246, 9, 31, 0, false, 1086), (1000260, 9, 36, 0, false, 1091), (1000333, 9, 48, 0, false, 1103), (1000454, 9, 52, 0, false, 1107), (1000457, 9, 56, 0, false, 1111), (1000463, 9, 54, 0, false, 1109), (1000466, 9, 55, 0, false, 1110), (1000472, 9, 53, 0, false, 1108), (1000537, 9, 61, 0, false, 1116), (1000558, 9, 64, 0, false, 1119), (1000574, 9, 66, 0, false, 1121), (1000579, 9, 70, 0, false, 1125)])]
def eqF (a b : Nat × Nat × Nat × Bool × Nat) : Bool := Nat.beq a.1 b.1 && (Nat.beq a.2.1 b.2.1 && (Nat.beq a.2.2.1 b.2.2.1 && ((a.2.2.2.1 == b.2.2.2.1) && Nat.beq a.2.2.2.2 b.2.2.2.2)))
theorem eqF_e {a b : Nat × Nat × Nat × Bool × Nat} (h : eqF a b = true) : a = b := by
  obtain ⟨a1, a2, a3, a4, a5⟩ := a
  obtain ⟨b1, b2', b3, b4, b5⟩ := b
  obtain ⟨h1, h⟩ := b2 h
  obtain ⟨h2, h⟩ := b2 h
  obtain ⟨h3, h⟩ := b2 h
  obtain ⟨h4, h5⟩ := b2 h
  have e1 : a1 = b1 := Nat.eq_of_beq_eq_true h1
  have e2 : a2 = b2' := Nat.eq_of_beq_eq_true h2
  have e3 : a3 = b3 := Nat.eq_of_beq_eq_true h3
  have e4 : a4 = b4 := eq_of_beq h4
  have e5 : a5 = b5 := Nat.eq_of_beq_eq_true h5
  rw [e1, e2, e3, e4, e5]
def okF (q : Nat × (Nat × Nat × Nat × Bool × Nat)) : Bool := match am_lk q.1 am_FL with
  | some f => eqF f q.2
  | none => false
theorem am_FG_all : am_FG.all (fun e => e.2.all okF) = true := by decide +kernel
theorem am_FG_ok : ∀ e ∈ am_FG, ∀ q ∈ e.2, am_lk q.1 am_FL = some q.2 := fun e he q hq => by
  have h := List.all_eq_true.mp (List.all_eq_true.mp am_FG_all e he) q hq
  unfold okF at h
  cases hf : am_lk q.1 am_FL with
  | none => rw [hf] at h; cases h
  | some f => rw [hf] at h; rw [eqF_e h]
def am_CG : List (Nat × List (Nat × (Nat × Nat × Nat × Nat))) := [(100065, [(3, 0, 0, 8, 262), (57, 0, 5, 4, 906), (63, 123, 3, 5, 611), (77, 250, 2, 1, 810), (83, 248, 2, 1, 811), (86, 6, 1, 0, 801), (90, 4, 0, 0, 806), (100, 7, 3, 0, 812), (104, 22, 1, 0, 805), (111, 29, 2, 0, 816), (120, 51, 5, 0, 823), (139, 62, 4, 0, 838), (100003, 0, 0, 8, 88), (100038, 248, 2, 1, 554), (100062, 250, 2, 1, 555), (100065, 18, 1, 1, 556)]), (500028, [(100077, 10, 1, 0, 633), (100081, 11, 1, 0, 637), (100093, 17, 1, 1, 671), (200009, 123, 3, 5, 562), (200014, 17, 1, 1, 559), (300003, 0, 0, 8, 76), (300011, 54, 0, 3, 79), (300020, 46, 0, 3, 201), (300029, 55, 0, 0, 457), (300039, 47, 0, 0, 461), (300046, 9, 1, 0, 550), (400001, 0, 0, 8, 346), (400007, 248, 2, 1, 347), (500003, 0, 0, 8, 326), (500015, 252, 2, 1, 327), (500028, 247, 2, 1, 820)]), (600117, [(600003, 0, 0, 8, 32), (600031, 250, 2, 1, 439), (600037, 33, 1, 0, 442), (600041, 20, 0, 0, 453), (600050, 41, 1, 0, 465), (600057, 21, 0, 0, 546), (600060, 42, 1, 0, 564), (600067, 34, 1, 1, 446), (600074, 35, 0, 0, 449), (600080, 0, 0, 6, 478), (600086, 0, 1, 7, 488), (600090, 36, 1, 0, 474), (600094, 37, 1, 0, 542), (600098, 248, 2, 1, 532), (600105, 38, 1, 0, 470), (600117, 40, 2, 0, 528)]), (800051, [(600146, 39, 1, 0, 538), (600174, 43, 2, 0, 574), (600178, 50, 1, 0, 603), (600183, 44, 2, 0, 578), (600188, 48, 1, 0, 587), (600191, 45, 2, 0, 582), (600208, 49, 3, 0, 596), (700003, 0, 0, 8, 204), (700031, 48, 1, 0, 600), (700035, 52, 2, 0, 827), (700039, 248, 2, 1, 831), (700047, 53, 1, 0, 833), (800003, 0, 0, 8, 82), (800011, 8, 0, 3, 85), (800047, 9, 1, 0, 759), (800051, 56, 3, 0, 772)]), (900068, [(800055, 123, 3, 5, 696), (800059, 60, 3, 0, 701), (800063, 13, 2, 0, 710), (800067, 16, 0, 0, 711), (800075, 61, 1, 1, 705), (800079, 248, 2, 1, 708), (800089, 59, 3, 0, 726), (800092, 249, 2, 1, 727), (800095, 62, 4, 0, 739), (900003, 0, 0, 8, 24), (900011, 30, 0, 3, 29), (900022, 19, 0, 3, 73), (900029, 54, 0, 3, 256), (900036, 0, 0, 3, 259), (900050, 27, 0, 2, 323), (900068, 23, 1, 2, 343)]), (900231, [(900094, 31, 1, 0, 420), (900097, 123, 3, 1, 428), (900101, 133, 1, 0, 431), (900105, 32, 2, 0, 435), (900109, 2, 1, 0, 607), (900118, 129, 1, 0, 621), (900178, 22, 1, 0, 625), (900184, 12, 1, 0, 629), (900187, 17, 1, 1, 645), (900192, 18, 1, 1, 646), (900195, 130, 1, 0, 651), (900199, 124, 1, 1, 655), (900203, 125, 1, 1, 659), (900208, 13, 2, 0, 663), (900227, 15, 0, 0, 667), (900231, 16, 0, 0, 673)]), (900301, [(900234, 14, 1, 0, 678), (900237, 10, 1, 0, 686), (900240, 11, 1, 0, 687), (900243, 58, 1, 0, 692), (900246, 59, 3, 0, 697), (900250, 126, 1, 1, 718), (900253, 62, 4, 0, 721), (900257, 64, 3, 0, 734), (900262, 63, 1, 0, 744), (900271, 56, 3, 0, 755), (900275, 78, 5, 0, 760), (900279, 57, 2, 0, 768), (900283, 250, 2, 1, 773), (900289, 127, 1, 1, 778), (900292, 134, 1, 0, 781), (900301, 131, 0, 0, 793)]), (900384, [(900308, 5, 2, 0, 797), (900312, 3, 0, 0, 843), (900332, 135, 1, 1, 865), (900339, 90, 2, 0, 872), (900343, 92, 1, 0, 884), (900346, 91, 0, 0, 876), (900349, 95, 3, 0, 891), (900353, 96, 2, 0, 909), (900357, 97, 1, 0, 917), (900360, 128, 0, 0, 880), (900364, 93, 1, 1, 888), (900367, 28, 2, 0, 895), (900373, 94, 2, 1, 899), (900376, 1, 1, 0, 902), (900380, 132, 3, 0, 933), (900384, 101, 1, 0, 945)]), (1000249, [(900387, 102, 2, 1, 959), (900394, 25, 1, 0, 950), (900397, 26, 1, 0, 954), (900402, 248, 2, 1, 974), (900407, 251, 2, 1, 992), (900413, 113, 1, 0, 1009), (900416, 114, 1, 0, 1013), (900428, 24, 2, 0, 937), (1000001, 0, 0, 8, 1054), (1000186, 143, 0, 0, 1295), (1000208, 137, 3, 1, 1288), (1000223, 146, 1, 0, 1319), (1000227, 144, 0, 0, 1291), (1000230, 147, 1, 0, 1315), (1000233, 145, 0, 0, 1323), (1000249, 150, 0, 0, 1365)]), (1000349, [(1000252, 149, 2, 0, 1329), (1000256, 151, 4, 0, 1374), (1000269, 152, 0, 0, 1361), (1000272, 153, 0, 0, 1378), (1000278, 148, 1, 0, 1311), (1000298, 154, 0, 0, 1356), (1000311, 156, 0, 0, 1351), (1000316, 155, 0, 0, 1306), (1000319, 158, 0, 0, 1338), (1000322, 157, 0, 0, 1342), (1000325, 138, 1, 0, 1384), (1000329, 141, 2, 0, 1388), (1000337, 161, 1, 1, 1401), (1000342, 162, 1, 1, 1405), (1000345, 165, 3, 0, 1442), (1000349, 166, 2, 0, 1446)]), (1000422, [(1000352, 164, 1, 0, 1454), (1000355, 168, 2, 0, 1458), (1000358, 170, 2, 0, 1430), (1000361, 167, 3, 0, 1438), (1000364, 169, 3, 0, 1450), (1000367, 171, 1, 0, 1426), (1000370, 173, 4, 0, 1462), (1000376, 174, 3, 0, 1467), (1000384, 175, 1, 1, 1491), (1000389, 176, 4, 0, 1485), (1000396, 140, 1, 0, 1416), (1000400, 179, 1, 0, 1412), (1000403, 178, 1, 1, 1420), (1000410, 172, 4, 0, 1434), (1000418, 182, 4, 0, 1480), (1000422, 177, 5, 0, 1499)]), (1000505, [(1000426, 185, 4, 0, 1508), (1000437, 189, 3, 0, 1524), (1000442, 139, 0, 0, 1537), (1000451, 199, 1, 0, 1593), (1000460, 200, 1, 0, 1589), (1000469, 202, 1, 0, 1597), (1000475, 197, 1, 0, 1577), (1000478, 198, 2, 0, 1581), (1000481, 203, 2, 0, 1585), (1000484, 204, 4, 0, 1573), (1000489, 206, 0, 0, 1561), (1000492, 201, 0, 0, 1565), (1000495, 205, 1, 0, 1569), (1000499, 187, 1, 0, 1613), (1000502, 192, 2, 0, 1644), (1000505, 212, 0, 0, 1648)]), (1100018, [(1000510, 213, 0, 0, 1636), (1000513, 211, 0, 0, 1625), (1000520, 216, 2, 0, 1621), (1000524, 215, 1, 0, 1631), (1000527, 214, 3, 0, 1640), (1000531, 218, 2, 0, 1656), (1000534, 219, 1, 0, 1660), (1000544, 224, 1, 0, 1680), (1000548, 225, 2, 1, 1686), (1000563, 230, 2, 1, 1709), (1000582, 241, 0, 0, 1758), (1100009, 65, 0, 2, 21), (1100012, 136, 0, 2, 1051), (1100013, 66, 5, 0, 416), (1100017, 142, 5, 0, 1279), (1100018, 67, 2, 0, 424)]), (1100055, [(1100022, 159, 2, 0, 1283), (1100023, 68, 0, 0, 613), (1100027, 160, 0, 0, 1392), (1100028, 69, 2, 0, 617), (1100031, 210, 2, 0, 1609), (1100032, 70, 2, 0, 641), (1100035, 163, 2, 0, 1396), (1100036, 71, 4, 0, 647), (1100040, 180, 4, 0, 1408), (1100041, 72, 3, 0, 682), (1100045, 181, 3, 0, 1472), (1100046, 73, 4, 0, 688), (1100049, 183, 4, 0, 1476), (1100050, 74, 5, 0, 714), (1100054, 184, 5, 0, 1495), (1100055, 75, 5, 0, 730)]), (1100089, [(1100058, 186, 5, 0, 1504), (1100059, 76, 3, 0, 740), (1100062, 188, 3, 0, 1512), (1100063, 77, 5, 0, 750), (1100066, 190, 5, 0, 1519), (1100067, 79, 4, 0, 764), (1100070, 191, 4, 0, 1528), (1100071, 80, 3, 0, 774), (1100075, 193, 3, 0, 1532), (1100076, 81, 1, 0, 785), (1100080, 194, 1, 0, 1541), (1100081, 82, 1, 0, 789), (1100084, 207, 1, 0, 1556), (1100085, 83, 1, 0, 839), (1100088, 195, 1, 0, 1545), (1100089, 84, 1, 0, 852)]), (1100125, [(1100093, 196, 1, 0, 1551), (1100094, 85, 2, 0, 857), (1100098, 208, 2, 0, 1601), (1100099, 86, 1, 0, 861), (1100103, 209, 1, 0, 1605), (1100104, 87, 4, 0, 868), (1100107, 217, 4, 0, 1617), (1100108, 88, 3, 0, 913), (1100111, 220, 3, 0, 1652), (1100112, 89, 3, 0, 921), (1100115, 221, 3, 0, 1664), (1100116, 98, 2, 0, 925), (1100120, 222, 2, 0, 1668), (1100121, 99, 2, 0, 929), (1100124, 223, 2, 0, 1672), (1100125, 100, 1, 0, 941)]), (1100158, [(1100128, 226, 1, 0, 1676), (1100129, 103, 3, 0, 962), (1100132, 227, 3, 0, 1689), (1100133, 104, 1, 0, 966), (1100136, 228, 1, 0, 1695), (1100137, 105, 0, 0, 970), (1100140, 229, 0, 0, 1700), (1100141, 106, 3, 0, 975), (1100144, 231, 3, 0, 1704), (1100145, 107, 4, 0, 979), (1100149, 232, 4, 0, 1712), (1100150, 108, 5, 0, 983), (1100153, 233, 5, 0, 1717), (1100154, 109, 4, 0, 987), (1100157, 234, 4, 0, 1722), (1100158, 110, 4, 0, 995)]), (1100190, [(1100161, 235, 4, 0, 1728), (1100162, 111, 2, 0, 1001), (1100165, 236, 2, 0, 1733), (1100166, 112, 4, 0, 1005), (1100169, 237, 4, 0, 1737), (1100170, 115, 2, 0, 1017), (1100173, 238, 2, 0, 1741), (1100174, 116, 1, 0, 1021), (1100177, 239, 1, 0, 1745), (1100178, 117, 2, 0, 1025), (1100181, 240, 2, 0, 1749), (1100182, 118, 2, 0, 1029), (1100185, 242, 2, 0, 1754), (1100186, 119, 3, 0, 1033), (1100189, 243, 3, 0, 1762), (1100190, 120, 0, 0, 1037)]), (1100201, [(1100193, 244, 0, 0, 1766), (1100194, 121, 1, 0, 1041), (1100197, 245, 1, 0, 1770), (1100198, 122, 1, 0, 1045), (1100201, 246, 1, 0, 1774)])]
theorem am_CG_ok : ∀ e ∈ am_CG, ∀ q ∈ e.2, am_lk q.1 am_CL = some q.2 := by decide +kernel
def am_KG : List (Nat × List (Nat × (Nat × Int × Nat))) := [(900206, [(67, 1, 6364136223846793005, 847), (69, 1, 1442695040888963407, 848), (71, 1, 100, 849), (73, 1, 5, 850), (75, 1, 15, 851), (129, 0, 99999, 837), (100096, 1, 2000, 672), (100098, 1, 2, 677), (200013, 0, 40500, 563), (700045, 1, (-2), 832), (800071, 1, 6, 712), (800073, 1, 1000, 713), (800085, 1, 2880, 709), (800087, 1, 10, 725), (800099, 1, (-1), 738), (900206, 1, (-1), 662)]), (1000216, [(900261, 0, 99999, 658), (900266, 1, 100, 748), (900268, 1, 60, 749), (900270, 0, 999999, 754), (900315, 0, 999999999, 856), (900391, 1, 100000000000000, 949), (900400, 1, 10, 958), (900405, 1, 2000000000, 991), (900410, 0, (-2000000000), 999), (900411, 1, 2000, 1000), (1000193, 1, (-1), 1299), (1000204, 1, 97, 1300), (1000206, 1, 122, 1301), (1000212, 1, 27, 1302), (1000214, 1, 48, 1303), (1000216, 1, 57, 1304)]), (1000292, [(1000218, 0, 1000000, 1305), (1000236, 1, 168984, 1369), (1000238, 1, 6491892, 1370), (1000240, 1, 127274, 1371), (1000242, 1, 2968, 1372), (1000244, 1, 1170473, 1373), (1000263, 1, 1111, 1382), (1000265, 1, 423, 1383), (1000267, 1, 10631, 1360), (1000276, 1, 12384399, 1310), (1000282, 1, 311436, 1327), (1000284, 1, 11438892, 1328), (1000286, 1, 459383, 1333), (1000288, 1, 1077983065, 1334), (1000290, 1, 82528, 1335), (1000292, 1, 10334702, 1336)]), (1000395, [(1000294, 1, 47, 1337), (1000296, 1, 249, 1355), (1000301, 1, 326245, 1346), (1000303, 1, 276546, 1347), (1000305, 1, 315743, 1348), (1000307, 1, 13691, 1349), (1000309, 1, 139055, 1350), (1000314, 1, 5, 1287), (1000336, 0, 40500, 1404), (1000340, 1, 180, 1400), (1000374, 1, 2, 1471), (1000380, 1, 6, 1489), (1000382, 1, 1000, 1490), (1000387, 1, 2880, 1494), (1000393, 1, 10, 1503), (1000395, 0, 99999, 1423)]), (1000518, [(1000406, 1, 300, 1424), (1000408, 1, 100, 1425), (1000414, 1, 2000, 1466), (1000416, 1, 240, 1484), (1000429, 1, 99999, 1516), (1000431, 1, 99, 1517), (1000433, 1, 60, 1518), (1000435, 1, 999999, 1523), (1000440, 1, 39, 1536), (1000445, 1, 6364136223846793005, 1549), (1000447, 1, 1442695040888963407, 1550), (1000449, 1, 999999999, 1555), (1000487, 1, 96, 1560), (1000508, 1, 63, 1635), (1000516, 1, 12, 1629), (1000518, 1, 999, 1630)]), (1000577, [(1000540, 1, 100000000000000, 1684), (1000542, 1, 8, 1685), (1000552, 1, 20, 1693), (1000554, 1, 40, 1694), (1000556, 1, 9999, 1699), (1000561, 1, 400, 1708), (1000566, 1, 3, 1716), (1000568, 1, 23, 1721), (1000570, 1, 2000000000, 1726), (1000572, 0, 2000000000, 1727), (1000573, 0, (-2000000000), 1732), (1000577, 1, 24, 1753)])]
theorem am_KG_ok : ∀ e ∈ am_KG, ∀ q ∈ e.2, am_lk q.1 am_KL = some q.2 := by decide +kernel
def vIF (pc k : Nat) (i : Instr) (len : Nat) (h : HJ) : Bool := match i with
  | .getfield idx => len == 3 && (match atF k idx am_FG with
    | some f => f.1 == h.1 && f.2.1 == h.2.1 && (match f.2.2.1 with | 0 => h.2.2.1 == 0 | 1 => h.2.2.1 == 1 | 2 => h.2.2.1 == 2 | 3 => h.2.2.1 == 0 | _ => false)
    | none => false)
  | .putfield idx => len == 3 && (match atF k idx am_FG with
    | some f => f.1 == h.1 && f.2.1 == h.2.1 && f.2.2.1 == h.2.2.1 && Nat.ble h.2.2.1 3 && !f.2.2.2.1
    | none => false)
  | .ldc_w idx => len == 3 && (match atF k idx am_KG with
      | some f => f.1 == 0 && decide (h.2.2.2.2 = f.2.1)
      | none => false)
  | .ldc2_w idx => len == 3 && (match atF k idx am_KG with
      | some f => f.1 == 1 && decide (h.2.2.2.2 = f.2.1)
      | none => false)
  | .invokevirtual idx => len == 3 && (match atF k idx am_CG with
      | some f => f.1 == h.1 && f.2.1 == h.2.1 && f.2.2.1 == h.2.2.1 && (f.2.2.1 == 0 || f.2.2.1 == 6 || f.2.2.1 == 7) && am_kd (am_own f.1) == h.2.2.2.1 && decide ((am_rc f.1 : Int) = h.2.2.2.2) && (f.2.2.1 == 4 || f.2.2.1 == 6 || f.2.2.1 == 7 || am_mk f.1 == 0)
      | none => false)
  | .invokestatic idx => len == 3 && (match atF k idx am_CG with
      | some f => f.1 == h.1 && f.2.1 == h.2.1 && f.2.2.1 == h.2.2.1 && (f.2.2.1 == 1 || f.2.2.1 == 5 || f.2.2.1 == 4) && am_kd (am_own f.1) == h.2.2.2.1 && decide ((am_rc f.1 : Int) = h.2.2.2.2) && (f.2.2.1 == 4 || f.2.2.1 == 6 || f.2.2.1 == 7 || am_mk f.1 == 0)
      | none => false)
  | _ => vI pc k i len h
theorem vIF_of {pc k : Nat} {i : Instr} {len : Nat} {hh : HJ} (h : vIF pc k i len hh = true) : vI pc k i len hh = true := by
  cases i
  case getfield idx =>
    unfold vIF at h
    unfold vI
    dsimp only at h ⊢
    obtain ⟨a, b⟩ := b2 h
    cases hf : atF k idx am_FG with
    | none => rw [hf] at b; cases b
    | some f =>
      rw [hf] at b
      rw [atF_of am_FG_ok hf, a]
      exact b
  case putfield idx =>
    unfold vIF at h
    unfold vI
    dsimp only at h ⊢
    obtain ⟨a, b⟩ := b2 h
    cases hf : atF k idx am_FG with
    | none => rw [hf] at b; cases b
    | some f =>
      rw [hf] at b
      rw [atF_of am_FG_ok hf, a]
      exact b
  case ldc_w idx =>
    unfold vIF at h
    unfold vI
    dsimp only at h ⊢
    obtain ⟨a, b⟩ := b2 h
    cases hf : atF k idx am_KG with
    | none => rw [hf] at b; cases b
    | some f =>
      rw [hf] at b
      rw [atF_of am_KG_ok hf, a]
      exact b
  case ldc2_w idx =>
    unfold vIF at h
    unfold vI
    dsimp only at h ⊢
    obtain ⟨a, b⟩ := b2 h
    cases hf : atF k idx am_KG with
    | none => rw [hf] at b; cases b
    | some f =>
      rw [hf] at b
      rw [atF_of am_KG_ok hf, a]
      exact b
  case invokevirtual idx =>
    unfold vIF at h
    unfold vI
    dsimp only at h ⊢
    obtain ⟨a, b⟩ := b2 h
    cases hf : atF k idx am_CG with
    | none => rw [hf] at b; cases b
    | some f =>
      rw [hf] at b
      rw [atF_of am_CG_ok hf, a]
      exact b
  case invokestatic idx =>
    unfold vIF at h
    unfold vI
    dsimp only at h ⊢
    obtain ⟨a, b⟩ := b2 h
    cases hf : atF k idx am_CG with
    | none => rw [hf] at b; cases b
    | some f =>
      rw [hf] at b
      rw [atF_of am_CG_ok hf, a]
      exact b
  all_goals exact h
/-! decode of a piece of the code -/
abbrev RdA (α : Type) : Type := Jvm.ClassFile.Decoder α
def GDC {α : Type} (o : Nat) (C B : ByteArray) (m n : RdA α) : Prop := ∀ p v q, Jvm.ClassFile.Reader.runAt n B p = .ok (v, q) → Jvm.ClassFile.Reader.runAt m C (p + o) = .ok (v, q + o)
theorem run_bind {α β : Type} (m : RdA α) (f : α → RdA β) (C : ByteArray) (p : Nat) : Jvm.ClassFile.Reader.runAt (m >>= f) C p = match Jvm.ClassFile.Reader.runAt m C p with
    | .ok x => Jvm.ClassFile.Reader.runAt (f x.1) C x.2
    | .error e => .error e := by
  show Except.bind (Jvm.ClassFile.Reader.runAt m C p) (fun x => Jvm.ClassFile.Reader.runAt (f x.1) C x.2) = _
  cases Jvm.ClassFile.Reader.runAt m C p <;> rfl
theorem run_map {α β : Type} (m : RdA α) (f : α → β) (C : ByteArray) (p : Nat) : Jvm.ClassFile.Reader.runAt (f <$> m) C p = match Jvm.ClassFile.Reader.runAt m C p with
    | .ok x => .ok (f x.1, x.2)
    | .error e => .error e := by
  show Except.bind (Jvm.ClassFile.Reader.runAt m C p) (fun x => .ok (f x.1, x.2)) = _
  cases Jvm.ClassFile.Reader.runAt m C p <;> rfl
theorem GDC.pr {α : Type} {o : Nat} {C B : ByteArray} (a : α) : GDC o C B (pure a : RdA α) (pure a) := fun p v q h => by
  have h2 : (Except.ok (a, p) : Except Jvm.ClassFile.DecodeError (α × Nat)) = .ok (v, q) := h
  injection h2 with h2
  injection h2 with e1 e2
  subst e1
  subst e2
  rfl
theorem GDC.bd {α β : Type} {o : Nat} {C B : ByteArray} {m n : RdA α} {f g : α → RdA β} (hm : GDC o C B m n) (hf : ∀ a, GDC o C B (f a) (g a)) : GDC o C B (m >>= f) (n >>= g) := fun p v q h => by
  rw [run_bind] at h ⊢
  cases hn : Jvm.ClassFile.Reader.runAt n B p with
  | error e => rw [hn] at h; cases h
  | ok x =>
    rw [hn] at h
    rw [hm p x.1 x.2 hn]
    exact hf x.1 x.2 v q h
theorem GDC.mp {α β : Type} {o : Nat} {C B : ByteArray} {m n : RdA α} {f : α → β} (hm : GDC o C B m n) : GDC o C B (f <$> m) (f <$> n) := fun p v q h => by
  rw [run_map] at h ⊢
  cases hn : Jvm.ClassFile.Reader.runAt n B p with
  | error e => rw [hn] at h; cases h
  | ok x =>
    rw [hn] at h
    rw [hm p x.1 x.2 hn]
    have h2 : (Except.ok (f x.1, x.2) : Except Jvm.ClassFile.DecodeError (β × Nat)) = .ok (v, q) := h
    injection h2 with h2
    injection h2 with e1 e2
    subst e1
    subst e2
    rfl
def Sub (o : Nat) (C B : ByteArray) : Prop := ∀ p (h : p < B.size), ∃ h' : p + o < C.size, C[p + o] = B[p]
theorem run_u1 {B : ByteArray} {p : Nat} (hp : p < B.size) : Jvm.ClassFile.Reader.runAt (Jvm.ClassFile.Reader.u1 : RdA Nat) B p = .ok (B[p].toNat, p + 1) := by
  show Jvm.ClassFile.Reader.runAt (if h : p < B.size then (do set (p + 1); pure B[p].toNat) else throw (Jvm.ClassFile.HasTruncated.truncated p) : RdA Nat) B p = _
  rw [dif_pos hp]; rfl
theorem run_u0 {B : ByteArray} {p : Nat} (hp : ¬ p < B.size) : Jvm.ClassFile.Reader.runAt (Jvm.ClassFile.Reader.u1 : RdA Nat) B p = .error (Jvm.ClassFile.HasTruncated.truncated p) := by
  show Jvm.ClassFile.Reader.runAt (if h : p < B.size then (do set (p + 1); pure B[p].toNat) else throw (Jvm.ClassFile.HasTruncated.truncated p) : RdA Nat) B p = _
  rw [dif_neg hp]; rfl
theorem GDC.u1 {o : Nat} {C B : ByteArray} (s : Sub o C B) : GDC o C B (Jvm.ClassFile.Reader.u1 : RdA Nat) Jvm.ClassFile.Reader.u1 := fun p v q h => by
  by_cases hp : p < B.size
  · obtain ⟨h', e⟩ := s p hp
    rw [run_u1 hp] at h
    injection h with h
    injection h with e1 e2
    rw [run_u1 h', e, e1, ← e2, show p + o + 1 = p + 1 + o by omega]
  · rw [run_u0 hp] at h; cases h
theorem GDC.u2 {o : Nat} {C B : ByteArray} (s : Sub o C B) : GDC o C B (Jvm.ClassFile.Reader.u2 : RdA Nat) Jvm.ClassFile.Reader.u2 := GDC.bd (GDC.u1 s) (fun _ => GDC.bd (GDC.u1 s) (fun _ => GDC.pr _))
theorem GDC.s1 {o : Nat} {C B : ByteArray} (s : Sub o C B) : GDC o C B (Jvm.ClassFile.Reader.s1 : RdA Int) Jvm.ClassFile.Reader.s1 := GDC.mp (GDC.u1 s)
theorem GDC.s2 {o : Nat} {C B : ByteArray} (s : Sub o C B) : GDC o C B (Jvm.ClassFile.Reader.s2 : RdA Int) Jvm.ClassFile.Reader.s2 := GDC.mp (GDC.u2 s)
def GOP (b : Nat) : RdA Instr := match b / 16 with
  | 0 => (match b % 16 with
    | 1 => pure (.aconst_null)
    | 2 => pure (.iconst (-1))
    | 3 => pure (.iconst (0))
    | 4 => pure (.iconst (1))
    | 5 => pure (.iconst (2))
    | 6 => pure (.iconst (3))
    | 7 => pure (.iconst (4))
    | 8 => pure (.iconst (5))
    | 9 => pure (.lconst 0)
    | 10 => pure (.lconst 1)
    | _ => throw (Jvm.ClassFile.HasTruncated.truncated b))
  | 1 => (match b % 16 with
    | 0 => do let a ← Jvm.ClassFile.Reader.s1; pure (.bipush a)
    | 1 => do let a ← Jvm.ClassFile.Reader.s2; pure (.sipush a)
    | 2 => do let a ← Jvm.ClassFile.Reader.u1; pure (.ldc a)
    | 3 => do let a ← Jvm.ClassFile.Reader.u2; pure (.ldc_w a)
    | 4 => do let a ← Jvm.ClassFile.Reader.u2; pure (.ldc2_w a)
    | 5 => do let a ← Jvm.ClassFile.Reader.u1; pure (.iload a)
    | 6 => do let a ← Jvm.ClassFile.Reader.u1; pure (.lload a)
    | 9 => do let a ← Jvm.ClassFile.Reader.u1; pure (.aload a)
    | 10 => pure (.iload_n 0)
    | 11 => pure (.iload_n 1)
    | 12 => pure (.iload_n 2)
    | 13 => pure (.iload_n 3)
    | 14 => pure (.lload_n 0)
    | 15 => pure (.lload_n 1)
    | _ => throw (Jvm.ClassFile.HasTruncated.truncated b))
  | 2 => (match b % 16 with
    | 0 => pure (.lload_n 2)
    | 1 => pure (.lload_n 3)
    | 10 => pure (.aload_n 0)
    | 11 => pure (.aload_n 1)
    | 12 => pure (.aload_n 2)
    | 13 => pure (.aload_n 3)
    | 14 => pure (.iaload)
    | 15 => pure (.laload)
    | _ => throw (Jvm.ClassFile.HasTruncated.truncated b))
  | 3 => (match b % 16 with
    | 2 => pure (.aaload)
    | 3 => pure (.baload)
    | 6 => do let a ← Jvm.ClassFile.Reader.u1; pure (.istore a)
    | 7 => do let a ← Jvm.ClassFile.Reader.u1; pure (.lstore a)
    | 10 => do let a ← Jvm.ClassFile.Reader.u1; pure (.astore a)
    | 11 => pure (.istore_n 0)
    | 12 => pure (.istore_n 1)
    | 13 => pure (.istore_n 2)
    | 14 => pure (.istore_n 3)
    | 15 => pure (.lstore_n 0)
    | _ => throw (Jvm.ClassFile.HasTruncated.truncated b))
  | 4 => (match b % 16 with
    | 0 => pure (.lstore_n 1)
    | 1 => pure (.lstore_n 2)
    | 2 => pure (.lstore_n 3)
    | 11 => pure (.astore_n 0)
    | 12 => pure (.astore_n 1)
    | 13 => pure (.astore_n 2)
    | 14 => pure (.astore_n 3)
    | 15 => pure (.iastore)
    | _ => throw (Jvm.ClassFile.HasTruncated.truncated b))
  | 5 => (match b % 16 with
    | 0 => pure (.lastore)
    | 3 => pure (.aastore)
    | 4 => pure (.bastore)
    | 7 => pure (.pop)
    | 8 => pure (.pop2)
    | 9 => pure (.dup)
    | 12 => pure (.dup2)
    | _ => throw (Jvm.ClassFile.HasTruncated.truncated b))
  | 6 => (match b % 16 with
    | 0 => pure (.iadd)
    | 1 => pure (.ladd)
    | 4 => pure (.isub)
    | 5 => pure (.lsub)
    | 8 => pure (.imul)
    | 9 => pure (.lmul)
    | 12 => pure (.idiv)
    | 13 => pure (.ldiv)
    | _ => throw (Jvm.ClassFile.HasTruncated.truncated b))
  | 7 => (match b % 16 with
    | 0 => pure (.irem)
    | 1 => pure (.lrem)
    | 4 => pure (.ineg)
    | 8 => pure (.ishl)
    | 9 => pure (.lshl)
    | 10 => pure (.ishr)
    | 11 => pure (.lshr)
    | 13 => pure (.lushr)
    | 14 => pure (.iand)
    | 15 => pure (.land)
    | _ => throw (Jvm.ClassFile.HasTruncated.truncated b))
  | 8 => (match b % 16 with
    | 0 => pure (.ior)
    | 1 => pure (.lor)
    | 2 => pure (.ixor)
    | 3 => pure (.lxor)
    | 4 => do let a ← Jvm.ClassFile.Reader.u1; let c ← Jvm.ClassFile.Reader.s1; pure (.iinc a c)
    | 5 => pure (.i2l)
    | 8 => pure (.l2i)
    | _ => throw (Jvm.ClassFile.HasTruncated.truncated b))
  | 9 => (match b % 16 with
    | 1 => pure (.i2b)
    | 4 => pure (.lcmp)
    | 9 => do let a ← Jvm.ClassFile.Reader.s2; pure (.ifCond .eq a)
    | 10 => do let a ← Jvm.ClassFile.Reader.s2; pure (.ifCond .ne a)
    | 11 => do let a ← Jvm.ClassFile.Reader.s2; pure (.ifCond .lt a)
    | 12 => do let a ← Jvm.ClassFile.Reader.s2; pure (.ifCond .ge a)
    | 13 => do let a ← Jvm.ClassFile.Reader.s2; pure (.ifCond .gt a)
    | 14 => do let a ← Jvm.ClassFile.Reader.s2; pure (.ifCond .le a)
    | 15 => do let a ← Jvm.ClassFile.Reader.s2; pure (.if_icmp .eq a)
    | _ => throw (Jvm.ClassFile.HasTruncated.truncated b))
  | 10 => (match b % 16 with
    | 0 => do let a ← Jvm.ClassFile.Reader.s2; pure (.if_icmp .ne a)
    | 1 => do let a ← Jvm.ClassFile.Reader.s2; pure (.if_icmp .lt a)
    | 2 => do let a ← Jvm.ClassFile.Reader.s2; pure (.if_icmp .ge a)
    | 3 => do let a ← Jvm.ClassFile.Reader.s2; pure (.if_icmp .gt a)
    | 4 => do let a ← Jvm.ClassFile.Reader.s2; pure (.if_icmp .le a)
    | 5 => do let a ← Jvm.ClassFile.Reader.s2; pure (.if_acmp .eq a)
    | 6 => do let a ← Jvm.ClassFile.Reader.s2; pure (.if_acmp .ne a)
    | 7 => do let a ← Jvm.ClassFile.Reader.s2; pure (.goto a)
    | 12 => pure (.ireturn)
    | 13 => pure (.lreturn)
    | _ => throw (Jvm.ClassFile.HasTruncated.truncated b))
  | 11 => (match b % 16 with
    | 0 => pure (.areturn)
    | 1 => pure (.return_)
    | 4 => do let a ← Jvm.ClassFile.Reader.u2; pure (.getfield a)
    | 5 => do let a ← Jvm.ClassFile.Reader.u2; pure (.putfield a)
    | 6 => do let a ← Jvm.ClassFile.Reader.u2; pure (.invokevirtual a)
    | 7 => do let a ← Jvm.ClassFile.Reader.u2; pure (.invokespecial a)
    | 8 => do let a ← Jvm.ClassFile.Reader.u2; pure (.invokestatic a)
    | 11 => do let a ← Jvm.ClassFile.Reader.u2; pure (.new a)
    | 13 => do let a ← Jvm.ClassFile.Reader.u2; pure (.anewarray a)
    | 14 => pure (.arraylength)
    | _ => throw (Jvm.ClassFile.HasTruncated.truncated b))
  | 12 => (match b % 16 with
    | 6 => do let a ← Jvm.ClassFile.Reader.s2; pure (.ifnull a)
    | 7 => do let a ← Jvm.ClassFile.Reader.s2; pure (.ifnonnull a)
    | _ => throw (Jvm.ClassFile.HasTruncated.truncated b))
  | _ => throw (Jvm.ClassFile.HasTruncated.truncated b)
/-- an instruction that is used, as numbers (0: none of these) -/
def icd (i : Instr) : Nat × Int × Int := match i with
  | .aconst_null => (1, 0, 0)
  | .iconst v => (2, v, 0)
  | .lconst j => (3, ((j : Nat) : Int), 0)
  | .bipush v => (4, v, 0)
  | .sipush v => (5, v, 0)
  | .ldc a => (6, (a : Int), 0)
  | .ldc_w a => (7, (a : Int), 0)
  | .ldc2_w a => (8, (a : Int), 0)
  | .iload a => (9, (a : Int), 0)
  | .lload a => (10, (a : Int), 0)
  | .aload a => (11, (a : Int), 0)
  | .iload_n j => (12, ((j : Nat) : Int), 0)
  | .lload_n j => (13, ((j : Nat) : Int), 0)
  | .aload_n j => (14, ((j : Nat) : Int), 0)
  | .iaload => (15, 0, 0)
  | .laload => (16, 0, 0)
  | .aaload => (17, 0, 0)
  | .baload => (18, 0, 0)
  | .istore a => (19, (a : Int), 0)
  | .lstore a => (20, (a : Int), 0)
  | .astore a => (21, (a : Int), 0)
  | .istore_n j => (22, ((j : Nat) : Int), 0)
  | .lstore_n j => (23, ((j : Nat) : Int), 0)
  | .astore_n j => (24, ((j : Nat) : Int), 0)
  | .iastore => (25, 0, 0)
  | .lastore => (26, 0, 0)
  | .aastore => (27, 0, 0)
  | .bastore => (28, 0, 0)
  | .pop => (29, 0, 0)
  | .pop2 => (30, 0, 0)
  | .dup => (31, 0, 0)
  | .dup2 => (32, 0, 0)
  | .iadd => (33, 0, 0)
  | .ladd => (34, 0, 0)
  | .isub => (35, 0, 0)
  | .lsub => (36, 0, 0)
  | .imul => (37, 0, 0)
  | .lmul => (38, 0, 0)
  | .idiv => (39, 0, 0)
  | .ldiv => (40, 0, 0)
  | .irem => (41, 0, 0)
  | .lrem => (42, 0, 0)
  | .ineg => (43, 0, 0)
  | .ishl => (44, 0, 0)
  | .lshl => (45, 0, 0)
  | .ishr => (46, 0, 0)
  | .lshr => (47, 0, 0)
  | .lushr => (48, 0, 0)
  | .iand => (49, 0, 0)
  | .land => (50, 0, 0)
  | .ior => (51, 0, 0)
  | .lor => (52, 0, 0)
  | .ixor => (53, 0, 0)
  | .lxor => (54, 0, 0)
  | .iinc a c => (55, (a : Int), c)
  | .i2l => (56, 0, 0)
  | .l2i => (57, 0, 0)
  | .i2b => (58, 0, 0)
  | .lcmp => (59, 0, 0)
  | .ifCond c o => (60, (match c with | .eq => 0 | .ne => 1 | .lt => 2 | .ge => 3 | .gt => 4 | .le => 5), o)
  | .if_icmp c o => (61, (match c with | .eq => 0 | .ne => 1 | .lt => 2 | .ge => 3 | .gt => 4 | .le => 5), o)
  | .if_acmp c o => (62, (match c with | .eq => 0 | .ne => 1), o)
  | .goto v => (63, v, 0)
  | .ireturn => (64, 0, 0)
  | .lreturn => (65, 0, 0)
  | .areturn => (66, 0, 0)
  | .return_ => (67, 0, 0)
  | .getfield a => (68, (a : Int), 0)
  | .putfield a => (69, (a : Int), 0)
  | .invokevirtual a => (70, (a : Int), 0)
  | .invokespecial a => (71, (a : Int), 0)
  | .invokestatic a => (72, (a : Int), 0)
  | .new a => (73, (a : Int), 0)
  | .anewarray a => (74, (a : Int), 0)
  | .arraylength => (75, 0, 0)
  | .ifnull v => (76, v, 0)
  | .ifnonnull v => (77, v, 0)
  | _ => (0, 0, 0)
def opU : Nat := 1207801418811989822845135901707011808915844809278811352795134
theorem opU_all : (List.range 256).all (fun b => !Nat.testBit opU b || decide (b ∈ [1, 2, 3, 4, 5, 6, 7, 8, 9, 10, 16, 17, 18, 19, 20, 21, 22, 25, 26, 27, 28, 29, 30, 31, 32, 33, 42, 43, 44, 45, 46, 47, 50, 51, 54, 55, 58, 59, 60, 61, 62, 63, 64, 65, 66, 75, 76, 77, 78, 79, 80, 83, 84, 87, 88, 89, 92, 96, 97, 100, 101, 104, 105, 108, 109, 112, 113, 116, 120, 121, 122, 123, 125, 126, 127, 128, 129, 130, 131, 132, 133, 136, 145, 148, 153, 154, 155, 156, 157, 158, 159, 160, 161, 162, 163, 164, 165, 166, 167, 172, 173, 176, 177, 180, 181, 182, 183, 184, 187, 189, 190, 198, 199])) = true := by decide +kernel
set_option maxRecDepth 100000 in
set_option maxHeartbeats 4000000 in
theorem gd_F {o : Nat} {C B : ByteArray} (s : Sub o C B) : ∃ F : Nat → Nat → RdA Instr, (∀ pc, Jvm.ClassFile.Decoder.instr pc = (Jvm.ClassFile.Reader.u1 >>= F pc)) ∧ ∀ x b, b < 256 → Nat.testBit opU b = true → GDC o C B (F x b) (GOP b) := by
  refine ⟨_, fun pc => rfl, fun x b hb ht => ?_⟩
  have h := List.all_eq_true.mp opU_all b (List.mem_range.mpr hb)
  rw [ht] at h
  have h2 : b ∈ [1, 2, 3, 4, 5, 6, 7, 8, 9, 10, 16, 17, 18, 19, 20, 21, 22, 25, 26, 27, 28, 29, 30, 31, 32, 33, 42, 43, 44, 45, 46, 47, 50, 51, 54, 55, 58, 59, 60, 61, 62, 63, 64, 65, 66, 75, 76, 77, 78, 79, 80, 83, 84, 87, 88, 89, 92, 96, 97, 100, 101, 104, 105, 108, 109, 112, 113, 116, 120, 121, 122, 123, 125, 126, 127, 128, 129, 130, 131, 132, 133, 136, 145, 148, 153, 154, 155, 156, 157, 158, 159, 160, 161, 162, 163, 164, 165, 166, 167, 172, 173, 176, 177, 180, 181, 182, 183, 184, 187, 189, 190, 198, 199] := of_decide_eq_true h
  simp only [List.mem_cons, List.not_mem_nil, or_false] at h2
  rcases h2 with rfl | rfl | rfl | rfl | rfl | rfl | rfl | rfl | rfl | rfl | rfl | rfl | rfl | rfl | rfl | rfl | rfl | rfl | rfl | rfl | rfl | rfl | rfl | rfl | rfl | rfl | rfl | rfl | rfl | rfl | rfl | rfl | rfl | rfl | rfl | rfl | rfl | rfl | rfl | rfl | rfl | rfl | rfl | rfl | rfl | rfl | rfl | rfl | rfl | rfl | rfl | rfl | rfl | rfl | rfl | rfl | rfl | rfl | rfl | rfl | rfl | rfl | rfl | rfl | rfl | rfl | rfl | rfl | rfl | rfl | rfl | rfl | rfl | rfl | rfl | rfl | rfl | rfl | rfl | rfl | rfl | rfl | rfl | rfl | rfl | rfl | rfl | rfl | rfl | rfl | rfl | rfl | rfl | rfl | rfl | rfl | rfl | rfl | rfl | rfl | rfl | rfl | rfl | rfl | rfl | rfl | rfl | rfl | rfl | rfl | rfl | rfl | rfl

  · exact GDC.pr _
  · exact GDC.pr _
  · exact GDC.pr _
  · exact GDC.pr _
  · exact GDC.pr _
  · exact GDC.pr _
  · exact GDC.pr _
  · exact GDC.pr _
  · exact GDC.pr _
  · exact GDC.pr _
  · exact GDC.bd (GDC.s1 s) (fun _ => GDC.pr _)
  · exact GDC.bd (GDC.s2 s) (fun _ => GDC.pr _)
  · exact GDC.bd (GDC.u1 s) (fun _ => GDC.pr _)
  · exact GDC.bd (GDC.u2 s) (fun _ => GDC.pr _)
  · exact GDC.bd (GDC.u2 s) (fun _ => GDC.pr _)
  · exact GDC.bd (GDC.u1 s) (fun _ => GDC.pr _)
  · exact GDC.bd (GDC.u1 s) (fun _ => GDC.pr _)
  · exact GDC.bd (GDC.u1 s) (fun _ => GDC.pr _)
  · exact GDC.pr _
  · exact GDC.pr _
  · exact GDC.pr _
  · exact GDC.pr _
  · exact GDC.pr _
  · exact GDC.pr _
  · exact GDC.pr _
  · exact GDC.pr _
  · exact GDC.pr _
  · exact GDC.pr _
  · exact GDC.pr _
  · exact GDC.pr _
  · exact GDC.pr _
  · exact GDC.pr _
  · exact GDC.pr _
  · exact GDC.pr _
  · exact GDC.bd (GDC.u1 s) (fun _ => GDC.pr _)
  · exact GDC.bd (GDC.u1 s) (fun _ => GDC.pr _)
  · exact GDC.bd (GDC.u1 s) (fun _ => GDC.pr _)
  · exact GDC.pr _
  · exact GDC.pr _
  · exact GDC.pr _
  · exact GDC.pr _
  · exact GDC.pr _
  · exact GDC.pr _
  · exact GDC.pr _
  · exact GDC.pr _
  · exact GDC.pr _
  · exact GDC.pr _
  · exact GDC.pr _
  · exact GDC.pr _
  · exact GDC.pr _
  · exact GDC.pr _
  · exact GDC.pr _
  · exact GDC.pr _
  · exact GDC.pr _
  · exact GDC.pr _
  · exact GDC.pr _
  · exact GDC.pr _
  · exact GDC.pr _
  · exact GDC.pr _
  · exact GDC.pr _
  · exact GDC.pr _
  · exact GDC.pr _
  · exact GDC.pr _
  · exact GDC.pr _
  · exact GDC.pr _
  · exact GDC.pr _
  · exact GDC.pr _
  · exact GDC.pr _
  · exact GDC.pr _
  · exact GDC.pr _
  · exact GDC.pr _
  · exact GDC.pr _
  · exact GDC.pr _
  · exact GDC.pr _
  · exact GDC.pr _
  · exact GDC.pr _
  · exact GDC.pr _
  · exact GDC.pr _
  · exact GDC.pr _
  · exact GDC.bd (GDC.u1 s) (fun _ => GDC.bd (GDC.s1 s) (fun _ => GDC.pr _))
  · exact GDC.pr _
  · exact GDC.pr _
  · exact GDC.pr _
  · exact GDC.pr _
  · exact GDC.bd (GDC.s2 s) (fun _ => GDC.pr _)
  · exact GDC.bd (GDC.s2 s) (fun _ => GDC.pr _)
  · exact GDC.bd (GDC.s2 s) (fun _ => GDC.pr _)
  · exact GDC.bd (GDC.s2 s) (fun _ => GDC.pr _)
  · exact GDC.bd (GDC.s2 s) (fun _ => GDC.pr _)
  · exact GDC.bd (GDC.s2 s) (fun _ => GDC.pr _)
  · exact GDC.bd (GDC.s2 s) (fun _ => GDC.pr _)
  · exact GDC.bd (GDC.s2 s) (fun _ => GDC.pr _)
  · exact GDC.bd (GDC.s2 s) (fun _ => GDC.pr _)
  · exact GDC.bd (GDC.s2 s) (fun _ => GDC.pr _)
  · exact GDC.bd (GDC.s2 s) (fun _ => GDC.pr _)
  · exact GDC.bd (GDC.s2 s) (fun _ => GDC.pr _)
  · exact GDC.bd (GDC.s2 s) (fun _ => GDC.pr _)
  · exact GDC.bd (GDC.s2 s) (fun _ => GDC.pr _)
  · exact GDC.bd (GDC.s2 s) (fun _ => GDC.pr _)
  · exact GDC.pr _
  · exact GDC.pr _
  · exact GDC.pr _
  · exact GDC.pr _
  · exact GDC.bd (GDC.u2 s) (fun _ => GDC.pr _)
  · exact GDC.bd (GDC.u2 s) (fun _ => GDC.pr _)
  · exact GDC.bd (GDC.u2 s) (fun _ => GDC.pr _)
  · exact GDC.bd (GDC.u2 s) (fun _ => GDC.pr _)
  · exact GDC.bd (GDC.u2 s) (fun _ => GDC.pr _)
  · exact GDC.bd (GDC.u2 s) (fun _ => GDC.pr _)
  · exact GDC.bd (GDC.u2 s) (fun _ => GDC.pr _)
  · exact GDC.pr _
  · exact GDC.bd (GDC.s2 s) (fun _ => GDC.pr _)
  · exact GDC.bd (GDC.s2 s) (fun _ => GDC.pr _)
def ckB (C : ByteArray) (o : Nat) : ByteArray := ⟨⟨(C.data.toList.drop o).take 24⟩⟩
theorem ckB_sub (C : ByteArray) (o : Nat) : Sub o C (ckB C o) := fun p h => by
  have h1 : p < ((C.data.toList.drop o).take 24).length := h
  have h2 : p < (C.data.toList.drop o).length := by rw [List.length_take] at h1; omega
  have h3 : p + o < C.data.toList.length := by rw [List.length_drop] at h2; omega
  refine ⟨h3, ?_⟩
  show C.data.toList[p + o] = ((C.data.toList.drop o).take 24)[p]
  rw [List.getElem_take, List.getElem_drop]
  congr 1
  omega
/-- what stands at pc, read in the piece that holds it -/
def dcF (C : ByteArray) (pc : Nat) : Option (Instr × Nat) := match (ckB C (pc / 16 * 16)).data.toList.getD (pc % 16) 0 with
  | b => match Nat.testBit opU b.toNat with
    | true => match Jvm.ClassFile.Reader.runAt (GOP b.toNat) (ckB C (pc / 16 * 16)) (pc % 16 + 1) with
      | .ok f => some (f.1, f.2 - pc % 16)
      | .error _ => none
    | false => match decode C pc with
      | .ok f => some f
      | .error _ => none
theorem dcF_of {C : ByteArray} {pc : Nat} {f : Instr × Nat} (h : dcF C pc = some f) : decode C pc = .ok f := by
  unfold dcF at h
  dsimp only at h
  split at h
  · rename_i ht
    split at h
    · rename_i x hx
      injection h with h
      subst h
      obtain ⟨F, hF, hG⟩ := gd_F (ckB_sub C (pc / 16 * 16))
      have run : decode C pc = match Jvm.ClassFile.Reader.runAt (Jvm.ClassFile.Decoder.instr pc) C pc with
          | .ok x => .ok (x.1, x.2 - pc)
          | .error e => .error e := by
        show Except.bind (Jvm.ClassFile.Reader.runAt (Jvm.ClassFile.Decoder.instr pc) C pc) (fun x => .ok (x.1, x.2 - pc)) = _
        cases Jvm.ClassFile.Reader.runAt (Jvm.ClassFile.Decoder.instr pc) C pc <;> rfl
      rw [run, hF, run_bind]
      by_cases hp : pc % 16 < (ckB C (pc / 16 * 16)).size
      · obtain ⟨h', e⟩ := ckB_sub C (pc / 16 * 16) (pc % 16) hp
        have hb : (ckB C (pc / 16 * 16)).data.toList.getD (pc % 16) 0 = (ckB C (pc / 16 * 16))[pc % 16] := by
          show ((C.data.toList.drop (pc / 16 * 16)).take 24).getD (pc % 16) 0 = ((C.data.toList.drop (pc / 16 * 16)).take 24)[pc % 16]
          exact (List.getElem_eq_getD 0).symm
        rw [hb] at ht hx
        have g2 := hG pc _ (UInt8.toNat_lt _) ht (pc % 16 + 1) x.1 x.2 hx
        have h'' : pc < C.size := by omega
        have eC : C[pc] = (ckB C (pc / 16 * 16))[pc % 16] := by
          rw [← e]
          congr 1
          omega
        rw [run_u1 h'', eC]
        dsimp only
        rw [show pc % 16 + 1 + pc / 16 * 16 = pc + 1 by omega] at g2
        rw [g2]
        dsimp only
        rw [show x.2 + pc / 16 * 16 - pc = x.2 - pc % 16 by omega]
      · have hb : (ckB C (pc / 16 * 16)).data.toList.getD (pc % 16) 0 = 0 := by
          have hp2 : ¬ pc % 16 < ((C.data.toList.drop (pc / 16 * 16)).take 24).length := hp
          show ((C.data.toList.drop (pc / 16 * 16)).take 24).getD (pc % 16) 0 = 0
          rw [List.getD_eq_getElem?_getD, List.getElem?_eq_none (by omega)]
          rfl
        rw [hb] at ht
        exact absurd ht (by decide +kernel)
    · cases h
  · split at h
    · rename_i f' hd
      injection h with h
      subst h
      exact hd
    · cases h
def inI (t : Nat) (x y : Int) : Instr := match t / 8 with
  | 0 => (match t % 8 with
    | 1 => .aconst_null
    | 2 => .iconst x
    | 3 => .lconst (Fin.ofNat 2 x.toNat)
    | 4 => .bipush x
    | 5 => .sipush x
    | 6 => .ldc x.toNat
    | 7 => .ldc_w x.toNat
    | _ => .nop)
  | 1 => (match t % 8 with
    | 0 => .ldc2_w x.toNat
    | 1 => .iload x.toNat
    | 2 => .lload x.toNat
    | 3 => .aload x.toNat
    | 4 => .iload_n (Fin.ofNat 4 x.toNat)
    | 5 => .lload_n (Fin.ofNat 4 x.toNat)
    | 6 => .aload_n (Fin.ofNat 4 x.toNat)
    | 7 => .iaload
    | _ => .nop)
  | 2 => (match t % 8 with
    | 0 => .laload
    | 1 => .aaload
    | 2 => .baload
    | 3 => .istore x.toNat
    | 4 => .lstore x.toNat
    | 5 => .astore x.toNat
    | 6 => .istore_n (Fin.ofNat 4 x.toNat)
    | 7 => .lstore_n (Fin.ofNat 4 x.toNat)
    | _ => .nop)
  | 3 => (match t % 8 with
    | 0 => .astore_n (Fin.ofNat 4 x.toNat)
    | 1 => .iastore
    | 2 => .lastore
    | 3 => .aastore
    | 4 => .bastore
    | 5 => .pop
    | 6 => .pop2
    | 7 => .dup
    | _ => .nop)
  | 4 => (match t % 8 with
    | 0 => .dup2
    | 1 => .iadd
    | 2 => .ladd
    | 3 => .isub
    | 4 => .lsub
    | 5 => .imul
    | 6 => .lmul
    | 7 => .idiv
    | _ => .nop)
  | 5 => (match t % 8 with
    | 0 => .ldiv
    | 1 => .irem
    | 2 => .lrem
    | 3 => .ineg
    | 4 => .ishl
    | 5 => .lshl
    | 6 => .ishr
    | 7 => .lshr
    | _ => .nop)
  | 6 => (match t % 8 with
    | 0 => .lushr
    | 1 => .iand
    | 2 => .land
    | 3 => .ior
    | 4 => .lor
    | 5 => .ixor
    | 6 => .lxor
    | 7 => .iinc x.toNat y
    | _ => .nop)
  | 7 => (match t % 8 with
    | 0 => .i2l
    | 1 => .l2i
    | 2 => .i2b
    | 3 => .lcmp
    | 4 => .ifCond (if x = 0 then .eq else if x = 1 then .ne else if x = 2 then .lt else if x = 3 then .ge else if x = 4 then .gt else .le) y
    | 5 => .if_icmp (if x = 0 then .eq else if x = 1 then .ne else if x = 2 then .lt else if x = 3 then .ge else if x = 4 then .gt else .le) y
    | 6 => .if_acmp (if x = 0 then .eq else .ne) y
    | 7 => .goto x
    | _ => .nop)
  | 8 => (match t % 8 with
    | 0 => .ireturn
    | 1 => .lreturn
    | 2 => .areturn
    | 3 => .return_
    | 4 => .getfield x.toNat
    | 5 => .putfield x.toNat
    | 6 => .invokevirtual x.toNat
    | 7 => .invokespecial x.toNat
    | _ => .nop)
  | 9 => (match t % 8 with
    | 0 => .invokestatic x.toNat
    | 1 => .new x.toNat
    | 2 => .anewarray x.toNat
    | 3 => .arraylength
    | 4 => .ifnull x
    | 5 => .ifnonnull x
    | _ => .nop)
  | _ => .nop
theorem icd_of {i : Instr} (h : (icd i).1 ≠ 0) : inI (icd i).1 (icd i).2.1 (icd i).2.2 = i := by
  cases i
  case aconst_null =>
    show inI 1 0 0 = _
    rfl
  case iconst v =>
    show inI 2 v 0 = _
    rfl
  case lconst j =>
    obtain ⟨j, hj⟩ := j
    have e : (Fin.ofNat 2 (((j : Nat) : Int)).toNat) = (⟨j, hj⟩ : Fin 2) := Fin.ext (Nat.mod_eq_of_lt hj)
    show inI 3 ((j : Nat) : Int) 0 = _
    show Instr.lconst (Fin.ofNat 2 (((j : Nat) : Int)).toNat) = _
    rw [e]
  case bipush v =>
    show inI 4 v 0 = _
    rfl
  case sipush v =>
    show inI 5 v 0 = _
    rfl
  case ldc a =>
    show inI 6 (a : Int) 0 = _
    rfl
  case ldc_w a =>
    show inI 7 (a : Int) 0 = _
    rfl
  case ldc2_w a =>
    show inI 8 (a : Int) 0 = _
    rfl
  case iload a =>
    show inI 9 (a : Int) 0 = _
    rfl
  case lload a =>
    show inI 10 (a : Int) 0 = _
    rfl
  case aload a =>
    show inI 11 (a : Int) 0 = _
    rfl
  case iload_n j =>
    obtain ⟨j, hj⟩ := j
    have e : (Fin.ofNat 4 (((j : Nat) : Int)).toNat) = (⟨j, hj⟩ : Fin 4) := Fin.ext (Nat.mod_eq_of_lt hj)
    show inI 12 ((j : Nat) : Int) 0 = _
    show Instr.iload_n (Fin.ofNat 4 (((j : Nat) : Int)).toNat) = _
    rw [e]
  case lload_n j =>
    obtain ⟨j, hj⟩ := j
    have e : (Fin.ofNat 4 (((j : Nat) : Int)).toNat) = (⟨j, hj⟩ : Fin 4) := Fin.ext (Nat.mod_eq_of_lt hj)
    show inI 13 ((j : Nat) : Int) 0 = _
    show Instr.lload_n (Fin.ofNat 4 (((j : Nat) : Int)).toNat) = _
    rw [e]
  case aload_n j =>
    obtain ⟨j, hj⟩ := j
    have e : (Fin.ofNat 4 (((j : Nat) : Int)).toNat) = (⟨j, hj⟩ : Fin 4) := Fin.ext (Nat.mod_eq_of_lt hj)
    show inI 14 ((j : Nat) : Int) 0 = _
    show Instr.aload_n (Fin.ofNat 4 (((j : Nat) : Int)).toNat) = _
    rw [e]
  case iaload =>
    show inI 15 0 0 = _
    rfl
  case laload =>
    show inI 16 0 0 = _
    rfl
  case aaload =>
    show inI 17 0 0 = _
    rfl
  case baload =>
    show inI 18 0 0 = _
    rfl
  case istore a =>
    show inI 19 (a : Int) 0 = _
    rfl
  case lstore a =>
    show inI 20 (a : Int) 0 = _
    rfl
  case astore a =>
    show inI 21 (a : Int) 0 = _
    rfl
  case istore_n j =>
    obtain ⟨j, hj⟩ := j
    have e : (Fin.ofNat 4 (((j : Nat) : Int)).toNat) = (⟨j, hj⟩ : Fin 4) := Fin.ext (Nat.mod_eq_of_lt hj)
    show inI 22 ((j : Nat) : Int) 0 = _
    show Instr.istore_n (Fin.ofNat 4 (((j : Nat) : Int)).toNat) = _
    rw [e]
  case lstore_n j =>
    obtain ⟨j, hj⟩ := j
    have e : (Fin.ofNat 4 (((j : Nat) : Int)).toNat) = (⟨j, hj⟩ : Fin 4) := Fin.ext (Nat.mod_eq_of_lt hj)
    show inI 23 ((j : Nat) : Int) 0 = _
    show Instr.lstore_n (Fin.ofNat 4 (((j : Nat) : Int)).toNat) = _
    rw [e]
  case astore_n j =>
    obtain ⟨j, hj⟩ := j
    have e : (Fin.ofNat 4 (((j : Nat) : Int)).toNat) = (⟨j, hj⟩ : Fin 4) := Fin.ext (Nat.mod_eq_of_lt hj)
    show inI 24 ((j : Nat) : Int) 0 = _
    show Instr.astore_n (Fin.ofNat 4 (((j : Nat) : Int)).toNat) = _
    rw [e]
  case iastore =>
    show inI 25 0 0 = _
    rfl
  case lastore =>
    show inI 26 0 0 = _
    rfl
  case aastore =>
    show inI 27 0 0 = _
    rfl
  case bastore =>
    show inI 28 0 0 = _
    rfl
  case pop =>
    show inI 29 0 0 = _
    rfl
  case pop2 =>
    show inI 30 0 0 = _
    rfl
  case dup =>
    show inI 31 0 0 = _
    rfl
  case dup2 =>
    show inI 32 0 0 = _
    rfl
  case iadd =>
    show inI 33 0 0 = _
    rfl
  case ladd =>
    show inI 34 0 0 = _
    rfl
  case isub =>
    show inI 35 0 0 = _
    rfl
  case lsub =>
    show inI 36 0 0 = _
    rfl
  case imul =>
    show inI 37 0 0 = _
    rfl
  case lmul =>
    show inI 38 0 0 = _
    rfl
  case idiv =>
    show inI 39 0 0 = _
    rfl
  case ldiv =>
    show inI 40 0 0 = _
    rfl
  case irem =>
    show inI 41 0 0 = _
    rfl
  case lrem =>
    show inI 42 0 0 = _
    rfl
  case ineg =>
    show inI 43 0 0 = _
    rfl
  case ishl =>
    show inI 44 0 0 = _
    rfl
  case lshl =>
    show inI 45 0 0 = _
    rfl
  case ishr =>
    show inI 46 0 0 = _
    rfl
  case lshr =>
    show inI 47 0 0 = _
    rfl
  case lushr =>
    show inI 48 0 0 = _
    rfl
  case iand =>
    show inI 49 0 0 = _
    rfl
  case land =>
    show inI 50 0 0 = _
    rfl
  case ior =>
    show inI 51 0 0 = _
    rfl
  case lor =>
    show inI 52 0 0 = _
    rfl
  case ixor =>
    show inI 53 0 0 = _
    rfl
  case lxor =>
    show inI 54 0 0 = _
    rfl
  case iinc a c =>
    show inI 55 (a : Int) c = _
    rfl
  case i2l =>
    show inI 56 0 0 = _
    rfl
  case l2i =>
    show inI 57 0 0 = _
    rfl
  case i2b =>
    show inI 58 0 0 = _
    rfl
  case lcmp =>
    show inI 59 0 0 = _
    rfl
  case ifCond c o =>
    cases c
    · show inI 60 0 o = _
      rfl
    · show inI 60 1 o = _
      rfl
    · show inI 60 2 o = _
      rfl
    · show inI 60 3 o = _
      rfl
    · show inI 60 4 o = _
      rfl
    · show inI 60 5 o = _
      rfl
  case if_icmp c o =>
    cases c
    · show inI 61 0 o = _
      rfl
    · show inI 61 1 o = _
      rfl
    · show inI 61 2 o = _
      rfl
    · show inI 61 3 o = _
      rfl
    · show inI 61 4 o = _
      rfl
    · show inI 61 5 o = _
      rfl
  case if_acmp c o =>
    cases c
    · show inI 62 0 o = _
      rfl
    · show inI 62 1 o = _
      rfl
  case goto v =>
    show inI 63 v 0 = _
    rfl
  case ireturn =>
    show inI 64 0 0 = _
    rfl
  case lreturn =>
    show inI 65 0 0 = _
    rfl
  case areturn =>
    show inI 66 0 0 = _
    rfl
  case return_ =>
    show inI 67 0 0 = _
    rfl
  case getfield a =>
    show inI 68 (a : Int) 0 = _
    rfl
  case putfield a =>
    show inI 69 (a : Int) 0 = _
    rfl
  case invokevirtual a =>
    show inI 70 (a : Int) 0 = _
    rfl
  case invokespecial a =>
    show inI 71 (a : Int) 0 = _
    rfl
  case invokestatic a =>
    show inI 72 (a : Int) 0 = _
    rfl
  case new a =>
    show inI 73 (a : Int) 0 = _
    rfl
  case anewarray a =>
    show inI 74 (a : Int) 0 = _
    rfl
  case arraylength =>
    show inI 75 0 0 = _
    rfl
  case ifnull v =>
    show inI 76 v 0 = _
    rfl
  case ifnonnull v =>
    show inI 77 v 0 = _
    rfl
  all_goals exact absurd rfl h
/-- two instructions are one -/
def eqI (a b : Instr) : Bool := match icd b with
  | (0, _, _) => decide (a = b)
  | (n + 1, x, y) => match icd a with
    | (m, u, v) => Nat.beq m (n + 1) && (decide (u = x) && decide (v = y))
theorem eqI_of {a b : Instr} (h : eqI a b = true) : a = b := by
  unfold eqI at h
  split at h
  · exact of_decide_eq_true h
  · rename_i n x y hb
    split at h
    rename_i m u v ha
    obtain ⟨h1, h⟩ := b2 h
    obtain ⟨h2, h3⟩ := b2 h
    have e1 := Nat.eq_of_beq_eq_true h1
    have e2 := of_decide_eq_true h2
    have e3 := of_decide_eq_true h3
    subst e1
    subst e2
    subst e3
    have za : (icd a).1 ≠ 0 := by rw [ha]; exact Nat.succ_ne_zero n
    have zb : (icd b).1 ≠ 0 := by rw [hb]; exact Nat.succ_ne_zero n
    rw [← icd_of za, ← icd_of zb, ha, hb]
def vldF (k : Nat) (e : Nat × EJ) : Bool := (match dcF (am_code k) e.1 with
  | some f => eqI f.1 e.2.1 && f.2 == e.2.2.1
  | none => false) && vIF e.1 k e.2.1 e.2.2.1 e.2.2.2
theorem vldF_1 {k : Nat} {e : Nat × EJ} (h : vldF k e = true) : vld k e = true := by
  unfold vldF at h
  unfold vld
  obtain ⟨a, b⟩ := b2 h
  rw [vIF_of b]
  cases hf : dcF (am_code k) e.1 with
  | none => rw [hf] at a; cases a
  | some f =>
    rw [hf] at a
    rw [dcF_of hf]
    dsimp only at a ⊢
    obtain ⟨a1, a2⟩ := b2 a
    rw [eqI_of a1, a2, decide_eq_true rfl]
    rfl
theorem vldF_of {k : Nat} {L : List (Nat × EJ)} (h : L.all (vldF k) = true) : L.all (vld k) = true := List.all_eq_true.mpr (fun x hx => vldF_1 (List.all_eq_true.mp h x hx))
