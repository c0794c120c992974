/-! The program as tables, by program (wip/whole/prog/tables.py) out of the words of the Statement: classes by number, methods by number, what a pool entry names. -/
def am_onL : List String := ["StableSale", "StableSale$ShareClass", "StableSale$Grant", "StableSale$Ledger", "StableSale$History", "StableSale$Sharing", "StableSale$Sale", "StableSaleModel", "StableSaleLaw", "java/lang/Math", "java/util/Arrays"]
def am_on (w : Nat) : String := am_onL.getD w ""
def am_F0 : u_T := fun k => match k with
  | 0 => ("StableSale", "ledger", "LStableSale$Ledger;", true)
  | 1 => ("StableSale", "history", "LStableSale$History;", true)
  | _ => ("StableSale", "sale", "LStableSale$Sale;", true)
def am_T0 : Nat → FieldType := fun k => match k with
  | 0 => .object "StableSale$Ledger"
  | 1 => .object "StableSale$History"
  | _ => .object "StableSale$Sale"
def am_F1 : u_T := fun k => match k with
  | 0 => ("StableSale$ShareClass", "price", "I", false)
  | 1 => ("StableSale$ShareClass", "multiple", "I", false)
  | 2 => ("StableSale$ShareClass", "rank", "I", false)
  | 3 => ("StableSale$ShareClass", "kind", "I", false)
  | 4 => ("StableSale$ShareClass", "cap", "I", false)
  | 5 => ("StableSale$ShareClass", "guard", "I", false)
  | 6 => ("StableSale$ShareClass", "conversionPrice", "I", false)
  | 7 => ("StableSale$ShareClass", "inIssue", "I", false)
  | _ => ("StableSale$ShareClass", "held", "[I", true)
def am_T1 : Nat → FieldType := fun k => match k with
  | 0 => .int
  | 1 => .int
  | 2 => .int
  | 3 => .int
  | 4 => .int
  | 5 => .int
  | 6 => .int
  | 7 => .int
  | _ => .array (.int)
def am_F2 : u_T := fun k => match k with
  | 0 => ("StableSale$Grant", "holder", "I", false)
  | 1 => ("StableSale$Grant", "shares", "I", false)
  | 2 => ("StableSale$Grant", "month", "I", false)
  | 3 => ("StableSale$Grant", "cliff", "I", false)
  | 4 => ("StableSale$Grant", "length", "I", false)
  | 5 => ("StableSale$Grant", "exercised", "I", false)
  | _ => ("StableSale$Grant", "ended", "Z", false)
def am_T2 : Nat → FieldType := fun k => match k with
  | 0 => .int
  | 1 => .int
  | 2 => .int
  | 3 => .int
  | 4 => .int
  | 5 => .int
  | _ => .boolean
def am_F3 : u_T := fun k => match k with
  | 0 => ("StableSale$Ledger", "classes", "[LStableSale$ShareClass;", true)
  | 1 => ("StableSale$Ledger", "grants", "[LStableSale$Grant;", true)
  | 2 => ("StableSale$Ledger", "classCount", "I", false)
  | 3 => ("StableSale$Ledger", "grantCount", "I", false)
  | 4 => ("StableSale$Ledger", "pool", "I", false)
  | _ => ("StableSale$Ledger", "month", "I", false)
def am_T3 : Nat → FieldType := fun k => match k with
  | 0 => .array (.object "StableSale$ShareClass")
  | 1 => .array (.object "StableSale$Grant")
  | 2 => .int
  | 3 => .int
  | 4 => .int
  | _ => .int
def am_F4 : u_T := fun k => match k with
  | 0 => ("StableSale$History", "kept", "[LStableSale$Ledger;", true)
  | 1 => ("StableSale$History", "next", "I", false)
  | _ => ("StableSale$History", "count", "I", false)
def am_T4 : Nat → FieldType := fun k => match k with
  | 0 => .array (.object "StableSale$Ledger")
  | 1 => .int
  | _ => .int
def am_F5 : u_T := fun k => match k with
  | 0 => ("StableSale$Sharing", "parts", "[I", true)
  | _ => ("StableSale$Sharing", "remainders", "[J", true)
def am_T5 : Nat → FieldType := fun k => match k with
  | 0 => .array (.int)
  | _ => .array (.long)
def am_F6 : u_T := fun k => match k with
  | 0 => ("StableSale$Sale", "sharing", "LStableSale$Sharing;", true)
  | 1 => ("StableSale$Sale", "divisions", "[[I", true)
  | 2 => ("StableSale$Sale", "divided", "[Z", true)
  | 3 => ("StableSale$Sale", "preferences", "[I", true)
  | 4 => ("StableSale$Sale", "weights", "[I", true)
  | 5 => ("StableSale$Sale", "mosts", "[J", true)
  | 6 => ("StableSale$Sale", "claims", "[I", true)
  | _ => ("StableSale$Sale", "amount", "I", false)
def am_T6 : Nat → FieldType := fun k => match k with
  | 0 => .object "StableSale$Sharing"
  | 1 => .array (.array (.int))
  | 2 => .array (.boolean)
  | 3 => .array (.int)
  | 4 => .array (.int)
  | 5 => .array (.long)
  | 6 => .array (.int)
  | _ => .int
def am_F7 : u_T := fun k => match k with
  | 0 => ("StableSaleModel", "thrown", "I", false)
  | 1 => ("StableSaleModel", "s", "[I", true)
  | 2 => ("StableSaleModel", "older", "[I", true)
  | 3 => ("StableSaleModel", "known", "I", false)
  | 4 => ("StableSaleModel", "weights", "[J", true)
  | 5 => ("StableSaleModel", "parts", "[J", true)
  | 6 => ("StableSaleModel", "remainders", "[J", true)
  | 7 => ("StableSaleModel", "got", "[J", true)
  | 8 => ("StableSaleModel", "company", "J", false)
  | _ => ("StableSaleModel", "prices", "[I", true)
def am_T7 : Nat → FieldType := fun k => match k with
  | 0 => .int
  | 1 => .array (.int)
  | 2 => .array (.int)
  | 3 => .int
  | 4 => .array (.long)
  | 5 => .array (.long)
  | 6 => .array (.long)
  | 7 => .array (.long)
  | 8 => .long
  | _ => .array (.int)
def am_cl : List vw_C := [("StableSale", am_F0, 3), ("StableSale$ShareClass", am_F1, 9), ("StableSale$Grant", am_F2, 7), ("StableSale$Ledger", am_F3, 6), ("StableSale$History", am_F4, 3), ("StableSale$Sharing", am_F5, 2), ("StableSale$Sale", am_F6, 8), ("StableSaleModel", am_F7, 10)]
def am_ft (ci k : Nat) : FieldType := match ci with
  | 0 => am_T0 k
  | 1 => am_T1 k
  | 2 => am_T2 k
  | 3 => am_T3 k
  | 4 => am_T4 k
  | 5 => am_T5 k
  | 6 => am_T6 k
  | _ => am_T7 k
def am_fin (ci k : Nat) : Bool := match ci with
  | 0 => (am_F0 k).2.2.2
  | 1 => (am_F1 k).2.2.2
  | 2 => (am_F2 k).2.2.2
  | 3 => (am_F3 k).2.2.2
  | 4 => (am_F4 k).2.2.2
  | 5 => (am_F5 k).2.2.2
  | 6 => (am_F6 k).2.2.2
  | _ => (am_F7 k).2.2.2
def am_df (ci : Nat) : List Value := match ci with
  | 0 => [.null, .null, .null]
  | 1 => [.int (nI 0), .int (nI 0), .int (nI 0), .int (nI 0), .int (nI 0), .int (nI 0), .int (nI 0), .int (nI 0), .null]
  | 2 => [.int (nI 0), .int (nI 0), .int (nI 0), .int (nI 0), .int (nI 0), .int (nI 0), .int (nI 0)]
  | 3 => [.null, .null, .int (nI 0), .int (nI 0), .int (nI 0), .int (nI 0)]
  | 4 => [.null, .int (nI 0), .int (nI 0)]
  | 5 => [.null, .null]
  | 6 => [.null, .null, .null, .null, .null, .null, .null, .int (nI 0)]
  | _ => [.int (nI 0), .null, .null, .int (nI 0), .null, .null, .null, .null, .long (lN 0), .null]
def am_fw {α : Type} (l : List (List (Nat × α))) (w ix : Nat) : Option α := (l.getD w []).lookup ix
def am_mtL : List (List (Nat × Nat)) := [[(11, 2), (18, 5), (25, 6), (90, 9), (128, 11), (30, 15), (44, 16), (52, 21), (58, 24), (62, 25), (68, 26), (72, 28), (80, 31), (83, 34), (86, 12), (107, 39), (113, 44), (116, 49), (119, 46), (134, 60), (137, 61), (141, 63), (145, 62), (148, 66), (152, 83), (159, 88)], [(48, 69), (52, 71)], [(32, 46)], [(17, 3), (24, 4), (48, 12), (29, 18), (33, 19), (52, 11), (56, 27), (66, 45), (70, 15), (74, 64)], [(17, 2), (22, 17), (29, 20)], [(19, 67), (25, 20), (31, 73), (35, 75)], [(11, 7), (45, 62), (52, 63), (58, 65), (62, 66), (82, 67), (88, 68), (104, 64), (111, 69), (115, 12), (119, 70), (92, 72), (128, 73), (78, 74), (96, 76), (132, 77), (100, 78)], [(39, 92), (57, 93), (61, 94), (64, 96), (68, 97), (49, 98), (71, 99), (53, 100), (45, 101), (80, 105), (77, 106), (84, 110), (87, 112), (139, 120), (125, 121), (132, 122), (135, 123), (128, 124), (117, 125), (96, 126), (99, 127), (92, 128), (102, 129), (106, 130), (121, 131), (110, 132)], [(75, 1), (119, 8), (129, 10), (79, 13), (7, 14), (88, 22), (17, 23), (92, 29), (23, 30), (95, 32), (26, 33), (99, 35), (30, 36), (103, 37), (34, 38), (106, 40), (37, 41), (109, 42), (40, 43), (112, 47), (43, 48), (116, 50), (47, 51), (123, 52), (50, 53), (126, 54), (53, 55), (133, 56), (56, 57), (136, 58), (59, 59), (139, 79), (62, 80), (142, 81), (65, 82), (145, 84), (68, 85), (148, 86), (71, 87), (78, 89), (85, 90), (84, 91), (91, 95), (94, 102), (98, 103), (102, 104), (105, 107), (108, 108), (111, 109), (115, 111), (118, 113), (122, 114), (125, 115), (128, 116), (132, 117), (135, 118), (138, 119), (141, 133), (144, 134), (147, 135), (151, 136)], [], []]
def am_mt (w ix : Nat) : Option Nat := am_fw am_mtL w ix
def am_fdL : List (List (Nat × Nat × Nat)) := [[(131, 1, 6), (65, 1, 7), (76, 1, 8), (125, 2, 0), (122, 2, 5), (48, 3, 0), (100, 3, 1), (37, 3, 2), (97, 3, 3), (94, 3, 4), (104, 3, 5), (156, 4, 2), (12, 0, 0), (19, 0, 1), (26, 0, 2)], [(9, 1, 0), (22, 1, 1), (25, 1, 2), (28, 1, 3), (31, 1, 4), (34, 1, 5), (15, 1, 6), (37, 1, 7), (18, 1, 8)], [(7, 2, 0), (13, 2, 1), (16, 2, 2), (19, 2, 3), (22, 2, 4), (25, 2, 5), (28, 2, 6)], [(45, 1, 7), (63, 2, 0), (60, 2, 1), (11, 3, 0), (20, 3, 1), (25, 3, 2), (36, 3, 3), (39, 3, 4), (42, 3, 5)], [(11, 4, 0), (18, 4, 1), (26, 4, 2)], [(9, 5, 0), (15, 5, 1)], [(125, 1, 2), (108, 1, 3), (70, 1, 7), (75, 1, 8), (66, 3, 0), (12, 6, 0), (20, 6, 1), (23, 6, 2), (27, 6, 3), (31, 6, 4), (34, 6, 5), (38, 6, 6), (41, 6, 7)], [(36, 7, 0), (7, 7, 1), (13, 7, 2), (32, 7, 3), (16, 7, 4), (20, 7, 5), (23, 7, 6), (26, 7, 7), (113, 7, 8), (29, 7, 9)], [], [], []]
def am_fd (w ix : Nat) : Option (Nat × Nat) := am_fw am_fdL w ix
def am_nwL : List (List (Nat × Nat)) := [[(9, 3), (16, 4), (23, 6)], [], [], [(9, 1), (18, 2)], [(9, 3)], [], [(9, 5)], [], [(8, 0), (76, 7)], [], []]
def am_nw (w ix : Nat) : Option Nat := am_fw am_nwL w ix
def am_an (w ix : Nat) : Option Nat := am_fw am_nwL w ix
def am_exL : List (List (Nat × Nat × Nat)) := [[(34, 0, 36), (41, 1, 43), (162, 2, 164)], [], [], [], [], [], [], [], [], [], []]
def am_ex (w ix : Nat) : Option (Nat × Nat) := am_fw am_exL w ix
def am_ldIL : List (List (Nat × Nat)) := [[(165, 2000000000)], [], [], [], [], [], [], [(138, 2000000000)], [], [], []]
def am_ldI (w ix : Nat) : Option Nat := am_fw am_ldIL w ix
def am_ldLL : List (List (Nat × Int64)) := [[], [(46, lN 1000)], [], [], [], [(39, (-1))], [(123, lN 2000000000)], [(43, lN 1000), (75, lN 20000), (90, (-1))], [], [], []]
def am_ldL (w ix : Nat) : Option Int64 := am_fw am_ldLL w ix
def am_oiL : List (List Nat) := [[3], [3], [1], [3], [3], [3], [3], [1], [], [], []]
def am_oi (w ix : Nat) : Bool := (am_oiL.getD w []).contains ix
def am_acL : List (List Nat) := [[], [40], [], [], [], [], [], [], [], [], []]
def am_ac (w ix : Nat) : Bool := (am_acL.getD w []).contains ix
def am_mnL : List (List Nat) := [[], [], [], [], [], [], [18], [], [], [], []]
def am_mn (w ix : Nat) : Bool := (am_mnL.getD w []).contains ix
def am_gsL : List (List Nat) := [[], [], [], [], [], [], [49], [], [], [], []]
def am_gs (w ix : Nat) : Option Nat := if (am_gsL.getD w []).contains ix then some 1 else none
def am_exN : List String := ["java/lang/IllegalArgumentException", "java/lang/IllegalStateException", "java/util/NoSuchElementException"]
def am_byL : List ByteArray := [code, prog_1_method_1_code, prog_4_method_1_code, prog_6_method_1_code, prog_2_method_1_code, prog_3_method_1_code, prog_5_method_1_code, prog_7_method_1_code, prog_1_method_12_code, prog_4_method_5_code, prog_1_method_15_code, prog_4_method_3_code, prog_6_method_6_code, method_3_code, prog_1_method_2_code, prog_1_method_22_code, prog_3_method_2_code, prog_4_method_2_code, prog_6_method_3_code, prog_2_method_3_code, prog_13_method_69_code, prog_6_method_2_code, method_4_code, prog_1_method_3_code, prog_1_method_24_code, prog_1_method_26_code, prog_4_method_4_code, prog_6_method_9_code, prog_6_method_4_code, method_5_code, prog_1_method_4_code, prog_6_method_5_code, method_6_code, prog_1_method_5_code, prog_1_method_25_code, method_7_code, prog_1_method_6_code, method_8_code, prog_1_method_7_code, prog_2_method_2_code, method_9_code, prog_1_method_8_code, method_10_code, prog_1_method_9_code, prog_4_method_6_code, prog_2_method_5_code, prog_2_method_4_code, method_11_code, prog_1_method_10_code, prog_1_method_27_code, method_12_code, prog_1_method_11_code, method_13_code, prog_1_method_13_code, method_14_code, prog_1_method_14_code, method_15_code, prog_1_method_16_code, method_16_code, prog_1_method_17_code, prog_1_method_28_code, prog_5_method_3_code, prog_5_method_2_code, prog_4_method_7_code, prog_1_method_23_code, prog_5_method_4_code, prog_5_method_6_code, prog_17_method_103_code, prog_5_method_7_code, prog_6_method_7_code, prog_6_method_8_code, prog_13_method_66_code, prog_5_method_8_code, prog_7_method_3_code, prog_7_method_2_code, prog_7_method_4_code, prog_5_method_9_code, prog_5_method_10_code, prog_5_method_11_code, method_17_code, prog_1_method_18_code, method_18_code, prog_1_method_19_code, prog_5_method_5_code, method_19_code, prog_1_method_20_code, method_20_code, prog_1_method_21_code, prog_3_method_3_code, prog_9_method_1_code, prog_9_method_2_code, prog_9_method_13_code, prog_9_method_4_code, prog_9_method_3_code, prog_9_method_9_code, prog_9_method_14_code, prog_9_method_5_code, prog_9_method_6_code, prog_9_method_10_code, prog_9_method_12_code, prog_9_method_11_code, prog_9_method_7_code, prog_9_method_15_code, prog_9_method_16_code, prog_9_method_19_code, prog_9_method_18_code, prog_9_method_8_code, prog_9_method_20_code, prog_9_method_21_code, prog_9_method_22_code, prog_9_method_17_code, prog_9_method_24_code, prog_9_method_23_code, prog_9_method_25_code, prog_9_method_26_code, prog_9_method_27_code, prog_9_method_28_code, prog_9_method_29_code, prog_9_method_30_code, prog_9_method_44_code, prog_9_method_43_code, prog_9_method_40_code, prog_9_method_42_code, prog_9_method_41_code, prog_9_method_39_code, prog_9_method_36_code, prog_9_method_32_code, prog_9_method_35_code, prog_9_method_33_code, prog_9_method_34_code, prog_9_method_31_code, prog_9_method_37_code, prog_9_method_38_code, prog_9_method_45_code, prog_9_method_46_code, prog_9_method_47_code, prog_9_method_48_code]
def am_by (j : Nat) : ByteArray := am_byL.getD j ⟨#[]⟩
def am_mxL : List Nat := [7, 1, 2, 1, 1, 2, 1, 1, 1, 3, 1, 3, 2, 9, 9, 3, 2, 3, 2, 2, 2, 7, 7, 6, 2, 2, 6, 9, 3, 7, 6, 3, 6, 7, 2, 4, 3, 7, 7, 6, 4, 2, 4, 2, 4, 3, 3, 5, 6, 2, 4, 2, 5, 3, 4, 2, 4, 2, 4, 2, 2, 7, 3, 3, 2, 6, 7, 4, 8, 1, 1, 4, 11, 7, 12, 4, 8, 6, 6, 6, 5, 5, 4, 7, 5, 8, 3, 1, 2, 1, 1, 9, 3, 4, 2, 14, 2, 1, 4, 4, 3, 3, 6, 7, 3, 3, 3, 7, 2, 5, 4, 5, 2, 2, 1, 3, 2, 1, 2, 2, 5, 3, 1, 7, 4, 10, 2, 3, 2, 2, 9, 13, 4, 5, 8, 8, 2]
def am_mx (j : Nat) : Nat := am_mxL.getD j 0
def am_wL : List Nat := [8, 0, 3, 1, 2, 4, 6, 5, 0, 3, 0, 3, 1, 8, 0, 0, 4, 3, 1, 2, 9, 1, 8, 0, 0, 0, 3, 1, 1, 8, 0, 1, 8, 0, 0, 8, 0, 8, 0, 2, 8, 0, 8, 0, 3, 2, 2, 8, 0, 0, 8, 0, 8, 0, 8, 0, 8, 0, 8, 0, 0, 6, 6, 3, 0, 6, 6, 10, 6, 1, 1, 9, 6, 5, 5, 5, 6, 6, 6, 8, 0, 8, 0, 6, 8, 0, 8, 0, 4, 7, 7, 7, 7, 7, 7, 7, 7, 7, 7, 7, 7, 7, 7, 7, 7, 7, 7, 7, 7, 7, 7, 7, 7, 7, 7, 7, 7, 7, 7, 7, 7, 7, 7, 7, 7, 7, 7, 7, 7, 7, 7, 7, 7, 7, 7, 7, 7]
def am_w (j : Nat) : Nat := am_wL.getD j 99
def am_rtL : List (Option FieldType) := [(some .boolean), none, none, none, none, none, none, none, (some .int), (some .int), (some .int), (some .int), (some .int), (some .int), (some .int), (some .boolean), none, none, none, none, (some .int), none, (some .int), (some .int), none, none, none, none, none, (some .int), (some .int), none, (some .int), (some .int), none, (some .int), (some .int), (some .int), (some .int), none, (some .int), (some .int), (some .int), (some .int), (some .int), (some .boolean), (some .int), (some .int), (some .int), none, (some .int), (some .int), (some .int), (some .int), (some .int), (some .int), (some .int), (some .int), (some .int), (some .int), none, (some .int), none, (some .boolean), (some .boolean), (some .boolean), (some (.array .int)), none, none, (some .int), (some .long), (some .long), (some .long), (some .long), (some (.array .int)), (some .int), (some .long), (some .int), none, (some .int), (some .int), (some .int), (some .int), (some .int), (some .int), (some .int), (some .int), (some .int), none, none, (some .int), (some .int), (some .boolean), (some .boolean), none, (some .int), (some .boolean), (some .boolean), (some .int), (some .long), (some .long), (some .int), (some .int), (some .int), (some .int), (some .int), (some .int), (some .int), (some .int), (some .int), (some .int), (some .int), (some .boolean), (some .int), (some .int), (some .int), (some .int), (some .int), (some .int), (some .int), (some .int), (some .int), (some .int), (some .boolean), none, (some .long), none, (some .boolean), (some .boolean), (some .long), (some .boolean), none, (some .long), (some .int), (some .int), (some .int), (some .int)]
def am_rt (j : Nat) : Option FieldType := am_rtL.getD j none
def am_naL : List Nat := [1, 1, 1, 1, 1, 1, 1, 1, 1, 1, 1, 1, 2, 8, 7, 3, 2, 2, 2, 2, 2, 7, 6, 5, 2, 2, 4, 4, 3, 6, 5, 3, 5, 4, 2, 3, 2, 6, 5, 6, 3, 2, 3, 2, 2, 2, 2, 4, 3, 2, 3, 2, 4, 3, 3, 2, 3, 2, 3, 2, 2, 3, 2, 2, 2, 3, 3, 2, 3, 1, 1, 2, 5, 1, 3, 2, 3, 2, 3, 5, 4, 4, 3, 4, 4, 3, 2, 1, 2, 1, 1, 7, 3, 4, 1, 5, 2, 1, 2, 1, 3, 3, 5, 4, 2, 1, 3, 5, 2, 2, 2, 3, 2, 2, 1, 3, 2, 1, 2, 2, 2, 1, 1, 3, 3, 3, 1, 3, 2, 2, 2, 3, 2, 4, 3, 3, 1]
def am_na (j : Nat) : Nat := am_naL.getD j 0
def am_yL : List MethodName := [⟨"StableSaleLaw", "law", "([I)Z"⟩, ⟨"StableSale", "<init>", "()V"⟩, ⟨"StableSale$Ledger", "<init>", "()V"⟩, ⟨"StableSale$ShareClass", "<init>", "()V"⟩, ⟨"StableSale$Grant", "<init>", "()V"⟩, ⟨"StableSale$History", "<init>", "()V"⟩, ⟨"StableSale$Sale", "<init>", "()V"⟩, ⟨"StableSale$Sharing", "<init>", "()V"⟩, ⟨"StableSale", "granted", "()I"⟩, ⟨"StableSale$Ledger", "allGranted", "()I"⟩, ⟨"StableSale", "asConverted", "()I"⟩, ⟨"StableSale$Ledger", "allInCommon", "()I"⟩, ⟨"StableSale$ShareClass", "inCommon", "(I)I"⟩, ⟨"StableSaleLaw", "preferred", "(LStableSale;IIIIII[J)I"⟩, ⟨"StableSale", "preferred", "(IIIIII)I"⟩, ⟨"StableSale", "within", "(III)Z"⟩, ⟨"StableSale$History", "keep", "(LStableSale$Ledger;)V"⟩, ⟨"StableSale$Ledger", "copyFrom", "(LStableSale$Ledger;)V"⟩, ⟨"StableSale$ShareClass", "copyFrom", "(LStableSale$ShareClass;)V"⟩, ⟨"StableSale$Grant", "copyFrom", "(LStableSale$Grant;)V"⟩, ⟨"java/lang/Math", "min", "(II)I"⟩, ⟨"StableSale$ShareClass", "setTerms", "(IIIIII)V"⟩, ⟨"StableSaleLaw", "issue", "(LStableSale;IIII[J)I"⟩, ⟨"StableSale", "issue", "(IIII)I"⟩, ⟨"StableSale", "requireClass", "(I)V"⟩, ⟨"StableSale", "requireHolder", "(I)V"⟩, ⟨"StableSale$Ledger", "applyGuards", "(III)V"⟩, ⟨"StableSale$ShareClass", "guardAgainst", "(III)V"⟩, ⟨"StableSale$ShareClass", "give", "(II)V"⟩, ⟨"StableSaleLaw", "transfer", "(LStableSale;IIII[J)I"⟩, ⟨"StableSale", "transfer", "(IIII)I"⟩, ⟨"StableSale$ShareClass", "take", "(II)V"⟩, ⟨"StableSaleLaw", "convert", "(LStableSale;III[J)I"⟩, ⟨"StableSale", "convert", "(III)I"⟩, ⟨"StableSale", "requirePreferred", "(I)V"⟩, ⟨"StableSaleLaw", "pool", "(LStableSale;I[J)I"⟩, ⟨"StableSale", "pool", "(I)I"⟩, ⟨"StableSaleLaw", "grant", "(LStableSale;IIII[J)I"⟩, ⟨"StableSale", "grant", "(IIII)I"⟩, ⟨"StableSale$Grant", "start", "(IIIII)V"⟩, ⟨"StableSaleLaw", "pass", "(LStableSale;I[J)I"⟩, ⟨"StableSale", "pass", "(I)I"⟩, ⟨"StableSaleLaw", "leave", "(LStableSale;I[J)I"⟩, ⟨"StableSale", "leave", "(I)I"⟩, ⟨"StableSale$Ledger", "endGrantsOf", "(I)I"⟩, ⟨"StableSale$Grant", "endIn", "(I)Z"⟩, ⟨"StableSale$Grant", "vestedIn", "(I)I"⟩, ⟨"StableSaleLaw", "exercise", "(LStableSale;II[J)I"⟩, ⟨"StableSale", "exercise", "(II)I"⟩, ⟨"StableSale", "requireGrant", "(I)V"⟩, ⟨"StableSaleLaw", "vested", "(LStableSale;I[J)I"⟩, ⟨"StableSale", "vested", "(I)I"⟩, ⟨"StableSaleLaw", "held", "(LStableSale;II[J)I"⟩, ⟨"StableSale", "held", "(II)I"⟩, ⟨"StableSaleLaw", "inIssue", "(LStableSale;I[J)I"⟩, ⟨"StableSale", "inIssue", "(I)I"⟩, ⟨"StableSaleLaw", "conversion", "(LStableSale;I[J)I"⟩, ⟨"StableSale", "conversion", "(I)I"⟩, ⟨"StableSaleLaw", "set", "(LStableSale;I[J)I"⟩, ⟨"StableSale", "set", "(I)I"⟩, ⟨"StableSale", "requireAmount", "(I)V"⟩, ⟨"StableSale$Sale", "stableSet", "(LStableSale$Ledger;I)I"⟩, ⟨"StableSale$Sale", "begin", "(I)V"⟩, ⟨"StableSale$Ledger", "canConvert", "(I)Z"⟩, ⟨"StableSale", "contains", "(II)Z"⟩, ⟨"StableSale$Sale", "isStable", "(LStableSale$Ledger;I)Z"⟩, ⟨"StableSale$Sale", "divisionBy", "(LStableSale$Ledger;I)[I"⟩, ⟨"java/util/Arrays", "fill", "([II)V"⟩, ⟨"StableSale$Sale", "prepare", "(LStableSale$Ledger;I)V"⟩, ⟨"StableSale$ShareClass", "preference", "()I"⟩, ⟨"StableSale$ShareClass", "mostOfTheRest", "()J"⟩, ⟨"java/lang/Math", "max", "(JJ)J"⟩, ⟨"StableSale$Sale", "payRank", "(LStableSale$Ledger;IJ[I)J"⟩, ⟨"StableSale$Sharing", "sumOf", "([I)J"⟩, ⟨"StableSale$Sharing", "shareOut", "(J[I)[I"⟩, ⟨"StableSale$Sharing", "greatestRemainder", "(I)I"⟩, ⟨"StableSale$Sale", "payMosts", "(J[I)J"⟩, ⟨"StableSale$Sale", "firstAboveItsMost", "(J)I"⟩, ⟨"StableSale$Sale", "shareRest", "(J[I)V"⟩, ⟨"StableSaleLaw", "gets", "(LStableSale;III[J)I"⟩, ⟨"StableSale", "gets", "(III)I"⟩, ⟨"StableSaleLaw", "brings", "(LStableSale;II[J)I"⟩, ⟨"StableSale", "brings", "(II)I"⟩, ⟨"StableSale$Sale", "broughtTo", "(LStableSale$Ledger;II)I"⟩, ⟨"StableSaleLaw", "flip", "(LStableSale;II[J)I"⟩, ⟨"StableSale", "flip", "(II)I"⟩, ⟨"StableSaleLaw", "undo", "(LStableSale;[J)I"⟩, ⟨"StableSale", "undo", "()I"⟩, ⟨"StableSale$History", "bringBack", "(LStableSale$Ledger;)V"⟩, ⟨"StableSaleModel", "<init>", "()V"⟩, ⟨"StableSaleModel", "thrown", "()I"⟩, ⟨"StableSaleModel", "preferred", "(IIIIII)I"⟩, ⟨"StableSaleModel", "in", "(III)Z"⟩, ⟨"StableSaleModel", "refused", "(ZZZ)Z"⟩, ⟨"StableSaleModel", "remember", "()V"⟩, ⟨"StableSaleModel", "issue", "(IIII)I"⟩, ⟨"StableSaleModel", "isClass", "(I)Z"⟩, ⟨"StableSaleModel", "isHolder", "(I)Z"⟩, ⟨"StableSaleModel", "issued", "(I)I"⟩, ⟨"StableSaleModel", "allConverted", "()J"⟩, ⟨"StableSaleModel", "converted", "(II)J"⟩, ⟨"StableSaleModel", "of", "(II)I"⟩, ⟨"StableSaleModel", "transfer", "(IIII)I"⟩, ⟨"StableSaleModel", "convert", "(III)I"⟩, ⟨"StableSaleModel", "pool", "(I)I"⟩, ⟨"StableSaleModel", "grantedNow", "()I"⟩, ⟨"StableSaleModel", "grantOf", "(II)I"⟩, ⟨"StableSaleModel", "grant", "(IIII)I"⟩, ⟨"StableSaleModel", "pass", "(I)I"⟩, ⟨"StableSaleModel", "leave", "(I)I"⟩, ⟨"StableSaleModel", "vestedOf", "(I)I"⟩, ⟨"StableSaleModel", "exercise", "(II)I"⟩, ⟨"StableSaleModel", "isGrant", "(I)Z"⟩, ⟨"StableSaleModel", "vested", "(I)I"⟩, ⟨"StableSaleModel", "granted", "()I"⟩, ⟨"StableSaleModel", "held", "(II)I"⟩, ⟨"StableSaleModel", "inIssue", "(I)I"⟩, ⟨"StableSaleModel", "asConverted", "()I"⟩, ⟨"StableSaleModel", "conversion", "(I)I"⟩, ⟨"StableSaleModel", "set", "(I)I"⟩, ⟨"StableSaleModel", "setOf", "(I)I"⟩, ⟨"StableSaleModel", "bitsInIssue", "()I"⟩, ⟨"StableSaleModel", "bitsOf", "(I)I"⟩, ⟨"StableSaleModel", "isStable", "(II)Z"⟩, ⟨"StableSaleModel", "divide", "(II)V"⟩, ⟨"StableSaleModel", "payPreferences", "(JI)J"⟩, ⟨"StableSaleModel", "noWeights", "()V"⟩, ⟨"StableSaleModel", "isPreferred", "(II)Z"⟩, ⟨"StableSaleModel", "isIn", "(II)Z"⟩, ⟨"StableSaleModel", "preferenceOf", "(I)J"⟩, ⟨"StableSaleModel", "share", "(J)Z"⟩, ⟨"StableSaleModel", "payRest", "(JI)V"⟩, ⟨"StableSaleModel", "mostOf", "(I)J"⟩, ⟨"StableSaleModel", "gets", "(III)I"⟩, ⟨"StableSaleModel", "brings", "(II)I"⟩, ⟨"StableSaleModel", "flip", "(II)I"⟩, ⟨"StableSaleModel", "undo", "()I"⟩]
def am_y (j : Nat) : MethodName := am_yL.getD j ⟨"", "", ""⟩
def am_iniL : List Bool := [false, true, true, true, true, true, true, true, false, false, false, false, false, false, false, false, false, false, false, false, false, false, false, false, false, false, false, false, false, false, false, false, false, false, false, false, false, false, false, false, false, false, false, false, false, false, false, false, false, false, false, false, false, false, false, false, false, false, false, false, false, false, false, false, false, false, false, false, false, false, false, false, false, false, false, false, false, false, false, false, false, false, false, false, false, false, false, false, false, true, false, false, false, false, false, false, false, false, false, false, false, false, false, false, false, false, false, false, false, false, false, false, false, false, false, false, false, false, false, false, false, false, false, false, false, false, false, false, false, false, false, false, false, false, false, false, false]
def am_ini (j : Nat) : Bool := am_iniL.getD j false
/-- exception tables: start, end, handler, kind -/
def am_hdL : List (List (Nat × Nat × Nat × Nat)) := [[], [], [], [], [], [], [], [], [], [], [], [], [], [(0, 18, 21, 0), (0, 18, 25, 1)], [], [], [], [], [], [], [], [], [(0, 14, 17, 2), (0, 14, 21, 0), (0, 14, 25, 1)], [], [], [], [], [], [], [(0, 14, 17, 2), (0, 14, 21, 0), (0, 14, 25, 1)], [], [], [(0, 12, 15, 2), (0, 12, 19, 0), (0, 12, 23, 1)], [], [], [(0, 9, 12, 0)], [], [(0, 14, 17, 2), (0, 14, 21, 0), (0, 14, 25, 1)], [], [], [(0, 9, 12, 0)], [], [(0, 9, 12, 2)], [], [], [], [], [(0, 10, 13, 2), (0, 10, 17, 0), (0, 10, 21, 1)], [], [], [(0, 9, 12, 2)], [], [(0, 10, 13, 2)], [], [(0, 9, 12, 2)], [], [(0, 9, 12, 2)], [], [(0, 9, 12, 0)], [], [], [], [], [], [], [], [], [], [], [], [], [], [], [], [], [], [], [], [], [(0, 12, 15, 0), (0, 12, 19, 2)], [], [(0, 10, 13, 0), (0, 10, 17, 2)], [], [], [(0, 10, 13, 0)], [], [(0, 8, 11, 1)], [], [], [], [], [], [], [], [], [], [], [], [], [], [], [], [], [], [], [], [], [], [], [], [], [], [], [], [], [], [], [], [], [], [], [], [], [], [], [], [], [], [], [], [], [], [], [], [], [], []]
def am_hd (j : Nat) : List (Nat × Nat × Nat × Nat) := am_hdL.getD j []
