/-! The program as tables, by program (wip/whole/prog/tables.py) out of the words of the Statement: classes by number, methods by number, what a pool entry names. -/
def am_onL : List String := ["StableSale", "StableSale$ShareClass", "StableSale$Grant", "StableSale$Ledger", "StableSale$History", "StableSale$Sharing", "StableSale$Sale", "StableSaleModel", "StableSaleLaw", "java/lang/Math", "java/util/Arrays"]
def am_on (w : Nat) : String := am_onL.getD w ""
def am_F0 : u_T := fun k => match k with
  | 0 => ("StableSale", "ledger", "LStableSale$Ledger;", true)
  | 1 => ("StableSale", "history", "LStableSale$History;", true)
  | _ => ("StableSale", "sale", "LStableSale$Sale;", true)
def am_T0 : Nat → FieldType := fun k => match k with
  | 0 => .object "StableSale$Ledger"
  | 1 => .object "StableSale$History"
  | _ => .object "StableSale$Sale"
def am_F1 : u_T := fun k => match k with
  | 0 => ("StableSale$ShareClass", "price", "I", false)
  | 1 => ("StableSale$ShareClass", "multiple", "I", false)
  | 2 => ("StableSale$ShareClass", "rank", "I", false)
  | 3 => ("StableSale$ShareClass", "kind", "I", false)
  | 4 => ("StableSale$ShareClass", "cap", "I", false)
  | 5 => ("StableSale$ShareClass", "guard", "I", false)
  | 6 => ("StableSale$ShareClass", "conversionPrice", "I", false)
  | 7 => ("StableSale$ShareClass", "inIssue", "I", false)
  | _ => ("StableSale$ShareClass", "held", "[I", true)
def am_T1 : Nat → FieldType := fun k => match k with
  | 0 => .int
  | 1 => .int
  | 2 => .int
  | 3 => .int
  | 4 => .int
  | 5 => .int
  | 6 => .int
  | 7 => .int
  | _ => .array (.int)
def am_F2 : u_T := fun k => match k with
  | 0 => ("StableSale$Grant", "holder", "I", false)
  | 1 => ("StableSale$Grant", "shares", "I", false)
  | 2 => ("StableSale$Grant", "month", "I", false)
  | 3 => ("StableSale$Grant", "cliff", "I", false)
  | 4 => ("StableSale$Grant", "length", "I", false)
  | 5 => ("StableSale$Grant", "exercised", "I", false)
  | _ => ("StableSale$Grant", "ended", "Z", false)
def am_T2 : Nat → FieldType := fun k => match k with
  | 0 => .int
  | 1 => .int
  | 2 => .int
  | 3 => .int
  | 4 => .int
  | 5 => .int
  | _ => .boolean
def am_F3 : u_T := fun k => match k with
  | 0 => ("StableSale$Ledger", "classes", "[LStableSale$ShareClass;", true)
  | 1 => ("StableSale$Ledger", "grants", "[LStableSale$Grant;", true)
  | 2 => ("StableSale$Ledger", "classCount", "I", false)
  | 3 => ("StableSale$Ledger", "grantCount", "I", false)
  | 4 => ("StableSale$Ledger", "pool", "I", false)
  | _ => ("StableSale$Ledger", "month", "I", false)
def am_T3 : Nat → FieldType := fun k => match k with
  | 0 => .array (.object "StableSale$ShareClass")
  | 1 => .array (.object "StableSale$Grant")
  | 2 => .int
  | 3 => .int
  | 4 => .int
  | _ => .int
def am_F4 : u_T := fun k => match k with
  | 0 => ("StableSale$History", "kept", "[LStableSale$Ledger;", true)
  | 1 => ("StableSale$History", "next", "I", false)
  | _ => ("StableSale$History", "count", "I", false)
def am_T4 : Nat → FieldType := fun k => match k with
  | 0 => .array (.object "StableSale$Ledger")
  | 1 => .int
  | _ => .int
def am_F5 : u_T := fun k => match k with
  | 0 => ("StableSale$Sharing", "parts", "[I", true)
  | _ => ("StableSale$Sharing", "remainders", "[J", true)
def am_T5 : Nat → FieldType := fun k => match k with
  | 0 => .array (.int)
  | _ => .array (.long)
def am_F6 : u_T := fun k => match k with
  | 0 => ("StableSale$Sale", "sharing", "LStableSale$Sharing;", true)
  | 1 => ("StableSale$Sale", "divisions", "[[I", true)
  | 2 => ("StableSale$Sale", "divided", "[Z", true)
  | 3 => ("StableSale$Sale", "preferences", "[I", true)
  | 4 => ("StableSale$Sale", "weights", "[I", true)
  | 5 => ("StableSale$Sale", "mosts", "[J", true)
  | 6 => ("StableSale$Sale", "claims", "[I", true)
  | _ => ("StableSale$Sale", "amount", "I", false)
def am_T6 : Nat → FieldType := fun k => match k with
  | 0 => .object "StableSale$Sharing"
  | 1 => .array (.array (.int))
  | 2 => .array (.boolean)
  | 3 => .array (.int)
  | 4 => .array (.int)
  | 5 => .array (.long)
  | 6 => .array (.int)
  | _ => .int
def am_F7 : u_T := fun k => match k with
  | 0 => ("StableSaleModel", "thrown", "I", false)
  | 1 => ("StableSaleModel", "s", "[I", true)
  | 2 => ("StableSaleModel", "older", "[I", true)
  | 3 => ("StableSaleModel", "known", "I", false)
  | 4 => ("StableSaleModel", "weights", "[J", true)
  | 5 => ("StableSaleModel", "parts", "[J", true)
  | 6 => ("StableSaleModel", "remainders", "[J", true)
  | 7 => ("StableSaleModel", "got", "[J", true)
  | 8 => ("StableSaleModel", "company", "J", false)
  | _ => ("StableSaleModel", "prices", "[I", true)
def am_T7 : Nat → FieldType := fun k => match k with
  | 0 => .int
  | 1 => .array (.int)
  | 2 => .array (.int)
  | 3 => .int
  | 4 => .array (.long)
  | 5 => .array (.long)
  | 6 => .array (.long)
  | 7 => .array (.long)
  | 8 => .long
  | _ => .array (.int)
def am_cl : List vw_C := [("StableSale", am_F0, 3), ("StableSale$ShareClass", am_F1, 9), ("StableSale$Grant", am_F2, 7), ("StableSale$Ledger", am_F3, 6), ("StableSale$History", am_F4, 3), ("StableSale$Sharing", am_F5, 2), ("StableSale$Sale", am_F6, 8), ("StableSaleModel", am_F7, 10)]
def am_ft (ci k : Nat) : FieldType := match ci with
  | 0 => am_T0 k
  | 1 => am_T1 k
  | 2 => am_T2 k
  | 3 => am_T3 k
  | 4 => am_T4 k
  | 5 => am_T5 k
  | 6 => am_T6 k
  | _ => am_T7 k
def am_fin (ci k : Nat) : Bool := match ci with
  | 0 => (am_F0 k).2.2.2
  | 1 => (am_F1 k).2.2.2
  | 2 => (am_F2 k).2.2.2
  | 3 => (am_F3 k).2.2.2
  | 4 => (am_F4 k).2.2.2
  | 5 => (am_F5 k).2.2.2
  | 6 => (am_F6 k).2.2.2
  | _ => (am_F7 k).2.2.2
def am_df (ci : Nat) : List Value := match ci with
  | 0 => [.null, .null, .null]
  | 1 => [.int (nI 0), .int (nI 0), .int (nI 0), .int (nI 0), .int (nI 0), .int (nI 0), .int (nI 0), .int (nI 0), .null]
  | 2 => [.int (nI 0), .int (nI 0), .int (nI 0), .int (nI 0), .int (nI 0), .int (nI 0), .int (nI 0)]
  | 3 => [.null, .null, .int (nI 0), .int (nI 0), .int (nI 0), .int (nI 0)]
  | 4 => [.null, .int (nI 0), .int (nI 0)]
  | 5 => [.null, .null]
  | 6 => [.null, .null, .null, .null, .null, .null, .null, .int (nI 0)]
  | _ => [.int (nI 0), .null, .null, .int (nI 0), .null, .null, .null, .null, .long (lN 0), .null]
def am_fw {α : Type} (l : List (List (Nat × α))) (w ix : Nat) : Option α := (l.getD w []).lookup ix
def am_mtL : List (List (Nat × Nat × Nat × Nat)) := [[(11, 2, 56, 0), (18, 5, 165, 0), (25, 6, 185, 0), (90, 9, 245, 0), (128, 11, 253, 0), (30, 15, 271, 0), (44, 16, 352, 0), (52, 21, 374, 0), (58, 24, 386, 0), (62, 25, 405, 0), (68, 26, 409, 0), (72, 28, 418, 0), (80, 31, 429, 0), (83, 34, 440, 0), (86, 12, 444, 0), (107, 39, 459, 0), (113, 44, 477, 0), (116, 49, 496, 0), (119, 46, 500, 0), (134, 60, 536, 0), (137, 61, 541, 0), (141, 63, 627, 0), (145, 62, 628, 0), (148, 66, 629, 0), (152, 83, 637, 0), (159, 88, 655, 0)], [(48, 69, 584, 0), (52, 71, 585, 0)], [(32, 46, 485, 0)], [(17, 3, 63, 0), (24, 4, 107, 1), (48, 12, 257, 0), (29, 18, 360, 0), (33, 19, 367, 0), (52, 11, 413, 0), (56, 27, 414, 0), (66, 45, 481, 0), (70, 15, 555, 1), (74, 64, 556, 1)], [(17, 2, 171, 0), (22, 17, 356, 0), (29, 20, 371, 0)], [(19, 67, 600, 0), (25, 20, 601, 0), (31, 73, 602, 0), (35, 75, 603, 0)], [(11, 7, 191, 0), (45, 62, 545, 0), (52, 63, 551, 0), (58, 65, 559, 0), (62, 66, 563, 0), (82, 67, 567, 0), (88, 68, 570, 0), (104, 64, 574, 1), (111, 69, 575, 0), (115, 12, 579, 0), (119, 70, 580, 0), (92, 72, 589, 0), (128, 73, 593, 0), (78, 74, 596, 0), (96, 76, 608, 0), (132, 77, 612, 0), (100, 78, 616, 0)], [(39, 92, 704, 0), (57, 93, 707, 0), (61, 94, 711, 0), (64, 96, 719, 0), (68, 97, 723, 0), (49, 98, 726, 0), (71, 99, 730, 0), (53, 100, 734, 0), (45, 101, 739, 0), (80, 105, 756, 0), (77, 106, 760, 0), (84, 110, 776, 0), (87, 112, 784, 0), (139, 120, 817, 0), (125, 121, 821, 0), (132, 122, 825, 0), (135, 123, 828, 0), (128, 124, 832, 0), (117, 125, 836, 0), (96, 126, 840, 0), (99, 127, 844, 0), (92, 128, 848, 0), (102, 129, 851, 0), (106, 130, 855, 0), (121, 131, 860, 0), (110, 132, 864, 0)], [(75, 1, 48, 0), (119, 8, 241, 0), (129, 10, 249, 0), (79, 13, 262, 0), (7, 14, 267, 0), (88, 22, 378, 0), (17, 23, 382, 0), (92, 29, 422, 0), (23, 30, 425, 0), (95, 32, 433, 0), (26, 33, 436, 0), (99, 35, 445, 0), (30, 36, 448, 0), (103, 37, 452, 0), (34, 38, 455, 0), (106, 40, 463, 0), (37, 41, 466, 0), (109, 42, 470, 0), (40, 43, 473, 0), (112, 47, 489, 0), (43, 48, 492, 0), (116, 50, 501, 0), (47, 51, 504, 0), (123, 52, 508, 0), (50, 53, 511, 0), (126, 54, 515, 0), (53, 55, 518, 0), (133, 56, 522, 0), (56, 57, 525, 0), (136, 58, 529, 0), (59, 59, 532, 0), (139, 79, 620, 0), (62, 80, 623, 0), (142, 81, 630, 0), (65, 82, 633, 0), (145, 84, 641, 0), (68, 85, 644, 0), (148, 86, 648, 0), (71, 87, 651, 0), (78, 89, 661, 0), (85, 90, 696, 0), (84, 91, 700, 0), (91, 95, 715, 0), (94, 102, 743, 0), (98, 103, 747, 0), (102, 104, 752, 0), (105, 107, 764, 0), (108, 108, 768, 0), (111, 109, 772, 0), (115, 111, 780, 0), (118, 113, 788, 0), (122, 114, 792, 0), (125, 115, 796, 0), (128, 116, 800, 0), (132, 117, 804, 0), (135, 118, 808, 0), (138, 119, 812, 0), (141, 133, 868, 0), (144, 134, 872, 0), (147, 135, 876, 0), (151, 136, 880, 0)], [], []]
def am_mt (w ix : Nat) : Option Nat := (am_fw am_mtL w ix).map fun q => q.1
def am_fdL : List (List (Nat × Nat × Nat × Nat)) := [[(131, 1, 6, 76), (65, 1, 7, 78), (76, 1, 8, 82), (125, 2, 0, 113), (122, 2, 5, 120), (48, 3, 0, 138), (100, 3, 1, 141), (37, 3, 2, 143), (97, 3, 3, 145), (94, 3, 4, 147), (104, 3, 5, 149), (156, 4, 2, 175), (12, 0, 0, 231), (19, 0, 1, 232), (26, 0, 2, 233)], [(9, 1, 0, 67), (22, 1, 1, 68), (25, 1, 2, 69), (28, 1, 3, 71), (31, 1, 4, 73), (34, 1, 5, 74), (15, 1, 6, 75), (37, 1, 7, 79), (18, 1, 8, 81)], [(7, 2, 0, 111), (13, 2, 1, 114), (16, 2, 2, 116), (19, 2, 3, 117), (22, 2, 4, 118), (25, 2, 5, 119), (28, 2, 6, 121)], [(45, 1, 7, 77), (63, 2, 0, 112), (60, 2, 1, 115), (11, 3, 0, 137), (20, 3, 1, 140), (25, 3, 2, 142), (36, 3, 3, 144), (39, 3, 4, 146), (42, 3, 5, 148)], [(11, 4, 0, 172), (18, 4, 1, 173), (26, 4, 2, 174)], [(9, 5, 0, 195), (15, 5, 1, 196)], [(125, 1, 2, 70), (108, 1, 3, 72), (70, 1, 7, 80), (75, 1, 8, 83), (66, 3, 0, 139), (12, 6, 0, 205), (20, 6, 1, 206), (23, 6, 2, 207), (27, 6, 3, 208), (31, 6, 4, 209), (34, 6, 5, 210), (38, 6, 6, 211), (41, 6, 7, 212)], [(36, 7, 0, 665), (7, 7, 1, 666), (13, 7, 2, 667), (32, 7, 3, 668), (16, 7, 4, 669), (20, 7, 5, 670), (23, 7, 6, 671), (26, 7, 7, 672), (113, 7, 8, 673), (29, 7, 9, 674)], [], [], []]
def am_fd (w ix : Nat) : Option (Nat × Nat) := (am_fw am_fdL w ix).map fun q => (q.1, q.2.1)
def am_nwL : List (List (Nat × Nat × Nat)) := [[(9, 3, 54), (16, 4, 163), (23, 6, 183)], [], [], [(9, 1, 60), (18, 2, 104)], [(9, 3, 169)], [], [(9, 5, 189)], [], [(8, 0, 46), (76, 7, 659)], [], []]
def am_nw (w ix : Nat) : Option Nat := (am_fw am_nwL w ix).map fun q => q.1
def am_an (w ix : Nat) : Option Nat := (am_fw am_nwL w ix).map fun q => q.1
def am_exL : List (List (Nat × Nat × Nat × Nat)) := [[(34, 0, 36, 274), (41, 1, 43, 337), (162, 2, 164, 390)], [], [], [], [], [], [], [], [], [], []]
def am_ex (w ix : Nat) : Option (Nat × Nat) := (am_fw am_exL w ix).map fun q => (q.1, q.2.1)
def am_ldIL : List (List (Nat × Nat)) := [[(165, 2000000000)], [], [], [], [], [], [], [(138, 2000000000)], [], [], []]
def am_ldI (w ix : Nat) : Option Nat := am_fw am_ldIL w ix
def am_ldLL : List (List (Nat × Int64)) := [[], [(46, lN 1000)], [], [], [], [(39, (-1))], [(123, lN 2000000000)], [(43, lN 1000), (75, lN 20000), (90, (-1))], [], [], []]
def am_ldL (w ix : Nat) : Option Int64 := am_fw am_ldLL w ix
def am_oiL : List (List Nat) := [[3], [3], [1], [3], [3], [3], [3], [1], [], [], []]
def am_oi (w ix : Nat) : Bool := (am_oiL.getD w []).contains ix
def am_acL : List (List Nat) := [[], [40], [], [], [], [], [], [], [], [], []]
def am_ac (w ix : Nat) : Bool := (am_acL.getD w []).contains ix
def am_mnL : List (List Nat) := [[], [], [], [], [], [], [18], [], [], [], []]
def am_mn (w ix : Nat) : Bool := (am_mnL.getD w []).contains ix
def am_gsL : List (List Nat) := [[], [], [], [], [], [], [49], [], [], [], []]
def am_gs (w ix : Nat) : Option Nat := if (am_gsL.getD w []).contains ix then some 1 else none
def am_exN : List String := ["java/lang/IllegalArgumentException", "java/lang/IllegalStateException", "java/util/NoSuchElementException"]
def am_byL : List ByteArray := [code, prog_1_method_1_code, prog_4_method_1_code, prog_6_method_1_code, prog_2_method_1_code, prog_3_method_1_code, prog_5_method_1_code, prog_7_method_1_code, prog_1_method_12_code, prog_4_method_5_code, prog_1_method_15_code, prog_4_method_3_code, prog_6_method_6_code, method_3_code, prog_1_method_2_code, prog_1_method_22_code, prog_3_method_2_code, prog_4_method_2_code, prog_6_method_3_code, prog_2_method_3_code, prog_13_method_69_code, prog_6_method_2_code, method_4_code, prog_1_method_3_code, prog_1_method_24_code, prog_1_method_26_code, prog_4_method_4_code, prog_6_method_9_code, prog_6_method_4_code, method_5_code, prog_1_method_4_code, prog_6_method_5_code, method_6_code, prog_1_method_5_code, prog_1_method_25_code, method_7_code, prog_1_method_6_code, method_8_code, prog_1_method_7_code, prog_2_method_2_code, method_9_code, prog_1_method_8_code, method_10_code, prog_1_method_9_code, prog_4_method_6_code, prog_2_method_5_code, prog_2_method_4_code, method_11_code, prog_1_method_10_code, prog_1_method_27_code, method_12_code, prog_1_method_11_code, method_13_code, prog_1_method_13_code, method_14_code, prog_1_method_14_code, method_15_code, prog_1_method_16_code, method_16_code, prog_1_method_17_code, prog_1_method_28_code, prog_5_method_3_code, prog_5_method_2_code, prog_4_method_7_code, prog_1_method_23_code, prog_5_method_4_code, prog_5_method_6_code, prog_17_method_103_code, prog_5_method_7_code, prog_6_method_7_code, prog_6_method_8_code, prog_13_method_66_code, prog_5_method_8_code, prog_7_method_3_code, prog_7_method_2_code, prog_7_method_4_code, prog_5_method_9_code, prog_5_method_10_code, prog_5_method_11_code, method_17_code, prog_1_method_18_code, method_18_code, prog_1_method_19_code, prog_5_method_5_code, method_19_code, prog_1_method_20_code, method_20_code, prog_1_method_21_code, prog_3_method_3_code, prog_9_method_1_code, prog_9_method_2_code, prog_9_method_13_code, prog_9_method_4_code, prog_9_method_3_code, prog_9_method_9_code, prog_9_method_14_code, prog_9_method_5_code, prog_9_method_6_code, prog_9_method_10_code, prog_9_method_12_code, prog_9_method_11_code, prog_9_method_7_code, prog_9_method_15_code, prog_9_method_16_code, prog_9_method_19_code, prog_9_method_18_code, prog_9_method_8_code, prog_9_method_20_code, prog_9_method_21_code, prog_9_method_22_code, prog_9_method_17_code, prog_9_method_24_code, prog_9_method_23_code, prog_9_method_25_code, prog_9_method_26_code, prog_9_method_27_code, prog_9_method_28_code, prog_9_method_29_code, prog_9_method_30_code, prog_9_method_44_code, prog_9_method_43_code, prog_9_method_40_code, prog_9_method_42_code, prog_9_method_41_code, prog_9_method_39_code, prog_9_method_36_code, prog_9_method_32_code, prog_9_method_35_code, prog_9_method_33_code, prog_9_method_34_code, prog_9_method_31_code, prog_9_method_37_code, prog_9_method_38_code, prog_9_method_45_code, prog_9_method_46_code, prog_9_method_47_code, prog_9_method_48_code]
def am_by (j : Nat) : ByteArray := am_byL.getD j ⟨#[]⟩
def am_mxL : List Nat := [7, 1, 2, 1, 1, 2, 1, 1, 1, 3, 1, 3, 2, 9, 9, 3, 2, 3, 2, 2, 2, 7, 7, 6, 2, 2, 6, 9, 3, 7, 6, 3, 6, 7, 2, 4, 3, 7, 7, 6, 4, 2, 4, 2, 4, 3, 3, 5, 6, 2, 4, 2, 5, 3, 4, 2, 4, 2, 4, 2, 2, 7, 3, 3, 2, 6, 7, 4, 8, 1, 1, 4, 11, 7, 12, 4, 8, 6, 6, 6, 5, 5, 4, 7, 5, 8, 3, 1, 2, 1, 1, 9, 3, 4, 2, 14, 2, 1, 4, 4, 3, 3, 6, 7, 3, 3, 3, 7, 2, 5, 4, 5, 2, 2, 1, 3, 2, 1, 2, 2, 5, 3, 1, 7, 4, 10, 2, 3, 2, 2, 9, 13, 4, 5, 8, 8, 2]
def am_mx (j : Nat) : Nat := am_mxL.getD j 0
def am_wL : List Nat := [8, 0, 3, 1, 2, 4, 6, 5, 0, 3, 0, 3, 1, 8, 0, 0, 4, 3, 1, 2, 9, 1, 8, 0, 0, 0, 3, 1, 1, 8, 0, 1, 8, 0, 0, 8, 0, 8, 0, 2, 8, 0, 8, 0, 3, 2, 2, 8, 0, 0, 8, 0, 8, 0, 8, 0, 8, 0, 8, 0, 0, 6, 6, 3, 0, 6, 6, 10, 6, 1, 1, 9, 6, 5, 5, 5, 6, 6, 6, 8, 0, 8, 0, 6, 8, 0, 8, 0, 4, 7, 7, 7, 7, 7, 7, 7, 7, 7, 7, 7, 7, 7, 7, 7, 7, 7, 7, 7, 7, 7, 7, 7, 7, 7, 7, 7, 7, 7, 7, 7, 7, 7, 7, 7, 7, 7, 7, 7, 7, 7, 7, 7, 7, 7, 7, 7, 7]
def am_w (j : Nat) : Nat := am_wL.getD j 99
def am_rtL : List (Option FieldType) := [(some .boolean), none, none, none, none, none, none, none, (some .int), (some .int), (some .int), (some .int), (some .int), (some .int), (some .int), (some .boolean), none, none, none, none, (some .int), none, (some .int), (some .int), none, none, none, none, none, (some .int), (some .int), none, (some .int), (some .int), none, (some .int), (some .int), (some .int), (some .int), none, (some .int), (some .int), (some .int), (some .int), (some .int), (some .boolean), (some .int), (some .int), (some .int), none, (some .int), (some .int), (some .int), (some .int), (some .int), (some .int), (some .int), (some .int), (some .int), (some .int), none, (some .int), none, (some .boolean), (some .boolean), (some .boolean), (some (.array .int)), none, none, (some .int), (some .long), (some .long), (some .long), (some .long), (some (.array .int)), (some .int), (some .long), (some .int), none, (some .int), (some .int), (some .int), (some .int), (some .int), (some .int), (some .int), (some .int), (some .int), none, none, (some .int), (some .int), (some .boolean), (some .boolean), none, (some .int), (some .boolean), (some .boolean), (some .int), (some .long), (some .long), (some .int), (some .int), (some .int), (some .int), (some .int), (some .int), (some .int), (some .int), (some .int), (some .int), (some .int), (some .boolean), (some .int), (some .int), (some .int), (some .int), (some .int), (some .int), (some .int), (some .int), (some .int), (some .int), (some .boolean), none, (some .long), none, (some .boolean), (some .boolean), (some .long), (some .boolean), none, (some .long), (some .int), (some .int), (some .int), (some .int)]
def am_rt (j : Nat) : Option FieldType := am_rtL.getD j none
def am_naL : List Nat := [1, 1, 1, 1, 1, 1, 1, 1, 1, 1, 1, 1, 2, 8, 7, 3, 2, 2, 2, 2, 2, 7, 6, 5, 2, 2, 4, 4, 3, 6, 5, 3, 5, 4, 2, 3, 2, 6, 5, 6, 3, 2, 3, 2, 2, 2, 2, 4, 3, 2, 3, 2, 4, 3, 3, 2, 3, 2, 3, 2, 2, 3, 2, 2, 2, 3, 3, 2, 3, 1, 1, 2, 5, 1, 3, 2, 3, 2, 3, 5, 4, 4, 3, 4, 4, 3, 2, 1, 2, 1, 1, 7, 3, 4, 1, 5, 2, 1, 2, 1, 3, 3, 5, 4, 2, 1, 3, 5, 2, 2, 2, 3, 2, 2, 1, 3, 2, 1, 2, 2, 2, 1, 1, 3, 3, 3, 1, 3, 2, 2, 2, 3, 2, 4, 3, 3, 1]
def am_na (j : Nat) : Nat := am_naL.getD j 0
def am_yL : List MethodName := [⟨"StableSaleLaw", "law", "([I)Z"⟩, ⟨"StableSale", "<init>", "()V"⟩, ⟨"StableSale$Ledger", "<init>", "()V"⟩, ⟨"StableSale$ShareClass", "<init>", "()V"⟩, ⟨"StableSale$Grant", "<init>", "()V"⟩, ⟨"StableSale$History", "<init>", "()V"⟩, ⟨"StableSale$Sale", "<init>", "()V"⟩, ⟨"StableSale$Sharing", "<init>", "()V"⟩, ⟨"StableSale", "granted", "()I"⟩, ⟨"StableSale$Ledger", "allGranted", "()I"⟩, ⟨"StableSale", "asConverted", "()I"⟩, ⟨"StableSale$Ledger", "allInCommon", "()I"⟩, ⟨"StableSale$ShareClass", "inCommon", "(I)I"⟩, ⟨"StableSaleLaw", "preferred", "(LStableSale;IIIIII[J)I"⟩, ⟨"StableSale", "preferred", "(IIIIII)I"⟩, ⟨"StableSale", "within", "(III)Z"⟩, ⟨"StableSale$History", "keep", "(LStableSale$Ledger;)V"⟩, ⟨"StableSale$Ledger", "copyFrom", "(LStableSale$Ledger;)V"⟩, ⟨"StableSale$ShareClass", "copyFrom", "(LStableSale$ShareClass;)V"⟩, ⟨"StableSale$Grant", "copyFrom", "(LStableSale$Grant;)V"⟩, ⟨"java/lang/Math", "min", "(II)I"⟩, ⟨"StableSale$ShareClass", "setTerms", "(IIIIII)V"⟩, ⟨"StableSaleLaw", "issue", "(LStableSale;IIII[J)I"⟩, ⟨"StableSale", "issue", "(IIII)I"⟩, ⟨"StableSale", "requireClass", "(I)V"⟩, ⟨"StableSale", "requireHolder", "(I)V"⟩, ⟨"StableSale$Ledger", "applyGuards", "(III)V"⟩, ⟨"StableSale$ShareClass", "guardAgainst", "(III)V"⟩, ⟨"StableSale$ShareClass", "give", "(II)V"⟩, ⟨"StableSaleLaw", "transfer", "(LStableSale;IIII[J)I"⟩, ⟨"StableSale", "transfer", "(IIII)I"⟩, ⟨"StableSale$ShareClass", "take", "(II)V"⟩, ⟨"StableSaleLaw", "convert", "(LStableSale;III[J)I"⟩, ⟨"StableSale", "convert", "(III)I"⟩, ⟨"StableSale", "requirePreferred", "(I)V"⟩, ⟨"StableSaleLaw", "pool", "(LStableSale;I[J)I"⟩, ⟨"StableSale", "pool", "(I)I"⟩, ⟨"StableSaleLaw", "grant", "(LStableSale;IIII[J)I"⟩, ⟨"StableSale", "grant", "(IIII)I"⟩, ⟨"StableSale$Grant", "start", "(IIIII)V"⟩, ⟨"StableSaleLaw", "pass", "(LStableSale;I[J)I"⟩, ⟨"StableSale", "pass", "(I)I"⟩, ⟨"StableSaleLaw", "leave", "(LStableSale;I[J)I"⟩, ⟨"StableSale", "leave", "(I)I"⟩, ⟨"StableSale$Ledger", "endGrantsOf", "(I)I"⟩, ⟨"StableSale$Grant", "endIn", "(I)Z"⟩, ⟨"StableSale$Grant", "vestedIn", "(I)I"⟩, ⟨"StableSaleLaw", "exercise", "(LStableSale;II[J)I"⟩, ⟨"StableSale", "exercise", "(II)I"⟩, ⟨"StableSale", "requireGrant", "(I)V"⟩, ⟨"StableSaleLaw", "vested", "(LStableSale;I[J)I"⟩, ⟨"StableSale", "vested", "(I)I"⟩, ⟨"StableSaleLaw", "held", "(LStableSale;II[J)I"⟩, ⟨"StableSale", "held", "(II)I"⟩, ⟨"StableSaleLaw", "inIssue", "(LStableSale;I[J)I"⟩, ⟨"StableSale", "inIssue", "(I)I"⟩, ⟨"StableSaleLaw", "conversion", "(LStableSale;I[J)I"⟩, ⟨"StableSale", "conversion", "(I)I"⟩, ⟨"StableSaleLaw", "set", "(LStableSale;I[J)I"⟩, ⟨"StableSale", "set", "(I)I"⟩, ⟨"StableSale", "requireAmount", "(I)V"⟩, ⟨"StableSale$Sale", "stableSet", "(LStableSale$Ledger;I)I"⟩, ⟨"StableSale$Sale", "begin", "(I)V"⟩, ⟨"StableSale$Ledger", "canConvert", "(I)Z"⟩, ⟨"StableSale", "contains", "(II)Z"⟩, ⟨"StableSale$Sale", "isStable", "(LStableSale$Ledger;I)Z"⟩, ⟨"StableSale$Sale", "divisionBy", "(LStableSale$Ledger;I)[I"⟩, ⟨"java/util/Arrays", "fill", "([II)V"⟩, ⟨"StableSale$Sale", "prepare", "(LStableSale$Ledger;I)V"⟩, ⟨"StableSale$ShareClass", "preference", "()I"⟩, ⟨"StableSale$ShareClass", "mostOfTheRest", "()J"⟩, ⟨"java/lang/Math", "max", "(JJ)J"⟩, ⟨"StableSale$Sale", "payRank", "(LStableSale$Ledger;IJ[I)J"⟩, ⟨"StableSale$Sharing", "sumOf", "([I)J"⟩, ⟨"StableSale$Sharing", "shareOut", "(J[I)[I"⟩, ⟨"StableSale$Sharing", "greatestRemainder", "(I)I"⟩, ⟨"StableSale$Sale", "payMosts", "(J[I)J"⟩, ⟨"StableSale$Sale", "firstAboveItsMost", "(J)I"⟩, ⟨"StableSale$Sale", "shareRest", "(J[I)V"⟩, ⟨"StableSaleLaw", "gets", "(LStableSale;III[J)I"⟩, ⟨"StableSale", "gets", "(III)I"⟩, ⟨"StableSaleLaw", "brings", "(LStableSale;II[J)I"⟩, ⟨"StableSale", "brings", "(II)I"⟩, ⟨"StableSale$Sale", "broughtTo", "(LStableSale$Ledger;II)I"⟩, ⟨"StableSaleLaw", "flip", "(LStableSale;II[J)I"⟩, ⟨"StableSale", "flip", "(II)I"⟩, ⟨"StableSaleLaw", "undo", "(LStableSale;[J)I"⟩, ⟨"StableSale", "undo", "()I"⟩, ⟨"StableSale$History", "bringBack", "(LStableSale$Ledger;)V"⟩, ⟨"StableSaleModel", "<init>", "()V"⟩, ⟨"StableSaleModel", "thrown", "()I"⟩, ⟨"StableSaleModel", "preferred", "(IIIIII)I"⟩, ⟨"StableSaleModel", "in", "(III)Z"⟩, ⟨"StableSaleModel", "refused", "(ZZZ)Z"⟩, ⟨"StableSaleModel", "remember", "()V"⟩, ⟨"StableSaleModel", "issue", "(IIII)I"⟩, ⟨"StableSaleModel", "isClass", "(I)Z"⟩, ⟨"StableSaleModel", "isHolder", "(I)Z"⟩, ⟨"StableSaleModel", "issued", "(I)I"⟩, ⟨"StableSaleModel", "allConverted", "()J"⟩, ⟨"StableSaleModel", "converted", "(II)J"⟩, ⟨"StableSaleModel", "of", "(II)I"⟩, ⟨"StableSaleModel", "transfer", "(IIII)I"⟩, ⟨"StableSaleModel", "convert", "(III)I"⟩, ⟨"StableSaleModel", "pool", "(I)I"⟩, ⟨"StableSaleModel", "grantedNow", "()I"⟩, ⟨"StableSaleModel", "grantOf", "(II)I"⟩, ⟨"StableSaleModel", "grant", "(IIII)I"⟩, ⟨"StableSaleModel", "pass", "(I)I"⟩, ⟨"StableSaleModel", "leave", "(I)I"⟩, ⟨"StableSaleModel", "vestedOf", "(I)I"⟩, ⟨"StableSaleModel", "exercise", "(II)I"⟩, ⟨"StableSaleModel", "isGrant", "(I)Z"⟩, ⟨"StableSaleModel", "vested", "(I)I"⟩, ⟨"StableSaleModel", "granted", "()I"⟩, ⟨"StableSaleModel", "held", "(II)I"⟩, ⟨"StableSaleModel", "inIssue", "(I)I"⟩, ⟨"StableSaleModel", "asConverted", "()I"⟩, ⟨"StableSaleModel", "conversion", "(I)I"⟩, ⟨"StableSaleModel", "set", "(I)I"⟩, ⟨"StableSaleModel", "setOf", "(I)I"⟩, ⟨"StableSaleModel", "bitsInIssue", "()I"⟩, ⟨"StableSaleModel", "bitsOf", "(I)I"⟩, ⟨"StableSaleModel", "isStable", "(II)Z"⟩, ⟨"StableSaleModel", "divide", "(II)V"⟩, ⟨"StableSaleModel", "payPreferences", "(JI)J"⟩, ⟨"StableSaleModel", "noWeights", "()V"⟩, ⟨"StableSaleModel", "isPreferred", "(II)Z"⟩, ⟨"StableSaleModel", "isIn", "(II)Z"⟩, ⟨"StableSaleModel", "preferenceOf", "(I)J"⟩, ⟨"StableSaleModel", "share", "(J)Z"⟩, ⟨"StableSaleModel", "payRest", "(JI)V"⟩, ⟨"StableSaleModel", "mostOf", "(I)J"⟩, ⟨"StableSaleModel", "gets", "(III)I"⟩, ⟨"StableSaleModel", "brings", "(II)I"⟩, ⟨"StableSaleModel", "flip", "(II)I"⟩, ⟨"StableSaleModel", "undo", "()I"⟩]
def am_y (j : Nat) : MethodName := am_yL.getD j ⟨"", "", ""⟩
def am_iniL : List Bool := [false, true, true, true, true, true, true, true, false, false, false, false, false, false, false, false, false, false, false, false, false, false, false, false, false, false, false, false, false, false, false, false, false, false, false, false, false, false, false, false, false, false, false, false, false, false, false, false, false, false, false, false, false, false, false, false, false, false, false, false, false, false, false, false, false, false, false, false, false, false, false, false, false, false, false, false, false, false, false, false, false, false, false, false, false, false, false, false, false, true, false, false, false, false, false, false, false, false, false, false, false, false, false, false, false, false, false, false, false, false, false, false, false, false, false, false, false, false, false, false, false, false, false, false, false, false, false, false, false, false, false, false, false, false, false, false, false]
def am_ini (j : Nat) : Bool := am_iniL.getD j false
def am_stL : List Bool := [true, false, false, false, false, false, false, false, false, false, false, false, false, true, false, true, false, false, false, false, true, false, true, false, false, false, false, false, false, true, false, false, true, false, false, true, false, true, false, false, true, false, true, false, false, false, false, true, false, false, true, false, true, false, true, false, true, false, true, false, false, false, false, false, true, false, false, true, false, false, false, true, false, true, false, false, false, false, false, true, false, true, false, false, true, false, true, false, false, false, false, false, true, false, false, false, false, true, false, false, false, false, false, false, false, false, false, false, false, false, false, false, false, false, false, false, false, false, false, false, false, false, true, false, false, false, false, false, true, false, false, false, false, false, false, false, false]
def am_st (j : Nat) : Bool := am_stL.getD j false
/-- places in lw_tbl of a method's words: code, static or instanceMethod, selects, initialized -/
def am_plL : List (Nat × Nat × Nat × Nat) := [(0, 0, 0, 0), (50, 49, 0, 29), (58, 57, 0, 30), (65, 64, 0, 31), (109, 108, 0, 32), (167, 166, 0, 33), (187, 186, 0, 34), (193, 192, 0, 35), (244, 242, 243, 29), (248, 246, 247, 30), (252, 250, 251, 29), (256, 254, 255, 30), (260, 258, 259, 31), (264, 263, 0, 28), (270, 268, 269, 29), (273, 272, 0, 29), (355, 353, 354, 33), (359, 357, 358, 30), (363, 361, 362, 31), (370, 368, 369, 32), (373, 372, 0, 43), (377, 375, 376, 31), (380, 379, 0, 28), (385, 383, 384, 29), (389, 388, 1, 29), (408, 407, 2, 29), (412, 410, 411, 30), (417, 415, 416, 31), (421, 419, 420, 31), (424, 423, 0, 28), (428, 426, 427, 29), (432, 430, 431, 31), (435, 434, 0, 28), (439, 437, 438, 29), (443, 442, 3, 29), (447, 446, 0, 28), (451, 449, 450, 29), (454, 453, 0, 28), (458, 456, 457, 29), (462, 460, 461, 32), (465, 464, 0, 28), (469, 467, 468, 29), (472, 471, 0, 28), (476, 474, 475, 29), (480, 478, 479, 30), (484, 482, 483, 32), (488, 486, 487, 32), (491, 490, 0, 28), (495, 493, 494, 29), (499, 498, 4, 29), (503, 502, 0, 28), (507, 505, 506, 29), (510, 509, 0, 28), (514, 512, 513, 29), (517, 516, 0, 28), (521, 519, 520, 29), (524, 523, 0, 28), (528, 526, 527, 29), (531, 530, 0, 28), (535, 533, 534, 29), (539, 538, 5, 29), (544, 542, 543, 34), (548, 546, 547, 34), (554, 552, 553, 30), (558, 557, 0, 29), (562, 560, 561, 34), (566, 564, 565, 34), (569, 568, 0, 45), (573, 571, 572, 34), (578, 576, 577, 31), (583, 581, 582, 31), (587, 586, 0, 43), (592, 590, 591, 34), (595, 594, 0, 35), (599, 597, 598, 35), (606, 604, 605, 35), (611, 609, 610, 34), (615, 613, 614, 34), (619, 617, 618, 34), (622, 621, 0, 28), (626, 624, 625, 29), (632, 631, 0, 28), (636, 634, 635, 29), (640, 638, 639, 34), (643, 642, 0, 28), (647, 645, 646, 29), (650, 649, 0, 28), (654, 652, 653, 29), (658, 656, 657, 33), (663, 662, 0, 36), (699, 697, 698, 36), (703, 701, 702, 36), (706, 705, 0, 36), (710, 709, 6, 36), (714, 713, 7, 36), (718, 716, 717, 36), (722, 721, 8, 36), (725, 724, 0, 36), (729, 728, 9, 36), (733, 732, 10, 36), (737, 736, 11, 36), (742, 741, 12, 36), (746, 744, 745, 36), (750, 748, 749, 36), (755, 753, 754, 36), (759, 758, 13, 36), (763, 762, 14, 36), (767, 765, 766, 36), (771, 769, 770, 36), (775, 773, 774, 36), (779, 778, 15, 36), (783, 781, 782, 36), (787, 786, 16, 36), (791, 789, 790, 36), (795, 793, 794, 36), (799, 797, 798, 36), (803, 801, 802, 36), (807, 805, 806, 36), (811, 809, 810, 36), (815, 813, 814, 36), (820, 819, 17, 36), (824, 823, 18, 36), (827, 826, 0, 36), (831, 830, 19, 36), (835, 834, 20, 36), (839, 838, 21, 36), (843, 842, 22, 36), (847, 846, 23, 36), (850, 849, 0, 36), (854, 853, 24, 36), (858, 857, 25, 36), (863, 862, 26, 36), (867, 866, 27, 36), (871, 869, 870, 36), (875, 873, 874, 36), (879, 877, 878, 36), (883, 881, 882, 36)]
def am_pw (j : Nat) : Nat × Nat × Nat × Nat := am_plL.getD j (0, 0, 0, 0)
def am_hxL : List (List (Nat × Nat × Nat × Nat)) := [[], [], [], [], [], [], [], [], [], [], [], [], [], [(0, 18, 21, 13), (0, 18, 25, 15)], [], [], [], [], [], [], [], [], [(0, 14, 17, 21), (0, 14, 21, 13), (0, 14, 25, 15)], [], [], [], [], [], [], [(0, 14, 17, 21), (0, 14, 21, 13), (0, 14, 25, 15)], [], [], [(0, 12, 15, 21), (0, 12, 19, 13), (0, 12, 23, 15)], [], [], [(0, 9, 12, 13)], [], [(0, 14, 17, 21), (0, 14, 21, 13), (0, 14, 25, 15)], [], [], [(0, 9, 12, 13)], [], [(0, 9, 12, 21)], [], [], [], [], [(0, 10, 13, 21), (0, 10, 17, 13), (0, 10, 21, 15)], [], [], [(0, 9, 12, 21)], [], [(0, 10, 13, 21)], [], [(0, 9, 12, 21)], [], [(0, 9, 12, 21)], [], [(0, 9, 12, 13)], [], [], [], [], [], [], [], [], [], [], [], [], [], [], [], [], [], [], [], [], [(0, 12, 15, 13), (0, 12, 19, 21)], [], [(0, 10, 13, 13), (0, 10, 17, 21)], [], [], [(0, 10, 13, 13)], [], [(0, 8, 11, 15)], [], [], [], [], [], [], [], [], [], [], [], [], [], [], [], [], [], [], [], [], [], [], [], [], [], [], [], [], [], [], [], [], [], [], [], [], [], [], [], [], [], [], [], [], [], [], [], [], [], []]
def am_hx (j : Nat) : List (Nat × Nat × Nat × Nat) := am_hxL.getD j []
/-- places of a class's words: of its fields; instantiable, initialized -/
def am_lyL : List (List Nat) := [[234, 236, 238], [84, 86, 88, 90, 92, 94, 96, 98, 100], [122, 124, 126, 128, 130, 132, 134], [150, 152, 154, 156, 158, 160], [176, 178, 180], [197, 199], [213, 215, 217, 219, 221, 223, 225, 227], [675, 677, 679, 681, 683, 685, 687, 689, 691, 693]]
def am_inL : List (Nat × Nat) := [(47, 29), (62, 31), (106, 32), (55, 30), (164, 33), (190, 35), (184, 34), (660, 36)]
/-- exception tables: start, end, handler, kind -/
def am_hdL : List (List (Nat × Nat × Nat × Nat)) := [[], [], [], [], [], [], [], [], [], [], [], [], [], [(0, 18, 21, 0), (0, 18, 25, 1)], [], [], [], [], [], [], [], [], [(0, 14, 17, 2), (0, 14, 21, 0), (0, 14, 25, 1)], [], [], [], [], [], [], [(0, 14, 17, 2), (0, 14, 21, 0), (0, 14, 25, 1)], [], [], [(0, 12, 15, 2), (0, 12, 19, 0), (0, 12, 23, 1)], [], [], [(0, 9, 12, 0)], [], [(0, 14, 17, 2), (0, 14, 21, 0), (0, 14, 25, 1)], [], [], [(0, 9, 12, 0)], [], [(0, 9, 12, 2)], [], [], [], [], [(0, 10, 13, 2), (0, 10, 17, 0), (0, 10, 21, 1)], [], [], [(0, 9, 12, 2)], [], [(0, 10, 13, 2)], [], [(0, 9, 12, 2)], [], [(0, 9, 12, 2)], [], [(0, 9, 12, 0)], [], [], [], [], [], [], [], [], [], [], [], [], [], [], [], [], [], [], [], [], [(0, 12, 15, 0), (0, 12, 19, 2)], [], [(0, 10, 13, 0), (0, 10, 17, 2)], [], [], [(0, 10, 13, 0)], [], [(0, 8, 11, 1)], [], [], [], [], [], [], [], [], [], [], [], [], [], [], [], [], [], [], [], [], [], [], [], [], [], [], [], [], [], [], [], [], [], [], [], [], [], [], [], [], [], [], [], [], [], [], [], [], [], []]
def am_hd (j : Nat) : List (Nat × Nat × Nat × Nat) := am_hdL.getD j []
