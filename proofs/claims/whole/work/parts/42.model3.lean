set_option maxRecDepth 20000 in
theorem ggX12_house_X12_ahead : GoodIn wsX12_house wsX12_ahead := goodIn_r _ [23, 3, 2, 24, 25, 15, 26, 27, 28, 29, 30, 22, 31, 32, 33, 34, 216, 217, 218, 219, 220, 221, 222, 223, 224, 225, 226, 227, 228, 229, 230, 231, 232, 233, 234, 235, 236, 237, 238, 239, 240, 241, 242, 243, 244, 245, 246, 247, 248, 249, 250, 251, 252, 253, 254, 255, 256, 257, 258, 259, 260, 261, 262, 263, 264, 265, 266, 267, 268, 269, 270, 271, 272, 273, 274, 275, 276, 277, 278, 279, 280, 281, 282, 283, 284, 285] rfl (by decide +kernel)
set_option maxRecDepth 20000 in
theorem gX12_house_X12_ahead : GoodIn wsX12_house (wsV RX12 250 RX12 yX12_ahead wsX12_ahead) := goodIn_app (goodIn_of _ (by decide +kernel)) ggX12_house_X12_ahead
set_option maxRecDepth 20000 in
theorem ggX12_house_X12_rounding : GoodIn wsX12_house wsX12_rounding := goodIn_r _ [38, 39, 40, 7, 41, 42, 43, 22, 44, 4, 25, 45, 46, 47, 48, 26, 49, 50, 51, 52, 5, 53, 54, 55, 56, 15, 28, 19, 20, 21, 23, 3, 2, 24, 27, 29, 30, 31, 32, 33, 34, 57, 58, 59, 60, 61, 62, 63, 216, 217, 218, 219, 220, 221, 222, 223, 224, 225, 226, 227, 228, 229, 230, 231, 232, 233, 234, 235, 236, 237, 238, 239, 240, 241, 242, 243, 244, 245, 246, 247, 248, 249, 250, 251, 252, 253, 254, 255, 256, 257, 258, 259, 260, 261, 262, 263, 264, 265, 266, 267, 268, 269, 270, 271, 272, 273, 274, 275, 276, 277, 278, 279, 280, 281, 282, 283, 284, 285] rfl (by decide +kernel)
set_option maxRecDepth 20000 in
theorem gX12_house_X12_rounding : GoodIn wsX12_house (wsV RX12 379 RX12 yX12_rounding wsX12_rounding) := goodIn_app (goodIn_of _ (by decide +kernel)) ggX12_house_X12_rounding
set_option maxRecDepth 20000 in
theorem ggX12_house_X12_finishes : GoodIn wsX12_house wsX12_finishes := goodIn_r _ [67, 4, 3, 2, 24, 45, 46, 47, 22, 48, 26, 49, 50, 51, 52, 5, 68, 69, 70, 71, 15, 27, 72, 73, 74, 75, 25, 19, 20, 21, 23, 28, 29, 30, 31, 32, 33, 34, 216, 217, 218, 219, 220, 221, 222, 223, 224, 225, 226, 227, 228, 229, 230, 231, 232, 233, 234, 235, 236, 237, 238, 239, 240, 241, 242, 243, 244, 245, 246, 247, 248, 249, 250, 251, 252, 253, 254, 255, 256, 257, 258, 259, 260, 261, 262, 263, 264, 265, 266, 267, 268, 269, 270, 271, 272, 273, 274, 275, 276, 277, 278, 279, 280, 281, 282, 283, 284, 285] rfl (by decide +kernel)
set_option maxRecDepth 20000 in
theorem gX12_house_X12_finishes : GoodIn wsX12_house (wsV RX12 382 RX12 yX12_finishes wsX12_finishes) := goodIn_app (goodIn_of _ (by decide +kernel)) ggX12_house_X12_finishes
set_option maxRecDepth 20000 in
theorem ggX12_house_X12_statement : GoodIn wsX12_house wsX12_statement := goodIn_r _ [79, 4, 80, 8, 7, 40, 81, 9, 82, 10, 83, 84, 85, 86, 87, 25, 45, 46, 47, 22, 48, 26, 49, 50, 51, 52, 5, 53, 54, 55, 56, 15, 28, 88, 89, 90, 91, 92, 93, 94, 95, 19, 20, 21, 23, 3, 2, 24, 27, 29, 30, 31, 32, 33, 34, 57, 58, 59, 60, 61, 62, 63, 96, 97, 98, 99, 11, 100, 101, 102, 103, 104, 105, 106, 107, 108, 109, 110, 111, 112, 39, 113, 114, 115, 116, 117, 118, 119, 120, 121, 122, 123, 124, 125, 126, 127, 128, 129, 12, 130, 41, 42, 43, 44, 131, 132, 133, 134, 135, 136, 137, 138, 139, 140, 141, 142, 143, 144, 13, 145, 14, 146, 147, 148, 149, 150, 151, 152, 153, 154, 155, 156, 157, 158, 159, 160, 161, 162, 163, 164, 165, 166, 167, 168, 169, 170, 171, 172, 173, 174, 175, 68, 69, 70, 71, 176, 177, 178, 179, 180, 181, 182, 183, 184, 185, 186, 187, 188, 189, 190, 191, 192, 193, 194, 195, 196, 216, 217, 218, 219, 220, 221, 222, 223, 224, 225, 226, 227, 228, 229, 230, 231, 232, 233, 234, 235, 236, 237, 238, 239, 240, 241, 242, 243, 244, 245, 246, 247, 248, 249, 250, 251, 252, 253, 254, 255, 256, 257, 258, 259, 260, 261, 262, 263, 264, 265, 266, 267, 268, 269, 270, 271, 272, 273, 274, 275, 276, 277, 278, 279, 280, 281, 282, 283, 284, 285] rfl (by decide +kernel)
set_option maxRecDepth 20000 in
theorem gX12_house_X12_statement : GoodIn wsX12_house (wsV RX12 385 RX12 yX12_statement wsX12_statement) := goodIn_app (goodIn_of _ (by decide +kernel)) ggX12_house_X12_statement
set_option maxRecDepth 20000 in
theorem ggX12_house_X12_refuses : GoodIn wsX12_house wsX12_refuses := goodIn_r _ [200, 201, 216, 217, 218, 219, 220, 221, 222, 223, 224, 225, 226, 227, 228, 229, 230, 231, 232, 233, 234, 235, 236, 237, 238, 239, 240, 241, 242, 243, 244, 245, 246, 247, 248, 249, 250, 251, 252, 253, 254, 255, 256, 257, 258, 259, 260, 261, 262, 263, 264, 265, 266, 267, 268, 269, 270, 271, 272, 273, 274, 275, 276, 277, 278, 279, 280, 281, 282, 283, 284, 285] rfl (by decide +kernel)
set_option maxRecDepth 20000 in
theorem gX12_house_X12_refuses : GoodIn wsX12_house (wsV RX12 225 RX12 yX12_refuses wsX12_refuses) := goodIn_app (goodIn_of _ (by decide +kernel)) ggX12_house_X12_refuses
set_option maxRecDepth 20000 in
theorem ggX12_house_X12_begin : GoodIn wsX12_house wsX12_begin := goodIn_r _ [205, 206, 207, 8, 6, 208, 209, 210, 9, 211, 102, 212, 136, 213, 214, 215, 216, 217, 218, 219, 220, 221, 222, 223, 224, 225, 226, 227, 228, 229, 230, 231, 232, 233, 234, 235, 236, 237, 238, 239, 240, 241, 242, 243, 244, 245, 246, 247, 248, 249, 250, 251, 252, 253, 254, 255, 256, 257, 258, 259, 260, 261, 262, 263, 264, 265, 266, 267, 268, 269, 270, 271, 272, 273, 274, 275, 276, 277, 278, 279, 280, 281, 282, 283, 284, 285] rfl (by decide +kernel)
set_option maxRecDepth 20000 in
theorem gX12_house_X12_begin : GoodIn wsX12_house (wsV RX12 388 RX12 yX12_begin wsX12_begin) := goodIn_app (goodIn_of _ (by decide +kernel)) ggX12_house_X12_begin
def dsX12_house_0 : List (Nat × Instr × Nat) := [(0, (.aload_n 0, 1)), (1, (.aload_n 0, 1)), (2, (.getfield 13, 3)), (5, (.putfield 17, 3)), (8, (.aload_n 0, 1)), (9, (.iconst 0, 1)), (10, (.putfield 13, 3)), (13, (.aload_n 0, 1)), (14, (.iconst 0, 1)), (15, (.putfield 26, 3)), (18, (.aload_n 0, 1)), (19, (.iconst 0, 1)), (20, (.putfield 36, 3)), (23, (.aload_n 0, 1)), (24, (.iconst (-1), 1)), (25, (.putfield 39, 3)), (28, (.aload_n 0, 1)), (29, (.iconst 1, 1)), (30, (.aload_n 0, 1)), (31, (.getfield 51, 3)), (34, (.isub, 1)), (35, (.putfield 106, 3)), (38, (.aload_n 0, 1)), (39, (.getfield 57, 3)), (42, (.aload_n 0, 1)), (43, (.getfield 106, 3)), (46, (.iconst 0, 1)), (47, (.iastore, 1)), (48, (.aload_n 0, 1)), (49, (.getfield 60, 3)), (52, (.aload_n 0, 1)), (53, (.getfield 106, 3)), (56, (.iconst 0, 1)), (57, (.iastore, 1)), (58, (.aload_n 0, 1)), (59, (.getfield 63, 3)), (62, (.aload_n 0, 1)), (63, (.getfield 106, 3)), (66, (.iconst 0, 1)), (67, (.iastore, 1)), (68, (.aload_n 0, 1)), (69, (.getfield 66, 3)), (72, (.aload_n 0, 1)), (73, (.getfield 106, 3)), (76, (.iconst 0, 1)), (77, (.iastore, 1)), (78, (.aload_n 0, 1)), (79, (.getfield 75, 3)), (82, (.aload_n 0, 1)), (83, (.getfield 106, 3)), (86, (.iconst 0, 1)), (87, (.iastore, 1)), (88, (.iconst 3, 1)), (89, (.aload_n 0, 1)), (90, (.getfield 106, 3)), (93, (.imul, 1)), (94, (.istore_n 1, 1)), (95, (.iload_n 1, 1)), (96, (.iconst 3, 1)), (97, (.aload_n 0, 1))]
theorem dsX12_house_0_ok : (dsX12_house_0.all fun q => decide (decode cX12_house q.1 = .ok q.2)) = true := by decide +kernel
theorem dX12_house_0 : decode cX12_house 0 = .ok (.aload_n 0, 1) := of_decide_eq_true (List.all_eq_true.mp dsX12_house_0_ok (0, (.aload_n 0, 1)) (List.mem_of_getElem? (i := 0) rfl))
theorem dX12_house_1 : decode cX12_house 1 = .ok (.aload_n 0, 1) := of_decide_eq_true (List.all_eq_true.mp dsX12_house_0_ok (1, (.aload_n 0, 1)) (List.mem_of_getElem? (i := 1) rfl))
theorem dX12_house_2 : decode cX12_house 2 = .ok (.getfield 13, 3) := of_decide_eq_true (List.all_eq_true.mp dsX12_house_0_ok (2, (.getfield 13, 3)) (List.mem_of_getElem? (i := 2) rfl))
theorem dX12_house_5 : decode cX12_house 5 = .ok (.putfield 17, 3) := of_decide_eq_true (List.all_eq_true.mp dsX12_house_0_ok (5, (.putfield 17, 3)) (List.mem_of_getElem? (i := 3) rfl))
theorem dX12_house_8 : decode cX12_house 8 = .ok (.aload_n 0, 1) := of_decide_eq_true (List.all_eq_true.mp dsX12_house_0_ok (8, (.aload_n 0, 1)) (List.mem_of_getElem? (i := 4) rfl))
theorem dX12_house_9 : decode cX12_house 9 = .ok (.iconst 0, 1) := of_decide_eq_true (List.all_eq_true.mp dsX12_house_0_ok (9, (.iconst 0, 1)) (List.mem_of_getElem? (i := 5) rfl))
theorem dX12_house_10 : decode cX12_house 10 = .ok (.putfield 13, 3) := of_decide_eq_true (List.all_eq_true.mp dsX12_house_0_ok (10, (.putfield 13, 3)) (List.mem_of_getElem? (i := 6) rfl))
theorem dX12_house_13 : decode cX12_house 13 = .ok (.aload_n 0, 1) := of_decide_eq_true (List.all_eq_true.mp dsX12_house_0_ok (13, (.aload_n 0, 1)) (List.mem_of_getElem? (i := 7) rfl))
theorem dX12_house_14 : decode cX12_house 14 = .ok (.iconst 0, 1) := of_decide_eq_true (List.all_eq_true.mp dsX12_house_0_ok (14, (.iconst 0, 1)) (List.mem_of_getElem? (i := 8) rfl))
theorem dX12_house_15 : decode cX12_house 15 = .ok (.putfield 26, 3) := of_decide_eq_true (List.all_eq_true.mp dsX12_house_0_ok (15, (.putfield 26, 3)) (List.mem_of_getElem? (i := 9) rfl))
theorem dX12_house_18 : decode cX12_house 18 = .ok (.aload_n 0, 1) := of_decide_eq_true (List.all_eq_true.mp dsX12_house_0_ok (18, (.aload_n 0, 1)) (List.mem_of_getElem? (i := 10) rfl))
theorem dX12_house_19 : decode cX12_house 19 = .ok (.iconst 0, 1) := of_decide_eq_true (List.all_eq_true.mp dsX12_house_0_ok (19, (.iconst 0, 1)) (List.mem_of_getElem? (i := 11) rfl))
theorem dX12_house_20 : decode cX12_house 20 = .ok (.putfield 36, 3) := of_decide_eq_true (List.all_eq_true.mp dsX12_house_0_ok (20, (.putfield 36, 3)) (List.mem_of_getElem? (i := 12) rfl))
theorem dX12_house_23 : decode cX12_house 23 = .ok (.aload_n 0, 1) := of_decide_eq_true (List.all_eq_true.mp dsX12_house_0_ok (23, (.aload_n 0, 1)) (List.mem_of_getElem? (i := 13) rfl))
theorem dX12_house_24 : decode cX12_house 24 = .ok (.iconst (-1), 1) := of_decide_eq_true (List.all_eq_true.mp dsX12_house_0_ok (24, (.iconst (-1), 1)) (List.mem_of_getElem? (i := 14) rfl))
theorem dX12_house_25 : decode cX12_house 25 = .ok (.putfield 39, 3) := of_decide_eq_true (List.all_eq_true.mp dsX12_house_0_ok (25, (.putfield 39, 3)) (List.mem_of_getElem? (i := 15) rfl))
theorem dX12_house_28 : decode cX12_house 28 = .ok (.aload_n 0, 1) := of_decide_eq_true (List.all_eq_true.mp dsX12_house_0_ok (28, (.aload_n 0, 1)) (List.mem_of_getElem? (i := 16) rfl))
theorem dX12_house_29 : decode cX12_house 29 = .ok (.iconst 1, 1) := of_decide_eq_true (List.all_eq_true.mp dsX12_house_0_ok (29, (.iconst 1, 1)) (List.mem_of_getElem? (i := 17) rfl))
theorem dX12_house_30 : decode cX12_house 30 = .ok (.aload_n 0, 1) := of_decide_eq_true (List.all_eq_true.mp dsX12_house_0_ok (30, (.aload_n 0, 1)) (List.mem_of_getElem? (i := 18) rfl))
theorem dX12_house_31 : decode cX12_house 31 = .ok (.getfield 51, 3) := of_decide_eq_true (List.all_eq_true.mp dsX12_house_0_ok (31, (.getfield 51, 3)) (List.mem_of_getElem? (i := 19) rfl))
theorem dX12_house_34 : decode cX12_house 34 = .ok (.isub, 1) := of_decide_eq_true (List.all_eq_true.mp dsX12_house_0_ok (34, (.isub, 1)) (List.mem_of_getElem? (i := 20) rfl))
theorem dX12_house_35 : decode cX12_house 35 = .ok (.putfield 106, 3) := of_decide_eq_true (List.all_eq_true.mp dsX12_house_0_ok (35, (.putfield 106, 3)) (List.mem_of_getElem? (i := 21) rfl))
theorem dX12_house_38 : decode cX12_house 38 = .ok (.aload_n 0, 1) := of_decide_eq_true (List.all_eq_true.mp dsX12_house_0_ok (38, (.aload_n 0, 1)) (List.mem_of_getElem? (i := 22) rfl))
theorem dX12_house_39 : decode cX12_house 39 = .ok (.getfield 57, 3) := of_decide_eq_true (List.all_eq_true.mp dsX12_house_0_ok (39, (.getfield 57, 3)) (List.mem_of_getElem? (i := 23) rfl))
theorem dX12_house_42 : decode cX12_house 42 = .ok (.aload_n 0, 1) := of_decide_eq_true (List.all_eq_true.mp dsX12_house_0_ok (42, (.aload_n 0, 1)) (List.mem_of_getElem? (i := 24) rfl))
theorem dX12_house_43 : decode cX12_house 43 = .ok (.getfield 106, 3) := of_decide_eq_true (List.all_eq_true.mp dsX12_house_0_ok (43, (.getfield 106, 3)) (List.mem_of_getElem? (i := 25) rfl))
theorem dX12_house_46 : decode cX12_house 46 = .ok (.iconst 0, 1) := of_decide_eq_true (List.all_eq_true.mp dsX12_house_0_ok (46, (.iconst 0, 1)) (List.mem_of_getElem? (i := 26) rfl))
theorem dX12_house_47 : decode cX12_house 47 = .ok (.iastore, 1) := of_decide_eq_true (List.all_eq_true.mp dsX12_house_0_ok (47, (.iastore, 1)) (List.mem_of_getElem? (i := 27) rfl))
theorem dX12_house_48 : decode cX12_house 48 = .ok (.aload_n 0, 1) := of_decide_eq_true (List.all_eq_true.mp dsX12_house_0_ok (48, (.aload_n 0, 1)) (List.mem_of_getElem? (i := 28) rfl))
theorem dX12_house_49 : decode cX12_house 49 = .ok (.getfield 60, 3) := of_decide_eq_true (List.all_eq_true.mp dsX12_house_0_ok (49, (.getfield 60, 3)) (List.mem_of_getElem? (i := 29) rfl))
theorem dX12_house_52 : decode cX12_house 52 = .ok (.aload_n 0, 1) := of_decide_eq_true (List.all_eq_true.mp dsX12_house_0_ok (52, (.aload_n 0, 1)) (List.mem_of_getElem? (i := 30) rfl))
theorem dX12_house_53 : decode cX12_house 53 = .ok (.getfield 106, 3) := of_decide_eq_true (List.all_eq_true.mp dsX12_house_0_ok (53, (.getfield 106, 3)) (List.mem_of_getElem? (i := 31) rfl))
theorem dX12_house_56 : decode cX12_house 56 = .ok (.iconst 0, 1) := of_decide_eq_true (List.all_eq_true.mp dsX12_house_0_ok (56, (.iconst 0, 1)) (List.mem_of_getElem? (i := 32) rfl))
theorem dX12_house_57 : decode cX12_house 57 = .ok (.iastore, 1) := of_decide_eq_true (List.all_eq_true.mp dsX12_house_0_ok (57, (.iastore, 1)) (List.mem_of_getElem? (i := 33) rfl))
theorem dX12_house_58 : decode cX12_house 58 = .ok (.aload_n 0, 1) := of_decide_eq_true (List.all_eq_true.mp dsX12_house_0_ok (58, (.aload_n 0, 1)) (List.mem_of_getElem? (i := 34) rfl))
theorem dX12_house_59 : decode cX12_house 59 = .ok (.getfield 63, 3) := of_decide_eq_true (List.all_eq_true.mp dsX12_house_0_ok (59, (.getfield 63, 3)) (List.mem_of_getElem? (i := 35) rfl))
theorem dX12_house_62 : decode cX12_house 62 = .ok (.aload_n 0, 1) := of_decide_eq_true (List.all_eq_true.mp dsX12_house_0_ok (62, (.aload_n 0, 1)) (List.mem_of_getElem? (i := 36) rfl))
theorem dX12_house_63 : decode cX12_house 63 = .ok (.getfield 106, 3) := of_decide_eq_true (List.all_eq_true.mp dsX12_house_0_ok (63, (.getfield 106, 3)) (List.mem_of_getElem? (i := 37) rfl))
theorem dX12_house_66 : decode cX12_house 66 = .ok (.iconst 0, 1) := of_decide_eq_true (List.all_eq_true.mp dsX12_house_0_ok (66, (.iconst 0, 1)) (List.mem_of_getElem? (i := 38) rfl))
theorem dX12_house_67 : decode cX12_house 67 = .ok (.iastore, 1) := of_decide_eq_true (List.all_eq_true.mp dsX12_house_0_ok (67, (.iastore, 1)) (List.mem_of_getElem? (i := 39) rfl))
theorem dX12_house_68 : decode cX12_house 68 = .ok (.aload_n 0, 1) := of_decide_eq_true (List.all_eq_true.mp dsX12_house_0_ok (68, (.aload_n 0, 1)) (List.mem_of_getElem? (i := 40) rfl))
theorem dX12_house_69 : decode cX12_house 69 = .ok (.getfield 66, 3) := of_decide_eq_true (List.all_eq_true.mp dsX12_house_0_ok (69, (.getfield 66, 3)) (List.mem_of_getElem? (i := 41) rfl))
theorem dX12_house_72 : decode cX12_house 72 = .ok (.aload_n 0, 1) := of_decide_eq_true (List.all_eq_true.mp dsX12_house_0_ok (72, (.aload_n 0, 1)) (List.mem_of_getElem? (i := 42) rfl))
theorem dX12_house_73 : decode cX12_house 73 = .ok (.getfield 106, 3) := of_decide_eq_true (List.all_eq_true.mp dsX12_house_0_ok (73, (.getfield 106, 3)) (List.mem_of_getElem? (i := 43) rfl))
theorem dX12_house_76 : decode cX12_house 76 = .ok (.iconst 0, 1) := of_decide_eq_true (List.all_eq_true.mp dsX12_house_0_ok (76, (.iconst 0, 1)) (List.mem_of_getElem? (i := 44) rfl))
theorem dX12_house_77 : decode cX12_house 77 = .ok (.iastore, 1) := of_decide_eq_true (List.all_eq_true.mp dsX12_house_0_ok (77, (.iastore, 1)) (List.mem_of_getElem? (i := 45) rfl))
theorem dX12_house_78 : decode cX12_house 78 = .ok (.aload_n 0, 1) := of_decide_eq_true (List.all_eq_true.mp dsX12_house_0_ok (78, (.aload_n 0, 1)) (List.mem_of_getElem? (i := 46) rfl))
theorem dX12_house_79 : decode cX12_house 79 = .ok (.getfield 75, 3) := of_decide_eq_true (List.all_eq_true.mp dsX12_house_0_ok (79, (.getfield 75, 3)) (List.mem_of_getElem? (i := 47) rfl))
theorem dX12_house_82 : decode cX12_house 82 = .ok (.aload_n 0, 1) := of_decide_eq_true (List.all_eq_true.mp dsX12_house_0_ok (82, (.aload_n 0, 1)) (List.mem_of_getElem? (i := 48) rfl))
theorem dX12_house_83 : decode cX12_house 83 = .ok (.getfield 106, 3) := of_decide_eq_true (List.all_eq_true.mp dsX12_house_0_ok (83, (.getfield 106, 3)) (List.mem_of_getElem? (i := 49) rfl))
theorem dX12_house_86 : decode cX12_house 86 = .ok (.iconst 0, 1) := of_decide_eq_true (List.all_eq_true.mp dsX12_house_0_ok (86, (.iconst 0, 1)) (List.mem_of_getElem? (i := 50) rfl))
theorem dX12_house_87 : decode cX12_house 87 = .ok (.iastore, 1) := of_decide_eq_true (List.all_eq_true.mp dsX12_house_0_ok (87, (.iastore, 1)) (List.mem_of_getElem? (i := 51) rfl))
theorem dX12_house_88 : decode cX12_house 88 = .ok (.iconst 3, 1) := of_decide_eq_true (List.all_eq_true.mp dsX12_house_0_ok (88, (.iconst 3, 1)) (List.mem_of_getElem? (i := 52) rfl))
theorem dX12_house_89 : decode cX12_house 89 = .ok (.aload_n 0, 1) := of_decide_eq_true (List.all_eq_true.mp dsX12_house_0_ok (89, (.aload_n 0, 1)) (List.mem_of_getElem? (i := 53) rfl))
theorem dX12_house_90 : decode cX12_house 90 = .ok (.getfield 106, 3) := of_decide_eq_true (List.all_eq_true.mp dsX12_house_0_ok (90, (.getfield 106, 3)) (List.mem_of_getElem? (i := 54) rfl))
theorem dX12_house_93 : decode cX12_house 93 = .ok (.imul, 1) := of_decide_eq_true (List.all_eq_true.mp dsX12_house_0_ok (93, (.imul, 1)) (List.mem_of_getElem? (i := 55) rfl))
theorem dX12_house_94 : decode cX12_house 94 = .ok (.istore_n 1, 1) := of_decide_eq_true (List.all_eq_true.mp dsX12_house_0_ok (94, (.istore_n 1, 1)) (List.mem_of_getElem? (i := 56) rfl))
theorem dX12_house_95 : decode cX12_house 95 = .ok (.iload_n 1, 1) := of_decide_eq_true (List.all_eq_true.mp dsX12_house_0_ok (95, (.iload_n 1, 1)) (List.mem_of_getElem? (i := 57) rfl))
theorem dX12_house_96 : decode cX12_house 96 = .ok (.iconst 3, 1) := of_decide_eq_true (List.all_eq_true.mp dsX12_house_0_ok (96, (.iconst 3, 1)) (List.mem_of_getElem? (i := 58) rfl))
theorem dX12_house_97 : decode cX12_house 97 = .ok (.aload_n 0, 1) := of_decide_eq_true (List.all_eq_true.mp dsX12_house_0_ok (97, (.aload_n 0, 1)) (List.mem_of_getElem? (i := 59) rfl))
def dsX12_house_1 : List (Nat × Instr × Nat) := [(98, (.getfield 106, 3)), (101, (.imul, 1)), (102, (.iconst 3, 1)), (103, (.iadd, 1)), (104, (.if_icmp .ge 16, 3)), (107, (.aload_n 0, 1)), (108, (.getfield 84, 3)), (111, (.iload_n 1, 1)), (112, (.iconst (-1), 1)), (113, (.iastore, 1)), (114, (.iinc 1 1, 3)), (117, (.goto (-22), 3)), (120, (.aload_n 0, 1)), (121, (.iconst 0, 1)), (122, (.putfield 103, 3)), (125, (.iconst 1, 1)), (126, (.istore_n 1, 1)), (127, (.aload_n 0, 1)), (128, (.invokevirtual 250, 3)), (131, (.aload_n 0, 1)), (132, (.invokevirtual 379, 3)), (135, (.aload_n 0, 1)), (136, (.iload_n 1, 1)), (137, (.invokevirtual 382, 3)), (140, (.aload_n 0, 1)), (141, (.getfield 36, 3)), (144, (.ifCond .ne 25, 3)), (147, (.aload_n 0, 1)), (148, (.getfield 20, 3)), (151, (.ifCond .eq 18, 3)), (154, (.aload_n 0, 1)), (155, (.invokevirtual 385, 3)), (158, (.iinc 1 1, 3)), (161, (.aload_n 0, 1)), (162, (.iload_n 1, 1)), (163, (.invokevirtual 382, 3)), (166, (.goto (-26), 3)), (169, (.aload_n 0, 1)), (170, (.aload_n 0, 1)), (171, (.getfield 36, 3)), (174, (.putfield 42, 3)), (177, (.aload_n 0, 1)), (178, (.aload_n 0, 1)), (179, (.getfield 39, 3)), (182, (.putfield 45, 3)), (185, (.aload_n 0, 1)), (186, (.getfield 36, 3)), (189, (.ifCond .le 9, 3)), (192, (.aload_n 0, 1)), (193, (.iconst 1, 1)), (194, (.invokevirtual 225, 3)), (197, (.ireturn, 1)), (198, (.aload_n 0, 1)), (199, (.aload_n 0, 1)), (200, (.getfield 106, 3)), (203, (.putfield 51, 3)), (206, (.aload_n 0, 1)), (207, (.iconst 1, 1)), (208, (.putfield 144, 3)), (211, (.aload_n 0, 1))]
theorem dsX12_house_1_ok : (dsX12_house_1.all fun q => decide (decode cX12_house q.1 = .ok q.2)) = true := by decide +kernel
theorem dX12_house_98 : decode cX12_house 98 = .ok (.getfield 106, 3) := of_decide_eq_true (List.all_eq_true.mp dsX12_house_1_ok (98, (.getfield 106, 3)) (List.mem_of_getElem? (i := 0) rfl))
theorem dX12_house_101 : decode cX12_house 101 = .ok (.imul, 1) := of_decide_eq_true (List.all_eq_true.mp dsX12_house_1_ok (101, (.imul, 1)) (List.mem_of_getElem? (i := 1) rfl))
theorem dX12_house_102 : decode cX12_house 102 = .ok (.iconst 3, 1) := of_decide_eq_true (List.all_eq_true.mp dsX12_house_1_ok (102, (.iconst 3, 1)) (List.mem_of_getElem? (i := 2) rfl))
theorem dX12_house_103 : decode cX12_house 103 = .ok (.iadd, 1) := of_decide_eq_true (List.all_eq_true.mp dsX12_house_1_ok (103, (.iadd, 1)) (List.mem_of_getElem? (i := 3) rfl))
theorem dX12_house_104 : decode cX12_house 104 = .ok (.if_icmp .ge 16, 3) := of_decide_eq_true (List.all_eq_true.mp dsX12_house_1_ok (104, (.if_icmp .ge 16, 3)) (List.mem_of_getElem? (i := 4) rfl))
theorem dX12_house_107 : decode cX12_house 107 = .ok (.aload_n 0, 1) := of_decide_eq_true (List.all_eq_true.mp dsX12_house_1_ok (107, (.aload_n 0, 1)) (List.mem_of_getElem? (i := 5) rfl))
theorem dX12_house_108 : decode cX12_house 108 = .ok (.getfield 84, 3) := of_decide_eq_true (List.all_eq_true.mp dsX12_house_1_ok (108, (.getfield 84, 3)) (List.mem_of_getElem? (i := 6) rfl))
theorem dX12_house_111 : decode cX12_house 111 = .ok (.iload_n 1, 1) := of_decide_eq_true (List.all_eq_true.mp dsX12_house_1_ok (111, (.iload_n 1, 1)) (List.mem_of_getElem? (i := 7) rfl))
theorem dX12_house_112 : decode cX12_house 112 = .ok (.iconst (-1), 1) := of_decide_eq_true (List.all_eq_true.mp dsX12_house_1_ok (112, (.iconst (-1), 1)) (List.mem_of_getElem? (i := 8) rfl))
theorem dX12_house_113 : decode cX12_house 113 = .ok (.iastore, 1) := of_decide_eq_true (List.all_eq_true.mp dsX12_house_1_ok (113, (.iastore, 1)) (List.mem_of_getElem? (i := 9) rfl))
theorem dX12_house_114 : decode cX12_house 114 = .ok (.iinc 1 1, 3) := of_decide_eq_true (List.all_eq_true.mp dsX12_house_1_ok (114, (.iinc 1 1, 3)) (List.mem_of_getElem? (i := 10) rfl))
theorem dX12_house_117 : decode cX12_house 117 = .ok (.goto (-22), 3) := of_decide_eq_true (List.all_eq_true.mp dsX12_house_1_ok (117, (.goto (-22), 3)) (List.mem_of_getElem? (i := 11) rfl))
theorem dX12_house_120 : decode cX12_house 120 = .ok (.aload_n 0, 1) := of_decide_eq_true (List.all_eq_true.mp dsX12_house_1_ok (120, (.aload_n 0, 1)) (List.mem_of_getElem? (i := 12) rfl))
theorem dX12_house_121 : decode cX12_house 121 = .ok (.iconst 0, 1) := of_decide_eq_true (List.all_eq_true.mp dsX12_house_1_ok (121, (.iconst 0, 1)) (List.mem_of_getElem? (i := 13) rfl))
theorem dX12_house_122 : decode cX12_house 122 = .ok (.putfield 103, 3) := of_decide_eq_true (List.all_eq_true.mp dsX12_house_1_ok (122, (.putfield 103, 3)) (List.mem_of_getElem? (i := 14) rfl))
theorem dX12_house_125 : decode cX12_house 125 = .ok (.iconst 1, 1) := of_decide_eq_true (List.all_eq_true.mp dsX12_house_1_ok (125, (.iconst 1, 1)) (List.mem_of_getElem? (i := 15) rfl))
theorem dX12_house_126 : decode cX12_house 126 = .ok (.istore_n 1, 1) := of_decide_eq_true (List.all_eq_true.mp dsX12_house_1_ok (126, (.istore_n 1, 1)) (List.mem_of_getElem? (i := 16) rfl))
theorem dX12_house_127 : decode cX12_house 127 = .ok (.aload_n 0, 1) := of_decide_eq_true (List.all_eq_true.mp dsX12_house_1_ok (127, (.aload_n 0, 1)) (List.mem_of_getElem? (i := 17) rfl))
theorem dX12_house_128 : decode cX12_house 128 = .ok (.invokevirtual 250, 3) := of_decide_eq_true (List.all_eq_true.mp dsX12_house_1_ok (128, (.invokevirtual 250, 3)) (List.mem_of_getElem? (i := 18) rfl))
theorem dX12_house_131 : decode cX12_house 131 = .ok (.aload_n 0, 1) := of_decide_eq_true (List.all_eq_true.mp dsX12_house_1_ok (131, (.aload_n 0, 1)) (List.mem_of_getElem? (i := 19) rfl))
theorem dX12_house_132 : decode cX12_house 132 = .ok (.invokevirtual 379, 3) := of_decide_eq_true (List.all_eq_true.mp dsX12_house_1_ok (132, (.invokevirtual 379, 3)) (List.mem_of_getElem? (i := 20) rfl))
theorem dX12_house_135 : decode cX12_house 135 = .ok (.aload_n 0, 1) := of_decide_eq_true (List.all_eq_true.mp dsX12_house_1_ok (135, (.aload_n 0, 1)) (List.mem_of_getElem? (i := 21) rfl))
theorem dX12_house_136 : decode cX12_house 136 = .ok (.iload_n 1, 1) := of_decide_eq_true (List.all_eq_true.mp dsX12_house_1_ok (136, (.iload_n 1, 1)) (List.mem_of_getElem? (i := 22) rfl))
theorem dX12_house_137 : decode cX12_house 137 = .ok (.invokevirtual 382, 3) := of_decide_eq_true (List.all_eq_true.mp dsX12_house_1_ok (137, (.invokevirtual 382, 3)) (List.mem_of_getElem? (i := 23) rfl))
theorem dX12_house_140 : decode cX12_house 140 = .ok (.aload_n 0, 1) := of_decide_eq_true (List.all_eq_true.mp dsX12_house_1_ok (140, (.aload_n 0, 1)) (List.mem_of_getElem? (i := 24) rfl))
theorem dX12_house_141 : decode cX12_house 141 = .ok (.getfield 36, 3) := of_decide_eq_true (List.all_eq_true.mp dsX12_house_1_ok (141, (.getfield 36, 3)) (List.mem_of_getElem? (i := 25) rfl))
theorem dX12_house_144 : decode cX12_house 144 = .ok (.ifCond .ne 25, 3) := of_decide_eq_true (List.all_eq_true.mp dsX12_house_1_ok (144, (.ifCond .ne 25, 3)) (List.mem_of_getElem? (i := 26) rfl))
theorem dX12_house_147 : decode cX12_house 147 = .ok (.aload_n 0, 1) := of_decide_eq_true (List.all_eq_true.mp dsX12_house_1_ok (147, (.aload_n 0, 1)) (List.mem_of_getElem? (i := 27) rfl))
theorem dX12_house_148 : decode cX12_house 148 = .ok (.getfield 20, 3) := of_decide_eq_true (List.all_eq_true.mp dsX12_house_1_ok (148, (.getfield 20, 3)) (List.mem_of_getElem? (i := 28) rfl))
theorem dX12_house_151 : decode cX12_house 151 = .ok (.ifCond .eq 18, 3) := of_decide_eq_true (List.all_eq_true.mp dsX12_house_1_ok (151, (.ifCond .eq 18, 3)) (List.mem_of_getElem? (i := 29) rfl))
theorem dX12_house_154 : decode cX12_house 154 = .ok (.aload_n 0, 1) := of_decide_eq_true (List.all_eq_true.mp dsX12_house_1_ok (154, (.aload_n 0, 1)) (List.mem_of_getElem? (i := 30) rfl))
theorem dX12_house_155 : decode cX12_house 155 = .ok (.invokevirtual 385, 3) := of_decide_eq_true (List.all_eq_true.mp dsX12_house_1_ok (155, (.invokevirtual 385, 3)) (List.mem_of_getElem? (i := 31) rfl))
theorem dX12_house_158 : decode cX12_house 158 = .ok (.iinc 1 1, 3) := of_decide_eq_true (List.all_eq_true.mp dsX12_house_1_ok (158, (.iinc 1 1, 3)) (List.mem_of_getElem? (i := 32) rfl))
theorem dX12_house_161 : decode cX12_house 161 = .ok (.aload_n 0, 1) := of_decide_eq_true (List.all_eq_true.mp dsX12_house_1_ok (161, (.aload_n 0, 1)) (List.mem_of_getElem? (i := 33) rfl))
theorem dX12_house_162 : decode cX12_house 162 = .ok (.iload_n 1, 1) := of_decide_eq_true (List.all_eq_true.mp dsX12_house_1_ok (162, (.iload_n 1, 1)) (List.mem_of_getElem? (i := 34) rfl))
theorem dX12_house_163 : decode cX12_house 163 = .ok (.invokevirtual 382, 3) := of_decide_eq_true (List.all_eq_true.mp dsX12_house_1_ok (163, (.invokevirtual 382, 3)) (List.mem_of_getElem? (i := 35) rfl))
theorem dX12_house_166 : decode cX12_house 166 = .ok (.goto (-26), 3) := of_decide_eq_true (List.all_eq_true.mp dsX12_house_1_ok (166, (.goto (-26), 3)) (List.mem_of_getElem? (i := 36) rfl))
theorem dX12_house_169 : decode cX12_house 169 = .ok (.aload_n 0, 1) := of_decide_eq_true (List.all_eq_true.mp dsX12_house_1_ok (169, (.aload_n 0, 1)) (List.mem_of_getElem? (i := 37) rfl))
theorem dX12_house_170 : decode cX12_house 170 = .ok (.aload_n 0, 1) := of_decide_eq_true (List.all_eq_true.mp dsX12_house_1_ok (170, (.aload_n 0, 1)) (List.mem_of_getElem? (i := 38) rfl))
theorem dX12_house_171 : decode cX12_house 171 = .ok (.getfield 36, 3) := of_decide_eq_true (List.all_eq_true.mp dsX12_house_1_ok (171, (.getfield 36, 3)) (List.mem_of_getElem? (i := 39) rfl))
theorem dX12_house_174 : decode cX12_house 174 = .ok (.putfield 42, 3) := of_decide_eq_true (List.all_eq_true.mp dsX12_house_1_ok (174, (.putfield 42, 3)) (List.mem_of_getElem? (i := 40) rfl))
theorem dX12_house_177 : decode cX12_house 177 = .ok (.aload_n 0, 1) := of_decide_eq_true (List.all_eq_true.mp dsX12_house_1_ok (177, (.aload_n 0, 1)) (List.mem_of_getElem? (i := 41) rfl))
theorem dX12_house_178 : decode cX12_house 178 = .ok (.aload_n 0, 1) := of_decide_eq_true (List.all_eq_true.mp dsX12_house_1_ok (178, (.aload_n 0, 1)) (List.mem_of_getElem? (i := 42) rfl))
theorem dX12_house_179 : decode cX12_house 179 = .ok (.getfield 39, 3) := of_decide_eq_true (List.all_eq_true.mp dsX12_house_1_ok (179, (.getfield 39, 3)) (List.mem_of_getElem? (i := 43) rfl))
theorem dX12_house_182 : decode cX12_house 182 = .ok (.putfield 45, 3) := of_decide_eq_true (List.all_eq_true.mp dsX12_house_1_ok (182, (.putfield 45, 3)) (List.mem_of_getElem? (i := 44) rfl))
theorem dX12_house_185 : decode cX12_house 185 = .ok (.aload_n 0, 1) := of_decide_eq_true (List.all_eq_true.mp dsX12_house_1_ok (185, (.aload_n 0, 1)) (List.mem_of_getElem? (i := 45) rfl))
theorem dX12_house_186 : decode cX12_house 186 = .ok (.getfield 36, 3) := of_decide_eq_true (List.all_eq_true.mp dsX12_house_1_ok (186, (.getfield 36, 3)) (List.mem_of_getElem? (i := 46) rfl))
theorem dX12_house_189 : decode cX12_house 189 = .ok (.ifCond .le 9, 3) := of_decide_eq_true (List.all_eq_true.mp dsX12_house_1_ok (189, (.ifCond .le 9, 3)) (List.mem_of_getElem? (i := 47) rfl))
theorem dX12_house_192 : decode cX12_house 192 = .ok (.aload_n 0, 1) := of_decide_eq_true (List.all_eq_true.mp dsX12_house_1_ok (192, (.aload_n 0, 1)) (List.mem_of_getElem? (i := 48) rfl))
theorem dX12_house_193 : decode cX12_house 193 = .ok (.iconst 1, 1) := of_decide_eq_true (List.all_eq_true.mp dsX12_house_1_ok (193, (.iconst 1, 1)) (List.mem_of_getElem? (i := 49) rfl))
theorem dX12_house_194 : decode cX12_house 194 = .ok (.invokevirtual 225, 3) := of_decide_eq_true (List.all_eq_true.mp dsX12_house_1_ok (194, (.invokevirtual 225, 3)) (List.mem_of_getElem? (i := 50) rfl))
theorem dX12_house_197 : decode cX12_house 197 = .ok (.ireturn, 1) := of_decide_eq_true (List.all_eq_true.mp dsX12_house_1_ok (197, (.ireturn, 1)) (List.mem_of_getElem? (i := 51) rfl))
theorem dX12_house_198 : decode cX12_house 198 = .ok (.aload_n 0, 1) := of_decide_eq_true (List.all_eq_true.mp dsX12_house_1_ok (198, (.aload_n 0, 1)) (List.mem_of_getElem? (i := 52) rfl))
theorem dX12_house_199 : decode cX12_house 199 = .ok (.aload_n 0, 1) := of_decide_eq_true (List.all_eq_true.mp dsX12_house_1_ok (199, (.aload_n 0, 1)) (List.mem_of_getElem? (i := 53) rfl))
theorem dX12_house_200 : decode cX12_house 200 = .ok (.getfield 106, 3) := of_decide_eq_true (List.all_eq_true.mp dsX12_house_1_ok (200, (.getfield 106, 3)) (List.mem_of_getElem? (i := 54) rfl))
theorem dX12_house_203 : decode cX12_house 203 = .ok (.putfield 51, 3) := of_decide_eq_true (List.all_eq_true.mp dsX12_house_1_ok (203, (.putfield 51, 3)) (List.mem_of_getElem? (i := 55) rfl))
theorem dX12_house_206 : decode cX12_house 206 = .ok (.aload_n 0, 1) := of_decide_eq_true (List.all_eq_true.mp dsX12_house_1_ok (206, (.aload_n 0, 1)) (List.mem_of_getElem? (i := 56) rfl))
theorem dX12_house_207 : decode cX12_house 207 = .ok (.iconst 1, 1) := of_decide_eq_true (List.all_eq_true.mp dsX12_house_1_ok (207, (.iconst 1, 1)) (List.mem_of_getElem? (i := 57) rfl))
theorem dX12_house_208 : decode cX12_house 208 = .ok (.putfield 144, 3) := of_decide_eq_true (List.all_eq_true.mp dsX12_house_1_ok (208, (.putfield 144, 3)) (List.mem_of_getElem? (i := 58) rfl))
theorem dX12_house_211 : decode cX12_house 211 = .ok (.aload_n 0, 1) := of_decide_eq_true (List.all_eq_true.mp dsX12_house_1_ok (211, (.aload_n 0, 1)) (List.mem_of_getElem? (i := 59) rfl))
def dsX12_house_2 : List (Nat × Instr × Nat) := [(212, (.invokevirtual 388, 3)), (215, (.iload_n 1, 1)), (216, (.ireturn, 1))]
theorem dsX12_house_2_ok : (dsX12_house_2.all fun q => decide (decode cX12_house q.1 = .ok q.2)) = true := by decide +kernel
theorem dX12_house_212 : decode cX12_house 212 = .ok (.invokevirtual 388, 3) := of_decide_eq_true (List.all_eq_true.mp dsX12_house_2_ok (212, (.invokevirtual 388, 3)) (List.mem_of_getElem? (i := 0) rfl))
theorem dX12_house_215 : decode cX12_house 215 = .ok (.iload_n 1, 1) := of_decide_eq_true (List.all_eq_true.mp dsX12_house_2_ok (215, (.iload_n 1, 1)) (List.mem_of_getElem? (i := 1) rfl))
theorem dX12_house_216 : decode cX12_house 216 = .ok (.ireturn, 1) := of_decide_eq_true (List.all_eq_true.mp dsX12_house_2_ok (216, (.ireturn, 1)) (List.mem_of_getElem? (i := 2) rfl))
def fX12_house_b169 (N : Nat) (mm_tapeF : Nat → Int32)   : ((Nat → Int32) × (Nat → Int64) × (Nat → Int32) × (Nat → Int32) × (Nat → Int32) × (Nat → Int32) × (Nat → Int32) × (Nat → Int32) × (Nat → Int32) × (Nat → Int32) × (Nat → Int32) × (Nat → Int32) × (Nat → Int32) × (Nat → Int32) × (Nat → Int32) × (Nat → Int32) × (Nat → Int32) × (Nat → Int32) × (Nat → Int64) × (Nat → Int64) × (Nat → Int32) × (Nat → Int32) × (Nat → Int32) × (Nat → Int32) × (Nat → Int32) × (Nat → Int32) × (Nat → Int32) × (Nat → Int32) × (Nat → Int32) × (Nat → Int32) × (Nat → Int32) × (Nat → Int32) × (Nat → Int32) × Int32) → Option (Int32 × (Nat → Int32) × (Nat → Int64) × (Nat → Int32) × (Nat → Int32) × (Nat → Int32) × (Nat → Int32) × (Nat → Int32) × (Nat → Int32) × (Nat → Int32) × (Nat → Int32) × (Nat → Int32) × (Nat → Int32) × (Nat → Int32) × (Nat → Int32) × (Nat → Int32) × (Nat → Int32) × (Nat → Int32) × (Nat → Int32) × (Nat → Int64) × (Nat → Int64) × (Nat → Int32) × (Nat → Int32) × (Nat → Int32) × (Nat → Int32) × (Nat → Int32) × (Nat → Int32) × (Nat → Int32) × (Nat → Int32) × (Nat → Int32) × (Nat → Int32) × (Nat → Int32) × (Nat → Int32) × (Nat → Int32)) :=
  fun (mmI_169, mmJ_169, mm_voiceToldF_169, mm_hushToldF_169, mm_coughToldF_169, mm_earsF_169, mm_placesF_169, mm_milesToldF_169, mm_sumFromF_169, mm_frameF_169, mm_phaseF_169, mm_beginsF_169, mm_baseF_169, mm_opsF_169, mm_codeSortF_169, mm_codeValueF_169, mm_pairF_169, mm_sumBehindF_169, mm_earNameL_169, mm_placeNameL_169, mm_placeAtF_169, mm_talkToldF_169, mm_rowToldF_169, mm_sharpOfF_169, mm_nightOfF_169, mm_mileOfF_169, mm_roundsOfF_169, mm_talkingOfF_169, mm_hushOfF_169, mm_rowOfF_169, mm_keptManyF_169, mm_talkOfF_169, mm_refusedF_169, x1_169) => (if (mmI_169 8) ≤ 0 then (xq_bd (fX12_begin N ((va_up (va_up (va_up (va_up mmI_169 10 (mmI_169 8)) 11 (mmI_169 9)) 13 (mmI_169 31)) 43 1)) mm_nightOfF_169 mm_voiceToldF_169 mm_mileOfF_169 mm_roundsOfF_169 mm_talkingOfF_169 mm_hushToldF_169 mm_hushOfF_169 mm_rowToldF_169 mm_rowOfF_169 mm_keptManyF_169 mm_talkToldF_169 mm_talkOfF_169) fun (r_1_0, r_1_1, r_1_2, r_1_3, r_1_4, r_1_5, r_1_6, r_1_7, r_1_8) => some ((x1_169, r_1_0, mmJ_169, mm_voiceToldF_169, mm_hushToldF_169, mm_coughToldF_169, mm_earsF_169, mm_placesF_169, mm_milesToldF_169, mm_sumFromF_169, mm_frameF_169, mm_phaseF_169, mm_beginsF_169, mm_baseF_169, mm_opsF_169, mm_codeSortF_169, mm_codeValueF_169, mm_pairF_169, mm_sumBehindF_169, mm_earNameL_169, mm_placeNameL_169, mm_placeAtF_169, mm_talkToldF_169, mm_rowToldF_169, mm_sharpOfF_169, r_1_1, r_1_2, r_1_3, r_1_4, r_1_5, r_1_6, r_1_7, r_1_8, mm_refusedF_169))) else (xq_bd (fX12_refuses N mm_refusedF_169 1) fun (r_3_0, r_3_1) => some ((r_3_0, (va_up (va_up mmI_169 10 (mmI_169 8)) 11 (mmI_169 9)), mmJ_169, mm_voiceToldF_169, mm_hushToldF_169, mm_coughToldF_169, mm_earsF_169, mm_placesF_169, mm_milesToldF_169, mm_sumFromF_169, mm_frameF_169, mm_phaseF_169, mm_beginsF_169, mm_baseF_169, mm_opsF_169, mm_codeSortF_169, mm_codeValueF_169, mm_pairF_169, mm_sumBehindF_169, mm_earNameL_169, mm_placeNameL_169, mm_placeAtF_169, mm_talkToldF_169, mm_rowToldF_169, mm_sharpOfF_169, mm_nightOfF_169, mm_mileOfF_169, mm_roundsOfF_169, mm_talkingOfF_169, mm_hushOfF_169, mm_rowOfF_169, mm_keptManyF_169, mm_talkOfF_169, r_3_1))))
def fX12_house_l140 (N : Nat) (mm_tapeF : Nat → Int32)  (k140 : ((Nat → Int32) × (Nat → Int64) × (Nat → Int32) × (Nat → Int32) × (Nat → Int32) × (Nat → Int32) × (Nat → Int32) × (Nat → Int32) × (Nat → Int32) × (Nat → Int32) × (Nat → Int32) × (Nat → Int32) × (Nat → Int32) × (Nat → Int32) × (Nat → Int32) × (Nat → Int32) × (Nat → Int32) × (Nat → Int32) × (Nat → Int64) × (Nat → Int64) × (Nat → Int32) × (Nat → Int32) × (Nat → Int32) × (Nat → Int32) × (Nat → Int32) × (Nat → Int32) × (Nat → Int32) × (Nat → Int32) × (Nat → Int32) × (Nat → Int32) × (Nat → Int32) × (Nat → Int32) × (Nat → Int32) × Int32) → Option (Int32 × (Nat → Int32) × (Nat → Int64) × (Nat → Int32) × (Nat → Int32) × (Nat → Int32) × (Nat → Int32) × (Nat → Int32) × (Nat → Int32) × (Nat → Int32) × (Nat → Int32) × (Nat → Int32) × (Nat → Int32) × (Nat → Int32) × (Nat → Int32) × (Nat → Int32) × (Nat → Int32) × (Nat → Int32) × (Nat → Int32) × (Nat → Int64) × (Nat → Int64) × (Nat → Int32) × (Nat → Int32) × (Nat → Int32) × (Nat → Int32) × (Nat → Int32) × (Nat → Int32) × (Nat → Int32) × (Nat → Int32) × (Nat → Int32) × (Nat → Int32) × (Nat → Int32) × (Nat → Int32) × (Nat → Int32))) : ((Nat → Int32) × (Nat → Int64) × (Nat → Int32) × (Nat → Int32) × (Nat → Int32) × (Nat → Int32) × (Nat → Int32) × (Nat → Int32) × (Nat → Int32) × (Nat → Int32) × (Nat → Int32) × (Nat → Int32) × (Nat → Int32) × (Nat → Int32) × (Nat → Int32) × (Nat → Int32) × (Nat → Int32) × (Nat → Int32) × (Nat → Int64) × (Nat → Int64) × (Nat → Int32) × (Nat → Int32) × (Nat → Int32) × (Nat → Int32) × (Nat → Int32) × (Nat → Int32) × (Nat → Int32) × (Nat → Int32) × (Nat → Int32) × (Nat → Int32) × (Nat → Int32) × (Nat → Int32) × (Nat → Int32) × Int32) → Option (Int32 × (Nat → Int32) × (Nat → Int64) × (Nat → Int32) × (Nat → Int32) × (Nat → Int32) × (Nat → Int32) × (Nat → Int32) × (Nat → Int32) × (Nat → Int32) × (Nat → Int32) × (Nat → Int32) × (Nat → Int32) × (Nat → Int32) × (Nat → Int32) × (Nat → Int32) × (Nat → Int32) × (Nat → Int32) × (Nat → Int32) × (Nat → Int64) × (Nat → Int64) × (Nat → Int32) × (Nat → Int32) × (Nat → Int32) × (Nat → Int32) × (Nat → Int32) × (Nat → Int32) × (Nat → Int32) × (Nat → Int32) × (Nat → Int32) × (Nat → Int32) × (Nat → Int32) × (Nat → Int32) × (Nat → Int32)) :=
  fun (mmI_140, mmJ_140, mm_voiceToldF_140, mm_hushToldF_140, mm_coughToldF_140, mm_earsF_140, mm_placesF_140, mm_milesToldF_140, mm_sumFromF_140, mm_frameF_140, mm_phaseF_140, mm_beginsF_140, mm_baseF_140, mm_opsF_140, mm_codeSortF_140, mm_codeValueF_140, mm_pairF_140, mm_sumBehindF_140, mm_earNameL_140, mm_placeNameL_140, mm_placeAtF_140, mm_talkToldF_140, mm_rowToldF_140, mm_sharpOfF_140, mm_nightOfF_140, mm_mileOfF_140, mm_roundsOfF_140, mm_talkingOfF_140, mm_hushOfF_140, mm_rowOfF_140, mm_keptManyF_140, mm_talkOfF_140, mm_refusedF_140, x1_140) => (if (mmI_140 8) = 0 then (if (mmI_140 3) = 0 then fX12_house_b169 N mm_tapeF (mmI_140, mmJ_140, mm_voiceToldF_140, mm_hushToldF_140, mm_coughToldF_140, mm_earsF_140, mm_placesF_140, mm_milesToldF_140, mm_sumFromF_140, mm_frameF_140, mm_phaseF_140, mm_beginsF_140, mm_baseF_140, mm_opsF_140, mm_codeSortF_140, mm_codeValueF_140, mm_pairF_140, mm_sumBehindF_140, mm_earNameL_140, mm_placeNameL_140, mm_placeAtF_140, mm_talkToldF_140, mm_rowToldF_140, mm_sharpOfF_140, mm_nightOfF_140, mm_mileOfF_140, mm_roundsOfF_140, mm_talkingOfF_140, mm_hushOfF_140, mm_rowOfF_140, mm_keptManyF_140, mm_talkOfF_140, mm_refusedF_140, x1_140) else (xq_bd (fX12_statement N mmI_140 mmJ_140 mm_sumFromF_140 mm_tapeF mm_frameF_140 mm_phaseF_140 mm_beginsF_140 mm_baseF_140 mm_opsF_140 mm_codeSortF_140 mm_codeValueF_140 mm_pairF_140 mm_sumBehindF_140 mm_placesF_140 mm_earsF_140 mm_earNameL_140 mm_placeNameL_140 mm_milesToldF_140 mm_placeAtF_140 mm_talkToldF_140 mm_rowToldF_140 mm_sharpOfF_140 mm_coughToldF_140 mm_hushToldF_140 mm_voiceToldF_140) fun (r_5_0, r_5_1, r_5_2, r_5_3, r_5_4, r_5_5, r_5_6, r_5_7, r_5_8, r_5_9, r_5_10, r_5_11, r_5_12, r_5_13, r_5_14, r_5_15, r_5_16, r_5_17, r_5_18, r_5_19, r_5_20, r_5_21, r_5_22) => (xq_bd (fX12_finishes N r_5_0 r_5_1 mm_tapeF (x1_140 + 1)) fun (r_7_0, r_7_1) => k140 (r_7_0, r_7_1, r_5_22, r_5_21, r_5_20, r_5_13, r_5_12, mm_milesToldF_140, r_5_2, r_5_3, r_5_4, r_5_5, r_5_6, r_5_7, r_5_8, r_5_9, r_5_10, r_5_11, r_5_14, r_5_15, r_5_16, r_5_17, r_5_18, r_5_19, mm_nightOfF_140, mm_mileOfF_140, mm_roundsOfF_140, mm_talkingOfF_140, mm_hushOfF_140, mm_rowOfF_140, mm_keptManyF_140, mm_talkOfF_140, mm_refusedF_140, x1_140 + 1)))) else fX12_house_b169 N mm_tapeF (mmI_140, mmJ_140, mm_voiceToldF_140, mm_hushToldF_140, mm_coughToldF_140, mm_earsF_140, mm_placesF_140, mm_milesToldF_140, mm_sumFromF_140, mm_frameF_140, mm_phaseF_140, mm_beginsF_140, mm_baseF_140, mm_opsF_140, mm_codeSortF_140, mm_codeValueF_140, mm_pairF_140, mm_sumBehindF_140, mm_earNameL_140, mm_placeNameL_140, mm_placeAtF_140, mm_talkToldF_140, mm_rowToldF_140, mm_sharpOfF_140, mm_nightOfF_140, mm_mileOfF_140, mm_roundsOfF_140, mm_talkingOfF_140, mm_hushOfF_140, mm_rowOfF_140, mm_keptManyF_140, mm_talkOfF_140, mm_refusedF_140, x1_140))
def fX12_house_l95 (N : Nat) (mm_tapeF : Nat → Int32)  (k95 : ((Nat → Int32) × (Nat → Int64) × (Nat → Int32) × (Nat → Int32) × (Nat → Int32) × (Nat → Int32) × (Nat → Int32) × (Nat → Int32) × (Nat → Int32) × (Nat → Int32) × (Nat → Int32) × (Nat → Int32) × (Nat → Int32) × (Nat → Int32) × (Nat → Int32) × (Nat → Int32) × (Nat → Int32) × (Nat → Int32) × (Nat → Int64) × (Nat → Int64) × (Nat → Int32) × (Nat → Int32) × (Nat → Int32) × (Nat → Int32) × (Nat → Int32) × (Nat → Int32) × (Nat → Int32) × (Nat → Int32) × (Nat → Int32) × (Nat → Int32) × (Nat → Int32) × (Nat → Int32) × (Nat → Int32) × Int32) → Option (Int32 × (Nat → Int32) × (Nat → Int64) × (Nat → Int32) × (Nat → Int32) × (Nat → Int32) × (Nat → Int32) × (Nat → Int32) × (Nat → Int32) × (Nat → Int32) × (Nat → Int32) × (Nat → Int32) × (Nat → Int32) × (Nat → Int32) × (Nat → Int32) × (Nat → Int32) × (Nat → Int32) × (Nat → Int32) × (Nat → Int32) × (Nat → Int64) × (Nat → Int64) × (Nat → Int32) × (Nat → Int32) × (Nat → Int32) × (Nat → Int32) × (Nat → Int32) × (Nat → Int32) × (Nat → Int32) × (Nat → Int32) × (Nat → Int32) × (Nat → Int32) × (Nat → Int32) × (Nat → Int32) × (Nat → Int32))) : ((Nat → Int32) × (Nat → Int64) × (Nat → Int32) × (Nat → Int32) × (Nat → Int32) × (Nat → Int32) × (Nat → Int32) × (Nat → Int32) × (Nat → Int32) × (Nat → Int32) × (Nat → Int32) × (Nat → Int32) × (Nat → Int32) × (Nat → Int32) × (Nat → Int32) × (Nat → Int32) × (Nat → Int32) × (Nat → Int32) × (Nat → Int64) × (Nat → Int64) × (Nat → Int32) × (Nat → Int32) × (Nat → Int32) × (Nat → Int32) × (Nat → Int32) × (Nat → Int32) × (Nat → Int32) × (Nat → Int32) × (Nat → Int32) × (Nat → Int32) × (Nat → Int32) × (Nat → Int32) × (Nat → Int32) × Int32) → Option (Int32 × (Nat → Int32) × (Nat → Int64) × (Nat → Int32) × (Nat → Int32) × (Nat → Int32) × (Nat → Int32) × (Nat → Int32) × (Nat → Int32) × (Nat → Int32) × (Nat → Int32) × (Nat → Int32) × (Nat → Int32) × (Nat → Int32) × (Nat → Int32) × (Nat → Int32) × (Nat → Int32) × (Nat → Int32) × (Nat → Int32) × (Nat → Int64) × (Nat → Int64) × (Nat → Int32) × (Nat → Int32) × (Nat → Int32) × (Nat → Int32) × (Nat → Int32) × (Nat → Int32) × (Nat → Int32) × (Nat → Int32) × (Nat → Int32) × (Nat → Int32) × (Nat → Int32) × (Nat → Int32) × (Nat → Int32)) :=
  fun (mmI_95, mmJ_95, mm_voiceToldF_95, mm_hushToldF_95, mm_coughToldF_95, mm_earsF_95, mm_placesF_95, mm_milesToldF_95, mm_sumFromF_95, mm_frameF_95, mm_phaseF_95, mm_beginsF_95, mm_baseF_95, mm_opsF_95, mm_codeSortF_95, mm_codeValueF_95, mm_pairF_95, mm_sumBehindF_95, mm_earNameL_95, mm_placeNameL_95, mm_placeAtF_95, mm_talkToldF_95, mm_rowToldF_95, mm_sharpOfF_95, mm_nightOfF_95, mm_mileOfF_95, mm_roundsOfF_95, mm_talkingOfF_95, mm_hushOfF_95, mm_rowOfF_95, mm_keptManyF_95, mm_talkOfF_95, mm_refusedF_95, x1_95) => (if ((3 * (mmI_95 31)) + 3) ≤ x1_95 then (xq_bd (fX12_ahead N ((va_up mmI_95 30 0)) mmJ_95 mm_tapeF) fun (r_9_0, r_9_1) => (xq_bd (fX12_rounding N r_9_0 r_9_1 mm_tapeF mm_milesToldF_95) fun (r_11_0, r_11_1, r_11_2) => (xq_bd (fX12_finishes N r_11_0 r_11_1 mm_tapeF 1) fun (r_13_0, r_13_1) => xq_loop (fX12_house_l140 N mm_tapeF) N (r_13_0, r_13_1, mm_voiceToldF_95, mm_hushToldF_95, mm_coughToldF_95, mm_earsF_95, mm_placesF_95, r_11_2, mm_sumFromF_95, mm_frameF_95, mm_phaseF_95, mm_beginsF_95, mm_baseF_95, mm_opsF_95, mm_codeSortF_95, mm_codeValueF_95, mm_pairF_95, mm_sumBehindF_95, mm_earNameL_95, mm_placeNameL_95, mm_placeAtF_95, mm_talkToldF_95, mm_rowToldF_95, mm_sharpOfF_95, mm_nightOfF_95, mm_mileOfF_95, mm_roundsOfF_95, mm_talkingOfF_95, mm_hushOfF_95, mm_rowOfF_95, mm_keptManyF_95, mm_talkOfF_95, mm_refusedF_95, 1)))) else (xq_bd (xq_ast 6 mm_sumFromF_95 x1_95 ((-1))) fun g_15 => k95 (mmI_95, mmJ_95, mm_voiceToldF_95, mm_hushToldF_95, mm_coughToldF_95, mm_earsF_95, mm_placesF_95, mm_milesToldF_95, g_15, mm_frameF_95, mm_phaseF_95, mm_beginsF_95, mm_baseF_95, mm_opsF_95, mm_codeSortF_95, mm_codeValueF_95, mm_pairF_95, mm_sumBehindF_95, mm_earNameL_95, mm_placeNameL_95, mm_placeAtF_95, mm_talkToldF_95, mm_rowToldF_95, mm_sharpOfF_95, mm_nightOfF_95, mm_mileOfF_95, mm_roundsOfF_95, mm_talkingOfF_95, mm_hushOfF_95, mm_rowOfF_95, mm_keptManyF_95, mm_talkOfF_95, mm_refusedF_95, x1_95 + 1)))
def fX12_house (N : Nat) (mmI : Nat → Int32) (mmJ : Nat → Int64) (mm_voiceToldF : Nat → Int32) (mm_hushToldF : Nat → Int32) (mm_coughToldF : Nat → Int32) (mm_earsF : Nat → Int32) (mm_placesF : Nat → Int32) (mm_tapeF : Nat → Int32) (mm_milesToldF : Nat → Int32) (mm_sumFromF : Nat → Int32) (mm_frameF : Nat → Int32) (mm_phaseF : Nat → Int32) (mm_beginsF : Nat → Int32) (mm_baseF : Nat → Int32) (mm_opsF : Nat → Int32) (mm_codeSortF : Nat → Int32) (mm_codeValueF : Nat → Int32) (mm_pairF : Nat → Int32) (mm_sumBehindF : Nat → Int32) (mm_earNameL : Nat → Int64) (mm_placeNameL : Nat → Int64) (mm_placeAtF : Nat → Int32) (mm_talkToldF : Nat → Int32) (mm_rowToldF : Nat → Int32) (mm_sharpOfF : Nat → Int32) (mm_nightOfF : Nat → Int32) (mm_mileOfF : Nat → Int32) (mm_roundsOfF : Nat → Int32) (mm_talkingOfF : Nat → Int32) (mm_hushOfF : Nat → Int32) (mm_rowOfF : Nat → Int32) (mm_keptManyF : Nat → Int32) (mm_talkOfF : Nat → Int32) (mm_refusedF : Nat → Int32)   : Option (Int32 × (Nat → Int32) × (Nat → Int64) × (Nat → Int32) × (Nat → Int32) × (Nat → Int32) × (Nat → Int32) × (Nat → Int32) × (Nat → Int32) × (Nat → Int32) × (Nat → Int32) × (Nat → Int32) × (Nat → Int32) × (Nat → Int32) × (Nat → Int32) × (Nat → Int32) × (Nat → Int32) × (Nat → Int32) × (Nat → Int32) × (Nat → Int64) × (Nat → Int64) × (Nat → Int32) × (Nat → Int32) × (Nat → Int32) × (Nat → Int32) × (Nat → Int32) × (Nat → Int32) × (Nat → Int32) × (Nat → Int32) × (Nat → Int32) × (Nat → Int32) × (Nat → Int32) × (Nat → Int32) × (Nat → Int32)) :=
  (xq_bd (xq_ast 2 mm_voiceToldF (1 - (mmI 13)) 0) fun g_1 => (xq_bd (xq_ast 2 mm_hushToldF (1 - (mmI 13)) 0) fun g_2 => (xq_bd (xq_ast 2 mm_coughToldF (1 - (mmI 13)) 0) fun g_3 => (xq_bd (xq_ast 2 mm_earsF (1 - (mmI 13)) 0) fun g_4 => (xq_bd (xq_ast 2 mm_placesF (1 - (mmI 13)) 0) fun g_5 => xq_loop (fX12_house_l95 N mm_tapeF) N ((va_up (va_up (va_up (va_up (va_up (va_up mmI 2 (mmI 1)) 1 0) 5 0) 8 0) 9 ((-1))) 31 (1 - (mmI 13))), mmJ, g_1, g_2, g_3, g_4, g_5, mm_milesToldF, mm_sumFromF, mm_frameF, mm_phaseF, mm_beginsF, mm_baseF, mm_opsF, mm_codeSortF, mm_codeValueF, mm_pairF, mm_sumBehindF, mm_earNameL, mm_placeNameL, mm_placeAtF, mm_talkToldF, mm_rowToldF, mm_sharpOfF, mm_nightOfF, mm_mileOfF, mm_roundsOfF, mm_talkingOfF, mm_hushOfF, mm_rowOfF, mm_keptManyF, mm_talkOfF, mm_refusedF, 3 * (1 - (mmI 13))))))))
set_option maxHeartbeats 4000000 in
set_option maxRecDepth 100000 in
theorem kX12_house (l : Launch) (dC : Nat → ClassId) (dI : Nat → Nat → Nat) (cI cB cJ cZ cM : ClassId) (z : Nat) (ad : Nat → Nat) (N : Nat) (a_p0 : Nat) (mmI : Nat → Int32) (mmJ : Nat → Int64) (mmR : Nat → Nat) (mm_voiceToldF : Nat → Int32) (mm_hushToldF : Nat → Int32) (mm_coughToldF : Nat → Int32) (mm_earsF : Nat → Int32) (mm_placesF : Nat → Int32) (mm_tapeF : Nat → Int32) (mm_milesToldF : Nat → Int32) (mm_sumFromF : Nat → Int32) (mm_frameF : Nat → Int32) (mm_phaseF : Nat → Int32) (mm_beginsF : Nat → Int32) (mm_baseF : Nat → Int32) (mm_opsF : Nat → Int32) (mm_codeSortF : Nat → Int32) (mm_codeValueF : Nat → Int32) (mm_pairF : Nat → Int32) (mm_sumBehindF : Nat → Int32) (mm_earNameL : Nat → Int64) (mm_placeNameL : Nat → Int64) (mm_placeAtF : Nat → Int32) (mm_talkToldF : Nat → Int32) (mm_rowToldF : Nat → Int32) (mm_sharpOfF : Nat → Int32) (mm_nightOfF : Nat → Int32) (mm_mileOfF : Nat → Int32) (mm_roundsOfF : Nat → Int32) (mm_talkingOfF : Nat → Int32) (mm_hushOfF : Nat → Int32) (mm_rowOfF : Nat → Int32) (mm_keptManyF : Nat → Int32) (mm_talkOfF : Nat → Int32) (mm_refusedF : Nat → Int32) {r0 : Int32} {r1 : Nat → Int32} {r2 : Nat → Int64} {r3 : Nat → Int32} {r4 : Nat → Int32} {r5 : Nat → Int32} {r6 : Nat → Int32} {r7 : Nat → Int32} {r8 : Nat → Int32} {r9 : Nat → Int32} {r10 : Nat → Int32} {r11 : Nat → Int32} {r12 : Nat → Int32} {r13 : Nat → Int32} {r14 : Nat → Int32} {r15 : Nat → Int32} {r16 : Nat → Int32} {r17 : Nat → Int32} {r18 : Nat → Int32} {r19 : Nat → Int64} {r20 : Nat → Int64} {r21 : Nat → Int32} {r22 : Nat → Int32} {r23 : Nat → Int32} {r24 : Nat → Int32} {r25 : Nat → Int32} {r26 : Nat → Int32} {r27 : Nat → Int32} {r28 : Nat → Int32} {r29 : Nat → Int32} {r30 : Nat → Int32} {r31 : Nat → Int32} {r32 : Nat → Int32} {r33 : Nat → Int32} (hf : fX12_house N mmI mmJ mm_voiceToldF mm_hushToldF mm_coughToldF mm_earsF mm_placesF mm_tapeF mm_milesToldF mm_sumFromF mm_frameF mm_phaseF mm_beginsF mm_baseF mm_opsF mm_codeSortF mm_codeValueF mm_pairF mm_sumBehindF mm_earNameL mm_placeNameL mm_placeAtF mm_talkToldF mm_rowToldF mm_sharpOfF mm_nightOfF mm_mileOfF mm_roundsOfF mm_talkingOfF mm_hushOfF mm_rowOfF mm_keptManyF mm_talkOfF mm_refusedF = some (r0, r1, r2, r3, r4, r5, r6, r7, r8, r9, r10, r11, r12, r13, r14, r15, r16, r17, r18, r19, r20, r21, r22, r23, r24, r25, r26, r27, r28, r29, r30, r31, r32, r33)) : xq_Ct l yX12_house wsX12_house { frames := 7, cells := 0, slots := 0, locals := 153 } (dC, dI) vwCl (xq_tys cI cB cJ cZ cM) z ad [.ref a_p0] [(a_p0, .inr (12, oX12 mmI mmJ mmR)), ((mmR 15), .inl (cI, 2, .inl mm_voiceToldF)), ((mmR 16), .inl (cI, 2, .inl mm_hushToldF)), ((mmR 17), .inl (cI, 2, .inl mm_coughToldF)), ((mmR 18), .inl (cI, 2, .inl mm_earsF)), ((mmR 21), .inl (cI, 2, .inl mm_placesF)), ((mmR 0), .inl (cI, 1800, .inl mm_tapeF)), ((mmR 14), .inl (cI, 2, .inl mm_milesToldF)), ((mmR 24), .inl (cI, 6, .inl mm_sumFromF)), ((mmR 33), .inl (cI, 20, .inl mm_frameF)), ((mmR 34), .inl (cI, 20, .inl mm_phaseF)), ((mmR 35), .inl (cZ, 20, .inl mm_beginsF)), ((mmR 37), .inl (cI, 20, .inl mm_baseF)), ((mmR 40), .inl (cI, 500, .inl mm_opsF)), ((mmR 26), .inl (cI, 3200, .inl mm_codeSortF)), ((mmR 27), .inl (cI, 3200, .inl mm_codeValueF)), ((mmR 36), .inl (cI, 20, .inl mm_pairF)), ((mmR 25), .inl (cI, 6, .inl mm_sumBehindF)), ((mmR 28), .inl (cJ, 14, .inr (.inl mm_earNameL))), ((mmR 29), .inl (cJ, 12, .inr (.inl mm_placeNameL))), ((mmR 22), .inl (cI, 12, .inl mm_placeAtF)), ((mmR 23), .inl (cI, 12, .inl mm_talkToldF)), ((mmR 19), .inl (cI, 14, .inl mm_rowToldF)), ((mmR 20), .inl (cI, 14, .inl mm_sharpOfF)), ((mmR 45), .inl (cI, 22, .inl mm_nightOfF)), ((mmR 46), .inl (cI, 22, .inl mm_mileOfF)), ((mmR 47), .inl (cI, 22, .inl mm_roundsOfF)), ((mmR 48), .inl (cI, 22, .inl mm_talkingOfF)), ((mmR 49), .inl (cI, 22, .inl mm_hushOfF)), ((mmR 50), .inl (cI, 154, .inl mm_rowOfF)), ((mmR 52), .inl (cI, 22, .inl mm_keptManyF)), ((mmR 51), .inl (cI, 132, .inl mm_talkOfF)), ((mmR 44), .inl (cI, 6, .inl mm_refusedF))] [(a_p0, .inr (12, oX12 r1 r2 mmR)), ((mmR 15), .inl (cI, 2, .inl r3)), ((mmR 16), .inl (cI, 2, .inl r4)), ((mmR 17), .inl (cI, 2, .inl r5)), ((mmR 18), .inl (cI, 2, .inl r6)), ((mmR 21), .inl (cI, 2, .inl r7)), ((mmR 0), .inl (cI, 1800, .inl mm_tapeF)), ((mmR 14), .inl (cI, 2, .inl r8)), ((mmR 24), .inl (cI, 6, .inl r9)), ((mmR 33), .inl (cI, 20, .inl r10)), ((mmR 34), .inl (cI, 20, .inl r11)), ((mmR 35), .inl (cZ, 20, .inl r12)), ((mmR 37), .inl (cI, 20, .inl r13)), ((mmR 40), .inl (cI, 500, .inl r14)), ((mmR 26), .inl (cI, 3200, .inl r15)), ((mmR 27), .inl (cI, 3200, .inl r16)), ((mmR 36), .inl (cI, 20, .inl r17)), ((mmR 25), .inl (cI, 6, .inl r18)), ((mmR 28), .inl (cJ, 14, .inr (.inl r19))), ((mmR 29), .inl (cJ, 12, .inr (.inl r20))), ((mmR 22), .inl (cI, 12, .inl r21)), ((mmR 23), .inl (cI, 12, .inl r22)), ((mmR 19), .inl (cI, 14, .inl r23)), ((mmR 20), .inl (cI, 14, .inl r24)), ((mmR 45), .inl (cI, 22, .inl r25)), ((mmR 46), .inl (cI, 22, .inl r26)), ((mmR 47), .inl (cI, 22, .inl r27)), ((mmR 48), .inl (cI, 22, .inl r28)), ((mmR 49), .inl (cI, 22, .inl r29)), ((mmR 50), .inl (cI, 154, .inl r30)), ((mmR 52), .inl (cI, 22, .inl r31)), ((mmR 51), .inl (cI, 132, .inl r32)), ((mmR 44), .inl (cI, 6, .inl r33))] (some (.int r0)) := by
  intro sz
  refine Met.ofW (cc := cX12_house) (maxL := 2) (ret := (some .int)) (by decide) rfl ?_
  intro p e s m args below meth c s₁ B hml hv
  obtain ⟨rfl, hsz, hP, hK, hD0, hE, hz⟩ := hv
  have hx := B.exec
  have hb := B.bytes
  have hr := B.returns
  have hts := atoms_spec (ws := wsX12_house) B.pre
  have hown : s.vm.findClass RX12 = some m.cls := findClass_of_methodNamed B.named
  have hlocks := B.notSynchronized
  subst hsz
  have hD := hD0.self (sz := s.heap.size)
  have hN := xq_Env.of hE hz hD0
  generalize hAe : va_A [(a_p0, .inr (12, oX12 mmI mmJ mmR)), ((mmR 15), .inl (cI, 2, .inl mm_voiceToldF)), ((mmR 16), .inl (cI, 2, .inl mm_hushToldF)), ((mmR 17), .inl (cI, 2, .inl mm_coughToldF)), ((mmR 18), .inl (cI, 2, .inl mm_earsF)), ((mmR 21), .inl (cI, 2, .inl mm_placesF)), ((mmR 0), .inl (cI, 1800, .inl mm_tapeF)), ((mmR 14), .inl (cI, 2, .inl mm_milesToldF)), ((mmR 24), .inl (cI, 6, .inl mm_sumFromF)), ((mmR 33), .inl (cI, 20, .inl mm_frameF)), ((mmR 34), .inl (cI, 20, .inl mm_phaseF)), ((mmR 35), .inl (cZ, 20, .inl mm_beginsF)), ((mmR 37), .inl (cI, 20, .inl mm_baseF)), ((mmR 40), .inl (cI, 500, .inl mm_opsF)), ((mmR 26), .inl (cI, 3200, .inl mm_codeSortF)), ((mmR 27), .inl (cI, 3200, .inl mm_codeValueF)), ((mmR 36), .inl (cI, 20, .inl mm_pairF)), ((mmR 25), .inl (cI, 6, .inl mm_sumBehindF)), ((mmR 28), .inl (cJ, 14, .inr (.inl mm_earNameL))), ((mmR 29), .inl (cJ, 12, .inr (.inl mm_placeNameL))), ((mmR 22), .inl (cI, 12, .inl mm_placeAtF)), ((mmR 23), .inl (cI, 12, .inl mm_talkToldF)), ((mmR 19), .inl (cI, 14, .inl mm_rowToldF)), ((mmR 20), .inl (cI, 14, .inl mm_sharpOfF)), ((mmR 45), .inl (cI, 22, .inl mm_nightOfF)), ((mmR 46), .inl (cI, 22, .inl mm_mileOfF)), ((mmR 47), .inl (cI, 22, .inl mm_roundsOfF)), ((mmR 48), .inl (cI, 22, .inl mm_talkingOfF)), ((mmR 49), .inl (cI, 22, .inl mm_hushOfF)), ((mmR 50), .inl (cI, 154, .inl mm_rowOfF)), ((mmR 52), .inl (cI, 22, .inl mm_keptManyF)), ((mmR 51), .inl (cI, 132, .inl mm_talkOfF)), ((mmR 44), .inl (cI, 6, .inl mm_refusedF))] s.heap.size = A at hD hN ⊢
  have hA : ∀ q : Nat, s.heap.size ≤ q → A q := fun q h => by rw [← hAe]; exact Or.inr h
  clear hAe hD0
  have hS : va_S A s.heap s.heap [] := va_S.rf
  have hl := lv_entry ([.ref a_p0]) (n := 2) (Nat.le_of_ble_eq_true rfl)
  rw [lg_entry_eq]
  generalize (lg_sl ([.ref a_p0]) ++ List.replicate (2 - (lg_sl ([.ref a_p0])).length) Slot.unset).toArray = ls at hl ⊢
  have hl : lv_has ls 2 [(0, .ref a_p0)] := hl
  have hw0 := hts (.fieldLink RX12 13 "DistantVoiceModel" "taped" "I") (by decide +kernel)
  have hinX12 : ∀ w ∈ wsX120, w ∈ wsX12_house := fun w h => List.mem_cons_of_mem _ (List.mem_append_right _ h)
  have hw2 := hts (.fieldLink RX12 17 "DistantVoiceModel" "size" "I") (by decide +kernel)
  have hw3 := hts (.fieldLink RX12 26 "DistantVoiceModel" "signEnd" "I") (by decide +kernel)
  have hw4 := hts (.fieldLink RX12 36 "DistantVoiceModel" "faultKind" "I") (by decide +kernel)
  have hw5 := hts (.fieldLink RX12 39 "DistantVoiceModel" "faultPlace" "I") (by decide +kernel)
  have hw6 := hts (.fieldLink RX12 51 "DistantVoiceModel" "bank" "I") (by decide +kernel)
  have hw7 := hts (.fieldLink RX12 106 "DistantVoiceModel" "in" "I") (by decide +kernel)
  have hw8 := hts (.fieldLink RX12 57 "DistantVoiceModel" "voiceTold" "[I") (by decide +kernel)
  have hw9 := hts (.fieldLink RX12 60 "DistantVoiceModel" "hushTold" "[I") (by decide +kernel)
  have hw10 := hts (.fieldLink RX12 63 "DistantVoiceModel" "coughTold" "[I") (by decide +kernel)
  have hw11 := hts (.fieldLink RX12 66 "DistantVoiceModel" "ears" "[I") (by decide +kernel)
  have hw12 := hts (.fieldLink RX12 75 "DistantVoiceModel" "places" "[I") (by decide +kernel)
  have hw13 := hts (.fieldLink RX12 103 "DistantVoiceModel" "codes" "I") (by decide +kernel)
  have hw14 := hts (.fieldLink RX12 84 "DistantVoiceModel" "sumFrom" "[I") (by decide +kernel)
  have hw15 := hts (.fieldLink RX12 20 "DistantVoiceModel" "sign" "I") (by decide +kernel)
  have hw16 := hts (.fieldLink RX12 42 "DistantVoiceModel" "toldKind" "I") (by decide +kernel)
  have hw17 := hts (.fieldLink RX12 45 "DistantVoiceModel" "toldPlace" "I") (by decide +kernel)
  have hw18 := hts (.fieldLink RX12 144 "DistantVoiceModel" "isHouse" "Z") (by decide +kernel)
  have b169 : ∀ (mmI_169 : Nat → Int32) (mmJ_169 : Nat → Int64) (mm_voiceToldF_169 : Nat → Int32) (mm_hushToldF_169 : Nat → Int32) (mm_coughToldF_169 : Nat → Int32) (mm_earsF_169 : Nat → Int32) (mm_placesF_169 : Nat → Int32) (mm_milesToldF_169 : Nat → Int32) (mm_sumFromF_169 : Nat → Int32) (mm_frameF_169 : Nat → Int32) (mm_phaseF_169 : Nat → Int32) (mm_beginsF_169 : Nat → Int32) (mm_baseF_169 : Nat → Int32) (mm_opsF_169 : Nat → Int32) (mm_codeSortF_169 : Nat → Int32) (mm_codeValueF_169 : Nat → Int32) (mm_pairF_169 : Nat → Int32) (mm_sumBehindF_169 : Nat → Int32) (mm_earNameL_169 : Nat → Int64) (mm_placeNameL_169 : Nat → Int64) (mm_placeAtF_169 : Nat → Int32) (mm_talkToldF_169 : Nat → Int32) (mm_rowToldF_169 : Nat → Int32) (mm_sharpOfF_169 : Nat → Int32) (mm_nightOfF_169 : Nat → Int32) (mm_mileOfF_169 : Nat → Int32) (mm_roundsOfF_169 : Nat → Int32) (mm_talkingOfF_169 : Nat → Int32) (mm_hushOfF_169 : Nat → Int32) (mm_rowOfF_169 : Nat → Int32) (mm_keptManyF_169 : Nat → Int32) (mm_talkOfF_169 : Nat → Int32) (mm_refusedF_169 : Nat → Int32) (x1_169 : Int32) (ls : Array Slot) (H : Heap) (locs : List Loc), fX12_house_b169 N mm_tapeF (mmI_169, mmJ_169, mm_voiceToldF_169, mm_hushToldF_169, mm_coughToldF_169, mm_earsF_169, mm_placesF_169, mm_milesToldF_169, mm_sumFromF_169, mm_frameF_169, mm_phaseF_169, mm_beginsF_169, mm_baseF_169, mm_opsF_169, mm_codeSortF_169, mm_codeValueF_169, mm_pairF_169, mm_sumBehindF_169, mm_earNameL_169, mm_placeNameL_169, mm_placeAtF_169, mm_talkToldF_169, mm_rowToldF_169, mm_sharpOfF_169, mm_nightOfF_169, mm_mileOfF_169, mm_roundsOfF_169, mm_talkingOfF_169, mm_hushOfF_169, mm_rowOfF_169, mm_keptManyF_169, mm_talkOfF_169, mm_refusedF_169, x1_169) = some (r0, r1, r2, r3, r4, r5, r6, r7, r8, r9, r10, r11, r12, r13, r14, r15, r16, r17, r18, r19, r20, r21, r22, r23, r24, r25, r26, r27, r28, r29, r30, r31, r32, r33) → va_P (dC, dI) vwCl [(a_p0, .inr (12, oX12 mmI_169 mmJ_169 mmR)), ((mmR 15), .inl (cI, 2, .inl mm_voiceToldF_169)), ((mmR 16), .inl (cI, 2, .inl mm_hushToldF_169)), ((mmR 17), .inl (cI, 2, .inl mm_coughToldF_169)), ((mmR 18), .inl (cI, 2, .inl mm_earsF_169)), ((mmR 21), .inl (cI, 2, .inl mm_placesF_169)), ((mmR 0), .inl (cI, 1800, .inl mm_tapeF)), ((mmR 14), .inl (cI, 2, .inl mm_milesToldF_169)), ((mmR 24), .inl (cI, 6, .inl mm_sumFromF_169)), ((mmR 33), .inl (cI, 20, .inl mm_frameF_169)), ((mmR 34), .inl (cI, 20, .inl mm_phaseF_169)), ((mmR 35), .inl (cZ, 20, .inl mm_beginsF_169)), ((mmR 37), .inl (cI, 20, .inl mm_baseF_169)), ((mmR 40), .inl (cI, 500, .inl mm_opsF_169)), ((mmR 26), .inl (cI, 3200, .inl mm_codeSortF_169)), ((mmR 27), .inl (cI, 3200, .inl mm_codeValueF_169)), ((mmR 36), .inl (cI, 20, .inl mm_pairF_169)), ((mmR 25), .inl (cI, 6, .inl mm_sumBehindF_169)), ((mmR 28), .inl (cJ, 14, .inr (.inl mm_earNameL_169))), ((mmR 29), .inl (cJ, 12, .inr (.inl mm_placeNameL_169))), ((mmR 22), .inl (cI, 12, .inl mm_placeAtF_169)), ((mmR 23), .inl (cI, 12, .inl mm_talkToldF_169)), ((mmR 19), .inl (cI, 14, .inl mm_rowToldF_169)), ((mmR 20), .inl (cI, 14, .inl mm_sharpOfF_169)), ((mmR 45), .inl (cI, 22, .inl mm_nightOfF_169)), ((mmR 46), .inl (cI, 22, .inl mm_mileOfF_169)), ((mmR 47), .inl (cI, 22, .inl mm_roundsOfF_169)), ((mmR 48), .inl (cI, 22, .inl mm_talkingOfF_169)), ((mmR 49), .inl (cI, 22, .inl mm_hushOfF_169)), ((mmR 50), .inl (cI, 154, .inl mm_rowOfF_169)), ((mmR 52), .inl (cI, 22, .inl mm_keptManyF_169)), ((mmR 51), .inl (cI, 132, .inl mm_talkOfF_169)), ((mmR 44), .inl (cI, 6, .inl mm_refusedF_169))] H → va_D A [(a_p0, .inr (12, oX12 mmI_169 mmJ_169 mmR)), ((mmR 15), .inl (cI, 2, .inl mm_voiceToldF_169)), ((mmR 16), .inl (cI, 2, .inl mm_hushToldF_169)), ((mmR 17), .inl (cI, 2, .inl mm_coughToldF_169)), ((mmR 18), .inl (cI, 2, .inl mm_earsF_169)), ((mmR 21), .inl (cI, 2, .inl mm_placesF_169)), ((mmR 0), .inl (cI, 1800, .inl mm_tapeF)), ((mmR 14), .inl (cI, 2, .inl mm_milesToldF_169)), ((mmR 24), .inl (cI, 6, .inl mm_sumFromF_169)), ((mmR 33), .inl (cI, 20, .inl mm_frameF_169)), ((mmR 34), .inl (cI, 20, .inl mm_phaseF_169)), ((mmR 35), .inl (cZ, 20, .inl mm_beginsF_169)), ((mmR 37), .inl (cI, 20, .inl mm_baseF_169)), ((mmR 40), .inl (cI, 500, .inl mm_opsF_169)), ((mmR 26), .inl (cI, 3200, .inl mm_codeSortF_169)), ((mmR 27), .inl (cI, 3200, .inl mm_codeValueF_169)), ((mmR 36), .inl (cI, 20, .inl mm_pairF_169)), ((mmR 25), .inl (cI, 6, .inl mm_sumBehindF_169)), ((mmR 28), .inl (cJ, 14, .inr (.inl mm_earNameL_169))), ((mmR 29), .inl (cJ, 12, .inr (.inl mm_placeNameL_169))), ((mmR 22), .inl (cI, 12, .inl mm_placeAtF_169)), ((mmR 23), .inl (cI, 12, .inl mm_talkToldF_169)), ((mmR 19), .inl (cI, 14, .inl mm_rowToldF_169)), ((mmR 20), .inl (cI, 14, .inl mm_sharpOfF_169)), ((mmR 45), .inl (cI, 22, .inl mm_nightOfF_169)), ((mmR 46), .inl (cI, 22, .inl mm_mileOfF_169)), ((mmR 47), .inl (cI, 22, .inl mm_roundsOfF_169)), ((mmR 48), .inl (cI, 22, .inl mm_talkingOfF_169)), ((mmR 49), .inl (cI, 22, .inl mm_hushOfF_169)), ((mmR 50), .inl (cI, 154, .inl mm_rowOfF_169)), ((mmR 52), .inl (cI, 22, .inl mm_keptManyF_169)), ((mmR 51), .inl (cI, 132, .inl mm_talkOfF_169)), ((mmR 44), .inl (cI, 6, .inl mm_refusedF_169))] → va_S A s.heap H locs → lv_has ls 2 [(0, .ref a_p0), (1, .int x1_169)] → W p l e (headSpec wsX12_house { frames := 7, cells := 0, slots := 0, locals := 153 }).room s m [.ref a_p0].toArray below meth c H locs 0 0 (MQ below (xq_Q (dC, dI) vwCl (xq_tys cI cB cJ cZ cM) A [(a_p0, .inr (12, oX12 r1 r2 mmR)), ((mmR 15), .inl (cI, 2, .inl r3)), ((mmR 16), .inl (cI, 2, .inl r4)), ((mmR 17), .inl (cI, 2, .inl r5)), ((mmR 18), .inl (cI, 2, .inl r6)), ((mmR 21), .inl (cI, 2, .inl r7)), ((mmR 0), .inl (cI, 1800, .inl mm_tapeF)), ((mmR 14), .inl (cI, 2, .inl r8)), ((mmR 24), .inl (cI, 6, .inl r9)), ((mmR 33), .inl (cI, 20, .inl r10)), ((mmR 34), .inl (cI, 20, .inl r11)), ((mmR 35), .inl (cZ, 20, .inl r12)), ((mmR 37), .inl (cI, 20, .inl r13)), ((mmR 40), .inl (cI, 500, .inl r14)), ((mmR 26), .inl (cI, 3200, .inl r15)), ((mmR 27), .inl (cI, 3200, .inl r16)), ((mmR 36), .inl (cI, 20, .inl r17)), ((mmR 25), .inl (cI, 6, .inl r18)), ((mmR 28), .inl (cJ, 14, .inr (.inl r19))), ((mmR 29), .inl (cJ, 12, .inr (.inl r20))), ((mmR 22), .inl (cI, 12, .inl r21)), ((mmR 23), .inl (cI, 12, .inl r22)), ((mmR 19), .inl (cI, 14, .inl r23)), ((mmR 20), .inl (cI, 14, .inl r24)), ((mmR 45), .inl (cI, 22, .inl r25)), ((mmR 46), .inl (cI, 22, .inl r26)), ((mmR 47), .inl (cI, 22, .inl r27)), ((mmR 48), .inl (cI, 22, .inl r28)), ((mmR 49), .inl (cI, 22, .inl r29)), ((mmR 50), .inl (cI, 154, .inl r30)), ((mmR 52), .inl (cI, 22, .inl r31)), ((mmR 51), .inl (cI, 132, .inl r32)), ((mmR 44), .inl (cI, 6, .inl r33))] (some (.int r0))) [.ref a_p0].toArray s 0 0 A) (F0 m 169 ls []) := by
    intro mmI_169 mmJ_169 mm_voiceToldF_169 mm_hushToldF_169 mm_coughToldF_169 mm_earsF_169 mm_placesF_169 mm_milesToldF_169 mm_sumFromF_169 mm_frameF_169 mm_phaseF_169 mm_beginsF_169 mm_baseF_169 mm_opsF_169 mm_codeSortF_169 mm_codeValueF_169 mm_pairF_169 mm_sumBehindF_169 mm_earNameL_169 mm_placeNameL_169 mm_placeAtF_169 mm_talkToldF_169 mm_rowToldF_169 mm_sharpOfF_169 mm_nightOfF_169 mm_mileOfF_169 mm_roundsOfF_169 mm_talkingOfF_169 mm_hushOfF_169 mm_rowOfF_169 mm_keptManyF_169 mm_talkOfF_169 mm_refusedF_169 x1_169 ls H locs hf hP hD hS hl
    unfold fX12_house_b169 at hf
    refine lv_aload_n hx hb dX12_house_169 rfl (lv_at hl 0 rfl) ?_
    refine lv_aload_n hx hb dX12_house_170 rfl (lv_at hl 0 rfl) ?_
    refine va_get (D := (dC, dI)) (ci := 12) (v := .int (mmI_169 8)) (C := RX12) (T := TX12) (N := 70) hx hb hts hinX12 hown hK hP 0 rfl rfl 8 (by decide) hw4 (fun _ h9 => h9) rfl dX12_house_171 ?_
    refine va_put (D := (dC, dI)) (ci := 12) (v := .int (mmI_169 8)) (ty := .int) (C := RX12) (T := TX12) (N := 70) hx hb hts hinX12 tyX12 tyX12_ok nmX12 hown hK hP hD hS 0 rfl rfl 10 (by decide) hw16 (fun _ h9 => h9) rfl (by decide +kernel) rfl rfl (Nat.le_of_ble_eq_true rfl) dX12_house_174 (fun H locs hP hD hS => ?_)
    have hP : va_P (dC, dI) vwCl [(a_p0, .inr (12, oX12 (va_up mmI_169 10 (mmI_169 8)) mmJ_169 mmR)), ((mmR 15), .inl (cI, 2, .inl mm_voiceToldF_169)), ((mmR 16), .inl (cI, 2, .inl mm_hushToldF_169)), ((mmR 17), .inl (cI, 2, .inl mm_coughToldF_169)), ((mmR 18), .inl (cI, 2, .inl mm_earsF_169)), ((mmR 21), .inl (cI, 2, .inl mm_placesF_169)), ((mmR 0), .inl (cI, 1800, .inl mm_tapeF)), ((mmR 14), .inl (cI, 2, .inl mm_milesToldF_169)), ((mmR 24), .inl (cI, 6, .inl mm_sumFromF_169)), ((mmR 33), .inl (cI, 20, .inl mm_frameF_169)), ((mmR 34), .inl (cI, 20, .inl mm_phaseF_169)), ((mmR 35), .inl (cZ, 20, .inl mm_beginsF_169)), ((mmR 37), .inl (cI, 20, .inl mm_baseF_169)), ((mmR 40), .inl (cI, 500, .inl mm_opsF_169)), ((mmR 26), .inl (cI, 3200, .inl mm_codeSortF_169)), ((mmR 27), .inl (cI, 3200, .inl mm_codeValueF_169)), ((mmR 36), .inl (cI, 20, .inl mm_pairF_169)), ((mmR 25), .inl (cI, 6, .inl mm_sumBehindF_169)), ((mmR 28), .inl (cJ, 14, .inr (.inl mm_earNameL_169))), ((mmR 29), .inl (cJ, 12, .inr (.inl mm_placeNameL_169))), ((mmR 22), .inl (cI, 12, .inl mm_placeAtF_169)), ((mmR 23), .inl (cI, 12, .inl mm_talkToldF_169)), ((mmR 19), .inl (cI, 14, .inl mm_rowToldF_169)), ((mmR 20), .inl (cI, 14, .inl mm_sharpOfF_169)), ((mmR 45), .inl (cI, 22, .inl mm_nightOfF_169)), ((mmR 46), .inl (cI, 22, .inl mm_mileOfF_169)), ((mmR 47), .inl (cI, 22, .inl mm_roundsOfF_169)), ((mmR 48), .inl (cI, 22, .inl mm_talkingOfF_169)), ((mmR 49), .inl (cI, 22, .inl mm_hushOfF_169)), ((mmR 50), .inl (cI, 154, .inl mm_rowOfF_169)), ((mmR 52), .inl (cI, 22, .inl mm_keptManyF_169)), ((mmR 51), .inl (cI, 132, .inl mm_talkOfF_169)), ((mmR 44), .inl (cI, 6, .inl mm_refusedF_169))] H := hP
    have hD : va_D A [(a_p0, .inr (12, oX12 (va_up mmI_169 10 (mmI_169 8)) mmJ_169 mmR)), ((mmR 15), .inl (cI, 2, .inl mm_voiceToldF_169)), ((mmR 16), .inl (cI, 2, .inl mm_hushToldF_169)), ((mmR 17), .inl (cI, 2, .inl mm_coughToldF_169)), ((mmR 18), .inl (cI, 2, .inl mm_earsF_169)), ((mmR 21), .inl (cI, 2, .inl mm_placesF_169)), ((mmR 0), .inl (cI, 1800, .inl mm_tapeF)), ((mmR 14), .inl (cI, 2, .inl mm_milesToldF_169)), ((mmR 24), .inl (cI, 6, .inl mm_sumFromF_169)), ((mmR 33), .inl (cI, 20, .inl mm_frameF_169)), ((mmR 34), .inl (cI, 20, .inl mm_phaseF_169)), ((mmR 35), .inl (cZ, 20, .inl mm_beginsF_169)), ((mmR 37), .inl (cI, 20, .inl mm_baseF_169)), ((mmR 40), .inl (cI, 500, .inl mm_opsF_169)), ((mmR 26), .inl (cI, 3200, .inl mm_codeSortF_169)), ((mmR 27), .inl (cI, 3200, .inl mm_codeValueF_169)), ((mmR 36), .inl (cI, 20, .inl mm_pairF_169)), ((mmR 25), .inl (cI, 6, .inl mm_sumBehindF_169)), ((mmR 28), .inl (cJ, 14, .inr (.inl mm_earNameL_169))), ((mmR 29), .inl (cJ, 12, .inr (.inl mm_placeNameL_169))), ((mmR 22), .inl (cI, 12, .inl mm_placeAtF_169)), ((mmR 23), .inl (cI, 12, .inl mm_talkToldF_169)), ((mmR 19), .inl (cI, 14, .inl mm_rowToldF_169)), ((mmR 20), .inl (cI, 14, .inl mm_sharpOfF_169)), ((mmR 45), .inl (cI, 22, .inl mm_nightOfF_169)), ((mmR 46), .inl (cI, 22, .inl mm_mileOfF_169)), ((mmR 47), .inl (cI, 22, .inl mm_roundsOfF_169)), ((mmR 48), .inl (cI, 22, .inl mm_talkingOfF_169)), ((mmR 49), .inl (cI, 22, .inl mm_hushOfF_169)), ((mmR 50), .inl (cI, 154, .inl mm_rowOfF_169)), ((mmR 52), .inl (cI, 22, .inl mm_keptManyF_169)), ((mmR 51), .inl (cI, 132, .inl mm_talkOfF_169)), ((mmR 44), .inl (cI, 6, .inl mm_refusedF_169))] := hD
    refine lv_aload_n hx hb dX12_house_177 rfl (lv_at hl 0 rfl) ?_
    refine lv_aload_n hx hb dX12_house_178 rfl (lv_at hl 0 rfl) ?_
    refine va_get (D := (dC, dI)) (ci := 12) (v := .int (mmI_169 9)) (C := RX12) (T := TX12) (N := 70) hx hb hts hinX12 hown hK hP 0 rfl rfl 9 (by decide) hw5 (fun _ h9 => h9) rfl dX12_house_179 ?_
    refine va_put (D := (dC, dI)) (ci := 12) (v := .int (mmI_169 9)) (ty := .int) (C := RX12) (T := TX12) (N := 70) hx hb hts hinX12 tyX12 tyX12_ok nmX12 hown hK hP hD hS 0 rfl rfl 11 (by decide) hw17 (fun _ h9 => h9) rfl (by decide +kernel) rfl rfl (Nat.le_of_ble_eq_true rfl) dX12_house_182 (fun H locs hP hD hS => ?_)
    have hP : va_P (dC, dI) vwCl [(a_p0, .inr (12, oX12 (va_up (va_up mmI_169 10 (mmI_169 8)) 11 (mmI_169 9)) mmJ_169 mmR)), ((mmR 15), .inl (cI, 2, .inl mm_voiceToldF_169)), ((mmR 16), .inl (cI, 2, .inl mm_hushToldF_169)), ((mmR 17), .inl (cI, 2, .inl mm_coughToldF_169)), ((mmR 18), .inl (cI, 2, .inl mm_earsF_169)), ((mmR 21), .inl (cI, 2, .inl mm_placesF_169)), ((mmR 0), .inl (cI, 1800, .inl mm_tapeF)), ((mmR 14), .inl (cI, 2, .inl mm_milesToldF_169)), ((mmR 24), .inl (cI, 6, .inl mm_sumFromF_169)), ((mmR 33), .inl (cI, 20, .inl mm_frameF_169)), ((mmR 34), .inl (cI, 20, .inl mm_phaseF_169)), ((mmR 35), .inl (cZ, 20, .inl mm_beginsF_169)), ((mmR 37), .inl (cI, 20, .inl mm_baseF_169)), ((mmR 40), .inl (cI, 500, .inl mm_opsF_169)), ((mmR 26), .inl (cI, 3200, .inl mm_codeSortF_169)), ((mmR 27), .inl (cI, 3200, .inl mm_codeValueF_169)), ((mmR 36), .inl (cI, 20, .inl mm_pairF_169)), ((mmR 25), .inl (cI, 6, .inl mm_sumBehindF_169)), ((mmR 28), .inl (cJ, 14, .inr (.inl mm_earNameL_169))), ((mmR 29), .inl (cJ, 12, .inr (.inl mm_placeNameL_169))), ((mmR 22), .inl (cI, 12, .inl mm_placeAtF_169)), ((mmR 23), .inl (cI, 12, .inl mm_talkToldF_169)), ((mmR 19), .inl (cI, 14, .inl mm_rowToldF_169)), ((mmR 20), .inl (cI, 14, .inl mm_sharpOfF_169)), ((mmR 45), .inl (cI, 22, .inl mm_nightOfF_169)), ((mmR 46), .inl (cI, 22, .inl mm_mileOfF_169)), ((mmR 47), .inl (cI, 22, .inl mm_roundsOfF_169)), ((mmR 48), .inl (cI, 22, .inl mm_talkingOfF_169)), ((mmR 49), .inl (cI, 22, .inl mm_hushOfF_169)), ((mmR 50), .inl (cI, 154, .inl mm_rowOfF_169)), ((mmR 52), .inl (cI, 22, .inl mm_keptManyF_169)), ((mmR 51), .inl (cI, 132, .inl mm_talkOfF_169)), ((mmR 44), .inl (cI, 6, .inl mm_refusedF_169))] H := hP
    have hD : va_D A [(a_p0, .inr (12, oX12 (va_up (va_up mmI_169 10 (mmI_169 8)) 11 (mmI_169 9)) mmJ_169 mmR)), ((mmR 15), .inl (cI, 2, .inl mm_voiceToldF_169)), ((mmR 16), .inl (cI, 2, .inl mm_hushToldF_169)), ((mmR 17), .inl (cI, 2, .inl mm_coughToldF_169)), ((mmR 18), .inl (cI, 2, .inl mm_earsF_169)), ((mmR 21), .inl (cI, 2, .inl mm_placesF_169)), ((mmR 0), .inl (cI, 1800, .inl mm_tapeF)), ((mmR 14), .inl (cI, 2, .inl mm_milesToldF_169)), ((mmR 24), .inl (cI, 6, .inl mm_sumFromF_169)), ((mmR 33), .inl (cI, 20, .inl mm_frameF_169)), ((mmR 34), .inl (cI, 20, .inl mm_phaseF_169)), ((mmR 35), .inl (cZ, 20, .inl mm_beginsF_169)), ((mmR 37), .inl (cI, 20, .inl mm_baseF_169)), ((mmR 40), .inl (cI, 500, .inl mm_opsF_169)), ((mmR 26), .inl (cI, 3200, .inl mm_codeSortF_169)), ((mmR 27), .inl (cI, 3200, .inl mm_codeValueF_169)), ((mmR 36), .inl (cI, 20, .inl mm_pairF_169)), ((mmR 25), .inl (cI, 6, .inl mm_sumBehindF_169)), ((mmR 28), .inl (cJ, 14, .inr (.inl mm_earNameL_169))), ((mmR 29), .inl (cJ, 12, .inr (.inl mm_placeNameL_169))), ((mmR 22), .inl (cI, 12, .inl mm_placeAtF_169)), ((mmR 23), .inl (cI, 12, .inl mm_talkToldF_169)), ((mmR 19), .inl (cI, 14, .inl mm_rowToldF_169)), ((mmR 20), .inl (cI, 14, .inl mm_sharpOfF_169)), ((mmR 45), .inl (cI, 22, .inl mm_nightOfF_169)), ((mmR 46), .inl (cI, 22, .inl mm_mileOfF_169)), ((mmR 47), .inl (cI, 22, .inl mm_roundsOfF_169)), ((mmR 48), .inl (cI, 22, .inl mm_talkingOfF_169)), ((mmR 49), .inl (cI, 22, .inl mm_hushOfF_169)), ((mmR 50), .inl (cI, 154, .inl mm_rowOfF_169)), ((mmR 52), .inl (cI, 22, .inl mm_keptManyF_169)), ((mmR 51), .inl (cI, 132, .inl mm_talkOfF_169)), ((mmR 44), .inl (cI, 6, .inl mm_refusedF_169))] := hD
    refine lv_aload_n hx hb dX12_house_185 rfl (lv_at hl 0 rfl) ?_
    refine va_get (D := (dC, dI)) (ci := 12) (v := .int (mmI_169 8)) (C := RX12) (T := TX12) (N := 70) hx hb hts hinX12 hown hK hP 0 rfl rfl 8 (by decide) hw4 (fun _ h9 => h9) rfl dX12_house_186 ?_
    refine lv_if_le (tgt := 198) hx hb dX12_house_189 (by decide) (fun c_ => ?_) (fun c_ => ?_)
    · have hf := xq_pos hf c_
      refine lv_aload_n hx hb dX12_house_198 rfl (lv_at hl 0 rfl) ?_
      refine lv_aload_n hx hb dX12_house_199 rfl (lv_at hl 0 rfl) ?_
      refine va_get (D := (dC, dI)) (ci := 12) (v := .int (mmI_169 31)) (C := RX12) (T := TX12) (N := 70) hx hb hts hinX12 hown hK hP 0 rfl rfl 31 (by decide) hw7 (fun _ h9 => h9) rfl dX12_house_200 ?_
      refine va_put (D := (dC, dI)) (ci := 12) (v := .int (mmI_169 31)) (ty := .int) (C := RX12) (T := TX12) (N := 70) hx hb hts hinX12 tyX12 tyX12_ok nmX12 hown hK hP hD hS 0 rfl rfl 13 (by decide) hw6 (fun _ h9 => h9) rfl (by decide +kernel) rfl rfl (Nat.le_of_ble_eq_true rfl) dX12_house_203 (fun H locs hP hD hS => ?_)
      have hP : va_P (dC, dI) vwCl [(a_p0, .inr (12, oX12 (va_up (va_up (va_up mmI_169 10 (mmI_169 8)) 11 (mmI_169 9)) 13 (mmI_169 31)) mmJ_169 mmR)), ((mmR 15), .inl (cI, 2, .inl mm_voiceToldF_169)), ((mmR 16), .inl (cI, 2, .inl mm_hushToldF_169)), ((mmR 17), .inl (cI, 2, .inl mm_coughToldF_169)), ((mmR 18), .inl (cI, 2, .inl mm_earsF_169)), ((mmR 21), .inl (cI, 2, .inl mm_placesF_169)), ((mmR 0), .inl (cI, 1800, .inl mm_tapeF)), ((mmR 14), .inl (cI, 2, .inl mm_milesToldF_169)), ((mmR 24), .inl (cI, 6, .inl mm_sumFromF_169)), ((mmR 33), .inl (cI, 20, .inl mm_frameF_169)), ((mmR 34), .inl (cI, 20, .inl mm_phaseF_169)), ((mmR 35), .inl (cZ, 20, .inl mm_beginsF_169)), ((mmR 37), .inl (cI, 20, .inl mm_baseF_169)), ((mmR 40), .inl (cI, 500, .inl mm_opsF_169)), ((mmR 26), .inl (cI, 3200, .inl mm_codeSortF_169)), ((mmR 27), .inl (cI, 3200, .inl mm_codeValueF_169)), ((mmR 36), .inl (cI, 20, .inl mm_pairF_169)), ((mmR 25), .inl (cI, 6, .inl mm_sumBehindF_169)), ((mmR 28), .inl (cJ, 14, .inr (.inl mm_earNameL_169))), ((mmR 29), .inl (cJ, 12, .inr (.inl mm_placeNameL_169))), ((mmR 22), .inl (cI, 12, .inl mm_placeAtF_169)), ((mmR 23), .inl (cI, 12, .inl mm_talkToldF_169)), ((mmR 19), .inl (cI, 14, .inl mm_rowToldF_169)), ((mmR 20), .inl (cI, 14, .inl mm_sharpOfF_169)), ((mmR 45), .inl (cI, 22, .inl mm_nightOfF_169)), ((mmR 46), .inl (cI, 22, .inl mm_mileOfF_169)), ((mmR 47), .inl (cI, 22, .inl mm_roundsOfF_169)), ((mmR 48), .inl (cI, 22, .inl mm_talkingOfF_169)), ((mmR 49), .inl (cI, 22, .inl mm_hushOfF_169)), ((mmR 50), .inl (cI, 154, .inl mm_rowOfF_169)), ((mmR 52), .inl (cI, 22, .inl mm_keptManyF_169)), ((mmR 51), .inl (cI, 132, .inl mm_talkOfF_169)), ((mmR 44), .inl (cI, 6, .inl mm_refusedF_169))] H := hP
      have hD : va_D A [(a_p0, .inr (12, oX12 (va_up (va_up (va_up mmI_169 10 (mmI_169 8)) 11 (mmI_169 9)) 13 (mmI_169 31)) mmJ_169 mmR)), ((mmR 15), .inl (cI, 2, .inl mm_voiceToldF_169)), ((mmR 16), .inl (cI, 2, .inl mm_hushToldF_169)), ((mmR 17), .inl (cI, 2, .inl mm_coughToldF_169)), ((mmR 18), .inl (cI, 2, .inl mm_earsF_169)), ((mmR 21), .inl (cI, 2, .inl mm_placesF_169)), ((mmR 0), .inl (cI, 1800, .inl mm_tapeF)), ((mmR 14), .inl (cI, 2, .inl mm_milesToldF_169)), ((mmR 24), .inl (cI, 6, .inl mm_sumFromF_169)), ((mmR 33), .inl (cI, 20, .inl mm_frameF_169)), ((mmR 34), .inl (cI, 20, .inl mm_phaseF_169)), ((mmR 35), .inl (cZ, 20, .inl mm_beginsF_169)), ((mmR 37), .inl (cI, 20, .inl mm_baseF_169)), ((mmR 40), .inl (cI, 500, .inl mm_opsF_169)), ((mmR 26), .inl (cI, 3200, .inl mm_codeSortF_169)), ((mmR 27), .inl (cI, 3200, .inl mm_codeValueF_169)), ((mmR 36), .inl (cI, 20, .inl mm_pairF_169)), ((mmR 25), .inl (cI, 6, .inl mm_sumBehindF_169)), ((mmR 28), .inl (cJ, 14, .inr (.inl mm_earNameL_169))), ((mmR 29), .inl (cJ, 12, .inr (.inl mm_placeNameL_169))), ((mmR 22), .inl (cI, 12, .inl mm_placeAtF_169)), ((mmR 23), .inl (cI, 12, .inl mm_talkToldF_169)), ((mmR 19), .inl (cI, 14, .inl mm_rowToldF_169)), ((mmR 20), .inl (cI, 14, .inl mm_sharpOfF_169)), ((mmR 45), .inl (cI, 22, .inl mm_nightOfF_169)), ((mmR 46), .inl (cI, 22, .inl mm_mileOfF_169)), ((mmR 47), .inl (cI, 22, .inl mm_roundsOfF_169)), ((mmR 48), .inl (cI, 22, .inl mm_talkingOfF_169)), ((mmR 49), .inl (cI, 22, .inl mm_hushOfF_169)), ((mmR 50), .inl (cI, 154, .inl mm_rowOfF_169)), ((mmR 52), .inl (cI, 22, .inl mm_keptManyF_169)), ((mmR 51), .inl (cI, 132, .inl mm_talkOfF_169)), ((mmR 44), .inl (cI, 6, .inl mm_refusedF_169))] := hD
      refine lv_aload_n hx hb dX12_house_206 rfl (lv_at hl 0 rfl) ?_
      refine lv_iconst (v := 1) hx hb dX12_house_207 (by decide) ?_
      refine va_put (D := (dC, dI)) (ci := 12) (v := .int 1) (ty := .boolean) (C := RX12) (T := TX12) (N := 70) hx hb hts hinX12 tyX12 tyX12_ok nmX12 hown hK hP hD hS 0 rfl rfl 43 (by decide) hw18 (fun _ h9 => h9) rfl (by decide +kernel) (by decide +kernel) (by decide +kernel) (Nat.le_of_ble_eq_true rfl) dX12_house_208 (fun H locs hP hD hS => ?_)
      have hP : va_P (dC, dI) vwCl [(a_p0, .inr (12, oX12 (va_up (va_up (va_up (va_up mmI_169 10 (mmI_169 8)) 11 (mmI_169 9)) 13 (mmI_169 31)) 43 1) mmJ_169 mmR)), ((mmR 15), .inl (cI, 2, .inl mm_voiceToldF_169)), ((mmR 16), .inl (cI, 2, .inl mm_hushToldF_169)), ((mmR 17), .inl (cI, 2, .inl mm_coughToldF_169)), ((mmR 18), .inl (cI, 2, .inl mm_earsF_169)), ((mmR 21), .inl (cI, 2, .inl mm_placesF_169)), ((mmR 0), .inl (cI, 1800, .inl mm_tapeF)), ((mmR 14), .inl (cI, 2, .inl mm_milesToldF_169)), ((mmR 24), .inl (cI, 6, .inl mm_sumFromF_169)), ((mmR 33), .inl (cI, 20, .inl mm_frameF_169)), ((mmR 34), .inl (cI, 20, .inl mm_phaseF_169)), ((mmR 35), .inl (cZ, 20, .inl mm_beginsF_169)), ((mmR 37), .inl (cI, 20, .inl mm_baseF_169)), ((mmR 40), .inl (cI, 500, .inl mm_opsF_169)), ((mmR 26), .inl (cI, 3200, .inl mm_codeSortF_169)), ((mmR 27), .inl (cI, 3200, .inl mm_codeValueF_169)), ((mmR 36), .inl (cI, 20, .inl mm_pairF_169)), ((mmR 25), .inl (cI, 6, .inl mm_sumBehindF_169)), ((mmR 28), .inl (cJ, 14, .inr (.inl mm_earNameL_169))), ((mmR 29), .inl (cJ, 12, .inr (.inl mm_placeNameL_169))), ((mmR 22), .inl (cI, 12, .inl mm_placeAtF_169)), ((mmR 23), .inl (cI, 12, .inl mm_talkToldF_169)), ((mmR 19), .inl (cI, 14, .inl mm_rowToldF_169)), ((mmR 20), .inl (cI, 14, .inl mm_sharpOfF_169)), ((mmR 45), .inl (cI, 22, .inl mm_nightOfF_169)), ((mmR 46), .inl (cI, 22, .inl mm_mileOfF_169)), ((mmR 47), .inl (cI, 22, .inl mm_roundsOfF_169)), ((mmR 48), .inl (cI, 22, .inl mm_talkingOfF_169)), ((mmR 49), .inl (cI, 22, .inl mm_hushOfF_169)), ((mmR 50), .inl (cI, 154, .inl mm_rowOfF_169)), ((mmR 52), .inl (cI, 22, .inl mm_keptManyF_169)), ((mmR 51), .inl (cI, 132, .inl mm_talkOfF_169)), ((mmR 44), .inl (cI, 6, .inl mm_refusedF_169))] H := hP
      have hD : va_D A [(a_p0, .inr (12, oX12 (va_up (va_up (va_up (va_up mmI_169 10 (mmI_169 8)) 11 (mmI_169 9)) 13 (mmI_169 31)) 43 1) mmJ_169 mmR)), ((mmR 15), .inl (cI, 2, .inl mm_voiceToldF_169)), ((mmR 16), .inl (cI, 2, .inl mm_hushToldF_169)), ((mmR 17), .inl (cI, 2, .inl mm_coughToldF_169)), ((mmR 18), .inl (cI, 2, .inl mm_earsF_169)), ((mmR 21), .inl (cI, 2, .inl mm_placesF_169)), ((mmR 0), .inl (cI, 1800, .inl mm_tapeF)), ((mmR 14), .inl (cI, 2, .inl mm_milesToldF_169)), ((mmR 24), .inl (cI, 6, .inl mm_sumFromF_169)), ((mmR 33), .inl (cI, 20, .inl mm_frameF_169)), ((mmR 34), .inl (cI, 20, .inl mm_phaseF_169)), ((mmR 35), .inl (cZ, 20, .inl mm_beginsF_169)), ((mmR 37), .inl (cI, 20, .inl mm_baseF_169)), ((mmR 40), .inl (cI, 500, .inl mm_opsF_169)), ((mmR 26), .inl (cI, 3200, .inl mm_codeSortF_169)), ((mmR 27), .inl (cI, 3200, .inl mm_codeValueF_169)), ((mmR 36), .inl (cI, 20, .inl mm_pairF_169)), ((mmR 25), .inl (cI, 6, .inl mm_sumBehindF_169)), ((mmR 28), .inl (cJ, 14, .inr (.inl mm_earNameL_169))), ((mmR 29), .inl (cJ, 12, .inr (.inl mm_placeNameL_169))), ((mmR 22), .inl (cI, 12, .inl mm_placeAtF_169)), ((mmR 23), .inl (cI, 12, .inl mm_talkToldF_169)), ((mmR 19), .inl (cI, 14, .inl mm_rowToldF_169)), ((mmR 20), .inl (cI, 14, .inl mm_sharpOfF_169)), ((mmR 45), .inl (cI, 22, .inl mm_nightOfF_169)), ((mmR 46), .inl (cI, 22, .inl mm_mileOfF_169)), ((mmR 47), .inl (cI, 22, .inl mm_roundsOfF_169)), ((mmR 48), .inl (cI, 22, .inl mm_talkingOfF_169)), ((mmR 49), .inl (cI, 22, .inl mm_hushOfF_169)), ((mmR 50), .inl (cI, 154, .inl mm_rowOfF_169)), ((mmR 52), .inl (cI, 22, .inl mm_keptManyF_169)), ((mmR 51), .inl (cI, 132, .inl mm_talkOfF_169)), ((mmR 44), .inl (cI, 6, .inl mm_refusedF_169))] := hD
      refine lv_aload_n hx hb dX12_house_211 rfl (lv_at hl 0 rfl) ?_
      obtain ⟨⟨r_1_0, r_1_1, r_1_2, r_1_3, r_1_4, r_1_5, r_1_6, r_1_7, r_1_8⟩, h_2, hf⟩ := xq_bd_some hf
      refine xq_callV (As := []) (rest := []) (ci := 12) (q0 := 0) ⟨hx, hb, hml, hown, hts⟩ (kX12_begin l dC dI cI cB cJ cZ cM z ad N a_p0 ((va_up (va_up (va_up (va_up mmI_169 10 (mmI_169 8)) 11 (mmI_169 9)) 13 (mmI_169 31)) 43 1)) mmJ_169 mmR mm_nightOfF_169 mm_voiceToldF_169 mm_mileOfF_169 mm_roundsOfF_169 mm_talkingOfF_169 mm_hushToldF_169 mm_hushOfF_169 mm_rowToldF_169 mm_rowOfF_169 mm_keptManyF_169 mm_talkToldF_169 mm_talkOfF_169 h_2) (cwV 0 hts gX12_house_X12_begin rfl rfl rfl (by decide +kernel) ⟨Nat.le_of_ble_eq_true rfl, Nat.le_of_ble_eq_true rfl⟩) hN hK hP hD hS hA [0, 24, 1, 25, 26, 27, 2, 28, 22, 29, 30, 21, 31] (by decide) rfl rfl rfl rfl rfl rfl hl.1 rfl (Nat.le_of_ble_eq_true rfl) dX12_house_212 ⟨Nat.zero_le _, Nat.zero_le _⟩ (fun H locs hP hD hS => ?_)
      have hP : va_P (dC, dI) vwCl [(a_p0, .inr (12, oX12 r_1_0 mmJ_169 mmR)), ((mmR 15), .inl (cI, 2, .inl mm_voiceToldF_169)), ((mmR 16), .inl (cI, 2, .inl mm_hushToldF_169)), ((mmR 17), .inl (cI, 2, .inl mm_coughToldF_169)), ((mmR 18), .inl (cI, 2, .inl mm_earsF_169)), ((mmR 21), .inl (cI, 2, .inl mm_placesF_169)), ((mmR 0), .inl (cI, 1800, .inl mm_tapeF)), ((mmR 14), .inl (cI, 2, .inl mm_milesToldF_169)), ((mmR 24), .inl (cI, 6, .inl mm_sumFromF_169)), ((mmR 33), .inl (cI, 20, .inl mm_frameF_169)), ((mmR 34), .inl (cI, 20, .inl mm_phaseF_169)), ((mmR 35), .inl (cZ, 20, .inl mm_beginsF_169)), ((mmR 37), .inl (cI, 20, .inl mm_baseF_169)), ((mmR 40), .inl (cI, 500, .inl mm_opsF_169)), ((mmR 26), .inl (cI, 3200, .inl mm_codeSortF_169)), ((mmR 27), .inl (cI, 3200, .inl mm_codeValueF_169)), ((mmR 36), .inl (cI, 20, .inl mm_pairF_169)), ((mmR 25), .inl (cI, 6, .inl mm_sumBehindF_169)), ((mmR 28), .inl (cJ, 14, .inr (.inl mm_earNameL_169))), ((mmR 29), .inl (cJ, 12, .inr (.inl mm_placeNameL_169))), ((mmR 22), .inl (cI, 12, .inl mm_placeAtF_169)), ((mmR 23), .inl (cI, 12, .inl mm_talkToldF_169)), ((mmR 19), .inl (cI, 14, .inl mm_rowToldF_169)), ((mmR 20), .inl (cI, 14, .inl mm_sharpOfF_169)), ((mmR 45), .inl (cI, 22, .inl r_1_1)), ((mmR 46), .inl (cI, 22, .inl r_1_2)), ((mmR 47), .inl (cI, 22, .inl r_1_3)), ((mmR 48), .inl (cI, 22, .inl r_1_4)), ((mmR 49), .inl (cI, 22, .inl r_1_5)), ((mmR 50), .inl (cI, 154, .inl r_1_6)), ((mmR 52), .inl (cI, 22, .inl r_1_7)), ((mmR 51), .inl (cI, 132, .inl r_1_8)), ((mmR 44), .inl (cI, 6, .inl mm_refusedF_169))] H := hP
      have hD : va_D A [(a_p0, .inr (12, oX12 r_1_0 mmJ_169 mmR)), ((mmR 15), .inl (cI, 2, .inl mm_voiceToldF_169)), ((mmR 16), .inl (cI, 2, .inl mm_hushToldF_169)), ((mmR 17), .inl (cI, 2, .inl mm_coughToldF_169)), ((mmR 18), .inl (cI, 2, .inl mm_earsF_169)), ((mmR 21), .inl (cI, 2, .inl mm_placesF_169)), ((mmR 0), .inl (cI, 1800, .inl mm_tapeF)), ((mmR 14), .inl (cI, 2, .inl mm_milesToldF_169)), ((mmR 24), .inl (cI, 6, .inl mm_sumFromF_169)), ((mmR 33), .inl (cI, 20, .inl mm_frameF_169)), ((mmR 34), .inl (cI, 20, .inl mm_phaseF_169)), ((mmR 35), .inl (cZ, 20, .inl mm_beginsF_169)), ((mmR 37), .inl (cI, 20, .inl mm_baseF_169)), ((mmR 40), .inl (cI, 500, .inl mm_opsF_169)), ((mmR 26), .inl (cI, 3200, .inl mm_codeSortF_169)), ((mmR 27), .inl (cI, 3200, .inl mm_codeValueF_169)), ((mmR 36), .inl (cI, 20, .inl mm_pairF_169)), ((mmR 25), .inl (cI, 6, .inl mm_sumBehindF_169)), ((mmR 28), .inl (cJ, 14, .inr (.inl mm_earNameL_169))), ((mmR 29), .inl (cJ, 12, .inr (.inl mm_placeNameL_169))), ((mmR 22), .inl (cI, 12, .inl mm_placeAtF_169)), ((mmR 23), .inl (cI, 12, .inl mm_talkToldF_169)), ((mmR 19), .inl (cI, 14, .inl mm_rowToldF_169)), ((mmR 20), .inl (cI, 14, .inl mm_sharpOfF_169)), ((mmR 45), .inl (cI, 22, .inl r_1_1)), ((mmR 46), .inl (cI, 22, .inl r_1_2)), ((mmR 47), .inl (cI, 22, .inl r_1_3)), ((mmR 48), .inl (cI, 22, .inl r_1_4)), ((mmR 49), .inl (cI, 22, .inl r_1_5)), ((mmR 50), .inl (cI, 154, .inl r_1_6)), ((mmR 52), .inl (cI, 22, .inl r_1_7)), ((mmR 51), .inl (cI, 132, .inl r_1_8)), ((mmR 44), .inl (cI, 6, .inl mm_refusedF_169))] := hD
      refine W.eq (g2 := F0 m 215 ls []) rfl ?_
      refine lv_iload_n hx hb dX12_house_215 rfl (lv_at hl 1 rfl) ?_
      have hP9 := hP
      have hD9 := hD
      have hS9 := hS
      cases hf
      exact xq_iret hx hb hr hlocks hK hP9 hD9 hS9 dX12_house_216
    · have hf := xq_neg hf c_
      refine lv_aload_n hx hb dX12_house_192 rfl (lv_at hl 0 rfl) ?_
      refine lv_iconst (v := 1) hx hb dX12_house_193 (by decide) ?_
      obtain ⟨⟨r_3_0, r_3_1⟩, h_4, hf⟩ := xq_bd_some hf
      refine xq_callV (As := [.int 1]) (rest := []) (ci := 12) (q0 := 0) ⟨hx, hb, hml, hown, hts⟩ (kX12_refuses l dC dI cI cB cJ cZ cM z ad N a_p0 ((va_up (va_up mmI_169 10 (mmI_169 8)) 11 (mmI_169 9))) mmJ_169 mmR mm_refusedF_169 1 h_4) (cwV 1 hts gX12_house_X12_refuses rfl rfl rfl (by decide +kernel) ⟨Nat.le_of_ble_eq_true rfl, Nat.le_of_ble_eq_true rfl⟩) hN hK hP hD hS hA [0, 32] (by decide) rfl rfl rfl rfl rfl rfl hl.1 rfl (Nat.le_of_ble_eq_true rfl) dX12_house_194 ⟨Nat.zero_le _, Nat.zero_le _⟩ (fun H locs hP hD hS => ?_)
      have hP : va_P (dC, dI) vwCl [(a_p0, .inr (12, oX12 (va_up (va_up mmI_169 10 (mmI_169 8)) 11 (mmI_169 9)) mmJ_169 mmR)), ((mmR 15), .inl (cI, 2, .inl mm_voiceToldF_169)), ((mmR 16), .inl (cI, 2, .inl mm_hushToldF_169)), ((mmR 17), .inl (cI, 2, .inl mm_coughToldF_169)), ((mmR 18), .inl (cI, 2, .inl mm_earsF_169)), ((mmR 21), .inl (cI, 2, .inl mm_placesF_169)), ((mmR 0), .inl (cI, 1800, .inl mm_tapeF)), ((mmR 14), .inl (cI, 2, .inl mm_milesToldF_169)), ((mmR 24), .inl (cI, 6, .inl mm_sumFromF_169)), ((mmR 33), .inl (cI, 20, .inl mm_frameF_169)), ((mmR 34), .inl (cI, 20, .inl mm_phaseF_169)), ((mmR 35), .inl (cZ, 20, .inl mm_beginsF_169)), ((mmR 37), .inl (cI, 20, .inl mm_baseF_169)), ((mmR 40), .inl (cI, 500, .inl mm_opsF_169)), ((mmR 26), .inl (cI, 3200, .inl mm_codeSortF_169)), ((mmR 27), .inl (cI, 3200, .inl mm_codeValueF_169)), ((mmR 36), .inl (cI, 20, .inl mm_pairF_169)), ((mmR 25), .inl (cI, 6, .inl mm_sumBehindF_169)), ((mmR 28), .inl (cJ, 14, .inr (.inl mm_earNameL_169))), ((mmR 29), .inl (cJ, 12, .inr (.inl mm_placeNameL_169))), ((mmR 22), .inl (cI, 12, .inl mm_placeAtF_169)), ((mmR 23), .inl (cI, 12, .inl mm_talkToldF_169)), ((mmR 19), .inl (cI, 14, .inl mm_rowToldF_169)), ((mmR 20), .inl (cI, 14, .inl mm_sharpOfF_169)), ((mmR 45), .inl (cI, 22, .inl mm_nightOfF_169)), ((mmR 46), .inl (cI, 22, .inl mm_mileOfF_169)), ((mmR 47), .inl (cI, 22, .inl mm_roundsOfF_169)), ((mmR 48), .inl (cI, 22, .inl mm_talkingOfF_169)), ((mmR 49), .inl (cI, 22, .inl mm_hushOfF_169)), ((mmR 50), .inl (cI, 154, .inl mm_rowOfF_169)), ((mmR 52), .inl (cI, 22, .inl mm_keptManyF_169)), ((mmR 51), .inl (cI, 132, .inl mm_talkOfF_169)), ((mmR 44), .inl (cI, 6, .inl r_3_1))] H := hP
      have hD : va_D A [(a_p0, .inr (12, oX12 (va_up (va_up mmI_169 10 (mmI_169 8)) 11 (mmI_169 9)) mmJ_169 mmR)), ((mmR 15), .inl (cI, 2, .inl mm_voiceToldF_169)), ((mmR 16), .inl (cI, 2, .inl mm_hushToldF_169)), ((mmR 17), .inl (cI, 2, .inl mm_coughToldF_169)), ((mmR 18), .inl (cI, 2, .inl mm_earsF_169)), ((mmR 21), .inl (cI, 2, .inl mm_placesF_169)), ((mmR 0), .inl (cI, 1800, .inl mm_tapeF)), ((mmR 14), .inl (cI, 2, .inl mm_milesToldF_169)), ((mmR 24), .inl (cI, 6, .inl mm_sumFromF_169)), ((mmR 33), .inl (cI, 20, .inl mm_frameF_169)), ((mmR 34), .inl (cI, 20, .inl mm_phaseF_169)), ((mmR 35), .inl (cZ, 20, .inl mm_beginsF_169)), ((mmR 37), .inl (cI, 20, .inl mm_baseF_169)), ((mmR 40), .inl (cI, 500, .inl mm_opsF_169)), ((mmR 26), .inl (cI, 3200, .inl mm_codeSortF_169)), ((mmR 27), .inl (cI, 3200, .inl mm_codeValueF_169)), ((mmR 36), .inl (cI, 20, .inl mm_pairF_169)), ((mmR 25), .inl (cI, 6, .inl mm_sumBehindF_169)), ((mmR 28), .inl (cJ, 14, .inr (.inl mm_earNameL_169))), ((mmR 29), .inl (cJ, 12, .inr (.inl mm_placeNameL_169))), ((mmR 22), .inl (cI, 12, .inl mm_placeAtF_169)), ((mmR 23), .inl (cI, 12, .inl mm_talkToldF_169)), ((mmR 19), .inl (cI, 14, .inl mm_rowToldF_169)), ((mmR 20), .inl (cI, 14, .inl mm_sharpOfF_169)), ((mmR 45), .inl (cI, 22, .inl mm_nightOfF_169)), ((mmR 46), .inl (cI, 22, .inl mm_mileOfF_169)), ((mmR 47), .inl (cI, 22, .inl mm_roundsOfF_169)), ((mmR 48), .inl (cI, 22, .inl mm_talkingOfF_169)), ((mmR 49), .inl (cI, 22, .inl mm_hushOfF_169)), ((mmR 50), .inl (cI, 154, .inl mm_rowOfF_169)), ((mmR 52), .inl (cI, 22, .inl mm_keptManyF_169)), ((mmR 51), .inl (cI, 132, .inl mm_talkOfF_169)), ((mmR 44), .inl (cI, 6, .inl r_3_1))] := hD
      refine W.eq (g2 := F0 m 197 ls [.int r_3_0]) rfl ?_
      have hP9 := hP
      have hD9 := hD
      have hS9 := hS
      cases hf
      exact xq_iret hx hb hr hlocks hK hP9 hD9 hS9 dX12_house_197
  have l140 : ∀ n140 : Nat, ∀ (mmI_140 : Nat → Int32) (mmJ_140 : Nat → Int64) (mm_voiceToldF_140 : Nat → Int32) (mm_hushToldF_140 : Nat → Int32) (mm_coughToldF_140 : Nat → Int32) (mm_earsF_140 : Nat → Int32) (mm_placesF_140 : Nat → Int32) (mm_milesToldF_140 : Nat → Int32) (mm_sumFromF_140 : Nat → Int32) (mm_frameF_140 : Nat → Int32) (mm_phaseF_140 : Nat → Int32) (mm_beginsF_140 : Nat → Int32) (mm_baseF_140 : Nat → Int32) (mm_opsF_140 : Nat → Int32) (mm_codeSortF_140 : Nat → Int32) (mm_codeValueF_140 : Nat → Int32) (mm_pairF_140 : Nat → Int32) (mm_sumBehindF_140 : Nat → Int32) (mm_earNameL_140 : Nat → Int64) (mm_placeNameL_140 : Nat → Int64) (mm_placeAtF_140 : Nat → Int32) (mm_talkToldF_140 : Nat → Int32) (mm_rowToldF_140 : Nat → Int32) (mm_sharpOfF_140 : Nat → Int32) (mm_nightOfF_140 : Nat → Int32) (mm_mileOfF_140 : Nat → Int32) (mm_roundsOfF_140 : Nat → Int32) (mm_talkingOfF_140 : Nat → Int32) (mm_hushOfF_140 : Nat → Int32) (mm_rowOfF_140 : Nat → Int32) (mm_keptManyF_140 : Nat → Int32) (mm_talkOfF_140 : Nat → Int32) (mm_refusedF_140 : Nat → Int32) (x1_140 : Int32) (ls : Array Slot) (H : Heap) (locs : List Loc), xq_loop (fX12_house_l140 N mm_tapeF) n140 (mmI_140, mmJ_140, mm_voiceToldF_140, mm_hushToldF_140, mm_coughToldF_140, mm_earsF_140, mm_placesF_140, mm_milesToldF_140, mm_sumFromF_140, mm_frameF_140, mm_phaseF_140, mm_beginsF_140, mm_baseF_140, mm_opsF_140, mm_codeSortF_140, mm_codeValueF_140, mm_pairF_140, mm_sumBehindF_140, mm_earNameL_140, mm_placeNameL_140, mm_placeAtF_140, mm_talkToldF_140, mm_rowToldF_140, mm_sharpOfF_140, mm_nightOfF_140, mm_mileOfF_140, mm_roundsOfF_140, mm_talkingOfF_140, mm_hushOfF_140, mm_rowOfF_140, mm_keptManyF_140, mm_talkOfF_140, mm_refusedF_140, x1_140) = some (r0, r1, r2, r3, r4, r5, r6, r7, r8, r9, r10, r11, r12, r13, r14, r15, r16, r17, r18, r19, r20, r21, r22, r23, r24, r25, r26, r27, r28, r29, r30, r31, r32, r33) → va_P (dC, dI) vwCl [(a_p0, .inr (12, oX12 mmI_140 mmJ_140 mmR)), ((mmR 15), .inl (cI, 2, .inl mm_voiceToldF_140)), ((mmR 16), .inl (cI, 2, .inl mm_hushToldF_140)), ((mmR 17), .inl (cI, 2, .inl mm_coughToldF_140)), ((mmR 18), .inl (cI, 2, .inl mm_earsF_140)), ((mmR 21), .inl (cI, 2, .inl mm_placesF_140)), ((mmR 0), .inl (cI, 1800, .inl mm_tapeF)), ((mmR 14), .inl (cI, 2, .inl mm_milesToldF_140)), ((mmR 24), .inl (cI, 6, .inl mm_sumFromF_140)), ((mmR 33), .inl (cI, 20, .inl mm_frameF_140)), ((mmR 34), .inl (cI, 20, .inl mm_phaseF_140)), ((mmR 35), .inl (cZ, 20, .inl mm_beginsF_140)), ((mmR 37), .inl (cI, 20, .inl mm_baseF_140)), ((mmR 40), .inl (cI, 500, .inl mm_opsF_140)), ((mmR 26), .inl (cI, 3200, .inl mm_codeSortF_140)), ((mmR 27), .inl (cI, 3200, .inl mm_codeValueF_140)), ((mmR 36), .inl (cI, 20, .inl mm_pairF_140)), ((mmR 25), .inl (cI, 6, .inl mm_sumBehindF_140)), ((mmR 28), .inl (cJ, 14, .inr (.inl mm_earNameL_140))), ((mmR 29), .inl (cJ, 12, .inr (.inl mm_placeNameL_140))), ((mmR 22), .inl (cI, 12, .inl mm_placeAtF_140)), ((mmR 23), .inl (cI, 12, .inl mm_talkToldF_140)), ((mmR 19), .inl (cI, 14, .inl mm_rowToldF_140)), ((mmR 20), .inl (cI, 14, .inl mm_sharpOfF_140)), ((mmR 45), .inl (cI, 22, .inl mm_nightOfF_140)), ((mmR 46), .inl (cI, 22, .inl mm_mileOfF_140)), ((mmR 47), .inl (cI, 22, .inl mm_roundsOfF_140)), ((mmR 48), .inl (cI, 22, .inl mm_talkingOfF_140)), ((mmR 49), .inl (cI, 22, .inl mm_hushOfF_140)), ((mmR 50), .inl (cI, 154, .inl mm_rowOfF_140)), ((mmR 52), .inl (cI, 22, .inl mm_keptManyF_140)), ((mmR 51), .inl (cI, 132, .inl mm_talkOfF_140)), ((mmR 44), .inl (cI, 6, .inl mm_refusedF_140))] H → va_D A [(a_p0, .inr (12, oX12 mmI_140 mmJ_140 mmR)), ((mmR 15), .inl (cI, 2, .inl mm_voiceToldF_140)), ((mmR 16), .inl (cI, 2, .inl mm_hushToldF_140)), ((mmR 17), .inl (cI, 2, .inl mm_coughToldF_140)), ((mmR 18), .inl (cI, 2, .inl mm_earsF_140)), ((mmR 21), .inl (cI, 2, .inl mm_placesF_140)), ((mmR 0), .inl (cI, 1800, .inl mm_tapeF)), ((mmR 14), .inl (cI, 2, .inl mm_milesToldF_140)), ((mmR 24), .inl (cI, 6, .inl mm_sumFromF_140)), ((mmR 33), .inl (cI, 20, .inl mm_frameF_140)), ((mmR 34), .inl (cI, 20, .inl mm_phaseF_140)), ((mmR 35), .inl (cZ, 20, .inl mm_beginsF_140)), ((mmR 37), .inl (cI, 20, .inl mm_baseF_140)), ((mmR 40), .inl (cI, 500, .inl mm_opsF_140)), ((mmR 26), .inl (cI, 3200, .inl mm_codeSortF_140)), ((mmR 27), .inl (cI, 3200, .inl mm_codeValueF_140)), ((mmR 36), .inl (cI, 20, .inl mm_pairF_140)), ((mmR 25), .inl (cI, 6, .inl mm_sumBehindF_140)), ((mmR 28), .inl (cJ, 14, .inr (.inl mm_earNameL_140))), ((mmR 29), .inl (cJ, 12, .inr (.inl mm_placeNameL_140))), ((mmR 22), .inl (cI, 12, .inl mm_placeAtF_140)), ((mmR 23), .inl (cI, 12, .inl mm_talkToldF_140)), ((mmR 19), .inl (cI, 14, .inl mm_rowToldF_140)), ((mmR 20), .inl (cI, 14, .inl mm_sharpOfF_140)), ((mmR 45), .inl (cI, 22, .inl mm_nightOfF_140)), ((mmR 46), .inl (cI, 22, .inl mm_mileOfF_140)), ((mmR 47), .inl (cI, 22, .inl mm_roundsOfF_140)), ((mmR 48), .inl (cI, 22, .inl mm_talkingOfF_140)), ((mmR 49), .inl (cI, 22, .inl mm_hushOfF_140)), ((mmR 50), .inl (cI, 154, .inl mm_rowOfF_140)), ((mmR 52), .inl (cI, 22, .inl mm_keptManyF_140)), ((mmR 51), .inl (cI, 132, .inl mm_talkOfF_140)), ((mmR 44), .inl (cI, 6, .inl mm_refusedF_140))] → va_S A s.heap H locs → lv_has ls 2 [(0, .ref a_p0), (1, .int x1_140)] → W p l e (headSpec wsX12_house { frames := 7, cells := 0, slots := 0, locals := 153 }).room s m [.ref a_p0].toArray below meth c H locs 0 0 (MQ below (xq_Q (dC, dI) vwCl (xq_tys cI cB cJ cZ cM) A [(a_p0, .inr (12, oX12 r1 r2 mmR)), ((mmR 15), .inl (cI, 2, .inl r3)), ((mmR 16), .inl (cI, 2, .inl r4)), ((mmR 17), .inl (cI, 2, .inl r5)), ((mmR 18), .inl (cI, 2, .inl r6)), ((mmR 21), .inl (cI, 2, .inl r7)), ((mmR 0), .inl (cI, 1800, .inl mm_tapeF)), ((mmR 14), .inl (cI, 2, .inl r8)), ((mmR 24), .inl (cI, 6, .inl r9)), ((mmR 33), .inl (cI, 20, .inl r10)), ((mmR 34), .inl (cI, 20, .inl r11)), ((mmR 35), .inl (cZ, 20, .inl r12)), ((mmR 37), .inl (cI, 20, .inl r13)), ((mmR 40), .inl (cI, 500, .inl r14)), ((mmR 26), .inl (cI, 3200, .inl r15)), ((mmR 27), .inl (cI, 3200, .inl r16)), ((mmR 36), .inl (cI, 20, .inl r17)), ((mmR 25), .inl (cI, 6, .inl r18)), ((mmR 28), .inl (cJ, 14, .inr (.inl r19))), ((mmR 29), .inl (cJ, 12, .inr (.inl r20))), ((mmR 22), .inl (cI, 12, .inl r21)), ((mmR 23), .inl (cI, 12, .inl r22)), ((mmR 19), .inl (cI, 14, .inl r23)), ((mmR 20), .inl (cI, 14, .inl r24)), ((mmR 45), .inl (cI, 22, .inl r25)), ((mmR 46), .inl (cI, 22, .inl r26)), ((mmR 47), .inl (cI, 22, .inl r27)), ((mmR 48), .inl (cI, 22, .inl r28)), ((mmR 49), .inl (cI, 22, .inl r29)), ((mmR 50), .inl (cI, 154, .inl r30)), ((mmR 52), .inl (cI, 22, .inl r31)), ((mmR 51), .inl (cI, 132, .inl r32)), ((mmR 44), .inl (cI, 6, .inl r33))] (some (.int r0))) [.ref a_p0].toArray s 0 0 A) (F0 m 140 ls []) := by
    intro n140
    induction n140 with
    | zero => intro mmI_140 mmJ_140 mm_voiceToldF_140 mm_hushToldF_140 mm_coughToldF_140 mm_earsF_140 mm_placesF_140 mm_milesToldF_140 mm_sumFromF_140 mm_frameF_140 mm_phaseF_140 mm_beginsF_140 mm_baseF_140 mm_opsF_140 mm_codeSortF_140 mm_codeValueF_140 mm_pairF_140 mm_sumBehindF_140 mm_earNameL_140 mm_placeNameL_140 mm_placeAtF_140 mm_talkToldF_140 mm_rowToldF_140 mm_sharpOfF_140 mm_nightOfF_140 mm_mileOfF_140 mm_roundsOfF_140 mm_talkingOfF_140 mm_hushOfF_140 mm_rowOfF_140 mm_keptManyF_140 mm_talkOfF_140 mm_refusedF_140 x1_140 ls H locs hf; cases (show none = some (r0, r1, r2, r3, r4, r5, r6, r7, r8, r9, r10, r11, r12, r13, r14, r15, r16, r17, r18, r19, r20, r21, r22, r23, r24, r25, r26, r27, r28, r29, r30, r31, r32, r33) from hf)
    | succ n140 ih140 =>
      intro mmI_140 mmJ_140 mm_voiceToldF_140 mm_hushToldF_140 mm_coughToldF_140 mm_earsF_140 mm_placesF_140 mm_milesToldF_140 mm_sumFromF_140 mm_frameF_140 mm_phaseF_140 mm_beginsF_140 mm_baseF_140 mm_opsF_140 mm_codeSortF_140 mm_codeValueF_140 mm_pairF_140 mm_sumBehindF_140 mm_earNameL_140 mm_placeNameL_140 mm_placeAtF_140 mm_talkToldF_140 mm_rowToldF_140 mm_sharpOfF_140 mm_nightOfF_140 mm_mileOfF_140 mm_roundsOfF_140 mm_talkingOfF_140 mm_hushOfF_140 mm_rowOfF_140 mm_keptManyF_140 mm_talkOfF_140 mm_refusedF_140 x1_140 ls H locs hf hP hD hS hl
      have hf : fX12_house_l140 N mm_tapeF (xq_loop (fX12_house_l140 N mm_tapeF) n140) (mmI_140, mmJ_140, mm_voiceToldF_140, mm_hushToldF_140, mm_coughToldF_140, mm_earsF_140, mm_placesF_140, mm_milesToldF_140, mm_sumFromF_140, mm_frameF_140, mm_phaseF_140, mm_beginsF_140, mm_baseF_140, mm_opsF_140, mm_codeSortF_140, mm_codeValueF_140, mm_pairF_140, mm_sumBehindF_140, mm_earNameL_140, mm_placeNameL_140, mm_placeAtF_140, mm_talkToldF_140, mm_rowToldF_140, mm_sharpOfF_140, mm_nightOfF_140, mm_mileOfF_140, mm_roundsOfF_140, mm_talkingOfF_140, mm_hushOfF_140, mm_rowOfF_140, mm_keptManyF_140, mm_talkOfF_140, mm_refusedF_140, x1_140) = some (r0, r1, r2, r3, r4, r5, r6, r7, r8, r9, r10, r11, r12, r13, r14, r15, r16, r17, r18, r19, r20, r21, r22, r23, r24, r25, r26, r27, r28, r29, r30, r31, r32, r33) := hf
      unfold fX12_house_l140 at hf
      refine lv_aload_n hx hb dX12_house_140 rfl (lv_at hl 0 rfl) ?_
      refine va_get (D := (dC, dI)) (ci := 12) (v := .int (mmI_140 8)) (C := RX12) (T := TX12) (N := 70) hx hb hts hinX12 hown hK hP 0 rfl rfl 8 (by decide) hw4 (fun _ h9 => h9) rfl dX12_house_141 ?_
      refine lv_if_ne (tgt := 169) hx hb dX12_house_144 (by decide) (fun c_ => ?_) (fun c_ => ?_)
      · have hf := xq_neg hf c_
        exact b169 mmI_140 mmJ_140 mm_voiceToldF_140 mm_hushToldF_140 mm_coughToldF_140 mm_earsF_140 mm_placesF_140 mm_milesToldF_140 mm_sumFromF_140 mm_frameF_140 mm_phaseF_140 mm_beginsF_140 mm_baseF_140 mm_opsF_140 mm_codeSortF_140 mm_codeValueF_140 mm_pairF_140 mm_sumBehindF_140 mm_earNameL_140 mm_placeNameL_140 mm_placeAtF_140 mm_talkToldF_140 mm_rowToldF_140 mm_sharpOfF_140 mm_nightOfF_140 mm_mileOfF_140 mm_roundsOfF_140 mm_talkingOfF_140 mm_hushOfF_140 mm_rowOfF_140 mm_keptManyF_140 mm_talkOfF_140 mm_refusedF_140 x1_140 _ _ _ hf hP hD hS (lv_sub hl [0, 1] rfl)
      · have hf := xq_pos hf c_
        refine lv_aload_n hx hb dX12_house_147 rfl (lv_at hl 0 rfl) ?_
        refine va_get (D := (dC, dI)) (ci := 12) (v := .int (mmI_140 3)) (C := RX12) (T := TX12) (N := 70) hx hb hts hinX12 hown hK hP 0 rfl rfl 3 (by decide) hw15 (fun _ h9 => h9) rfl dX12_house_148 ?_
        refine lv_if_eq (tgt := 169) hx hb dX12_house_151 (by decide) (fun c_ => ?_) (fun c_ => ?_)
        · have hf := xq_pos hf c_
          exact b169 mmI_140 mmJ_140 mm_voiceToldF_140 mm_hushToldF_140 mm_coughToldF_140 mm_earsF_140 mm_placesF_140 mm_milesToldF_140 mm_sumFromF_140 mm_frameF_140 mm_phaseF_140 mm_beginsF_140 mm_baseF_140 mm_opsF_140 mm_codeSortF_140 mm_codeValueF_140 mm_pairF_140 mm_sumBehindF_140 mm_earNameL_140 mm_placeNameL_140 mm_placeAtF_140 mm_talkToldF_140 mm_rowToldF_140 mm_sharpOfF_140 mm_nightOfF_140 mm_mileOfF_140 mm_roundsOfF_140 mm_talkingOfF_140 mm_hushOfF_140 mm_rowOfF_140 mm_keptManyF_140 mm_talkOfF_140 mm_refusedF_140 x1_140 _ _ _ hf hP hD hS (lv_sub hl [0, 1] rfl)
        · have hf := xq_neg hf c_
          refine lv_aload_n hx hb dX12_house_154 rfl (lv_at hl 0 rfl) ?_
          obtain ⟨⟨r_1_0, r_1_1, r_1_2, r_1_3, r_1_4, r_1_5, r_1_6, r_1_7, r_1_8, r_1_9, r_1_10, r_1_11, r_1_12, r_1_13, r_1_14, r_1_15, r_1_16, r_1_17, r_1_18, r_1_19, r_1_20, r_1_21, r_1_22⟩, h_2, hf⟩ := xq_bd_some hf
          refine xq_callV (As := []) (rest := []) (ci := 12) (q0 := 0) ⟨hx, hb, hml, hown, hts⟩ (kX12_statement l dC dI cI cB cJ cZ cM z ad N a_p0 mmI_140 mmJ_140 mmR mm_sumFromF_140 mm_tapeF mm_frameF_140 mm_phaseF_140 mm_beginsF_140 mm_baseF_140 mm_opsF_140 mm_codeSortF_140 mm_codeValueF_140 mm_pairF_140 mm_sumBehindF_140 mm_placesF_140 mm_earsF_140 mm_earNameL_140 mm_placeNameL_140 mm_milesToldF_140 mm_placeAtF_140 mm_talkToldF_140 mm_rowToldF_140 mm_sharpOfF_140 mm_coughToldF_140 mm_hushToldF_140 mm_voiceToldF_140 h_2) (cwV 0 hts gX12_house_X12_statement rfl rfl rfl (by decide +kernel) ⟨Nat.le_of_ble_eq_true rfl, Nat.le_of_ble_eq_true rfl⟩) hN hK hP hD hS hA [0, 8, 6, 9, 10, 11, 12, 13, 14, 15, 16, 17, 5, 4, 18, 19, 7, 20, 21, 22, 23, 3, 2, 1] (by decide) rfl rfl rfl rfl rfl rfl hl.1 rfl (Nat.le_of_ble_eq_true rfl) dX12_house_155 ⟨Nat.zero_le _, Nat.zero_le _⟩ (fun H locs hP hD hS => ?_)
          have hP : va_P (dC, dI) vwCl [(a_p0, .inr (12, oX12 r_1_0 r_1_1 mmR)), ((mmR 15), .inl (cI, 2, .inl r_1_22)), ((mmR 16), .inl (cI, 2, .inl r_1_21)), ((mmR 17), .inl (cI, 2, .inl r_1_20)), ((mmR 18), .inl (cI, 2, .inl r_1_13)), ((mmR 21), .inl (cI, 2, .inl r_1_12)), ((mmR 0), .inl (cI, 1800, .inl mm_tapeF)), ((mmR 14), .inl (cI, 2, .inl mm_milesToldF_140)), ((mmR 24), .inl (cI, 6, .inl r_1_2)), ((mmR 33), .inl (cI, 20, .inl r_1_3)), ((mmR 34), .inl (cI, 20, .inl r_1_4)), ((mmR 35), .inl (cZ, 20, .inl r_1_5)), ((mmR 37), .inl (cI, 20, .inl r_1_6)), ((mmR 40), .inl (cI, 500, .inl r_1_7)), ((mmR 26), .inl (cI, 3200, .inl r_1_8)), ((mmR 27), .inl (cI, 3200, .inl r_1_9)), ((mmR 36), .inl (cI, 20, .inl r_1_10)), ((mmR 25), .inl (cI, 6, .inl r_1_11)), ((mmR 28), .inl (cJ, 14, .inr (.inl r_1_14))), ((mmR 29), .inl (cJ, 12, .inr (.inl r_1_15))), ((mmR 22), .inl (cI, 12, .inl r_1_16)), ((mmR 23), .inl (cI, 12, .inl r_1_17)), ((mmR 19), .inl (cI, 14, .inl r_1_18)), ((mmR 20), .inl (cI, 14, .inl r_1_19)), ((mmR 45), .inl (cI, 22, .inl mm_nightOfF_140)), ((mmR 46), .inl (cI, 22, .inl mm_mileOfF_140)), ((mmR 47), .inl (cI, 22, .inl mm_roundsOfF_140)), ((mmR 48), .inl (cI, 22, .inl mm_talkingOfF_140)), ((mmR 49), .inl (cI, 22, .inl mm_hushOfF_140)), ((mmR 50), .inl (cI, 154, .inl mm_rowOfF_140)), ((mmR 52), .inl (cI, 22, .inl mm_keptManyF_140)), ((mmR 51), .inl (cI, 132, .inl mm_talkOfF_140)), ((mmR 44), .inl (cI, 6, .inl mm_refusedF_140))] H := hP
          have hD : va_D A [(a_p0, .inr (12, oX12 r_1_0 r_1_1 mmR)), ((mmR 15), .inl (cI, 2, .inl r_1_22)), ((mmR 16), .inl (cI, 2, .inl r_1_21)), ((mmR 17), .inl (cI, 2, .inl r_1_20)), ((mmR 18), .inl (cI, 2, .inl r_1_13)), ((mmR 21), .inl (cI, 2, .inl r_1_12)), ((mmR 0), .inl (cI, 1800, .inl mm_tapeF)), ((mmR 14), .inl (cI, 2, .inl mm_milesToldF_140)), ((mmR 24), .inl (cI, 6, .inl r_1_2)), ((mmR 33), .inl (cI, 20, .inl r_1_3)), ((mmR 34), .inl (cI, 20, .inl r_1_4)), ((mmR 35), .inl (cZ, 20, .inl r_1_5)), ((mmR 37), .inl (cI, 20, .inl r_1_6)), ((mmR 40), .inl (cI, 500, .inl r_1_7)), ((mmR 26), .inl (cI, 3200, .inl r_1_8)), ((mmR 27), .inl (cI, 3200, .inl r_1_9)), ((mmR 36), .inl (cI, 20, .inl r_1_10)), ((mmR 25), .inl (cI, 6, .inl r_1_11)), ((mmR 28), .inl (cJ, 14, .inr (.inl r_1_14))), ((mmR 29), .inl (cJ, 12, .inr (.inl r_1_15))), ((mmR 22), .inl (cI, 12, .inl r_1_16)), ((mmR 23), .inl (cI, 12, .inl r_1_17)), ((mmR 19), .inl (cI, 14, .inl r_1_18)), ((mmR 20), .inl (cI, 14, .inl r_1_19)), ((mmR 45), .inl (cI, 22, .inl mm_nightOfF_140)), ((mmR 46), .inl (cI, 22, .inl mm_mileOfF_140)), ((mmR 47), .inl (cI, 22, .inl mm_roundsOfF_140)), ((mmR 48), .inl (cI, 22, .inl mm_talkingOfF_140)), ((mmR 49), .inl (cI, 22, .inl mm_hushOfF_140)), ((mmR 50), .inl (cI, 154, .inl mm_rowOfF_140)), ((mmR 52), .inl (cI, 22, .inl mm_keptManyF_140)), ((mmR 51), .inl (cI, 132, .inl mm_talkOfF_140)), ((mmR 44), .inl (cI, 6, .inl mm_refusedF_140))] := hD
          refine W.eq (g2 := F0 m 158 ls []) rfl ?_
          refine lv_iinc (v := x1_140 + 1) (lv' := [(1, .int (x1_140 + 1)), (0, .ref a_p0)]) hx hb dX12_house_158 hl (k := 1) rfl (congrArg (fun q9 => x1_140 + q9) (by decide : Int32.ofInt 1 = 1)) (by decide) rfl (fun ls hl => ?_)
          refine lv_aload_n hx hb dX12_house_161 rfl (lv_at hl 1 rfl) ?_
          refine lv_iload_n hx hb dX12_house_162 rfl (lv_at hl 0 rfl) ?_
          obtain ⟨⟨r_3_0, r_3_1⟩, h_4, hf⟩ := xq_bd_some hf
          refine xq_callV (As := [.int (x1_140 + 1)]) (rest := []) (ci := 12) (q0 := 0) ⟨hx, hb, hml, hown, hts⟩ (kX12_finishes l dC dI cI cB cJ cZ cM z ad N a_p0 r_1_0 r_1_1 mmR mm_tapeF (x1_140 + 1) h_4) (cwV 1 hts gX12_house_X12_finishes rfl rfl rfl (by decide +kernel) ⟨Nat.le_of_ble_eq_true rfl, Nat.le_of_ble_eq_true rfl⟩) hN hK hP hD hS hA [0, 6] (by decide) rfl rfl rfl rfl rfl rfl hl.1 rfl (Nat.le_of_ble_eq_true rfl) dX12_house_163 ⟨Nat.zero_le _, Nat.zero_le _⟩ (fun H locs hP hD hS => ?_)
          have hP : va_P (dC, dI) vwCl [(a_p0, .inr (12, oX12 r_3_0 r_3_1 mmR)), ((mmR 15), .inl (cI, 2, .inl r_1_22)), ((mmR 16), .inl (cI, 2, .inl r_1_21)), ((mmR 17), .inl (cI, 2, .inl r_1_20)), ((mmR 18), .inl (cI, 2, .inl r_1_13)), ((mmR 21), .inl (cI, 2, .inl r_1_12)), ((mmR 0), .inl (cI, 1800, .inl mm_tapeF)), ((mmR 14), .inl (cI, 2, .inl mm_milesToldF_140)), ((mmR 24), .inl (cI, 6, .inl r_1_2)), ((mmR 33), .inl (cI, 20, .inl r_1_3)), ((mmR 34), .inl (cI, 20, .inl r_1_4)), ((mmR 35), .inl (cZ, 20, .inl r_1_5)), ((mmR 37), .inl (cI, 20, .inl r_1_6)), ((mmR 40), .inl (cI, 500, .inl r_1_7)), ((mmR 26), .inl (cI, 3200, .inl r_1_8)), ((mmR 27), .inl (cI, 3200, .inl r_1_9)), ((mmR 36), .inl (cI, 20, .inl r_1_10)), ((mmR 25), .inl (cI, 6, .inl r_1_11)), ((mmR 28), .inl (cJ, 14, .inr (.inl r_1_14))), ((mmR 29), .inl (cJ, 12, .inr (.inl r_1_15))), ((mmR 22), .inl (cI, 12, .inl r_1_16)), ((mmR 23), .inl (cI, 12, .inl r_1_17)), ((mmR 19), .inl (cI, 14, .inl r_1_18)), ((mmR 20), .inl (cI, 14, .inl r_1_19)), ((mmR 45), .inl (cI, 22, .inl mm_nightOfF_140)), ((mmR 46), .inl (cI, 22, .inl mm_mileOfF_140)), ((mmR 47), .inl (cI, 22, .inl mm_roundsOfF_140)), ((mmR 48), .inl (cI, 22, .inl mm_talkingOfF_140)), ((mmR 49), .inl (cI, 22, .inl mm_hushOfF_140)), ((mmR 50), .inl (cI, 154, .inl mm_rowOfF_140)), ((mmR 52), .inl (cI, 22, .inl mm_keptManyF_140)), ((mmR 51), .inl (cI, 132, .inl mm_talkOfF_140)), ((mmR 44), .inl (cI, 6, .inl mm_refusedF_140))] H := hP
          have hD : va_D A [(a_p0, .inr (12, oX12 r_3_0 r_3_1 mmR)), ((mmR 15), .inl (cI, 2, .inl r_1_22)), ((mmR 16), .inl (cI, 2, .inl r_1_21)), ((mmR 17), .inl (cI, 2, .inl r_1_20)), ((mmR 18), .inl (cI, 2, .inl r_1_13)), ((mmR 21), .inl (cI, 2, .inl r_1_12)), ((mmR 0), .inl (cI, 1800, .inl mm_tapeF)), ((mmR 14), .inl (cI, 2, .inl mm_milesToldF_140)), ((mmR 24), .inl (cI, 6, .inl r_1_2)), ((mmR 33), .inl (cI, 20, .inl r_1_3)), ((mmR 34), .inl (cI, 20, .inl r_1_4)), ((mmR 35), .inl (cZ, 20, .inl r_1_5)), ((mmR 37), .inl (cI, 20, .inl r_1_6)), ((mmR 40), .inl (cI, 500, .inl r_1_7)), ((mmR 26), .inl (cI, 3200, .inl r_1_8)), ((mmR 27), .inl (cI, 3200, .inl r_1_9)), ((mmR 36), .inl (cI, 20, .inl r_1_10)), ((mmR 25), .inl (cI, 6, .inl r_1_11)), ((mmR 28), .inl (cJ, 14, .inr (.inl r_1_14))), ((mmR 29), .inl (cJ, 12, .inr (.inl r_1_15))), ((mmR 22), .inl (cI, 12, .inl r_1_16)), ((mmR 23), .inl (cI, 12, .inl r_1_17)), ((mmR 19), .inl (cI, 14, .inl r_1_18)), ((mmR 20), .inl (cI, 14, .inl r_1_19)), ((mmR 45), .inl (cI, 22, .inl mm_nightOfF_140)), ((mmR 46), .inl (cI, 22, .inl mm_mileOfF_140)), ((mmR 47), .inl (cI, 22, .inl mm_roundsOfF_140)), ((mmR 48), .inl (cI, 22, .inl mm_talkingOfF_140)), ((mmR 49), .inl (cI, 22, .inl mm_hushOfF_140)), ((mmR 50), .inl (cI, 154, .inl mm_rowOfF_140)), ((mmR 52), .inl (cI, 22, .inl mm_keptManyF_140)), ((mmR 51), .inl (cI, 132, .inl mm_talkOfF_140)), ((mmR 44), .inl (cI, 6, .inl mm_refusedF_140))] := hD
          refine W.eq (g2 := F0 m 166 ls []) rfl ?_
          refine lv_goto (tgt := 140) hx hb dX12_house_166 (by decide) ?_
          exact ih140 r_3_0 r_3_1 r_1_22 r_1_21 r_1_20 r_1_13 r_1_12 mm_milesToldF_140 r_1_2 r_1_3 r_1_4 r_1_5 r_1_6 r_1_7 r_1_8 r_1_9 r_1_10 r_1_11 r_1_14 r_1_15 r_1_16 r_1_17 r_1_18 r_1_19 mm_nightOfF_140 mm_mileOfF_140 mm_roundsOfF_140 mm_talkingOfF_140 mm_hushOfF_140 mm_rowOfF_140 mm_keptManyF_140 mm_talkOfF_140 mm_refusedF_140 (x1_140 + 1) _ _ _ hf hP hD hS (lv_sub hl [1, 0] rfl)
  have l95 : ∀ n95 : Nat, ∀ (mmI_95 : Nat → Int32) (mmJ_95 : Nat → Int64) (mm_voiceToldF_95 : Nat → Int32) (mm_hushToldF_95 : Nat → Int32) (mm_coughToldF_95 : Nat → Int32) (mm_earsF_95 : Nat → Int32) (mm_placesF_95 : Nat → Int32) (mm_milesToldF_95 : Nat → Int32) (mm_sumFromF_95 : Nat → Int32) (mm_frameF_95 : Nat → Int32) (mm_phaseF_95 : Nat → Int32) (mm_beginsF_95 : Nat → Int32) (mm_baseF_95 : Nat → Int32) (mm_opsF_95 : Nat → Int32) (mm_codeSortF_95 : Nat → Int32) (mm_codeValueF_95 : Nat → Int32) (mm_pairF_95 : Nat → Int32) (mm_sumBehindF_95 : Nat → Int32) (mm_earNameL_95 : Nat → Int64) (mm_placeNameL_95 : Nat → Int64) (mm_placeAtF_95 : Nat → Int32) (mm_talkToldF_95 : Nat → Int32) (mm_rowToldF_95 : Nat → Int32) (mm_sharpOfF_95 : Nat → Int32) (mm_nightOfF_95 : Nat → Int32) (mm_mileOfF_95 : Nat → Int32) (mm_roundsOfF_95 : Nat → Int32) (mm_talkingOfF_95 : Nat → Int32) (mm_hushOfF_95 : Nat → Int32) (mm_rowOfF_95 : Nat → Int32) (mm_keptManyF_95 : Nat → Int32) (mm_talkOfF_95 : Nat → Int32) (mm_refusedF_95 : Nat → Int32) (x1_95 : Int32) (ls : Array Slot) (H : Heap) (locs : List Loc), xq_loop (fX12_house_l95 N mm_tapeF) n95 (mmI_95, mmJ_95, mm_voiceToldF_95, mm_hushToldF_95, mm_coughToldF_95, mm_earsF_95, mm_placesF_95, mm_milesToldF_95, mm_sumFromF_95, mm_frameF_95, mm_phaseF_95, mm_beginsF_95, mm_baseF_95, mm_opsF_95, mm_codeSortF_95, mm_codeValueF_95, mm_pairF_95, mm_sumBehindF_95, mm_earNameL_95, mm_placeNameL_95, mm_placeAtF_95, mm_talkToldF_95, mm_rowToldF_95, mm_sharpOfF_95, mm_nightOfF_95, mm_mileOfF_95, mm_roundsOfF_95, mm_talkingOfF_95, mm_hushOfF_95, mm_rowOfF_95, mm_keptManyF_95, mm_talkOfF_95, mm_refusedF_95, x1_95) = some (r0, r1, r2, r3, r4, r5, r6, r7, r8, r9, r10, r11, r12, r13, r14, r15, r16, r17, r18, r19, r20, r21, r22, r23, r24, r25, r26, r27, r28, r29, r30, r31, r32, r33) → va_P (dC, dI) vwCl [(a_p0, .inr (12, oX12 mmI_95 mmJ_95 mmR)), ((mmR 15), .inl (cI, 2, .inl mm_voiceToldF_95)), ((mmR 16), .inl (cI, 2, .inl mm_hushToldF_95)), ((mmR 17), .inl (cI, 2, .inl mm_coughToldF_95)), ((mmR 18), .inl (cI, 2, .inl mm_earsF_95)), ((mmR 21), .inl (cI, 2, .inl mm_placesF_95)), ((mmR 0), .inl (cI, 1800, .inl mm_tapeF)), ((mmR 14), .inl (cI, 2, .inl mm_milesToldF_95)), ((mmR 24), .inl (cI, 6, .inl mm_sumFromF_95)), ((mmR 33), .inl (cI, 20, .inl mm_frameF_95)), ((mmR 34), .inl (cI, 20, .inl mm_phaseF_95)), ((mmR 35), .inl (cZ, 20, .inl mm_beginsF_95)), ((mmR 37), .inl (cI, 20, .inl mm_baseF_95)), ((mmR 40), .inl (cI, 500, .inl mm_opsF_95)), ((mmR 26), .inl (cI, 3200, .inl mm_codeSortF_95)), ((mmR 27), .inl (cI, 3200, .inl mm_codeValueF_95)), ((mmR 36), .inl (cI, 20, .inl mm_pairF_95)), ((mmR 25), .inl (cI, 6, .inl mm_sumBehindF_95)), ((mmR 28), .inl (cJ, 14, .inr (.inl mm_earNameL_95))), ((mmR 29), .inl (cJ, 12, .inr (.inl mm_placeNameL_95))), ((mmR 22), .inl (cI, 12, .inl mm_placeAtF_95)), ((mmR 23), .inl (cI, 12, .inl mm_talkToldF_95)), ((mmR 19), .inl (cI, 14, .inl mm_rowToldF_95)), ((mmR 20), .inl (cI, 14, .inl mm_sharpOfF_95)), ((mmR 45), .inl (cI, 22, .inl mm_nightOfF_95)), ((mmR 46), .inl (cI, 22, .inl mm_mileOfF_95)), ((mmR 47), .inl (cI, 22, .inl mm_roundsOfF_95)), ((mmR 48), .inl (cI, 22, .inl mm_talkingOfF_95)), ((mmR 49), .inl (cI, 22, .inl mm_hushOfF_95)), ((mmR 50), .inl (cI, 154, .inl mm_rowOfF_95)), ((mmR 52), .inl (cI, 22, .inl mm_keptManyF_95)), ((mmR 51), .inl (cI, 132, .inl mm_talkOfF_95)), ((mmR 44), .inl (cI, 6, .inl mm_refusedF_95))] H → va_D A [(a_p0, .inr (12, oX12 mmI_95 mmJ_95 mmR)), ((mmR 15), .inl (cI, 2, .inl mm_voiceToldF_95)), ((mmR 16), .inl (cI, 2, .inl mm_hushToldF_95)), ((mmR 17), .inl (cI, 2, .inl mm_coughToldF_95)), ((mmR 18), .inl (cI, 2, .inl mm_earsF_95)), ((mmR 21), .inl (cI, 2, .inl mm_placesF_95)), ((mmR 0), .inl (cI, 1800, .inl mm_tapeF)), ((mmR 14), .inl (cI, 2, .inl mm_milesToldF_95)), ((mmR 24), .inl (cI, 6, .inl mm_sumFromF_95)), ((mmR 33), .inl (cI, 20, .inl mm_frameF_95)), ((mmR 34), .inl (cI, 20, .inl mm_phaseF_95)), ((mmR 35), .inl (cZ, 20, .inl mm_beginsF_95)), ((mmR 37), .inl (cI, 20, .inl mm_baseF_95)), ((mmR 40), .inl (cI, 500, .inl mm_opsF_95)), ((mmR 26), .inl (cI, 3200, .inl mm_codeSortF_95)), ((mmR 27), .inl (cI, 3200, .inl mm_codeValueF_95)), ((mmR 36), .inl (cI, 20, .inl mm_pairF_95)), ((mmR 25), .inl (cI, 6, .inl mm_sumBehindF_95)), ((mmR 28), .inl (cJ, 14, .inr (.inl mm_earNameL_95))), ((mmR 29), .inl (cJ, 12, .inr (.inl mm_placeNameL_95))), ((mmR 22), .inl (cI, 12, .inl mm_placeAtF_95)), ((mmR 23), .inl (cI, 12, .inl mm_talkToldF_95)), ((mmR 19), .inl (cI, 14, .inl mm_rowToldF_95)), ((mmR 20), .inl (cI, 14, .inl mm_sharpOfF_95)), ((mmR 45), .inl (cI, 22, .inl mm_nightOfF_95)), ((mmR 46), .inl (cI, 22, .inl mm_mileOfF_95)), ((mmR 47), .inl (cI, 22, .inl mm_roundsOfF_95)), ((mmR 48), .inl (cI, 22, .inl mm_talkingOfF_95)), ((mmR 49), .inl (cI, 22, .inl mm_hushOfF_95)), ((mmR 50), .inl (cI, 154, .inl mm_rowOfF_95)), ((mmR 52), .inl (cI, 22, .inl mm_keptManyF_95)), ((mmR 51), .inl (cI, 132, .inl mm_talkOfF_95)), ((mmR 44), .inl (cI, 6, .inl mm_refusedF_95))] → va_S A s.heap H locs → lv_has ls 2 [(0, .ref a_p0), (1, .int x1_95)] → W p l e (headSpec wsX12_house { frames := 7, cells := 0, slots := 0, locals := 153 }).room s m [.ref a_p0].toArray below meth c H locs 0 0 (MQ below (xq_Q (dC, dI) vwCl (xq_tys cI cB cJ cZ cM) A [(a_p0, .inr (12, oX12 r1 r2 mmR)), ((mmR 15), .inl (cI, 2, .inl r3)), ((mmR 16), .inl (cI, 2, .inl r4)), ((mmR 17), .inl (cI, 2, .inl r5)), ((mmR 18), .inl (cI, 2, .inl r6)), ((mmR 21), .inl (cI, 2, .inl r7)), ((mmR 0), .inl (cI, 1800, .inl mm_tapeF)), ((mmR 14), .inl (cI, 2, .inl r8)), ((mmR 24), .inl (cI, 6, .inl r9)), ((mmR 33), .inl (cI, 20, .inl r10)), ((mmR 34), .inl (cI, 20, .inl r11)), ((mmR 35), .inl (cZ, 20, .inl r12)), ((mmR 37), .inl (cI, 20, .inl r13)), ((mmR 40), .inl (cI, 500, .inl r14)), ((mmR 26), .inl (cI, 3200, .inl r15)), ((mmR 27), .inl (cI, 3200, .inl r16)), ((mmR 36), .inl (cI, 20, .inl r17)), ((mmR 25), .inl (cI, 6, .inl r18)), ((mmR 28), .inl (cJ, 14, .inr (.inl r19))), ((mmR 29), .inl (cJ, 12, .inr (.inl r20))), ((mmR 22), .inl (cI, 12, .inl r21)), ((mmR 23), .inl (cI, 12, .inl r22)), ((mmR 19), .inl (cI, 14, .inl r23)), ((mmR 20), .inl (cI, 14, .inl r24)), ((mmR 45), .inl (cI, 22, .inl r25)), ((mmR 46), .inl (cI, 22, .inl r26)), ((mmR 47), .inl (cI, 22, .inl r27)), ((mmR 48), .inl (cI, 22, .inl r28)), ((mmR 49), .inl (cI, 22, .inl r29)), ((mmR 50), .inl (cI, 154, .inl r30)), ((mmR 52), .inl (cI, 22, .inl r31)), ((mmR 51), .inl (cI, 132, .inl r32)), ((mmR 44), .inl (cI, 6, .inl r33))] (some (.int r0))) [.ref a_p0].toArray s 0 0 A) (F0 m 95 ls []) := by
    intro n95
    induction n95 with
    | zero => intro mmI_95 mmJ_95 mm_voiceToldF_95 mm_hushToldF_95 mm_coughToldF_95 mm_earsF_95 mm_placesF_95 mm_milesToldF_95 mm_sumFromF_95 mm_frameF_95 mm_phaseF_95 mm_beginsF_95 mm_baseF_95 mm_opsF_95 mm_codeSortF_95 mm_codeValueF_95 mm_pairF_95 mm_sumBehindF_95 mm_earNameL_95 mm_placeNameL_95 mm_placeAtF_95 mm_talkToldF_95 mm_rowToldF_95 mm_sharpOfF_95 mm_nightOfF_95 mm_mileOfF_95 mm_roundsOfF_95 mm_talkingOfF_95 mm_hushOfF_95 mm_rowOfF_95 mm_keptManyF_95 mm_talkOfF_95 mm_refusedF_95 x1_95 ls H locs hf; cases (show none = some (r0, r1, r2, r3, r4, r5, r6, r7, r8, r9, r10, r11, r12, r13, r14, r15, r16, r17, r18, r19, r20, r21, r22, r23, r24, r25, r26, r27, r28, r29, r30, r31, r32, r33) from hf)
    | succ n95 ih95 =>
      intro mmI_95 mmJ_95 mm_voiceToldF_95 mm_hushToldF_95 mm_coughToldF_95 mm_earsF_95 mm_placesF_95 mm_milesToldF_95 mm_sumFromF_95 mm_frameF_95 mm_phaseF_95 mm_beginsF_95 mm_baseF_95 mm_opsF_95 mm_codeSortF_95 mm_codeValueF_95 mm_pairF_95 mm_sumBehindF_95 mm_earNameL_95 mm_placeNameL_95 mm_placeAtF_95 mm_talkToldF_95 mm_rowToldF_95 mm_sharpOfF_95 mm_nightOfF_95 mm_mileOfF_95 mm_roundsOfF_95 mm_talkingOfF_95 mm_hushOfF_95 mm_rowOfF_95 mm_keptManyF_95 mm_talkOfF_95 mm_refusedF_95 x1_95 ls H locs hf hP hD hS hl
      have hf : fX12_house_l95 N mm_tapeF (xq_loop (fX12_house_l95 N mm_tapeF) n95) (mmI_95, mmJ_95, mm_voiceToldF_95, mm_hushToldF_95, mm_coughToldF_95, mm_earsF_95, mm_placesF_95, mm_milesToldF_95, mm_sumFromF_95, mm_frameF_95, mm_phaseF_95, mm_beginsF_95, mm_baseF_95, mm_opsF_95, mm_codeSortF_95, mm_codeValueF_95, mm_pairF_95, mm_sumBehindF_95, mm_earNameL_95, mm_placeNameL_95, mm_placeAtF_95, mm_talkToldF_95, mm_rowToldF_95, mm_sharpOfF_95, mm_nightOfF_95, mm_mileOfF_95, mm_roundsOfF_95, mm_talkingOfF_95, mm_hushOfF_95, mm_rowOfF_95, mm_keptManyF_95, mm_talkOfF_95, mm_refusedF_95, x1_95) = some (r0, r1, r2, r3, r4, r5, r6, r7, r8, r9, r10, r11, r12, r13, r14, r15, r16, r17, r18, r19, r20, r21, r22, r23, r24, r25, r26, r27, r28, r29, r30, r31, r32, r33) := hf
      unfold fX12_house_l95 at hf
      refine lv_iload_n hx hb dX12_house_95 rfl (lv_at hl 1 rfl) ?_
      refine lv_iconst (v := 3) hx hb dX12_house_96 (by decide) ?_
      refine lv_aload_n hx hb dX12_house_97 rfl (lv_at hl 0 rfl) ?_
      refine va_get (D := (dC, dI)) (ci := 12) (v := .int (mmI_95 31)) (C := RX12) (T := TX12) (N := 70) hx hb hts hinX12 hown hK hP 0 rfl rfl 31 (by decide) hw7 (fun _ h9 => h9) rfl dX12_house_98 ?_
      refine lv_imul hx hb dX12_house_101 ?_
      refine lv_iconst (v := 3) hx hb dX12_house_102 (by decide) ?_
      refine lv_iadd hx hb dX12_house_103 ?_
      refine lv_icmp_ge (tgt := 120) hx hb dX12_house_104 (by decide) (fun c_ => ?_) (fun c_ => ?_)
      · have hf := xq_pos hf c_
        refine lv_aload_n hx hb dX12_house_120 rfl (lv_at hl 0 rfl) ?_
        refine lv_iconst (v := 0) hx hb dX12_house_121 (by decide) ?_
        refine va_put (D := (dC, dI)) (ci := 12) (v := .int 0) (ty := .int) (C := RX12) (T := TX12) (N := 70) hx hb hts hinX12 tyX12 tyX12_ok nmX12 hown hK hP hD hS 0 rfl rfl 30 (by decide) hw13 (fun _ h9 => h9) rfl (by decide +kernel) rfl rfl (Nat.le_of_ble_eq_true rfl) dX12_house_122 (fun H locs hP hD hS => ?_)
        have hP : va_P (dC, dI) vwCl [(a_p0, .inr (12, oX12 (va_up mmI_95 30 0) mmJ_95 mmR)), ((mmR 15), .inl (cI, 2, .inl mm_voiceToldF_95)), ((mmR 16), .inl (cI, 2, .inl mm_hushToldF_95)), ((mmR 17), .inl (cI, 2, .inl mm_coughToldF_95)), ((mmR 18), .inl (cI, 2, .inl mm_earsF_95)), ((mmR 21), .inl (cI, 2, .inl mm_placesF_95)), ((mmR 0), .inl (cI, 1800, .inl mm_tapeF)), ((mmR 14), .inl (cI, 2, .inl mm_milesToldF_95)), ((mmR 24), .inl (cI, 6, .inl mm_sumFromF_95)), ((mmR 33), .inl (cI, 20, .inl mm_frameF_95)), ((mmR 34), .inl (cI, 20, .inl mm_phaseF_95)), ((mmR 35), .inl (cZ, 20, .inl mm_beginsF_95)), ((mmR 37), .inl (cI, 20, .inl mm_baseF_95)), ((mmR 40), .inl (cI, 500, .inl mm_opsF_95)), ((mmR 26), .inl (cI, 3200, .inl mm_codeSortF_95)), ((mmR 27), .inl (cI, 3200, .inl mm_codeValueF_95)), ((mmR 36), .inl (cI, 20, .inl mm_pairF_95)), ((mmR 25), .inl (cI, 6, .inl mm_sumBehindF_95)), ((mmR 28), .inl (cJ, 14, .inr (.inl mm_earNameL_95))), ((mmR 29), .inl (cJ, 12, .inr (.inl mm_placeNameL_95))), ((mmR 22), .inl (cI, 12, .inl mm_placeAtF_95)), ((mmR 23), .inl (cI, 12, .inl mm_talkToldF_95)), ((mmR 19), .inl (cI, 14, .inl mm_rowToldF_95)), ((mmR 20), .inl (cI, 14, .inl mm_sharpOfF_95)), ((mmR 45), .inl (cI, 22, .inl mm_nightOfF_95)), ((mmR 46), .inl (cI, 22, .inl mm_mileOfF_95)), ((mmR 47), .inl (cI, 22, .inl mm_roundsOfF_95)), ((mmR 48), .inl (cI, 22, .inl mm_talkingOfF_95)), ((mmR 49), .inl (cI, 22, .inl mm_hushOfF_95)), ((mmR 50), .inl (cI, 154, .inl mm_rowOfF_95)), ((mmR 52), .inl (cI, 22, .inl mm_keptManyF_95)), ((mmR 51), .inl (cI, 132, .inl mm_talkOfF_95)), ((mmR 44), .inl (cI, 6, .inl mm_refusedF_95))] H := hP
        have hD : va_D A [(a_p0, .inr (12, oX12 (va_up mmI_95 30 0) mmJ_95 mmR)), ((mmR 15), .inl (cI, 2, .inl mm_voiceToldF_95)), ((mmR 16), .inl (cI, 2, .inl mm_hushToldF_95)), ((mmR 17), .inl (cI, 2, .inl mm_coughToldF_95)), ((mmR 18), .inl (cI, 2, .inl mm_earsF_95)), ((mmR 21), .inl (cI, 2, .inl mm_placesF_95)), ((mmR 0), .inl (cI, 1800, .inl mm_tapeF)), ((mmR 14), .inl (cI, 2, .inl mm_milesToldF_95)), ((mmR 24), .inl (cI, 6, .inl mm_sumFromF_95)), ((mmR 33), .inl (cI, 20, .inl mm_frameF_95)), ((mmR 34), .inl (cI, 20, .inl mm_phaseF_95)), ((mmR 35), .inl (cZ, 20, .inl mm_beginsF_95)), ((mmR 37), .inl (cI, 20, .inl mm_baseF_95)), ((mmR 40), .inl (cI, 500, .inl mm_opsF_95)), ((mmR 26), .inl (cI, 3200, .inl mm_codeSortF_95)), ((mmR 27), .inl (cI, 3200, .inl mm_codeValueF_95)), ((mmR 36), .inl (cI, 20, .inl mm_pairF_95)), ((mmR 25), .inl (cI, 6, .inl mm_sumBehindF_95)), ((mmR 28), .inl (cJ, 14, .inr (.inl mm_earNameL_95))), ((mmR 29), .inl (cJ, 12, .inr (.inl mm_placeNameL_95))), ((mmR 22), .inl (cI, 12, .inl mm_placeAtF_95)), ((mmR 23), .inl (cI, 12, .inl mm_talkToldF_95)), ((mmR 19), .inl (cI, 14, .inl mm_rowToldF_95)), ((mmR 20), .inl (cI, 14, .inl mm_sharpOfF_95)), ((mmR 45), .inl (cI, 22, .inl mm_nightOfF_95)), ((mmR 46), .inl (cI, 22, .inl mm_mileOfF_95)), ((mmR 47), .inl (cI, 22, .inl mm_roundsOfF_95)), ((mmR 48), .inl (cI, 22, .inl mm_talkingOfF_95)), ((mmR 49), .inl (cI, 22, .inl mm_hushOfF_95)), ((mmR 50), .inl (cI, 154, .inl mm_rowOfF_95)), ((mmR 52), .inl (cI, 22, .inl mm_keptManyF_95)), ((mmR 51), .inl (cI, 132, .inl mm_talkOfF_95)), ((mmR 44), .inl (cI, 6, .inl mm_refusedF_95))] := hD
        refine lv_iconst (v := 1) hx hb dX12_house_125 (by decide) ?_
        refine lv_istore_n (lv' := [(1, .int 1), (0, .ref a_p0)]) hx hb dX12_house_126 rfl hl (by decide) rfl (fun ls hl => ?_)
        refine lv_aload_n hx hb dX12_house_127 rfl (lv_at hl 1 rfl) ?_
        obtain ⟨⟨r_1_0, r_1_1⟩, h_2, hf⟩ := xq_bd_some hf
        refine xq_callV (As := []) (rest := []) (ci := 12) (q0 := 0) ⟨hx, hb, hml, hown, hts⟩ (kX12_ahead l dC dI cI cB cJ cZ cM z ad N a_p0 ((va_up mmI_95 30 0)) mmJ_95 mmR mm_tapeF h_2) (cwV 0 hts gX12_house_X12_ahead rfl rfl rfl (by decide +kernel) ⟨Nat.le_of_ble_eq_true rfl, Nat.le_of_ble_eq_true rfl⟩) hN hK hP hD hS hA [0, 6] (by decide) rfl rfl rfl rfl rfl rfl hl.1 rfl (Nat.le_of_ble_eq_true rfl) dX12_house_128 ⟨Nat.zero_le _, Nat.zero_le _⟩ (fun H locs hP hD hS => ?_)
        have hP : va_P (dC, dI) vwCl [(a_p0, .inr (12, oX12 r_1_0 r_1_1 mmR)), ((mmR 15), .inl (cI, 2, .inl mm_voiceToldF_95)), ((mmR 16), .inl (cI, 2, .inl mm_hushToldF_95)), ((mmR 17), .inl (cI, 2, .inl mm_coughToldF_95)), ((mmR 18), .inl (cI, 2, .inl mm_earsF_95)), ((mmR 21), .inl (cI, 2, .inl mm_placesF_95)), ((mmR 0), .inl (cI, 1800, .inl mm_tapeF)), ((mmR 14), .inl (cI, 2, .inl mm_milesToldF_95)), ((mmR 24), .inl (cI, 6, .inl mm_sumFromF_95)), ((mmR 33), .inl (cI, 20, .inl mm_frameF_95)), ((mmR 34), .inl (cI, 20, .inl mm_phaseF_95)), ((mmR 35), .inl (cZ, 20, .inl mm_beginsF_95)), ((mmR 37), .inl (cI, 20, .inl mm_baseF_95)), ((mmR 40), .inl (cI, 500, .inl mm_opsF_95)), ((mmR 26), .inl (cI, 3200, .inl mm_codeSortF_95)), ((mmR 27), .inl (cI, 3200, .inl mm_codeValueF_95)), ((mmR 36), .inl (cI, 20, .inl mm_pairF_95)), ((mmR 25), .inl (cI, 6, .inl mm_sumBehindF_95)), ((mmR 28), .inl (cJ, 14, .inr (.inl mm_earNameL_95))), ((mmR 29), .inl (cJ, 12, .inr (.inl mm_placeNameL_95))), ((mmR 22), .inl (cI, 12, .inl mm_placeAtF_95)), ((mmR 23), .inl (cI, 12, .inl mm_talkToldF_95)), ((mmR 19), .inl (cI, 14, .inl mm_rowToldF_95)), ((mmR 20), .inl (cI, 14, .inl mm_sharpOfF_95)), ((mmR 45), .inl (cI, 22, .inl mm_nightOfF_95)), ((mmR 46), .inl (cI, 22, .inl mm_mileOfF_95)), ((mmR 47), .inl (cI, 22, .inl mm_roundsOfF_95)), ((mmR 48), .inl (cI, 22, .inl mm_talkingOfF_95)), ((mmR 49), .inl (cI, 22, .inl mm_hushOfF_95)), ((mmR 50), .inl (cI, 154, .inl mm_rowOfF_95)), ((mmR 52), .inl (cI, 22, .inl mm_keptManyF_95)), ((mmR 51), .inl (cI, 132, .inl mm_talkOfF_95)), ((mmR 44), .inl (cI, 6, .inl mm_refusedF_95))] H := hP
        have hD : va_D A [(a_p0, .inr (12, oX12 r_1_0 r_1_1 mmR)), ((mmR 15), .inl (cI, 2, .inl mm_voiceToldF_95)), ((mmR 16), .inl (cI, 2, .inl mm_hushToldF_95)), ((mmR 17), .inl (cI, 2, .inl mm_coughToldF_95)), ((mmR 18), .inl (cI, 2, .inl mm_earsF_95)), ((mmR 21), .inl (cI, 2, .inl mm_placesF_95)), ((mmR 0), .inl (cI, 1800, .inl mm_tapeF)), ((mmR 14), .inl (cI, 2, .inl mm_milesToldF_95)), ((mmR 24), .inl (cI, 6, .inl mm_sumFromF_95)), ((mmR 33), .inl (cI, 20, .inl mm_frameF_95)), ((mmR 34), .inl (cI, 20, .inl mm_phaseF_95)), ((mmR 35), .inl (cZ, 20, .inl mm_beginsF_95)), ((mmR 37), .inl (cI, 20, .inl mm_baseF_95)), ((mmR 40), .inl (cI, 500, .inl mm_opsF_95)), ((mmR 26), .inl (cI, 3200, .inl mm_codeSortF_95)), ((mmR 27), .inl (cI, 3200, .inl mm_codeValueF_95)), ((mmR 36), .inl (cI, 20, .inl mm_pairF_95)), ((mmR 25), .inl (cI, 6, .inl mm_sumBehindF_95)), ((mmR 28), .inl (cJ, 14, .inr (.inl mm_earNameL_95))), ((mmR 29), .inl (cJ, 12, .inr (.inl mm_placeNameL_95))), ((mmR 22), .inl (cI, 12, .inl mm_placeAtF_95)), ((mmR 23), .inl (cI, 12, .inl mm_talkToldF_95)), ((mmR 19), .inl (cI, 14, .inl mm_rowToldF_95)), ((mmR 20), .inl (cI, 14, .inl mm_sharpOfF_95)), ((mmR 45), .inl (cI, 22, .inl mm_nightOfF_95)), ((mmR 46), .inl (cI, 22, .inl mm_mileOfF_95)), ((mmR 47), .inl (cI, 22, .inl mm_roundsOfF_95)), ((mmR 48), .inl (cI, 22, .inl mm_talkingOfF_95)), ((mmR 49), .inl (cI, 22, .inl mm_hushOfF_95)), ((mmR 50), .inl (cI, 154, .inl mm_rowOfF_95)), ((mmR 52), .inl (cI, 22, .inl mm_keptManyF_95)), ((mmR 51), .inl (cI, 132, .inl mm_talkOfF_95)), ((mmR 44), .inl (cI, 6, .inl mm_refusedF_95))] := hD
        refine W.eq (g2 := F0 m 131 ls []) rfl ?_
        refine lv_aload_n hx hb dX12_house_131 rfl (lv_at hl 1 rfl) ?_
        obtain ⟨⟨r_3_0, r_3_1, r_3_2⟩, h_4, hf⟩ := xq_bd_some hf
        refine xq_callV (As := []) (rest := []) (ci := 12) (q0 := 0) ⟨hx, hb, hml, hown, hts⟩ (kX12_rounding l dC dI cI cB cJ cZ cM z ad N a_p0 r_1_0 r_1_1 mmR mm_tapeF mm_milesToldF_95 h_4) (cwV 0 hts gX12_house_X12_rounding rfl rfl rfl (by decide +kernel) ⟨Nat.le_of_ble_eq_true rfl, Nat.le_of_ble_eq_true rfl⟩) hN hK hP hD hS hA [0, 6, 7] (by decide) rfl rfl rfl rfl rfl rfl hl.1 rfl (Nat.le_of_ble_eq_true rfl) dX12_house_132 ⟨Nat.zero_le _, Nat.zero_le _⟩ (fun H locs hP hD hS => ?_)
        have hP : va_P (dC, dI) vwCl [(a_p0, .inr (12, oX12 r_3_0 r_3_1 mmR)), ((mmR 15), .inl (cI, 2, .inl mm_voiceToldF_95)), ((mmR 16), .inl (cI, 2, .inl mm_hushToldF_95)), ((mmR 17), .inl (cI, 2, .inl mm_coughToldF_95)), ((mmR 18), .inl (cI, 2, .inl mm_earsF_95)), ((mmR 21), .inl (cI, 2, .inl mm_placesF_95)), ((mmR 0), .inl (cI, 1800, .inl mm_tapeF)), ((mmR 14), .inl (cI, 2, .inl r_3_2)), ((mmR 24), .inl (cI, 6, .inl mm_sumFromF_95)), ((mmR 33), .inl (cI, 20, .inl mm_frameF_95)), ((mmR 34), .inl (cI, 20, .inl mm_phaseF_95)), ((mmR 35), .inl (cZ, 20, .inl mm_beginsF_95)), ((mmR 37), .inl (cI, 20, .inl mm_baseF_95)), ((mmR 40), .inl (cI, 500, .inl mm_opsF_95)), ((mmR 26), .inl (cI, 3200, .inl mm_codeSortF_95)), ((mmR 27), .inl (cI, 3200, .inl mm_codeValueF_95)), ((mmR 36), .inl (cI, 20, .inl mm_pairF_95)), ((mmR 25), .inl (cI, 6, .inl mm_sumBehindF_95)), ((mmR 28), .inl (cJ, 14, .inr (.inl mm_earNameL_95))), ((mmR 29), .inl (cJ, 12, .inr (.inl mm_placeNameL_95))), ((mmR 22), .inl (cI, 12, .inl mm_placeAtF_95)), ((mmR 23), .inl (cI, 12, .inl mm_talkToldF_95)), ((mmR 19), .inl (cI, 14, .inl mm_rowToldF_95)), ((mmR 20), .inl (cI, 14, .inl mm_sharpOfF_95)), ((mmR 45), .inl (cI, 22, .inl mm_nightOfF_95)), ((mmR 46), .inl (cI, 22, .inl mm_mileOfF_95)), ((mmR 47), .inl (cI, 22, .inl mm_roundsOfF_95)), ((mmR 48), .inl (cI, 22, .inl mm_talkingOfF_95)), ((mmR 49), .inl (cI, 22, .inl mm_hushOfF_95)), ((mmR 50), .inl (cI, 154, .inl mm_rowOfF_95)), ((mmR 52), .inl (cI, 22, .inl mm_keptManyF_95)), ((mmR 51), .inl (cI, 132, .inl mm_talkOfF_95)), ((mmR 44), .inl (cI, 6, .inl mm_refusedF_95))] H := hP
        have hD : va_D A [(a_p0, .inr (12, oX12 r_3_0 r_3_1 mmR)), ((mmR 15), .inl (cI, 2, .inl mm_voiceToldF_95)), ((mmR 16), .inl (cI, 2, .inl mm_hushToldF_95)), ((mmR 17), .inl (cI, 2, .inl mm_coughToldF_95)), ((mmR 18), .inl (cI, 2, .inl mm_earsF_95)), ((mmR 21), .inl (cI, 2, .inl mm_placesF_95)), ((mmR 0), .inl (cI, 1800, .inl mm_tapeF)), ((mmR 14), .inl (cI, 2, .inl r_3_2)), ((mmR 24), .inl (cI, 6, .inl mm_sumFromF_95)), ((mmR 33), .inl (cI, 20, .inl mm_frameF_95)), ((mmR 34), .inl (cI, 20, .inl mm_phaseF_95)), ((mmR 35), .inl (cZ, 20, .inl mm_beginsF_95)), ((mmR 37), .inl (cI, 20, .inl mm_baseF_95)), ((mmR 40), .inl (cI, 500, .inl mm_opsF_95)), ((mmR 26), .inl (cI, 3200, .inl mm_codeSortF_95)), ((mmR 27), .inl (cI, 3200, .inl mm_codeValueF_95)), ((mmR 36), .inl (cI, 20, .inl mm_pairF_95)), ((mmR 25), .inl (cI, 6, .inl mm_sumBehindF_95)), ((mmR 28), .inl (cJ, 14, .inr (.inl mm_earNameL_95))), ((mmR 29), .inl (cJ, 12, .inr (.inl mm_placeNameL_95))), ((mmR 22), .inl (cI, 12, .inl mm_placeAtF_95)), ((mmR 23), .inl (cI, 12, .inl mm_talkToldF_95)), ((mmR 19), .inl (cI, 14, .inl mm_rowToldF_95)), ((mmR 20), .inl (cI, 14, .inl mm_sharpOfF_95)), ((mmR 45), .inl (cI, 22, .inl mm_nightOfF_95)), ((mmR 46), .inl (cI, 22, .inl mm_mileOfF_95)), ((mmR 47), .inl (cI, 22, .inl mm_roundsOfF_95)), ((mmR 48), .inl (cI, 22, .inl mm_talkingOfF_95)), ((mmR 49), .inl (cI, 22, .inl mm_hushOfF_95)), ((mmR 50), .inl (cI, 154, .inl mm_rowOfF_95)), ((mmR 52), .inl (cI, 22, .inl mm_keptManyF_95)), ((mmR 51), .inl (cI, 132, .inl mm_talkOfF_95)), ((mmR 44), .inl (cI, 6, .inl mm_refusedF_95))] := hD
        refine W.eq (g2 := F0 m 135 ls []) rfl ?_
        refine lv_aload_n hx hb dX12_house_135 rfl (lv_at hl 1 rfl) ?_
        refine lv_iload_n hx hb dX12_house_136 rfl (lv_at hl 0 rfl) ?_
        obtain ⟨⟨r_5_0, r_5_1⟩, h_6, hf⟩ := xq_bd_some hf
        refine xq_callV (As := [.int 1]) (rest := []) (ci := 12) (q0 := 0) ⟨hx, hb, hml, hown, hts⟩ (kX12_finishes l dC dI cI cB cJ cZ cM z ad N a_p0 r_3_0 r_3_1 mmR mm_tapeF 1 h_6) (cwV 1 hts gX12_house_X12_finishes rfl rfl rfl (by decide +kernel) ⟨Nat.le_of_ble_eq_true rfl, Nat.le_of_ble_eq_true rfl⟩) hN hK hP hD hS hA [0, 6] (by decide) rfl rfl rfl rfl rfl rfl hl.1 rfl (Nat.le_of_ble_eq_true rfl) dX12_house_137 ⟨Nat.zero_le _, Nat.zero_le _⟩ (fun H locs hP hD hS => ?_)
        have hP : va_P (dC, dI) vwCl [(a_p0, .inr (12, oX12 r_5_0 r_5_1 mmR)), ((mmR 15), .inl (cI, 2, .inl mm_voiceToldF_95)), ((mmR 16), .inl (cI, 2, .inl mm_hushToldF_95)), ((mmR 17), .inl (cI, 2, .inl mm_coughToldF_95)), ((mmR 18), .inl (cI, 2, .inl mm_earsF_95)), ((mmR 21), .inl (cI, 2, .inl mm_placesF_95)), ((mmR 0), .inl (cI, 1800, .inl mm_tapeF)), ((mmR 14), .inl (cI, 2, .inl r_3_2)), ((mmR 24), .inl (cI, 6, .inl mm_sumFromF_95)), ((mmR 33), .inl (cI, 20, .inl mm_frameF_95)), ((mmR 34), .inl (cI, 20, .inl mm_phaseF_95)), ((mmR 35), .inl (cZ, 20, .inl mm_beginsF_95)), ((mmR 37), .inl (cI, 20, .inl mm_baseF_95)), ((mmR 40), .inl (cI, 500, .inl mm_opsF_95)), ((mmR 26), .inl (cI, 3200, .inl mm_codeSortF_95)), ((mmR 27), .inl (cI, 3200, .inl mm_codeValueF_95)), ((mmR 36), .inl (cI, 20, .inl mm_pairF_95)), ((mmR 25), .inl (cI, 6, .inl mm_sumBehindF_95)), ((mmR 28), .inl (cJ, 14, .inr (.inl mm_earNameL_95))), ((mmR 29), .inl (cJ, 12, .inr (.inl mm_placeNameL_95))), ((mmR 22), .inl (cI, 12, .inl mm_placeAtF_95)), ((mmR 23), .inl (cI, 12, .inl mm_talkToldF_95)), ((mmR 19), .inl (cI, 14, .inl mm_rowToldF_95)), ((mmR 20), .inl (cI, 14, .inl mm_sharpOfF_95)), ((mmR 45), .inl (cI, 22, .inl mm_nightOfF_95)), ((mmR 46), .inl (cI, 22, .inl mm_mileOfF_95)), ((mmR 47), .inl (cI, 22, .inl mm_roundsOfF_95)), ((mmR 48), .inl (cI, 22, .inl mm_talkingOfF_95)), ((mmR 49), .inl (cI, 22, .inl mm_hushOfF_95)), ((mmR 50), .inl (cI, 154, .inl mm_rowOfF_95)), ((mmR 52), .inl (cI, 22, .inl mm_keptManyF_95)), ((mmR 51), .inl (cI, 132, .inl mm_talkOfF_95)), ((mmR 44), .inl (cI, 6, .inl mm_refusedF_95))] H := hP
        have hD : va_D A [(a_p0, .inr (12, oX12 r_5_0 r_5_1 mmR)), ((mmR 15), .inl (cI, 2, .inl mm_voiceToldF_95)), ((mmR 16), .inl (cI, 2, .inl mm_hushToldF_95)), ((mmR 17), .inl (cI, 2, .inl mm_coughToldF_95)), ((mmR 18), .inl (cI, 2, .inl mm_earsF_95)), ((mmR 21), .inl (cI, 2, .inl mm_placesF_95)), ((mmR 0), .inl (cI, 1800, .inl mm_tapeF)), ((mmR 14), .inl (cI, 2, .inl r_3_2)), ((mmR 24), .inl (cI, 6, .inl mm_sumFromF_95)), ((mmR 33), .inl (cI, 20, .inl mm_frameF_95)), ((mmR 34), .inl (cI, 20, .inl mm_phaseF_95)), ((mmR 35), .inl (cZ, 20, .inl mm_beginsF_95)), ((mmR 37), .inl (cI, 20, .inl mm_baseF_95)), ((mmR 40), .inl (cI, 500, .inl mm_opsF_95)), ((mmR 26), .inl (cI, 3200, .inl mm_codeSortF_95)), ((mmR 27), .inl (cI, 3200, .inl mm_codeValueF_95)), ((mmR 36), .inl (cI, 20, .inl mm_pairF_95)), ((mmR 25), .inl (cI, 6, .inl mm_sumBehindF_95)), ((mmR 28), .inl (cJ, 14, .inr (.inl mm_earNameL_95))), ((mmR 29), .inl (cJ, 12, .inr (.inl mm_placeNameL_95))), ((mmR 22), .inl (cI, 12, .inl mm_placeAtF_95)), ((mmR 23), .inl (cI, 12, .inl mm_talkToldF_95)), ((mmR 19), .inl (cI, 14, .inl mm_rowToldF_95)), ((mmR 20), .inl (cI, 14, .inl mm_sharpOfF_95)), ((mmR 45), .inl (cI, 22, .inl mm_nightOfF_95)), ((mmR 46), .inl (cI, 22, .inl mm_mileOfF_95)), ((mmR 47), .inl (cI, 22, .inl mm_roundsOfF_95)), ((mmR 48), .inl (cI, 22, .inl mm_talkingOfF_95)), ((mmR 49), .inl (cI, 22, .inl mm_hushOfF_95)), ((mmR 50), .inl (cI, 154, .inl mm_rowOfF_95)), ((mmR 52), .inl (cI, 22, .inl mm_keptManyF_95)), ((mmR 51), .inl (cI, 132, .inl mm_talkOfF_95)), ((mmR 44), .inl (cI, 6, .inl mm_refusedF_95))] := hD
        refine W.eq (g2 := F0 m 140 ls []) rfl ?_
        exact l140 N r_5_0 r_5_1 mm_voiceToldF_95 mm_hushToldF_95 mm_coughToldF_95 mm_earsF_95 mm_placesF_95 r_3_2 mm_sumFromF_95 mm_frameF_95 mm_phaseF_95 mm_beginsF_95 mm_baseF_95 mm_opsF_95 mm_codeSortF_95 mm_codeValueF_95 mm_pairF_95 mm_sumBehindF_95 mm_earNameL_95 mm_placeNameL_95 mm_placeAtF_95 mm_talkToldF_95 mm_rowToldF_95 mm_sharpOfF_95 mm_nightOfF_95 mm_mileOfF_95 mm_roundsOfF_95 mm_talkingOfF_95 mm_hushOfF_95 mm_rowOfF_95 mm_keptManyF_95 mm_talkOfF_95 mm_refusedF_95 1 _ _ _ hf hP hD hS (lv_sub hl [1, 0] rfl)
      · have hf := xq_neg hf c_
        refine lv_aload_n hx hb dX12_house_107 rfl (lv_at hl 0 rfl) ?_
        refine va_get (D := (dC, dI)) (ci := 12) (v := .ref ((mmR 24))) (C := RX12) (T := TX12) (N := 70) hx hb hts hinX12 hown hK hP 0 rfl rfl 24 (by decide) hw14 (fun _ h9 => h9) rfl dX12_house_108 ?_
        refine lv_iload_n hx hb dX12_house_111 rfl (lv_at hl 1 rfl) ?_
        refine lv_iconst (v := (-1)) hx hb dX12_house_112 (by decide) ?_
        refine xq_iast hx hb hK hP hD hS 8 0 rfl rfl hf dX12_house_113 (fun g_7 H locs hf hP hD hS => ?_)
        have hP : va_P (dC, dI) vwCl [(a_p0, .inr (12, oX12 mmI_95 mmJ_95 mmR)), ((mmR 15), .inl (cI, 2, .inl mm_voiceToldF_95)), ((mmR 16), .inl (cI, 2, .inl mm_hushToldF_95)), ((mmR 17), .inl (cI, 2, .inl mm_coughToldF_95)), ((mmR 18), .inl (cI, 2, .inl mm_earsF_95)), ((mmR 21), .inl (cI, 2, .inl mm_placesF_95)), ((mmR 0), .inl (cI, 1800, .inl mm_tapeF)), ((mmR 14), .inl (cI, 2, .inl mm_milesToldF_95)), ((mmR 24), .inl (cI, 6, .inl g_7)), ((mmR 33), .inl (cI, 20, .inl mm_frameF_95)), ((mmR 34), .inl (cI, 20, .inl mm_phaseF_95)), ((mmR 35), .inl (cZ, 20, .inl mm_beginsF_95)), ((mmR 37), .inl (cI, 20, .inl mm_baseF_95)), ((mmR 40), .inl (cI, 500, .inl mm_opsF_95)), ((mmR 26), .inl (cI, 3200, .inl mm_codeSortF_95)), ((mmR 27), .inl (cI, 3200, .inl mm_codeValueF_95)), ((mmR 36), .inl (cI, 20, .inl mm_pairF_95)), ((mmR 25), .inl (cI, 6, .inl mm_sumBehindF_95)), ((mmR 28), .inl (cJ, 14, .inr (.inl mm_earNameL_95))), ((mmR 29), .inl (cJ, 12, .inr (.inl mm_placeNameL_95))), ((mmR 22), .inl (cI, 12, .inl mm_placeAtF_95)), ((mmR 23), .inl (cI, 12, .inl mm_talkToldF_95)), ((mmR 19), .inl (cI, 14, .inl mm_rowToldF_95)), ((mmR 20), .inl (cI, 14, .inl mm_sharpOfF_95)), ((mmR 45), .inl (cI, 22, .inl mm_nightOfF_95)), ((mmR 46), .inl (cI, 22, .inl mm_mileOfF_95)), ((mmR 47), .inl (cI, 22, .inl mm_roundsOfF_95)), ((mmR 48), .inl (cI, 22, .inl mm_talkingOfF_95)), ((mmR 49), .inl (cI, 22, .inl mm_hushOfF_95)), ((mmR 50), .inl (cI, 154, .inl mm_rowOfF_95)), ((mmR 52), .inl (cI, 22, .inl mm_keptManyF_95)), ((mmR 51), .inl (cI, 132, .inl mm_talkOfF_95)), ((mmR 44), .inl (cI, 6, .inl mm_refusedF_95))] H := hP
        have hD : va_D A [(a_p0, .inr (12, oX12 mmI_95 mmJ_95 mmR)), ((mmR 15), .inl (cI, 2, .inl mm_voiceToldF_95)), ((mmR 16), .inl (cI, 2, .inl mm_hushToldF_95)), ((mmR 17), .inl (cI, 2, .inl mm_coughToldF_95)), ((mmR 18), .inl (cI, 2, .inl mm_earsF_95)), ((mmR 21), .inl (cI, 2, .inl mm_placesF_95)), ((mmR 0), .inl (cI, 1800, .inl mm_tapeF)), ((mmR 14), .inl (cI, 2, .inl mm_milesToldF_95)), ((mmR 24), .inl (cI, 6, .inl g_7)), ((mmR 33), .inl (cI, 20, .inl mm_frameF_95)), ((mmR 34), .inl (cI, 20, .inl mm_phaseF_95)), ((mmR 35), .inl (cZ, 20, .inl mm_beginsF_95)), ((mmR 37), .inl (cI, 20, .inl mm_baseF_95)), ((mmR 40), .inl (cI, 500, .inl mm_opsF_95)), ((mmR 26), .inl (cI, 3200, .inl mm_codeSortF_95)), ((mmR 27), .inl (cI, 3200, .inl mm_codeValueF_95)), ((mmR 36), .inl (cI, 20, .inl mm_pairF_95)), ((mmR 25), .inl (cI, 6, .inl mm_sumBehindF_95)), ((mmR 28), .inl (cJ, 14, .inr (.inl mm_earNameL_95))), ((mmR 29), .inl (cJ, 12, .inr (.inl mm_placeNameL_95))), ((mmR 22), .inl (cI, 12, .inl mm_placeAtF_95)), ((mmR 23), .inl (cI, 12, .inl mm_talkToldF_95)), ((mmR 19), .inl (cI, 14, .inl mm_rowToldF_95)), ((mmR 20), .inl (cI, 14, .inl mm_sharpOfF_95)), ((mmR 45), .inl (cI, 22, .inl mm_nightOfF_95)), ((mmR 46), .inl (cI, 22, .inl mm_mileOfF_95)), ((mmR 47), .inl (cI, 22, .inl mm_roundsOfF_95)), ((mmR 48), .inl (cI, 22, .inl mm_talkingOfF_95)), ((mmR 49), .inl (cI, 22, .inl mm_hushOfF_95)), ((mmR 50), .inl (cI, 154, .inl mm_rowOfF_95)), ((mmR 52), .inl (cI, 22, .inl mm_keptManyF_95)), ((mmR 51), .inl (cI, 132, .inl mm_talkOfF_95)), ((mmR 44), .inl (cI, 6, .inl mm_refusedF_95))] := hD
        refine lv_iinc (v := x1_95 + 1) (lv' := [(1, .int (x1_95 + 1)), (0, .ref a_p0)]) hx hb dX12_house_114 hl (k := 1) rfl (congrArg (fun q9 => x1_95 + q9) (by decide : Int32.ofInt 1 = 1)) (by decide) rfl (fun ls hl => ?_)
        refine lv_goto (tgt := 95) hx hb dX12_house_117 (by decide) ?_
        exact ih95 mmI_95 mmJ_95 mm_voiceToldF_95 mm_hushToldF_95 mm_coughToldF_95 mm_earsF_95 mm_placesF_95 mm_milesToldF_95 g_7 mm_frameF_95 mm_phaseF_95 mm_beginsF_95 mm_baseF_95 mm_opsF_95 mm_codeSortF_95 mm_codeValueF_95 mm_pairF_95 mm_sumBehindF_95 mm_earNameL_95 mm_placeNameL_95 mm_placeAtF_95 mm_talkToldF_95 mm_rowToldF_95 mm_sharpOfF_95 mm_nightOfF_95 mm_mileOfF_95 mm_roundsOfF_95 mm_talkingOfF_95 mm_hushOfF_95 mm_rowOfF_95 mm_keptManyF_95 mm_talkOfF_95 mm_refusedF_95 (x1_95 + 1) _ _ _ hf hP hD hS (lv_sub hl [1, 0] rfl)
  unfold fX12_house at hf
  refine lv_aload_n hx hb dX12_house_0 rfl (lv_at hl 0 rfl) ?_
  refine lv_aload_n hx hb dX12_house_1 rfl (lv_at hl 0 rfl) ?_
  refine va_get (D := (dC, dI)) (ci := 12) (v := .int (mmI 1)) (C := RX12) (T := TX12) (N := 70) hx hb hts hinX12 hown hK hP 0 rfl rfl 1 (by decide) hw0 (fun _ h9 => h9) rfl dX12_house_2 ?_
  refine va_put (D := (dC, dI)) (ci := 12) (v := .int (mmI 1)) (ty := .int) (C := RX12) (T := TX12) (N := 70) hx hb hts hinX12 tyX12 tyX12_ok nmX12 hown hK hP hD hS 0 rfl rfl 2 (by decide) hw2 (fun _ h9 => h9) rfl (by decide +kernel) rfl rfl (Nat.le_of_ble_eq_true rfl) dX12_house_5 (fun H locs hP hD hS => ?_)
  have hP : va_P (dC, dI) vwCl [(a_p0, .inr (12, oX12 (va_up mmI 2 (mmI 1)) mmJ mmR)), ((mmR 15), .inl (cI, 2, .inl mm_voiceToldF)), ((mmR 16), .inl (cI, 2, .inl mm_hushToldF)), ((mmR 17), .inl (cI, 2, .inl mm_coughToldF)), ((mmR 18), .inl (cI, 2, .inl mm_earsF)), ((mmR 21), .inl (cI, 2, .inl mm_placesF)), ((mmR 0), .inl (cI, 1800, .inl mm_tapeF)), ((mmR 14), .inl (cI, 2, .inl mm_milesToldF)), ((mmR 24), .inl (cI, 6, .inl mm_sumFromF)), ((mmR 33), .inl (cI, 20, .inl mm_frameF)), ((mmR 34), .inl (cI, 20, .inl mm_phaseF)), ((mmR 35), .inl (cZ, 20, .inl mm_beginsF)), ((mmR 37), .inl (cI, 20, .inl mm_baseF)), ((mmR 40), .inl (cI, 500, .inl mm_opsF)), ((mmR 26), .inl (cI, 3200, .inl mm_codeSortF)), ((mmR 27), .inl (cI, 3200, .inl mm_codeValueF)), ((mmR 36), .inl (cI, 20, .inl mm_pairF)), ((mmR 25), .inl (cI, 6, .inl mm_sumBehindF)), ((mmR 28), .inl (cJ, 14, .inr (.inl mm_earNameL))), ((mmR 29), .inl (cJ, 12, .inr (.inl mm_placeNameL))), ((mmR 22), .inl (cI, 12, .inl mm_placeAtF)), ((mmR 23), .inl (cI, 12, .inl mm_talkToldF)), ((mmR 19), .inl (cI, 14, .inl mm_rowToldF)), ((mmR 20), .inl (cI, 14, .inl mm_sharpOfF)), ((mmR 45), .inl (cI, 22, .inl mm_nightOfF)), ((mmR 46), .inl (cI, 22, .inl mm_mileOfF)), ((mmR 47), .inl (cI, 22, .inl mm_roundsOfF)), ((mmR 48), .inl (cI, 22, .inl mm_talkingOfF)), ((mmR 49), .inl (cI, 22, .inl mm_hushOfF)), ((mmR 50), .inl (cI, 154, .inl mm_rowOfF)), ((mmR 52), .inl (cI, 22, .inl mm_keptManyF)), ((mmR 51), .inl (cI, 132, .inl mm_talkOfF)), ((mmR 44), .inl (cI, 6, .inl mm_refusedF))] H := hP
  have hD : va_D A [(a_p0, .inr (12, oX12 (va_up mmI 2 (mmI 1)) mmJ mmR)), ((mmR 15), .inl (cI, 2, .inl mm_voiceToldF)), ((mmR 16), .inl (cI, 2, .inl mm_hushToldF)), ((mmR 17), .inl (cI, 2, .inl mm_coughToldF)), ((mmR 18), .inl (cI, 2, .inl mm_earsF)), ((mmR 21), .inl (cI, 2, .inl mm_placesF)), ((mmR 0), .inl (cI, 1800, .inl mm_tapeF)), ((mmR 14), .inl (cI, 2, .inl mm_milesToldF)), ((mmR 24), .inl (cI, 6, .inl mm_sumFromF)), ((mmR 33), .inl (cI, 20, .inl mm_frameF)), ((mmR 34), .inl (cI, 20, .inl mm_phaseF)), ((mmR 35), .inl (cZ, 20, .inl mm_beginsF)), ((mmR 37), .inl (cI, 20, .inl mm_baseF)), ((mmR 40), .inl (cI, 500, .inl mm_opsF)), ((mmR 26), .inl (cI, 3200, .inl mm_codeSortF)), ((mmR 27), .inl (cI, 3200, .inl mm_codeValueF)), ((mmR 36), .inl (cI, 20, .inl mm_pairF)), ((mmR 25), .inl (cI, 6, .inl mm_sumBehindF)), ((mmR 28), .inl (cJ, 14, .inr (.inl mm_earNameL))), ((mmR 29), .inl (cJ, 12, .inr (.inl mm_placeNameL))), ((mmR 22), .inl (cI, 12, .inl mm_placeAtF)), ((mmR 23), .inl (cI, 12, .inl mm_talkToldF)), ((mmR 19), .inl (cI, 14, .inl mm_rowToldF)), ((mmR 20), .inl (cI, 14, .inl mm_sharpOfF)), ((mmR 45), .inl (cI, 22, .inl mm_nightOfF)), ((mmR 46), .inl (cI, 22, .inl mm_mileOfF)), ((mmR 47), .inl (cI, 22, .inl mm_roundsOfF)), ((mmR 48), .inl (cI, 22, .inl mm_talkingOfF)), ((mmR 49), .inl (cI, 22, .inl mm_hushOfF)), ((mmR 50), .inl (cI, 154, .inl mm_rowOfF)), ((mmR 52), .inl (cI, 22, .inl mm_keptManyF)), ((mmR 51), .inl (cI, 132, .inl mm_talkOfF)), ((mmR 44), .inl (cI, 6, .inl mm_refusedF))] := hD
  refine lv_aload_n hx hb dX12_house_8 rfl (lv_at hl 0 rfl) ?_
  refine lv_iconst (v := 0) hx hb dX12_house_9 (by decide) ?_
  refine va_put (D := (dC, dI)) (ci := 12) (v := .int 0) (ty := .int) (C := RX12) (T := TX12) (N := 70) hx hb hts hinX12 tyX12 tyX12_ok nmX12 hown hK hP hD hS 0 rfl rfl 1 (by decide) hw0 (fun _ h9 => h9) rfl (by decide +kernel) rfl rfl (Nat.le_of_ble_eq_true rfl) dX12_house_10 (fun H locs hP hD hS => ?_)
  have hP : va_P (dC, dI) vwCl [(a_p0, .inr (12, oX12 (va_up (va_up mmI 2 (mmI 1)) 1 0) mmJ mmR)), ((mmR 15), .inl (cI, 2, .inl mm_voiceToldF)), ((mmR 16), .inl (cI, 2, .inl mm_hushToldF)), ((mmR 17), .inl (cI, 2, .inl mm_coughToldF)), ((mmR 18), .inl (cI, 2, .inl mm_earsF)), ((mmR 21), .inl (cI, 2, .inl mm_placesF)), ((mmR 0), .inl (cI, 1800, .inl mm_tapeF)), ((mmR 14), .inl (cI, 2, .inl mm_milesToldF)), ((mmR 24), .inl (cI, 6, .inl mm_sumFromF)), ((mmR 33), .inl (cI, 20, .inl mm_frameF)), ((mmR 34), .inl (cI, 20, .inl mm_phaseF)), ((mmR 35), .inl (cZ, 20, .inl mm_beginsF)), ((mmR 37), .inl (cI, 20, .inl mm_baseF)), ((mmR 40), .inl (cI, 500, .inl mm_opsF)), ((mmR 26), .inl (cI, 3200, .inl mm_codeSortF)), ((mmR 27), .inl (cI, 3200, .inl mm_codeValueF)), ((mmR 36), .inl (cI, 20, .inl mm_pairF)), ((mmR 25), .inl (cI, 6, .inl mm_sumBehindF)), ((mmR 28), .inl (cJ, 14, .inr (.inl mm_earNameL))), ((mmR 29), .inl (cJ, 12, .inr (.inl mm_placeNameL))), ((mmR 22), .inl (cI, 12, .inl mm_placeAtF)), ((mmR 23), .inl (cI, 12, .inl mm_talkToldF)), ((mmR 19), .inl (cI, 14, .inl mm_rowToldF)), ((mmR 20), .inl (cI, 14, .inl mm_sharpOfF)), ((mmR 45), .inl (cI, 22, .inl mm_nightOfF)), ((mmR 46), .inl (cI, 22, .inl mm_mileOfF)), ((mmR 47), .inl (cI, 22, .inl mm_roundsOfF)), ((mmR 48), .inl (cI, 22, .inl mm_talkingOfF)), ((mmR 49), .inl (cI, 22, .inl mm_hushOfF)), ((mmR 50), .inl (cI, 154, .inl mm_rowOfF)), ((mmR 52), .inl (cI, 22, .inl mm_keptManyF)), ((mmR 51), .inl (cI, 132, .inl mm_talkOfF)), ((mmR 44), .inl (cI, 6, .inl mm_refusedF))] H := hP
  have hD : va_D A [(a_p0, .inr (12, oX12 (va_up (va_up mmI 2 (mmI 1)) 1 0) mmJ mmR)), ((mmR 15), .inl (cI, 2, .inl mm_voiceToldF)), ((mmR 16), .inl (cI, 2, .inl mm_hushToldF)), ((mmR 17), .inl (cI, 2, .inl mm_coughToldF)), ((mmR 18), .inl (cI, 2, .inl mm_earsF)), ((mmR 21), .inl (cI, 2, .inl mm_placesF)), ((mmR 0), .inl (cI, 1800, .inl mm_tapeF)), ((mmR 14), .inl (cI, 2, .inl mm_milesToldF)), ((mmR 24), .inl (cI, 6, .inl mm_sumFromF)), ((mmR 33), .inl (cI, 20, .inl mm_frameF)), ((mmR 34), .inl (cI, 20, .inl mm_phaseF)), ((mmR 35), .inl (cZ, 20, .inl mm_beginsF)), ((mmR 37), .inl (cI, 20, .inl mm_baseF)), ((mmR 40), .inl (cI, 500, .inl mm_opsF)), ((mmR 26), .inl (cI, 3200, .inl mm_codeSortF)), ((mmR 27), .inl (cI, 3200, .inl mm_codeValueF)), ((mmR 36), .inl (cI, 20, .inl mm_pairF)), ((mmR 25), .inl (cI, 6, .inl mm_sumBehindF)), ((mmR 28), .inl (cJ, 14, .inr (.inl mm_earNameL))), ((mmR 29), .inl (cJ, 12, .inr (.inl mm_placeNameL))), ((mmR 22), .inl (cI, 12, .inl mm_placeAtF)), ((mmR 23), .inl (cI, 12, .inl mm_talkToldF)), ((mmR 19), .inl (cI, 14, .inl mm_rowToldF)), ((mmR 20), .inl (cI, 14, .inl mm_sharpOfF)), ((mmR 45), .inl (cI, 22, .inl mm_nightOfF)), ((mmR 46), .inl (cI, 22, .inl mm_mileOfF)), ((mmR 47), .inl (cI, 22, .inl mm_roundsOfF)), ((mmR 48), .inl (cI, 22, .inl mm_talkingOfF)), ((mmR 49), .inl (cI, 22, .inl mm_hushOfF)), ((mmR 50), .inl (cI, 154, .inl mm_rowOfF)), ((mmR 52), .inl (cI, 22, .inl mm_keptManyF)), ((mmR 51), .inl (cI, 132, .inl mm_talkOfF)), ((mmR 44), .inl (cI, 6, .inl mm_refusedF))] := hD
  refine lv_aload_n hx hb dX12_house_13 rfl (lv_at hl 0 rfl) ?_
  refine lv_iconst (v := 0) hx hb dX12_house_14 (by decide) ?_
  refine va_put (D := (dC, dI)) (ci := 12) (v := .int 0) (ty := .int) (C := RX12) (T := TX12) (N := 70) hx hb hts hinX12 tyX12 tyX12_ok nmX12 hown hK hP hD hS 0 rfl rfl 5 (by decide) hw3 (fun _ h9 => h9) rfl (by decide +kernel) rfl rfl (Nat.le_of_ble_eq_true rfl) dX12_house_15 (fun H locs hP hD hS => ?_)
  have hP : va_P (dC, dI) vwCl [(a_p0, .inr (12, oX12 (va_up (va_up (va_up mmI 2 (mmI 1)) 1 0) 5 0) mmJ mmR)), ((mmR 15), .inl (cI, 2, .inl mm_voiceToldF)), ((mmR 16), .inl (cI, 2, .inl mm_hushToldF)), ((mmR 17), .inl (cI, 2, .inl mm_coughToldF)), ((mmR 18), .inl (cI, 2, .inl mm_earsF)), ((mmR 21), .inl (cI, 2, .inl mm_placesF)), ((mmR 0), .inl (cI, 1800, .inl mm_tapeF)), ((mmR 14), .inl (cI, 2, .inl mm_milesToldF)), ((mmR 24), .inl (cI, 6, .inl mm_sumFromF)), ((mmR 33), .inl (cI, 20, .inl mm_frameF)), ((mmR 34), .inl (cI, 20, .inl mm_phaseF)), ((mmR 35), .inl (cZ, 20, .inl mm_beginsF)), ((mmR 37), .inl (cI, 20, .inl mm_baseF)), ((mmR 40), .inl (cI, 500, .inl mm_opsF)), ((mmR 26), .inl (cI, 3200, .inl mm_codeSortF)), ((mmR 27), .inl (cI, 3200, .inl mm_codeValueF)), ((mmR 36), .inl (cI, 20, .inl mm_pairF)), ((mmR 25), .inl (cI, 6, .inl mm_sumBehindF)), ((mmR 28), .inl (cJ, 14, .inr (.inl mm_earNameL))), ((mmR 29), .inl (cJ, 12, .inr (.inl mm_placeNameL))), ((mmR 22), .inl (cI, 12, .inl mm_placeAtF)), ((mmR 23), .inl (cI, 12, .inl mm_talkToldF)), ((mmR 19), .inl (cI, 14, .inl mm_rowToldF)), ((mmR 20), .inl (cI, 14, .inl mm_sharpOfF)), ((mmR 45), .inl (cI, 22, .inl mm_nightOfF)), ((mmR 46), .inl (cI, 22, .inl mm_mileOfF)), ((mmR 47), .inl (cI, 22, .inl mm_roundsOfF)), ((mmR 48), .inl (cI, 22, .inl mm_talkingOfF)), ((mmR 49), .inl (cI, 22, .inl mm_hushOfF)), ((mmR 50), .inl (cI, 154, .inl mm_rowOfF)), ((mmR 52), .inl (cI, 22, .inl mm_keptManyF)), ((mmR 51), .inl (cI, 132, .inl mm_talkOfF)), ((mmR 44), .inl (cI, 6, .inl mm_refusedF))] H := hP
  have hD : va_D A [(a_p0, .inr (12, oX12 (va_up (va_up (va_up mmI 2 (mmI 1)) 1 0) 5 0) mmJ mmR)), ((mmR 15), .inl (cI, 2, .inl mm_voiceToldF)), ((mmR 16), .inl (cI, 2, .inl mm_hushToldF)), ((mmR 17), .inl (cI, 2, .inl mm_coughToldF)), ((mmR 18), .inl (cI, 2, .inl mm_earsF)), ((mmR 21), .inl (cI, 2, .inl mm_placesF)), ((mmR 0), .inl (cI, 1800, .inl mm_tapeF)), ((mmR 14), .inl (cI, 2, .inl mm_milesToldF)), ((mmR 24), .inl (cI, 6, .inl mm_sumFromF)), ((mmR 33), .inl (cI, 20, .inl mm_frameF)), ((mmR 34), .inl (cI, 20, .inl mm_phaseF)), ((mmR 35), .inl (cZ, 20, .inl mm_beginsF)), ((mmR 37), .inl (cI, 20, .inl mm_baseF)), ((mmR 40), .inl (cI, 500, .inl mm_opsF)), ((mmR 26), .inl (cI, 3200, .inl mm_codeSortF)), ((mmR 27), .inl (cI, 3200, .inl mm_codeValueF)), ((mmR 36), .inl (cI, 20, .inl mm_pairF)), ((mmR 25), .inl (cI, 6, .inl mm_sumBehindF)), ((mmR 28), .inl (cJ, 14, .inr (.inl mm_earNameL))), ((mmR 29), .inl (cJ, 12, .inr (.inl mm_placeNameL))), ((mmR 22), .inl (cI, 12, .inl mm_placeAtF)), ((mmR 23), .inl (cI, 12, .inl mm_talkToldF)), ((mmR 19), .inl (cI, 14, .inl mm_rowToldF)), ((mmR 20), .inl (cI, 14, .inl mm_sharpOfF)), ((mmR 45), .inl (cI, 22, .inl mm_nightOfF)), ((mmR 46), .inl (cI, 22, .inl mm_mileOfF)), ((mmR 47), .inl (cI, 22, .inl mm_roundsOfF)), ((mmR 48), .inl (cI, 22, .inl mm_talkingOfF)), ((mmR 49), .inl (cI, 22, .inl mm_hushOfF)), ((mmR 50), .inl (cI, 154, .inl mm_rowOfF)), ((mmR 52), .inl (cI, 22, .inl mm_keptManyF)), ((mmR 51), .inl (cI, 132, .inl mm_talkOfF)), ((mmR 44), .inl (cI, 6, .inl mm_refusedF))] := hD
  refine lv_aload_n hx hb dX12_house_18 rfl (lv_at hl 0 rfl) ?_
  refine lv_iconst (v := 0) hx hb dX12_house_19 (by decide) ?_
  refine va_put (D := (dC, dI)) (ci := 12) (v := .int 0) (ty := .int) (C := RX12) (T := TX12) (N := 70) hx hb hts hinX12 tyX12 tyX12_ok nmX12 hown hK hP hD hS 0 rfl rfl 8 (by decide) hw4 (fun _ h9 => h9) rfl (by decide +kernel) rfl rfl (Nat.le_of_ble_eq_true rfl) dX12_house_20 (fun H locs hP hD hS => ?_)
  have hP : va_P (dC, dI) vwCl [(a_p0, .inr (12, oX12 (va_up (va_up (va_up (va_up mmI 2 (mmI 1)) 1 0) 5 0) 8 0) mmJ mmR)), ((mmR 15), .inl (cI, 2, .inl mm_voiceToldF)), ((mmR 16), .inl (cI, 2, .inl mm_hushToldF)), ((mmR 17), .inl (cI, 2, .inl mm_coughToldF)), ((mmR 18), .inl (cI, 2, .inl mm_earsF)), ((mmR 21), .inl (cI, 2, .inl mm_placesF)), ((mmR 0), .inl (cI, 1800, .inl mm_tapeF)), ((mmR 14), .inl (cI, 2, .inl mm_milesToldF)), ((mmR 24), .inl (cI, 6, .inl mm_sumFromF)), ((mmR 33), .inl (cI, 20, .inl mm_frameF)), ((mmR 34), .inl (cI, 20, .inl mm_phaseF)), ((mmR 35), .inl (cZ, 20, .inl mm_beginsF)), ((mmR 37), .inl (cI, 20, .inl mm_baseF)), ((mmR 40), .inl (cI, 500, .inl mm_opsF)), ((mmR 26), .inl (cI, 3200, .inl mm_codeSortF)), ((mmR 27), .inl (cI, 3200, .inl mm_codeValueF)), ((mmR 36), .inl (cI, 20, .inl mm_pairF)), ((mmR 25), .inl (cI, 6, .inl mm_sumBehindF)), ((mmR 28), .inl (cJ, 14, .inr (.inl mm_earNameL))), ((mmR 29), .inl (cJ, 12, .inr (.inl mm_placeNameL))), ((mmR 22), .inl (cI, 12, .inl mm_placeAtF)), ((mmR 23), .inl (cI, 12, .inl mm_talkToldF)), ((mmR 19), .inl (cI, 14, .inl mm_rowToldF)), ((mmR 20), .inl (cI, 14, .inl mm_sharpOfF)), ((mmR 45), .inl (cI, 22, .inl mm_nightOfF)), ((mmR 46), .inl (cI, 22, .inl mm_mileOfF)), ((mmR 47), .inl (cI, 22, .inl mm_roundsOfF)), ((mmR 48), .inl (cI, 22, .inl mm_talkingOfF)), ((mmR 49), .inl (cI, 22, .inl mm_hushOfF)), ((mmR 50), .inl (cI, 154, .inl mm_rowOfF)), ((mmR 52), .inl (cI, 22, .inl mm_keptManyF)), ((mmR 51), .inl (cI, 132, .inl mm_talkOfF)), ((mmR 44), .inl (cI, 6, .inl mm_refusedF))] H := hP
  have hD : va_D A [(a_p0, .inr (12, oX12 (va_up (va_up (va_up (va_up mmI 2 (mmI 1)) 1 0) 5 0) 8 0) mmJ mmR)), ((mmR 15), .inl (cI, 2, .inl mm_voiceToldF)), ((mmR 16), .inl (cI, 2, .inl mm_hushToldF)), ((mmR 17), .inl (cI, 2, .inl mm_coughToldF)), ((mmR 18), .inl (cI, 2, .inl mm_earsF)), ((mmR 21), .inl (cI, 2, .inl mm_placesF)), ((mmR 0), .inl (cI, 1800, .inl mm_tapeF)), ((mmR 14), .inl (cI, 2, .inl mm_milesToldF)), ((mmR 24), .inl (cI, 6, .inl mm_sumFromF)), ((mmR 33), .inl (cI, 20, .inl mm_frameF)), ((mmR 34), .inl (cI, 20, .inl mm_phaseF)), ((mmR 35), .inl (cZ, 20, .inl mm_beginsF)), ((mmR 37), .inl (cI, 20, .inl mm_baseF)), ((mmR 40), .inl (cI, 500, .inl mm_opsF)), ((mmR 26), .inl (cI, 3200, .inl mm_codeSortF)), ((mmR 27), .inl (cI, 3200, .inl mm_codeValueF)), ((mmR 36), .inl (cI, 20, .inl mm_pairF)), ((mmR 25), .inl (cI, 6, .inl mm_sumBehindF)), ((mmR 28), .inl (cJ, 14, .inr (.inl mm_earNameL))), ((mmR 29), .inl (cJ, 12, .inr (.inl mm_placeNameL))), ((mmR 22), .inl (cI, 12, .inl mm_placeAtF)), ((mmR 23), .inl (cI, 12, .inl mm_talkToldF)), ((mmR 19), .inl (cI, 14, .inl mm_rowToldF)), ((mmR 20), .inl (cI, 14, .inl mm_sharpOfF)), ((mmR 45), .inl (cI, 22, .inl mm_nightOfF)), ((mmR 46), .inl (cI, 22, .inl mm_mileOfF)), ((mmR 47), .inl (cI, 22, .inl mm_roundsOfF)), ((mmR 48), .inl (cI, 22, .inl mm_talkingOfF)), ((mmR 49), .inl (cI, 22, .inl mm_hushOfF)), ((mmR 50), .inl (cI, 154, .inl mm_rowOfF)), ((mmR 52), .inl (cI, 22, .inl mm_keptManyF)), ((mmR 51), .inl (cI, 132, .inl mm_talkOfF)), ((mmR 44), .inl (cI, 6, .inl mm_refusedF))] := hD
  refine lv_aload_n hx hb dX12_house_23 rfl (lv_at hl 0 rfl) ?_
  refine lv_iconst (v := (-1)) hx hb dX12_house_24 (by decide) ?_
  refine va_put (D := (dC, dI)) (ci := 12) (v := .int ((-1))) (ty := .int) (C := RX12) (T := TX12) (N := 70) hx hb hts hinX12 tyX12 tyX12_ok nmX12 hown hK hP hD hS 0 rfl rfl 9 (by decide) hw5 (fun _ h9 => h9) rfl (by decide +kernel) rfl rfl (Nat.le_of_ble_eq_true rfl) dX12_house_25 (fun H locs hP hD hS => ?_)
  have hP : va_P (dC, dI) vwCl [(a_p0, .inr (12, oX12 (va_up (va_up (va_up (va_up (va_up mmI 2 (mmI 1)) 1 0) 5 0) 8 0) 9 ((-1))) mmJ mmR)), ((mmR 15), .inl (cI, 2, .inl mm_voiceToldF)), ((mmR 16), .inl (cI, 2, .inl mm_hushToldF)), ((mmR 17), .inl (cI, 2, .inl mm_coughToldF)), ((mmR 18), .inl (cI, 2, .inl mm_earsF)), ((mmR 21), .inl (cI, 2, .inl mm_placesF)), ((mmR 0), .inl (cI, 1800, .inl mm_tapeF)), ((mmR 14), .inl (cI, 2, .inl mm_milesToldF)), ((mmR 24), .inl (cI, 6, .inl mm_sumFromF)), ((mmR 33), .inl (cI, 20, .inl mm_frameF)), ((mmR 34), .inl (cI, 20, .inl mm_phaseF)), ((mmR 35), .inl (cZ, 20, .inl mm_beginsF)), ((mmR 37), .inl (cI, 20, .inl mm_baseF)), ((mmR 40), .inl (cI, 500, .inl mm_opsF)), ((mmR 26), .inl (cI, 3200, .inl mm_codeSortF)), ((mmR 27), .inl (cI, 3200, .inl mm_codeValueF)), ((mmR 36), .inl (cI, 20, .inl mm_pairF)), ((mmR 25), .inl (cI, 6, .inl mm_sumBehindF)), ((mmR 28), .inl (cJ, 14, .inr (.inl mm_earNameL))), ((mmR 29), .inl (cJ, 12, .inr (.inl mm_placeNameL))), ((mmR 22), .inl (cI, 12, .inl mm_placeAtF)), ((mmR 23), .inl (cI, 12, .inl mm_talkToldF)), ((mmR 19), .inl (cI, 14, .inl mm_rowToldF)), ((mmR 20), .inl (cI, 14, .inl mm_sharpOfF)), ((mmR 45), .inl (cI, 22, .inl mm_nightOfF)), ((mmR 46), .inl (cI, 22, .inl mm_mileOfF)), ((mmR 47), .inl (cI, 22, .inl mm_roundsOfF)), ((mmR 48), .inl (cI, 22, .inl mm_talkingOfF)), ((mmR 49), .inl (cI, 22, .inl mm_hushOfF)), ((mmR 50), .inl (cI, 154, .inl mm_rowOfF)), ((mmR 52), .inl (cI, 22, .inl mm_keptManyF)), ((mmR 51), .inl (cI, 132, .inl mm_talkOfF)), ((mmR 44), .inl (cI, 6, .inl mm_refusedF))] H := hP
  have hD : va_D A [(a_p0, .inr (12, oX12 (va_up (va_up (va_up (va_up (va_up mmI 2 (mmI 1)) 1 0) 5 0) 8 0) 9 ((-1))) mmJ mmR)), ((mmR 15), .inl (cI, 2, .inl mm_voiceToldF)), ((mmR 16), .inl (cI, 2, .inl mm_hushToldF)), ((mmR 17), .inl (cI, 2, .inl mm_coughToldF)), ((mmR 18), .inl (cI, 2, .inl mm_earsF)), ((mmR 21), .inl (cI, 2, .inl mm_placesF)), ((mmR 0), .inl (cI, 1800, .inl mm_tapeF)), ((mmR 14), .inl (cI, 2, .inl mm_milesToldF)), ((mmR 24), .inl (cI, 6, .inl mm_sumFromF)), ((mmR 33), .inl (cI, 20, .inl mm_frameF)), ((mmR 34), .inl (cI, 20, .inl mm_phaseF)), ((mmR 35), .inl (cZ, 20, .inl mm_beginsF)), ((mmR 37), .inl (cI, 20, .inl mm_baseF)), ((mmR 40), .inl (cI, 500, .inl mm_opsF)), ((mmR 26), .inl (cI, 3200, .inl mm_codeSortF)), ((mmR 27), .inl (cI, 3200, .inl mm_codeValueF)), ((mmR 36), .inl (cI, 20, .inl mm_pairF)), ((mmR 25), .inl (cI, 6, .inl mm_sumBehindF)), ((mmR 28), .inl (cJ, 14, .inr (.inl mm_earNameL))), ((mmR 29), .inl (cJ, 12, .inr (.inl mm_placeNameL))), ((mmR 22), .inl (cI, 12, .inl mm_placeAtF)), ((mmR 23), .inl (cI, 12, .inl mm_talkToldF)), ((mmR 19), .inl (cI, 14, .inl mm_rowToldF)), ((mmR 20), .inl (cI, 14, .inl mm_sharpOfF)), ((mmR 45), .inl (cI, 22, .inl mm_nightOfF)), ((mmR 46), .inl (cI, 22, .inl mm_mileOfF)), ((mmR 47), .inl (cI, 22, .inl mm_roundsOfF)), ((mmR 48), .inl (cI, 22, .inl mm_talkingOfF)), ((mmR 49), .inl (cI, 22, .inl mm_hushOfF)), ((mmR 50), .inl (cI, 154, .inl mm_rowOfF)), ((mmR 52), .inl (cI, 22, .inl mm_keptManyF)), ((mmR 51), .inl (cI, 132, .inl mm_talkOfF)), ((mmR 44), .inl (cI, 6, .inl mm_refusedF))] := hD
  refine lv_aload_n hx hb dX12_house_28 rfl (lv_at hl 0 rfl) ?_
  refine lv_iconst (v := 1) hx hb dX12_house_29 (by decide) ?_
  refine lv_aload_n hx hb dX12_house_30 rfl (lv_at hl 0 rfl) ?_
  refine va_get (D := (dC, dI)) (ci := 12) (v := .int (mmI 13)) (C := RX12) (T := TX12) (N := 70) hx hb hts hinX12 hown hK hP 0 rfl rfl 13 (by decide) hw6 (fun _ h9 => h9) rfl dX12_house_31 ?_
  refine lv_isub hx hb dX12_house_34 ?_
  refine va_put (D := (dC, dI)) (ci := 12) (v := .int (1 - (mmI 13))) (ty := .int) (C := RX12) (T := TX12) (N := 70) hx hb hts hinX12 tyX12 tyX12_ok nmX12 hown hK hP hD hS 0 rfl rfl 31 (by decide) hw7 (fun _ h9 => h9) rfl (by decide +kernel) rfl rfl (Nat.le_of_ble_eq_true rfl) dX12_house_35 (fun H locs hP hD hS => ?_)
  have hP : va_P (dC, dI) vwCl [(a_p0, .inr (12, oX12 (va_up (va_up (va_up (va_up (va_up (va_up mmI 2 (mmI 1)) 1 0) 5 0) 8 0) 9 ((-1))) 31 (1 - (mmI 13))) mmJ mmR)), ((mmR 15), .inl (cI, 2, .inl mm_voiceToldF)), ((mmR 16), .inl (cI, 2, .inl mm_hushToldF)), ((mmR 17), .inl (cI, 2, .inl mm_coughToldF)), ((mmR 18), .inl (cI, 2, .inl mm_earsF)), ((mmR 21), .inl (cI, 2, .inl mm_placesF)), ((mmR 0), .inl (cI, 1800, .inl mm_tapeF)), ((mmR 14), .inl (cI, 2, .inl mm_milesToldF)), ((mmR 24), .inl (cI, 6, .inl mm_sumFromF)), ((mmR 33), .inl (cI, 20, .inl mm_frameF)), ((mmR 34), .inl (cI, 20, .inl mm_phaseF)), ((mmR 35), .inl (cZ, 20, .inl mm_beginsF)), ((mmR 37), .inl (cI, 20, .inl mm_baseF)), ((mmR 40), .inl (cI, 500, .inl mm_opsF)), ((mmR 26), .inl (cI, 3200, .inl mm_codeSortF)), ((mmR 27), .inl (cI, 3200, .inl mm_codeValueF)), ((mmR 36), .inl (cI, 20, .inl mm_pairF)), ((mmR 25), .inl (cI, 6, .inl mm_sumBehindF)), ((mmR 28), .inl (cJ, 14, .inr (.inl mm_earNameL))), ((mmR 29), .inl (cJ, 12, .inr (.inl mm_placeNameL))), ((mmR 22), .inl (cI, 12, .inl mm_placeAtF)), ((mmR 23), .inl (cI, 12, .inl mm_talkToldF)), ((mmR 19), .inl (cI, 14, .inl mm_rowToldF)), ((mmR 20), .inl (cI, 14, .inl mm_sharpOfF)), ((mmR 45), .inl (cI, 22, .inl mm_nightOfF)), ((mmR 46), .inl (cI, 22, .inl mm_mileOfF)), ((mmR 47), .inl (cI, 22, .inl mm_roundsOfF)), ((mmR 48), .inl (cI, 22, .inl mm_talkingOfF)), ((mmR 49), .inl (cI, 22, .inl mm_hushOfF)), ((mmR 50), .inl (cI, 154, .inl mm_rowOfF)), ((mmR 52), .inl (cI, 22, .inl mm_keptManyF)), ((mmR 51), .inl (cI, 132, .inl mm_talkOfF)), ((mmR 44), .inl (cI, 6, .inl mm_refusedF))] H := hP
  have hD : va_D A [(a_p0, .inr (12, oX12 (va_up (va_up (va_up (va_up (va_up (va_up mmI 2 (mmI 1)) 1 0) 5 0) 8 0) 9 ((-1))) 31 (1 - (mmI 13))) mmJ mmR)), ((mmR 15), .inl (cI, 2, .inl mm_voiceToldF)), ((mmR 16), .inl (cI, 2, .inl mm_hushToldF)), ((mmR 17), .inl (cI, 2, .inl mm_coughToldF)), ((mmR 18), .inl (cI, 2, .inl mm_earsF)), ((mmR 21), .inl (cI, 2, .inl mm_placesF)), ((mmR 0), .inl (cI, 1800, .inl mm_tapeF)), ((mmR 14), .inl (cI, 2, .inl mm_milesToldF)), ((mmR 24), .inl (cI, 6, .inl mm_sumFromF)), ((mmR 33), .inl (cI, 20, .inl mm_frameF)), ((mmR 34), .inl (cI, 20, .inl mm_phaseF)), ((mmR 35), .inl (cZ, 20, .inl mm_beginsF)), ((mmR 37), .inl (cI, 20, .inl mm_baseF)), ((mmR 40), .inl (cI, 500, .inl mm_opsF)), ((mmR 26), .inl (cI, 3200, .inl mm_codeSortF)), ((mmR 27), .inl (cI, 3200, .inl mm_codeValueF)), ((mmR 36), .inl (cI, 20, .inl mm_pairF)), ((mmR 25), .inl (cI, 6, .inl mm_sumBehindF)), ((mmR 28), .inl (cJ, 14, .inr (.inl mm_earNameL))), ((mmR 29), .inl (cJ, 12, .inr (.inl mm_placeNameL))), ((mmR 22), .inl (cI, 12, .inl mm_placeAtF)), ((mmR 23), .inl (cI, 12, .inl mm_talkToldF)), ((mmR 19), .inl (cI, 14, .inl mm_rowToldF)), ((mmR 20), .inl (cI, 14, .inl mm_sharpOfF)), ((mmR 45), .inl (cI, 22, .inl mm_nightOfF)), ((mmR 46), .inl (cI, 22, .inl mm_mileOfF)), ((mmR 47), .inl (cI, 22, .inl mm_roundsOfF)), ((mmR 48), .inl (cI, 22, .inl mm_talkingOfF)), ((mmR 49), .inl (cI, 22, .inl mm_hushOfF)), ((mmR 50), .inl (cI, 154, .inl mm_rowOfF)), ((mmR 52), .inl (cI, 22, .inl mm_keptManyF)), ((mmR 51), .inl (cI, 132, .inl mm_talkOfF)), ((mmR 44), .inl (cI, 6, .inl mm_refusedF))] := hD
  refine lv_aload_n hx hb dX12_house_38 rfl (lv_at hl 0 rfl) ?_
  refine va_get (D := (dC, dI)) (ci := 12) (v := .ref ((mmR 15))) (C := RX12) (T := TX12) (N := 70) hx hb hts hinX12 hown hK hP 0 rfl rfl 15 (by decide) hw8 (fun _ h9 => h9) rfl dX12_house_39 ?_
  refine lv_aload_n hx hb dX12_house_42 rfl (lv_at hl 0 rfl) ?_
  refine va_get (D := (dC, dI)) (ci := 12) (v := .int (1 - (mmI 13))) (C := RX12) (T := TX12) (N := 70) hx hb hts hinX12 hown hK hP 0 rfl rfl 31 (by decide) hw7 (fun _ h9 => h9) rfl dX12_house_43 ?_
  refine lv_iconst (v := 0) hx hb dX12_house_46 (by decide) ?_
  refine xq_iast hx hb hK hP hD hS 1 0 rfl rfl hf dX12_house_47 (fun g_1 H locs hf hP hD hS => ?_)
  have hP : va_P (dC, dI) vwCl [(a_p0, .inr (12, oX12 (va_up (va_up (va_up (va_up (va_up (va_up mmI 2 (mmI 1)) 1 0) 5 0) 8 0) 9 ((-1))) 31 (1 - (mmI 13))) mmJ mmR)), ((mmR 15), .inl (cI, 2, .inl g_1)), ((mmR 16), .inl (cI, 2, .inl mm_hushToldF)), ((mmR 17), .inl (cI, 2, .inl mm_coughToldF)), ((mmR 18), .inl (cI, 2, .inl mm_earsF)), ((mmR 21), .inl (cI, 2, .inl mm_placesF)), ((mmR 0), .inl (cI, 1800, .inl mm_tapeF)), ((mmR 14), .inl (cI, 2, .inl mm_milesToldF)), ((mmR 24), .inl (cI, 6, .inl mm_sumFromF)), ((mmR 33), .inl (cI, 20, .inl mm_frameF)), ((mmR 34), .inl (cI, 20, .inl mm_phaseF)), ((mmR 35), .inl (cZ, 20, .inl mm_beginsF)), ((mmR 37), .inl (cI, 20, .inl mm_baseF)), ((mmR 40), .inl (cI, 500, .inl mm_opsF)), ((mmR 26), .inl (cI, 3200, .inl mm_codeSortF)), ((mmR 27), .inl (cI, 3200, .inl mm_codeValueF)), ((mmR 36), .inl (cI, 20, .inl mm_pairF)), ((mmR 25), .inl (cI, 6, .inl mm_sumBehindF)), ((mmR 28), .inl (cJ, 14, .inr (.inl mm_earNameL))), ((mmR 29), .inl (cJ, 12, .inr (.inl mm_placeNameL))), ((mmR 22), .inl (cI, 12, .inl mm_placeAtF)), ((mmR 23), .inl (cI, 12, .inl mm_talkToldF)), ((mmR 19), .inl (cI, 14, .inl mm_rowToldF)), ((mmR 20), .inl (cI, 14, .inl mm_sharpOfF)), ((mmR 45), .inl (cI, 22, .inl mm_nightOfF)), ((mmR 46), .inl (cI, 22, .inl mm_mileOfF)), ((mmR 47), .inl (cI, 22, .inl mm_roundsOfF)), ((mmR 48), .inl (cI, 22, .inl mm_talkingOfF)), ((mmR 49), .inl (cI, 22, .inl mm_hushOfF)), ((mmR 50), .inl (cI, 154, .inl mm_rowOfF)), ((mmR 52), .inl (cI, 22, .inl mm_keptManyF)), ((mmR 51), .inl (cI, 132, .inl mm_talkOfF)), ((mmR 44), .inl (cI, 6, .inl mm_refusedF))] H := hP
  have hD : va_D A [(a_p0, .inr (12, oX12 (va_up (va_up (va_up (va_up (va_up (va_up mmI 2 (mmI 1)) 1 0) 5 0) 8 0) 9 ((-1))) 31 (1 - (mmI 13))) mmJ mmR)), ((mmR 15), .inl (cI, 2, .inl g_1)), ((mmR 16), .inl (cI, 2, .inl mm_hushToldF)), ((mmR 17), .inl (cI, 2, .inl mm_coughToldF)), ((mmR 18), .inl (cI, 2, .inl mm_earsF)), ((mmR 21), .inl (cI, 2, .inl mm_placesF)), ((mmR 0), .inl (cI, 1800, .inl mm_tapeF)), ((mmR 14), .inl (cI, 2, .inl mm_milesToldF)), ((mmR 24), .inl (cI, 6, .inl mm_sumFromF)), ((mmR 33), .inl (cI, 20, .inl mm_frameF)), ((mmR 34), .inl (cI, 20, .inl mm_phaseF)), ((mmR 35), .inl (cZ, 20, .inl mm_beginsF)), ((mmR 37), .inl (cI, 20, .inl mm_baseF)), ((mmR 40), .inl (cI, 500, .inl mm_opsF)), ((mmR 26), .inl (cI, 3200, .inl mm_codeSortF)), ((mmR 27), .inl (cI, 3200, .inl mm_codeValueF)), ((mmR 36), .inl (cI, 20, .inl mm_pairF)), ((mmR 25), .inl (cI, 6, .inl mm_sumBehindF)), ((mmR 28), .inl (cJ, 14, .inr (.inl mm_earNameL))), ((mmR 29), .inl (cJ, 12, .inr (.inl mm_placeNameL))), ((mmR 22), .inl (cI, 12, .inl mm_placeAtF)), ((mmR 23), .inl (cI, 12, .inl mm_talkToldF)), ((mmR 19), .inl (cI, 14, .inl mm_rowToldF)), ((mmR 20), .inl (cI, 14, .inl mm_sharpOfF)), ((mmR 45), .inl (cI, 22, .inl mm_nightOfF)), ((mmR 46), .inl (cI, 22, .inl mm_mileOfF)), ((mmR 47), .inl (cI, 22, .inl mm_roundsOfF)), ((mmR 48), .inl (cI, 22, .inl mm_talkingOfF)), ((mmR 49), .inl (cI, 22, .inl mm_hushOfF)), ((mmR 50), .inl (cI, 154, .inl mm_rowOfF)), ((mmR 52), .inl (cI, 22, .inl mm_keptManyF)), ((mmR 51), .inl (cI, 132, .inl mm_talkOfF)), ((mmR 44), .inl (cI, 6, .inl mm_refusedF))] := hD
  refine lv_aload_n hx hb dX12_house_48 rfl (lv_at hl 0 rfl) ?_
  refine va_get (D := (dC, dI)) (ci := 12) (v := .ref ((mmR 16))) (C := RX12) (T := TX12) (N := 70) hx hb hts hinX12 hown hK hP 0 rfl rfl 16 (by decide) hw9 (fun _ h9 => h9) rfl dX12_house_49 ?_
  refine lv_aload_n hx hb dX12_house_52 rfl (lv_at hl 0 rfl) ?_
  refine va_get (D := (dC, dI)) (ci := 12) (v := .int (1 - (mmI 13))) (C := RX12) (T := TX12) (N := 70) hx hb hts hinX12 hown hK hP 0 rfl rfl 31 (by decide) hw7 (fun _ h9 => h9) rfl dX12_house_53 ?_
  refine lv_iconst (v := 0) hx hb dX12_house_56 (by decide) ?_
  refine xq_iast hx hb hK hP hD hS 2 0 rfl rfl hf dX12_house_57 (fun g_2 H locs hf hP hD hS => ?_)
  have hP : va_P (dC, dI) vwCl [(a_p0, .inr (12, oX12 (va_up (va_up (va_up (va_up (va_up (va_up mmI 2 (mmI 1)) 1 0) 5 0) 8 0) 9 ((-1))) 31 (1 - (mmI 13))) mmJ mmR)), ((mmR 15), .inl (cI, 2, .inl g_1)), ((mmR 16), .inl (cI, 2, .inl g_2)), ((mmR 17), .inl (cI, 2, .inl mm_coughToldF)), ((mmR 18), .inl (cI, 2, .inl mm_earsF)), ((mmR 21), .inl (cI, 2, .inl mm_placesF)), ((mmR 0), .inl (cI, 1800, .inl mm_tapeF)), ((mmR 14), .inl (cI, 2, .inl mm_milesToldF)), ((mmR 24), .inl (cI, 6, .inl mm_sumFromF)), ((mmR 33), .inl (cI, 20, .inl mm_frameF)), ((mmR 34), .inl (cI, 20, .inl mm_phaseF)), ((mmR 35), .inl (cZ, 20, .inl mm_beginsF)), ((mmR 37), .inl (cI, 20, .inl mm_baseF)), ((mmR 40), .inl (cI, 500, .inl mm_opsF)), ((mmR 26), .inl (cI, 3200, .inl mm_codeSortF)), ((mmR 27), .inl (cI, 3200, .inl mm_codeValueF)), ((mmR 36), .inl (cI, 20, .inl mm_pairF)), ((mmR 25), .inl (cI, 6, .inl mm_sumBehindF)), ((mmR 28), .inl (cJ, 14, .inr (.inl mm_earNameL))), ((mmR 29), .inl (cJ, 12, .inr (.inl mm_placeNameL))), ((mmR 22), .inl (cI, 12, .inl mm_placeAtF)), ((mmR 23), .inl (cI, 12, .inl mm_talkToldF)), ((mmR 19), .inl (cI, 14, .inl mm_rowToldF)), ((mmR 20), .inl (cI, 14, .inl mm_sharpOfF)), ((mmR 45), .inl (cI, 22, .inl mm_nightOfF)), ((mmR 46), .inl (cI, 22, .inl mm_mileOfF)), ((mmR 47), .inl (cI, 22, .inl mm_roundsOfF)), ((mmR 48), .inl (cI, 22, .inl mm_talkingOfF)), ((mmR 49), .inl (cI, 22, .inl mm_hushOfF)), ((mmR 50), .inl (cI, 154, .inl mm_rowOfF)), ((mmR 52), .inl (cI, 22, .inl mm_keptManyF)), ((mmR 51), .inl (cI, 132, .inl mm_talkOfF)), ((mmR 44), .inl (cI, 6, .inl mm_refusedF))] H := hP
  have hD : va_D A [(a_p0, .inr (12, oX12 (va_up (va_up (va_up (va_up (va_up (va_up mmI 2 (mmI 1)) 1 0) 5 0) 8 0) 9 ((-1))) 31 (1 - (mmI 13))) mmJ mmR)), ((mmR 15), .inl (cI, 2, .inl g_1)), ((mmR 16), .inl (cI, 2, .inl g_2)), ((mmR 17), .inl (cI, 2, .inl mm_coughToldF)), ((mmR 18), .inl (cI, 2, .inl mm_earsF)), ((mmR 21), .inl (cI, 2, .inl mm_placesF)), ((mmR 0), .inl (cI, 1800, .inl mm_tapeF)), ((mmR 14), .inl (cI, 2, .inl mm_milesToldF)), ((mmR 24), .inl (cI, 6, .inl mm_sumFromF)), ((mmR 33), .inl (cI, 20, .inl mm_frameF)), ((mmR 34), .inl (cI, 20, .inl mm_phaseF)), ((mmR 35), .inl (cZ, 20, .inl mm_beginsF)), ((mmR 37), .inl (cI, 20, .inl mm_baseF)), ((mmR 40), .inl (cI, 500, .inl mm_opsF)), ((mmR 26), .inl (cI, 3200, .inl mm_codeSortF)), ((mmR 27), .inl (cI, 3200, .inl mm_codeValueF)), ((mmR 36), .inl (cI, 20, .inl mm_pairF)), ((mmR 25), .inl (cI, 6, .inl mm_sumBehindF)), ((mmR 28), .inl (cJ, 14, .inr (.inl mm_earNameL))), ((mmR 29), .inl (cJ, 12, .inr (.inl mm_placeNameL))), ((mmR 22), .inl (cI, 12, .inl mm_placeAtF)), ((mmR 23), .inl (cI, 12, .inl mm_talkToldF)), ((mmR 19), .inl (cI, 14, .inl mm_rowToldF)), ((mmR 20), .inl (cI, 14, .inl mm_sharpOfF)), ((mmR 45), .inl (cI, 22, .inl mm_nightOfF)), ((mmR 46), .inl (cI, 22, .inl mm_mileOfF)), ((mmR 47), .inl (cI, 22, .inl mm_roundsOfF)), ((mmR 48), .inl (cI, 22, .inl mm_talkingOfF)), ((mmR 49), .inl (cI, 22, .inl mm_hushOfF)), ((mmR 50), .inl (cI, 154, .inl mm_rowOfF)), ((mmR 52), .inl (cI, 22, .inl mm_keptManyF)), ((mmR 51), .inl (cI, 132, .inl mm_talkOfF)), ((mmR 44), .inl (cI, 6, .inl mm_refusedF))] := hD
  refine lv_aload_n hx hb dX12_house_58 rfl (lv_at hl 0 rfl) ?_
  refine va_get (D := (dC, dI)) (ci := 12) (v := .ref ((mmR 17))) (C := RX12) (T := TX12) (N := 70) hx hb hts hinX12 hown hK hP 0 rfl rfl 17 (by decide) hw10 (fun _ h9 => h9) rfl dX12_house_59 ?_
  refine lv_aload_n hx hb dX12_house_62 rfl (lv_at hl 0 rfl) ?_
  refine va_get (D := (dC, dI)) (ci := 12) (v := .int (1 - (mmI 13))) (C := RX12) (T := TX12) (N := 70) hx hb hts hinX12 hown hK hP 0 rfl rfl 31 (by decide) hw7 (fun _ h9 => h9) rfl dX12_house_63 ?_
  refine lv_iconst (v := 0) hx hb dX12_house_66 (by decide) ?_
  refine xq_iast hx hb hK hP hD hS 3 0 rfl rfl hf dX12_house_67 (fun g_3 H locs hf hP hD hS => ?_)
  have hP : va_P (dC, dI) vwCl [(a_p0, .inr (12, oX12 (va_up (va_up (va_up (va_up (va_up (va_up mmI 2 (mmI 1)) 1 0) 5 0) 8 0) 9 ((-1))) 31 (1 - (mmI 13))) mmJ mmR)), ((mmR 15), .inl (cI, 2, .inl g_1)), ((mmR 16), .inl (cI, 2, .inl g_2)), ((mmR 17), .inl (cI, 2, .inl g_3)), ((mmR 18), .inl (cI, 2, .inl mm_earsF)), ((mmR 21), .inl (cI, 2, .inl mm_placesF)), ((mmR 0), .inl (cI, 1800, .inl mm_tapeF)), ((mmR 14), .inl (cI, 2, .inl mm_milesToldF)), ((mmR 24), .inl (cI, 6, .inl mm_sumFromF)), ((mmR 33), .inl (cI, 20, .inl mm_frameF)), ((mmR 34), .inl (cI, 20, .inl mm_phaseF)), ((mmR 35), .inl (cZ, 20, .inl mm_beginsF)), ((mmR 37), .inl (cI, 20, .inl mm_baseF)), ((mmR 40), .inl (cI, 500, .inl mm_opsF)), ((mmR 26), .inl (cI, 3200, .inl mm_codeSortF)), ((mmR 27), .inl (cI, 3200, .inl mm_codeValueF)), ((mmR 36), .inl (cI, 20, .inl mm_pairF)), ((mmR 25), .inl (cI, 6, .inl mm_sumBehindF)), ((mmR 28), .inl (cJ, 14, .inr (.inl mm_earNameL))), ((mmR 29), .inl (cJ, 12, .inr (.inl mm_placeNameL))), ((mmR 22), .inl (cI, 12, .inl mm_placeAtF)), ((mmR 23), .inl (cI, 12, .inl mm_talkToldF)), ((mmR 19), .inl (cI, 14, .inl mm_rowToldF)), ((mmR 20), .inl (cI, 14, .inl mm_sharpOfF)), ((mmR 45), .inl (cI, 22, .inl mm_nightOfF)), ((mmR 46), .inl (cI, 22, .inl mm_mileOfF)), ((mmR 47), .inl (cI, 22, .inl mm_roundsOfF)), ((mmR 48), .inl (cI, 22, .inl mm_talkingOfF)), ((mmR 49), .inl (cI, 22, .inl mm_hushOfF)), ((mmR 50), .inl (cI, 154, .inl mm_rowOfF)), ((mmR 52), .inl (cI, 22, .inl mm_keptManyF)), ((mmR 51), .inl (cI, 132, .inl mm_talkOfF)), ((mmR 44), .inl (cI, 6, .inl mm_refusedF))] H := hP
  have hD : va_D A [(a_p0, .inr (12, oX12 (va_up (va_up (va_up (va_up (va_up (va_up mmI 2 (mmI 1)) 1 0) 5 0) 8 0) 9 ((-1))) 31 (1 - (mmI 13))) mmJ mmR)), ((mmR 15), .inl (cI, 2, .inl g_1)), ((mmR 16), .inl (cI, 2, .inl g_2)), ((mmR 17), .inl (cI, 2, .inl g_3)), ((mmR 18), .inl (cI, 2, .inl mm_earsF)), ((mmR 21), .inl (cI, 2, .inl mm_placesF)), ((mmR 0), .inl (cI, 1800, .inl mm_tapeF)), ((mmR 14), .inl (cI, 2, .inl mm_milesToldF)), ((mmR 24), .inl (cI, 6, .inl mm_sumFromF)), ((mmR 33), .inl (cI, 20, .inl mm_frameF)), ((mmR 34), .inl (cI, 20, .inl mm_phaseF)), ((mmR 35), .inl (cZ, 20, .inl mm_beginsF)), ((mmR 37), .inl (cI, 20, .inl mm_baseF)), ((mmR 40), .inl (cI, 500, .inl mm_opsF)), ((mmR 26), .inl (cI, 3200, .inl mm_codeSortF)), ((mmR 27), .inl (cI, 3200, .inl mm_codeValueF)), ((mmR 36), .inl (cI, 20, .inl mm_pairF)), ((mmR 25), .inl (cI, 6, .inl mm_sumBehindF)), ((mmR 28), .inl (cJ, 14, .inr (.inl mm_earNameL))), ((mmR 29), .inl (cJ, 12, .inr (.inl mm_placeNameL))), ((mmR 22), .inl (cI, 12, .inl mm_placeAtF)), ((mmR 23), .inl (cI, 12, .inl mm_talkToldF)), ((mmR 19), .inl (cI, 14, .inl mm_rowToldF)), ((mmR 20), .inl (cI, 14, .inl mm_sharpOfF)), ((mmR 45), .inl (cI, 22, .inl mm_nightOfF)), ((mmR 46), .inl (cI, 22, .inl mm_mileOfF)), ((mmR 47), .inl (cI, 22, .inl mm_roundsOfF)), ((mmR 48), .inl (cI, 22, .inl mm_talkingOfF)), ((mmR 49), .inl (cI, 22, .inl mm_hushOfF)), ((mmR 50), .inl (cI, 154, .inl mm_rowOfF)), ((mmR 52), .inl (cI, 22, .inl mm_keptManyF)), ((mmR 51), .inl (cI, 132, .inl mm_talkOfF)), ((mmR 44), .inl (cI, 6, .inl mm_refusedF))] := hD
  refine lv_aload_n hx hb dX12_house_68 rfl (lv_at hl 0 rfl) ?_
  refine va_get (D := (dC, dI)) (ci := 12) (v := .ref ((mmR 18))) (C := RX12) (T := TX12) (N := 70) hx hb hts hinX12 hown hK hP 0 rfl rfl 18 (by decide) hw11 (fun _ h9 => h9) rfl dX12_house_69 ?_
  refine lv_aload_n hx hb dX12_house_72 rfl (lv_at hl 0 rfl) ?_
  refine va_get (D := (dC, dI)) (ci := 12) (v := .int (1 - (mmI 13))) (C := RX12) (T := TX12) (N := 70) hx hb hts hinX12 hown hK hP 0 rfl rfl 31 (by decide) hw7 (fun _ h9 => h9) rfl dX12_house_73 ?_
  refine lv_iconst (v := 0) hx hb dX12_house_76 (by decide) ?_
  refine xq_iast hx hb hK hP hD hS 4 0 rfl rfl hf dX12_house_77 (fun g_4 H locs hf hP hD hS => ?_)
  have hP : va_P (dC, dI) vwCl [(a_p0, .inr (12, oX12 (va_up (va_up (va_up (va_up (va_up (va_up mmI 2 (mmI 1)) 1 0) 5 0) 8 0) 9 ((-1))) 31 (1 - (mmI 13))) mmJ mmR)), ((mmR 15), .inl (cI, 2, .inl g_1)), ((mmR 16), .inl (cI, 2, .inl g_2)), ((mmR 17), .inl (cI, 2, .inl g_3)), ((mmR 18), .inl (cI, 2, .inl g_4)), ((mmR 21), .inl (cI, 2, .inl mm_placesF)), ((mmR 0), .inl (cI, 1800, .inl mm_tapeF)), ((mmR 14), .inl (cI, 2, .inl mm_milesToldF)), ((mmR 24), .inl (cI, 6, .inl mm_sumFromF)), ((mmR 33), .inl (cI, 20, .inl mm_frameF)), ((mmR 34), .inl (cI, 20, .inl mm_phaseF)), ((mmR 35), .inl (cZ, 20, .inl mm_beginsF)), ((mmR 37), .inl (cI, 20, .inl mm_baseF)), ((mmR 40), .inl (cI, 500, .inl mm_opsF)), ((mmR 26), .inl (cI, 3200, .inl mm_codeSortF)), ((mmR 27), .inl (cI, 3200, .inl mm_codeValueF)), ((mmR 36), .inl (cI, 20, .inl mm_pairF)), ((mmR 25), .inl (cI, 6, .inl mm_sumBehindF)), ((mmR 28), .inl (cJ, 14, .inr (.inl mm_earNameL))), ((mmR 29), .inl (cJ, 12, .inr (.inl mm_placeNameL))), ((mmR 22), .inl (cI, 12, .inl mm_placeAtF)), ((mmR 23), .inl (cI, 12, .inl mm_talkToldF)), ((mmR 19), .inl (cI, 14, .inl mm_rowToldF)), ((mmR 20), .inl (cI, 14, .inl mm_sharpOfF)), ((mmR 45), .inl (cI, 22, .inl mm_nightOfF)), ((mmR 46), .inl (cI, 22, .inl mm_mileOfF)), ((mmR 47), .inl (cI, 22, .inl mm_roundsOfF)), ((mmR 48), .inl (cI, 22, .inl mm_talkingOfF)), ((mmR 49), .inl (cI, 22, .inl mm_hushOfF)), ((mmR 50), .inl (cI, 154, .inl mm_rowOfF)), ((mmR 52), .inl (cI, 22, .inl mm_keptManyF)), ((mmR 51), .inl (cI, 132, .inl mm_talkOfF)), ((mmR 44), .inl (cI, 6, .inl mm_refusedF))] H := hP
  have hD : va_D A [(a_p0, .inr (12, oX12 (va_up (va_up (va_up (va_up (va_up (va_up mmI 2 (mmI 1)) 1 0) 5 0) 8 0) 9 ((-1))) 31 (1 - (mmI 13))) mmJ mmR)), ((mmR 15), .inl (cI, 2, .inl g_1)), ((mmR 16), .inl (cI, 2, .inl g_2)), ((mmR 17), .inl (cI, 2, .inl g_3)), ((mmR 18), .inl (cI, 2, .inl g_4)), ((mmR 21), .inl (cI, 2, .inl mm_placesF)), ((mmR 0), .inl (cI, 1800, .inl mm_tapeF)), ((mmR 14), .inl (cI, 2, .inl mm_milesToldF)), ((mmR 24), .inl (cI, 6, .inl mm_sumFromF)), ((mmR 33), .inl (cI, 20, .inl mm_frameF)), ((mmR 34), .inl (cI, 20, .inl mm_phaseF)), ((mmR 35), .inl (cZ, 20, .inl mm_beginsF)), ((mmR 37), .inl (cI, 20, .inl mm_baseF)), ((mmR 40), .inl (cI, 500, .inl mm_opsF)), ((mmR 26), .inl (cI, 3200, .inl mm_codeSortF)), ((mmR 27), .inl (cI, 3200, .inl mm_codeValueF)), ((mmR 36), .inl (cI, 20, .inl mm_pairF)), ((mmR 25), .inl (cI, 6, .inl mm_sumBehindF)), ((mmR 28), .inl (cJ, 14, .inr (.inl mm_earNameL))), ((mmR 29), .inl (cJ, 12, .inr (.inl mm_placeNameL))), ((mmR 22), .inl (cI, 12, .inl mm_placeAtF)), ((mmR 23), .inl (cI, 12, .inl mm_talkToldF)), ((mmR 19), .inl (cI, 14, .inl mm_rowToldF)), ((mmR 20), .inl (cI, 14, .inl mm_sharpOfF)), ((mmR 45), .inl (cI, 22, .inl mm_nightOfF)), ((mmR 46), .inl (cI, 22, .inl mm_mileOfF)), ((mmR 47), .inl (cI, 22, .inl mm_roundsOfF)), ((mmR 48), .inl (cI, 22, .inl mm_talkingOfF)), ((mmR 49), .inl (cI, 22, .inl mm_hushOfF)), ((mmR 50), .inl (cI, 154, .inl mm_rowOfF)), ((mmR 52), .inl (cI, 22, .inl mm_keptManyF)), ((mmR 51), .inl (cI, 132, .inl mm_talkOfF)), ((mmR 44), .inl (cI, 6, .inl mm_refusedF))] := hD
  refine lv_aload_n hx hb dX12_house_78 rfl (lv_at hl 0 rfl) ?_
  refine va_get (D := (dC, dI)) (ci := 12) (v := .ref ((mmR 21))) (C := RX12) (T := TX12) (N := 70) hx hb hts hinX12 hown hK hP 0 rfl rfl 21 (by decide) hw12 (fun _ h9 => h9) rfl dX12_house_79 ?_
  refine lv_aload_n hx hb dX12_house_82 rfl (lv_at hl 0 rfl) ?_
  refine va_get (D := (dC, dI)) (ci := 12) (v := .int (1 - (mmI 13))) (C := RX12) (T := TX12) (N := 70) hx hb hts hinX12 hown hK hP 0 rfl rfl 31 (by decide) hw7 (fun _ h9 => h9) rfl dX12_house_83 ?_
  refine lv_iconst (v := 0) hx hb dX12_house_86 (by decide) ?_
  refine xq_iast hx hb hK hP hD hS 5 0 rfl rfl hf dX12_house_87 (fun g_5 H locs hf hP hD hS => ?_)
  have hP : va_P (dC, dI) vwCl [(a_p0, .inr (12, oX12 (va_up (va_up (va_up (va_up (va_up (va_up mmI 2 (mmI 1)) 1 0) 5 0) 8 0) 9 ((-1))) 31 (1 - (mmI 13))) mmJ mmR)), ((mmR 15), .inl (cI, 2, .inl g_1)), ((mmR 16), .inl (cI, 2, .inl g_2)), ((mmR 17), .inl (cI, 2, .inl g_3)), ((mmR 18), .inl (cI, 2, .inl g_4)), ((mmR 21), .inl (cI, 2, .inl g_5)), ((mmR 0), .inl (cI, 1800, .inl mm_tapeF)), ((mmR 14), .inl (cI, 2, .inl mm_milesToldF)), ((mmR 24), .inl (cI, 6, .inl mm_sumFromF)), ((mmR 33), .inl (cI, 20, .inl mm_frameF)), ((mmR 34), .inl (cI, 20, .inl mm_phaseF)), ((mmR 35), .inl (cZ, 20, .inl mm_beginsF)), ((mmR 37), .inl (cI, 20, .inl mm_baseF)), ((mmR 40), .inl (cI, 500, .inl mm_opsF)), ((mmR 26), .inl (cI, 3200, .inl mm_codeSortF)), ((mmR 27), .inl (cI, 3200, .inl mm_codeValueF)), ((mmR 36), .inl (cI, 20, .inl mm_pairF)), ((mmR 25), .inl (cI, 6, .inl mm_sumBehindF)), ((mmR 28), .inl (cJ, 14, .inr (.inl mm_earNameL))), ((mmR 29), .inl (cJ, 12, .inr (.inl mm_placeNameL))), ((mmR 22), .inl (cI, 12, .inl mm_placeAtF)), ((mmR 23), .inl (cI, 12, .inl mm_talkToldF)), ((mmR 19), .inl (cI, 14, .inl mm_rowToldF)), ((mmR 20), .inl (cI, 14, .inl mm_sharpOfF)), ((mmR 45), .inl (cI, 22, .inl mm_nightOfF)), ((mmR 46), .inl (cI, 22, .inl mm_mileOfF)), ((mmR 47), .inl (cI, 22, .inl mm_roundsOfF)), ((mmR 48), .inl (cI, 22, .inl mm_talkingOfF)), ((mmR 49), .inl (cI, 22, .inl mm_hushOfF)), ((mmR 50), .inl (cI, 154, .inl mm_rowOfF)), ((mmR 52), .inl (cI, 22, .inl mm_keptManyF)), ((mmR 51), .inl (cI, 132, .inl mm_talkOfF)), ((mmR 44), .inl (cI, 6, .inl mm_refusedF))] H := hP
  have hD : va_D A [(a_p0, .inr (12, oX12 (va_up (va_up (va_up (va_up (va_up (va_up mmI 2 (mmI 1)) 1 0) 5 0) 8 0) 9 ((-1))) 31 (1 - (mmI 13))) mmJ mmR)), ((mmR 15), .inl (cI, 2, .inl g_1)), ((mmR 16), .inl (cI, 2, .inl g_2)), ((mmR 17), .inl (cI, 2, .inl g_3)), ((mmR 18), .inl (cI, 2, .inl g_4)), ((mmR 21), .inl (cI, 2, .inl g_5)), ((mmR 0), .inl (cI, 1800, .inl mm_tapeF)), ((mmR 14), .inl (cI, 2, .inl mm_milesToldF)), ((mmR 24), .inl (cI, 6, .inl mm_sumFromF)), ((mmR 33), .inl (cI, 20, .inl mm_frameF)), ((mmR 34), .inl (cI, 20, .inl mm_phaseF)), ((mmR 35), .inl (cZ, 20, .inl mm_beginsF)), ((mmR 37), .inl (cI, 20, .inl mm_baseF)), ((mmR 40), .inl (cI, 500, .inl mm_opsF)), ((mmR 26), .inl (cI, 3200, .inl mm_codeSortF)), ((mmR 27), .inl (cI, 3200, .inl mm_codeValueF)), ((mmR 36), .inl (cI, 20, .inl mm_pairF)), ((mmR 25), .inl (cI, 6, .inl mm_sumBehindF)), ((mmR 28), .inl (cJ, 14, .inr (.inl mm_earNameL))), ((mmR 29), .inl (cJ, 12, .inr (.inl mm_placeNameL))), ((mmR 22), .inl (cI, 12, .inl mm_placeAtF)), ((mmR 23), .inl (cI, 12, .inl mm_talkToldF)), ((mmR 19), .inl (cI, 14, .inl mm_rowToldF)), ((mmR 20), .inl (cI, 14, .inl mm_sharpOfF)), ((mmR 45), .inl (cI, 22, .inl mm_nightOfF)), ((mmR 46), .inl (cI, 22, .inl mm_mileOfF)), ((mmR 47), .inl (cI, 22, .inl mm_roundsOfF)), ((mmR 48), .inl (cI, 22, .inl mm_talkingOfF)), ((mmR 49), .inl (cI, 22, .inl mm_hushOfF)), ((mmR 50), .inl (cI, 154, .inl mm_rowOfF)), ((mmR 52), .inl (cI, 22, .inl mm_keptManyF)), ((mmR 51), .inl (cI, 132, .inl mm_talkOfF)), ((mmR 44), .inl (cI, 6, .inl mm_refusedF))] := hD
  refine lv_iconst (v := 3) hx hb dX12_house_88 (by decide) ?_
  refine lv_aload_n hx hb dX12_house_89 rfl (lv_at hl 0 rfl) ?_
  refine va_get (D := (dC, dI)) (ci := 12) (v := .int (1 - (mmI 13))) (C := RX12) (T := TX12) (N := 70) hx hb hts hinX12 hown hK hP 0 rfl rfl 31 (by decide) hw7 (fun _ h9 => h9) rfl dX12_house_90 ?_
  refine lv_imul hx hb dX12_house_93 ?_
  refine lv_istore_n (lv' := [(1, .int (3 * (1 - (mmI 13)))), (0, .ref a_p0)]) hx hb dX12_house_94 rfl hl (by decide) rfl (fun ls hl => ?_)
  exact l95 N ((va_up (va_up (va_up (va_up (va_up (va_up mmI 2 (mmI 1)) 1 0) 5 0) 8 0) 9 ((-1))) 31 (1 - (mmI 13)))) mmJ g_1 g_2 g_3 g_4 g_5 mm_milesToldF mm_sumFromF mm_frameF mm_phaseF mm_beginsF mm_baseF mm_opsF mm_codeSortF mm_codeValueF mm_pairF mm_sumBehindF mm_earNameL mm_placeNameL mm_placeAtF mm_talkToldF mm_rowToldF mm_sharpOfF mm_nightOfF mm_mileOfF mm_roundsOfF mm_talkingOfF mm_hushOfF mm_rowOfF mm_keptManyF mm_talkOfF mm_refusedF (3 * (1 - (mmI 13))) _ _ _ hf hP hD hS (lv_sub hl [1, 0] rfl)
def dsX12_within_0 : List (Nat × Instr × Nat) := [(0, (.lload_n 0, 1)), (1, (.ldc2_w 397, 3)), (4, (.lcmp, 1)), (5, (.ifCond .le 9, 3)), (8, (.ldc2_w 397, 3)), (11, (.goto 18, 3)), (14, (.lload_n 0, 1)), (15, (.ldc2_w 399, 3)), (18, (.lcmp, 1)), (19, (.ifCond .ge 9, 3)), (22, (.ldc2_w 399, 3)), (25, (.goto 4, 3)), (28, (.lload_n 0, 1)), (29, (.lreturn, 1))]
theorem dsX12_within_0_ok : (dsX12_within_0.all fun q => decide (decode cX12_within q.1 = .ok q.2)) = true := by decide +kernel
theorem dX12_within_0 : decode cX12_within 0 = .ok (.lload_n 0, 1) := of_decide_eq_true (List.all_eq_true.mp dsX12_within_0_ok (0, (.lload_n 0, 1)) (List.mem_of_getElem? (i := 0) rfl))
theorem dX12_within_1 : decode cX12_within 1 = .ok (.ldc2_w 397, 3) := of_decide_eq_true (List.all_eq_true.mp dsX12_within_0_ok (1, (.ldc2_w 397, 3)) (List.mem_of_getElem? (i := 1) rfl))
theorem dX12_within_4 : decode cX12_within 4 = .ok (.lcmp, 1) := of_decide_eq_true (List.all_eq_true.mp dsX12_within_0_ok (4, (.lcmp, 1)) (List.mem_of_getElem? (i := 2) rfl))
theorem dX12_within_5 : decode cX12_within 5 = .ok (.ifCond .le 9, 3) := of_decide_eq_true (List.all_eq_true.mp dsX12_within_0_ok (5, (.ifCond .le 9, 3)) (List.mem_of_getElem? (i := 3) rfl))
theorem dX12_within_8 : decode cX12_within 8 = .ok (.ldc2_w 397, 3) := of_decide_eq_true (List.all_eq_true.mp dsX12_within_0_ok (8, (.ldc2_w 397, 3)) (List.mem_of_getElem? (i := 4) rfl))
theorem dX12_within_11 : decode cX12_within 11 = .ok (.goto 18, 3) := of_decide_eq_true (List.all_eq_true.mp dsX12_within_0_ok (11, (.goto 18, 3)) (List.mem_of_getElem? (i := 5) rfl))
theorem dX12_within_14 : decode cX12_within 14 = .ok (.lload_n 0, 1) := of_decide_eq_true (List.all_eq_true.mp dsX12_within_0_ok (14, (.lload_n 0, 1)) (List.mem_of_getElem? (i := 6) rfl))
theorem dX12_within_15 : decode cX12_within 15 = .ok (.ldc2_w 399, 3) := of_decide_eq_true (List.all_eq_true.mp dsX12_within_0_ok (15, (.ldc2_w 399, 3)) (List.mem_of_getElem? (i := 7) rfl))
theorem dX12_within_18 : decode cX12_within 18 = .ok (.lcmp, 1) := of_decide_eq_true (List.all_eq_true.mp dsX12_within_0_ok (18, (.lcmp, 1)) (List.mem_of_getElem? (i := 8) rfl))
theorem dX12_within_19 : decode cX12_within 19 = .ok (.ifCond .ge 9, 3) := of_decide_eq_true (List.all_eq_true.mp dsX12_within_0_ok (19, (.ifCond .ge 9, 3)) (List.mem_of_getElem? (i := 9) rfl))
theorem dX12_within_22 : decode cX12_within 22 = .ok (.ldc2_w 399, 3) := of_decide_eq_true (List.all_eq_true.mp dsX12_within_0_ok (22, (.ldc2_w 399, 3)) (List.mem_of_getElem? (i := 10) rfl))
theorem dX12_within_25 : decode cX12_within 25 = .ok (.goto 4, 3) := of_decide_eq_true (List.all_eq_true.mp dsX12_within_0_ok (25, (.goto 4, 3)) (List.mem_of_getElem? (i := 11) rfl))
theorem dX12_within_28 : decode cX12_within 28 = .ok (.lload_n 0, 1) := of_decide_eq_true (List.all_eq_true.mp dsX12_within_0_ok (28, (.lload_n 0, 1)) (List.mem_of_getElem? (i := 12) rfl))
theorem dX12_within_29 : decode cX12_within 29 = .ok (.lreturn, 1) := of_decide_eq_true (List.all_eq_true.mp dsX12_within_0_ok (29, (.lreturn, 1)) (List.mem_of_getElem? (i := 13) rfl))
def fX12_within (N : Nat)   (p0 : Int64) : Option (Int64) :=
  (if (lg_cmp p0 1000000) ≤ 0 then (if 0 ≤ (lg_cmp p0 ((-1000000))) then some p0 else some ((-1000000))) else some 1000000)
set_option maxHeartbeats 4000000 in
set_option maxRecDepth 100000 in
theorem kX12_within (l : Launch) (dC : Nat → ClassId) (dI : Nat → Nat → Nat) (cI cB cJ cZ cM : ClassId) (z : Nat) (ad : Nat → Nat) (N : Nat) (p0 : Int64) {r0 : Int64} (hf : fX12_within N p0 = some r0) : xq_Ct l yX12_within wsX12_within { frames := 0, cells := 0, slots := 0, locals := 0 } (dC, dI) vwCl (xq_tys cI cB cJ cZ cM) z ad [.long p0] [] [] (some (.long r0)) := by
  intro sz
  refine Met.ofW (cc := cX12_within) (maxL := 2) (ret := (some .long)) (by decide) rfl ?_
  intro p e s m args below meth c s₁ B hml hv
  obtain ⟨rfl, hsz, hP, hK, hD0, hE, hz⟩ := hv
  have hx := B.exec
  have hb := B.bytes
  have hr := B.returns
  have hts := atoms_spec (ws := wsX12_within) B.pre
  have hown : s.vm.findClass RX12 = some m.cls := findClass_of_methodNamed B.named
  have hlocks := B.notSynchronized
  subst hsz
  have hD := hD0.self (sz := s.heap.size)
  have hN := xq_Env.of hE hz hD0
  generalize hAe : va_A [] s.heap.size = A at hD hN ⊢
  have hA : ∀ q : Nat, s.heap.size ≤ q → A q := fun q h => by rw [← hAe]; exact Or.inr h
  clear hAe hD0
  have hS : va_S A s.heap s.heap [] := va_S.rf
  have hl := lv_entry ([.long p0]) (n := 2) (Nat.le_of_ble_eq_true rfl)
  rw [lg_entry_eq]
  generalize (lg_sl ([.long p0]) ++ List.replicate (2 - (lg_sl ([.long p0])).length) Slot.unset).toArray = ls at hl ⊢
  have hl : lv_has ls 2 [(0, .long p0)] := hl
  have hw0 := hts (.constantLong RX12 397 (1000000)) (by decide +kernel)
  have hw1 := hts (.constantLong RX12 399 (-1000000)) (by decide +kernel)
  unfold fX12_within at hf
  refine lv_lload_n hx hb dX12_within_0 rfl (lv_at hl 0 rfl) ?_
  refine lv_ldc2 (v := 1000000) hx hb hown hw0 dX12_within_1 ?_
  refine W.lcmp hx hb dX12_within_4 ?_
  refine lv_if_le (tgt := 14) hx hb dX12_within_5 (by decide) (fun c_ => ?_) (fun c_ => ?_)
  · have hf := xq_pos hf c_
    refine lv_lload_n hx hb dX12_within_14 rfl (lv_at hl 0 rfl) ?_
    refine lv_ldc2 (v := (-1000000)) hx hb hown hw1 dX12_within_15 ?_
    refine W.lcmp hx hb dX12_within_18 ?_
    refine lv_if_ge (tgt := 28) hx hb dX12_within_19 (by decide) (fun c_ => ?_) (fun c_ => ?_)
    · have hf := xq_pos hf c_
      refine lv_lload_n hx hb dX12_within_28 rfl (lv_at hl 0 rfl) ?_
      have hP9 := hP
      have hD9 := hD
      have hS9 := hS
      cases hf
      exact xq_lret hx hb hr hlocks hK hP9 hD9 hS9 dX12_within_29
    · have hf := xq_neg hf c_
      refine lv_ldc2 (v := (-1000000)) hx hb hown hw1 dX12_within_22 ?_
      refine lv_goto (tgt := 29) hx hb dX12_within_25 (by decide) ?_
      have hP9 := hP
      have hD9 := hD
      have hS9 := hS
      cases hf
      exact xq_lret hx hb hr hlocks hK hP9 hD9 hS9 dX12_within_29
  · have hf := xq_neg hf c_
    refine lv_ldc2 (v := 1000000) hx hb hown hw0 dX12_within_8 ?_
    refine lv_goto (tgt := 29) hx hb dX12_within_11 (by decide) ?_
    have hP9 := hP
    have hD9 := hD
    have hS9 := hS
    cases hf
    exact xq_lret hx hb hr hlocks hK hP9 hD9 hS9 dX12_within_29
def dsX12_floor_0 : List (Nat × Instr × Nat) := [(0, (.lload_n 2, 1)), (1, (.lconst 0, 1)), (2, (.lcmp, 1)), (3, (.ifCond .ne 5, 3)), (6, (.lconst 0, 1)), (7, (.lreturn, 1)), (8, (.lload_n 0, 1)), (9, (.lload_n 2, 1)), (10, (.ldiv, 1)), (11, (.lstore 4, 2)), (13, (.lload_n 0, 1)), (14, (.lload_n 2, 1)), (15, (.lrem, 1)), (16, (.lconst 0, 1)), (17, (.lcmp, 1)), (18, (.ifCond .eq 35, 3)), (21, (.lload_n 0, 1)), (22, (.lconst 0, 1)), (23, (.lcmp, 1)), (24, (.ifCond .ge 7, 3)), (27, (.iconst 1, 1)), (28, (.goto 4, 3)), (31, (.iconst 0, 1)), (32, (.lload_n 2, 1)), (33, (.lconst 0, 1)), (34, (.lcmp, 1)), (35, (.ifCond .ge 7, 3)), (38, (.iconst 1, 1)), (39, (.goto 4, 3)), (42, (.iconst 0, 1)), (43, (.if_icmp .eq 10, 3)), (46, (.lload 4, 2)), (48, (.lconst 1, 1)), (49, (.lsub, 1)), (50, (.goto 5, 3)), (53, (.lload 4, 2)), (55, (.lreturn, 1))]
theorem dsX12_floor_0_ok : (dsX12_floor_0.all fun q => decide (decode cX12_floor q.1 = .ok q.2)) = true := by decide +kernel
theorem dX12_floor_0 : decode cX12_floor 0 = .ok (.lload_n 2, 1) := of_decide_eq_true (List.all_eq_true.mp dsX12_floor_0_ok (0, (.lload_n 2, 1)) (List.mem_of_getElem? (i := 0) rfl))
theorem dX12_floor_1 : decode cX12_floor 1 = .ok (.lconst 0, 1) := of_decide_eq_true (List.all_eq_true.mp dsX12_floor_0_ok (1, (.lconst 0, 1)) (List.mem_of_getElem? (i := 1) rfl))
theorem dX12_floor_2 : decode cX12_floor 2 = .ok (.lcmp, 1) := of_decide_eq_true (List.all_eq_true.mp dsX12_floor_0_ok (2, (.lcmp, 1)) (List.mem_of_getElem? (i := 2) rfl))
theorem dX12_floor_3 : decode cX12_floor 3 = .ok (.ifCond .ne 5, 3) := of_decide_eq_true (List.all_eq_true.mp dsX12_floor_0_ok (3, (.ifCond .ne 5, 3)) (List.mem_of_getElem? (i := 3) rfl))
theorem dX12_floor_6 : decode cX12_floor 6 = .ok (.lconst 0, 1) := of_decide_eq_true (List.all_eq_true.mp dsX12_floor_0_ok (6, (.lconst 0, 1)) (List.mem_of_getElem? (i := 4) rfl))
theorem dX12_floor_7 : decode cX12_floor 7 = .ok (.lreturn, 1) := of_decide_eq_true (List.all_eq_true.mp dsX12_floor_0_ok (7, (.lreturn, 1)) (List.mem_of_getElem? (i := 5) rfl))
theorem dX12_floor_8 : decode cX12_floor 8 = .ok (.lload_n 0, 1) := of_decide_eq_true (List.all_eq_true.mp dsX12_floor_0_ok (8, (.lload_n 0, 1)) (List.mem_of_getElem? (i := 6) rfl))
theorem dX12_floor_9 : decode cX12_floor 9 = .ok (.lload_n 2, 1) := of_decide_eq_true (List.all_eq_true.mp dsX12_floor_0_ok (9, (.lload_n 2, 1)) (List.mem_of_getElem? (i := 7) rfl))
theorem dX12_floor_10 : decode cX12_floor 10 = .ok (.ldiv, 1) := of_decide_eq_true (List.all_eq_true.mp dsX12_floor_0_ok (10, (.ldiv, 1)) (List.mem_of_getElem? (i := 8) rfl))
theorem dX12_floor_11 : decode cX12_floor 11 = .ok (.lstore 4, 2) := of_decide_eq_true (List.all_eq_true.mp dsX12_floor_0_ok (11, (.lstore 4, 2)) (List.mem_of_getElem? (i := 9) rfl))
theorem dX12_floor_13 : decode cX12_floor 13 = .ok (.lload_n 0, 1) := of_decide_eq_true (List.all_eq_true.mp dsX12_floor_0_ok (13, (.lload_n 0, 1)) (List.mem_of_getElem? (i := 10) rfl))
theorem dX12_floor_14 : decode cX12_floor 14 = .ok (.lload_n 2, 1) := of_decide_eq_true (List.all_eq_true.mp dsX12_floor_0_ok (14, (.lload_n 2, 1)) (List.mem_of_getElem? (i := 11) rfl))
theorem dX12_floor_15 : decode cX12_floor 15 = .ok (.lrem, 1) := of_decide_eq_true (List.all_eq_true.mp dsX12_floor_0_ok (15, (.lrem, 1)) (List.mem_of_getElem? (i := 12) rfl))
theorem dX12_floor_16 : decode cX12_floor 16 = .ok (.lconst 0, 1) := of_decide_eq_true (List.all_eq_true.mp dsX12_floor_0_ok (16, (.lconst 0, 1)) (List.mem_of_getElem? (i := 13) rfl))
theorem dX12_floor_17 : decode cX12_floor 17 = .ok (.lcmp, 1) := of_decide_eq_true (List.all_eq_true.mp dsX12_floor_0_ok (17, (.lcmp, 1)) (List.mem_of_getElem? (i := 14) rfl))
theorem dX12_floor_18 : decode cX12_floor 18 = .ok (.ifCond .eq 35, 3) := of_decide_eq_true (List.all_eq_true.mp dsX12_floor_0_ok (18, (.ifCond .eq 35, 3)) (List.mem_of_getElem? (i := 15) rfl))
theorem dX12_floor_21 : decode cX12_floor 21 = .ok (.lload_n 0, 1) := of_decide_eq_true (List.all_eq_true.mp dsX12_floor_0_ok (21, (.lload_n 0, 1)) (List.mem_of_getElem? (i := 16) rfl))
theorem dX12_floor_22 : decode cX12_floor 22 = .ok (.lconst 0, 1) := of_decide_eq_true (List.all_eq_true.mp dsX12_floor_0_ok (22, (.lconst 0, 1)) (List.mem_of_getElem? (i := 17) rfl))
theorem dX12_floor_23 : decode cX12_floor 23 = .ok (.lcmp, 1) := of_decide_eq_true (List.all_eq_true.mp dsX12_floor_0_ok (23, (.lcmp, 1)) (List.mem_of_getElem? (i := 18) rfl))
theorem dX12_floor_24 : decode cX12_floor 24 = .ok (.ifCond .ge 7, 3) := of_decide_eq_true (List.all_eq_true.mp dsX12_floor_0_ok (24, (.ifCond .ge 7, 3)) (List.mem_of_getElem? (i := 19) rfl))
theorem dX12_floor_27 : decode cX12_floor 27 = .ok (.iconst 1, 1) := of_decide_eq_true (List.all_eq_true.mp dsX12_floor_0_ok (27, (.iconst 1, 1)) (List.mem_of_getElem? (i := 20) rfl))
theorem dX12_floor_28 : decode cX12_floor 28 = .ok (.goto 4, 3) := of_decide_eq_true (List.all_eq_true.mp dsX12_floor_0_ok (28, (.goto 4, 3)) (List.mem_of_getElem? (i := 21) rfl))
theorem dX12_floor_31 : decode cX12_floor 31 = .ok (.iconst 0, 1) := of_decide_eq_true (List.all_eq_true.mp dsX12_floor_0_ok (31, (.iconst 0, 1)) (List.mem_of_getElem? (i := 22) rfl))
theorem dX12_floor_32 : decode cX12_floor 32 = .ok (.lload_n 2, 1) := of_decide_eq_true (List.all_eq_true.mp dsX12_floor_0_ok (32, (.lload_n 2, 1)) (List.mem_of_getElem? (i := 23) rfl))
theorem dX12_floor_33 : decode cX12_floor 33 = .ok (.lconst 0, 1) := of_decide_eq_true (List.all_eq_true.mp dsX12_floor_0_ok (33, (.lconst 0, 1)) (List.mem_of_getElem? (i := 24) rfl))
theorem dX12_floor_34 : decode cX12_floor 34 = .ok (.lcmp, 1) := of_decide_eq_true (List.all_eq_true.mp dsX12_floor_0_ok (34, (.lcmp, 1)) (List.mem_of_getElem? (i := 25) rfl))
theorem dX12_floor_35 : decode cX12_floor 35 = .ok (.ifCond .ge 7, 3) := of_decide_eq_true (List.all_eq_true.mp dsX12_floor_0_ok (35, (.ifCond .ge 7, 3)) (List.mem_of_getElem? (i := 26) rfl))
theorem dX12_floor_38 : decode cX12_floor 38 = .ok (.iconst 1, 1) := of_decide_eq_true (List.all_eq_true.mp dsX12_floor_0_ok (38, (.iconst 1, 1)) (List.mem_of_getElem? (i := 27) rfl))
theorem dX12_floor_39 : decode cX12_floor 39 = .ok (.goto 4, 3) := of_decide_eq_true (List.all_eq_true.mp dsX12_floor_0_ok (39, (.goto 4, 3)) (List.mem_of_getElem? (i := 28) rfl))
theorem dX12_floor_42 : decode cX12_floor 42 = .ok (.iconst 0, 1) := of_decide_eq_true (List.all_eq_true.mp dsX12_floor_0_ok (42, (.iconst 0, 1)) (List.mem_of_getElem? (i := 29) rfl))
theorem dX12_floor_43 : decode cX12_floor 43 = .ok (.if_icmp .eq 10, 3) := of_decide_eq_true (List.all_eq_true.mp dsX12_floor_0_ok (43, (.if_icmp .eq 10, 3)) (List.mem_of_getElem? (i := 30) rfl))
theorem dX12_floor_46 : decode cX12_floor 46 = .ok (.lload 4, 2) := of_decide_eq_true (List.all_eq_true.mp dsX12_floor_0_ok (46, (.lload 4, 2)) (List.mem_of_getElem? (i := 31) rfl))
theorem dX12_floor_48 : decode cX12_floor 48 = .ok (.lconst 1, 1) := of_decide_eq_true (List.all_eq_true.mp dsX12_floor_0_ok (48, (.lconst 1, 1)) (List.mem_of_getElem? (i := 32) rfl))
theorem dX12_floor_49 : decode cX12_floor 49 = .ok (.lsub, 1) := of_decide_eq_true (List.all_eq_true.mp dsX12_floor_0_ok (49, (.lsub, 1)) (List.mem_of_getElem? (i := 33) rfl))
theorem dX12_floor_50 : decode cX12_floor 50 = .ok (.goto 5, 3) := of_decide_eq_true (List.all_eq_true.mp dsX12_floor_0_ok (50, (.goto 5, 3)) (List.mem_of_getElem? (i := 34) rfl))
theorem dX12_floor_53 : decode cX12_floor 53 = .ok (.lload 4, 2) := of_decide_eq_true (List.all_eq_true.mp dsX12_floor_0_ok (53, (.lload 4, 2)) (List.mem_of_getElem? (i := 35) rfl))
theorem dX12_floor_55 : decode cX12_floor 55 = .ok (.lreturn, 1) := of_decide_eq_true (List.all_eq_true.mp dsX12_floor_0_ok (55, (.lreturn, 1)) (List.mem_of_getElem? (i := 36) rfl))
def fX12_floor_b43 (N : Nat)    : (Int64 × Int32 × Int32) → Option (Int64) :=
  fun (x4_43, y0_43, y1_43) => (if y0_43 = y1_43 then some x4_43 else some (x4_43 - 1))
def fX12_floor_b32 (N : Nat)    : (Int64 × Int64 × Int32) → Option (Int64) :=
  fun (x2_32, x4_32, y0_32) => (if 0 ≤ (lg_cmp x2_32 0) then fX12_floor_b43 N (x4_32, y0_32, 0) else fX12_floor_b43 N (x4_32, y0_32, 1))
def fX12_floor (N : Nat)   (p0 : Int64) (p1 : Int64) : Option (Int64) :=
  (if (lg_cmp p1 0) = 0 then some 0 else (xq_bd (xq_dvL p0 p1) fun v_1 => (xq_bd (xq_rmL p0 p1) fun v_2 => (if (lg_cmp v_2 0) = 0 then some v_1 else (if 0 ≤ (lg_cmp p0 0) then fX12_floor_b32 N (p1, v_1, 0) else fX12_floor_b32 N (p1, v_1, 1))))))
set_option maxHeartbeats 4000000 in
set_option maxRecDepth 100000 in
theorem kX12_floor (l : Launch) (dC : Nat → ClassId) (dI : Nat → Nat → Nat) (cI cB cJ cZ cM : ClassId) (z : Nat) (ad : Nat → Nat) (N : Nat) (p0 : Int64) (p1 : Int64) {r0 : Int64} (hf : fX12_floor N p0 p1 = some r0) : xq_Ct l yX12_floor wsX12_floor { frames := 0, cells := 0, slots := 0, locals := 0 } (dC, dI) vwCl (xq_tys cI cB cJ cZ cM) z ad [.long p0, .long p1] [] [] (some (.long r0)) := by
  intro sz
  refine Met.ofW (cc := cX12_floor) (maxL := 6) (ret := (some .long)) (by decide) rfl ?_
  intro p e s m args below meth c s₁ B hml hv
  obtain ⟨rfl, hsz, hP, hK, hD0, hE, hz⟩ := hv
  have hx := B.exec
  have hb := B.bytes
  have hr := B.returns
  have hts := atoms_spec (ws := wsX12_floor) B.pre
  have hown : s.vm.findClass RX12 = some m.cls := findClass_of_methodNamed B.named
  have hlocks := B.notSynchronized
  subst hsz
  have hD := hD0.self (sz := s.heap.size)
  have hN := xq_Env.of hE hz hD0
  generalize hAe : va_A [] s.heap.size = A at hD hN ⊢
  have hA : ∀ q : Nat, s.heap.size ≤ q → A q := fun q h => by rw [← hAe]; exact Or.inr h
  clear hAe hD0
  have hS : va_S A s.heap s.heap [] := va_S.rf
  have hl := lv_entry ([.long p0, .long p1]) (n := 6) (Nat.le_of_ble_eq_true rfl)
  rw [lg_entry_eq]
  generalize (lg_sl ([.long p0, .long p1]) ++ List.replicate (6 - (lg_sl ([.long p0, .long p1])).length) Slot.unset).toArray = ls at hl ⊢
  have hl : lv_has ls 6 [(0, .long p0), (2, .long p1)] := hl
  have b43 : ∀ (x4_43 : Int64) (y0_43 : Int32) (y1_43 : Int32) (ls : Array Slot) (H : Heap) (locs : List Loc), fX12_floor_b43 N (x4_43, y0_43, y1_43) = some r0 → va_P (dC, dI) vwCl [] H → va_D A [] → va_S A s.heap H locs → lv_has ls 6 [(4, .long x4_43)] → W p l e (headSpec wsX12_floor { frames := 0, cells := 0, slots := 0, locals := 0 }).room s m [.long p0, .long p1].toArray below meth c H locs 0 0 (MQ below (xq_Q (dC, dI) vwCl (xq_tys cI cB cJ cZ cM) A [] (some (.long r0))) [.long p0, .long p1].toArray s 0 0 A) (F0 m 43 ls [.int y1_43, .int y0_43]) := by
    intro x4_43 y0_43 y1_43 ls H locs hf hP hD hS hl
    unfold fX12_floor_b43 at hf
    refine lv_icmp_eq (tgt := 53) hx hb dX12_floor_43 (by decide) (fun c_ => ?_) (fun c_ => ?_)
    · have hf := xq_pos hf c_
      refine lv_lload hx hb dX12_floor_53 (lv_at hl 0 rfl) ?_
      have hP9 := hP
      have hD9 := hD
      have hS9 := hS
      cases hf
      exact xq_lret hx hb hr hlocks hK hP9 hD9 hS9 dX12_floor_55
    · have hf := xq_neg hf c_
      refine lv_lload hx hb dX12_floor_46 (lv_at hl 0 rfl) ?_
      refine lv_lconst (v := 1) hx hb dX12_floor_48 (by decide) ?_
      refine lv_lsub hx hb dX12_floor_49 ?_
      refine lv_goto (tgt := 55) hx hb dX12_floor_50 (by decide) ?_
      have hP9 := hP
      have hD9 := hD
      have hS9 := hS
      cases hf
      exact xq_lret hx hb hr hlocks hK hP9 hD9 hS9 dX12_floor_55
  have b32 : ∀ (x2_32 : Int64) (x4_32 : Int64) (y0_32 : Int32) (ls : Array Slot) (H : Heap) (locs : List Loc), fX12_floor_b32 N (x2_32, x4_32, y0_32) = some r0 → va_P (dC, dI) vwCl [] H → va_D A [] → va_S A s.heap H locs → lv_has ls 6 [(2, .long x2_32), (4, .long x4_32)] → W p l e (headSpec wsX12_floor { frames := 0, cells := 0, slots := 0, locals := 0 }).room s m [.long p0, .long p1].toArray below meth c H locs 0 0 (MQ below (xq_Q (dC, dI) vwCl (xq_tys cI cB cJ cZ cM) A [] (some (.long r0))) [.long p0, .long p1].toArray s 0 0 A) (F0 m 32 ls [.int y0_32]) := by
    intro x2_32 x4_32 y0_32 ls H locs hf hP hD hS hl
    unfold fX12_floor_b32 at hf
    refine lv_lload_n hx hb dX12_floor_32 rfl (lv_at hl 0 rfl) ?_
    refine lv_lconst (v := 0) hx hb dX12_floor_33 (by decide) ?_
    refine W.lcmp hx hb dX12_floor_34 ?_
    refine lv_if_ge (tgt := 42) hx hb dX12_floor_35 (by decide) (fun c_ => ?_) (fun c_ => ?_)
    · have hf := xq_pos hf c_
      refine lv_iconst (v := 0) hx hb dX12_floor_42 (by decide) ?_
      exact b43 x4_32 y0_32 0 _ _ _ hf hP hD hS (lv_sub hl [1] rfl)
    · have hf := xq_neg hf c_
      refine lv_iconst (v := 1) hx hb dX12_floor_38 (by decide) ?_
      refine lv_goto (tgt := 43) hx hb dX12_floor_39 (by decide) ?_
      exact b43 x4_32 y0_32 1 _ _ _ hf hP hD hS (lv_sub hl [1] rfl)
  unfold fX12_floor at hf
  refine lv_lload_n hx hb dX12_floor_0 rfl (lv_at hl 1 rfl) ?_
  refine lv_lconst (v := 0) hx hb dX12_floor_1 (by decide) ?_
  refine W.lcmp hx hb dX12_floor_2 ?_
  refine lv_if_ne (tgt := 8) hx hb dX12_floor_3 (by decide) (fun c_ => ?_) (fun c_ => ?_)
  · have hf := xq_neg hf c_
    refine lv_lload_n hx hb dX12_floor_8 rfl (lv_at hl 0 rfl) ?_
    refine lv_lload_n hx hb dX12_floor_9 rfl (lv_at hl 1 rfl) ?_
    refine xq_ldiv hx hb hf dX12_floor_10 (fun v_1 hf => ?_)
    refine lv_lstore (lv' := [(4, .long v_1), (0, .long p0), (2, .long p1)]) hx hb dX12_floor_11 hl (by decide) rfl (fun ls hl => ?_)
    refine lv_lload_n hx hb dX12_floor_13 rfl (lv_at hl 1 rfl) ?_
    refine lv_lload_n hx hb dX12_floor_14 rfl (lv_at hl 2 rfl) ?_
    refine xq_lrem hx hb hf dX12_floor_15 (fun v_2 hf => ?_)
    refine lv_lconst (v := 0) hx hb dX12_floor_16 (by decide) ?_
    refine W.lcmp hx hb dX12_floor_17 ?_
    refine lv_if_eq (tgt := 53) hx hb dX12_floor_18 (by decide) (fun c_ => ?_) (fun c_ => ?_)
    · have hf := xq_pos hf c_
      refine lv_lload hx hb dX12_floor_53 (lv_at hl 0 rfl) ?_
      have hP9 := hP
      have hD9 := hD
      have hS9 := hS
      cases hf
      exact xq_lret hx hb hr hlocks hK hP9 hD9 hS9 dX12_floor_55
    · have hf := xq_neg hf c_
      refine lv_lload_n hx hb dX12_floor_21 rfl (lv_at hl 1 rfl) ?_
      refine lv_lconst (v := 0) hx hb dX12_floor_22 (by decide) ?_
      refine W.lcmp hx hb dX12_floor_23 ?_
      refine lv_if_ge (tgt := 31) hx hb dX12_floor_24 (by decide) (fun c_ => ?_) (fun c_ => ?_)
      · have hf := xq_pos hf c_
        refine lv_iconst (v := 0) hx hb dX12_floor_31 (by decide) ?_
        exact b32 p1 v_1 0 _ _ _ hf hP hD hS (lv_sub hl [2, 0] rfl)
      · have hf := xq_neg hf c_
        refine lv_iconst (v := 1) hx hb dX12_floor_27 (by decide) ?_
        refine lv_goto (tgt := 32) hx hb dX12_floor_28 (by decide) ?_
        exact b32 p1 v_1 1 _ _ _ hf hP hD hS (lv_sub hl [2, 0] rfl)
  · have hf := xq_pos hf c_
    refine lv_lconst (v := 0) hx hb dX12_floor_6 (by decide) ?_
    have hP9 := hP
    have hD9 := hD
    have hS9 := hS
    cases hf
    exact xq_lret hx hb hr hlocks hK hP9 hD9 hS9 dX12_floor_7
set_option maxRecDepth 20000 in
theorem ggX12_two_X12_within : GoodIn wsX12_two wsX12_within := goodIn_r _ [4, 5, 6] rfl (by decide +kernel)
set_option maxRecDepth 20000 in
theorem gX12_two_X12_within : GoodIn wsX12_two (va_wsS RX12 401 yX12_within wsX12_within) := goodIn_app (goodIn_of _ (by decide +kernel)) ggX12_two_X12_within
set_option maxRecDepth 20000 in
theorem ggX12_two_X12_floor : GoodIn wsX12_two wsX12_floor := goodIn_r _ [9] rfl (by decide +kernel)
set_option maxRecDepth 20000 in
theorem gX12_two_X12_floor : GoodIn wsX12_two (va_wsS RX12 405 yX12_floor wsX12_floor) := goodIn_app (goodIn_of _ (by decide +kernel)) ggX12_two_X12_floor
def dsX12_two_0 : List (Nat × Instr × Nat) := [(0, (.iload_n 0, 1)), (1, (.tableswitch 176 31 41 #[59, 66, 73, 80, 89, 112, 124, 136, 148, 160, 172], 59)), (60, (.lload_n 1, 1)), (61, (.lload_n 3, 1)), (62, (.ladd, 1)), (63, (.invokestatic 401, 3)), (66, (.lreturn, 1)), (67, (.lload_n 1, 1)), (68, (.lload_n 3, 1)), (69, (.lsub, 1)), (70, (.invokestatic 401, 3)), (73, (.lreturn, 1)), (74, (.lload_n 1, 1)), (75, (.lload_n 3, 1)), (76, (.lmul, 1)), (77, (.invokestatic 401, 3)), (80, (.lreturn, 1)), (81, (.lload_n 1, 1)), (82, (.lload_n 3, 1)), (83, (.invokestatic 405, 3)), (86, (.invokestatic 401, 3)), (89, (.lreturn, 1)), (90, (.lload_n 3, 1)), (91, (.lconst 0, 1)), (92, (.lcmp, 1)), (93, (.ifCond .ne 7, 3)), (96, (.lconst 0, 1)), (97, (.goto 15, 3)), (100, (.lload_n 1, 1)), (101, (.lload_n 3, 1)), (102, (.lload_n 1, 1)), (103, (.lload_n 3, 1)), (104, (.invokestatic 405, 3)), (107, (.lmul, 1)), (108, (.lsub, 1)), (109, (.invokestatic 401, 3)), (112, (.lreturn, 1)), (113, (.lload_n 1, 1)), (114, (.lload_n 3, 1)), (115, (.lcmp, 1)), (116, (.ifCond .ge 7, 3)), (119, (.lload_n 1, 1)), (120, (.goto 4, 3)), (123, (.lload_n 3, 1)), (124, (.lreturn, 1)), (125, (.lload_n 1, 1)), (126, (.lload_n 3, 1)), (127, (.lcmp, 1)), (128, (.ifCond .le 7, 3)), (131, (.lload_n 1, 1)), (132, (.goto 4, 3)), (135, (.lload_n 3, 1)), (136, (.lreturn, 1)), (137, (.lload_n 1, 1)), (138, (.lload_n 3, 1)), (139, (.lcmp, 1)), (140, (.ifCond .ge 7, 3)), (143, (.lconst 1, 1)), (144, (.goto 4, 3)), (147, (.lconst 0, 1))]
theorem dsX12_two_0_ok : (dsX12_two_0.all fun q => decide (decode cX12_two q.1 = .ok q.2)) = true := by decide +kernel
theorem dX12_two_0 : decode cX12_two 0 = .ok (.iload_n 0, 1) := of_decide_eq_true (List.all_eq_true.mp dsX12_two_0_ok (0, (.iload_n 0, 1)) (List.mem_of_getElem? (i := 0) rfl))
theorem dX12_two_1 : decode cX12_two 1 = .ok (.tableswitch 176 31 41 #[59, 66, 73, 80, 89, 112, 124, 136, 148, 160, 172], 59) := of_decide_eq_true (List.all_eq_true.mp dsX12_two_0_ok (1, (.tableswitch 176 31 41 #[59, 66, 73, 80, 89, 112, 124, 136, 148, 160, 172], 59)) (List.mem_of_getElem? (i := 1) rfl))
theorem dX12_two_60 : decode cX12_two 60 = .ok (.lload_n 1, 1) := of_decide_eq_true (List.all_eq_true.mp dsX12_two_0_ok (60, (.lload_n 1, 1)) (List.mem_of_getElem? (i := 2) rfl))
theorem dX12_two_61 : decode cX12_two 61 = .ok (.lload_n 3, 1) := of_decide_eq_true (List.all_eq_true.mp dsX12_two_0_ok (61, (.lload_n 3, 1)) (List.mem_of_getElem? (i := 3) rfl))
theorem dX12_two_62 : decode cX12_two 62 = .ok (.ladd, 1) := of_decide_eq_true (List.all_eq_true.mp dsX12_two_0_ok (62, (.ladd, 1)) (List.mem_of_getElem? (i := 4) rfl))
theorem dX12_two_63 : decode cX12_two 63 = .ok (.invokestatic 401, 3) := of_decide_eq_true (List.all_eq_true.mp dsX12_two_0_ok (63, (.invokestatic 401, 3)) (List.mem_of_getElem? (i := 5) rfl))
theorem dX12_two_66 : decode cX12_two 66 = .ok (.lreturn, 1) := of_decide_eq_true (List.all_eq_true.mp dsX12_two_0_ok (66, (.lreturn, 1)) (List.mem_of_getElem? (i := 6) rfl))
theorem dX12_two_67 : decode cX12_two 67 = .ok (.lload_n 1, 1) := of_decide_eq_true (List.all_eq_true.mp dsX12_two_0_ok (67, (.lload_n 1, 1)) (List.mem_of_getElem? (i := 7) rfl))
theorem dX12_two_68 : decode cX12_two 68 = .ok (.lload_n 3, 1) := of_decide_eq_true (List.all_eq_true.mp dsX12_two_0_ok (68, (.lload_n 3, 1)) (List.mem_of_getElem? (i := 8) rfl))
theorem dX12_two_69 : decode cX12_two 69 = .ok (.lsub, 1) := of_decide_eq_true (List.all_eq_true.mp dsX12_two_0_ok (69, (.lsub, 1)) (List.mem_of_getElem? (i := 9) rfl))
theorem dX12_two_70 : decode cX12_two 70 = .ok (.invokestatic 401, 3) := of_decide_eq_true (List.all_eq_true.mp dsX12_two_0_ok (70, (.invokestatic 401, 3)) (List.mem_of_getElem? (i := 10) rfl))
theorem dX12_two_73 : decode cX12_two 73 = .ok (.lreturn, 1) := of_decide_eq_true (List.all_eq_true.mp dsX12_two_0_ok (73, (.lreturn, 1)) (List.mem_of_getElem? (i := 11) rfl))
theorem dX12_two_74 : decode cX12_two 74 = .ok (.lload_n 1, 1) := of_decide_eq_true (List.all_eq_true.mp dsX12_two_0_ok (74, (.lload_n 1, 1)) (List.mem_of_getElem? (i := 12) rfl))
theorem dX12_two_75 : decode cX12_two 75 = .ok (.lload_n 3, 1) := of_decide_eq_true (List.all_eq_true.mp dsX12_two_0_ok (75, (.lload_n 3, 1)) (List.mem_of_getElem? (i := 13) rfl))
theorem dX12_two_76 : decode cX12_two 76 = .ok (.lmul, 1) := of_decide_eq_true (List.all_eq_true.mp dsX12_two_0_ok (76, (.lmul, 1)) (List.mem_of_getElem? (i := 14) rfl))
theorem dX12_two_77 : decode cX12_two 77 = .ok (.invokestatic 401, 3) := of_decide_eq_true (List.all_eq_true.mp dsX12_two_0_ok (77, (.invokestatic 401, 3)) (List.mem_of_getElem? (i := 15) rfl))
theorem dX12_two_80 : decode cX12_two 80 = .ok (.lreturn, 1) := of_decide_eq_true (List.all_eq_true.mp dsX12_two_0_ok (80, (.lreturn, 1)) (List.mem_of_getElem? (i := 16) rfl))
theorem dX12_two_81 : decode cX12_two 81 = .ok (.lload_n 1, 1) := of_decide_eq_true (List.all_eq_true.mp dsX12_two_0_ok (81, (.lload_n 1, 1)) (List.mem_of_getElem? (i := 17) rfl))
theorem dX12_two_82 : decode cX12_two 82 = .ok (.lload_n 3, 1) := of_decide_eq_true (List.all_eq_true.mp dsX12_two_0_ok (82, (.lload_n 3, 1)) (List.mem_of_getElem? (i := 18) rfl))
theorem dX12_two_83 : decode cX12_two 83 = .ok (.invokestatic 405, 3) := of_decide_eq_true (List.all_eq_true.mp dsX12_two_0_ok (83, (.invokestatic 405, 3)) (List.mem_of_getElem? (i := 19) rfl))
theorem dX12_two_86 : decode cX12_two 86 = .ok (.invokestatic 401, 3) := of_decide_eq_true (List.all_eq_true.mp dsX12_two_0_ok (86, (.invokestatic 401, 3)) (List.mem_of_getElem? (i := 20) rfl))
theorem dX12_two_89 : decode cX12_two 89 = .ok (.lreturn, 1) := of_decide_eq_true (List.all_eq_true.mp dsX12_two_0_ok (89, (.lreturn, 1)) (List.mem_of_getElem? (i := 21) rfl))
theorem dX12_two_90 : decode cX12_two 90 = .ok (.lload_n 3, 1) := of_decide_eq_true (List.all_eq_true.mp dsX12_two_0_ok (90, (.lload_n 3, 1)) (List.mem_of_getElem? (i := 22) rfl))
theorem dX12_two_91 : decode cX12_two 91 = .ok (.lconst 0, 1) := of_decide_eq_true (List.all_eq_true.mp dsX12_two_0_ok (91, (.lconst 0, 1)) (List.mem_of_getElem? (i := 23) rfl))
theorem dX12_two_92 : decode cX12_two 92 = .ok (.lcmp, 1) := of_decide_eq_true (List.all_eq_true.mp dsX12_two_0_ok (92, (.lcmp, 1)) (List.mem_of_getElem? (i := 24) rfl))
theorem dX12_two_93 : decode cX12_two 93 = .ok (.ifCond .ne 7, 3) := of_decide_eq_true (List.all_eq_true.mp dsX12_two_0_ok (93, (.ifCond .ne 7, 3)) (List.mem_of_getElem? (i := 25) rfl))
theorem dX12_two_96 : decode cX12_two 96 = .ok (.lconst 0, 1) := of_decide_eq_true (List.all_eq_true.mp dsX12_two_0_ok (96, (.lconst 0, 1)) (List.mem_of_getElem? (i := 26) rfl))
theorem dX12_two_97 : decode cX12_two 97 = .ok (.goto 15, 3) := of_decide_eq_true (List.all_eq_true.mp dsX12_two_0_ok (97, (.goto 15, 3)) (List.mem_of_getElem? (i := 27) rfl))
theorem dX12_two_100 : decode cX12_two 100 = .ok (.lload_n 1, 1) := of_decide_eq_true (List.all_eq_true.mp dsX12_two_0_ok (100, (.lload_n 1, 1)) (List.mem_of_getElem? (i := 28) rfl))
theorem dX12_two_101 : decode cX12_two 101 = .ok (.lload_n 3, 1) := of_decide_eq_true (List.all_eq_true.mp dsX12_two_0_ok (101, (.lload_n 3, 1)) (List.mem_of_getElem? (i := 29) rfl))
theorem dX12_two_102 : decode cX12_two 102 = .ok (.lload_n 1, 1) := of_decide_eq_true (List.all_eq_true.mp dsX12_two_0_ok (102, (.lload_n 1, 1)) (List.mem_of_getElem? (i := 30) rfl))
theorem dX12_two_103 : decode cX12_two 103 = .ok (.lload_n 3, 1) := of_decide_eq_true (List.all_eq_true.mp dsX12_two_0_ok (103, (.lload_n 3, 1)) (List.mem_of_getElem? (i := 31) rfl))
theorem dX12_two_104 : decode cX12_two 104 = .ok (.invokestatic 405, 3) := of_decide_eq_true (List.all_eq_true.mp dsX12_two_0_ok (104, (.invokestatic 405, 3)) (List.mem_of_getElem? (i := 32) rfl))
theorem dX12_two_107 : decode cX12_two 107 = .ok (.lmul, 1) := of_decide_eq_true (List.all_eq_true.mp dsX12_two_0_ok (107, (.lmul, 1)) (List.mem_of_getElem? (i := 33) rfl))
theorem dX12_two_108 : decode cX12_two 108 = .ok (.lsub, 1) := of_decide_eq_true (List.all_eq_true.mp dsX12_two_0_ok (108, (.lsub, 1)) (List.mem_of_getElem? (i := 34) rfl))
theorem dX12_two_109 : decode cX12_two 109 = .ok (.invokestatic 401, 3) := of_decide_eq_true (List.all_eq_true.mp dsX12_two_0_ok (109, (.invokestatic 401, 3)) (List.mem_of_getElem? (i := 35) rfl))
theorem dX12_two_112 : decode cX12_two 112 = .ok (.lreturn, 1) := of_decide_eq_true (List.all_eq_true.mp dsX12_two_0_ok (112, (.lreturn, 1)) (List.mem_of_getElem? (i := 36) rfl))
theorem dX12_two_113 : decode cX12_two 113 = .ok (.lload_n 1, 1) := of_decide_eq_true (List.all_eq_true.mp dsX12_two_0_ok (113, (.lload_n 1, 1)) (List.mem_of_getElem? (i := 37) rfl))
theorem dX12_two_114 : decode cX12_two 114 = .ok (.lload_n 3, 1) := of_decide_eq_true (List.all_eq_true.mp dsX12_two_0_ok (114, (.lload_n 3, 1)) (List.mem_of_getElem? (i := 38) rfl))
theorem dX12_two_115 : decode cX12_two 115 = .ok (.lcmp, 1) := of_decide_eq_true (List.all_eq_true.mp dsX12_two_0_ok (115, (.lcmp, 1)) (List.mem_of_getElem? (i := 39) rfl))
theorem dX12_two_116 : decode cX12_two 116 = .ok (.ifCond .ge 7, 3) := of_decide_eq_true (List.all_eq_true.mp dsX12_two_0_ok (116, (.ifCond .ge 7, 3)) (List.mem_of_getElem? (i := 40) rfl))
theorem dX12_two_119 : decode cX12_two 119 = .ok (.lload_n 1, 1) := of_decide_eq_true (List.all_eq_true.mp dsX12_two_0_ok (119, (.lload_n 1, 1)) (List.mem_of_getElem? (i := 41) rfl))
theorem dX12_two_120 : decode cX12_two 120 = .ok (.goto 4, 3) := of_decide_eq_true (List.all_eq_true.mp dsX12_two_0_ok (120, (.goto 4, 3)) (List.mem_of_getElem? (i := 42) rfl))
theorem dX12_two_123 : decode cX12_two 123 = .ok (.lload_n 3, 1) := of_decide_eq_true (List.all_eq_true.mp dsX12_two_0_ok (123, (.lload_n 3, 1)) (List.mem_of_getElem? (i := 43) rfl))
theorem dX12_two_124 : decode cX12_two 124 = .ok (.lreturn, 1) := of_decide_eq_true (List.all_eq_true.mp dsX12_two_0_ok (124, (.lreturn, 1)) (List.mem_of_getElem? (i := 44) rfl))
theorem dX12_two_125 : decode cX12_two 125 = .ok (.lload_n 1, 1) := of_decide_eq_true (List.all_eq_true.mp dsX12_two_0_ok (125, (.lload_n 1, 1)) (List.mem_of_getElem? (i := 45) rfl))
theorem dX12_two_126 : decode cX12_two 126 = .ok (.lload_n 3, 1) := of_decide_eq_true (List.all_eq_true.mp dsX12_two_0_ok (126, (.lload_n 3, 1)) (List.mem_of_getElem? (i := 46) rfl))
theorem dX12_two_127 : decode cX12_two 127 = .ok (.lcmp, 1) := of_decide_eq_true (List.all_eq_true.mp dsX12_two_0_ok (127, (.lcmp, 1)) (List.mem_of_getElem? (i := 47) rfl))
theorem dX12_two_128 : decode cX12_two 128 = .ok (.ifCond .le 7, 3) := of_decide_eq_true (List.all_eq_true.mp dsX12_two_0_ok (128, (.ifCond .le 7, 3)) (List.mem_of_getElem? (i := 48) rfl))
theorem dX12_two_131 : decode cX12_two 131 = .ok (.lload_n 1, 1) := of_decide_eq_true (List.all_eq_true.mp dsX12_two_0_ok (131, (.lload_n 1, 1)) (List.mem_of_getElem? (i := 49) rfl))
theorem dX12_two_132 : decode cX12_two 132 = .ok (.goto 4, 3) := of_decide_eq_true (List.all_eq_true.mp dsX12_two_0_ok (132, (.goto 4, 3)) (List.mem_of_getElem? (i := 50) rfl))
theorem dX12_two_135 : decode cX12_two 135 = .ok (.lload_n 3, 1) := of_decide_eq_true (List.all_eq_true.mp dsX12_two_0_ok (135, (.lload_n 3, 1)) (List.mem_of_getElem? (i := 51) rfl))
theorem dX12_two_136 : decode cX12_two 136 = .ok (.lreturn, 1) := of_decide_eq_true (List.all_eq_true.mp dsX12_two_0_ok (136, (.lreturn, 1)) (List.mem_of_getElem? (i := 52) rfl))
theorem dX12_two_137 : decode cX12_two 137 = .ok (.lload_n 1, 1) := of_decide_eq_true (List.all_eq_true.mp dsX12_two_0_ok (137, (.lload_n 1, 1)) (List.mem_of_getElem? (i := 53) rfl))
theorem dX12_two_138 : decode cX12_two 138 = .ok (.lload_n 3, 1) := of_decide_eq_true (List.all_eq_true.mp dsX12_two_0_ok (138, (.lload_n 3, 1)) (List.mem_of_getElem? (i := 54) rfl))
theorem dX12_two_139 : decode cX12_two 139 = .ok (.lcmp, 1) := of_decide_eq_true (List.all_eq_true.mp dsX12_two_0_ok (139, (.lcmp, 1)) (List.mem_of_getElem? (i := 55) rfl))
theorem dX12_two_140 : decode cX12_two 140 = .ok (.ifCond .ge 7, 3) := of_decide_eq_true (List.all_eq_true.mp dsX12_two_0_ok (140, (.ifCond .ge 7, 3)) (List.mem_of_getElem? (i := 56) rfl))
theorem dX12_two_143 : decode cX12_two 143 = .ok (.lconst 1, 1) := of_decide_eq_true (List.all_eq_true.mp dsX12_two_0_ok (143, (.lconst 1, 1)) (List.mem_of_getElem? (i := 57) rfl))
theorem dX12_two_144 : decode cX12_two 144 = .ok (.goto 4, 3) := of_decide_eq_true (List.all_eq_true.mp dsX12_two_0_ok (144, (.goto 4, 3)) (List.mem_of_getElem? (i := 58) rfl))
theorem dX12_two_147 : decode cX12_two 147 = .ok (.lconst 0, 1) := of_decide_eq_true (List.all_eq_true.mp dsX12_two_0_ok (147, (.lconst 0, 1)) (List.mem_of_getElem? (i := 59) rfl))
def dsX12_two_1 : List (Nat × Instr × Nat) := [(148, (.lreturn, 1)), (149, (.lload_n 1, 1)), (150, (.lload_n 3, 1)), (151, (.lcmp, 1)), (152, (.ifCond .le 7, 3)), (155, (.lconst 1, 1)), (156, (.goto 4, 3)), (159, (.lconst 0, 1)), (160, (.lreturn, 1)), (161, (.lload_n 1, 1)), (162, (.lload_n 3, 1)), (163, (.lcmp, 1)), (164, (.ifCond .ne 7, 3)), (167, (.lconst 1, 1)), (168, (.goto 4, 3)), (171, (.lconst 0, 1)), (172, (.lreturn, 1)), (173, (.lload_n 1, 1)), (174, (.lload_n 3, 1)), (175, (.land, 1)), (176, (.lreturn, 1)), (177, (.lload_n 1, 1)), (178, (.lload_n 3, 1)), (179, (.lor, 1)), (180, (.lreturn, 1))]
theorem dsX12_two_1_ok : (dsX12_two_1.all fun q => decide (decode cX12_two q.1 = .ok q.2)) = true := by decide +kernel
theorem dX12_two_148 : decode cX12_two 148 = .ok (.lreturn, 1) := of_decide_eq_true (List.all_eq_true.mp dsX12_two_1_ok (148, (.lreturn, 1)) (List.mem_of_getElem? (i := 0) rfl))
theorem dX12_two_149 : decode cX12_two 149 = .ok (.lload_n 1, 1) := of_decide_eq_true (List.all_eq_true.mp dsX12_two_1_ok (149, (.lload_n 1, 1)) (List.mem_of_getElem? (i := 1) rfl))
theorem dX12_two_150 : decode cX12_two 150 = .ok (.lload_n 3, 1) := of_decide_eq_true (List.all_eq_true.mp dsX12_two_1_ok (150, (.lload_n 3, 1)) (List.mem_of_getElem? (i := 2) rfl))
theorem dX12_two_151 : decode cX12_two 151 = .ok (.lcmp, 1) := of_decide_eq_true (List.all_eq_true.mp dsX12_two_1_ok (151, (.lcmp, 1)) (List.mem_of_getElem? (i := 3) rfl))
theorem dX12_two_152 : decode cX12_two 152 = .ok (.ifCond .le 7, 3) := of_decide_eq_true (List.all_eq_true.mp dsX12_two_1_ok (152, (.ifCond .le 7, 3)) (List.mem_of_getElem? (i := 4) rfl))
theorem dX12_two_155 : decode cX12_two 155 = .ok (.lconst 1, 1) := of_decide_eq_true (List.all_eq_true.mp dsX12_two_1_ok (155, (.lconst 1, 1)) (List.mem_of_getElem? (i := 5) rfl))
theorem dX12_two_156 : decode cX12_two 156 = .ok (.goto 4, 3) := of_decide_eq_true (List.all_eq_true.mp dsX12_two_1_ok (156, (.goto 4, 3)) (List.mem_of_getElem? (i := 6) rfl))
theorem dX12_two_159 : decode cX12_two 159 = .ok (.lconst 0, 1) := of_decide_eq_true (List.all_eq_true.mp dsX12_two_1_ok (159, (.lconst 0, 1)) (List.mem_of_getElem? (i := 7) rfl))
theorem dX12_two_160 : decode cX12_two 160 = .ok (.lreturn, 1) := of_decide_eq_true (List.all_eq_true.mp dsX12_two_1_ok (160, (.lreturn, 1)) (List.mem_of_getElem? (i := 8) rfl))
theorem dX12_two_161 : decode cX12_two 161 = .ok (.lload_n 1, 1) := of_decide_eq_true (List.all_eq_true.mp dsX12_two_1_ok (161, (.lload_n 1, 1)) (List.mem_of_getElem? (i := 9) rfl))
theorem dX12_two_162 : decode cX12_two 162 = .ok (.lload_n 3, 1) := of_decide_eq_true (List.all_eq_true.mp dsX12_two_1_ok (162, (.lload_n 3, 1)) (List.mem_of_getElem? (i := 10) rfl))
theorem dX12_two_163 : decode cX12_two 163 = .ok (.lcmp, 1) := of_decide_eq_true (List.all_eq_true.mp dsX12_two_1_ok (163, (.lcmp, 1)) (List.mem_of_getElem? (i := 11) rfl))
theorem dX12_two_164 : decode cX12_two 164 = .ok (.ifCond .ne 7, 3) := of_decide_eq_true (List.all_eq_true.mp dsX12_two_1_ok (164, (.ifCond .ne 7, 3)) (List.mem_of_getElem? (i := 12) rfl))
theorem dX12_two_167 : decode cX12_two 167 = .ok (.lconst 1, 1) := of_decide_eq_true (List.all_eq_true.mp dsX12_two_1_ok (167, (.lconst 1, 1)) (List.mem_of_getElem? (i := 13) rfl))
theorem dX12_two_168 : decode cX12_two 168 = .ok (.goto 4, 3) := of_decide_eq_true (List.all_eq_true.mp dsX12_two_1_ok (168, (.goto 4, 3)) (List.mem_of_getElem? (i := 14) rfl))
theorem dX12_two_171 : decode cX12_two 171 = .ok (.lconst 0, 1) := of_decide_eq_true (List.all_eq_true.mp dsX12_two_1_ok (171, (.lconst 0, 1)) (List.mem_of_getElem? (i := 15) rfl))
theorem dX12_two_172 : decode cX12_two 172 = .ok (.lreturn, 1) := of_decide_eq_true (List.all_eq_true.mp dsX12_two_1_ok (172, (.lreturn, 1)) (List.mem_of_getElem? (i := 16) rfl))
theorem dX12_two_173 : decode cX12_two 173 = .ok (.lload_n 1, 1) := of_decide_eq_true (List.all_eq_true.mp dsX12_two_1_ok (173, (.lload_n 1, 1)) (List.mem_of_getElem? (i := 17) rfl))
theorem dX12_two_174 : decode cX12_two 174 = .ok (.lload_n 3, 1) := of_decide_eq_true (List.all_eq_true.mp dsX12_two_1_ok (174, (.lload_n 3, 1)) (List.mem_of_getElem? (i := 18) rfl))
theorem dX12_two_175 : decode cX12_two 175 = .ok (.land, 1) := of_decide_eq_true (List.all_eq_true.mp dsX12_two_1_ok (175, (.land, 1)) (List.mem_of_getElem? (i := 19) rfl))
theorem dX12_two_176 : decode cX12_two 176 = .ok (.lreturn, 1) := of_decide_eq_true (List.all_eq_true.mp dsX12_two_1_ok (176, (.lreturn, 1)) (List.mem_of_getElem? (i := 20) rfl))
theorem dX12_two_177 : decode cX12_two 177 = .ok (.lload_n 1, 1) := of_decide_eq_true (List.all_eq_true.mp dsX12_two_1_ok (177, (.lload_n 1, 1)) (List.mem_of_getElem? (i := 21) rfl))
theorem dX12_two_178 : decode cX12_two 178 = .ok (.lload_n 3, 1) := of_decide_eq_true (List.all_eq_true.mp dsX12_two_1_ok (178, (.lload_n 3, 1)) (List.mem_of_getElem? (i := 22) rfl))
theorem dX12_two_179 : decode cX12_two 179 = .ok (.lor, 1) := of_decide_eq_true (List.all_eq_true.mp dsX12_two_1_ok (179, (.lor, 1)) (List.mem_of_getElem? (i := 23) rfl))
theorem dX12_two_180 : decode cX12_two 180 = .ok (.lreturn, 1) := of_decide_eq_true (List.all_eq_true.mp dsX12_two_1_ok (180, (.lreturn, 1)) (List.mem_of_getElem? (i := 24) rfl))
def fX12_two (N : Nat)   (p0 : Int32) (p1 : Int64) (p2 : Int64) : Option (Int64) :=
  (if p0 = 31 then (xq_bd (fX12_within N (p1 + p2)) fun r_1 => some r_1) else (if p0 = 32 then (xq_bd (fX12_within N (p1 - p2)) fun r_3 => some r_3) else (if p0 = 33 then (xq_bd (fX12_within N (p1 * p2)) fun r_5 => some r_5) else (if p0 = 34 then (xq_bd (fX12_floor N p1 p2) fun r_7 => (xq_bd (fX12_within N r_7) fun r_9 => some r_9)) else (if p0 = 35 then (if (lg_cmp p2 0) = 0 then some 0 else (xq_bd (fX12_floor N p1 p2) fun r_11 => (xq_bd (fX12_within N (p1 - (p2 * r_11))) fun r_13 => some r_13))) else (if p0 = 36 then (if 0 ≤ (lg_cmp p1 p2) then some p2 else some p1) else (if p0 = 37 then (if (lg_cmp p1 p2) ≤ 0 then some p2 else some p1) else (if p0 = 38 then (if 0 ≤ (lg_cmp p1 p2) then some 0 else some 1) else (if p0 = 39 then (if (lg_cmp p1 p2) ≤ 0 then some 0 else some 1) else (if p0 = 40 then (if (lg_cmp p1 p2) = 0 then some 1 else some 0) else (if p0 = 41 then some (p1 &&& p2) else some (p1 ||| p2))))))))))))
set_option maxHeartbeats 4000000 in
set_option maxRecDepth 100000 in
theorem kX12_two (l : Launch) (dC : Nat → ClassId) (dI : Nat → Nat → Nat) (cI cB cJ cZ cM : ClassId) (z : Nat) (ad : Nat → Nat) (N : Nat) (p0 : Int32) (p1 : Int64) (p2 : Int64) {r0 : Int64} (hf : fX12_two N p0 p1 p2 = some r0) : xq_Ct l yX12_two wsX12_two { frames := 1, cells := 0, slots := 0, locals := 25 } (dC, dI) vwCl (xq_tys cI cB cJ cZ cM) z ad [.int p0, .long p1, .long p2] [] [] (some (.long r0)) := by
  intro sz
  refine Met.ofW (cc := cX12_two) (maxL := 5) (ret := (some .long)) (by decide) rfl ?_
  intro p e s m args below meth c s₁ B hml hv
  obtain ⟨rfl, hsz, hP, hK, hD0, hE, hz⟩ := hv
  have hx := B.exec
  have hb := B.bytes
  have hr := B.returns
  have hts := atoms_spec (ws := wsX12_two) B.pre
  have hown : s.vm.findClass RX12 = some m.cls := findClass_of_methodNamed B.named
  have hlocks := B.notSynchronized
  subst hsz
  have hD := hD0.self (sz := s.heap.size)
  have hN := xq_Env.of hE hz hD0
  generalize hAe : va_A [] s.heap.size = A at hD hN ⊢
  have hA : ∀ q : Nat, s.heap.size ≤ q → A q := fun q h => by rw [← hAe]; exact Or.inr h
  clear hAe hD0
  have hS : va_S A s.heap s.heap [] := va_S.rf
  have hl := lv_entry ([.int p0, .long p1, .long p2]) (n := 5) (Nat.le_of_ble_eq_true rfl)
  rw [lg_entry_eq]
  generalize (lg_sl ([.int p0, .long p1, .long p2]) ++ List.replicate (5 - (lg_sl ([.int p0, .long p1, .long p2])).length) Slot.unset).toArray = ls at hl ⊢
  have hl : lv_has ls 5 [(0, .int p0), (1, .long p1), (3, .long p2)] := hl
  unfold fX12_two at hf
  refine lv_iload_n hx hb dX12_two_0 rfl (lv_at hl 0 rfl) ?_
  by_cases c0 : p0 = 31
  · have hf := xq_pos hf c0
    refine lv_tableIn (tgt := 60) hx hb dX12_two_1 (by rw [c0]; decide) (by rw [c0]; decide) (off := 59) (by rw [c0]; decide) (by decide) ?_
    refine lv_lload_n hx hb dX12_two_60 rfl (lv_at hl 1 rfl) ?_
    refine lv_lload_n hx hb dX12_two_61 rfl (lv_at hl 2 rfl) ?_
    refine lv_ladd hx hb dX12_two_62 ?_
    obtain ⟨r_1, h_2, hf⟩ := xq_bd_some hf
    refine xq_callS (As := [.long (p1 + p2)]) (rest := []) ⟨hx, hb, hml, hown, hts⟩ (kX12_within l dC dI cI cB cJ cZ cM z ad N (p1 + p2) h_2) (va_cwS 1 hts gX12_two_X12_within rfl rfl rfl (by decide +kernel) ⟨Nat.le_of_ble_eq_true rfl, Nat.le_of_ble_eq_true rfl⟩) hN hK hP hD hS hA [] (by decide) rfl rfl rfl hl.1 rfl (Nat.le_of_ble_eq_true rfl) dX12_two_63 ⟨Nat.zero_le _, Nat.zero_le _⟩ (fun H locs hP hD hS => ?_)
    have hP : va_P (dC, dI) vwCl [] H := hP
    have hD : va_D A [] := hD
    refine W.eq (g2 := F0 m 66 ls [.long r_1]) rfl ?_
    have hP9 := hP
    have hD9 := hD
    have hS9 := hS
    cases hf
    exact xq_lret hx hb hr hlocks hK hP9 hD9 hS9 dX12_two_66
  · have hf := xq_neg hf c0
    by_cases c1 : p0 = 32
    · have hf := xq_pos hf c1
      refine lv_tableIn (tgt := 67) hx hb dX12_two_1 (by rw [c1]; decide) (by rw [c1]; decide) (off := 66) (by rw [c1]; decide) (by decide) ?_
      refine lv_lload_n hx hb dX12_two_67 rfl (lv_at hl 1 rfl) ?_
      refine lv_lload_n hx hb dX12_two_68 rfl (lv_at hl 2 rfl) ?_
      refine lv_lsub hx hb dX12_two_69 ?_
      obtain ⟨r_3, h_4, hf⟩ := xq_bd_some hf
      refine xq_callS (As := [.long (p1 - p2)]) (rest := []) ⟨hx, hb, hml, hown, hts⟩ (kX12_within l dC dI cI cB cJ cZ cM z ad N (p1 - p2) h_4) (va_cwS 1 hts gX12_two_X12_within rfl rfl rfl (by decide +kernel) ⟨Nat.le_of_ble_eq_true rfl, Nat.le_of_ble_eq_true rfl⟩) hN hK hP hD hS hA [] (by decide) rfl rfl rfl hl.1 rfl (Nat.le_of_ble_eq_true rfl) dX12_two_70 ⟨Nat.zero_le _, Nat.zero_le _⟩ (fun H locs hP hD hS => ?_)
      have hP : va_P (dC, dI) vwCl [] H := hP
      have hD : va_D A [] := hD
      refine W.eq (g2 := F0 m 73 ls [.long r_3]) rfl ?_
      have hP9 := hP
      have hD9 := hD
      have hS9 := hS
      cases hf
      exact xq_lret hx hb hr hlocks hK hP9 hD9 hS9 dX12_two_73
    · have hf := xq_neg hf c1
      by_cases c2 : p0 = 33
      · have hf := xq_pos hf c2
        refine lv_tableIn (tgt := 74) hx hb dX12_two_1 (by rw [c2]; decide) (by rw [c2]; decide) (off := 73) (by rw [c2]; decide) (by decide) ?_
        refine lv_lload_n hx hb dX12_two_74 rfl (lv_at hl 1 rfl) ?_
        refine lv_lload_n hx hb dX12_two_75 rfl (lv_at hl 2 rfl) ?_
        refine lv_lmul hx hb dX12_two_76 ?_
        obtain ⟨r_5, h_6, hf⟩ := xq_bd_some hf
        refine xq_callS (As := [.long (p1 * p2)]) (rest := []) ⟨hx, hb, hml, hown, hts⟩ (kX12_within l dC dI cI cB cJ cZ cM z ad N (p1 * p2) h_6) (va_cwS 1 hts gX12_two_X12_within rfl rfl rfl (by decide +kernel) ⟨Nat.le_of_ble_eq_true rfl, Nat.le_of_ble_eq_true rfl⟩) hN hK hP hD hS hA [] (by decide) rfl rfl rfl hl.1 rfl (Nat.le_of_ble_eq_true rfl) dX12_two_77 ⟨Nat.zero_le _, Nat.zero_le _⟩ (fun H locs hP hD hS => ?_)
        have hP : va_P (dC, dI) vwCl [] H := hP
        have hD : va_D A [] := hD
        refine W.eq (g2 := F0 m 80 ls [.long r_5]) rfl ?_
        have hP9 := hP
        have hD9 := hD
        have hS9 := hS
        cases hf
        exact xq_lret hx hb hr hlocks hK hP9 hD9 hS9 dX12_two_80
      · have hf := xq_neg hf c2
        by_cases c3 : p0 = 34
        · have hf := xq_pos hf c3
          refine lv_tableIn (tgt := 81) hx hb dX12_two_1 (by rw [c3]; decide) (by rw [c3]; decide) (off := 80) (by rw [c3]; decide) (by decide) ?_
          refine lv_lload_n hx hb dX12_two_81 rfl (lv_at hl 1 rfl) ?_
          refine lv_lload_n hx hb dX12_two_82 rfl (lv_at hl 2 rfl) ?_
          obtain ⟨r_7, h_8, hf⟩ := xq_bd_some hf
          refine xq_callS (As := [.long p1, .long p2]) (rest := []) ⟨hx, hb, hml, hown, hts⟩ (kX12_floor l dC dI cI cB cJ cZ cM z ad N p1 p2 h_8) (va_cwS 2 hts gX12_two_X12_floor rfl rfl rfl (by decide +kernel) ⟨Nat.le_of_ble_eq_true rfl, Nat.le_of_ble_eq_true rfl⟩) hN hK hP hD hS hA [] (by decide) rfl rfl rfl hl.1 rfl (Nat.le_of_ble_eq_true rfl) dX12_two_83 ⟨Nat.zero_le _, Nat.zero_le _⟩ (fun H locs hP hD hS => ?_)
          have hP : va_P (dC, dI) vwCl [] H := hP
          have hD : va_D A [] := hD
          refine W.eq (g2 := F0 m 86 ls [.long r_7]) rfl ?_
          obtain ⟨r_9, h_10, hf⟩ := xq_bd_some hf
          refine xq_callS (As := [.long r_7]) (rest := []) ⟨hx, hb, hml, hown, hts⟩ (kX12_within l dC dI cI cB cJ cZ cM z ad N r_7 h_10) (va_cwS 1 hts gX12_two_X12_within rfl rfl rfl (by decide +kernel) ⟨Nat.le_of_ble_eq_true rfl, Nat.le_of_ble_eq_true rfl⟩) hN hK hP hD hS hA [] (by decide) rfl rfl rfl hl.1 rfl (Nat.le_of_ble_eq_true rfl) dX12_two_86 ⟨Nat.zero_le _, Nat.zero_le _⟩ (fun H locs hP hD hS => ?_)
          have hP : va_P (dC, dI) vwCl [] H := hP
          have hD : va_D A [] := hD
          refine W.eq (g2 := F0 m 89 ls [.long r_9]) rfl ?_
          have hP9 := hP
          have hD9 := hD
          have hS9 := hS
          cases hf
          exact xq_lret hx hb hr hlocks hK hP9 hD9 hS9 dX12_two_89
        · have hf := xq_neg hf c3
          by_cases c4 : p0 = 35
          · have hf := xq_pos hf c4
            refine lv_tableIn (tgt := 90) hx hb dX12_two_1 (by rw [c4]; decide) (by rw [c4]; decide) (off := 89) (by rw [c4]; decide) (by decide) ?_
            refine lv_lload_n hx hb dX12_two_90 rfl (lv_at hl 2 rfl) ?_
            refine lv_lconst (v := 0) hx hb dX12_two_91 (by decide) ?_
            refine W.lcmp hx hb dX12_two_92 ?_
            refine lv_if_ne (tgt := 100) hx hb dX12_two_93 (by decide) (fun c_ => ?_) (fun c_ => ?_)
            · have hf := xq_neg hf c_
              refine lv_lload_n hx hb dX12_two_100 rfl (lv_at hl 1 rfl) ?_
              refine lv_lload_n hx hb dX12_two_101 rfl (lv_at hl 2 rfl) ?_
              refine lv_lload_n hx hb dX12_two_102 rfl (lv_at hl 1 rfl) ?_
              refine lv_lload_n hx hb dX12_two_103 rfl (lv_at hl 2 rfl) ?_
              obtain ⟨r_11, h_12, hf⟩ := xq_bd_some hf
              refine xq_callS (As := [.long p1, .long p2]) (rest := [.long p2, .long p1]) ⟨hx, hb, hml, hown, hts⟩ (kX12_floor l dC dI cI cB cJ cZ cM z ad N p1 p2 h_12) (va_cwS 2 hts gX12_two_X12_floor rfl rfl rfl (by decide +kernel) ⟨Nat.le_of_ble_eq_true rfl, Nat.le_of_ble_eq_true rfl⟩) hN hK hP hD hS hA [] (by decide) rfl rfl rfl hl.1 rfl (Nat.le_of_ble_eq_true rfl) dX12_two_104 ⟨Nat.zero_le _, Nat.zero_le _⟩ (fun H locs hP hD hS => ?_)
              have hP : va_P (dC, dI) vwCl [] H := hP
              have hD : va_D A [] := hD
              refine W.eq (g2 := F0 m 107 ls [.long r_11, .long p2, .long p1]) rfl ?_
              refine lv_lmul hx hb dX12_two_107 ?_
              refine lv_lsub hx hb dX12_two_108 ?_
              obtain ⟨r_13, h_14, hf⟩ := xq_bd_some hf
              refine xq_callS (As := [.long (p1 - (p2 * r_11))]) (rest := []) ⟨hx, hb, hml, hown, hts⟩ (kX12_within l dC dI cI cB cJ cZ cM z ad N (p1 - (p2 * r_11)) h_14) (va_cwS 1 hts gX12_two_X12_within rfl rfl rfl (by decide +kernel) ⟨Nat.le_of_ble_eq_true rfl, Nat.le_of_ble_eq_true rfl⟩) hN hK hP hD hS hA [] (by decide) rfl rfl rfl hl.1 rfl (Nat.le_of_ble_eq_true rfl) dX12_two_109 ⟨Nat.zero_le _, Nat.zero_le _⟩ (fun H locs hP hD hS => ?_)
              have hP : va_P (dC, dI) vwCl [] H := hP
              have hD : va_D A [] := hD
              refine W.eq (g2 := F0 m 112 ls [.long r_13]) rfl ?_
              have hP9 := hP
              have hD9 := hD
              have hS9 := hS
              cases hf
              exact xq_lret hx hb hr hlocks hK hP9 hD9 hS9 dX12_two_112
            · have hf := xq_pos hf c_
              refine lv_lconst (v := 0) hx hb dX12_two_96 (by decide) ?_
              refine lv_goto (tgt := 112) hx hb dX12_two_97 (by decide) ?_
              have hP9 := hP
              have hD9 := hD
              have hS9 := hS
              cases hf
              exact xq_lret hx hb hr hlocks hK hP9 hD9 hS9 dX12_two_112
          · have hf := xq_neg hf c4
            by_cases c5 : p0 = 36
            · have hf := xq_pos hf c5
              refine lv_tableIn (tgt := 113) hx hb dX12_two_1 (by rw [c5]; decide) (by rw [c5]; decide) (off := 112) (by rw [c5]; decide) (by decide) ?_
              refine lv_lload_n hx hb dX12_two_113 rfl (lv_at hl 1 rfl) ?_
              refine lv_lload_n hx hb dX12_two_114 rfl (lv_at hl 2 rfl) ?_
              refine W.lcmp hx hb dX12_two_115 ?_
              refine lv_if_ge (tgt := 123) hx hb dX12_two_116 (by decide) (fun c_ => ?_) (fun c_ => ?_)
              · have hf := xq_pos hf c_
                refine lv_lload_n hx hb dX12_two_123 rfl (lv_at hl 2 rfl) ?_
                have hP9 := hP
                have hD9 := hD
                have hS9 := hS
                cases hf
                exact xq_lret hx hb hr hlocks hK hP9 hD9 hS9 dX12_two_124
              · have hf := xq_neg hf c_
                refine lv_lload_n hx hb dX12_two_119 rfl (lv_at hl 1 rfl) ?_
                refine lv_goto (tgt := 124) hx hb dX12_two_120 (by decide) ?_
                have hP9 := hP
                have hD9 := hD
                have hS9 := hS
                cases hf
                exact xq_lret hx hb hr hlocks hK hP9 hD9 hS9 dX12_two_124
            · have hf := xq_neg hf c5
              by_cases c6 : p0 = 37
              · have hf := xq_pos hf c6
                refine lv_tableIn (tgt := 125) hx hb dX12_two_1 (by rw [c6]; decide) (by rw [c6]; decide) (off := 124) (by rw [c6]; decide) (by decide) ?_
                refine lv_lload_n hx hb dX12_two_125 rfl (lv_at hl 1 rfl) ?_
                refine lv_lload_n hx hb dX12_two_126 rfl (lv_at hl 2 rfl) ?_
                refine W.lcmp hx hb dX12_two_127 ?_
                refine lv_if_le (tgt := 135) hx hb dX12_two_128 (by decide) (fun c_ => ?_) (fun c_ => ?_)
                · have hf := xq_pos hf c_
                  refine lv_lload_n hx hb dX12_two_135 rfl (lv_at hl 2 rfl) ?_
                  have hP9 := hP
                  have hD9 := hD
                  have hS9 := hS
                  cases hf
                  exact xq_lret hx hb hr hlocks hK hP9 hD9 hS9 dX12_two_136
                · have hf := xq_neg hf c_
                  refine lv_lload_n hx hb dX12_two_131 rfl (lv_at hl 1 rfl) ?_
                  refine lv_goto (tgt := 136) hx hb dX12_two_132 (by decide) ?_
                  have hP9 := hP
                  have hD9 := hD
                  have hS9 := hS
                  cases hf
                  exact xq_lret hx hb hr hlocks hK hP9 hD9 hS9 dX12_two_136
              · have hf := xq_neg hf c6
                by_cases c7 : p0 = 38
                · have hf := xq_pos hf c7
                  refine lv_tableIn (tgt := 137) hx hb dX12_two_1 (by rw [c7]; decide) (by rw [c7]; decide) (off := 136) (by rw [c7]; decide) (by decide) ?_
                  refine lv_lload_n hx hb dX12_two_137 rfl (lv_at hl 1 rfl) ?_
                  refine lv_lload_n hx hb dX12_two_138 rfl (lv_at hl 2 rfl) ?_
                  refine W.lcmp hx hb dX12_two_139 ?_
                  refine lv_if_ge (tgt := 147) hx hb dX12_two_140 (by decide) (fun c_ => ?_) (fun c_ => ?_)
                  · have hf := xq_pos hf c_
                    refine lv_lconst (v := 0) hx hb dX12_two_147 (by decide) ?_
                    have hP9 := hP
                    have hD9 := hD
                    have hS9 := hS
                    cases hf
                    exact xq_lret hx hb hr hlocks hK hP9 hD9 hS9 dX12_two_148
                  · have hf := xq_neg hf c_
                    refine lv_lconst (v := 1) hx hb dX12_two_143 (by decide) ?_
                    refine lv_goto (tgt := 148) hx hb dX12_two_144 (by decide) ?_
                    have hP9 := hP
                    have hD9 := hD
                    have hS9 := hS
                    cases hf
                    exact xq_lret hx hb hr hlocks hK hP9 hD9 hS9 dX12_two_148
                · have hf := xq_neg hf c7
                  by_cases c8 : p0 = 39
                  · have hf := xq_pos hf c8
                    refine lv_tableIn (tgt := 149) hx hb dX12_two_1 (by rw [c8]; decide) (by rw [c8]; decide) (off := 148) (by rw [c8]; decide) (by decide) ?_
                    refine lv_lload_n hx hb dX12_two_149 rfl (lv_at hl 1 rfl) ?_
                    refine lv_lload_n hx hb dX12_two_150 rfl (lv_at hl 2 rfl) ?_
                    refine W.lcmp hx hb dX12_two_151 ?_
                    refine lv_if_le (tgt := 159) hx hb dX12_two_152 (by decide) (fun c_ => ?_) (fun c_ => ?_)
                    · have hf := xq_pos hf c_
                      refine lv_lconst (v := 0) hx hb dX12_two_159 (by decide) ?_
                      have hP9 := hP
                      have hD9 := hD
                      have hS9 := hS
                      cases hf
                      exact xq_lret hx hb hr hlocks hK hP9 hD9 hS9 dX12_two_160
                    · have hf := xq_neg hf c_
                      refine lv_lconst (v := 1) hx hb dX12_two_155 (by decide) ?_
                      refine lv_goto (tgt := 160) hx hb dX12_two_156 (by decide) ?_
                      have hP9 := hP
                      have hD9 := hD
                      have hS9 := hS
                      cases hf
                      exact xq_lret hx hb hr hlocks hK hP9 hD9 hS9 dX12_two_160
                  · have hf := xq_neg hf c8
                    by_cases c9 : p0 = 40
                    · have hf := xq_pos hf c9
                      refine lv_tableIn (tgt := 161) hx hb dX12_two_1 (by rw [c9]; decide) (by rw [c9]; decide) (off := 160) (by rw [c9]; decide) (by decide) ?_
                      refine lv_lload_n hx hb dX12_two_161 rfl (lv_at hl 1 rfl) ?_
                      refine lv_lload_n hx hb dX12_two_162 rfl (lv_at hl 2 rfl) ?_
                      refine W.lcmp hx hb dX12_two_163 ?_
                      refine lv_if_ne (tgt := 171) hx hb dX12_two_164 (by decide) (fun c_ => ?_) (fun c_ => ?_)
                      · have hf := xq_neg hf c_
                        refine lv_lconst (v := 0) hx hb dX12_two_171 (by decide) ?_
                        have hP9 := hP
                        have hD9 := hD
                        have hS9 := hS
                        cases hf
                        exact xq_lret hx hb hr hlocks hK hP9 hD9 hS9 dX12_two_172
                      · have hf := xq_pos hf c_
                        refine lv_lconst (v := 1) hx hb dX12_two_167 (by decide) ?_
                        refine lv_goto (tgt := 172) hx hb dX12_two_168 (by decide) ?_
                        have hP9 := hP
                        have hD9 := hD
                        have hS9 := hS
                        cases hf
                        exact xq_lret hx hb hr hlocks hK hP9 hD9 hS9 dX12_two_172
                    · have hf := xq_neg hf c9
                      by_cases c10 : p0 = 41
                      · have hf := xq_pos hf c10
                        refine lv_tableIn (tgt := 173) hx hb dX12_two_1 (by rw [c10]; decide) (by rw [c10]; decide) (off := 172) (by rw [c10]; decide) (by decide) ?_
                        refine lv_lload_n hx hb dX12_two_173 rfl (lv_at hl 1 rfl) ?_
                        refine lv_lload_n hx hb dX12_two_174 rfl (lv_at hl 2 rfl) ?_
                        refine lv_land hx hb dX12_two_175 ?_
                        have hP9 := hP
                        have hD9 := hD
                        have hS9 := hS
                        cases hf
                        exact xq_lret hx hb hr hlocks hK hP9 hD9 hS9 dX12_two_176
                      · have hf := xq_neg hf c10
                        have e0 := lv_neT c0 (a := 31) (by decide)
                        have e1 := lv_neT c1 (a := 32) (by decide)
                        have e2 := lv_neT c2 (a := 33) (by decide)
                        have e3 := lv_neT c3 (a := 34) (by decide)
                        have e4 := lv_neT c4 (a := 35) (by decide)
                        have e5 := lv_neT c5 (a := 36) (by decide)
                        have e6 := lv_neT c6 (a := 37) (by decide)
                        have e7 := lv_neT c7 (a := 38) (by decide)
                        have e8 := lv_neT c8 (a := 39) (by decide)
                        have e9 := lv_neT c9 (a := 40) (by decide)
                        have e10 := lv_neT c10 (a := 41) (by decide)
                        refine lv_tableOut (tgt := 177) hx hb dX12_two_1 (by omega) (by decide) ?_
                        refine lv_lload_n hx hb dX12_two_177 rfl (lv_at hl 1 rfl) ?_
                        refine lv_lload_n hx hb dX12_two_178 rfl (lv_at hl 2 rfl) ?_
                        refine lv_lor hx hb dX12_two_179 ?_
                        have hP9 := hP
                        have hD9 := hD
                        have hS9 := hS
                        cases hf
                        exact xq_lret hx hb hr hlocks hK hP9 hD9 hS9 dX12_two_180
set_option maxRecDepth 20000 in
theorem ggX12_reckons_X12_two : GoodIn wsX12_reckons wsX12_two := goodIn_r _ [11, 12, 13, 10, 14, 15, 16, 17, 18, 19] rfl (by decide +kernel)
set_option maxRecDepth 20000 in
theorem gX12_reckons_X12_two : GoodIn wsX12_reckons (va_wsS RX12 409 yX12_two wsX12_two) := goodIn_app (goodIn_of _ (by decide +kernel)) ggX12_reckons_X12_two
def dsX12_reckons_0 : List (Nat × Instr × Nat) := [(0, (.iconst 0, 1)), (1, (.istore_n 2, 1)), (2, (.sipush 1600, 3)), (5, (.aload_n 0, 1)), (6, (.getfield 51, 3)), (9, (.imul, 1)), (10, (.aload_n 0, 1)), (11, (.getfield 84, 3)), (14, (.iconst 3, 1)), (15, (.aload_n 0, 1)), (16, (.getfield 51, 3)), (19, (.imul, 1)), (20, (.iload_n 1, 1)), (21, (.iadd, 1)), (22, (.iaload, 1)), (23, (.iadd, 1)), (24, (.istore_n 3, 1)), (25, (.iload_n 3, 1)), (26, (.sipush 1600, 3)), (29, (.aload_n 0, 1)), (30, (.getfield 51, 3)), (33, (.imul, 1)), (34, (.aload_n 0, 1)), (35, (.getfield 87, 3)), (38, (.iconst 3, 1)), (39, (.aload_n 0, 1)), (40, (.getfield 51, 3)), (43, (.imul, 1)), (44, (.iload_n 1, 1)), (45, (.iadd, 1)), (46, (.iaload, 1)), (47, (.iadd, 1)), (48, (.if_icmp .ge 179, 3)), (51, (.aload_n 0, 1)), (52, (.getfield 90, 3)), (55, (.iload_n 3, 1)), (56, (.iaload, 1)), (57, (.istore 4, 2)), (59, (.iload 4, 2)), (61, (.bipush 30, 2)), (63, (.if_icmp .gt 49, 3)), (66, (.aload_n 0, 1)), (67, (.getfield 186, 3)), (70, (.iload_n 2, 1)), (71, (.iload 4, 2)), (73, (.ifCond .ne 13, 3)), (76, (.aload_n 0, 1)), (77, (.getfield 93, 3)), (80, (.iload_n 3, 1)), (81, (.iaload, 1)), (82, (.i2l, 1)), (83, (.goto 22, 3)), (86, (.iload 4, 2)), (88, (.bipush 30, 2)), (90, (.if_icmp .ne 7, 3)), (93, (.lconst 1, 1)), (94, (.goto 11, 3)), (97, (.aload_n 0, 1)), (98, (.getfield 189, 3)), (101, (.iload 4, 2))]
theorem dsX12_reckons_0_ok : (dsX12_reckons_0.all fun q => decide (decode cX12_reckons q.1 = .ok q.2)) = true := by decide +kernel
theorem dX12_reckons_0 : decode cX12_reckons 0 = .ok (.iconst 0, 1) := of_decide_eq_true (List.all_eq_true.mp dsX12_reckons_0_ok (0, (.iconst 0, 1)) (List.mem_of_getElem? (i := 0) rfl))
theorem dX12_reckons_1 : decode cX12_reckons 1 = .ok (.istore_n 2, 1) := of_decide_eq_true (List.all_eq_true.mp dsX12_reckons_0_ok (1, (.istore_n 2, 1)) (List.mem_of_getElem? (i := 1) rfl))
theorem dX12_reckons_2 : decode cX12_reckons 2 = .ok (.sipush 1600, 3) := of_decide_eq_true (List.all_eq_true.mp dsX12_reckons_0_ok (2, (.sipush 1600, 3)) (List.mem_of_getElem? (i := 2) rfl))
theorem dX12_reckons_5 : decode cX12_reckons 5 = .ok (.aload_n 0, 1) := of_decide_eq_true (List.all_eq_true.mp dsX12_reckons_0_ok (5, (.aload_n 0, 1)) (List.mem_of_getElem? (i := 3) rfl))
theorem dX12_reckons_6 : decode cX12_reckons 6 = .ok (.getfield 51, 3) := of_decide_eq_true (List.all_eq_true.mp dsX12_reckons_0_ok (6, (.getfield 51, 3)) (List.mem_of_getElem? (i := 4) rfl))
theorem dX12_reckons_9 : decode cX12_reckons 9 = .ok (.imul, 1) := of_decide_eq_true (List.all_eq_true.mp dsX12_reckons_0_ok (9, (.imul, 1)) (List.mem_of_getElem? (i := 5) rfl))
theorem dX12_reckons_10 : decode cX12_reckons 10 = .ok (.aload_n 0, 1) := of_decide_eq_true (List.all_eq_true.mp dsX12_reckons_0_ok (10, (.aload_n 0, 1)) (List.mem_of_getElem? (i := 6) rfl))
theorem dX12_reckons_11 : decode cX12_reckons 11 = .ok (.getfield 84, 3) := of_decide_eq_true (List.all_eq_true.mp dsX12_reckons_0_ok (11, (.getfield 84, 3)) (List.mem_of_getElem? (i := 7) rfl))
theorem dX12_reckons_14 : decode cX12_reckons 14 = .ok (.iconst 3, 1) := of_decide_eq_true (List.all_eq_true.mp dsX12_reckons_0_ok (14, (.iconst 3, 1)) (List.mem_of_getElem? (i := 8) rfl))
theorem dX12_reckons_15 : decode cX12_reckons 15 = .ok (.aload_n 0, 1) := of_decide_eq_true (List.all_eq_true.mp dsX12_reckons_0_ok (15, (.aload_n 0, 1)) (List.mem_of_getElem? (i := 9) rfl))
theorem dX12_reckons_16 : decode cX12_reckons 16 = .ok (.getfield 51, 3) := of_decide_eq_true (List.all_eq_true.mp dsX12_reckons_0_ok (16, (.getfield 51, 3)) (List.mem_of_getElem? (i := 10) rfl))
theorem dX12_reckons_19 : decode cX12_reckons 19 = .ok (.imul, 1) := of_decide_eq_true (List.all_eq_true.mp dsX12_reckons_0_ok (19, (.imul, 1)) (List.mem_of_getElem? (i := 11) rfl))
theorem dX12_reckons_20 : decode cX12_reckons 20 = .ok (.iload_n 1, 1) := of_decide_eq_true (List.all_eq_true.mp dsX12_reckons_0_ok (20, (.iload_n 1, 1)) (List.mem_of_getElem? (i := 12) rfl))
theorem dX12_reckons_21 : decode cX12_reckons 21 = .ok (.iadd, 1) := of_decide_eq_true (List.all_eq_true.mp dsX12_reckons_0_ok (21, (.iadd, 1)) (List.mem_of_getElem? (i := 13) rfl))
theorem dX12_reckons_22 : decode cX12_reckons 22 = .ok (.iaload, 1) := of_decide_eq_true (List.all_eq_true.mp dsX12_reckons_0_ok (22, (.iaload, 1)) (List.mem_of_getElem? (i := 14) rfl))
theorem dX12_reckons_23 : decode cX12_reckons 23 = .ok (.iadd, 1) := of_decide_eq_true (List.all_eq_true.mp dsX12_reckons_0_ok (23, (.iadd, 1)) (List.mem_of_getElem? (i := 15) rfl))
theorem dX12_reckons_24 : decode cX12_reckons 24 = .ok (.istore_n 3, 1) := of_decide_eq_true (List.all_eq_true.mp dsX12_reckons_0_ok (24, (.istore_n 3, 1)) (List.mem_of_getElem? (i := 16) rfl))
theorem dX12_reckons_25 : decode cX12_reckons 25 = .ok (.iload_n 3, 1) := of_decide_eq_true (List.all_eq_true.mp dsX12_reckons_0_ok (25, (.iload_n 3, 1)) (List.mem_of_getElem? (i := 17) rfl))
theorem dX12_reckons_26 : decode cX12_reckons 26 = .ok (.sipush 1600, 3) := of_decide_eq_true (List.all_eq_true.mp dsX12_reckons_0_ok (26, (.sipush 1600, 3)) (List.mem_of_getElem? (i := 18) rfl))
theorem dX12_reckons_29 : decode cX12_reckons 29 = .ok (.aload_n 0, 1) := of_decide_eq_true (List.all_eq_true.mp dsX12_reckons_0_ok (29, (.aload_n 0, 1)) (List.mem_of_getElem? (i := 19) rfl))
theorem dX12_reckons_30 : decode cX12_reckons 30 = .ok (.getfield 51, 3) := of_decide_eq_true (List.all_eq_true.mp dsX12_reckons_0_ok (30, (.getfield 51, 3)) (List.mem_of_getElem? (i := 20) rfl))
theorem dX12_reckons_33 : decode cX12_reckons 33 = .ok (.imul, 1) := of_decide_eq_true (List.all_eq_true.mp dsX12_reckons_0_ok (33, (.imul, 1)) (List.mem_of_getElem? (i := 21) rfl))
theorem dX12_reckons_34 : decode cX12_reckons 34 = .ok (.aload_n 0, 1) := of_decide_eq_true (List.all_eq_true.mp dsX12_reckons_0_ok (34, (.aload_n 0, 1)) (List.mem_of_getElem? (i := 22) rfl))
theorem dX12_reckons_35 : decode cX12_reckons 35 = .ok (.getfield 87, 3) := of_decide_eq_true (List.all_eq_true.mp dsX12_reckons_0_ok (35, (.getfield 87, 3)) (List.mem_of_getElem? (i := 23) rfl))
theorem dX12_reckons_38 : decode cX12_reckons 38 = .ok (.iconst 3, 1) := of_decide_eq_true (List.all_eq_true.mp dsX12_reckons_0_ok (38, (.iconst 3, 1)) (List.mem_of_getElem? (i := 24) rfl))
theorem dX12_reckons_39 : decode cX12_reckons 39 = .ok (.aload_n 0, 1) := of_decide_eq_true (List.all_eq_true.mp dsX12_reckons_0_ok (39, (.aload_n 0, 1)) (List.mem_of_getElem? (i := 25) rfl))
theorem dX12_reckons_40 : decode cX12_reckons 40 = .ok (.getfield 51, 3) := of_decide_eq_true (List.all_eq_true.mp dsX12_reckons_0_ok (40, (.getfield 51, 3)) (List.mem_of_getElem? (i := 26) rfl))
theorem dX12_reckons_43 : decode cX12_reckons 43 = .ok (.imul, 1) := of_decide_eq_true (List.all_eq_true.mp dsX12_reckons_0_ok (43, (.imul, 1)) (List.mem_of_getElem? (i := 27) rfl))
theorem dX12_reckons_44 : decode cX12_reckons 44 = .ok (.iload_n 1, 1) := of_decide_eq_true (List.all_eq_true.mp dsX12_reckons_0_ok (44, (.iload_n 1, 1)) (List.mem_of_getElem? (i := 28) rfl))
theorem dX12_reckons_45 : decode cX12_reckons 45 = .ok (.iadd, 1) := of_decide_eq_true (List.all_eq_true.mp dsX12_reckons_0_ok (45, (.iadd, 1)) (List.mem_of_getElem? (i := 29) rfl))
theorem dX12_reckons_46 : decode cX12_reckons 46 = .ok (.iaload, 1) := of_decide_eq_true (List.all_eq_true.mp dsX12_reckons_0_ok (46, (.iaload, 1)) (List.mem_of_getElem? (i := 30) rfl))
theorem dX12_reckons_47 : decode cX12_reckons 47 = .ok (.iadd, 1) := of_decide_eq_true (List.all_eq_true.mp dsX12_reckons_0_ok (47, (.iadd, 1)) (List.mem_of_getElem? (i := 31) rfl))
theorem dX12_reckons_48 : decode cX12_reckons 48 = .ok (.if_icmp .ge 179, 3) := of_decide_eq_true (List.all_eq_true.mp dsX12_reckons_0_ok (48, (.if_icmp .ge 179, 3)) (List.mem_of_getElem? (i := 32) rfl))
theorem dX12_reckons_51 : decode cX12_reckons 51 = .ok (.aload_n 0, 1) := of_decide_eq_true (List.all_eq_true.mp dsX12_reckons_0_ok (51, (.aload_n 0, 1)) (List.mem_of_getElem? (i := 33) rfl))
theorem dX12_reckons_52 : decode cX12_reckons 52 = .ok (.getfield 90, 3) := of_decide_eq_true (List.all_eq_true.mp dsX12_reckons_0_ok (52, (.getfield 90, 3)) (List.mem_of_getElem? (i := 34) rfl))
theorem dX12_reckons_55 : decode cX12_reckons 55 = .ok (.iload_n 3, 1) := of_decide_eq_true (List.all_eq_true.mp dsX12_reckons_0_ok (55, (.iload_n 3, 1)) (List.mem_of_getElem? (i := 35) rfl))
theorem dX12_reckons_56 : decode cX12_reckons 56 = .ok (.iaload, 1) := of_decide_eq_true (List.all_eq_true.mp dsX12_reckons_0_ok (56, (.iaload, 1)) (List.mem_of_getElem? (i := 36) rfl))
theorem dX12_reckons_57 : decode cX12_reckons 57 = .ok (.istore 4, 2) := of_decide_eq_true (List.all_eq_true.mp dsX12_reckons_0_ok (57, (.istore 4, 2)) (List.mem_of_getElem? (i := 37) rfl))
theorem dX12_reckons_59 : decode cX12_reckons 59 = .ok (.iload 4, 2) := of_decide_eq_true (List.all_eq_true.mp dsX12_reckons_0_ok (59, (.iload 4, 2)) (List.mem_of_getElem? (i := 38) rfl))
theorem dX12_reckons_61 : decode cX12_reckons 61 = .ok (.bipush 30, 2) := of_decide_eq_true (List.all_eq_true.mp dsX12_reckons_0_ok (61, (.bipush 30, 2)) (List.mem_of_getElem? (i := 39) rfl))
theorem dX12_reckons_63 : decode cX12_reckons 63 = .ok (.if_icmp .gt 49, 3) := of_decide_eq_true (List.all_eq_true.mp dsX12_reckons_0_ok (63, (.if_icmp .gt 49, 3)) (List.mem_of_getElem? (i := 40) rfl))
theorem dX12_reckons_66 : decode cX12_reckons 66 = .ok (.aload_n 0, 1) := of_decide_eq_true (List.all_eq_true.mp dsX12_reckons_0_ok (66, (.aload_n 0, 1)) (List.mem_of_getElem? (i := 41) rfl))
theorem dX12_reckons_67 : decode cX12_reckons 67 = .ok (.getfield 186, 3) := of_decide_eq_true (List.all_eq_true.mp dsX12_reckons_0_ok (67, (.getfield 186, 3)) (List.mem_of_getElem? (i := 42) rfl))
theorem dX12_reckons_70 : decode cX12_reckons 70 = .ok (.iload_n 2, 1) := of_decide_eq_true (List.all_eq_true.mp dsX12_reckons_0_ok (70, (.iload_n 2, 1)) (List.mem_of_getElem? (i := 43) rfl))
theorem dX12_reckons_71 : decode cX12_reckons 71 = .ok (.iload 4, 2) := of_decide_eq_true (List.all_eq_true.mp dsX12_reckons_0_ok (71, (.iload 4, 2)) (List.mem_of_getElem? (i := 44) rfl))
theorem dX12_reckons_73 : decode cX12_reckons 73 = .ok (.ifCond .ne 13, 3) := of_decide_eq_true (List.all_eq_true.mp dsX12_reckons_0_ok (73, (.ifCond .ne 13, 3)) (List.mem_of_getElem? (i := 45) rfl))
theorem dX12_reckons_76 : decode cX12_reckons 76 = .ok (.aload_n 0, 1) := of_decide_eq_true (List.all_eq_true.mp dsX12_reckons_0_ok (76, (.aload_n 0, 1)) (List.mem_of_getElem? (i := 46) rfl))
theorem dX12_reckons_77 : decode cX12_reckons 77 = .ok (.getfield 93, 3) := of_decide_eq_true (List.all_eq_true.mp dsX12_reckons_0_ok (77, (.getfield 93, 3)) (List.mem_of_getElem? (i := 47) rfl))
theorem dX12_reckons_80 : decode cX12_reckons 80 = .ok (.iload_n 3, 1) := of_decide_eq_true (List.all_eq_true.mp dsX12_reckons_0_ok (80, (.iload_n 3, 1)) (List.mem_of_getElem? (i := 48) rfl))
theorem dX12_reckons_81 : decode cX12_reckons 81 = .ok (.iaload, 1) := of_decide_eq_true (List.all_eq_true.mp dsX12_reckons_0_ok (81, (.iaload, 1)) (List.mem_of_getElem? (i := 49) rfl))
theorem dX12_reckons_82 : decode cX12_reckons 82 = .ok (.i2l, 1) := of_decide_eq_true (List.all_eq_true.mp dsX12_reckons_0_ok (82, (.i2l, 1)) (List.mem_of_getElem? (i := 50) rfl))
theorem dX12_reckons_83 : decode cX12_reckons 83 = .ok (.goto 22, 3) := of_decide_eq_true (List.all_eq_true.mp dsX12_reckons_0_ok (83, (.goto 22, 3)) (List.mem_of_getElem? (i := 51) rfl))
theorem dX12_reckons_86 : decode cX12_reckons 86 = .ok (.iload 4, 2) := of_decide_eq_true (List.all_eq_true.mp dsX12_reckons_0_ok (86, (.iload 4, 2)) (List.mem_of_getElem? (i := 52) rfl))
theorem dX12_reckons_88 : decode cX12_reckons 88 = .ok (.bipush 30, 2) := of_decide_eq_true (List.all_eq_true.mp dsX12_reckons_0_ok (88, (.bipush 30, 2)) (List.mem_of_getElem? (i := 53) rfl))
theorem dX12_reckons_90 : decode cX12_reckons 90 = .ok (.if_icmp .ne 7, 3) := of_decide_eq_true (List.all_eq_true.mp dsX12_reckons_0_ok (90, (.if_icmp .ne 7, 3)) (List.mem_of_getElem? (i := 54) rfl))
theorem dX12_reckons_93 : decode cX12_reckons 93 = .ok (.lconst 1, 1) := of_decide_eq_true (List.all_eq_true.mp dsX12_reckons_0_ok (93, (.lconst 1, 1)) (List.mem_of_getElem? (i := 55) rfl))
theorem dX12_reckons_94 : decode cX12_reckons 94 = .ok (.goto 11, 3) := of_decide_eq_true (List.all_eq_true.mp dsX12_reckons_0_ok (94, (.goto 11, 3)) (List.mem_of_getElem? (i := 56) rfl))
theorem dX12_reckons_97 : decode cX12_reckons 97 = .ok (.aload_n 0, 1) := of_decide_eq_true (List.all_eq_true.mp dsX12_reckons_0_ok (97, (.aload_n 0, 1)) (List.mem_of_getElem? (i := 57) rfl))
theorem dX12_reckons_98 : decode cX12_reckons 98 = .ok (.getfield 189, 3) := of_decide_eq_true (List.all_eq_true.mp dsX12_reckons_0_ok (98, (.getfield 189, 3)) (List.mem_of_getElem? (i := 58) rfl))
theorem dX12_reckons_101 : decode cX12_reckons 101 = .ok (.iload 4, 2) := of_decide_eq_true (List.all_eq_true.mp dsX12_reckons_0_ok (101, (.iload 4, 2)) (List.mem_of_getElem? (i := 59) rfl))
def dsX12_reckons_1 : List (Nat × Instr × Nat) := [(103, (.iaload, 1)), (104, (.i2l, 1)), (105, (.lastore, 1)), (106, (.iinc 2 1, 3)), (109, (.goto 112, 3)), (112, (.iload 4, 2)), (114, (.bipush 43, 2)), (116, (.if_icmp .ne 24, 3)), (119, (.aload_n 0, 1)), (120, (.getfield 186, 3)), (123, (.iload_n 2, 1)), (124, (.iconst 1, 1)), (125, (.isub, 1)), (126, (.lconst 1, 1)), (127, (.aload_n 0, 1)), (128, (.getfield 186, 3)), (131, (.iload_n 2, 1)), (132, (.iconst 1, 1)), (133, (.isub, 1)), (134, (.laload, 1)), (135, (.lsub, 1)), (136, (.lastore, 1)), (137, (.goto 84, 3)), (140, (.iload 4, 2)), (142, (.bipush 44, 2)), (144, (.if_icmp .ne 47, 3)), (147, (.iinc 2 (-2), 3)), (150, (.aload_n 0, 1)), (151, (.getfield 186, 3)), (154, (.iload_n 2, 1)), (155, (.iconst 1, 1)), (156, (.isub, 1)), (157, (.aload_n 0, 1)), (158, (.getfield 186, 3)), (161, (.iload_n 2, 1)), (162, (.iconst 1, 1)), (163, (.isub, 1)), (164, (.laload, 1)), (165, (.lconst 1, 1)), (166, (.lcmp, 1)), (167, (.ifCond .ne 12, 3)), (170, (.aload_n 0, 1)), (171, (.getfield 186, 3)), (174, (.iload_n 2, 1)), (175, (.laload, 1)), (176, (.goto 11, 3)), (179, (.aload_n 0, 1)), (180, (.getfield 186, 3)), (183, (.iload_n 2, 1)), (184, (.iconst 1, 1)), (185, (.iadd, 1)), (186, (.laload, 1)), (187, (.lastore, 1)), (188, (.goto 33, 3)), (191, (.iinc 2 (-1), 3)), (194, (.aload_n 0, 1)), (195, (.getfield 186, 3)), (198, (.iload_n 2, 1)), (199, (.iconst 1, 1)), (200, (.isub, 1))]
theorem dsX12_reckons_1_ok : (dsX12_reckons_1.all fun q => decide (decode cX12_reckons q.1 = .ok q.2)) = true := by decide +kernel
theorem dX12_reckons_103 : decode cX12_reckons 103 = .ok (.iaload, 1) := of_decide_eq_true (List.all_eq_true.mp dsX12_reckons_1_ok (103, (.iaload, 1)) (List.mem_of_getElem? (i := 0) rfl))
theorem dX12_reckons_104 : decode cX12_reckons 104 = .ok (.i2l, 1) := of_decide_eq_true (List.all_eq_true.mp dsX12_reckons_1_ok (104, (.i2l, 1)) (List.mem_of_getElem? (i := 1) rfl))
theorem dX12_reckons_105 : decode cX12_reckons 105 = .ok (.lastore, 1) := of_decide_eq_true (List.all_eq_true.mp dsX12_reckons_1_ok (105, (.lastore, 1)) (List.mem_of_getElem? (i := 2) rfl))
theorem dX12_reckons_106 : decode cX12_reckons 106 = .ok (.iinc 2 1, 3) := of_decide_eq_true (List.all_eq_true.mp dsX12_reckons_1_ok (106, (.iinc 2 1, 3)) (List.mem_of_getElem? (i := 3) rfl))
theorem dX12_reckons_109 : decode cX12_reckons 109 = .ok (.goto 112, 3) := of_decide_eq_true (List.all_eq_true.mp dsX12_reckons_1_ok (109, (.goto 112, 3)) (List.mem_of_getElem? (i := 4) rfl))
theorem dX12_reckons_112 : decode cX12_reckons 112 = .ok (.iload 4, 2) := of_decide_eq_true (List.all_eq_true.mp dsX12_reckons_1_ok (112, (.iload 4, 2)) (List.mem_of_getElem? (i := 5) rfl))
theorem dX12_reckons_114 : decode cX12_reckons 114 = .ok (.bipush 43, 2) := of_decide_eq_true (List.all_eq_true.mp dsX12_reckons_1_ok (114, (.bipush 43, 2)) (List.mem_of_getElem? (i := 6) rfl))
theorem dX12_reckons_116 : decode cX12_reckons 116 = .ok (.if_icmp .ne 24, 3) := of_decide_eq_true (List.all_eq_true.mp dsX12_reckons_1_ok (116, (.if_icmp .ne 24, 3)) (List.mem_of_getElem? (i := 7) rfl))
theorem dX12_reckons_119 : decode cX12_reckons 119 = .ok (.aload_n 0, 1) := of_decide_eq_true (List.all_eq_true.mp dsX12_reckons_1_ok (119, (.aload_n 0, 1)) (List.mem_of_getElem? (i := 8) rfl))
theorem dX12_reckons_120 : decode cX12_reckons 120 = .ok (.getfield 186, 3) := of_decide_eq_true (List.all_eq_true.mp dsX12_reckons_1_ok (120, (.getfield 186, 3)) (List.mem_of_getElem? (i := 9) rfl))
theorem dX12_reckons_123 : decode cX12_reckons 123 = .ok (.iload_n 2, 1) := of_decide_eq_true (List.all_eq_true.mp dsX12_reckons_1_ok (123, (.iload_n 2, 1)) (List.mem_of_getElem? (i := 10) rfl))
theorem dX12_reckons_124 : decode cX12_reckons 124 = .ok (.iconst 1, 1) := of_decide_eq_true (List.all_eq_true.mp dsX12_reckons_1_ok (124, (.iconst 1, 1)) (List.mem_of_getElem? (i := 11) rfl))
theorem dX12_reckons_125 : decode cX12_reckons 125 = .ok (.isub, 1) := of_decide_eq_true (List.all_eq_true.mp dsX12_reckons_1_ok (125, (.isub, 1)) (List.mem_of_getElem? (i := 12) rfl))
theorem dX12_reckons_126 : decode cX12_reckons 126 = .ok (.lconst 1, 1) := of_decide_eq_true (List.all_eq_true.mp dsX12_reckons_1_ok (126, (.lconst 1, 1)) (List.mem_of_getElem? (i := 13) rfl))
theorem dX12_reckons_127 : decode cX12_reckons 127 = .ok (.aload_n 0, 1) := of_decide_eq_true (List.all_eq_true.mp dsX12_reckons_1_ok (127, (.aload_n 0, 1)) (List.mem_of_getElem? (i := 14) rfl))
theorem dX12_reckons_128 : decode cX12_reckons 128 = .ok (.getfield 186, 3) := of_decide_eq_true (List.all_eq_true.mp dsX12_reckons_1_ok (128, (.getfield 186, 3)) (List.mem_of_getElem? (i := 15) rfl))
theorem dX12_reckons_131 : decode cX12_reckons 131 = .ok (.iload_n 2, 1) := of_decide_eq_true (List.all_eq_true.mp dsX12_reckons_1_ok (131, (.iload_n 2, 1)) (List.mem_of_getElem? (i := 16) rfl))
theorem dX12_reckons_132 : decode cX12_reckons 132 = .ok (.iconst 1, 1) := of_decide_eq_true (List.all_eq_true.mp dsX12_reckons_1_ok (132, (.iconst 1, 1)) (List.mem_of_getElem? (i := 17) rfl))
theorem dX12_reckons_133 : decode cX12_reckons 133 = .ok (.isub, 1) := of_decide_eq_true (List.all_eq_true.mp dsX12_reckons_1_ok (133, (.isub, 1)) (List.mem_of_getElem? (i := 18) rfl))
theorem dX12_reckons_134 : decode cX12_reckons 134 = .ok (.laload, 1) := of_decide_eq_true (List.all_eq_true.mp dsX12_reckons_1_ok (134, (.laload, 1)) (List.mem_of_getElem? (i := 19) rfl))
theorem dX12_reckons_135 : decode cX12_reckons 135 = .ok (.lsub, 1) := of_decide_eq_true (List.all_eq_true.mp dsX12_reckons_1_ok (135, (.lsub, 1)) (List.mem_of_getElem? (i := 20) rfl))
theorem dX12_reckons_136 : decode cX12_reckons 136 = .ok (.lastore, 1) := of_decide_eq_true (List.all_eq_true.mp dsX12_reckons_1_ok (136, (.lastore, 1)) (List.mem_of_getElem? (i := 21) rfl))
theorem dX12_reckons_137 : decode cX12_reckons 137 = .ok (.goto 84, 3) := of_decide_eq_true (List.all_eq_true.mp dsX12_reckons_1_ok (137, (.goto 84, 3)) (List.mem_of_getElem? (i := 22) rfl))
theorem dX12_reckons_140 : decode cX12_reckons 140 = .ok (.iload 4, 2) := of_decide_eq_true (List.all_eq_true.mp dsX12_reckons_1_ok (140, (.iload 4, 2)) (List.mem_of_getElem? (i := 23) rfl))
theorem dX12_reckons_142 : decode cX12_reckons 142 = .ok (.bipush 44, 2) := of_decide_eq_true (List.all_eq_true.mp dsX12_reckons_1_ok (142, (.bipush 44, 2)) (List.mem_of_getElem? (i := 24) rfl))
theorem dX12_reckons_144 : decode cX12_reckons 144 = .ok (.if_icmp .ne 47, 3) := of_decide_eq_true (List.all_eq_true.mp dsX12_reckons_1_ok (144, (.if_icmp .ne 47, 3)) (List.mem_of_getElem? (i := 25) rfl))
theorem dX12_reckons_147 : decode cX12_reckons 147 = .ok (.iinc 2 (-2), 3) := of_decide_eq_true (List.all_eq_true.mp dsX12_reckons_1_ok (147, (.iinc 2 (-2), 3)) (List.mem_of_getElem? (i := 26) rfl))
theorem dX12_reckons_150 : decode cX12_reckons 150 = .ok (.aload_n 0, 1) := of_decide_eq_true (List.all_eq_true.mp dsX12_reckons_1_ok (150, (.aload_n 0, 1)) (List.mem_of_getElem? (i := 27) rfl))
theorem dX12_reckons_151 : decode cX12_reckons 151 = .ok (.getfield 186, 3) := of_decide_eq_true (List.all_eq_true.mp dsX12_reckons_1_ok (151, (.getfield 186, 3)) (List.mem_of_getElem? (i := 28) rfl))
theorem dX12_reckons_154 : decode cX12_reckons 154 = .ok (.iload_n 2, 1) := of_decide_eq_true (List.all_eq_true.mp dsX12_reckons_1_ok (154, (.iload_n 2, 1)) (List.mem_of_getElem? (i := 29) rfl))
theorem dX12_reckons_155 : decode cX12_reckons 155 = .ok (.iconst 1, 1) := of_decide_eq_true (List.all_eq_true.mp dsX12_reckons_1_ok (155, (.iconst 1, 1)) (List.mem_of_getElem? (i := 30) rfl))
theorem dX12_reckons_156 : decode cX12_reckons 156 = .ok (.isub, 1) := of_decide_eq_true (List.all_eq_true.mp dsX12_reckons_1_ok (156, (.isub, 1)) (List.mem_of_getElem? (i := 31) rfl))
theorem dX12_reckons_157 : decode cX12_reckons 157 = .ok (.aload_n 0, 1) := of_decide_eq_true (List.all_eq_true.mp dsX12_reckons_1_ok (157, (.aload_n 0, 1)) (List.mem_of_getElem? (i := 32) rfl))
theorem dX12_reckons_158 : decode cX12_reckons 158 = .ok (.getfield 186, 3) := of_decide_eq_true (List.all_eq_true.mp dsX12_reckons_1_ok (158, (.getfield 186, 3)) (List.mem_of_getElem? (i := 33) rfl))
theorem dX12_reckons_161 : decode cX12_reckons 161 = .ok (.iload_n 2, 1) := of_decide_eq_true (List.all_eq_true.mp dsX12_reckons_1_ok (161, (.iload_n 2, 1)) (List.mem_of_getElem? (i := 34) rfl))
theorem dX12_reckons_162 : decode cX12_reckons 162 = .ok (.iconst 1, 1) := of_decide_eq_true (List.all_eq_true.mp dsX12_reckons_1_ok (162, (.iconst 1, 1)) (List.mem_of_getElem? (i := 35) rfl))
theorem dX12_reckons_163 : decode cX12_reckons 163 = .ok (.isub, 1) := of_decide_eq_true (List.all_eq_true.mp dsX12_reckons_1_ok (163, (.isub, 1)) (List.mem_of_getElem? (i := 36) rfl))
theorem dX12_reckons_164 : decode cX12_reckons 164 = .ok (.laload, 1) := of_decide_eq_true (List.all_eq_true.mp dsX12_reckons_1_ok (164, (.laload, 1)) (List.mem_of_getElem? (i := 37) rfl))
theorem dX12_reckons_165 : decode cX12_reckons 165 = .ok (.lconst 1, 1) := of_decide_eq_true (List.all_eq_true.mp dsX12_reckons_1_ok (165, (.lconst 1, 1)) (List.mem_of_getElem? (i := 38) rfl))
theorem dX12_reckons_166 : decode cX12_reckons 166 = .ok (.lcmp, 1) := of_decide_eq_true (List.all_eq_true.mp dsX12_reckons_1_ok (166, (.lcmp, 1)) (List.mem_of_getElem? (i := 39) rfl))
theorem dX12_reckons_167 : decode cX12_reckons 167 = .ok (.ifCond .ne 12, 3) := of_decide_eq_true (List.all_eq_true.mp dsX12_reckons_1_ok (167, (.ifCond .ne 12, 3)) (List.mem_of_getElem? (i := 40) rfl))
theorem dX12_reckons_170 : decode cX12_reckons 170 = .ok (.aload_n 0, 1) := of_decide_eq_true (List.all_eq_true.mp dsX12_reckons_1_ok (170, (.aload_n 0, 1)) (List.mem_of_getElem? (i := 41) rfl))
theorem dX12_reckons_171 : decode cX12_reckons 171 = .ok (.getfield 186, 3) := of_decide_eq_true (List.all_eq_true.mp dsX12_reckons_1_ok (171, (.getfield 186, 3)) (List.mem_of_getElem? (i := 42) rfl))
theorem dX12_reckons_174 : decode cX12_reckons 174 = .ok (.iload_n 2, 1) := of_decide_eq_true (List.all_eq_true.mp dsX12_reckons_1_ok (174, (.iload_n 2, 1)) (List.mem_of_getElem? (i := 43) rfl))
theorem dX12_reckons_175 : decode cX12_reckons 175 = .ok (.laload, 1) := of_decide_eq_true (List.all_eq_true.mp dsX12_reckons_1_ok (175, (.laload, 1)) (List.mem_of_getElem? (i := 44) rfl))
theorem dX12_reckons_176 : decode cX12_reckons 176 = .ok (.goto 11, 3) := of_decide_eq_true (List.all_eq_true.mp dsX12_reckons_1_ok (176, (.goto 11, 3)) (List.mem_of_getElem? (i := 45) rfl))
theorem dX12_reckons_179 : decode cX12_reckons 179 = .ok (.aload_n 0, 1) := of_decide_eq_true (List.all_eq_true.mp dsX12_reckons_1_ok (179, (.aload_n 0, 1)) (List.mem_of_getElem? (i := 46) rfl))
theorem dX12_reckons_180 : decode cX12_reckons 180 = .ok (.getfield 186, 3) := of_decide_eq_true (List.all_eq_true.mp dsX12_reckons_1_ok (180, (.getfield 186, 3)) (List.mem_of_getElem? (i := 47) rfl))
theorem dX12_reckons_183 : decode cX12_reckons 183 = .ok (.iload_n 2, 1) := of_decide_eq_true (List.all_eq_true.mp dsX12_reckons_1_ok (183, (.iload_n 2, 1)) (List.mem_of_getElem? (i := 48) rfl))
theorem dX12_reckons_184 : decode cX12_reckons 184 = .ok (.iconst 1, 1) := of_decide_eq_true (List.all_eq_true.mp dsX12_reckons_1_ok (184, (.iconst 1, 1)) (List.mem_of_getElem? (i := 49) rfl))
theorem dX12_reckons_185 : decode cX12_reckons 185 = .ok (.iadd, 1) := of_decide_eq_true (List.all_eq_true.mp dsX12_reckons_1_ok (185, (.iadd, 1)) (List.mem_of_getElem? (i := 50) rfl))
theorem dX12_reckons_186 : decode cX12_reckons 186 = .ok (.laload, 1) := of_decide_eq_true (List.all_eq_true.mp dsX12_reckons_1_ok (186, (.laload, 1)) (List.mem_of_getElem? (i := 51) rfl))
theorem dX12_reckons_187 : decode cX12_reckons 187 = .ok (.lastore, 1) := of_decide_eq_true (List.all_eq_true.mp dsX12_reckons_1_ok (187, (.lastore, 1)) (List.mem_of_getElem? (i := 52) rfl))
theorem dX12_reckons_188 : decode cX12_reckons 188 = .ok (.goto 33, 3) := of_decide_eq_true (List.all_eq_true.mp dsX12_reckons_1_ok (188, (.goto 33, 3)) (List.mem_of_getElem? (i := 53) rfl))
theorem dX12_reckons_191 : decode cX12_reckons 191 = .ok (.iinc 2 (-1), 3) := of_decide_eq_true (List.all_eq_true.mp dsX12_reckons_1_ok (191, (.iinc 2 (-1), 3)) (List.mem_of_getElem? (i := 54) rfl))
theorem dX12_reckons_194 : decode cX12_reckons 194 = .ok (.aload_n 0, 1) := of_decide_eq_true (List.all_eq_true.mp dsX12_reckons_1_ok (194, (.aload_n 0, 1)) (List.mem_of_getElem? (i := 55) rfl))
theorem dX12_reckons_195 : decode cX12_reckons 195 = .ok (.getfield 186, 3) := of_decide_eq_true (List.all_eq_true.mp dsX12_reckons_1_ok (195, (.getfield 186, 3)) (List.mem_of_getElem? (i := 56) rfl))
theorem dX12_reckons_198 : decode cX12_reckons 198 = .ok (.iload_n 2, 1) := of_decide_eq_true (List.all_eq_true.mp dsX12_reckons_1_ok (198, (.iload_n 2, 1)) (List.mem_of_getElem? (i := 57) rfl))
theorem dX12_reckons_199 : decode cX12_reckons 199 = .ok (.iconst 1, 1) := of_decide_eq_true (List.all_eq_true.mp dsX12_reckons_1_ok (199, (.iconst 1, 1)) (List.mem_of_getElem? (i := 58) rfl))
theorem dX12_reckons_200 : decode cX12_reckons 200 = .ok (.isub, 1) := of_decide_eq_true (List.all_eq_true.mp dsX12_reckons_1_ok (200, (.isub, 1)) (List.mem_of_getElem? (i := 59) rfl))
def dsX12_reckons_2 : List (Nat × Instr × Nat) := [(201, (.iload 4, 2)), (203, (.aload_n 0, 1)), (204, (.getfield 186, 3)), (207, (.iload_n 2, 1)), (208, (.iconst 1, 1)), (209, (.isub, 1)), (210, (.laload, 1)), (211, (.aload_n 0, 1)), (212, (.getfield 186, 3)), (215, (.iload_n 2, 1)), (216, (.laload, 1)), (217, (.invokestatic 409, 3)), (220, (.lastore, 1)), (221, (.iinc 3 1, 3)), (224, (.goto (-199), 3)), (227, (.aload_n 0, 1)), (228, (.getfield 186, 3)), (231, (.iconst 0, 1)), (232, (.laload, 1)), (233, (.lreturn, 1))]
theorem dsX12_reckons_2_ok : (dsX12_reckons_2.all fun q => decide (decode cX12_reckons q.1 = .ok q.2)) = true := by decide +kernel
theorem dX12_reckons_201 : decode cX12_reckons 201 = .ok (.iload 4, 2) := of_decide_eq_true (List.all_eq_true.mp dsX12_reckons_2_ok (201, (.iload 4, 2)) (List.mem_of_getElem? (i := 0) rfl))
theorem dX12_reckons_203 : decode cX12_reckons 203 = .ok (.aload_n 0, 1) := of_decide_eq_true (List.all_eq_true.mp dsX12_reckons_2_ok (203, (.aload_n 0, 1)) (List.mem_of_getElem? (i := 1) rfl))
theorem dX12_reckons_204 : decode cX12_reckons 204 = .ok (.getfield 186, 3) := of_decide_eq_true (List.all_eq_true.mp dsX12_reckons_2_ok (204, (.getfield 186, 3)) (List.mem_of_getElem? (i := 2) rfl))
theorem dX12_reckons_207 : decode cX12_reckons 207 = .ok (.iload_n 2, 1) := of_decide_eq_true (List.all_eq_true.mp dsX12_reckons_2_ok (207, (.iload_n 2, 1)) (List.mem_of_getElem? (i := 3) rfl))
theorem dX12_reckons_208 : decode cX12_reckons 208 = .ok (.iconst 1, 1) := of_decide_eq_true (List.all_eq_true.mp dsX12_reckons_2_ok (208, (.iconst 1, 1)) (List.mem_of_getElem? (i := 4) rfl))
theorem dX12_reckons_209 : decode cX12_reckons 209 = .ok (.isub, 1) := of_decide_eq_true (List.all_eq_true.mp dsX12_reckons_2_ok (209, (.isub, 1)) (List.mem_of_getElem? (i := 5) rfl))
theorem dX12_reckons_210 : decode cX12_reckons 210 = .ok (.laload, 1) := of_decide_eq_true (List.all_eq_true.mp dsX12_reckons_2_ok (210, (.laload, 1)) (List.mem_of_getElem? (i := 6) rfl))
theorem dX12_reckons_211 : decode cX12_reckons 211 = .ok (.aload_n 0, 1) := of_decide_eq_true (List.all_eq_true.mp dsX12_reckons_2_ok (211, (.aload_n 0, 1)) (List.mem_of_getElem? (i := 7) rfl))
theorem dX12_reckons_212 : decode cX12_reckons 212 = .ok (.getfield 186, 3) := of_decide_eq_true (List.all_eq_true.mp dsX12_reckons_2_ok (212, (.getfield 186, 3)) (List.mem_of_getElem? (i := 8) rfl))
theorem dX12_reckons_215 : decode cX12_reckons 215 = .ok (.iload_n 2, 1) := of_decide_eq_true (List.all_eq_true.mp dsX12_reckons_2_ok (215, (.iload_n 2, 1)) (List.mem_of_getElem? (i := 9) rfl))
theorem dX12_reckons_216 : decode cX12_reckons 216 = .ok (.laload, 1) := of_decide_eq_true (List.all_eq_true.mp dsX12_reckons_2_ok (216, (.laload, 1)) (List.mem_of_getElem? (i := 10) rfl))
theorem dX12_reckons_217 : decode cX12_reckons 217 = .ok (.invokestatic 409, 3) := of_decide_eq_true (List.all_eq_true.mp dsX12_reckons_2_ok (217, (.invokestatic 409, 3)) (List.mem_of_getElem? (i := 11) rfl))
theorem dX12_reckons_220 : decode cX12_reckons 220 = .ok (.lastore, 1) := of_decide_eq_true (List.all_eq_true.mp dsX12_reckons_2_ok (220, (.lastore, 1)) (List.mem_of_getElem? (i := 12) rfl))
theorem dX12_reckons_221 : decode cX12_reckons 221 = .ok (.iinc 3 1, 3) := of_decide_eq_true (List.all_eq_true.mp dsX12_reckons_2_ok (221, (.iinc 3 1, 3)) (List.mem_of_getElem? (i := 13) rfl))
theorem dX12_reckons_224 : decode cX12_reckons 224 = .ok (.goto (-199), 3) := of_decide_eq_true (List.all_eq_true.mp dsX12_reckons_2_ok (224, (.goto (-199), 3)) (List.mem_of_getElem? (i := 14) rfl))
theorem dX12_reckons_227 : decode cX12_reckons 227 = .ok (.aload_n 0, 1) := of_decide_eq_true (List.all_eq_true.mp dsX12_reckons_2_ok (227, (.aload_n 0, 1)) (List.mem_of_getElem? (i := 15) rfl))
theorem dX12_reckons_228 : decode cX12_reckons 228 = .ok (.getfield 186, 3) := of_decide_eq_true (List.all_eq_true.mp dsX12_reckons_2_ok (228, (.getfield 186, 3)) (List.mem_of_getElem? (i := 16) rfl))
theorem dX12_reckons_231 : decode cX12_reckons 231 = .ok (.iconst 0, 1) := of_decide_eq_true (List.all_eq_true.mp dsX12_reckons_2_ok (231, (.iconst 0, 1)) (List.mem_of_getElem? (i := 17) rfl))
theorem dX12_reckons_232 : decode cX12_reckons 232 = .ok (.laload, 1) := of_decide_eq_true (List.all_eq_true.mp dsX12_reckons_2_ok (232, (.laload, 1)) (List.mem_of_getElem? (i := 18) rfl))
theorem dX12_reckons_233 : decode cX12_reckons 233 = .ok (.lreturn, 1) := of_decide_eq_true (List.all_eq_true.mp dsX12_reckons_2_ok (233, (.lreturn, 1)) (List.mem_of_getElem? (i := 19) rfl))
def fX12_reckons_b221 (N : Nat) (mmI : Nat → Int32) (mm_sumFromF : Nat → Int32) (mm_sumBehindF : Nat → Int32) (mm_codeSortF : Nat → Int32) (mm_askedF : Nat → Int32) (mm_codeValueF : Nat → Int32)  (k25 : ((Nat → Int64) × Int32 × Int32 × Int32) → Option (Int64 × (Nat → Int64))) : ((Nat → Int64) × Int32 × Int32 × Int32) → Option (Int64 × (Nat → Int64)) :=
  fun (mm_stackL_221, x1_221, x2_221, x3_221) => k25 (mm_stackL_221, x1_221, x2_221, x3_221 + 1)
def fX12_reckons_b187 (N : Nat) (mmI : Nat → Int32) (mm_sumFromF : Nat → Int32) (mm_sumBehindF : Nat → Int32) (mm_codeSortF : Nat → Int32) (mm_askedF : Nat → Int32) (mm_codeValueF : Nat → Int32)  (k25 : ((Nat → Int64) × Int32 × Int32 × Int32) → Option (Int64 × (Nat → Int64))) : ((Nat → Int64) × Int32 × Int32 × Int32 × Int32 × Int64) → Option (Int64 × (Nat → Int64)) :=
  fun (mm_stackL_187, x1_187, x2_187, x3_187, y1_187, y2_187) => (xq_bd (xq_astL 500 mm_stackL_187 y1_187 y2_187) fun g_1 => fX12_reckons_b221 N mmI mm_sumFromF mm_sumBehindF mm_codeSortF mm_askedF mm_codeValueF k25 (g_1, x1_187, x2_187, x3_187))
def fX12_reckons_b105 (N : Nat) (mmI : Nat → Int32) (mm_sumFromF : Nat → Int32) (mm_sumBehindF : Nat → Int32) (mm_codeSortF : Nat → Int32) (mm_askedF : Nat → Int32) (mm_codeValueF : Nat → Int32)  (k25 : ((Nat → Int64) × Int32 × Int32 × Int32) → Option (Int64 × (Nat → Int64))) : ((Nat → Int64) × Int32 × Int32 × Int32 × Int32 × Int64) → Option (Int64 × (Nat → Int64)) :=
  fun (mm_stackL_105, x1_105, x2_105, x3_105, y1_105, y2_105) => (xq_bd (xq_astL 500 mm_stackL_105 y1_105 y2_105) fun g_2 => fX12_reckons_b221 N mmI mm_sumFromF mm_sumBehindF mm_codeSortF mm_askedF mm_codeValueF k25 (g_2, x1_105, x2_105 + 1, x3_105))
def fX12_reckons_l25 (N : Nat) (mmI : Nat → Int32) (mm_sumFromF : Nat → Int32) (mm_sumBehindF : Nat → Int32) (mm_codeSortF : Nat → Int32) (mm_askedF : Nat → Int32) (mm_codeValueF : Nat → Int32)  (k25 : ((Nat → Int64) × Int32 × Int32 × Int32) → Option (Int64 × (Nat → Int64))) : ((Nat → Int64) × Int32 × Int32 × Int32) → Option (Int64 × (Nat → Int64)) :=
  fun (mm_stackL_25, x1_25, x2_25, x3_25) => (xq_bd (xq_ald 6 mm_sumBehindF ((3 * (mmI 13)) + x1_25)) fun v_3 => (if ((1600 * (mmI 13)) + v_3) ≤ x3_25 then (xq_bd (xq_aldL 500 mm_stackL_25 0) fun v_4 => some ((v_4, mm_stackL_25))) else (xq_bd (xq_ald 3200 mm_codeSortF x3_25) fun v_5 => (if 30 < v_5 then (if v_5 = 43 then (xq_bd (xq_aldL 500 mm_stackL_25 (x2_25 - 1)) fun v_14 => (xq_bd (xq_astL 500 mm_stackL_25 (x2_25 - 1) (1 - v_14)) fun g_15 => fX12_reckons_b221 N mmI mm_sumFromF mm_sumBehindF mm_codeSortF mm_askedF mm_codeValueF k25 (g_15, x1_25, x2_25, x3_25))) else (if v_5 = 44 then (xq_bd (xq_aldL 500 mm_stackL_25 ((x2_25 + (-2)) - 1)) fun v_11 => (if (lg_cmp v_11 1) = 0 then (xq_bd (xq_aldL 500 mm_stackL_25 (x2_25 + (-2))) fun v_13 => fX12_reckons_b187 N mmI mm_sumFromF mm_sumBehindF mm_codeSortF mm_askedF mm_codeValueF k25 (mm_stackL_25, x1_25, x2_25 + (-2), x3_25, (x2_25 + (-2)) - 1, v_13)) else (xq_bd (xq_aldL 500 mm_stackL_25 ((x2_25 + (-2)) + 1)) fun v_12 => fX12_reckons_b187 N mmI mm_sumFromF mm_sumBehindF mm_codeSortF mm_askedF mm_codeValueF k25 (mm_stackL_25, x1_25, x2_25 + (-2), x3_25, (x2_25 + (-2)) - 1, v_12)))) else (xq_bd (xq_aldL 500 mm_stackL_25 ((x2_25 + (-1)) - 1)) fun v_6 => (xq_bd (xq_aldL 500 mm_stackL_25 (x2_25 + (-1))) fun v_7 => (xq_bd (fX12_two N v_5 v_6 v_7) fun r_8 => (xq_bd (xq_astL 500 mm_stackL_25 ((x2_25 + (-1)) - 1) r_8) fun g_10 => fX12_reckons_b221 N mmI mm_sumFromF mm_sumBehindF mm_codeSortF mm_askedF mm_codeValueF k25 (g_10, x1_25, x2_25 + (-1), x3_25))))))) else (if v_5 = 0 then (xq_bd (xq_ald 3200 mm_codeValueF x3_25) fun v_17 => fX12_reckons_b105 N mmI mm_sumFromF mm_sumBehindF mm_codeSortF mm_askedF mm_codeValueF k25 (mm_stackL_25, x1_25, x2_25, x3_25, x2_25, v_17.toInt64)) else (if v_5 = 30 then fX12_reckons_b105 N mmI mm_sumFromF mm_sumBehindF mm_codeSortF mm_askedF mm_codeValueF k25 (mm_stackL_25, x1_25, x2_25, x3_25, x2_25, 1) else (xq_bd (xq_ald 12 mm_askedF v_5) fun v_16 => fX12_reckons_b105 N mmI mm_sumFromF mm_sumBehindF mm_codeSortF mm_askedF mm_codeValueF k25 (mm_stackL_25, x1_25, x2_25, x3_25, x2_25, v_16.toInt64))))))))
def fX12_reckons (N : Nat) (mmI : Nat → Int32) (mm_sumFromF : Nat → Int32) (mm_sumBehindF : Nat → Int32) (mm_stackL : Nat → Int64) (mm_codeSortF : Nat → Int32) (mm_askedF : Nat → Int32) (mm_codeValueF : Nat → Int32)  (p1 : Int32) : Option (Int64 × (Nat → Int64)) :=
  (xq_bd (xq_ald 6 mm_sumFromF ((3 * (mmI 13)) + p1)) fun v_1 => xq_loop (fX12_reckons_l25 N mmI mm_sumFromF mm_sumBehindF mm_codeSortF mm_askedF mm_codeValueF) N (mm_stackL, p1, 0, (1600 * (mmI 13)) + v_1))
set_option maxHeartbeats 4000000 in
set_option maxRecDepth 100000 in
theorem kX12_reckons (l : Launch) (dC : Nat → ClassId) (dI : Nat → Nat → Nat) (cI cB cJ cZ cM : ClassId) (z : Nat) (ad : Nat → Nat) (N : Nat) (a_p0 : Nat) (mmI : Nat → Int32) (mmJ : Nat → Int64) (mmR : Nat → Nat) (mm_sumFromF : Nat → Int32) (mm_sumBehindF : Nat → Int32) (mm_stackL : Nat → Int64) (mm_codeSortF : Nat → Int32) (mm_askedF : Nat → Int32) (mm_codeValueF : Nat → Int32) (p1 : Int32) {r0 : Int64} {r1 : Nat → Int64} (hf : fX12_reckons N mmI mm_sumFromF mm_sumBehindF mm_stackL mm_codeSortF mm_askedF mm_codeValueF p1 = some (r0, r1)) : xq_Ct l yX12_reckons wsX12_reckons { frames := 2, cells := 0, slots := 0, locals := 49 } (dC, dI) vwCl (xq_tys cI cB cJ cZ cM) z ad [.ref a_p0, .int p1] [(a_p0, .inr (12, oX12 mmI mmJ mmR)), ((mmR 24), .inl (cI, 6, .inl mm_sumFromF)), ((mmR 25), .inl (cI, 6, .inl mm_sumBehindF)), ((mmR 57), .inl (cJ, 500, .inr (.inl mm_stackL))), ((mmR 26), .inl (cI, 3200, .inl mm_codeSortF)), ((mmR 58), .inl (cI, 12, .inl mm_askedF)), ((mmR 27), .inl (cI, 3200, .inl mm_codeValueF))] [(a_p0, .inr (12, oX12 mmI mmJ mmR)), ((mmR 24), .inl (cI, 6, .inl mm_sumFromF)), ((mmR 25), .inl (cI, 6, .inl mm_sumBehindF)), ((mmR 57), .inl (cJ, 500, .inr (.inl r1))), ((mmR 26), .inl (cI, 3200, .inl mm_codeSortF)), ((mmR 58), .inl (cI, 12, .inl mm_askedF)), ((mmR 27), .inl (cI, 3200, .inl mm_codeValueF))] (some (.long r0)) := by
  intro sz
  refine Met.ofW (cc := cX12_reckons) (maxL := 5) (ret := (some .long)) (by decide) rfl ?_
  intro p e s m args below meth c s₁ B hml hv
  obtain ⟨rfl, hsz, hP, hK, hD0, hE, hz⟩ := hv
  have hx := B.exec
  have hb := B.bytes
  have hr := B.returns
  have hts := atoms_spec (ws := wsX12_reckons) B.pre
  have hown : s.vm.findClass RX12 = some m.cls := findClass_of_methodNamed B.named
  have hlocks := B.notSynchronized
  subst hsz
  have hD := hD0.self (sz := s.heap.size)
  have hN := xq_Env.of hE hz hD0
  generalize hAe : va_A [(a_p0, .inr (12, oX12 mmI mmJ mmR)), ((mmR 24), .inl (cI, 6, .inl mm_sumFromF)), ((mmR 25), .inl (cI, 6, .inl mm_sumBehindF)), ((mmR 57), .inl (cJ, 500, .inr (.inl mm_stackL))), ((mmR 26), .inl (cI, 3200, .inl mm_codeSortF)), ((mmR 58), .inl (cI, 12, .inl mm_askedF)), ((mmR 27), .inl (cI, 3200, .inl mm_codeValueF))] s.heap.size = A at hD hN ⊢
  have hA : ∀ q : Nat, s.heap.size ≤ q → A q := fun q h => by rw [← hAe]; exact Or.inr h
  clear hAe hD0
  have hS : va_S A s.heap s.heap [] := va_S.rf
  have hl := lv_entry ([.ref a_p0, .int p1]) (n := 5) (Nat.le_of_ble_eq_true rfl)
  rw [lg_entry_eq]
  generalize (lg_sl ([.ref a_p0, .int p1]) ++ List.replicate (5 - (lg_sl ([.ref a_p0, .int p1])).length) Slot.unset).toArray = ls at hl ⊢
  have hl : lv_has ls 5 [(0, .ref a_p0), (1, .int p1)] := hl
  have hw0 := hts (.fieldLink RX12 51 "DistantVoiceModel" "bank" "I") (by decide +kernel)
  have hinX12 : ∀ w ∈ wsX120, w ∈ wsX12_reckons := fun w h => List.mem_cons_of_mem _ (List.mem_append_right _ h)
  have hw2 := hts (.fieldLink RX12 84 "DistantVoiceModel" "sumFrom" "[I") (by decide +kernel)
  have hw3 := hts (.fieldLink RX12 87 "DistantVoiceModel" "sumBehind" "[I") (by decide +kernel)
  have hw4 := hts (.fieldLink RX12 186 "DistantVoiceModel" "stack" "[J") (by decide +kernel)
  have hw5 := hts (.fieldLink RX12 90 "DistantVoiceModel" "codeSort" "[I") (by decide +kernel)
  have hw6 := hts (.fieldLink RX12 189 "DistantVoiceModel" "asked" "[I") (by decide +kernel)
  have hw7 := hts (.fieldLink RX12 93 "DistantVoiceModel" "codeValue" "[I") (by decide +kernel)
  have l25 : ∀ n25 : Nat, ∀ (mm_stackL_25 : Nat → Int64) (x1_25 : Int32) (x2_25 : Int32) (x3_25 : Int32) (ls : Array Slot) (H : Heap) (locs : List Loc), xq_loop (fX12_reckons_l25 N mmI mm_sumFromF mm_sumBehindF mm_codeSortF mm_askedF mm_codeValueF) n25 (mm_stackL_25, x1_25, x2_25, x3_25) = some (r0, r1) → va_P (dC, dI) vwCl [(a_p0, .inr (12, oX12 mmI mmJ mmR)), ((mmR 24), .inl (cI, 6, .inl mm_sumFromF)), ((mmR 25), .inl (cI, 6, .inl mm_sumBehindF)), ((mmR 57), .inl (cJ, 500, .inr (.inl mm_stackL_25))), ((mmR 26), .inl (cI, 3200, .inl mm_codeSortF)), ((mmR 58), .inl (cI, 12, .inl mm_askedF)), ((mmR 27), .inl (cI, 3200, .inl mm_codeValueF))] H → va_D A [(a_p0, .inr (12, oX12 mmI mmJ mmR)), ((mmR 24), .inl (cI, 6, .inl mm_sumFromF)), ((mmR 25), .inl (cI, 6, .inl mm_sumBehindF)), ((mmR 57), .inl (cJ, 500, .inr (.inl mm_stackL_25))), ((mmR 26), .inl (cI, 3200, .inl mm_codeSortF)), ((mmR 58), .inl (cI, 12, .inl mm_askedF)), ((mmR 27), .inl (cI, 3200, .inl mm_codeValueF))] → va_S A s.heap H locs → lv_has ls 5 [(0, .ref a_p0), (1, .int x1_25), (2, .int x2_25), (3, .int x3_25)] → W p l e (headSpec wsX12_reckons { frames := 2, cells := 0, slots := 0, locals := 49 }).room s m [.ref a_p0, .int p1].toArray below meth c H locs 0 0 (MQ below (xq_Q (dC, dI) vwCl (xq_tys cI cB cJ cZ cM) A [(a_p0, .inr (12, oX12 mmI mmJ mmR)), ((mmR 24), .inl (cI, 6, .inl mm_sumFromF)), ((mmR 25), .inl (cI, 6, .inl mm_sumBehindF)), ((mmR 57), .inl (cJ, 500, .inr (.inl r1))), ((mmR 26), .inl (cI, 3200, .inl mm_codeSortF)), ((mmR 58), .inl (cI, 12, .inl mm_askedF)), ((mmR 27), .inl (cI, 3200, .inl mm_codeValueF))] (some (.long r0))) [.ref a_p0, .int p1].toArray s 0 0 A) (F0 m 25 ls []) := by
    intro n25
    induction n25 with
    | zero => intro mm_stackL_25 x1_25 x2_25 x3_25 ls H locs hf; cases (show none = some (r0, r1) from hf)
    | succ n25 ih25 =>
      have b221 : ∀ (mm_stackL_221 : Nat → Int64) (x1_221 : Int32) (x2_221 : Int32) (x3_221 : Int32) (ls : Array Slot) (H : Heap) (locs : List Loc), fX12_reckons_b221 N mmI mm_sumFromF mm_sumBehindF mm_codeSortF mm_askedF mm_codeValueF (xq_loop (fX12_reckons_l25 N mmI mm_sumFromF mm_sumBehindF mm_codeSortF mm_askedF mm_codeValueF) n25) (mm_stackL_221, x1_221, x2_221, x3_221) = some (r0, r1) → va_P (dC, dI) vwCl [(a_p0, .inr (12, oX12 mmI mmJ mmR)), ((mmR 24), .inl (cI, 6, .inl mm_sumFromF)), ((mmR 25), .inl (cI, 6, .inl mm_sumBehindF)), ((mmR 57), .inl (cJ, 500, .inr (.inl mm_stackL_221))), ((mmR 26), .inl (cI, 3200, .inl mm_codeSortF)), ((mmR 58), .inl (cI, 12, .inl mm_askedF)), ((mmR 27), .inl (cI, 3200, .inl mm_codeValueF))] H → va_D A [(a_p0, .inr (12, oX12 mmI mmJ mmR)), ((mmR 24), .inl (cI, 6, .inl mm_sumFromF)), ((mmR 25), .inl (cI, 6, .inl mm_sumBehindF)), ((mmR 57), .inl (cJ, 500, .inr (.inl mm_stackL_221))), ((mmR 26), .inl (cI, 3200, .inl mm_codeSortF)), ((mmR 58), .inl (cI, 12, .inl mm_askedF)), ((mmR 27), .inl (cI, 3200, .inl mm_codeValueF))] → va_S A s.heap H locs → lv_has ls 5 [(0, .ref a_p0), (1, .int x1_221), (2, .int x2_221), (3, .int x3_221)] → W p l e (headSpec wsX12_reckons { frames := 2, cells := 0, slots := 0, locals := 49 }).room s m [.ref a_p0, .int p1].toArray below meth c H locs 0 0 (MQ below (xq_Q (dC, dI) vwCl (xq_tys cI cB cJ cZ cM) A [(a_p0, .inr (12, oX12 mmI mmJ mmR)), ((mmR 24), .inl (cI, 6, .inl mm_sumFromF)), ((mmR 25), .inl (cI, 6, .inl mm_sumBehindF)), ((mmR 57), .inl (cJ, 500, .inr (.inl r1))), ((mmR 26), .inl (cI, 3200, .inl mm_codeSortF)), ((mmR 58), .inl (cI, 12, .inl mm_askedF)), ((mmR 27), .inl (cI, 3200, .inl mm_codeValueF))] (some (.long r0))) [.ref a_p0, .int p1].toArray s 0 0 A) (F0 m 221 ls []) := by
        intro mm_stackL_221 x1_221 x2_221 x3_221 ls H locs hf hP hD hS hl
        unfold fX12_reckons_b221 at hf
        refine lv_iinc (v := x3_221 + 1) (lv' := [(3, .int (x3_221 + 1)), (0, .ref a_p0), (1, .int x1_221), (2, .int x2_221)]) hx hb dX12_reckons_221 hl (k := 3) rfl (congrArg (fun q9 => x3_221 + q9) (by decide : Int32.ofInt 1 = 1)) (by decide) rfl (fun ls hl => ?_)
        refine lv_goto (tgt := 25) hx hb dX12_reckons_224 (by decide) ?_
        exact ih25 mm_stackL_221 x1_221 x2_221 (x3_221 + 1) _ _ _ hf hP hD hS (lv_sub hl [1, 2, 3, 0] rfl)
      have b187 : ∀ (mm_stackL_187 : Nat → Int64) (x1_187 : Int32) (x2_187 : Int32) (x3_187 : Int32) (y1_187 : Int32) (y2_187 : Int64) (ls : Array Slot) (H : Heap) (locs : List Loc), fX12_reckons_b187 N mmI mm_sumFromF mm_sumBehindF mm_codeSortF mm_askedF mm_codeValueF (xq_loop (fX12_reckons_l25 N mmI mm_sumFromF mm_sumBehindF mm_codeSortF mm_askedF mm_codeValueF) n25) (mm_stackL_187, x1_187, x2_187, x3_187, y1_187, y2_187) = some (r0, r1) → va_P (dC, dI) vwCl [(a_p0, .inr (12, oX12 mmI mmJ mmR)), ((mmR 24), .inl (cI, 6, .inl mm_sumFromF)), ((mmR 25), .inl (cI, 6, .inl mm_sumBehindF)), ((mmR 57), .inl (cJ, 500, .inr (.inl mm_stackL_187))), ((mmR 26), .inl (cI, 3200, .inl mm_codeSortF)), ((mmR 58), .inl (cI, 12, .inl mm_askedF)), ((mmR 27), .inl (cI, 3200, .inl mm_codeValueF))] H → va_D A [(a_p0, .inr (12, oX12 mmI mmJ mmR)), ((mmR 24), .inl (cI, 6, .inl mm_sumFromF)), ((mmR 25), .inl (cI, 6, .inl mm_sumBehindF)), ((mmR 57), .inl (cJ, 500, .inr (.inl mm_stackL_187))), ((mmR 26), .inl (cI, 3200, .inl mm_codeSortF)), ((mmR 58), .inl (cI, 12, .inl mm_askedF)), ((mmR 27), .inl (cI, 3200, .inl mm_codeValueF))] → va_S A s.heap H locs → lv_has ls 5 [(0, .ref a_p0), (1, .int x1_187), (2, .int x2_187), (3, .int x3_187)] → W p l e (headSpec wsX12_reckons { frames := 2, cells := 0, slots := 0, locals := 49 }).room s m [.ref a_p0, .int p1].toArray below meth c H locs 0 0 (MQ below (xq_Q (dC, dI) vwCl (xq_tys cI cB cJ cZ cM) A [(a_p0, .inr (12, oX12 mmI mmJ mmR)), ((mmR 24), .inl (cI, 6, .inl mm_sumFromF)), ((mmR 25), .inl (cI, 6, .inl mm_sumBehindF)), ((mmR 57), .inl (cJ, 500, .inr (.inl r1))), ((mmR 26), .inl (cI, 3200, .inl mm_codeSortF)), ((mmR 58), .inl (cI, 12, .inl mm_askedF)), ((mmR 27), .inl (cI, 3200, .inl mm_codeValueF))] (some (.long r0))) [.ref a_p0, .int p1].toArray s 0 0 A) (F0 m 187 ls [.long y2_187, .int y1_187, .ref ((mmR 57))]) := by
        intro mm_stackL_187 x1_187 x2_187 x3_187 y1_187 y2_187 ls H locs hf hP hD hS hl
        unfold fX12_reckons_b187 at hf
        refine xq_last hx hb hK hP hD hS 3 2 rfl rfl hf dX12_reckons_187 (fun g_1 H locs hf hP hD hS => ?_)
        have hP : va_P (dC, dI) vwCl [(a_p0, .inr (12, oX12 mmI mmJ mmR)), ((mmR 24), .inl (cI, 6, .inl mm_sumFromF)), ((mmR 25), .inl (cI, 6, .inl mm_sumBehindF)), ((mmR 57), .inl (cJ, 500, .inr (.inl g_1))), ((mmR 26), .inl (cI, 3200, .inl mm_codeSortF)), ((mmR 58), .inl (cI, 12, .inl mm_askedF)), ((mmR 27), .inl (cI, 3200, .inl mm_codeValueF))] H := hP
        have hD : va_D A [(a_p0, .inr (12, oX12 mmI mmJ mmR)), ((mmR 24), .inl (cI, 6, .inl mm_sumFromF)), ((mmR 25), .inl (cI, 6, .inl mm_sumBehindF)), ((mmR 57), .inl (cJ, 500, .inr (.inl g_1))), ((mmR 26), .inl (cI, 3200, .inl mm_codeSortF)), ((mmR 58), .inl (cI, 12, .inl mm_askedF)), ((mmR 27), .inl (cI, 3200, .inl mm_codeValueF))] := hD
        refine lv_goto (tgt := 221) hx hb dX12_reckons_188 (by decide) ?_
        exact b221 g_1 x1_187 x2_187 x3_187 _ _ _ hf hP hD hS (lv_sub hl [0, 1, 2, 3] rfl)
      have b105 : ∀ (mm_stackL_105 : Nat → Int64) (x1_105 : Int32) (x2_105 : Int32) (x3_105 : Int32) (y1_105 : Int32) (y2_105 : Int64) (ls : Array Slot) (H : Heap) (locs : List Loc), fX12_reckons_b105 N mmI mm_sumFromF mm_sumBehindF mm_codeSortF mm_askedF mm_codeValueF (xq_loop (fX12_reckons_l25 N mmI mm_sumFromF mm_sumBehindF mm_codeSortF mm_askedF mm_codeValueF) n25) (mm_stackL_105, x1_105, x2_105, x3_105, y1_105, y2_105) = some (r0, r1) → va_P (dC, dI) vwCl [(a_p0, .inr (12, oX12 mmI mmJ mmR)), ((mmR 24), .inl (cI, 6, .inl mm_sumFromF)), ((mmR 25), .inl (cI, 6, .inl mm_sumBehindF)), ((mmR 57), .inl (cJ, 500, .inr (.inl mm_stackL_105))), ((mmR 26), .inl (cI, 3200, .inl mm_codeSortF)), ((mmR 58), .inl (cI, 12, .inl mm_askedF)), ((mmR 27), .inl (cI, 3200, .inl mm_codeValueF))] H → va_D A [(a_p0, .inr (12, oX12 mmI mmJ mmR)), ((mmR 24), .inl (cI, 6, .inl mm_sumFromF)), ((mmR 25), .inl (cI, 6, .inl mm_sumBehindF)), ((mmR 57), .inl (cJ, 500, .inr (.inl mm_stackL_105))), ((mmR 26), .inl (cI, 3200, .inl mm_codeSortF)), ((mmR 58), .inl (cI, 12, .inl mm_askedF)), ((mmR 27), .inl (cI, 3200, .inl mm_codeValueF))] → va_S A s.heap H locs → lv_has ls 5 [(0, .ref a_p0), (1, .int x1_105), (2, .int x2_105), (3, .int x3_105)] → W p l e (headSpec wsX12_reckons { frames := 2, cells := 0, slots := 0, locals := 49 }).room s m [.ref a_p0, .int p1].toArray below meth c H locs 0 0 (MQ below (xq_Q (dC, dI) vwCl (xq_tys cI cB cJ cZ cM) A [(a_p0, .inr (12, oX12 mmI mmJ mmR)), ((mmR 24), .inl (cI, 6, .inl mm_sumFromF)), ((mmR 25), .inl (cI, 6, .inl mm_sumBehindF)), ((mmR 57), .inl (cJ, 500, .inr (.inl r1))), ((mmR 26), .inl (cI, 3200, .inl mm_codeSortF)), ((mmR 58), .inl (cI, 12, .inl mm_askedF)), ((mmR 27), .inl (cI, 3200, .inl mm_codeValueF))] (some (.long r0))) [.ref a_p0, .int p1].toArray s 0 0 A) (F0 m 105 ls [.long y2_105, .int y1_105, .ref ((mmR 57))]) := by
        intro mm_stackL_105 x1_105 x2_105 x3_105 y1_105 y2_105 ls H locs hf hP hD hS hl
        unfold fX12_reckons_b105 at hf
        refine xq_last hx hb hK hP hD hS 3 2 rfl rfl hf dX12_reckons_105 (fun g_1 H locs hf hP hD hS => ?_)
        have hP : va_P (dC, dI) vwCl [(a_p0, .inr (12, oX12 mmI mmJ mmR)), ((mmR 24), .inl (cI, 6, .inl mm_sumFromF)), ((mmR 25), .inl (cI, 6, .inl mm_sumBehindF)), ((mmR 57), .inl (cJ, 500, .inr (.inl g_1))), ((mmR 26), .inl (cI, 3200, .inl mm_codeSortF)), ((mmR 58), .inl (cI, 12, .inl mm_askedF)), ((mmR 27), .inl (cI, 3200, .inl mm_codeValueF))] H := hP
        have hD : va_D A [(a_p0, .inr (12, oX12 mmI mmJ mmR)), ((mmR 24), .inl (cI, 6, .inl mm_sumFromF)), ((mmR 25), .inl (cI, 6, .inl mm_sumBehindF)), ((mmR 57), .inl (cJ, 500, .inr (.inl g_1))), ((mmR 26), .inl (cI, 3200, .inl mm_codeSortF)), ((mmR 58), .inl (cI, 12, .inl mm_askedF)), ((mmR 27), .inl (cI, 3200, .inl mm_codeValueF))] := hD
        refine lv_iinc (v := x2_105 + 1) (lv' := [(2, .int (x2_105 + 1)), (0, .ref a_p0), (1, .int x1_105), (3, .int x3_105)]) hx hb dX12_reckons_106 hl (k := 2) rfl (congrArg (fun q9 => x2_105 + q9) (by decide : Int32.ofInt 1 = 1)) (by decide) rfl (fun ls hl => ?_)
        refine lv_goto (tgt := 221) hx hb dX12_reckons_109 (by decide) ?_
        exact b221 g_1 x1_105 (x2_105 + 1) x3_105 _ _ _ hf hP hD hS (lv_sub hl [1, 2, 0, 3] rfl)
      intro mm_stackL_25 x1_25 x2_25 x3_25 ls H locs hf hP hD hS hl
      have hf : fX12_reckons_l25 N mmI mm_sumFromF mm_sumBehindF mm_codeSortF mm_askedF mm_codeValueF (xq_loop (fX12_reckons_l25 N mmI mm_sumFromF mm_sumBehindF mm_codeSortF mm_askedF mm_codeValueF) n25) (mm_stackL_25, x1_25, x2_25, x3_25) = some (r0, r1) := hf
      unfold fX12_reckons_l25 at hf
      refine lv_iload_n hx hb dX12_reckons_25 rfl (lv_at hl 3 rfl) ?_
      refine lv_sipush (v := 1600) hx hb dX12_reckons_26 (by decide) ?_
      refine lv_aload_n hx hb dX12_reckons_29 rfl (lv_at hl 0 rfl) ?_
      refine va_get (D := (dC, dI)) (ci := 12) (v := .int (mmI 13)) (C := RX12) (T := TX12) (N := 70) hx hb hts hinX12 hown hK hP 0 rfl rfl 13 (by decide) hw0 (fun _ h9 => h9) rfl dX12_reckons_30 ?_
      refine lv_imul hx hb dX12_reckons_33 ?_
      refine lv_aload_n hx hb dX12_reckons_34 rfl (lv_at hl 0 rfl) ?_
      refine va_get (D := (dC, dI)) (ci := 12) (v := .ref ((mmR 25))) (C := RX12) (T := TX12) (N := 70) hx hb hts hinX12 hown hK hP 0 rfl rfl 25 (by decide) hw3 (fun _ h9 => h9) rfl dX12_reckons_35 ?_
      refine lv_iconst (v := 3) hx hb dX12_reckons_38 (by decide) ?_
      refine lv_aload_n hx hb dX12_reckons_39 rfl (lv_at hl 0 rfl) ?_
      refine va_get (D := (dC, dI)) (ci := 12) (v := .int (mmI 13)) (C := RX12) (T := TX12) (N := 70) hx hb hts hinX12 hown hK hP 0 rfl rfl 13 (by decide) hw0 (fun _ h9 => h9) rfl dX12_reckons_40 ?_
      refine lv_imul hx hb dX12_reckons_43 ?_
      refine lv_iload_n hx hb dX12_reckons_44 rfl (lv_at hl 1 rfl) ?_
      refine lv_iadd hx hb dX12_reckons_45 ?_
      refine xq_iald hx hb hK hP 2 0 rfl rfl hf dX12_reckons_46 (fun v_1 hf => ?_)
      refine lv_iadd hx hb dX12_reckons_47 ?_
      refine lv_icmp_ge (tgt := 227) hx hb dX12_reckons_48 (by decide) (fun c_ => ?_) (fun c_ => ?_)
      · have hf := xq_pos hf c_
        refine lv_aload_n hx hb dX12_reckons_227 rfl (lv_at hl 0 rfl) ?_
        refine va_get (D := (dC, dI)) (ci := 12) (v := .ref ((mmR 57))) (C := RX12) (T := TX12) (N := 70) hx hb hts hinX12 hown hK hP 0 rfl rfl 57 (by decide) hw4 (fun _ h9 => h9) rfl dX12_reckons_228 ?_
        refine lv_iconst (v := 0) hx hb dX12_reckons_231 (by decide) ?_
        refine xq_lald hx hb hK hP 3 2 rfl rfl hf dX12_reckons_232 (fun v_2 hf => ?_)
        have hP9 := hP
        have hD9 := hD
        have hS9 := hS
        cases hf
        exact xq_lret hx hb hr hlocks hK hP9 hD9 hS9 dX12_reckons_233
      · have hf := xq_neg hf c_
        refine lv_aload_n hx hb dX12_reckons_51 rfl (lv_at hl 0 rfl) ?_
        refine va_get (D := (dC, dI)) (ci := 12) (v := .ref ((mmR 26))) (C := RX12) (T := TX12) (N := 70) hx hb hts hinX12 hown hK hP 0 rfl rfl 26 (by decide) hw5 (fun _ h9 => h9) rfl dX12_reckons_52 ?_
        refine lv_iload_n hx hb dX12_reckons_55 rfl (lv_at hl 3 rfl) ?_
        refine xq_iald hx hb hK hP 4 0 rfl rfl hf dX12_reckons_56 (fun v_3 hf => ?_)
        refine lv_istore (lv' := [(4, .int v_3), (0, .ref a_p0), (1, .int x1_25), (2, .int x2_25), (3, .int x3_25)]) hx hb dX12_reckons_57 hl (by decide) rfl (fun ls hl => ?_)
        refine lv_iload hx hb dX12_reckons_59 (lv_at hl 0 rfl) ?_
        refine lv_bipush (v := 30) hx hb dX12_reckons_61 (by decide) ?_
        refine lv_icmp_gt (tgt := 112) hx hb dX12_reckons_63 (by decide) (fun c_ => ?_) (fun c_ => ?_)
        · have hf := xq_pos hf c_
          refine lv_iload hx hb dX12_reckons_112 (lv_at hl 0 rfl) ?_
          refine lv_bipush (v := 43) hx hb dX12_reckons_114 (by decide) ?_
          refine lv_icmp_ne (tgt := 140) hx hb dX12_reckons_116 (by decide) (fun c_ => ?_) (fun c_ => ?_)
          · have hf := xq_neg hf c_
            refine lv_iload hx hb dX12_reckons_140 (lv_at hl 0 rfl) ?_
            refine lv_bipush (v := 44) hx hb dX12_reckons_142 (by decide) ?_
            refine lv_icmp_ne (tgt := 191) hx hb dX12_reckons_144 (by decide) (fun c_ => ?_) (fun c_ => ?_)
            · have hf := xq_neg hf c_
              refine lv_iinc (v := x2_25 + (-1)) (lv' := [(2, .int (x2_25 + (-1))), (4, .int v_3), (0, .ref a_p0), (1, .int x1_25), (3, .int x3_25)]) hx hb dX12_reckons_191 hl (k := 3) rfl (congrArg (fun q9 => x2_25 + q9) (by decide : Int32.ofInt (-1) = (-1))) (by decide) rfl (fun ls hl => ?_)
              refine lv_aload_n hx hb dX12_reckons_194 rfl (lv_at hl 2 rfl) ?_
              refine va_get (D := (dC, dI)) (ci := 12) (v := .ref ((mmR 57))) (C := RX12) (T := TX12) (N := 70) hx hb hts hinX12 hown hK hP 0 rfl rfl 57 (by decide) hw4 (fun _ h9 => h9) rfl dX12_reckons_195 ?_
              refine lv_iload_n hx hb dX12_reckons_198 rfl (lv_at hl 0 rfl) ?_
              refine lv_iconst (v := 1) hx hb dX12_reckons_199 (by decide) ?_
              refine lv_isub hx hb dX12_reckons_200 ?_
              refine lv_iload hx hb dX12_reckons_201 (lv_at hl 1 rfl) ?_
              refine lv_aload_n hx hb dX12_reckons_203 rfl (lv_at hl 2 rfl) ?_
              refine va_get (D := (dC, dI)) (ci := 12) (v := .ref ((mmR 57))) (C := RX12) (T := TX12) (N := 70) hx hb hts hinX12 hown hK hP 0 rfl rfl 57 (by decide) hw4 (fun _ h9 => h9) rfl dX12_reckons_204 ?_
              refine lv_iload_n hx hb dX12_reckons_207 rfl (lv_at hl 0 rfl) ?_
              refine lv_iconst (v := 1) hx hb dX12_reckons_208 (by decide) ?_
              refine lv_isub hx hb dX12_reckons_209 ?_
              refine xq_lald hx hb hK hP 3 2 rfl rfl hf dX12_reckons_210 (fun v_4 hf => ?_)
              refine lv_aload_n hx hb dX12_reckons_211 rfl (lv_at hl 2 rfl) ?_
              refine va_get (D := (dC, dI)) (ci := 12) (v := .ref ((mmR 57))) (C := RX12) (T := TX12) (N := 70) hx hb hts hinX12 hown hK hP 0 rfl rfl 57 (by decide) hw4 (fun _ h9 => h9) rfl dX12_reckons_212 ?_
              refine lv_iload_n hx hb dX12_reckons_215 rfl (lv_at hl 0 rfl) ?_
              refine xq_lald hx hb hK hP 3 2 rfl rfl hf dX12_reckons_216 (fun v_5 hf => ?_)
              obtain ⟨r_6, h_7, hf⟩ := xq_bd_some hf
              refine xq_callS (As := [.int v_3, .long v_4, .long v_5]) (rest := [.int ((x2_25 + (-1)) - 1), .ref ((mmR 57))]) ⟨hx, hb, hml, hown, hts⟩ (kX12_two l dC dI cI cB cJ cZ cM z ad N v_3 v_4 v_5 h_7) (va_cwS 3 hts gX12_reckons_X12_two rfl rfl rfl (by decide +kernel) ⟨Nat.le_of_ble_eq_true rfl, Nat.le_of_ble_eq_true rfl⟩) hN hK hP hD hS hA [] (by decide) rfl rfl rfl hl.1 rfl (Nat.le_of_ble_eq_true rfl) dX12_reckons_217 ⟨Nat.zero_le _, Nat.zero_le _⟩ (fun H locs hP hD hS => ?_)
              have hP : va_P (dC, dI) vwCl [(a_p0, .inr (12, oX12 mmI mmJ mmR)), ((mmR 24), .inl (cI, 6, .inl mm_sumFromF)), ((mmR 25), .inl (cI, 6, .inl mm_sumBehindF)), ((mmR 57), .inl (cJ, 500, .inr (.inl mm_stackL_25))), ((mmR 26), .inl (cI, 3200, .inl mm_codeSortF)), ((mmR 58), .inl (cI, 12, .inl mm_askedF)), ((mmR 27), .inl (cI, 3200, .inl mm_codeValueF))] H := hP
              have hD : va_D A [(a_p0, .inr (12, oX12 mmI mmJ mmR)), ((mmR 24), .inl (cI, 6, .inl mm_sumFromF)), ((mmR 25), .inl (cI, 6, .inl mm_sumBehindF)), ((mmR 57), .inl (cJ, 500, .inr (.inl mm_stackL_25))), ((mmR 26), .inl (cI, 3200, .inl mm_codeSortF)), ((mmR 58), .inl (cI, 12, .inl mm_askedF)), ((mmR 27), .inl (cI, 3200, .inl mm_codeValueF))] := hD
              refine W.eq (g2 := F0 m 220 ls [.long r_6, .int ((x2_25 + (-1)) - 1), .ref ((mmR 57))]) rfl ?_
              refine xq_last hx hb hK hP hD hS 3 2 rfl rfl hf dX12_reckons_220 (fun g_8 H locs hf hP hD hS => ?_)
              have hP : va_P (dC, dI) vwCl [(a_p0, .inr (12, oX12 mmI mmJ mmR)), ((mmR 24), .inl (cI, 6, .inl mm_sumFromF)), ((mmR 25), .inl (cI, 6, .inl mm_sumBehindF)), ((mmR 57), .inl (cJ, 500, .inr (.inl g_8))), ((mmR 26), .inl (cI, 3200, .inl mm_codeSortF)), ((mmR 58), .inl (cI, 12, .inl mm_askedF)), ((mmR 27), .inl (cI, 3200, .inl mm_codeValueF))] H := hP
              have hD : va_D A [(a_p0, .inr (12, oX12 mmI mmJ mmR)), ((mmR 24), .inl (cI, 6, .inl mm_sumFromF)), ((mmR 25), .inl (cI, 6, .inl mm_sumBehindF)), ((mmR 57), .inl (cJ, 500, .inr (.inl g_8))), ((mmR 26), .inl (cI, 3200, .inl mm_codeSortF)), ((mmR 58), .inl (cI, 12, .inl mm_askedF)), ((mmR 27), .inl (cI, 3200, .inl mm_codeValueF))] := hD
              exact b221 g_8 x1_25 (x2_25 + (-1)) x3_25 _ _ _ hf hP hD hS (lv_sub hl [2, 3, 0, 4] rfl)
            · have hf := xq_pos hf c_
              refine lv_iinc (v := x2_25 + (-2)) (lv' := [(2, .int (x2_25 + (-2))), (4, .int v_3), (0, .ref a_p0), (1, .int x1_25), (3, .int x3_25)]) hx hb dX12_reckons_147 hl (k := 3) rfl (congrArg (fun q9 => x2_25 + q9) (by decide : Int32.ofInt (-2) = (-2))) (by decide) rfl (fun ls hl => ?_)
              refine lv_aload_n hx hb dX12_reckons_150 rfl (lv_at hl 2 rfl) ?_
              refine va_get (D := (dC, dI)) (ci := 12) (v := .ref ((mmR 57))) (C := RX12) (T := TX12) (N := 70) hx hb hts hinX12 hown hK hP 0 rfl rfl 57 (by decide) hw4 (fun _ h9 => h9) rfl dX12_reckons_151 ?_
              refine lv_iload_n hx hb dX12_reckons_154 rfl (lv_at hl 0 rfl) ?_
              refine lv_iconst (v := 1) hx hb dX12_reckons_155 (by decide) ?_
              refine lv_isub hx hb dX12_reckons_156 ?_
              refine lv_aload_n hx hb dX12_reckons_157 rfl (lv_at hl 2 rfl) ?_
              refine va_get (D := (dC, dI)) (ci := 12) (v := .ref ((mmR 57))) (C := RX12) (T := TX12) (N := 70) hx hb hts hinX12 hown hK hP 0 rfl rfl 57 (by decide) hw4 (fun _ h9 => h9) rfl dX12_reckons_158 ?_
              refine lv_iload_n hx hb dX12_reckons_161 rfl (lv_at hl 0 rfl) ?_
              refine lv_iconst (v := 1) hx hb dX12_reckons_162 (by decide) ?_
              refine lv_isub hx hb dX12_reckons_163 ?_
              refine xq_lald hx hb hK hP 3 2 rfl rfl hf dX12_reckons_164 (fun v_9 hf => ?_)
              refine lv_lconst (v := 1) hx hb dX12_reckons_165 (by decide) ?_
              refine W.lcmp hx hb dX12_reckons_166 ?_
              refine lv_if_ne (tgt := 179) hx hb dX12_reckons_167 (by decide) (fun c_ => ?_) (fun c_ => ?_)
              · have hf := xq_neg hf c_
                refine lv_aload_n hx hb dX12_reckons_179 rfl (lv_at hl 2 rfl) ?_
                refine va_get (D := (dC, dI)) (ci := 12) (v := .ref ((mmR 57))) (C := RX12) (T := TX12) (N := 70) hx hb hts hinX12 hown hK hP 0 rfl rfl 57 (by decide) hw4 (fun _ h9 => h9) rfl dX12_reckons_180 ?_
                refine lv_iload_n hx hb dX12_reckons_183 rfl (lv_at hl 0 rfl) ?_
                refine lv_iconst (v := 1) hx hb dX12_reckons_184 (by decide) ?_
                refine lv_iadd hx hb dX12_reckons_185 ?_
                refine xq_lald hx hb hK hP 3 2 rfl rfl hf dX12_reckons_186 (fun v_10 hf => ?_)
                exact b187 mm_stackL_25 x1_25 (x2_25 + (-2)) x3_25 ((x2_25 + (-2)) - 1) v_10 _ _ _ hf hP hD hS (lv_sub hl [2, 3, 0, 4] rfl)
              · have hf := xq_pos hf c_
                refine lv_aload_n hx hb dX12_reckons_170 rfl (lv_at hl 2 rfl) ?_
                refine va_get (D := (dC, dI)) (ci := 12) (v := .ref ((mmR 57))) (C := RX12) (T := TX12) (N := 70) hx hb hts hinX12 hown hK hP 0 rfl rfl 57 (by decide) hw4 (fun _ h9 => h9) rfl dX12_reckons_171 ?_
                refine lv_iload_n hx hb dX12_reckons_174 rfl (lv_at hl 0 rfl) ?_
                refine xq_lald hx hb hK hP 3 2 rfl rfl hf dX12_reckons_175 (fun v_11 hf => ?_)
                refine lv_goto (tgt := 187) hx hb dX12_reckons_176 (by decide) ?_
                exact b187 mm_stackL_25 x1_25 (x2_25 + (-2)) x3_25 ((x2_25 + (-2)) - 1) v_11 _ _ _ hf hP hD hS (lv_sub hl [2, 3, 0, 4] rfl)
          · have hf := xq_pos hf c_
            refine lv_aload_n hx hb dX12_reckons_119 rfl (lv_at hl 1 rfl) ?_
            refine va_get (D := (dC, dI)) (ci := 12) (v := .ref ((mmR 57))) (C := RX12) (T := TX12) (N := 70) hx hb hts hinX12 hown hK hP 0 rfl rfl 57 (by decide) hw4 (fun _ h9 => h9) rfl dX12_reckons_120 ?_
            refine lv_iload_n hx hb dX12_reckons_123 rfl (lv_at hl 3 rfl) ?_
            refine lv_iconst (v := 1) hx hb dX12_reckons_124 (by decide) ?_
            refine lv_isub hx hb dX12_reckons_125 ?_
            refine lv_lconst (v := 1) hx hb dX12_reckons_126 (by decide) ?_
            refine lv_aload_n hx hb dX12_reckons_127 rfl (lv_at hl 1 rfl) ?_
            refine va_get (D := (dC, dI)) (ci := 12) (v := .ref ((mmR 57))) (C := RX12) (T := TX12) (N := 70) hx hb hts hinX12 hown hK hP 0 rfl rfl 57 (by decide) hw4 (fun _ h9 => h9) rfl dX12_reckons_128 ?_
            refine lv_iload_n hx hb dX12_reckons_131 rfl (lv_at hl 3 rfl) ?_
            refine lv_iconst (v := 1) hx hb dX12_reckons_132 (by decide) ?_
            refine lv_isub hx hb dX12_reckons_133 ?_
            refine xq_lald hx hb hK hP 3 2 rfl rfl hf dX12_reckons_134 (fun v_12 hf => ?_)
            refine lv_lsub hx hb dX12_reckons_135 ?_
            refine xq_last hx hb hK hP hD hS 3 2 rfl rfl hf dX12_reckons_136 (fun g_13 H locs hf hP hD hS => ?_)
            have hP : va_P (dC, dI) vwCl [(a_p0, .inr (12, oX12 mmI mmJ mmR)), ((mmR 24), .inl (cI, 6, .inl mm_sumFromF)), ((mmR 25), .inl (cI, 6, .inl mm_sumBehindF)), ((mmR 57), .inl (cJ, 500, .inr (.inl g_13))), ((mmR 26), .inl (cI, 3200, .inl mm_codeSortF)), ((mmR 58), .inl (cI, 12, .inl mm_askedF)), ((mmR 27), .inl (cI, 3200, .inl mm_codeValueF))] H := hP
            have hD : va_D A [(a_p0, .inr (12, oX12 mmI mmJ mmR)), ((mmR 24), .inl (cI, 6, .inl mm_sumFromF)), ((mmR 25), .inl (cI, 6, .inl mm_sumBehindF)), ((mmR 57), .inl (cJ, 500, .inr (.inl g_13))), ((mmR 26), .inl (cI, 3200, .inl mm_codeSortF)), ((mmR 58), .inl (cI, 12, .inl mm_askedF)), ((mmR 27), .inl (cI, 3200, .inl mm_codeValueF))] := hD
            refine lv_goto (tgt := 221) hx hb dX12_reckons_137 (by decide) ?_
            exact b221 g_13 x1_25 x2_25 x3_25 _ _ _ hf hP hD hS (lv_sub hl [1, 2, 3, 4] rfl)
        · have hf := xq_neg hf c_
          refine lv_aload_n hx hb dX12_reckons_66 rfl (lv_at hl 1 rfl) ?_
          refine va_get (D := (dC, dI)) (ci := 12) (v := .ref ((mmR 57))) (C := RX12) (T := TX12) (N := 70) hx hb hts hinX12 hown hK hP 0 rfl rfl 57 (by decide) hw4 (fun _ h9 => h9) rfl dX12_reckons_67 ?_
          refine lv_iload_n hx hb dX12_reckons_70 rfl (lv_at hl 3 rfl) ?_
          refine lv_iload hx hb dX12_reckons_71 (lv_at hl 0 rfl) ?_
          refine lv_if_ne (tgt := 86) hx hb dX12_reckons_73 (by decide) (fun c_ => ?_) (fun c_ => ?_)
          · have hf := xq_neg hf c_
            refine lv_iload hx hb dX12_reckons_86 (lv_at hl 0 rfl) ?_
            refine lv_bipush (v := 30) hx hb dX12_reckons_88 (by decide) ?_
            refine lv_icmp_ne (tgt := 97) hx hb dX12_reckons_90 (by decide) (fun c_ => ?_) (fun c_ => ?_)
            · have hf := xq_neg hf c_
              refine lv_aload_n hx hb dX12_reckons_97 rfl (lv_at hl 1 rfl) ?_
              refine va_get (D := (dC, dI)) (ci := 12) (v := .ref ((mmR 58))) (C := RX12) (T := TX12) (N := 70) hx hb hts hinX12 hown hK hP 0 rfl rfl 58 (by decide) hw6 (fun _ h9 => h9) rfl dX12_reckons_98 ?_
              refine lv_iload hx hb dX12_reckons_101 (lv_at hl 0 rfl) ?_
              refine xq_iald hx hb hK hP 5 0 rfl rfl hf dX12_reckons_103 (fun v_14 hf => ?_)
              refine lv_i2l (v := v_14.toInt64) hx hb dX12_reckons_104 rfl ?_
              exact b105 mm_stackL_25 x1_25 x2_25 x3_25 x2_25 v_14.toInt64 _ _ _ hf hP hD hS (lv_sub hl [1, 2, 3, 4] rfl)
            · have hf := xq_pos hf c_
              refine lv_lconst (v := 1) hx hb dX12_reckons_93 (by decide) ?_
              refine lv_goto (tgt := 105) hx hb dX12_reckons_94 (by decide) ?_
              exact b105 mm_stackL_25 x1_25 x2_25 x3_25 x2_25 1 _ _ _ hf hP hD hS (lv_sub hl [1, 2, 3, 4] rfl)
          · have hf := xq_pos hf c_
            refine lv_aload_n hx hb dX12_reckons_76 rfl (lv_at hl 1 rfl) ?_
            refine va_get (D := (dC, dI)) (ci := 12) (v := .ref ((mmR 27))) (C := RX12) (T := TX12) (N := 70) hx hb hts hinX12 hown hK hP 0 rfl rfl 27 (by decide) hw7 (fun _ h9 => h9) rfl dX12_reckons_77 ?_
            refine lv_iload_n hx hb dX12_reckons_80 rfl (lv_at hl 4 rfl) ?_
            refine xq_iald hx hb hK hP 6 0 rfl rfl hf dX12_reckons_81 (fun v_15 hf => ?_)
            refine lv_i2l (v := v_15.toInt64) hx hb dX12_reckons_82 rfl ?_
            refine lv_goto (tgt := 105) hx hb dX12_reckons_83 (by decide) ?_
            exact b105 mm_stackL_25 x1_25 x2_25 x3_25 x2_25 v_15.toInt64 _ _ _ hf hP hD hS (lv_sub hl [1, 2, 3, 4] rfl)
  unfold fX12_reckons at hf
  refine lv_iconst (v := 0) hx hb dX12_reckons_0 (by decide) ?_
  refine lv_istore_n (lv' := [(2, .int 0), (0, .ref a_p0), (1, .int p1)]) hx hb dX12_reckons_1 rfl hl (by decide) rfl (fun ls hl => ?_)
  refine lv_sipush (v := 1600) hx hb dX12_reckons_2 (by decide) ?_
  refine lv_aload_n hx hb dX12_reckons_5 rfl (lv_at hl 1 rfl) ?_
  refine va_get (D := (dC, dI)) (ci := 12) (v := .int (mmI 13)) (C := RX12) (T := TX12) (N := 70) hx hb hts hinX12 hown hK hP 0 rfl rfl 13 (by decide) hw0 (fun _ h9 => h9) rfl dX12_reckons_6 ?_
  refine lv_imul hx hb dX12_reckons_9 ?_
  refine lv_aload_n hx hb dX12_reckons_10 rfl (lv_at hl 1 rfl) ?_
  refine va_get (D := (dC, dI)) (ci := 12) (v := .ref ((mmR 24))) (C := RX12) (T := TX12) (N := 70) hx hb hts hinX12 hown hK hP 0 rfl rfl 24 (by decide) hw2 (fun _ h9 => h9) rfl dX12_reckons_11 ?_
  refine lv_iconst (v := 3) hx hb dX12_reckons_14 (by decide) ?_
  refine lv_aload_n hx hb dX12_reckons_15 rfl (lv_at hl 1 rfl) ?_
  refine va_get (D := (dC, dI)) (ci := 12) (v := .int (mmI 13)) (C := RX12) (T := TX12) (N := 70) hx hb hts hinX12 hown hK hP 0 rfl rfl 13 (by decide) hw0 (fun _ h9 => h9) rfl dX12_reckons_16 ?_
  refine lv_imul hx hb dX12_reckons_19 ?_
  refine lv_iload_n hx hb dX12_reckons_20 rfl (lv_at hl 2 rfl) ?_
  refine lv_iadd hx hb dX12_reckons_21 ?_
  refine xq_iald hx hb hK hP 1 0 rfl rfl hf dX12_reckons_22 (fun v_1 hf => ?_)
  refine lv_iadd hx hb dX12_reckons_23 ?_
  refine lv_istore_n (lv' := [(3, .int ((1600 * (mmI 13)) + v_1)), (2, .int 0), (0, .ref a_p0), (1, .int p1)]) hx hb dX12_reckons_24 rfl hl (by decide) rfl (fun ls hl => ?_)
  exact l25 N mm_stackL p1 0 ((1600 * (mmI 13)) + v_1) _ _ _ hf hP hD hS (lv_sub hl [2, 3, 1, 0] rfl)
def dsX12_isTold_0 : List (Nat × Instr × Nat) := [(0, (.aload_n 0, 1)), (1, (.getfield 84, 3)), (4, (.iconst 3, 1)), (5, (.aload_n 0, 1)), (6, (.getfield 51, 3)), (9, (.imul, 1)), (10, (.iload_n 1, 1)), (11, (.iadd, 1)), (12, (.iaload, 1)), (13, (.iconst (-1), 1)), (14, (.if_icmp .eq 7, 3)), (17, (.iconst 1, 1)), (18, (.goto 4, 3)), (21, (.iconst 0, 1)), (22, (.ireturn, 1))]
theorem dsX12_isTold_0_ok : (dsX12_isTold_0.all fun q => decide (decode cX12_isTold q.1 = .ok q.2)) = true := by decide +kernel
theorem dX12_isTold_0 : decode cX12_isTold 0 = .ok (.aload_n 0, 1) := of_decide_eq_true (List.all_eq_true.mp dsX12_isTold_0_ok (0, (.aload_n 0, 1)) (List.mem_of_getElem? (i := 0) rfl))
theorem dX12_isTold_1 : decode cX12_isTold 1 = .ok (.getfield 84, 3) := of_decide_eq_true (List.all_eq_true.mp dsX12_isTold_0_ok (1, (.getfield 84, 3)) (List.mem_of_getElem? (i := 1) rfl))
theorem dX12_isTold_4 : decode cX12_isTold 4 = .ok (.iconst 3, 1) := of_decide_eq_true (List.all_eq_true.mp dsX12_isTold_0_ok (4, (.iconst 3, 1)) (List.mem_of_getElem? (i := 2) rfl))
theorem dX12_isTold_5 : decode cX12_isTold 5 = .ok (.aload_n 0, 1) := of_decide_eq_true (List.all_eq_true.mp dsX12_isTold_0_ok (5, (.aload_n 0, 1)) (List.mem_of_getElem? (i := 3) rfl))
theorem dX12_isTold_6 : decode cX12_isTold 6 = .ok (.getfield 51, 3) := of_decide_eq_true (List.all_eq_true.mp dsX12_isTold_0_ok (6, (.getfield 51, 3)) (List.mem_of_getElem? (i := 4) rfl))
theorem dX12_isTold_9 : decode cX12_isTold 9 = .ok (.imul, 1) := of_decide_eq_true (List.all_eq_true.mp dsX12_isTold_0_ok (9, (.imul, 1)) (List.mem_of_getElem? (i := 5) rfl))
theorem dX12_isTold_10 : decode cX12_isTold 10 = .ok (.iload_n 1, 1) := of_decide_eq_true (List.all_eq_true.mp dsX12_isTold_0_ok (10, (.iload_n 1, 1)) (List.mem_of_getElem? (i := 6) rfl))
theorem dX12_isTold_11 : decode cX12_isTold 11 = .ok (.iadd, 1) := of_decide_eq_true (List.all_eq_true.mp dsX12_isTold_0_ok (11, (.iadd, 1)) (List.mem_of_getElem? (i := 7) rfl))
theorem dX12_isTold_12 : decode cX12_isTold 12 = .ok (.iaload, 1) := of_decide_eq_true (List.all_eq_true.mp dsX12_isTold_0_ok (12, (.iaload, 1)) (List.mem_of_getElem? (i := 8) rfl))
theorem dX12_isTold_13 : decode cX12_isTold 13 = .ok (.iconst (-1), 1) := of_decide_eq_true (List.all_eq_true.mp dsX12_isTold_0_ok (13, (.iconst (-1), 1)) (List.mem_of_getElem? (i := 9) rfl))
theorem dX12_isTold_14 : decode cX12_isTold 14 = .ok (.if_icmp .eq 7, 3) := of_decide_eq_true (List.all_eq_true.mp dsX12_isTold_0_ok (14, (.if_icmp .eq 7, 3)) (List.mem_of_getElem? (i := 10) rfl))
theorem dX12_isTold_17 : decode cX12_isTold 17 = .ok (.iconst 1, 1) := of_decide_eq_true (List.all_eq_true.mp dsX12_isTold_0_ok (17, (.iconst 1, 1)) (List.mem_of_getElem? (i := 11) rfl))
theorem dX12_isTold_18 : decode cX12_isTold 18 = .ok (.goto 4, 3) := of_decide_eq_true (List.all_eq_true.mp dsX12_isTold_0_ok (18, (.goto 4, 3)) (List.mem_of_getElem? (i := 12) rfl))
theorem dX12_isTold_21 : decode cX12_isTold 21 = .ok (.iconst 0, 1) := of_decide_eq_true (List.all_eq_true.mp dsX12_isTold_0_ok (21, (.iconst 0, 1)) (List.mem_of_getElem? (i := 13) rfl))
theorem dX12_isTold_22 : decode cX12_isTold 22 = .ok (.ireturn, 1) := of_decide_eq_true (List.all_eq_true.mp dsX12_isTold_0_ok (22, (.ireturn, 1)) (List.mem_of_getElem? (i := 14) rfl))
def fX12_isTold (N : Nat) (mmI : Nat → Int32) (mm_sumFromF : Nat → Int32)  (p1 : Int32) : Option (Int32) :=
  (xq_bd (xq_ald 6 mm_sumFromF ((3 * (mmI 13)) + p1)) fun v_1 => (if v_1 = ((-1)) then some 0 else some 1))
set_option maxHeartbeats 4000000 in
set_option maxRecDepth 100000 in
theorem kX12_isTold (l : Launch) (dC : Nat → ClassId) (dI : Nat → Nat → Nat) (cI cB cJ cZ cM : ClassId) (z : Nat) (ad : Nat → Nat) (N : Nat) (a_p0 : Nat) (mmI : Nat → Int32) (mmJ : Nat → Int64) (mmR : Nat → Nat) (mm_sumFromF : Nat → Int32) (p1 : Int32) {r0 : Int32} (hf : fX12_isTold N mmI mm_sumFromF p1 = some r0) : xq_Ct l yX12_isTold wsX12_isTold { frames := 0, cells := 0, slots := 0, locals := 0 } (dC, dI) vwCl (xq_tys cI cB cJ cZ cM) z ad [.ref a_p0, .int p1] [(a_p0, .inr (12, oX12 mmI mmJ mmR)), ((mmR 24), .inl (cI, 6, .inl mm_sumFromF))] [(a_p0, .inr (12, oX12 mmI mmJ mmR)), ((mmR 24), .inl (cI, 6, .inl mm_sumFromF))] (some (.int r0)) := by
  intro sz
  refine Met.ofW (cc := cX12_isTold) (maxL := 2) (ret := (some .boolean)) (by decide) rfl ?_
  intro p e s m args below meth c s₁ B hml hv
  obtain ⟨rfl, hsz, hP, hK, hD0, hE, hz⟩ := hv
  have hx := B.exec
  have hb := B.bytes
  have hr := B.returns
  have hts := atoms_spec (ws := wsX12_isTold) B.pre
  have hown : s.vm.findClass RX12 = some m.cls := findClass_of_methodNamed B.named
  have hlocks := B.notSynchronized
  subst hsz
  have hD := hD0.self (sz := s.heap.size)
  have hN := xq_Env.of hE hz hD0
  generalize hAe : va_A [(a_p0, .inr (12, oX12 mmI mmJ mmR)), ((mmR 24), .inl (cI, 6, .inl mm_sumFromF))] s.heap.size = A at hD hN ⊢
  have hA : ∀ q : Nat, s.heap.size ≤ q → A q := fun q h => by rw [← hAe]; exact Or.inr h
  clear hAe hD0
  have hS : va_S A s.heap s.heap [] := va_S.rf
  have hl := lv_entry ([.ref a_p0, .int p1]) (n := 2) (Nat.le_of_ble_eq_true rfl)
  rw [lg_entry_eq]
  generalize (lg_sl ([.ref a_p0, .int p1]) ++ List.replicate (2 - (lg_sl ([.ref a_p0, .int p1])).length) Slot.unset).toArray = ls at hl ⊢
  have hl : lv_has ls 2 [(0, .ref a_p0), (1, .int p1)] := hl
  have hw0 := hts (.fieldLink RX12 84 "DistantVoiceModel" "sumFrom" "[I") (by decide +kernel)
  have hinX12 : ∀ w ∈ wsX120, w ∈ wsX12_isTold := fun w h => List.mem_cons_of_mem _ (List.mem_append_right _ h)
  have hw2 := hts (.fieldLink RX12 51 "DistantVoiceModel" "bank" "I") (by decide +kernel)
  unfold fX12_isTold at hf
  refine lv_aload_n hx hb dX12_isTold_0 rfl (lv_at hl 0 rfl) ?_
  refine va_get (D := (dC, dI)) (ci := 12) (v := .ref ((mmR 24))) (C := RX12) (T := TX12) (N := 70) hx hb hts hinX12 hown hK hP 0 rfl rfl 24 (by decide) hw0 (fun _ h9 => h9) rfl dX12_isTold_1 ?_
  refine lv_iconst (v := 3) hx hb dX12_isTold_4 (by decide) ?_
  refine lv_aload_n hx hb dX12_isTold_5 rfl (lv_at hl 0 rfl) ?_
  refine va_get (D := (dC, dI)) (ci := 12) (v := .int (mmI 13)) (C := RX12) (T := TX12) (N := 70) hx hb hts hinX12 hown hK hP 0 rfl rfl 13 (by decide) hw2 (fun _ h9 => h9) rfl dX12_isTold_6 ?_
  refine lv_imul hx hb dX12_isTold_9 ?_
  refine lv_iload_n hx hb dX12_isTold_10 rfl (lv_at hl 1 rfl) ?_
  refine lv_iadd hx hb dX12_isTold_11 ?_
  refine xq_iald hx hb hK hP 1 0 rfl rfl hf dX12_isTold_12 (fun v_1 hf => ?_)
  refine lv_iconst (v := (-1)) hx hb dX12_isTold_13 (by decide) ?_
  refine lv_icmp_eq (tgt := 21) hx hb dX12_isTold_14 (by decide) (fun c_ => ?_) (fun c_ => ?_)
  · have hf := xq_pos hf c_
    refine lv_iconst (v := 0) hx hb dX12_isTold_21 (by decide) ?_
    have hP9 := hP
    have hD9 := hD
    have hS9 := hS
    cases hf
    exact xq_zret hx hb hr (by decide +kernel) hlocks hK hP9 hD9 hS9 dX12_isTold_22
  · have hf := xq_neg hf c_
    refine lv_iconst (v := 1) hx hb dX12_isTold_17 (by decide) ?_
    refine lv_goto (tgt := 22) hx hb dX12_isTold_18 (by decide) ?_
    have hP9 := hP
    have hD9 := hD
    have hS9 := hS
    cases hf
    exact xq_zret hx hb hr (by decide +kernel) hlocks hK hP9 hD9 hS9 dX12_isTold_22
def dsX12_cut_0 : List (Nat × Instr × Nat) := [(0, (.lload_n 0, 1)), (1, (.lconst 0, 1)), (2, (.lcmp, 1)), (3, (.ifCond .ge 7, 3)), (6, (.iconst 0, 1)), (7, (.goto 16, 3)), (10, (.lload_n 0, 1)), (11, (.iload_n 2, 1)), (12, (.i2l, 1)), (13, (.lcmp, 1)), (14, (.ifCond .le 7, 3)), (17, (.iload_n 2, 1)), (18, (.goto 5, 3)), (21, (.lload_n 0, 1)), (22, (.l2i, 1)), (23, (.ireturn, 1))]
theorem dsX12_cut_0_ok : (dsX12_cut_0.all fun q => decide (decode cX12_cut q.1 = .ok q.2)) = true := by decide +kernel
theorem dX12_cut_0 : decode cX12_cut 0 = .ok (.lload_n 0, 1) := of_decide_eq_true (List.all_eq_true.mp dsX12_cut_0_ok (0, (.lload_n 0, 1)) (List.mem_of_getElem? (i := 0) rfl))
theorem dX12_cut_1 : decode cX12_cut 1 = .ok (.lconst 0, 1) := of_decide_eq_true (List.all_eq_true.mp dsX12_cut_0_ok (1, (.lconst 0, 1)) (List.mem_of_getElem? (i := 1) rfl))
theorem dX12_cut_2 : decode cX12_cut 2 = .ok (.lcmp, 1) := of_decide_eq_true (List.all_eq_true.mp dsX12_cut_0_ok (2, (.lcmp, 1)) (List.mem_of_getElem? (i := 2) rfl))
theorem dX12_cut_3 : decode cX12_cut 3 = .ok (.ifCond .ge 7, 3) := of_decide_eq_true (List.all_eq_true.mp dsX12_cut_0_ok (3, (.ifCond .ge 7, 3)) (List.mem_of_getElem? (i := 3) rfl))
theorem dX12_cut_6 : decode cX12_cut 6 = .ok (.iconst 0, 1) := of_decide_eq_true (List.all_eq_true.mp dsX12_cut_0_ok (6, (.iconst 0, 1)) (List.mem_of_getElem? (i := 4) rfl))
theorem dX12_cut_7 : decode cX12_cut 7 = .ok (.goto 16, 3) := of_decide_eq_true (List.all_eq_true.mp dsX12_cut_0_ok (7, (.goto 16, 3)) (List.mem_of_getElem? (i := 5) rfl))
theorem dX12_cut_10 : decode cX12_cut 10 = .ok (.lload_n 0, 1) := of_decide_eq_true (List.all_eq_true.mp dsX12_cut_0_ok (10, (.lload_n 0, 1)) (List.mem_of_getElem? (i := 6) rfl))
theorem dX12_cut_11 : decode cX12_cut 11 = .ok (.iload_n 2, 1) := of_decide_eq_true (List.all_eq_true.mp dsX12_cut_0_ok (11, (.iload_n 2, 1)) (List.mem_of_getElem? (i := 7) rfl))
theorem dX12_cut_12 : decode cX12_cut 12 = .ok (.i2l, 1) := of_decide_eq_true (List.all_eq_true.mp dsX12_cut_0_ok (12, (.i2l, 1)) (List.mem_of_getElem? (i := 8) rfl))
theorem dX12_cut_13 : decode cX12_cut 13 = .ok (.lcmp, 1) := of_decide_eq_true (List.all_eq_true.mp dsX12_cut_0_ok (13, (.lcmp, 1)) (List.mem_of_getElem? (i := 9) rfl))
theorem dX12_cut_14 : decode cX12_cut 14 = .ok (.ifCond .le 7, 3) := of_decide_eq_true (List.all_eq_true.mp dsX12_cut_0_ok (14, (.ifCond .le 7, 3)) (List.mem_of_getElem? (i := 10) rfl))
theorem dX12_cut_17 : decode cX12_cut 17 = .ok (.iload_n 2, 1) := of_decide_eq_true (List.all_eq_true.mp dsX12_cut_0_ok (17, (.iload_n 2, 1)) (List.mem_of_getElem? (i := 11) rfl))
theorem dX12_cut_18 : decode cX12_cut 18 = .ok (.goto 5, 3) := of_decide_eq_true (List.all_eq_true.mp dsX12_cut_0_ok (18, (.goto 5, 3)) (List.mem_of_getElem? (i := 12) rfl))
theorem dX12_cut_21 : decode cX12_cut 21 = .ok (.lload_n 0, 1) := of_decide_eq_true (List.all_eq_true.mp dsX12_cut_0_ok (21, (.lload_n 0, 1)) (List.mem_of_getElem? (i := 13) rfl))
theorem dX12_cut_22 : decode cX12_cut 22 = .ok (.l2i, 1) := of_decide_eq_true (List.all_eq_true.mp dsX12_cut_0_ok (22, (.l2i, 1)) (List.mem_of_getElem? (i := 14) rfl))
theorem dX12_cut_23 : decode cX12_cut 23 = .ok (.ireturn, 1) := of_decide_eq_true (List.all_eq_true.mp dsX12_cut_0_ok (23, (.ireturn, 1)) (List.mem_of_getElem? (i := 15) rfl))
def fX12_cut (N : Nat)   (p0 : Int64) (p1 : Int32) : Option (Int32) :=
  (if 0 ≤ (lg_cmp p0 0) then (if (lg_cmp p0 p1.toInt64) ≤ 0 then some p0.toInt32 else some p1) else some 0)
set_option maxHeartbeats 4000000 in
set_option maxRecDepth 100000 in
theorem kX12_cut (l : Launch) (dC : Nat → ClassId) (dI : Nat → Nat → Nat) (cI cB cJ cZ cM : ClassId) (z : Nat) (ad : Nat → Nat) (N : Nat) (p0 : Int64) (p1 : Int32) {r0 : Int32} (hf : fX12_cut N p0 p1 = some r0) : xq_Ct l yX12_cut wsX12_cut { frames := 0, cells := 0, slots := 0, locals := 0 } (dC, dI) vwCl (xq_tys cI cB cJ cZ cM) z ad [.long p0, .int p1] [] [] (some (.int r0)) := by
  intro sz
  refine Met.ofW (cc := cX12_cut) (maxL := 3) (ret := (some .int)) (by decide) rfl ?_
  intro p e s m args below meth c s₁ B hml hv
  obtain ⟨rfl, hsz, hP, hK, hD0, hE, hz⟩ := hv
  have hx := B.exec
  have hb := B.bytes
  have hr := B.returns
  have hts := atoms_spec (ws := wsX12_cut) B.pre
  have hown : s.vm.findClass RX12 = some m.cls := findClass_of_methodNamed B.named
  have hlocks := B.notSynchronized
  subst hsz
  have hD := hD0.self (sz := s.heap.size)
  have hN := xq_Env.of hE hz hD0
  generalize hAe : va_A [] s.heap.size = A at hD hN ⊢
  have hA : ∀ q : Nat, s.heap.size ≤ q → A q := fun q h => by rw [← hAe]; exact Or.inr h
  clear hAe hD0
  have hS : va_S A s.heap s.heap [] := va_S.rf
  have hl := lv_entry ([.long p0, .int p1]) (n := 3) (Nat.le_of_ble_eq_true rfl)
  rw [lg_entry_eq]
  generalize (lg_sl ([.long p0, .int p1]) ++ List.replicate (3 - (lg_sl ([.long p0, .int p1])).length) Slot.unset).toArray = ls at hl ⊢
  have hl : lv_has ls 3 [(0, .long p0), (2, .int p1)] := hl
  unfold fX12_cut at hf
  refine lv_lload_n hx hb dX12_cut_0 rfl (lv_at hl 0 rfl) ?_
  refine lv_lconst (v := 0) hx hb dX12_cut_1 (by decide) ?_
  refine W.lcmp hx hb dX12_cut_2 ?_
  refine lv_if_ge (tgt := 10) hx hb dX12_cut_3 (by decide) (fun c_ => ?_) (fun c_ => ?_)
  · have hf := xq_pos hf c_
    refine lv_lload_n hx hb dX12_cut_10 rfl (lv_at hl 0 rfl) ?_
    refine lv_iload_n hx hb dX12_cut_11 rfl (lv_at hl 1 rfl) ?_
    refine lv_i2l (v := p1.toInt64) hx hb dX12_cut_12 rfl ?_
    refine W.lcmp hx hb dX12_cut_13 ?_
    refine lv_if_le (tgt := 21) hx hb dX12_cut_14 (by decide) (fun c_ => ?_) (fun c_ => ?_)
    · have hf := xq_pos hf c_
      refine lv_lload_n hx hb dX12_cut_21 rfl (lv_at hl 0 rfl) ?_
      refine lv_l2i (v := p0.toInt32) hx hb dX12_cut_22 rfl ?_
      have hP9 := hP
      have hD9 := hD
      have hS9 := hS
      cases hf
      exact xq_iret hx hb hr hlocks hK hP9 hD9 hS9 dX12_cut_23
    · have hf := xq_neg hf c_
      refine lv_iload_n hx hb dX12_cut_17 rfl (lv_at hl 1 rfl) ?_
      refine lv_goto (tgt := 23) hx hb dX12_cut_18 (by decide) ?_
      have hP9 := hP
      have hD9 := hD
      have hS9 := hS
      cases hf
      exact xq_iret hx hb hr hlocks hK hP9 hD9 hS9 dX12_cut_23
  · have hf := xq_neg hf c_
    refine lv_iconst (v := 0) hx hb dX12_cut_6 (by decide) ?_
    refine lv_goto (tgt := 23) hx hb dX12_cut_7 (by decide) ?_
    have hP9 := hP
    have hD9 := hD
    have hS9 := hS
    cases hf
    exact xq_iret hx hb hr hlocks hK hP9 hD9 hS9 dX12_cut_23
def dsX12_farOf_0 : List (Nat × Instr × Nat) := [(0, (.iconst 2, 1)), (1, (.aload_n 0, 1)), (2, (.getfield 153, 3)), (5, (.iload_n 1, 1)), (6, (.iaload, 1)), (7, (.imul, 1)), (8, (.aload_n 0, 1)), (9, (.getfield 54, 3)), (12, (.aload_n 0, 1)), (13, (.getfield 51, 3)), (16, (.iaload, 1)), (17, (.if_icmp .le 22, 3)), (20, (.aload_n 0, 1)), (21, (.getfield 54, 3)), (24, (.aload_n 0, 1)), (25, (.getfield 51, 3)), (28, (.iaload, 1)), (29, (.aload_n 0, 1)), (30, (.getfield 153, 3)), (33, (.iload_n 1, 1)), (34, (.iaload, 1)), (35, (.isub, 1)), (36, (.goto 9, 3)), (39, (.aload_n 0, 1)), (40, (.getfield 153, 3)), (43, (.iload_n 1, 1)), (44, (.iaload, 1)), (45, (.ireturn, 1))]
theorem dsX12_farOf_0_ok : (dsX12_farOf_0.all fun q => decide (decode cX12_farOf q.1 = .ok q.2)) = true := by decide +kernel
theorem dX12_farOf_0 : decode cX12_farOf 0 = .ok (.iconst 2, 1) := of_decide_eq_true (List.all_eq_true.mp dsX12_farOf_0_ok (0, (.iconst 2, 1)) (List.mem_of_getElem? (i := 0) rfl))
theorem dX12_farOf_1 : decode cX12_farOf 1 = .ok (.aload_n 0, 1) := of_decide_eq_true (List.all_eq_true.mp dsX12_farOf_0_ok (1, (.aload_n 0, 1)) (List.mem_of_getElem? (i := 1) rfl))
theorem dX12_farOf_2 : decode cX12_farOf 2 = .ok (.getfield 153, 3) := of_decide_eq_true (List.all_eq_true.mp dsX12_farOf_0_ok (2, (.getfield 153, 3)) (List.mem_of_getElem? (i := 2) rfl))
theorem dX12_farOf_5 : decode cX12_farOf 5 = .ok (.iload_n 1, 1) := of_decide_eq_true (List.all_eq_true.mp dsX12_farOf_0_ok (5, (.iload_n 1, 1)) (List.mem_of_getElem? (i := 3) rfl))
theorem dX12_farOf_6 : decode cX12_farOf 6 = .ok (.iaload, 1) := of_decide_eq_true (List.all_eq_true.mp dsX12_farOf_0_ok (6, (.iaload, 1)) (List.mem_of_getElem? (i := 4) rfl))
theorem dX12_farOf_7 : decode cX12_farOf 7 = .ok (.imul, 1) := of_decide_eq_true (List.all_eq_true.mp dsX12_farOf_0_ok (7, (.imul, 1)) (List.mem_of_getElem? (i := 5) rfl))
theorem dX12_farOf_8 : decode cX12_farOf 8 = .ok (.aload_n 0, 1) := of_decide_eq_true (List.all_eq_true.mp dsX12_farOf_0_ok (8, (.aload_n 0, 1)) (List.mem_of_getElem? (i := 6) rfl))
theorem dX12_farOf_9 : decode cX12_farOf 9 = .ok (.getfield 54, 3) := of_decide_eq_true (List.all_eq_true.mp dsX12_farOf_0_ok (9, (.getfield 54, 3)) (List.mem_of_getElem? (i := 7) rfl))
theorem dX12_farOf_12 : decode cX12_farOf 12 = .ok (.aload_n 0, 1) := of_decide_eq_true (List.all_eq_true.mp dsX12_farOf_0_ok (12, (.aload_n 0, 1)) (List.mem_of_getElem? (i := 8) rfl))
theorem dX12_farOf_13 : decode cX12_farOf 13 = .ok (.getfield 51, 3) := of_decide_eq_true (List.all_eq_true.mp dsX12_farOf_0_ok (13, (.getfield 51, 3)) (List.mem_of_getElem? (i := 9) rfl))
theorem dX12_farOf_16 : decode cX12_farOf 16 = .ok (.iaload, 1) := of_decide_eq_true (List.all_eq_true.mp dsX12_farOf_0_ok (16, (.iaload, 1)) (List.mem_of_getElem? (i := 10) rfl))
theorem dX12_farOf_17 : decode cX12_farOf 17 = .ok (.if_icmp .le 22, 3) := of_decide_eq_true (List.all_eq_true.mp dsX12_farOf_0_ok (17, (.if_icmp .le 22, 3)) (List.mem_of_getElem? (i := 11) rfl))
theorem dX12_farOf_20 : decode cX12_farOf 20 = .ok (.aload_n 0, 1) := of_decide_eq_true (List.all_eq_true.mp dsX12_farOf_0_ok (20, (.aload_n 0, 1)) (List.mem_of_getElem? (i := 12) rfl))
theorem dX12_farOf_21 : decode cX12_farOf 21 = .ok (.getfield 54, 3) := of_decide_eq_true (List.all_eq_true.mp dsX12_farOf_0_ok (21, (.getfield 54, 3)) (List.mem_of_getElem? (i := 13) rfl))
theorem dX12_farOf_24 : decode cX12_farOf 24 = .ok (.aload_n 0, 1) := of_decide_eq_true (List.all_eq_true.mp dsX12_farOf_0_ok (24, (.aload_n 0, 1)) (List.mem_of_getElem? (i := 14) rfl))
theorem dX12_farOf_25 : decode cX12_farOf 25 = .ok (.getfield 51, 3) := of_decide_eq_true (List.all_eq_true.mp dsX12_farOf_0_ok (25, (.getfield 51, 3)) (List.mem_of_getElem? (i := 15) rfl))
theorem dX12_farOf_28 : decode cX12_farOf 28 = .ok (.iaload, 1) := of_decide_eq_true (List.all_eq_true.mp dsX12_farOf_0_ok (28, (.iaload, 1)) (List.mem_of_getElem? (i := 16) rfl))
theorem dX12_farOf_29 : decode cX12_farOf 29 = .ok (.aload_n 0, 1) := of_decide_eq_true (List.all_eq_true.mp dsX12_farOf_0_ok (29, (.aload_n 0, 1)) (List.mem_of_getElem? (i := 17) rfl))
theorem dX12_farOf_30 : decode cX12_farOf 30 = .ok (.getfield 153, 3) := of_decide_eq_true (List.all_eq_true.mp dsX12_farOf_0_ok (30, (.getfield 153, 3)) (List.mem_of_getElem? (i := 18) rfl))
theorem dX12_farOf_33 : decode cX12_farOf 33 = .ok (.iload_n 1, 1) := of_decide_eq_true (List.all_eq_true.mp dsX12_farOf_0_ok (33, (.iload_n 1, 1)) (List.mem_of_getElem? (i := 19) rfl))
theorem dX12_farOf_34 : decode cX12_farOf 34 = .ok (.iaload, 1) := of_decide_eq_true (List.all_eq_true.mp dsX12_farOf_0_ok (34, (.iaload, 1)) (List.mem_of_getElem? (i := 20) rfl))
theorem dX12_farOf_35 : decode cX12_farOf 35 = .ok (.isub, 1) := of_decide_eq_true (List.all_eq_true.mp dsX12_farOf_0_ok (35, (.isub, 1)) (List.mem_of_getElem? (i := 21) rfl))
theorem dX12_farOf_36 : decode cX12_farOf 36 = .ok (.goto 9, 3) := of_decide_eq_true (List.all_eq_true.mp dsX12_farOf_0_ok (36, (.goto 9, 3)) (List.mem_of_getElem? (i := 22) rfl))
theorem dX12_farOf_39 : decode cX12_farOf 39 = .ok (.aload_n 0, 1) := of_decide_eq_true (List.all_eq_true.mp dsX12_farOf_0_ok (39, (.aload_n 0, 1)) (List.mem_of_getElem? (i := 23) rfl))
theorem dX12_farOf_40 : decode cX12_farOf 40 = .ok (.getfield 153, 3) := of_decide_eq_true (List.all_eq_true.mp dsX12_farOf_0_ok (40, (.getfield 153, 3)) (List.mem_of_getElem? (i := 24) rfl))
theorem dX12_farOf_43 : decode cX12_farOf 43 = .ok (.iload_n 1, 1) := of_decide_eq_true (List.all_eq_true.mp dsX12_farOf_0_ok (43, (.iload_n 1, 1)) (List.mem_of_getElem? (i := 25) rfl))
theorem dX12_farOf_44 : decode cX12_farOf 44 = .ok (.iaload, 1) := of_decide_eq_true (List.all_eq_true.mp dsX12_farOf_0_ok (44, (.iaload, 1)) (List.mem_of_getElem? (i := 26) rfl))
theorem dX12_farOf_45 : decode cX12_farOf 45 = .ok (.ireturn, 1) := of_decide_eq_true (List.all_eq_true.mp dsX12_farOf_0_ok (45, (.ireturn, 1)) (List.mem_of_getElem? (i := 27) rfl))
def fX12_farOf (N : Nat) (mmI : Nat → Int32) (mm_mileOfF : Nat → Int32) (mm_milesToldF : Nat → Int32)  (p1 : Int32) : Option (Int32) :=
  (xq_bd (xq_ald 22 mm_mileOfF p1) fun v_1 => (xq_bd (xq_ald 2 mm_milesToldF (mmI 13)) fun v_2 => (if (2 * v_1) ≤ v_2 then (xq_bd (xq_ald 22 mm_mileOfF p1) fun v_3 => some v_3) else (xq_bd (xq_ald 2 mm_milesToldF (mmI 13)) fun v_4 => (xq_bd (xq_ald 22 mm_mileOfF p1) fun v_5 => some (v_4 - v_5))))))
set_option maxHeartbeats 4000000 in
set_option maxRecDepth 100000 in
theorem kX12_farOf (l : Launch) (dC : Nat → ClassId) (dI : Nat → Nat → Nat) (cI cB cJ cZ cM : ClassId) (z : Nat) (ad : Nat → Nat) (N : Nat) (a_p0 : Nat) (mmI : Nat → Int32) (mmJ : Nat → Int64) (mmR : Nat → Nat) (mm_mileOfF : Nat → Int32) (mm_milesToldF : Nat → Int32) (p1 : Int32) {r0 : Int32} (hf : fX12_farOf N mmI mm_mileOfF mm_milesToldF p1 = some r0) : xq_Ct l yX12_farOf wsX12_farOf { frames := 0, cells := 0, slots := 0, locals := 0 } (dC, dI) vwCl (xq_tys cI cB cJ cZ cM) z ad [.ref a_p0, .int p1] [(a_p0, .inr (12, oX12 mmI mmJ mmR)), ((mmR 46), .inl (cI, 22, .inl mm_mileOfF)), ((mmR 14), .inl (cI, 2, .inl mm_milesToldF))] [(a_p0, .inr (12, oX12 mmI mmJ mmR)), ((mmR 46), .inl (cI, 22, .inl mm_mileOfF)), ((mmR 14), .inl (cI, 2, .inl mm_milesToldF))] (some (.int r0)) := by
  intro sz
  refine Met.ofW (cc := cX12_farOf) (maxL := 2) (ret := (some .int)) (by decide) rfl ?_
  intro p e s m args below meth c s₁ B hml hv
  obtain ⟨rfl, hsz, hP, hK, hD0, hE, hz⟩ := hv
  have hx := B.exec
  have hb := B.bytes
  have hr := B.returns
  have hts := atoms_spec (ws := wsX12_farOf) B.pre
  have hown : s.vm.findClass RX12 = some m.cls := findClass_of_methodNamed B.named
  have hlocks := B.notSynchronized
  subst hsz
  have hD := hD0.self (sz := s.heap.size)
  have hN := xq_Env.of hE hz hD0
  generalize hAe : va_A [(a_p0, .inr (12, oX12 mmI mmJ mmR)), ((mmR 46), .inl (cI, 22, .inl mm_mileOfF)), ((mmR 14), .inl (cI, 2, .inl mm_milesToldF))] s.heap.size = A at hD hN ⊢
  have hA : ∀ q : Nat, s.heap.size ≤ q → A q := fun q h => by rw [← hAe]; exact Or.inr h
  clear hAe hD0
  have hS : va_S A s.heap s.heap [] := va_S.rf
  have hl := lv_entry ([.ref a_p0, .int p1]) (n := 2) (Nat.le_of_ble_eq_true rfl)
  rw [lg_entry_eq]
  generalize (lg_sl ([.ref a_p0, .int p1]) ++ List.replicate (2 - (lg_sl ([.ref a_p0, .int p1])).length) Slot.unset).toArray = ls at hl ⊢
  have hl : lv_has ls 2 [(0, .ref a_p0), (1, .int p1)] := hl
  have hw0 := hts (.fieldLink RX12 153 "DistantVoiceModel" "mileOf" "[I") (by decide +kernel)
  have hinX12 : ∀ w ∈ wsX120, w ∈ wsX12_farOf := fun w h => List.mem_cons_of_mem _ (List.mem_append_right _ h)
  have hw2 := hts (.fieldLink RX12 54 "DistantVoiceModel" "milesTold" "[I") (by decide +kernel)
  have hw3 := hts (.fieldLink RX12 51 "DistantVoiceModel" "bank" "I") (by decide +kernel)
  unfold fX12_farOf at hf
  refine lv_iconst (v := 2) hx hb dX12_farOf_0 (by decide) ?_
  refine lv_aload_n hx hb dX12_farOf_1 rfl (lv_at hl 0 rfl) ?_
  refine va_get (D := (dC, dI)) (ci := 12) (v := .ref ((mmR 46))) (C := RX12) (T := TX12) (N := 70) hx hb hts hinX12 hown hK hP 0 rfl rfl 46 (by decide) hw0 (fun _ h9 => h9) rfl dX12_farOf_2 ?_
  refine lv_iload_n hx hb dX12_farOf_5 rfl (lv_at hl 1 rfl) ?_
  refine xq_iald hx hb hK hP 1 0 rfl rfl hf dX12_farOf_6 (fun v_1 hf => ?_)
  refine lv_imul hx hb dX12_farOf_7 ?_
  refine lv_aload_n hx hb dX12_farOf_8 rfl (lv_at hl 0 rfl) ?_
  refine va_get (D := (dC, dI)) (ci := 12) (v := .ref ((mmR 14))) (C := RX12) (T := TX12) (N := 70) hx hb hts hinX12 hown hK hP 0 rfl rfl 14 (by decide) hw2 (fun _ h9 => h9) rfl dX12_farOf_9 ?_
  refine lv_aload_n hx hb dX12_farOf_12 rfl (lv_at hl 0 rfl) ?_
  refine va_get (D := (dC, dI)) (ci := 12) (v := .int (mmI 13)) (C := RX12) (T := TX12) (N := 70) hx hb hts hinX12 hown hK hP 0 rfl rfl 13 (by decide) hw3 (fun _ h9 => h9) rfl dX12_farOf_13 ?_
  refine xq_iald hx hb hK hP 2 0 rfl rfl hf dX12_farOf_16 (fun v_2 hf => ?_)
  refine lv_icmp_le (tgt := 39) hx hb dX12_farOf_17 (by decide) (fun c_ => ?_) (fun c_ => ?_)
  · have hf := xq_pos hf c_
    refine lv_aload_n hx hb dX12_farOf_39 rfl (lv_at hl 0 rfl) ?_
    refine va_get (D := (dC, dI)) (ci := 12) (v := .ref ((mmR 46))) (C := RX12) (T := TX12) (N := 70) hx hb hts hinX12 hown hK hP 0 rfl rfl 46 (by decide) hw0 (fun _ h9 => h9) rfl dX12_farOf_40 ?_
    refine lv_iload_n hx hb dX12_farOf_43 rfl (lv_at hl 1 rfl) ?_
    refine xq_iald hx hb hK hP 1 0 rfl rfl hf dX12_farOf_44 (fun v_3 hf => ?_)
    have hP9 := hP
    have hD9 := hD
    have hS9 := hS
    cases hf
    exact xq_iret hx hb hr hlocks hK hP9 hD9 hS9 dX12_farOf_45
  · have hf := xq_neg hf c_
    refine lv_aload_n hx hb dX12_farOf_20 rfl (lv_at hl 0 rfl) ?_
    refine va_get (D := (dC, dI)) (ci := 12) (v := .ref ((mmR 14))) (C := RX12) (T := TX12) (N := 70) hx hb hts hinX12 hown hK hP 0 rfl rfl 14 (by decide) hw2 (fun _ h9 => h9) rfl dX12_farOf_21 ?_
    refine lv_aload_n hx hb dX12_farOf_24 rfl (lv_at hl 0 rfl) ?_
    refine va_get (D := (dC, dI)) (ci := 12) (v := .int (mmI 13)) (C := RX12) (T := TX12) (N := 70) hx hb hts hinX12 hown hK hP 0 rfl rfl 13 (by decide) hw3 (fun _ h9 => h9) rfl dX12_farOf_25 ?_
    refine xq_iald hx hb hK hP 2 0 rfl rfl hf dX12_farOf_28 (fun v_4 hf => ?_)
    refine lv_aload_n hx hb dX12_farOf_29 rfl (lv_at hl 0 rfl) ?_
    refine va_get (D := (dC, dI)) (ci := 12) (v := .ref ((mmR 46))) (C := RX12) (T := TX12) (N := 70) hx hb hts hinX12 hown hK hP 0 rfl rfl 46 (by decide) hw0 (fun _ h9 => h9) rfl dX12_farOf_30 ?_
    refine lv_iload_n hx hb dX12_farOf_33 rfl (lv_at hl 1 rfl) ?_
    refine xq_iald hx hb hK hP 1 0 rfl rfl hf dX12_farOf_34 (fun v_5 hf => ?_)
    refine lv_isub hx hb dX12_farOf_35 ?_
    refine lv_goto (tgt := 45) hx hb dX12_farOf_36 (by decide) ?_
    have hP9 := hP
    have hD9 := hD
    have hS9 := hS
    cases hf
    exact xq_iret hx hb hr hlocks hK hP9 hD9 hS9 dX12_farOf_45
set_option maxRecDepth 20000 in
theorem ggX12_strideOf_X12_isTold : GoodIn wsX12_strideOf wsX12_isTold := goodIn_r _ [9, 10, 11, 34, 35, 36, 37, 38, 39, 40, 41, 42, 43, 44, 45, 46, 47, 48, 49, 50, 51, 52, 53, 54, 55, 56, 57, 58, 59, 60, 61, 62, 63, 64, 65, 66, 67, 68, 69, 70, 71, 72, 73, 74, 75, 76, 77, 78, 79, 80, 81, 82, 83, 84, 85, 86, 87, 88, 89, 90, 91, 92, 93, 94, 95, 96, 97, 98, 99, 100, 101, 102, 103] rfl (by decide +kernel)
set_option maxRecDepth 20000 in
theorem gX12_strideOf_X12_isTold : GoodIn wsX12_strideOf (wsV RX12 413 RX12 yX12_isTold wsX12_isTold) := goodIn_app (goodIn_of _ (by decide +kernel)) ggX12_strideOf_X12_isTold
set_option maxRecDepth 20000 in
theorem ggX12_strideOf_X12_reckons : GoodIn wsX12_strideOf wsX12_reckons := goodIn_r _ [15, 11, 10, 16, 17, 18, 19, 1, 20, 21, 8, 22, 23, 24, 25, 26, 27, 28, 29, 30, 34, 35, 36, 37, 38, 39, 40, 41, 42, 43, 44, 45, 46, 47, 48, 49, 50, 51, 52, 53, 54, 55, 56, 57, 58, 59, 60, 61, 62, 63, 64, 65, 66, 67, 68, 69, 70, 71, 72, 73, 74, 75, 76, 77, 78, 79, 80, 81, 82, 83, 84, 85, 86, 87, 88, 89, 90, 91, 92, 93, 94, 95, 96, 97, 98, 99, 100, 101, 102, 103] rfl (by decide +kernel)
set_option maxRecDepth 20000 in
theorem gX12_strideOf_X12_reckons : GoodIn wsX12_strideOf (wsV RX12 416 RX12 yX12_reckons wsX12_reckons) := goodIn_app (goodIn_of _ (by decide +kernel)) ggX12_strideOf_X12_reckons
set_option maxRecDepth 20000 in
theorem ggX12_strideOf_X12_cut : GoodIn wsX12_strideOf wsX12_cut := goodIn_r _ [33] rfl (by decide +kernel)
set_option maxRecDepth 20000 in
theorem gX12_strideOf_X12_cut : GoodIn wsX12_strideOf (va_wsS RX12 420 yX12_cut wsX12_cut) := goodIn_app (goodIn_of _ (by decide +kernel)) ggX12_strideOf_X12_cut
def dsX12_strideOf_0 : List (Nat × Instr × Nat) := [(0, (.aload_n 0, 1)), (1, (.iconst 0, 1)), (2, (.invokevirtual 413, 3)), (5, (.ifCond .ne 5, 3)), (8, (.iconst 1, 1)), (9, (.ireturn, 1)), (10, (.aload_n 0, 1)), (11, (.getfield 189, 3)), (14, (.iconst 1, 1)), (15, (.aload_n 0, 1)), (16, (.getfield 150, 3)), (19, (.iload_n 1, 1)), (20, (.iaload, 1)), (21, (.iastore, 1)), (22, (.aload_n 0, 1)), (23, (.getfield 189, 3)), (26, (.iconst 2, 1)), (27, (.iload_n 2, 1)), (28, (.iastore, 1)), (29, (.aload_n 0, 1)), (30, (.getfield 189, 3)), (33, (.iconst 3, 1)), (34, (.aload_n 0, 1)), (35, (.getfield 153, 3)), (38, (.iload_n 1, 1)), (39, (.iaload, 1)), (40, (.iastore, 1)), (41, (.aload_n 0, 1)), (42, (.getfield 189, 3)), (45, (.iconst 4, 1)), (46, (.aload_n 0, 1)), (47, (.getfield 156, 3)), (50, (.iload_n 1, 1)), (51, (.iaload, 1)), (52, (.iastore, 1)), (53, (.aload_n 0, 1)), (54, (.iconst 0, 1)), (55, (.invokevirtual 416, 3)), (58, (.bipush 99, 2)), (60, (.invokestatic 420, 3)), (63, (.ireturn, 1))]
theorem dsX12_strideOf_0_ok : (dsX12_strideOf_0.all fun q => decide (decode cX12_strideOf q.1 = .ok q.2)) = true := by decide +kernel
theorem dX12_strideOf_0 : decode cX12_strideOf 0 = .ok (.aload_n 0, 1) := of_decide_eq_true (List.all_eq_true.mp dsX12_strideOf_0_ok (0, (.aload_n 0, 1)) (List.mem_of_getElem? (i := 0) rfl))
theorem dX12_strideOf_1 : decode cX12_strideOf 1 = .ok (.iconst 0, 1) := of_decide_eq_true (List.all_eq_true.mp dsX12_strideOf_0_ok (1, (.iconst 0, 1)) (List.mem_of_getElem? (i := 1) rfl))
theorem dX12_strideOf_2 : decode cX12_strideOf 2 = .ok (.invokevirtual 413, 3) := of_decide_eq_true (List.all_eq_true.mp dsX12_strideOf_0_ok (2, (.invokevirtual 413, 3)) (List.mem_of_getElem? (i := 2) rfl))
theorem dX12_strideOf_5 : decode cX12_strideOf 5 = .ok (.ifCond .ne 5, 3) := of_decide_eq_true (List.all_eq_true.mp dsX12_strideOf_0_ok (5, (.ifCond .ne 5, 3)) (List.mem_of_getElem? (i := 3) rfl))
theorem dX12_strideOf_8 : decode cX12_strideOf 8 = .ok (.iconst 1, 1) := of_decide_eq_true (List.all_eq_true.mp dsX12_strideOf_0_ok (8, (.iconst 1, 1)) (List.mem_of_getElem? (i := 4) rfl))
theorem dX12_strideOf_9 : decode cX12_strideOf 9 = .ok (.ireturn, 1) := of_decide_eq_true (List.all_eq_true.mp dsX12_strideOf_0_ok (9, (.ireturn, 1)) (List.mem_of_getElem? (i := 5) rfl))
theorem dX12_strideOf_10 : decode cX12_strideOf 10 = .ok (.aload_n 0, 1) := of_decide_eq_true (List.all_eq_true.mp dsX12_strideOf_0_ok (10, (.aload_n 0, 1)) (List.mem_of_getElem? (i := 6) rfl))
theorem dX12_strideOf_11 : decode cX12_strideOf 11 = .ok (.getfield 189, 3) := of_decide_eq_true (List.all_eq_true.mp dsX12_strideOf_0_ok (11, (.getfield 189, 3)) (List.mem_of_getElem? (i := 7) rfl))
theorem dX12_strideOf_14 : decode cX12_strideOf 14 = .ok (.iconst 1, 1) := of_decide_eq_true (List.all_eq_true.mp dsX12_strideOf_0_ok (14, (.iconst 1, 1)) (List.mem_of_getElem? (i := 8) rfl))
theorem dX12_strideOf_15 : decode cX12_strideOf 15 = .ok (.aload_n 0, 1) := of_decide_eq_true (List.all_eq_true.mp dsX12_strideOf_0_ok (15, (.aload_n 0, 1)) (List.mem_of_getElem? (i := 9) rfl))
theorem dX12_strideOf_16 : decode cX12_strideOf 16 = .ok (.getfield 150, 3) := of_decide_eq_true (List.all_eq_true.mp dsX12_strideOf_0_ok (16, (.getfield 150, 3)) (List.mem_of_getElem? (i := 10) rfl))
theorem dX12_strideOf_19 : decode cX12_strideOf 19 = .ok (.iload_n 1, 1) := of_decide_eq_true (List.all_eq_true.mp dsX12_strideOf_0_ok (19, (.iload_n 1, 1)) (List.mem_of_getElem? (i := 11) rfl))
theorem dX12_strideOf_20 : decode cX12_strideOf 20 = .ok (.iaload, 1) := of_decide_eq_true (List.all_eq_true.mp dsX12_strideOf_0_ok (20, (.iaload, 1)) (List.mem_of_getElem? (i := 12) rfl))
theorem dX12_strideOf_21 : decode cX12_strideOf 21 = .ok (.iastore, 1) := of_decide_eq_true (List.all_eq_true.mp dsX12_strideOf_0_ok (21, (.iastore, 1)) (List.mem_of_getElem? (i := 13) rfl))
theorem dX12_strideOf_22 : decode cX12_strideOf 22 = .ok (.aload_n 0, 1) := of_decide_eq_true (List.all_eq_true.mp dsX12_strideOf_0_ok (22, (.aload_n 0, 1)) (List.mem_of_getElem? (i := 14) rfl))
theorem dX12_strideOf_23 : decode cX12_strideOf 23 = .ok (.getfield 189, 3) := of_decide_eq_true (List.all_eq_true.mp dsX12_strideOf_0_ok (23, (.getfield 189, 3)) (List.mem_of_getElem? (i := 15) rfl))
theorem dX12_strideOf_26 : decode cX12_strideOf 26 = .ok (.iconst 2, 1) := of_decide_eq_true (List.all_eq_true.mp dsX12_strideOf_0_ok (26, (.iconst 2, 1)) (List.mem_of_getElem? (i := 16) rfl))
theorem dX12_strideOf_27 : decode cX12_strideOf 27 = .ok (.iload_n 2, 1) := of_decide_eq_true (List.all_eq_true.mp dsX12_strideOf_0_ok (27, (.iload_n 2, 1)) (List.mem_of_getElem? (i := 17) rfl))
theorem dX12_strideOf_28 : decode cX12_strideOf 28 = .ok (.iastore, 1) := of_decide_eq_true (List.all_eq_true.mp dsX12_strideOf_0_ok (28, (.iastore, 1)) (List.mem_of_getElem? (i := 18) rfl))
theorem dX12_strideOf_29 : decode cX12_strideOf 29 = .ok (.aload_n 0, 1) := of_decide_eq_true (List.all_eq_true.mp dsX12_strideOf_0_ok (29, (.aload_n 0, 1)) (List.mem_of_getElem? (i := 19) rfl))
theorem dX12_strideOf_30 : decode cX12_strideOf 30 = .ok (.getfield 189, 3) := of_decide_eq_true (List.all_eq_true.mp dsX12_strideOf_0_ok (30, (.getfield 189, 3)) (List.mem_of_getElem? (i := 20) rfl))
theorem dX12_strideOf_33 : decode cX12_strideOf 33 = .ok (.iconst 3, 1) := of_decide_eq_true (List.all_eq_true.mp dsX12_strideOf_0_ok (33, (.iconst 3, 1)) (List.mem_of_getElem? (i := 21) rfl))
theorem dX12_strideOf_34 : decode cX12_strideOf 34 = .ok (.aload_n 0, 1) := of_decide_eq_true (List.all_eq_true.mp dsX12_strideOf_0_ok (34, (.aload_n 0, 1)) (List.mem_of_getElem? (i := 22) rfl))
theorem dX12_strideOf_35 : decode cX12_strideOf 35 = .ok (.getfield 153, 3) := of_decide_eq_true (List.all_eq_true.mp dsX12_strideOf_0_ok (35, (.getfield 153, 3)) (List.mem_of_getElem? (i := 23) rfl))
theorem dX12_strideOf_38 : decode cX12_strideOf 38 = .ok (.iload_n 1, 1) := of_decide_eq_true (List.all_eq_true.mp dsX12_strideOf_0_ok (38, (.iload_n 1, 1)) (List.mem_of_getElem? (i := 24) rfl))
theorem dX12_strideOf_39 : decode cX12_strideOf 39 = .ok (.iaload, 1) := of_decide_eq_true (List.all_eq_true.mp dsX12_strideOf_0_ok (39, (.iaload, 1)) (List.mem_of_getElem? (i := 25) rfl))
theorem dX12_strideOf_40 : decode cX12_strideOf 40 = .ok (.iastore, 1) := of_decide_eq_true (List.all_eq_true.mp dsX12_strideOf_0_ok (40, (.iastore, 1)) (List.mem_of_getElem? (i := 26) rfl))
theorem dX12_strideOf_41 : decode cX12_strideOf 41 = .ok (.aload_n 0, 1) := of_decide_eq_true (List.all_eq_true.mp dsX12_strideOf_0_ok (41, (.aload_n 0, 1)) (List.mem_of_getElem? (i := 27) rfl))
theorem dX12_strideOf_42 : decode cX12_strideOf 42 = .ok (.getfield 189, 3) := of_decide_eq_true (List.all_eq_true.mp dsX12_strideOf_0_ok (42, (.getfield 189, 3)) (List.mem_of_getElem? (i := 28) rfl))
theorem dX12_strideOf_45 : decode cX12_strideOf 45 = .ok (.iconst 4, 1) := of_decide_eq_true (List.all_eq_true.mp dsX12_strideOf_0_ok (45, (.iconst 4, 1)) (List.mem_of_getElem? (i := 29) rfl))
theorem dX12_strideOf_46 : decode cX12_strideOf 46 = .ok (.aload_n 0, 1) := of_decide_eq_true (List.all_eq_true.mp dsX12_strideOf_0_ok (46, (.aload_n 0, 1)) (List.mem_of_getElem? (i := 30) rfl))
theorem dX12_strideOf_47 : decode cX12_strideOf 47 = .ok (.getfield 156, 3) := of_decide_eq_true (List.all_eq_true.mp dsX12_strideOf_0_ok (47, (.getfield 156, 3)) (List.mem_of_getElem? (i := 31) rfl))
theorem dX12_strideOf_50 : decode cX12_strideOf 50 = .ok (.iload_n 1, 1) := of_decide_eq_true (List.all_eq_true.mp dsX12_strideOf_0_ok (50, (.iload_n 1, 1)) (List.mem_of_getElem? (i := 32) rfl))
theorem dX12_strideOf_51 : decode cX12_strideOf 51 = .ok (.iaload, 1) := of_decide_eq_true (List.all_eq_true.mp dsX12_strideOf_0_ok (51, (.iaload, 1)) (List.mem_of_getElem? (i := 33) rfl))
theorem dX12_strideOf_52 : decode cX12_strideOf 52 = .ok (.iastore, 1) := of_decide_eq_true (List.all_eq_true.mp dsX12_strideOf_0_ok (52, (.iastore, 1)) (List.mem_of_getElem? (i := 34) rfl))
theorem dX12_strideOf_53 : decode cX12_strideOf 53 = .ok (.aload_n 0, 1) := of_decide_eq_true (List.all_eq_true.mp dsX12_strideOf_0_ok (53, (.aload_n 0, 1)) (List.mem_of_getElem? (i := 35) rfl))
theorem dX12_strideOf_54 : decode cX12_strideOf 54 = .ok (.iconst 0, 1) := of_decide_eq_true (List.all_eq_true.mp dsX12_strideOf_0_ok (54, (.iconst 0, 1)) (List.mem_of_getElem? (i := 36) rfl))
theorem dX12_strideOf_55 : decode cX12_strideOf 55 = .ok (.invokevirtual 416, 3) := of_decide_eq_true (List.all_eq_true.mp dsX12_strideOf_0_ok (55, (.invokevirtual 416, 3)) (List.mem_of_getElem? (i := 37) rfl))
theorem dX12_strideOf_58 : decode cX12_strideOf 58 = .ok (.bipush 99, 2) := of_decide_eq_true (List.all_eq_true.mp dsX12_strideOf_0_ok (58, (.bipush 99, 2)) (List.mem_of_getElem? (i := 38) rfl))
theorem dX12_strideOf_60 : decode cX12_strideOf 60 = .ok (.invokestatic 420, 3) := of_decide_eq_true (List.all_eq_true.mp dsX12_strideOf_0_ok (60, (.invokestatic 420, 3)) (List.mem_of_getElem? (i := 39) rfl))
theorem dX12_strideOf_63 : decode cX12_strideOf 63 = .ok (.ireturn, 1) := of_decide_eq_true (List.all_eq_true.mp dsX12_strideOf_0_ok (63, (.ireturn, 1)) (List.mem_of_getElem? (i := 40) rfl))
def fX12_strideOf (N : Nat) (mmI : Nat → Int32) (mm_sumFromF : Nat → Int32) (mm_nightOfF : Nat → Int32) (mm_askedF : Nat → Int32) (mm_mileOfF : Nat → Int32) (mm_roundsOfF : Nat → Int32) (mm_sumBehindF : Nat → Int32) (mm_stackL : Nat → Int64) (mm_codeSortF : Nat → Int32) (mm_codeValueF : Nat → Int32)  (p1 : Int32) (p2 : Int32) : Option (Int32 × (Nat → Int32) × (Nat → Int64)) :=
  (xq_bd (fX12_isTold N mmI mm_sumFromF 0) fun r_1 => (if r_1 = 0 then some ((1, mm_askedF, mm_stackL)) else (xq_bd (xq_ald 22 mm_nightOfF p1) fun v_3 => (xq_bd (xq_ast 12 mm_askedF 1 v_3) fun g_4 => (xq_bd (xq_ast 12 g_4 2 p2) fun g_5 => (xq_bd (xq_ald 22 mm_mileOfF p1) fun v_6 => (xq_bd (xq_ast 12 g_5 3 v_6) fun g_7 => (xq_bd (xq_ald 22 mm_roundsOfF p1) fun v_8 => (xq_bd (xq_ast 12 g_7 4 v_8) fun g_9 => (xq_bd (fX12_reckons N mmI mm_sumFromF mm_sumBehindF mm_stackL mm_codeSortF g_9 mm_codeValueF 0) fun (r_10_0, r_10_1) => (xq_bd (fX12_cut N r_10_0 99) fun r_12 => some ((r_12, g_9, r_10_1)))))))))))))
set_option maxHeartbeats 4000000 in
set_option maxRecDepth 100000 in
theorem kX12_strideOf (l : Launch) (dC : Nat → ClassId) (dI : Nat → Nat → Nat) (cI cB cJ cZ cM : ClassId) (z : Nat) (ad : Nat → Nat) (N : Nat) (a_p0 : Nat) (mmI : Nat → Int32) (mmJ : Nat → Int64) (mmR : Nat → Nat) (mm_sumFromF : Nat → Int32) (mm_nightOfF : Nat → Int32) (mm_askedF : Nat → Int32) (mm_mileOfF : Nat → Int32) (mm_roundsOfF : Nat → Int32) (mm_sumBehindF : Nat → Int32) (mm_stackL : Nat → Int64) (mm_codeSortF : Nat → Int32) (mm_codeValueF : Nat → Int32) (p1 : Int32) (p2 : Int32) {r0 : Int32} {r1 : Nat → Int32} {r2 : Nat → Int64} (hf : fX12_strideOf N mmI mm_sumFromF mm_nightOfF mm_askedF mm_mileOfF mm_roundsOfF mm_sumBehindF mm_stackL mm_codeSortF mm_codeValueF p1 p2 = some (r0, r1, r2)) : xq_Ct l yX12_strideOf wsX12_strideOf { frames := 3, cells := 0, slots := 0, locals := 73 } (dC, dI) vwCl (xq_tys cI cB cJ cZ cM) z ad [.ref a_p0, .int p1, .int p2] [(a_p0, .inr (12, oX12 mmI mmJ mmR)), ((mmR 24), .inl (cI, 6, .inl mm_sumFromF)), ((mmR 45), .inl (cI, 22, .inl mm_nightOfF)), ((mmR 58), .inl (cI, 12, .inl mm_askedF)), ((mmR 46), .inl (cI, 22, .inl mm_mileOfF)), ((mmR 47), .inl (cI, 22, .inl mm_roundsOfF)), ((mmR 25), .inl (cI, 6, .inl mm_sumBehindF)), ((mmR 57), .inl (cJ, 500, .inr (.inl mm_stackL))), ((mmR 26), .inl (cI, 3200, .inl mm_codeSortF)), ((mmR 27), .inl (cI, 3200, .inl mm_codeValueF))] [(a_p0, .inr (12, oX12 mmI mmJ mmR)), ((mmR 24), .inl (cI, 6, .inl mm_sumFromF)), ((mmR 45), .inl (cI, 22, .inl mm_nightOfF)), ((mmR 58), .inl (cI, 12, .inl r1)), ((mmR 46), .inl (cI, 22, .inl mm_mileOfF)), ((mmR 47), .inl (cI, 22, .inl mm_roundsOfF)), ((mmR 25), .inl (cI, 6, .inl mm_sumBehindF)), ((mmR 57), .inl (cJ, 500, .inr (.inl r2))), ((mmR 26), .inl (cI, 3200, .inl mm_codeSortF)), ((mmR 27), .inl (cI, 3200, .inl mm_codeValueF))] (some (.int r0)) := by
  intro sz
  refine Met.ofW (cc := cX12_strideOf) (maxL := 3) (ret := (some .int)) (by decide) rfl ?_
  intro p e s m args below meth c s₁ B hml hv
  obtain ⟨rfl, hsz, hP, hK, hD0, hE, hz⟩ := hv
  have hx := B.exec
  have hb := B.bytes
  have hr := B.returns
  have hts := atoms_spec (ws := wsX12_strideOf) B.pre
  have hown : s.vm.findClass RX12 = some m.cls := findClass_of_methodNamed B.named
  have hlocks := B.notSynchronized
  subst hsz
  have hD := hD0.self (sz := s.heap.size)
  have hN := xq_Env.of hE hz hD0
  generalize hAe : va_A [(a_p0, .inr (12, oX12 mmI mmJ mmR)), ((mmR 24), .inl (cI, 6, .inl mm_sumFromF)), ((mmR 45), .inl (cI, 22, .inl mm_nightOfF)), ((mmR 58), .inl (cI, 12, .inl mm_askedF)), ((mmR 46), .inl (cI, 22, .inl mm_mileOfF)), ((mmR 47), .inl (cI, 22, .inl mm_roundsOfF)), ((mmR 25), .inl (cI, 6, .inl mm_sumBehindF)), ((mmR 57), .inl (cJ, 500, .inr (.inl mm_stackL))), ((mmR 26), .inl (cI, 3200, .inl mm_codeSortF)), ((mmR 27), .inl (cI, 3200, .inl mm_codeValueF))] s.heap.size = A at hD hN ⊢
  have hA : ∀ q : Nat, s.heap.size ≤ q → A q := fun q h => by rw [← hAe]; exact Or.inr h
  clear hAe hD0
  have hS : va_S A s.heap s.heap [] := va_S.rf
  have hl := lv_entry ([.ref a_p0, .int p1, .int p2]) (n := 3) (Nat.le_of_ble_eq_true rfl)
  rw [lg_entry_eq]
  generalize (lg_sl ([.ref a_p0, .int p1, .int p2]) ++ List.replicate (3 - (lg_sl ([.ref a_p0, .int p1, .int p2])).length) Slot.unset).toArray = ls at hl ⊢
  have hl : lv_has ls 3 [(0, .ref a_p0), (1, .int p1), (2, .int p2)] := hl
  have hw0 := hts (.fieldLink RX12 189 "DistantVoiceModel" "asked" "[I") (by decide +kernel)
  have hinX12 : ∀ w ∈ wsX120, w ∈ wsX12_strideOf := fun w h => List.mem_cons_of_mem _ (List.mem_append_right _ h)
  have hw2 := hts (.fieldLink RX12 150 "DistantVoiceModel" "nightOf" "[I") (by decide +kernel)
  have hw3 := hts (.fieldLink RX12 153 "DistantVoiceModel" "mileOf" "[I") (by decide +kernel)
  have hw4 := hts (.fieldLink RX12 156 "DistantVoiceModel" "roundsOf" "[I") (by decide +kernel)
  unfold fX12_strideOf at hf
  refine lv_aload_n hx hb dX12_strideOf_0 rfl (lv_at hl 0 rfl) ?_
  refine lv_iconst (v := 0) hx hb dX12_strideOf_1 (by decide) ?_
  obtain ⟨r_1, h_2, hf⟩ := xq_bd_some hf
  refine xq_callV (As := [.int 0]) (rest := []) (ci := 12) (q0 := 0) ⟨hx, hb, hml, hown, hts⟩ (kX12_isTold l dC dI cI cB cJ cZ cM z ad N a_p0 mmI mmJ mmR mm_sumFromF 0 h_2) (cwV 1 hts gX12_strideOf_X12_isTold rfl rfl rfl (by decide +kernel) ⟨Nat.le_of_ble_eq_true rfl, Nat.le_of_ble_eq_true rfl⟩) hN hK hP hD hS hA [0, 1] (by decide) rfl rfl rfl rfl rfl rfl hl.1 rfl (Nat.le_of_ble_eq_true rfl) dX12_strideOf_2 ⟨Nat.zero_le _, Nat.zero_le _⟩ (fun H locs hP hD hS => ?_)
  have hP : va_P (dC, dI) vwCl [(a_p0, .inr (12, oX12 mmI mmJ mmR)), ((mmR 24), .inl (cI, 6, .inl mm_sumFromF)), ((mmR 45), .inl (cI, 22, .inl mm_nightOfF)), ((mmR 58), .inl (cI, 12, .inl mm_askedF)), ((mmR 46), .inl (cI, 22, .inl mm_mileOfF)), ((mmR 47), .inl (cI, 22, .inl mm_roundsOfF)), ((mmR 25), .inl (cI, 6, .inl mm_sumBehindF)), ((mmR 57), .inl (cJ, 500, .inr (.inl mm_stackL))), ((mmR 26), .inl (cI, 3200, .inl mm_codeSortF)), ((mmR 27), .inl (cI, 3200, .inl mm_codeValueF))] H := hP
  have hD : va_D A [(a_p0, .inr (12, oX12 mmI mmJ mmR)), ((mmR 24), .inl (cI, 6, .inl mm_sumFromF)), ((mmR 45), .inl (cI, 22, .inl mm_nightOfF)), ((mmR 58), .inl (cI, 12, .inl mm_askedF)), ((mmR 46), .inl (cI, 22, .inl mm_mileOfF)), ((mmR 47), .inl (cI, 22, .inl mm_roundsOfF)), ((mmR 25), .inl (cI, 6, .inl mm_sumBehindF)), ((mmR 57), .inl (cJ, 500, .inr (.inl mm_stackL))), ((mmR 26), .inl (cI, 3200, .inl mm_codeSortF)), ((mmR 27), .inl (cI, 3200, .inl mm_codeValueF))] := hD
  refine W.eq (g2 := F0 m 5 ls [.int r_1]) rfl ?_
  refine lv_if_ne (tgt := 10) hx hb dX12_strideOf_5 (by decide) (fun c_ => ?_) (fun c_ => ?_)
  · have hf := xq_neg hf c_
    refine lv_aload_n hx hb dX12_strideOf_10 rfl (lv_at hl 0 rfl) ?_
    refine va_get (D := (dC, dI)) (ci := 12) (v := .ref ((mmR 58))) (C := RX12) (T := TX12) (N := 70) hx hb hts hinX12 hown hK hP 0 rfl rfl 58 (by decide) hw0 (fun _ h9 => h9) rfl dX12_strideOf_11 ?_
    refine lv_iconst (v := 1) hx hb dX12_strideOf_14 (by decide) ?_
    refine lv_aload_n hx hb dX12_strideOf_15 rfl (lv_at hl 0 rfl) ?_
    refine va_get (D := (dC, dI)) (ci := 12) (v := .ref ((mmR 45))) (C := RX12) (T := TX12) (N := 70) hx hb hts hinX12 hown hK hP 0 rfl rfl 45 (by decide) hw2 (fun _ h9 => h9) rfl dX12_strideOf_16 ?_
    refine lv_iload_n hx hb dX12_strideOf_19 rfl (lv_at hl 1 rfl) ?_
    refine xq_iald hx hb hK hP 2 0 rfl rfl hf dX12_strideOf_20 (fun v_3 hf => ?_)
    refine xq_iast hx hb hK hP hD hS 3 0 rfl rfl hf dX12_strideOf_21 (fun g_4 H locs hf hP hD hS => ?_)
    have hP : va_P (dC, dI) vwCl [(a_p0, .inr (12, oX12 mmI mmJ mmR)), ((mmR 24), .inl (cI, 6, .inl mm_sumFromF)), ((mmR 45), .inl (cI, 22, .inl mm_nightOfF)), ((mmR 58), .inl (cI, 12, .inl g_4)), ((mmR 46), .inl (cI, 22, .inl mm_mileOfF)), ((mmR 47), .inl (cI, 22, .inl mm_roundsOfF)), ((mmR 25), .inl (cI, 6, .inl mm_sumBehindF)), ((mmR 57), .inl (cJ, 500, .inr (.inl mm_stackL))), ((mmR 26), .inl (cI, 3200, .inl mm_codeSortF)), ((mmR 27), .inl (cI, 3200, .inl mm_codeValueF))] H := hP
    have hD : va_D A [(a_p0, .inr (12, oX12 mmI mmJ mmR)), ((mmR 24), .inl (cI, 6, .inl mm_sumFromF)), ((mmR 45), .inl (cI, 22, .inl mm_nightOfF)), ((mmR 58), .inl (cI, 12, .inl g_4)), ((mmR 46), .inl (cI, 22, .inl mm_mileOfF)), ((mmR 47), .inl (cI, 22, .inl mm_roundsOfF)), ((mmR 25), .inl (cI, 6, .inl mm_sumBehindF)), ((mmR 57), .inl (cJ, 500, .inr (.inl mm_stackL))), ((mmR 26), .inl (cI, 3200, .inl mm_codeSortF)), ((mmR 27), .inl (cI, 3200, .inl mm_codeValueF))] := hD
    refine lv_aload_n hx hb dX12_strideOf_22 rfl (lv_at hl 0 rfl) ?_
    refine va_get (D := (dC, dI)) (ci := 12) (v := .ref ((mmR 58))) (C := RX12) (T := TX12) (N := 70) hx hb hts hinX12 hown hK hP 0 rfl rfl 58 (by decide) hw0 (fun _ h9 => h9) rfl dX12_strideOf_23 ?_
    refine lv_iconst (v := 2) hx hb dX12_strideOf_26 (by decide) ?_
    refine lv_iload_n hx hb dX12_strideOf_27 rfl (lv_at hl 2 rfl) ?_
    refine xq_iast hx hb hK hP hD hS 3 0 rfl rfl hf dX12_strideOf_28 (fun g_5 H locs hf hP hD hS => ?_)
    have hP : va_P (dC, dI) vwCl [(a_p0, .inr (12, oX12 mmI mmJ mmR)), ((mmR 24), .inl (cI, 6, .inl mm_sumFromF)), ((mmR 45), .inl (cI, 22, .inl mm_nightOfF)), ((mmR 58), .inl (cI, 12, .inl g_5)), ((mmR 46), .inl (cI, 22, .inl mm_mileOfF)), ((mmR 47), .inl (cI, 22, .inl mm_roundsOfF)), ((mmR 25), .inl (cI, 6, .inl mm_sumBehindF)), ((mmR 57), .inl (cJ, 500, .inr (.inl mm_stackL))), ((mmR 26), .inl (cI, 3200, .inl mm_codeSortF)), ((mmR 27), .inl (cI, 3200, .inl mm_codeValueF))] H := hP
    have hD : va_D A [(a_p0, .inr (12, oX12 mmI mmJ mmR)), ((mmR 24), .inl (cI, 6, .inl mm_sumFromF)), ((mmR 45), .inl (cI, 22, .inl mm_nightOfF)), ((mmR 58), .inl (cI, 12, .inl g_5)), ((mmR 46), .inl (cI, 22, .inl mm_mileOfF)), ((mmR 47), .inl (cI, 22, .inl mm_roundsOfF)), ((mmR 25), .inl (cI, 6, .inl mm_sumBehindF)), ((mmR 57), .inl (cJ, 500, .inr (.inl mm_stackL))), ((mmR 26), .inl (cI, 3200, .inl mm_codeSortF)), ((mmR 27), .inl (cI, 3200, .inl mm_codeValueF))] := hD
    refine lv_aload_n hx hb dX12_strideOf_29 rfl (lv_at hl 0 rfl) ?_
    refine va_get (D := (dC, dI)) (ci := 12) (v := .ref ((mmR 58))) (C := RX12) (T := TX12) (N := 70) hx hb hts hinX12 hown hK hP 0 rfl rfl 58 (by decide) hw0 (fun _ h9 => h9) rfl dX12_strideOf_30 ?_
    refine lv_iconst (v := 3) hx hb dX12_strideOf_33 (by decide) ?_
    refine lv_aload_n hx hb dX12_strideOf_34 rfl (lv_at hl 0 rfl) ?_
    refine va_get (D := (dC, dI)) (ci := 12) (v := .ref ((mmR 46))) (C := RX12) (T := TX12) (N := 70) hx hb hts hinX12 hown hK hP 0 rfl rfl 46 (by decide) hw3 (fun _ h9 => h9) rfl dX12_strideOf_35 ?_
    refine lv_iload_n hx hb dX12_strideOf_38 rfl (lv_at hl 1 rfl) ?_
    refine xq_iald hx hb hK hP 4 0 rfl rfl hf dX12_strideOf_39 (fun v_6 hf => ?_)
    refine xq_iast hx hb hK hP hD hS 3 0 rfl rfl hf dX12_strideOf_40 (fun g_7 H locs hf hP hD hS => ?_)
    have hP : va_P (dC, dI) vwCl [(a_p0, .inr (12, oX12 mmI mmJ mmR)), ((mmR 24), .inl (cI, 6, .inl mm_sumFromF)), ((mmR 45), .inl (cI, 22, .inl mm_nightOfF)), ((mmR 58), .inl (cI, 12, .inl g_7)), ((mmR 46), .inl (cI, 22, .inl mm_mileOfF)), ((mmR 47), .inl (cI, 22, .inl mm_roundsOfF)), ((mmR 25), .inl (cI, 6, .inl mm_sumBehindF)), ((mmR 57), .inl (cJ, 500, .inr (.inl mm_stackL))), ((mmR 26), .inl (cI, 3200, .inl mm_codeSortF)), ((mmR 27), .inl (cI, 3200, .inl mm_codeValueF))] H := hP
    have hD : va_D A [(a_p0, .inr (12, oX12 mmI mmJ mmR)), ((mmR 24), .inl (cI, 6, .inl mm_sumFromF)), ((mmR 45), .inl (cI, 22, .inl mm_nightOfF)), ((mmR 58), .inl (cI, 12, .inl g_7)), ((mmR 46), .inl (cI, 22, .inl mm_mileOfF)), ((mmR 47), .inl (cI, 22, .inl mm_roundsOfF)), ((mmR 25), .inl (cI, 6, .inl mm_sumBehindF)), ((mmR 57), .inl (cJ, 500, .inr (.inl mm_stackL))), ((mmR 26), .inl (cI, 3200, .inl mm_codeSortF)), ((mmR 27), .inl (cI, 3200, .inl mm_codeValueF))] := hD
    refine lv_aload_n hx hb dX12_strideOf_41 rfl (lv_at hl 0 rfl) ?_
    refine va_get (D := (dC, dI)) (ci := 12) (v := .ref ((mmR 58))) (C := RX12) (T := TX12) (N := 70) hx hb hts hinX12 hown hK hP 0 rfl rfl 58 (by decide) hw0 (fun _ h9 => h9) rfl dX12_strideOf_42 ?_
    refine lv_iconst (v := 4) hx hb dX12_strideOf_45 (by decide) ?_
    refine lv_aload_n hx hb dX12_strideOf_46 rfl (lv_at hl 0 rfl) ?_
    refine va_get (D := (dC, dI)) (ci := 12) (v := .ref ((mmR 47))) (C := RX12) (T := TX12) (N := 70) hx hb hts hinX12 hown hK hP 0 rfl rfl 47 (by decide) hw4 (fun _ h9 => h9) rfl dX12_strideOf_47 ?_
    refine lv_iload_n hx hb dX12_strideOf_50 rfl (lv_at hl 1 rfl) ?_
    refine xq_iald hx hb hK hP 5 0 rfl rfl hf dX12_strideOf_51 (fun v_8 hf => ?_)
    refine xq_iast hx hb hK hP hD hS 3 0 rfl rfl hf dX12_strideOf_52 (fun g_9 H locs hf hP hD hS => ?_)
    have hP : va_P (dC, dI) vwCl [(a_p0, .inr (12, oX12 mmI mmJ mmR)), ((mmR 24), .inl (cI, 6, .inl mm_sumFromF)), ((mmR 45), .inl (cI, 22, .inl mm_nightOfF)), ((mmR 58), .inl (cI, 12, .inl g_9)), ((mmR 46), .inl (cI, 22, .inl mm_mileOfF)), ((mmR 47), .inl (cI, 22, .inl mm_roundsOfF)), ((mmR 25), .inl (cI, 6, .inl mm_sumBehindF)), ((mmR 57), .inl (cJ, 500, .inr (.inl mm_stackL))), ((mmR 26), .inl (cI, 3200, .inl mm_codeSortF)), ((mmR 27), .inl (cI, 3200, .inl mm_codeValueF))] H := hP
    have hD : va_D A [(a_p0, .inr (12, oX12 mmI mmJ mmR)), ((mmR 24), .inl (cI, 6, .inl mm_sumFromF)), ((mmR 45), .inl (cI, 22, .inl mm_nightOfF)), ((mmR 58), .inl (cI, 12, .inl g_9)), ((mmR 46), .inl (cI, 22, .inl mm_mileOfF)), ((mmR 47), .inl (cI, 22, .inl mm_roundsOfF)), ((mmR 25), .inl (cI, 6, .inl mm_sumBehindF)), ((mmR 57), .inl (cJ, 500, .inr (.inl mm_stackL))), ((mmR 26), .inl (cI, 3200, .inl mm_codeSortF)), ((mmR 27), .inl (cI, 3200, .inl mm_codeValueF))] := hD
    refine lv_aload_n hx hb dX12_strideOf_53 rfl (lv_at hl 0 rfl) ?_
    refine lv_iconst (v := 0) hx hb dX12_strideOf_54 (by decide) ?_
    obtain ⟨⟨r_10_0, r_10_1⟩, h_11, hf⟩ := xq_bd_some hf
    refine xq_callV (As := [.int 0]) (rest := []) (ci := 12) (q0 := 0) ⟨hx, hb, hml, hown, hts⟩ (kX12_reckons l dC dI cI cB cJ cZ cM z ad N a_p0 mmI mmJ mmR mm_sumFromF mm_sumBehindF mm_stackL mm_codeSortF g_9 mm_codeValueF 0 h_11) (cwV 1 hts gX12_strideOf_X12_reckons rfl rfl rfl (by decide +kernel) ⟨Nat.le_of_ble_eq_true rfl, Nat.le_of_ble_eq_true rfl⟩) hN hK hP hD hS hA [0, 1, 6, 7, 8, 3, 9] (by decide) rfl rfl rfl rfl rfl rfl hl.1 rfl (Nat.le_of_ble_eq_true rfl) dX12_strideOf_55 ⟨Nat.zero_le _, Nat.zero_le _⟩ (fun H locs hP hD hS => ?_)
    have hP : va_P (dC, dI) vwCl [(a_p0, .inr (12, oX12 mmI mmJ mmR)), ((mmR 24), .inl (cI, 6, .inl mm_sumFromF)), ((mmR 45), .inl (cI, 22, .inl mm_nightOfF)), ((mmR 58), .inl (cI, 12, .inl g_9)), ((mmR 46), .inl (cI, 22, .inl mm_mileOfF)), ((mmR 47), .inl (cI, 22, .inl mm_roundsOfF)), ((mmR 25), .inl (cI, 6, .inl mm_sumBehindF)), ((mmR 57), .inl (cJ, 500, .inr (.inl r_10_1))), ((mmR 26), .inl (cI, 3200, .inl mm_codeSortF)), ((mmR 27), .inl (cI, 3200, .inl mm_codeValueF))] H := hP
    have hD : va_D A [(a_p0, .inr (12, oX12 mmI mmJ mmR)), ((mmR 24), .inl (cI, 6, .inl mm_sumFromF)), ((mmR 45), .inl (cI, 22, .inl mm_nightOfF)), ((mmR 58), .inl (cI, 12, .inl g_9)), ((mmR 46), .inl (cI, 22, .inl mm_mileOfF)), ((mmR 47), .inl (cI, 22, .inl mm_roundsOfF)), ((mmR 25), .inl (cI, 6, .inl mm_sumBehindF)), ((mmR 57), .inl (cJ, 500, .inr (.inl r_10_1))), ((mmR 26), .inl (cI, 3200, .inl mm_codeSortF)), ((mmR 27), .inl (cI, 3200, .inl mm_codeValueF))] := hD
    refine W.eq (g2 := F0 m 58 ls [.long r_10_0]) rfl ?_
    refine lv_bipush (v := 99) hx hb dX12_strideOf_58 (by decide) ?_
    obtain ⟨r_12, h_13, hf⟩ := xq_bd_some hf
    refine xq_callS (As := [.long r_10_0, .int 99]) (rest := []) ⟨hx, hb, hml, hown, hts⟩ (kX12_cut l dC dI cI cB cJ cZ cM z ad N r_10_0 99 h_13) (va_cwS 2 hts gX12_strideOf_X12_cut rfl rfl rfl (by decide +kernel) ⟨Nat.le_of_ble_eq_true rfl, Nat.le_of_ble_eq_true rfl⟩) hN hK hP hD hS hA [] (by decide) rfl rfl rfl hl.1 rfl (Nat.le_of_ble_eq_true rfl) dX12_strideOf_60 ⟨Nat.zero_le _, Nat.zero_le _⟩ (fun H locs hP hD hS => ?_)
    have hP : va_P (dC, dI) vwCl [(a_p0, .inr (12, oX12 mmI mmJ mmR)), ((mmR 24), .inl (cI, 6, .inl mm_sumFromF)), ((mmR 45), .inl (cI, 22, .inl mm_nightOfF)), ((mmR 58), .inl (cI, 12, .inl g_9)), ((mmR 46), .inl (cI, 22, .inl mm_mileOfF)), ((mmR 47), .inl (cI, 22, .inl mm_roundsOfF)), ((mmR 25), .inl (cI, 6, .inl mm_sumBehindF)), ((mmR 57), .inl (cJ, 500, .inr (.inl r_10_1))), ((mmR 26), .inl (cI, 3200, .inl mm_codeSortF)), ((mmR 27), .inl (cI, 3200, .inl mm_codeValueF))] H := hP
    have hD : va_D A [(a_p0, .inr (12, oX12 mmI mmJ mmR)), ((mmR 24), .inl (cI, 6, .inl mm_sumFromF)), ((mmR 45), .inl (cI, 22, .inl mm_nightOfF)), ((mmR 58), .inl (cI, 12, .inl g_9)), ((mmR 46), .inl (cI, 22, .inl mm_mileOfF)), ((mmR 47), .inl (cI, 22, .inl mm_roundsOfF)), ((mmR 25), .inl (cI, 6, .inl mm_sumBehindF)), ((mmR 57), .inl (cJ, 500, .inr (.inl r_10_1))), ((mmR 26), .inl (cI, 3200, .inl mm_codeSortF)), ((mmR 27), .inl (cI, 3200, .inl mm_codeValueF))] := hD
    refine W.eq (g2 := F0 m 63 ls [.int r_12]) rfl ?_
    have hP9 := hP
    have hD9 := hD
    have hS9 := hS
    cases hf
    exact xq_iret hx hb hr hlocks hK hP9 hD9 hS9 dX12_strideOf_63
  · have hf := xq_pos hf c_
    refine lv_iconst (v := 1) hx hb dX12_strideOf_8 (by decide) ?_
    have hP9 := hP
    have hD9 := hD
    have hS9 := hS
    cases hf
    exact xq_iret hx hb hr hlocks hK hP9 hD9 hS9 dX12_strideOf_9
set_option maxRecDepth 20000 in
theorem ggX12_talkAt_X12_isTold : GoodIn wsX12_talkAt wsX12_isTold := goodIn_r _ [8, 9, 10, 33, 34, 35, 36, 37, 38, 39, 40, 41, 42, 43, 44, 45, 46, 47, 48, 49, 50, 51, 52, 53, 54, 55, 56, 57, 58, 59, 60, 61, 62, 63, 64, 65, 66, 67, 68, 69, 70, 71, 72, 73, 74, 75, 76, 77, 78, 79, 80, 81, 82, 83, 84, 85, 86, 87, 88, 89, 90, 91, 92, 93, 94, 95, 96, 97, 98, 99, 100, 101, 102] rfl (by decide +kernel)
set_option maxRecDepth 20000 in
theorem gX12_talkAt_X12_isTold : GoodIn wsX12_talkAt (wsV RX12 413 RX12 yX12_isTold wsX12_isTold) := goodIn_app (goodIn_of _ (by decide +kernel)) ggX12_talkAt_X12_isTold
set_option maxRecDepth 20000 in
theorem ggX12_talkAt_X12_reckons : GoodIn wsX12_talkAt wsX12_reckons := goodIn_r _ [14, 10, 9, 15, 16, 17, 18, 2, 19, 20, 7, 21, 22, 23, 24, 25, 26, 27, 28, 29, 33, 34, 35, 36, 37, 38, 39, 40, 41, 42, 43, 44, 45, 46, 47, 48, 49, 50, 51, 52, 53, 54, 55, 56, 57, 58, 59, 60, 61, 62, 63, 64, 65, 66, 67, 68, 69, 70, 71, 72, 73, 74, 75, 76, 77, 78, 79, 80, 81, 82, 83, 84, 85, 86, 87, 88, 89, 90, 91, 92, 93, 94, 95, 96, 97, 98, 99, 100, 101, 102] rfl (by decide +kernel)
set_option maxRecDepth 20000 in
theorem gX12_talkAt_X12_reckons : GoodIn wsX12_talkAt (wsV RX12 416 RX12 yX12_reckons wsX12_reckons) := goodIn_app (goodIn_of _ (by decide +kernel)) ggX12_talkAt_X12_reckons
set_option maxRecDepth 20000 in
theorem ggX12_talkAt_X12_cut : GoodIn wsX12_talkAt wsX12_cut := goodIn_r _ [32] rfl (by decide +kernel)
set_option maxRecDepth 20000 in
theorem gX12_talkAt_X12_cut : GoodIn wsX12_talkAt (va_wsS RX12 420 yX12_cut wsX12_cut) := goodIn_app (goodIn_of _ (by decide +kernel)) ggX12_talkAt_X12_cut
def dsX12_talkAt_0 : List (Nat × Instr × Nat) := [(0, (.aload_n 0, 1)), (1, (.getfield 168, 3)), (4, (.bipush 6, 2)), (6, (.iload_n 1, 1)), (7, (.imul, 1)), (8, (.iload_n 2, 1)), (9, (.iadd, 1)), (10, (.iaload, 1)), (11, (.istore 4, 2)), (13, (.aload_n 0, 1)), (14, (.iconst 2, 1)), (15, (.invokevirtual 413, 3)), (18, (.ifCond .ne 6, 3)), (21, (.iload 4, 2)), (23, (.ireturn, 1)), (24, (.aload_n 0, 1)), (25, (.getfield 189, 3)), (28, (.iconst 1, 1)), (29, (.aload_n 0, 1)), (30, (.getfield 150, 3)), (33, (.iload_n 1, 1)), (34, (.iaload, 1)), (35, (.iastore, 1)), (36, (.aload_n 0, 1)), (37, (.getfield 189, 3)), (40, (.iconst 2, 1)), (41, (.iload_n 3, 1)), (42, (.iastore, 1)), (43, (.aload_n 0, 1)), (44, (.getfield 189, 3)), (47, (.bipush 8, 2)), (49, (.iload 4, 2)), (51, (.iastore, 1)), (52, (.aload_n 0, 1)), (53, (.iconst 2, 1)), (54, (.invokevirtual 416, 3)), (57, (.bipush 20, 2)), (59, (.invokestatic 420, 3)), (62, (.ireturn, 1))]
theorem dsX12_talkAt_0_ok : (dsX12_talkAt_0.all fun q => decide (decode cX12_talkAt q.1 = .ok q.2)) = true := by decide +kernel
theorem dX12_talkAt_0 : decode cX12_talkAt 0 = .ok (.aload_n 0, 1) := of_decide_eq_true (List.all_eq_true.mp dsX12_talkAt_0_ok (0, (.aload_n 0, 1)) (List.mem_of_getElem? (i := 0) rfl))
theorem dX12_talkAt_1 : decode cX12_talkAt 1 = .ok (.getfield 168, 3) := of_decide_eq_true (List.all_eq_true.mp dsX12_talkAt_0_ok (1, (.getfield 168, 3)) (List.mem_of_getElem? (i := 1) rfl))
theorem dX12_talkAt_4 : decode cX12_talkAt 4 = .ok (.bipush 6, 2) := of_decide_eq_true (List.all_eq_true.mp dsX12_talkAt_0_ok (4, (.bipush 6, 2)) (List.mem_of_getElem? (i := 2) rfl))
theorem dX12_talkAt_6 : decode cX12_talkAt 6 = .ok (.iload_n 1, 1) := of_decide_eq_true (List.all_eq_true.mp dsX12_talkAt_0_ok (6, (.iload_n 1, 1)) (List.mem_of_getElem? (i := 3) rfl))
theorem dX12_talkAt_7 : decode cX12_talkAt 7 = .ok (.imul, 1) := of_decide_eq_true (List.all_eq_true.mp dsX12_talkAt_0_ok (7, (.imul, 1)) (List.mem_of_getElem? (i := 4) rfl))
theorem dX12_talkAt_8 : decode cX12_talkAt 8 = .ok (.iload_n 2, 1) := of_decide_eq_true (List.all_eq_true.mp dsX12_talkAt_0_ok (8, (.iload_n 2, 1)) (List.mem_of_getElem? (i := 5) rfl))
theorem dX12_talkAt_9 : decode cX12_talkAt 9 = .ok (.iadd, 1) := of_decide_eq_true (List.all_eq_true.mp dsX12_talkAt_0_ok (9, (.iadd, 1)) (List.mem_of_getElem? (i := 6) rfl))
theorem dX12_talkAt_10 : decode cX12_talkAt 10 = .ok (.iaload, 1) := of_decide_eq_true (List.all_eq_true.mp dsX12_talkAt_0_ok (10, (.iaload, 1)) (List.mem_of_getElem? (i := 7) rfl))
theorem dX12_talkAt_11 : decode cX12_talkAt 11 = .ok (.istore 4, 2) := of_decide_eq_true (List.all_eq_true.mp dsX12_talkAt_0_ok (11, (.istore 4, 2)) (List.mem_of_getElem? (i := 8) rfl))
theorem dX12_talkAt_13 : decode cX12_talkAt 13 = .ok (.aload_n 0, 1) := of_decide_eq_true (List.all_eq_true.mp dsX12_talkAt_0_ok (13, (.aload_n 0, 1)) (List.mem_of_getElem? (i := 9) rfl))
theorem dX12_talkAt_14 : decode cX12_talkAt 14 = .ok (.iconst 2, 1) := of_decide_eq_true (List.all_eq_true.mp dsX12_talkAt_0_ok (14, (.iconst 2, 1)) (List.mem_of_getElem? (i := 10) rfl))
theorem dX12_talkAt_15 : decode cX12_talkAt 15 = .ok (.invokevirtual 413, 3) := of_decide_eq_true (List.all_eq_true.mp dsX12_talkAt_0_ok (15, (.invokevirtual 413, 3)) (List.mem_of_getElem? (i := 11) rfl))
theorem dX12_talkAt_18 : decode cX12_talkAt 18 = .ok (.ifCond .ne 6, 3) := of_decide_eq_true (List.all_eq_true.mp dsX12_talkAt_0_ok (18, (.ifCond .ne 6, 3)) (List.mem_of_getElem? (i := 12) rfl))
theorem dX12_talkAt_21 : decode cX12_talkAt 21 = .ok (.iload 4, 2) := of_decide_eq_true (List.all_eq_true.mp dsX12_talkAt_0_ok (21, (.iload 4, 2)) (List.mem_of_getElem? (i := 13) rfl))
theorem dX12_talkAt_23 : decode cX12_talkAt 23 = .ok (.ireturn, 1) := of_decide_eq_true (List.all_eq_true.mp dsX12_talkAt_0_ok (23, (.ireturn, 1)) (List.mem_of_getElem? (i := 14) rfl))
theorem dX12_talkAt_24 : decode cX12_talkAt 24 = .ok (.aload_n 0, 1) := of_decide_eq_true (List.all_eq_true.mp dsX12_talkAt_0_ok (24, (.aload_n 0, 1)) (List.mem_of_getElem? (i := 15) rfl))
theorem dX12_talkAt_25 : decode cX12_talkAt 25 = .ok (.getfield 189, 3) := of_decide_eq_true (List.all_eq_true.mp dsX12_talkAt_0_ok (25, (.getfield 189, 3)) (List.mem_of_getElem? (i := 16) rfl))
theorem dX12_talkAt_28 : decode cX12_talkAt 28 = .ok (.iconst 1, 1) := of_decide_eq_true (List.all_eq_true.mp dsX12_talkAt_0_ok (28, (.iconst 1, 1)) (List.mem_of_getElem? (i := 17) rfl))
theorem dX12_talkAt_29 : decode cX12_talkAt 29 = .ok (.aload_n 0, 1) := of_decide_eq_true (List.all_eq_true.mp dsX12_talkAt_0_ok (29, (.aload_n 0, 1)) (List.mem_of_getElem? (i := 18) rfl))
theorem dX12_talkAt_30 : decode cX12_talkAt 30 = .ok (.getfield 150, 3) := of_decide_eq_true (List.all_eq_true.mp dsX12_talkAt_0_ok (30, (.getfield 150, 3)) (List.mem_of_getElem? (i := 19) rfl))
theorem dX12_talkAt_33 : decode cX12_talkAt 33 = .ok (.iload_n 1, 1) := of_decide_eq_true (List.all_eq_true.mp dsX12_talkAt_0_ok (33, (.iload_n 1, 1)) (List.mem_of_getElem? (i := 20) rfl))
theorem dX12_talkAt_34 : decode cX12_talkAt 34 = .ok (.iaload, 1) := of_decide_eq_true (List.all_eq_true.mp dsX12_talkAt_0_ok (34, (.iaload, 1)) (List.mem_of_getElem? (i := 21) rfl))
theorem dX12_talkAt_35 : decode cX12_talkAt 35 = .ok (.iastore, 1) := of_decide_eq_true (List.all_eq_true.mp dsX12_talkAt_0_ok (35, (.iastore, 1)) (List.mem_of_getElem? (i := 22) rfl))
theorem dX12_talkAt_36 : decode cX12_talkAt 36 = .ok (.aload_n 0, 1) := of_decide_eq_true (List.all_eq_true.mp dsX12_talkAt_0_ok (36, (.aload_n 0, 1)) (List.mem_of_getElem? (i := 23) rfl))
theorem dX12_talkAt_37 : decode cX12_talkAt 37 = .ok (.getfield 189, 3) := of_decide_eq_true (List.all_eq_true.mp dsX12_talkAt_0_ok (37, (.getfield 189, 3)) (List.mem_of_getElem? (i := 24) rfl))
theorem dX12_talkAt_40 : decode cX12_talkAt 40 = .ok (.iconst 2, 1) := of_decide_eq_true (List.all_eq_true.mp dsX12_talkAt_0_ok (40, (.iconst 2, 1)) (List.mem_of_getElem? (i := 25) rfl))
theorem dX12_talkAt_41 : decode cX12_talkAt 41 = .ok (.iload_n 3, 1) := of_decide_eq_true (List.all_eq_true.mp dsX12_talkAt_0_ok (41, (.iload_n 3, 1)) (List.mem_of_getElem? (i := 26) rfl))
theorem dX12_talkAt_42 : decode cX12_talkAt 42 = .ok (.iastore, 1) := of_decide_eq_true (List.all_eq_true.mp dsX12_talkAt_0_ok (42, (.iastore, 1)) (List.mem_of_getElem? (i := 27) rfl))
theorem dX12_talkAt_43 : decode cX12_talkAt 43 = .ok (.aload_n 0, 1) := of_decide_eq_true (List.all_eq_true.mp dsX12_talkAt_0_ok (43, (.aload_n 0, 1)) (List.mem_of_getElem? (i := 28) rfl))
theorem dX12_talkAt_44 : decode cX12_talkAt 44 = .ok (.getfield 189, 3) := of_decide_eq_true (List.all_eq_true.mp dsX12_talkAt_0_ok (44, (.getfield 189, 3)) (List.mem_of_getElem? (i := 29) rfl))
theorem dX12_talkAt_47 : decode cX12_talkAt 47 = .ok (.bipush 8, 2) := of_decide_eq_true (List.all_eq_true.mp dsX12_talkAt_0_ok (47, (.bipush 8, 2)) (List.mem_of_getElem? (i := 30) rfl))
theorem dX12_talkAt_49 : decode cX12_talkAt 49 = .ok (.iload 4, 2) := of_decide_eq_true (List.all_eq_true.mp dsX12_talkAt_0_ok (49, (.iload 4, 2)) (List.mem_of_getElem? (i := 31) rfl))
theorem dX12_talkAt_51 : decode cX12_talkAt 51 = .ok (.iastore, 1) := of_decide_eq_true (List.all_eq_true.mp dsX12_talkAt_0_ok (51, (.iastore, 1)) (List.mem_of_getElem? (i := 32) rfl))
theorem dX12_talkAt_52 : decode cX12_talkAt 52 = .ok (.aload_n 0, 1) := of_decide_eq_true (List.all_eq_true.mp dsX12_talkAt_0_ok (52, (.aload_n 0, 1)) (List.mem_of_getElem? (i := 33) rfl))
theorem dX12_talkAt_53 : decode cX12_talkAt 53 = .ok (.iconst 2, 1) := of_decide_eq_true (List.all_eq_true.mp dsX12_talkAt_0_ok (53, (.iconst 2, 1)) (List.mem_of_getElem? (i := 34) rfl))
theorem dX12_talkAt_54 : decode cX12_talkAt 54 = .ok (.invokevirtual 416, 3) := of_decide_eq_true (List.all_eq_true.mp dsX12_talkAt_0_ok (54, (.invokevirtual 416, 3)) (List.mem_of_getElem? (i := 35) rfl))
theorem dX12_talkAt_57 : decode cX12_talkAt 57 = .ok (.bipush 20, 2) := of_decide_eq_true (List.all_eq_true.mp dsX12_talkAt_0_ok (57, (.bipush 20, 2)) (List.mem_of_getElem? (i := 36) rfl))
theorem dX12_talkAt_59 : decode cX12_talkAt 59 = .ok (.invokestatic 420, 3) := of_decide_eq_true (List.all_eq_true.mp dsX12_talkAt_0_ok (59, (.invokestatic 420, 3)) (List.mem_of_getElem? (i := 37) rfl))
theorem dX12_talkAt_62 : decode cX12_talkAt 62 = .ok (.ireturn, 1) := of_decide_eq_true (List.all_eq_true.mp dsX12_talkAt_0_ok (62, (.ireturn, 1)) (List.mem_of_getElem? (i := 38) rfl))
def fX12_talkAt (N : Nat) (mmI : Nat → Int32) (mm_talkOfF : Nat → Int32) (mm_sumFromF : Nat → Int32) (mm_nightOfF : Nat → Int32) (mm_askedF : Nat → Int32) (mm_sumBehindF : Nat → Int32) (mm_stackL : Nat → Int64) (mm_codeSortF : Nat → Int32) (mm_codeValueF : Nat → Int32)  (p1 : Int32) (p2 : Int32) (p3 : Int32) : Option (Int32 × (Nat → Int32) × (Nat → Int64)) :=
  (xq_bd (xq_ald 132 mm_talkOfF ((6 * p1) + p2)) fun v_1 => (xq_bd (fX12_isTold N mmI mm_sumFromF 2) fun r_2 => (if r_2 = 0 then some ((v_1, mm_askedF, mm_stackL)) else (xq_bd (xq_ald 22 mm_nightOfF p1) fun v_4 => (xq_bd (xq_ast 12 mm_askedF 1 v_4) fun g_5 => (xq_bd (xq_ast 12 g_5 2 p3) fun g_6 => (xq_bd (xq_ast 12 g_6 8 v_1) fun g_7 => (xq_bd (fX12_reckons N mmI mm_sumFromF mm_sumBehindF mm_stackL mm_codeSortF g_7 mm_codeValueF 2) fun (r_8_0, r_8_1) => (xq_bd (fX12_cut N r_8_0 20) fun r_10 => some ((r_10, g_7, r_8_1)))))))))))
set_option maxHeartbeats 4000000 in
set_option maxRecDepth 100000 in
theorem kX12_talkAt (l : Launch) (dC : Nat → ClassId) (dI : Nat → Nat → Nat) (cI cB cJ cZ cM : ClassId) (z : Nat) (ad : Nat → Nat) (N : Nat) (a_p0 : Nat) (mmI : Nat → Int32) (mmJ : Nat → Int64) (mmR : Nat → Nat) (mm_talkOfF : Nat → Int32) (mm_sumFromF : Nat → Int32) (mm_nightOfF : Nat → Int32) (mm_askedF : Nat → Int32) (mm_sumBehindF : Nat → Int32) (mm_stackL : Nat → Int64) (mm_codeSortF : Nat → Int32) (mm_codeValueF : Nat → Int32) (p1 : Int32) (p2 : Int32) (p3 : Int32) {r0 : Int32} {r1 : Nat → Int32} {r2 : Nat → Int64} (hf : fX12_talkAt N mmI mm_talkOfF mm_sumFromF mm_nightOfF mm_askedF mm_sumBehindF mm_stackL mm_codeSortF mm_codeValueF p1 p2 p3 = some (r0, r1, r2)) : xq_Ct l yX12_talkAt wsX12_talkAt { frames := 3, cells := 0, slots := 0, locals := 73 } (dC, dI) vwCl (xq_tys cI cB cJ cZ cM) z ad [.ref a_p0, .int p1, .int p2, .int p3] [(a_p0, .inr (12, oX12 mmI mmJ mmR)), ((mmR 51), .inl (cI, 132, .inl mm_talkOfF)), ((mmR 24), .inl (cI, 6, .inl mm_sumFromF)), ((mmR 45), .inl (cI, 22, .inl mm_nightOfF)), ((mmR 58), .inl (cI, 12, .inl mm_askedF)), ((mmR 25), .inl (cI, 6, .inl mm_sumBehindF)), ((mmR 57), .inl (cJ, 500, .inr (.inl mm_stackL))), ((mmR 26), .inl (cI, 3200, .inl mm_codeSortF)), ((mmR 27), .inl (cI, 3200, .inl mm_codeValueF))] [(a_p0, .inr (12, oX12 mmI mmJ mmR)), ((mmR 51), .inl (cI, 132, .inl mm_talkOfF)), ((mmR 24), .inl (cI, 6, .inl mm_sumFromF)), ((mmR 45), .inl (cI, 22, .inl mm_nightOfF)), ((mmR 58), .inl (cI, 12, .inl r1)), ((mmR 25), .inl (cI, 6, .inl mm_sumBehindF)), ((mmR 57), .inl (cJ, 500, .inr (.inl r2))), ((mmR 26), .inl (cI, 3200, .inl mm_codeSortF)), ((mmR 27), .inl (cI, 3200, .inl mm_codeValueF))] (some (.int r0)) := by
  intro sz
  refine Met.ofW (cc := cX12_talkAt) (maxL := 5) (ret := (some .int)) (by decide) rfl ?_
  intro p e s m args below meth c s₁ B hml hv
  obtain ⟨rfl, hsz, hP, hK, hD0, hE, hz⟩ := hv
  have hx := B.exec
  have hb := B.bytes
  have hr := B.returns
  have hts := atoms_spec (ws := wsX12_talkAt) B.pre
  have hown : s.vm.findClass RX12 = some m.cls := findClass_of_methodNamed B.named
  have hlocks := B.notSynchronized
  subst hsz
  have hD := hD0.self (sz := s.heap.size)
  have hN := xq_Env.of hE hz hD0
  generalize hAe : va_A [(a_p0, .inr (12, oX12 mmI mmJ mmR)), ((mmR 51), .inl (cI, 132, .inl mm_talkOfF)), ((mmR 24), .inl (cI, 6, .inl mm_sumFromF)), ((mmR 45), .inl (cI, 22, .inl mm_nightOfF)), ((mmR 58), .inl (cI, 12, .inl mm_askedF)), ((mmR 25), .inl (cI, 6, .inl mm_sumBehindF)), ((mmR 57), .inl (cJ, 500, .inr (.inl mm_stackL))), ((mmR 26), .inl (cI, 3200, .inl mm_codeSortF)), ((mmR 27), .inl (cI, 3200, .inl mm_codeValueF))] s.heap.size = A at hD hN ⊢
  have hA : ∀ q : Nat, s.heap.size ≤ q → A q := fun q h => by rw [← hAe]; exact Or.inr h
  clear hAe hD0
  have hS : va_S A s.heap s.heap [] := va_S.rf
  have hl := lv_entry ([.ref a_p0, .int p1, .int p2, .int p3]) (n := 5) (Nat.le_of_ble_eq_true rfl)
  rw [lg_entry_eq]
  generalize (lg_sl ([.ref a_p0, .int p1, .int p2, .int p3]) ++ List.replicate (5 - (lg_sl ([.ref a_p0, .int p1, .int p2, .int p3])).length) Slot.unset).toArray = ls at hl ⊢
  have hl : lv_has ls 5 [(0, .ref a_p0), (1, .int p1), (2, .int p2), (3, .int p3)] := hl
  have hw0 := hts (.fieldLink RX12 168 "DistantVoiceModel" "talkOf" "[I") (by decide +kernel)
  have hinX12 : ∀ w ∈ wsX120, w ∈ wsX12_talkAt := fun w h => List.mem_cons_of_mem _ (List.mem_append_right _ h)
  have hw2 := hts (.fieldLink RX12 189 "DistantVoiceModel" "asked" "[I") (by decide +kernel)
  have hw3 := hts (.fieldLink RX12 150 "DistantVoiceModel" "nightOf" "[I") (by decide +kernel)
  unfold fX12_talkAt at hf
  refine lv_aload_n hx hb dX12_talkAt_0 rfl (lv_at hl 0 rfl) ?_
  refine va_get (D := (dC, dI)) (ci := 12) (v := .ref ((mmR 51))) (C := RX12) (T := TX12) (N := 70) hx hb hts hinX12 hown hK hP 0 rfl rfl 51 (by decide) hw0 (fun _ h9 => h9) rfl dX12_talkAt_1 ?_
  refine lv_bipush (v := 6) hx hb dX12_talkAt_4 (by decide) ?_
  refine lv_iload_n hx hb dX12_talkAt_6 rfl (lv_at hl 1 rfl) ?_
  refine lv_imul hx hb dX12_talkAt_7 ?_
  refine lv_iload_n hx hb dX12_talkAt_8 rfl (lv_at hl 2 rfl) ?_
  refine lv_iadd hx hb dX12_talkAt_9 ?_
  refine xq_iald hx hb hK hP 1 0 rfl rfl hf dX12_talkAt_10 (fun v_1 hf => ?_)
  refine lv_istore (lv' := [(4, .int v_1), (0, .ref a_p0), (1, .int p1), (2, .int p2), (3, .int p3)]) hx hb dX12_talkAt_11 hl (by decide) rfl (fun ls hl => ?_)
  refine lv_aload_n hx hb dX12_talkAt_13 rfl (lv_at hl 1 rfl) ?_
  refine lv_iconst (v := 2) hx hb dX12_talkAt_14 (by decide) ?_
  obtain ⟨r_2, h_3, hf⟩ := xq_bd_some hf
  refine xq_callV (As := [.int 2]) (rest := []) (ci := 12) (q0 := 0) ⟨hx, hb, hml, hown, hts⟩ (kX12_isTold l dC dI cI cB cJ cZ cM z ad N a_p0 mmI mmJ mmR mm_sumFromF 2 h_3) (cwV 1 hts gX12_talkAt_X12_isTold rfl rfl rfl (by decide +kernel) ⟨Nat.le_of_ble_eq_true rfl, Nat.le_of_ble_eq_true rfl⟩) hN hK hP hD hS hA [0, 2] (by decide) rfl rfl rfl rfl rfl rfl hl.1 rfl (Nat.le_of_ble_eq_true rfl) dX12_talkAt_15 ⟨Nat.zero_le _, Nat.zero_le _⟩ (fun H locs hP hD hS => ?_)
  have hP : va_P (dC, dI) vwCl [(a_p0, .inr (12, oX12 mmI mmJ mmR)), ((mmR 51), .inl (cI, 132, .inl mm_talkOfF)), ((mmR 24), .inl (cI, 6, .inl mm_sumFromF)), ((mmR 45), .inl (cI, 22, .inl mm_nightOfF)), ((mmR 58), .inl (cI, 12, .inl mm_askedF)), ((mmR 25), .inl (cI, 6, .inl mm_sumBehindF)), ((mmR 57), .inl (cJ, 500, .inr (.inl mm_stackL))), ((mmR 26), .inl (cI, 3200, .inl mm_codeSortF)), ((mmR 27), .inl (cI, 3200, .inl mm_codeValueF))] H := hP
  have hD : va_D A [(a_p0, .inr (12, oX12 mmI mmJ mmR)), ((mmR 51), .inl (cI, 132, .inl mm_talkOfF)), ((mmR 24), .inl (cI, 6, .inl mm_sumFromF)), ((mmR 45), .inl (cI, 22, .inl mm_nightOfF)), ((mmR 58), .inl (cI, 12, .inl mm_askedF)), ((mmR 25), .inl (cI, 6, .inl mm_sumBehindF)), ((mmR 57), .inl (cJ, 500, .inr (.inl mm_stackL))), ((mmR 26), .inl (cI, 3200, .inl mm_codeSortF)), ((mmR 27), .inl (cI, 3200, .inl mm_codeValueF))] := hD
  refine W.eq (g2 := F0 m 18 ls [.int r_2]) rfl ?_
  refine lv_if_ne (tgt := 24) hx hb dX12_talkAt_18 (by decide) (fun c_ => ?_) (fun c_ => ?_)
  · have hf := xq_neg hf c_
    refine lv_aload_n hx hb dX12_talkAt_24 rfl (lv_at hl 1 rfl) ?_
    refine va_get (D := (dC, dI)) (ci := 12) (v := .ref ((mmR 58))) (C := RX12) (T := TX12) (N := 70) hx hb hts hinX12 hown hK hP 0 rfl rfl 58 (by decide) hw2 (fun _ h9 => h9) rfl dX12_talkAt_25 ?_
    refine lv_iconst (v := 1) hx hb dX12_talkAt_28 (by decide) ?_
    refine lv_aload_n hx hb dX12_talkAt_29 rfl (lv_at hl 1 rfl) ?_
    refine va_get (D := (dC, dI)) (ci := 12) (v := .ref ((mmR 45))) (C := RX12) (T := TX12) (N := 70) hx hb hts hinX12 hown hK hP 0 rfl rfl 45 (by decide) hw3 (fun _ h9 => h9) rfl dX12_talkAt_30 ?_
    refine lv_iload_n hx hb dX12_talkAt_33 rfl (lv_at hl 2 rfl) ?_
    refine xq_iald hx hb hK hP 3 0 rfl rfl hf dX12_talkAt_34 (fun v_4 hf => ?_)
    refine xq_iast hx hb hK hP hD hS 4 0 rfl rfl hf dX12_talkAt_35 (fun g_5 H locs hf hP hD hS => ?_)
    have hP : va_P (dC, dI) vwCl [(a_p0, .inr (12, oX12 mmI mmJ mmR)), ((mmR 51), .inl (cI, 132, .inl mm_talkOfF)), ((mmR 24), .inl (cI, 6, .inl mm_sumFromF)), ((mmR 45), .inl (cI, 22, .inl mm_nightOfF)), ((mmR 58), .inl (cI, 12, .inl g_5)), ((mmR 25), .inl (cI, 6, .inl mm_sumBehindF)), ((mmR 57), .inl (cJ, 500, .inr (.inl mm_stackL))), ((mmR 26), .inl (cI, 3200, .inl mm_codeSortF)), ((mmR 27), .inl (cI, 3200, .inl mm_codeValueF))] H := hP
    have hD : va_D A [(a_p0, .inr (12, oX12 mmI mmJ mmR)), ((mmR 51), .inl (cI, 132, .inl mm_talkOfF)), ((mmR 24), .inl (cI, 6, .inl mm_sumFromF)), ((mmR 45), .inl (cI, 22, .inl mm_nightOfF)), ((mmR 58), .inl (cI, 12, .inl g_5)), ((mmR 25), .inl (cI, 6, .inl mm_sumBehindF)), ((mmR 57), .inl (cJ, 500, .inr (.inl mm_stackL))), ((mmR 26), .inl (cI, 3200, .inl mm_codeSortF)), ((mmR 27), .inl (cI, 3200, .inl mm_codeValueF))] := hD
    refine lv_aload_n hx hb dX12_talkAt_36 rfl (lv_at hl 1 rfl) ?_
    refine va_get (D := (dC, dI)) (ci := 12) (v := .ref ((mmR 58))) (C := RX12) (T := TX12) (N := 70) hx hb hts hinX12 hown hK hP 0 rfl rfl 58 (by decide) hw2 (fun _ h9 => h9) rfl dX12_talkAt_37 ?_
    refine lv_iconst (v := 2) hx hb dX12_talkAt_40 (by decide) ?_
    refine lv_iload_n hx hb dX12_talkAt_41 rfl (lv_at hl 4 rfl) ?_
    refine xq_iast hx hb hK hP hD hS 4 0 rfl rfl hf dX12_talkAt_42 (fun g_6 H locs hf hP hD hS => ?_)
    have hP : va_P (dC, dI) vwCl [(a_p0, .inr (12, oX12 mmI mmJ mmR)), ((mmR 51), .inl (cI, 132, .inl mm_talkOfF)), ((mmR 24), .inl (cI, 6, .inl mm_sumFromF)), ((mmR 45), .inl (cI, 22, .inl mm_nightOfF)), ((mmR 58), .inl (cI, 12, .inl g_6)), ((mmR 25), .inl (cI, 6, .inl mm_sumBehindF)), ((mmR 57), .inl (cJ, 500, .inr (.inl mm_stackL))), ((mmR 26), .inl (cI, 3200, .inl mm_codeSortF)), ((mmR 27), .inl (cI, 3200, .inl mm_codeValueF))] H := hP
    have hD : va_D A [(a_p0, .inr (12, oX12 mmI mmJ mmR)), ((mmR 51), .inl (cI, 132, .inl mm_talkOfF)), ((mmR 24), .inl (cI, 6, .inl mm_sumFromF)), ((mmR 45), .inl (cI, 22, .inl mm_nightOfF)), ((mmR 58), .inl (cI, 12, .inl g_6)), ((mmR 25), .inl (cI, 6, .inl mm_sumBehindF)), ((mmR 57), .inl (cJ, 500, .inr (.inl mm_stackL))), ((mmR 26), .inl (cI, 3200, .inl mm_codeSortF)), ((mmR 27), .inl (cI, 3200, .inl mm_codeValueF))] := hD
    refine lv_aload_n hx hb dX12_talkAt_43 rfl (lv_at hl 1 rfl) ?_
    refine va_get (D := (dC, dI)) (ci := 12) (v := .ref ((mmR 58))) (C := RX12) (T := TX12) (N := 70) hx hb hts hinX12 hown hK hP 0 rfl rfl 58 (by decide) hw2 (fun _ h9 => h9) rfl dX12_talkAt_44 ?_
    refine lv_bipush (v := 8) hx hb dX12_talkAt_47 (by decide) ?_
    refine lv_iload hx hb dX12_talkAt_49 (lv_at hl 0 rfl) ?_
    refine xq_iast hx hb hK hP hD hS 4 0 rfl rfl hf dX12_talkAt_51 (fun g_7 H locs hf hP hD hS => ?_)
    have hP : va_P (dC, dI) vwCl [(a_p0, .inr (12, oX12 mmI mmJ mmR)), ((mmR 51), .inl (cI, 132, .inl mm_talkOfF)), ((mmR 24), .inl (cI, 6, .inl mm_sumFromF)), ((mmR 45), .inl (cI, 22, .inl mm_nightOfF)), ((mmR 58), .inl (cI, 12, .inl g_7)), ((mmR 25), .inl (cI, 6, .inl mm_sumBehindF)), ((mmR 57), .inl (cJ, 500, .inr (.inl mm_stackL))), ((mmR 26), .inl (cI, 3200, .inl mm_codeSortF)), ((mmR 27), .inl (cI, 3200, .inl mm_codeValueF))] H := hP
    have hD : va_D A [(a_p0, .inr (12, oX12 mmI mmJ mmR)), ((mmR 51), .inl (cI, 132, .inl mm_talkOfF)), ((mmR 24), .inl (cI, 6, .inl mm_sumFromF)), ((mmR 45), .inl (cI, 22, .inl mm_nightOfF)), ((mmR 58), .inl (cI, 12, .inl g_7)), ((mmR 25), .inl (cI, 6, .inl mm_sumBehindF)), ((mmR 57), .inl (cJ, 500, .inr (.inl mm_stackL))), ((mmR 26), .inl (cI, 3200, .inl mm_codeSortF)), ((mmR 27), .inl (cI, 3200, .inl mm_codeValueF))] := hD
    refine lv_aload_n hx hb dX12_talkAt_52 rfl (lv_at hl 1 rfl) ?_
    refine lv_iconst (v := 2) hx hb dX12_talkAt_53 (by decide) ?_
    obtain ⟨⟨r_8_0, r_8_1⟩, h_9, hf⟩ := xq_bd_some hf
    refine xq_callV (As := [.int 2]) (rest := []) (ci := 12) (q0 := 0) ⟨hx, hb, hml, hown, hts⟩ (kX12_reckons l dC dI cI cB cJ cZ cM z ad N a_p0 mmI mmJ mmR mm_sumFromF mm_sumBehindF mm_stackL mm_codeSortF g_7 mm_codeValueF 2 h_9) (cwV 1 hts gX12_talkAt_X12_reckons rfl rfl rfl (by decide +kernel) ⟨Nat.le_of_ble_eq_true rfl, Nat.le_of_ble_eq_true rfl⟩) hN hK hP hD hS hA [0, 2, 5, 6, 7, 4, 8] (by decide) rfl rfl rfl rfl rfl rfl hl.1 rfl (Nat.le_of_ble_eq_true rfl) dX12_talkAt_54 ⟨Nat.zero_le _, Nat.zero_le _⟩ (fun H locs hP hD hS => ?_)
    have hP : va_P (dC, dI) vwCl [(a_p0, .inr (12, oX12 mmI mmJ mmR)), ((mmR 51), .inl (cI, 132, .inl mm_talkOfF)), ((mmR 24), .inl (cI, 6, .inl mm_sumFromF)), ((mmR 45), .inl (cI, 22, .inl mm_nightOfF)), ((mmR 58), .inl (cI, 12, .inl g_7)), ((mmR 25), .inl (cI, 6, .inl mm_sumBehindF)), ((mmR 57), .inl (cJ, 500, .inr (.inl r_8_1))), ((mmR 26), .inl (cI, 3200, .inl mm_codeSortF)), ((mmR 27), .inl (cI, 3200, .inl mm_codeValueF))] H := hP
    have hD : va_D A [(a_p0, .inr (12, oX12 mmI mmJ mmR)), ((mmR 51), .inl (cI, 132, .inl mm_talkOfF)), ((mmR 24), .inl (cI, 6, .inl mm_sumFromF)), ((mmR 45), .inl (cI, 22, .inl mm_nightOfF)), ((mmR 58), .inl (cI, 12, .inl g_7)), ((mmR 25), .inl (cI, 6, .inl mm_sumBehindF)), ((mmR 57), .inl (cJ, 500, .inr (.inl r_8_1))), ((mmR 26), .inl (cI, 3200, .inl mm_codeSortF)), ((mmR 27), .inl (cI, 3200, .inl mm_codeValueF))] := hD
    refine W.eq (g2 := F0 m 57 ls [.long r_8_0]) rfl ?_
    refine lv_bipush (v := 20) hx hb dX12_talkAt_57 (by decide) ?_
    obtain ⟨r_10, h_11, hf⟩ := xq_bd_some hf
    refine xq_callS (As := [.long r_8_0, .int 20]) (rest := []) ⟨hx, hb, hml, hown, hts⟩ (kX12_cut l dC dI cI cB cJ cZ cM z ad N r_8_0 20 h_11) (va_cwS 2 hts gX12_talkAt_X12_cut rfl rfl rfl (by decide +kernel) ⟨Nat.le_of_ble_eq_true rfl, Nat.le_of_ble_eq_true rfl⟩) hN hK hP hD hS hA [] (by decide) rfl rfl rfl hl.1 rfl (Nat.le_of_ble_eq_true rfl) dX12_talkAt_59 ⟨Nat.zero_le _, Nat.zero_le _⟩ (fun H locs hP hD hS => ?_)
    have hP : va_P (dC, dI) vwCl [(a_p0, .inr (12, oX12 mmI mmJ mmR)), ((mmR 51), .inl (cI, 132, .inl mm_talkOfF)), ((mmR 24), .inl (cI, 6, .inl mm_sumFromF)), ((mmR 45), .inl (cI, 22, .inl mm_nightOfF)), ((mmR 58), .inl (cI, 12, .inl g_7)), ((mmR 25), .inl (cI, 6, .inl mm_sumBehindF)), ((mmR 57), .inl (cJ, 500, .inr (.inl r_8_1))), ((mmR 26), .inl (cI, 3200, .inl mm_codeSortF)), ((mmR 27), .inl (cI, 3200, .inl mm_codeValueF))] H := hP
    have hD : va_D A [(a_p0, .inr (12, oX12 mmI mmJ mmR)), ((mmR 51), .inl (cI, 132, .inl mm_talkOfF)), ((mmR 24), .inl (cI, 6, .inl mm_sumFromF)), ((mmR 45), .inl (cI, 22, .inl mm_nightOfF)), ((mmR 58), .inl (cI, 12, .inl g_7)), ((mmR 25), .inl (cI, 6, .inl mm_sumBehindF)), ((mmR 57), .inl (cJ, 500, .inr (.inl r_8_1))), ((mmR 26), .inl (cI, 3200, .inl mm_codeSortF)), ((mmR 27), .inl (cI, 3200, .inl mm_codeValueF))] := hD
    refine W.eq (g2 := F0 m 62 ls [.int r_10]) rfl ?_
    have hP9 := hP
    have hD9 := hD
    have hS9 := hS
    cases hf
    exact xq_iret hx hb hr hlocks hK hP9 hD9 hS9 dX12_talkAt_62
  · have hf := xq_pos hf c_
    refine lv_iload hx hb dX12_talkAt_21 (lv_at hl 0 rfl) ?_
    have hP9 := hP
    have hD9 := hD
    have hS9 := hS
    cases hf
    exact xq_iret hx hb hr hlocks hK hP9 hD9 hS9 dX12_talkAt_23
set_option maxRecDepth 20000 in
theorem ggX12_isHeardIn_X12_isTold : GoodIn wsX12_isHeardIn wsX12_isTold := goodIn_r _ [9, 10, 4, 36, 37, 38, 39, 40, 41, 42, 43, 44, 45, 46, 47, 48, 49, 50, 51, 52, 53, 54, 55, 56, 57, 58, 59, 60, 61, 62, 63, 64, 65, 66, 67, 68, 69, 70, 71, 72, 73, 74, 75, 76, 77, 78, 79, 80, 81, 82, 83, 84, 85, 86, 87, 88, 89, 90, 91, 92, 93, 94, 95, 96, 97, 98, 99, 100, 101, 102, 103, 104, 105] rfl (by decide +kernel)
set_option maxRecDepth 20000 in
theorem gX12_isHeardIn_X12_isTold : GoodIn wsX12_isHeardIn (wsV RX12 413 RX12 yX12_isTold wsX12_isTold) := goodIn_app (goodIn_of _ (by decide +kernel)) ggX12_isHeardIn_X12_isTold
set_option maxRecDepth 20000 in
theorem ggX12_isHeardIn_X12_farOf : GoodIn wsX12_isHeardIn wsX12_farOf := goodIn_r _ [14, 15, 16, 4, 36, 37, 38, 39, 40, 41, 42, 43, 44, 45, 46, 47, 48, 49, 50, 51, 52, 53, 54, 55, 56, 57, 58, 59, 60, 61, 62, 63, 64, 65, 66, 67, 68, 69, 70, 71, 72, 73, 74, 75, 76, 77, 78, 79, 80, 81, 82, 83, 84, 85, 86, 87, 88, 89, 90, 91, 92, 93, 94, 95, 96, 97, 98, 99, 100, 101, 102, 103, 104, 105] rfl (by decide +kernel)
set_option maxRecDepth 20000 in
theorem gX12_isHeardIn_X12_farOf : GoodIn wsX12_isHeardIn (wsV RX12 424 RX12 yX12_farOf wsX12_farOf) := goodIn_app (goodIn_of _ (by decide +kernel)) ggX12_isHeardIn_X12_farOf
set_option maxRecDepth 20000 in
theorem ggX12_isHeardIn_X12_reckons : GoodIn wsX12_isHeardIn wsX12_reckons := goodIn_r _ [20, 4, 10, 21, 22, 23, 24, 1, 25, 26, 8, 27, 28, 29, 30, 31, 32, 33, 34, 35, 36, 37, 38, 39, 40, 41, 42, 43, 44, 45, 46, 47, 48, 49, 50, 51, 52, 53, 54, 55, 56, 57, 58, 59, 60, 61, 62, 63, 64, 65, 66, 67, 68, 69, 70, 71, 72, 73, 74, 75, 76, 77, 78, 79, 80, 81, 82, 83, 84, 85, 86, 87, 88, 89, 90, 91, 92, 93, 94, 95, 96, 97, 98, 99, 100, 101, 102, 103, 104, 105] rfl (by decide +kernel)
set_option maxRecDepth 20000 in
theorem gX12_isHeardIn_X12_reckons : GoodIn wsX12_isHeardIn (wsV RX12 416 RX12 yX12_reckons wsX12_reckons) := goodIn_app (goodIn_of _ (by decide +kernel)) ggX12_isHeardIn_X12_reckons
def dsX12_isHeardIn_0 : List (Nat × Instr × Nat) := [(0, (.aload_n 0, 1)), (1, (.iconst 1, 1)), (2, (.invokevirtual 413, 3)), (5, (.ifCond .ne 19, 3)), (8, (.aload_n 0, 1)), (9, (.iload_n 1, 1)), (10, (.invokevirtual 424, 3)), (13, (.bipush 9, 2)), (15, (.if_icmp .gt 7, 3)), (18, (.iconst 1, 1)), (19, (.goto 4, 3)), (22, (.iconst 0, 1)), (23, (.ireturn, 1)), (24, (.aload_n 0, 1)), (25, (.getfield 189, 3)), (28, (.iconst 1, 1)), (29, (.aload_n 0, 1)), (30, (.getfield 150, 3)), (33, (.iload_n 1, 1)), (34, (.iaload, 1)), (35, (.iastore, 1)), (36, (.aload_n 0, 1)), (37, (.getfield 189, 3)), (40, (.iconst 2, 1)), (41, (.iload 4, 2)), (43, (.iastore, 1)), (44, (.aload_n 0, 1)), (45, (.getfield 189, 3)), (48, (.iconst 5, 1)), (49, (.aload_n 0, 1)), (50, (.getfield 72, 3)), (53, (.bipush 7, 2)), (55, (.aload_n 0, 1)), (56, (.getfield 51, 3)), (59, (.imul, 1)), (60, (.iload_n 2, 1)), (61, (.iadd, 1)), (62, (.iaload, 1)), (63, (.iastore, 1)), (64, (.aload_n 0, 1)), (65, (.getfield 189, 3)), (68, (.bipush 6, 2)), (70, (.iload_n 3, 1)), (71, (.iastore, 1)), (72, (.aload_n 0, 1)), (73, (.getfield 189, 3)), (76, (.bipush 7, 2)), (78, (.aload_n 0, 1)), (79, (.iload_n 1, 1)), (80, (.invokevirtual 424, 3)), (83, (.iastore, 1)), (84, (.aload_n 0, 1)), (85, (.iconst 1, 1)), (86, (.invokevirtual 416, 3)), (89, (.lconst 1, 1)), (90, (.lcmp, 1)), (91, (.ifCond .ne 7, 3)), (94, (.iconst 1, 1)), (95, (.goto 4, 3)), (98, (.iconst 0, 1))]
theorem dsX12_isHeardIn_0_ok : (dsX12_isHeardIn_0.all fun q => decide (decode cX12_isHeardIn q.1 = .ok q.2)) = true := by decide +kernel
theorem dX12_isHeardIn_0 : decode cX12_isHeardIn 0 = .ok (.aload_n 0, 1) := of_decide_eq_true (List.all_eq_true.mp dsX12_isHeardIn_0_ok (0, (.aload_n 0, 1)) (List.mem_of_getElem? (i := 0) rfl))
theorem dX12_isHeardIn_1 : decode cX12_isHeardIn 1 = .ok (.iconst 1, 1) := of_decide_eq_true (List.all_eq_true.mp dsX12_isHeardIn_0_ok (1, (.iconst 1, 1)) (List.mem_of_getElem? (i := 1) rfl))
theorem dX12_isHeardIn_2 : decode cX12_isHeardIn 2 = .ok (.invokevirtual 413, 3) := of_decide_eq_true (List.all_eq_true.mp dsX12_isHeardIn_0_ok (2, (.invokevirtual 413, 3)) (List.mem_of_getElem? (i := 2) rfl))
theorem dX12_isHeardIn_5 : decode cX12_isHeardIn 5 = .ok (.ifCond .ne 19, 3) := of_decide_eq_true (List.all_eq_true.mp dsX12_isHeardIn_0_ok (5, (.ifCond .ne 19, 3)) (List.mem_of_getElem? (i := 3) rfl))
theorem dX12_isHeardIn_8 : decode cX12_isHeardIn 8 = .ok (.aload_n 0, 1) := of_decide_eq_true (List.all_eq_true.mp dsX12_isHeardIn_0_ok (8, (.aload_n 0, 1)) (List.mem_of_getElem? (i := 4) rfl))
theorem dX12_isHeardIn_9 : decode cX12_isHeardIn 9 = .ok (.iload_n 1, 1) := of_decide_eq_true (List.all_eq_true.mp dsX12_isHeardIn_0_ok (9, (.iload_n 1, 1)) (List.mem_of_getElem? (i := 5) rfl))
theorem dX12_isHeardIn_10 : decode cX12_isHeardIn 10 = .ok (.invokevirtual 424, 3) := of_decide_eq_true (List.all_eq_true.mp dsX12_isHeardIn_0_ok (10, (.invokevirtual 424, 3)) (List.mem_of_getElem? (i := 6) rfl))
theorem dX12_isHeardIn_13 : decode cX12_isHeardIn 13 = .ok (.bipush 9, 2) := of_decide_eq_true (List.all_eq_true.mp dsX12_isHeardIn_0_ok (13, (.bipush 9, 2)) (List.mem_of_getElem? (i := 7) rfl))
theorem dX12_isHeardIn_15 : decode cX12_isHeardIn 15 = .ok (.if_icmp .gt 7, 3) := of_decide_eq_true (List.all_eq_true.mp dsX12_isHeardIn_0_ok (15, (.if_icmp .gt 7, 3)) (List.mem_of_getElem? (i := 8) rfl))
theorem dX12_isHeardIn_18 : decode cX12_isHeardIn 18 = .ok (.iconst 1, 1) := of_decide_eq_true (List.all_eq_true.mp dsX12_isHeardIn_0_ok (18, (.iconst 1, 1)) (List.mem_of_getElem? (i := 9) rfl))
theorem dX12_isHeardIn_19 : decode cX12_isHeardIn 19 = .ok (.goto 4, 3) := of_decide_eq_true (List.all_eq_true.mp dsX12_isHeardIn_0_ok (19, (.goto 4, 3)) (List.mem_of_getElem? (i := 10) rfl))
theorem dX12_isHeardIn_22 : decode cX12_isHeardIn 22 = .ok (.iconst 0, 1) := of_decide_eq_true (List.all_eq_true.mp dsX12_isHeardIn_0_ok (22, (.iconst 0, 1)) (List.mem_of_getElem? (i := 11) rfl))
theorem dX12_isHeardIn_23 : decode cX12_isHeardIn 23 = .ok (.ireturn, 1) := of_decide_eq_true (List.all_eq_true.mp dsX12_isHeardIn_0_ok (23, (.ireturn, 1)) (List.mem_of_getElem? (i := 12) rfl))
theorem dX12_isHeardIn_24 : decode cX12_isHeardIn 24 = .ok (.aload_n 0, 1) := of_decide_eq_true (List.all_eq_true.mp dsX12_isHeardIn_0_ok (24, (.aload_n 0, 1)) (List.mem_of_getElem? (i := 13) rfl))
theorem dX12_isHeardIn_25 : decode cX12_isHeardIn 25 = .ok (.getfield 189, 3) := of_decide_eq_true (List.all_eq_true.mp dsX12_isHeardIn_0_ok (25, (.getfield 189, 3)) (List.mem_of_getElem? (i := 14) rfl))
theorem dX12_isHeardIn_28 : decode cX12_isHeardIn 28 = .ok (.iconst 1, 1) := of_decide_eq_true (List.all_eq_true.mp dsX12_isHeardIn_0_ok (28, (.iconst 1, 1)) (List.mem_of_getElem? (i := 15) rfl))
theorem dX12_isHeardIn_29 : decode cX12_isHeardIn 29 = .ok (.aload_n 0, 1) := of_decide_eq_true (List.all_eq_true.mp dsX12_isHeardIn_0_ok (29, (.aload_n 0, 1)) (List.mem_of_getElem? (i := 16) rfl))
theorem dX12_isHeardIn_30 : decode cX12_isHeardIn 30 = .ok (.getfield 150, 3) := of_decide_eq_true (List.all_eq_true.mp dsX12_isHeardIn_0_ok (30, (.getfield 150, 3)) (List.mem_of_getElem? (i := 17) rfl))
theorem dX12_isHeardIn_33 : decode cX12_isHeardIn 33 = .ok (.iload_n 1, 1) := of_decide_eq_true (List.all_eq_true.mp dsX12_isHeardIn_0_ok (33, (.iload_n 1, 1)) (List.mem_of_getElem? (i := 18) rfl))
theorem dX12_isHeardIn_34 : decode cX12_isHeardIn 34 = .ok (.iaload, 1) := of_decide_eq_true (List.all_eq_true.mp dsX12_isHeardIn_0_ok (34, (.iaload, 1)) (List.mem_of_getElem? (i := 19) rfl))
theorem dX12_isHeardIn_35 : decode cX12_isHeardIn 35 = .ok (.iastore, 1) := of_decide_eq_true (List.all_eq_true.mp dsX12_isHeardIn_0_ok (35, (.iastore, 1)) (List.mem_of_getElem? (i := 20) rfl))
theorem dX12_isHeardIn_36 : decode cX12_isHeardIn 36 = .ok (.aload_n 0, 1) := of_decide_eq_true (List.all_eq_true.mp dsX12_isHeardIn_0_ok (36, (.aload_n 0, 1)) (List.mem_of_getElem? (i := 21) rfl))
theorem dX12_isHeardIn_37 : decode cX12_isHeardIn 37 = .ok (.getfield 189, 3) := of_decide_eq_true (List.all_eq_true.mp dsX12_isHeardIn_0_ok (37, (.getfield 189, 3)) (List.mem_of_getElem? (i := 22) rfl))
theorem dX12_isHeardIn_40 : decode cX12_isHeardIn 40 = .ok (.iconst 2, 1) := of_decide_eq_true (List.all_eq_true.mp dsX12_isHeardIn_0_ok (40, (.iconst 2, 1)) (List.mem_of_getElem? (i := 23) rfl))
theorem dX12_isHeardIn_41 : decode cX12_isHeardIn 41 = .ok (.iload 4, 2) := of_decide_eq_true (List.all_eq_true.mp dsX12_isHeardIn_0_ok (41, (.iload 4, 2)) (List.mem_of_getElem? (i := 24) rfl))
theorem dX12_isHeardIn_43 : decode cX12_isHeardIn 43 = .ok (.iastore, 1) := of_decide_eq_true (List.all_eq_true.mp dsX12_isHeardIn_0_ok (43, (.iastore, 1)) (List.mem_of_getElem? (i := 25) rfl))
theorem dX12_isHeardIn_44 : decode cX12_isHeardIn 44 = .ok (.aload_n 0, 1) := of_decide_eq_true (List.all_eq_true.mp dsX12_isHeardIn_0_ok (44, (.aload_n 0, 1)) (List.mem_of_getElem? (i := 26) rfl))
theorem dX12_isHeardIn_45 : decode cX12_isHeardIn 45 = .ok (.getfield 189, 3) := of_decide_eq_true (List.all_eq_true.mp dsX12_isHeardIn_0_ok (45, (.getfield 189, 3)) (List.mem_of_getElem? (i := 27) rfl))
theorem dX12_isHeardIn_48 : decode cX12_isHeardIn 48 = .ok (.iconst 5, 1) := of_decide_eq_true (List.all_eq_true.mp dsX12_isHeardIn_0_ok (48, (.iconst 5, 1)) (List.mem_of_getElem? (i := 28) rfl))
theorem dX12_isHeardIn_49 : decode cX12_isHeardIn 49 = .ok (.aload_n 0, 1) := of_decide_eq_true (List.all_eq_true.mp dsX12_isHeardIn_0_ok (49, (.aload_n 0, 1)) (List.mem_of_getElem? (i := 29) rfl))
theorem dX12_isHeardIn_50 : decode cX12_isHeardIn 50 = .ok (.getfield 72, 3) := of_decide_eq_true (List.all_eq_true.mp dsX12_isHeardIn_0_ok (50, (.getfield 72, 3)) (List.mem_of_getElem? (i := 30) rfl))
theorem dX12_isHeardIn_53 : decode cX12_isHeardIn 53 = .ok (.bipush 7, 2) := of_decide_eq_true (List.all_eq_true.mp dsX12_isHeardIn_0_ok (53, (.bipush 7, 2)) (List.mem_of_getElem? (i := 31) rfl))
theorem dX12_isHeardIn_55 : decode cX12_isHeardIn 55 = .ok (.aload_n 0, 1) := of_decide_eq_true (List.all_eq_true.mp dsX12_isHeardIn_0_ok (55, (.aload_n 0, 1)) (List.mem_of_getElem? (i := 32) rfl))
theorem dX12_isHeardIn_56 : decode cX12_isHeardIn 56 = .ok (.getfield 51, 3) := of_decide_eq_true (List.all_eq_true.mp dsX12_isHeardIn_0_ok (56, (.getfield 51, 3)) (List.mem_of_getElem? (i := 33) rfl))
theorem dX12_isHeardIn_59 : decode cX12_isHeardIn 59 = .ok (.imul, 1) := of_decide_eq_true (List.all_eq_true.mp dsX12_isHeardIn_0_ok (59, (.imul, 1)) (List.mem_of_getElem? (i := 34) rfl))
theorem dX12_isHeardIn_60 : decode cX12_isHeardIn 60 = .ok (.iload_n 2, 1) := of_decide_eq_true (List.all_eq_true.mp dsX12_isHeardIn_0_ok (60, (.iload_n 2, 1)) (List.mem_of_getElem? (i := 35) rfl))
theorem dX12_isHeardIn_61 : decode cX12_isHeardIn 61 = .ok (.iadd, 1) := of_decide_eq_true (List.all_eq_true.mp dsX12_isHeardIn_0_ok (61, (.iadd, 1)) (List.mem_of_getElem? (i := 36) rfl))
theorem dX12_isHeardIn_62 : decode cX12_isHeardIn 62 = .ok (.iaload, 1) := of_decide_eq_true (List.all_eq_true.mp dsX12_isHeardIn_0_ok (62, (.iaload, 1)) (List.mem_of_getElem? (i := 37) rfl))
theorem dX12_isHeardIn_63 : decode cX12_isHeardIn 63 = .ok (.iastore, 1) := of_decide_eq_true (List.all_eq_true.mp dsX12_isHeardIn_0_ok (63, (.iastore, 1)) (List.mem_of_getElem? (i := 38) rfl))
theorem dX12_isHeardIn_64 : decode cX12_isHeardIn 64 = .ok (.aload_n 0, 1) := of_decide_eq_true (List.all_eq_true.mp dsX12_isHeardIn_0_ok (64, (.aload_n 0, 1)) (List.mem_of_getElem? (i := 39) rfl))
theorem dX12_isHeardIn_65 : decode cX12_isHeardIn 65 = .ok (.getfield 189, 3) := of_decide_eq_true (List.all_eq_true.mp dsX12_isHeardIn_0_ok (65, (.getfield 189, 3)) (List.mem_of_getElem? (i := 40) rfl))
theorem dX12_isHeardIn_68 : decode cX12_isHeardIn 68 = .ok (.bipush 6, 2) := of_decide_eq_true (List.all_eq_true.mp dsX12_isHeardIn_0_ok (68, (.bipush 6, 2)) (List.mem_of_getElem? (i := 41) rfl))
theorem dX12_isHeardIn_70 : decode cX12_isHeardIn 70 = .ok (.iload_n 3, 1) := of_decide_eq_true (List.all_eq_true.mp dsX12_isHeardIn_0_ok (70, (.iload_n 3, 1)) (List.mem_of_getElem? (i := 42) rfl))
theorem dX12_isHeardIn_71 : decode cX12_isHeardIn 71 = .ok (.iastore, 1) := of_decide_eq_true (List.all_eq_true.mp dsX12_isHeardIn_0_ok (71, (.iastore, 1)) (List.mem_of_getElem? (i := 43) rfl))
theorem dX12_isHeardIn_72 : decode cX12_isHeardIn 72 = .ok (.aload_n 0, 1) := of_decide_eq_true (List.all_eq_true.mp dsX12_isHeardIn_0_ok (72, (.aload_n 0, 1)) (List.mem_of_getElem? (i := 44) rfl))
theorem dX12_isHeardIn_73 : decode cX12_isHeardIn 73 = .ok (.getfield 189, 3) := of_decide_eq_true (List.all_eq_true.mp dsX12_isHeardIn_0_ok (73, (.getfield 189, 3)) (List.mem_of_getElem? (i := 45) rfl))
theorem dX12_isHeardIn_76 : decode cX12_isHeardIn 76 = .ok (.bipush 7, 2) := of_decide_eq_true (List.all_eq_true.mp dsX12_isHeardIn_0_ok (76, (.bipush 7, 2)) (List.mem_of_getElem? (i := 46) rfl))
theorem dX12_isHeardIn_78 : decode cX12_isHeardIn 78 = .ok (.aload_n 0, 1) := of_decide_eq_true (List.all_eq_true.mp dsX12_isHeardIn_0_ok (78, (.aload_n 0, 1)) (List.mem_of_getElem? (i := 47) rfl))
theorem dX12_isHeardIn_79 : decode cX12_isHeardIn 79 = .ok (.iload_n 1, 1) := of_decide_eq_true (List.all_eq_true.mp dsX12_isHeardIn_0_ok (79, (.iload_n 1, 1)) (List.mem_of_getElem? (i := 48) rfl))
theorem dX12_isHeardIn_80 : decode cX12_isHeardIn 80 = .ok (.invokevirtual 424, 3) := of_decide_eq_true (List.all_eq_true.mp dsX12_isHeardIn_0_ok (80, (.invokevirtual 424, 3)) (List.mem_of_getElem? (i := 49) rfl))
theorem dX12_isHeardIn_83 : decode cX12_isHeardIn 83 = .ok (.iastore, 1) := of_decide_eq_true (List.all_eq_true.mp dsX12_isHeardIn_0_ok (83, (.iastore, 1)) (List.mem_of_getElem? (i := 50) rfl))
theorem dX12_isHeardIn_84 : decode cX12_isHeardIn 84 = .ok (.aload_n 0, 1) := of_decide_eq_true (List.all_eq_true.mp dsX12_isHeardIn_0_ok (84, (.aload_n 0, 1)) (List.mem_of_getElem? (i := 51) rfl))
theorem dX12_isHeardIn_85 : decode cX12_isHeardIn 85 = .ok (.iconst 1, 1) := of_decide_eq_true (List.all_eq_true.mp dsX12_isHeardIn_0_ok (85, (.iconst 1, 1)) (List.mem_of_getElem? (i := 52) rfl))
theorem dX12_isHeardIn_86 : decode cX12_isHeardIn 86 = .ok (.invokevirtual 416, 3) := of_decide_eq_true (List.all_eq_true.mp dsX12_isHeardIn_0_ok (86, (.invokevirtual 416, 3)) (List.mem_of_getElem? (i := 53) rfl))
theorem dX12_isHeardIn_89 : decode cX12_isHeardIn 89 = .ok (.lconst 1, 1) := of_decide_eq_true (List.all_eq_true.mp dsX12_isHeardIn_0_ok (89, (.lconst 1, 1)) (List.mem_of_getElem? (i := 54) rfl))
theorem dX12_isHeardIn_90 : decode cX12_isHeardIn 90 = .ok (.lcmp, 1) := of_decide_eq_true (List.all_eq_true.mp dsX12_isHeardIn_0_ok (90, (.lcmp, 1)) (List.mem_of_getElem? (i := 55) rfl))
theorem dX12_isHeardIn_91 : decode cX12_isHeardIn 91 = .ok (.ifCond .ne 7, 3) := of_decide_eq_true (List.all_eq_true.mp dsX12_isHeardIn_0_ok (91, (.ifCond .ne 7, 3)) (List.mem_of_getElem? (i := 56) rfl))
theorem dX12_isHeardIn_94 : decode cX12_isHeardIn 94 = .ok (.iconst 1, 1) := of_decide_eq_true (List.all_eq_true.mp dsX12_isHeardIn_0_ok (94, (.iconst 1, 1)) (List.mem_of_getElem? (i := 57) rfl))
theorem dX12_isHeardIn_95 : decode cX12_isHeardIn 95 = .ok (.goto 4, 3) := of_decide_eq_true (List.all_eq_true.mp dsX12_isHeardIn_0_ok (95, (.goto 4, 3)) (List.mem_of_getElem? (i := 58) rfl))
theorem dX12_isHeardIn_98 : decode cX12_isHeardIn 98 = .ok (.iconst 0, 1) := of_decide_eq_true (List.all_eq_true.mp dsX12_isHeardIn_0_ok (98, (.iconst 0, 1)) (List.mem_of_getElem? (i := 59) rfl))
def dsX12_isHeardIn_1 : List (Nat × Instr × Nat) := [(99, (.ireturn, 1))]
theorem dsX12_isHeardIn_1_ok : (dsX12_isHeardIn_1.all fun q => decide (decode cX12_isHeardIn q.1 = .ok q.2)) = true := by decide +kernel
theorem dX12_isHeardIn_99 : decode cX12_isHeardIn 99 = .ok (.ireturn, 1) := of_decide_eq_true (List.all_eq_true.mp dsX12_isHeardIn_1_ok (99, (.ireturn, 1)) (List.mem_of_getElem? (i := 0) rfl))
def fX12_isHeardIn (N : Nat) (mmI : Nat → Int32) (mm_sumFromF : Nat → Int32) (mm_nightOfF : Nat → Int32) (mm_askedF : Nat → Int32) (mm_sharpOfF : Nat → Int32) (mm_mileOfF : Nat → Int32) (mm_milesToldF : Nat → Int32) (mm_sumBehindF : Nat → Int32) (mm_stackL : Nat → Int64) (mm_codeSortF : Nat → Int32) (mm_codeValueF : Nat → Int32)  (p1 : Int32) (p2 : Int32) (p3 : Int32) (p4 : Int32) : Option (Int32 × (Nat → Int32) × (Nat → Int64)) :=
  (xq_bd (fX12_isTold N mmI mm_sumFromF 1) fun r_1 => (if r_1 = 0 then (xq_bd (fX12_farOf N mmI mm_mileOfF mm_milesToldF p1) fun r_14 => (if 9 < r_14 then some ((0, mm_askedF, mm_stackL)) else some ((1, mm_askedF, mm_stackL)))) else (xq_bd (xq_ald 22 mm_nightOfF p1) fun v_3 => (xq_bd (xq_ast 12 mm_askedF 1 v_3) fun g_4 => (xq_bd (xq_ast 12 g_4 2 p4) fun g_5 => (xq_bd (xq_ald 14 mm_sharpOfF ((7 * (mmI 13)) + p2)) fun v_6 => (xq_bd (xq_ast 12 g_5 5 v_6) fun g_7 => (xq_bd (xq_ast 12 g_7 6 p3) fun g_8 => (xq_bd (fX12_farOf N mmI mm_mileOfF mm_milesToldF p1) fun r_9 => (xq_bd (xq_ast 12 g_8 7 r_9) fun g_11 => (xq_bd (fX12_reckons N mmI mm_sumFromF mm_sumBehindF mm_stackL mm_codeSortF g_11 mm_codeValueF 1) fun (r_12_0, r_12_1) => (if (lg_cmp r_12_0 1) = 0 then some ((1, g_11, r_12_1)) else some ((0, g_11, r_12_1))))))))))))))
set_option maxHeartbeats 4000000 in
set_option maxRecDepth 100000 in
theorem kX12_isHeardIn (l : Launch) (dC : Nat → ClassId) (dI : Nat → Nat → Nat) (cI cB cJ cZ cM : ClassId) (z : Nat) (ad : Nat → Nat) (N : Nat) (a_p0 : Nat) (mmI : Nat → Int32) (mmJ : Nat → Int64) (mmR : Nat → Nat) (mm_sumFromF : Nat → Int32) (mm_nightOfF : Nat → Int32) (mm_askedF : Nat → Int32) (mm_sharpOfF : Nat → Int32) (mm_mileOfF : Nat → Int32) (mm_milesToldF : Nat → Int32) (mm_sumBehindF : Nat → Int32) (mm_stackL : Nat → Int64) (mm_codeSortF : Nat → Int32) (mm_codeValueF : Nat → Int32) (p1 : Int32) (p2 : Int32) (p3 : Int32) (p4 : Int32) {r0 : Int32} {r1 : Nat → Int32} {r2 : Nat → Int64} (hf : fX12_isHeardIn N mmI mm_sumFromF mm_nightOfF mm_askedF mm_sharpOfF mm_mileOfF mm_milesToldF mm_sumBehindF mm_stackL mm_codeSortF mm_codeValueF p1 p2 p3 p4 = some (r0, r1, r2)) : xq_Ct l yX12_isHeardIn wsX12_isHeardIn { frames := 3, cells := 0, slots := 0, locals := 73 } (dC, dI) vwCl (xq_tys cI cB cJ cZ cM) z ad [.ref a_p0, .int p1, .int p2, .int p3, .int p4] [(a_p0, .inr (12, oX12 mmI mmJ mmR)), ((mmR 24), .inl (cI, 6, .inl mm_sumFromF)), ((mmR 45), .inl (cI, 22, .inl mm_nightOfF)), ((mmR 58), .inl (cI, 12, .inl mm_askedF)), ((mmR 20), .inl (cI, 14, .inl mm_sharpOfF)), ((mmR 46), .inl (cI, 22, .inl mm_mileOfF)), ((mmR 14), .inl (cI, 2, .inl mm_milesToldF)), ((mmR 25), .inl (cI, 6, .inl mm_sumBehindF)), ((mmR 57), .inl (cJ, 500, .inr (.inl mm_stackL))), ((mmR 26), .inl (cI, 3200, .inl mm_codeSortF)), ((mmR 27), .inl (cI, 3200, .inl mm_codeValueF))] [(a_p0, .inr (12, oX12 mmI mmJ mmR)), ((mmR 24), .inl (cI, 6, .inl mm_sumFromF)), ((mmR 45), .inl (cI, 22, .inl mm_nightOfF)), ((mmR 58), .inl (cI, 12, .inl r1)), ((mmR 20), .inl (cI, 14, .inl mm_sharpOfF)), ((mmR 46), .inl (cI, 22, .inl mm_mileOfF)), ((mmR 14), .inl (cI, 2, .inl mm_milesToldF)), ((mmR 25), .inl (cI, 6, .inl mm_sumBehindF)), ((mmR 57), .inl (cJ, 500, .inr (.inl r2))), ((mmR 26), .inl (cI, 3200, .inl mm_codeSortF)), ((mmR 27), .inl (cI, 3200, .inl mm_codeValueF))] (some (.int r0)) := by
  intro sz
  refine Met.ofW (cc := cX12_isHeardIn) (maxL := 5) (ret := (some .boolean)) (by decide) rfl ?_
  intro p e s m args below meth c s₁ B hml hv
  obtain ⟨rfl, hsz, hP, hK, hD0, hE, hz⟩ := hv
  have hx := B.exec
  have hb := B.bytes
  have hr := B.returns
  have hts := atoms_spec (ws := wsX12_isHeardIn) B.pre
  have hown : s.vm.findClass RX12 = some m.cls := findClass_of_methodNamed B.named
  have hlocks := B.notSynchronized
  subst hsz
  have hD := hD0.self (sz := s.heap.size)
  have hN := xq_Env.of hE hz hD0
  generalize hAe : va_A [(a_p0, .inr (12, oX12 mmI mmJ mmR)), ((mmR 24), .inl (cI, 6, .inl mm_sumFromF)), ((mmR 45), .inl (cI, 22, .inl mm_nightOfF)), ((mmR 58), .inl (cI, 12, .inl mm_askedF)), ((mmR 20), .inl (cI, 14, .inl mm_sharpOfF)), ((mmR 46), .inl (cI, 22, .inl mm_mileOfF)), ((mmR 14), .inl (cI, 2, .inl mm_milesToldF)), ((mmR 25), .inl (cI, 6, .inl mm_sumBehindF)), ((mmR 57), .inl (cJ, 500, .inr (.inl mm_stackL))), ((mmR 26), .inl (cI, 3200, .inl mm_codeSortF)), ((mmR 27), .inl (cI, 3200, .inl mm_codeValueF))] s.heap.size = A at hD hN ⊢
  have hA : ∀ q : Nat, s.heap.size ≤ q → A q := fun q h => by rw [← hAe]; exact Or.inr h
  clear hAe hD0
  have hS : va_S A s.heap s.heap [] := va_S.rf
  have hl := lv_entry ([.ref a_p0, .int p1, .int p2, .int p3, .int p4]) (n := 5) (Nat.le_of_ble_eq_true rfl)
  rw [lg_entry_eq]
  generalize (lg_sl ([.ref a_p0, .int p1, .int p2, .int p3, .int p4]) ++ List.replicate (5 - (lg_sl ([.ref a_p0, .int p1, .int p2, .int p3, .int p4])).length) Slot.unset).toArray = ls at hl ⊢
  have hl : lv_has ls 5 [(0, .ref a_p0), (1, .int p1), (2, .int p2), (3, .int p3), (4, .int p4)] := hl
  have hw0 := hts (.fieldLink RX12 189 "DistantVoiceModel" "asked" "[I") (by decide +kernel)
  have hinX12 : ∀ w ∈ wsX120, w ∈ wsX12_isHeardIn := fun w h => List.mem_cons_of_mem _ (List.mem_append_right _ h)
  have hw2 := hts (.fieldLink RX12 150 "DistantVoiceModel" "nightOf" "[I") (by decide +kernel)
  have hw3 := hts (.fieldLink RX12 72 "DistantVoiceModel" "sharpOf" "[I") (by decide +kernel)
  have hw4 := hts (.fieldLink RX12 51 "DistantVoiceModel" "bank" "I") (by decide +kernel)
  unfold fX12_isHeardIn at hf
  refine lv_aload_n hx hb dX12_isHeardIn_0 rfl (lv_at hl 0 rfl) ?_
  refine lv_iconst (v := 1) hx hb dX12_isHeardIn_1 (by decide) ?_
  obtain ⟨r_1, h_2, hf⟩ := xq_bd_some hf
  refine xq_callV (As := [.int 1]) (rest := []) (ci := 12) (q0 := 0) ⟨hx, hb, hml, hown, hts⟩ (kX12_isTold l dC dI cI cB cJ cZ cM z ad N a_p0 mmI mmJ mmR mm_sumFromF 1 h_2) (cwV 1 hts gX12_isHeardIn_X12_isTold rfl rfl rfl (by decide +kernel) ⟨Nat.le_of_ble_eq_true rfl, Nat.le_of_ble_eq_true rfl⟩) hN hK hP hD hS hA [0, 1] (by decide) rfl rfl rfl rfl rfl rfl hl.1 rfl (Nat.le_of_ble_eq_true rfl) dX12_isHeardIn_2 ⟨Nat.zero_le _, Nat.zero_le _⟩ (fun H locs hP hD hS => ?_)
  have hP : va_P (dC, dI) vwCl [(a_p0, .inr (12, oX12 mmI mmJ mmR)), ((mmR 24), .inl (cI, 6, .inl mm_sumFromF)), ((mmR 45), .inl (cI, 22, .inl mm_nightOfF)), ((mmR 58), .inl (cI, 12, .inl mm_askedF)), ((mmR 20), .inl (cI, 14, .inl mm_sharpOfF)), ((mmR 46), .inl (cI, 22, .inl mm_mileOfF)), ((mmR 14), .inl (cI, 2, .inl mm_milesToldF)), ((mmR 25), .inl (cI, 6, .inl mm_sumBehindF)), ((mmR 57), .inl (cJ, 500, .inr (.inl mm_stackL))), ((mmR 26), .inl (cI, 3200, .inl mm_codeSortF)), ((mmR 27), .inl (cI, 3200, .inl mm_codeValueF))] H := hP
  have hD : va_D A [(a_p0, .inr (12, oX12 mmI mmJ mmR)), ((mmR 24), .inl (cI, 6, .inl mm_sumFromF)), ((mmR 45), .inl (cI, 22, .inl mm_nightOfF)), ((mmR 58), .inl (cI, 12, .inl mm_askedF)), ((mmR 20), .inl (cI, 14, .inl mm_sharpOfF)), ((mmR 46), .inl (cI, 22, .inl mm_mileOfF)), ((mmR 14), .inl (cI, 2, .inl mm_milesToldF)), ((mmR 25), .inl (cI, 6, .inl mm_sumBehindF)), ((mmR 57), .inl (cJ, 500, .inr (.inl mm_stackL))), ((mmR 26), .inl (cI, 3200, .inl mm_codeSortF)), ((mmR 27), .inl (cI, 3200, .inl mm_codeValueF))] := hD
  refine W.eq (g2 := F0 m 5 ls [.int r_1]) rfl ?_
  refine lv_if_ne (tgt := 24) hx hb dX12_isHeardIn_5 (by decide) (fun c_ => ?_) (fun c_ => ?_)
  · have hf := xq_neg hf c_
    refine lv_aload_n hx hb dX12_isHeardIn_24 rfl (lv_at hl 0 rfl) ?_
    refine va_get (D := (dC, dI)) (ci := 12) (v := .ref ((mmR 58))) (C := RX12) (T := TX12) (N := 70) hx hb hts hinX12 hown hK hP 0 rfl rfl 58 (by decide) hw0 (fun _ h9 => h9) rfl dX12_isHeardIn_25 ?_
    refine lv_iconst (v := 1) hx hb dX12_isHeardIn_28 (by decide) ?_
    refine lv_aload_n hx hb dX12_isHeardIn_29 rfl (lv_at hl 0 rfl) ?_
    refine va_get (D := (dC, dI)) (ci := 12) (v := .ref ((mmR 45))) (C := RX12) (T := TX12) (N := 70) hx hb hts hinX12 hown hK hP 0 rfl rfl 45 (by decide) hw2 (fun _ h9 => h9) rfl dX12_isHeardIn_30 ?_
    refine lv_iload_n hx hb dX12_isHeardIn_33 rfl (lv_at hl 1 rfl) ?_
    refine xq_iald hx hb hK hP 2 0 rfl rfl hf dX12_isHeardIn_34 (fun v_3 hf => ?_)
    refine xq_iast hx hb hK hP hD hS 3 0 rfl rfl hf dX12_isHeardIn_35 (fun g_4 H locs hf hP hD hS => ?_)
    have hP : va_P (dC, dI) vwCl [(a_p0, .inr (12, oX12 mmI mmJ mmR)), ((mmR 24), .inl (cI, 6, .inl mm_sumFromF)), ((mmR 45), .inl (cI, 22, .inl mm_nightOfF)), ((mmR 58), .inl (cI, 12, .inl g_4)), ((mmR 20), .inl (cI, 14, .inl mm_sharpOfF)), ((mmR 46), .inl (cI, 22, .inl mm_mileOfF)), ((mmR 14), .inl (cI, 2, .inl mm_milesToldF)), ((mmR 25), .inl (cI, 6, .inl mm_sumBehindF)), ((mmR 57), .inl (cJ, 500, .inr (.inl mm_stackL))), ((mmR 26), .inl (cI, 3200, .inl mm_codeSortF)), ((mmR 27), .inl (cI, 3200, .inl mm_codeValueF))] H := hP
    have hD : va_D A [(a_p0, .inr (12, oX12 mmI mmJ mmR)), ((mmR 24), .inl (cI, 6, .inl mm_sumFromF)), ((mmR 45), .inl (cI, 22, .inl mm_nightOfF)), ((mmR 58), .inl (cI, 12, .inl g_4)), ((mmR 20), .inl (cI, 14, .inl mm_sharpOfF)), ((mmR 46), .inl (cI, 22, .inl mm_mileOfF)), ((mmR 14), .inl (cI, 2, .inl mm_milesToldF)), ((mmR 25), .inl (cI, 6, .inl mm_sumBehindF)), ((mmR 57), .inl (cJ, 500, .inr (.inl mm_stackL))), ((mmR 26), .inl (cI, 3200, .inl mm_codeSortF)), ((mmR 27), .inl (cI, 3200, .inl mm_codeValueF))] := hD
    refine lv_aload_n hx hb dX12_isHeardIn_36 rfl (lv_at hl 0 rfl) ?_
    refine va_get (D := (dC, dI)) (ci := 12) (v := .ref ((mmR 58))) (C := RX12) (T := TX12) (N := 70) hx hb hts hinX12 hown hK hP 0 rfl rfl 58 (by decide) hw0 (fun _ h9 => h9) rfl dX12_isHeardIn_37 ?_
    refine lv_iconst (v := 2) hx hb dX12_isHeardIn_40 (by decide) ?_
    refine lv_iload hx hb dX12_isHeardIn_41 (lv_at hl 4 rfl) ?_
    refine xq_iast hx hb hK hP hD hS 3 0 rfl rfl hf dX12_isHeardIn_43 (fun g_5 H locs hf hP hD hS => ?_)
    have hP : va_P (dC, dI) vwCl [(a_p0, .inr (12, oX12 mmI mmJ mmR)), ((mmR 24), .inl (cI, 6, .inl mm_sumFromF)), ((mmR 45), .inl (cI, 22, .inl mm_nightOfF)), ((mmR 58), .inl (cI, 12, .inl g_5)), ((mmR 20), .inl (cI, 14, .inl mm_sharpOfF)), ((mmR 46), .inl (cI, 22, .inl mm_mileOfF)), ((mmR 14), .inl (cI, 2, .inl mm_milesToldF)), ((mmR 25), .inl (cI, 6, .inl mm_sumBehindF)), ((mmR 57), .inl (cJ, 500, .inr (.inl mm_stackL))), ((mmR 26), .inl (cI, 3200, .inl mm_codeSortF)), ((mmR 27), .inl (cI, 3200, .inl mm_codeValueF))] H := hP
    have hD : va_D A [(a_p0, .inr (12, oX12 mmI mmJ mmR)), ((mmR 24), .inl (cI, 6, .inl mm_sumFromF)), ((mmR 45), .inl (cI, 22, .inl mm_nightOfF)), ((mmR 58), .inl (cI, 12, .inl g_5)), ((mmR 20), .inl (cI, 14, .inl mm_sharpOfF)), ((mmR 46), .inl (cI, 22, .inl mm_mileOfF)), ((mmR 14), .inl (cI, 2, .inl mm_milesToldF)), ((mmR 25), .inl (cI, 6, .inl mm_sumBehindF)), ((mmR 57), .inl (cJ, 500, .inr (.inl mm_stackL))), ((mmR 26), .inl (cI, 3200, .inl mm_codeSortF)), ((mmR 27), .inl (cI, 3200, .inl mm_codeValueF))] := hD
    refine lv_aload_n hx hb dX12_isHeardIn_44 rfl (lv_at hl 0 rfl) ?_
    refine va_get (D := (dC, dI)) (ci := 12) (v := .ref ((mmR 58))) (C := RX12) (T := TX12) (N := 70) hx hb hts hinX12 hown hK hP 0 rfl rfl 58 (by decide) hw0 (fun _ h9 => h9) rfl dX12_isHeardIn_45 ?_
    refine lv_iconst (v := 5) hx hb dX12_isHeardIn_48 (by decide) ?_
    refine lv_aload_n hx hb dX12_isHeardIn_49 rfl (lv_at hl 0 rfl) ?_
    refine va_get (D := (dC, dI)) (ci := 12) (v := .ref ((mmR 20))) (C := RX12) (T := TX12) (N := 70) hx hb hts hinX12 hown hK hP 0 rfl rfl 20 (by decide) hw3 (fun _ h9 => h9) rfl dX12_isHeardIn_50 ?_
    refine lv_bipush (v := 7) hx hb dX12_isHeardIn_53 (by decide) ?_
    refine lv_aload_n hx hb dX12_isHeardIn_55 rfl (lv_at hl 0 rfl) ?_
    refine va_get (D := (dC, dI)) (ci := 12) (v := .int (mmI 13)) (C := RX12) (T := TX12) (N := 70) hx hb hts hinX12 hown hK hP 0 rfl rfl 13 (by decide) hw4 (fun _ h9 => h9) rfl dX12_isHeardIn_56 ?_
    refine lv_imul hx hb dX12_isHeardIn_59 ?_
    refine lv_iload_n hx hb dX12_isHeardIn_60 rfl (lv_at hl 2 rfl) ?_
    refine lv_iadd hx hb dX12_isHeardIn_61 ?_
    refine xq_iald hx hb hK hP 4 0 rfl rfl hf dX12_isHeardIn_62 (fun v_6 hf => ?_)
    refine xq_iast hx hb hK hP hD hS 3 0 rfl rfl hf dX12_isHeardIn_63 (fun g_7 H locs hf hP hD hS => ?_)
    have hP : va_P (dC, dI) vwCl [(a_p0, .inr (12, oX12 mmI mmJ mmR)), ((mmR 24), .inl (cI, 6, .inl mm_sumFromF)), ((mmR 45), .inl (cI, 22, .inl mm_nightOfF)), ((mmR 58), .inl (cI, 12, .inl g_7)), ((mmR 20), .inl (cI, 14, .inl mm_sharpOfF)), ((mmR 46), .inl (cI, 22, .inl mm_mileOfF)), ((mmR 14), .inl (cI, 2, .inl mm_milesToldF)), ((mmR 25), .inl (cI, 6, .inl mm_sumBehindF)), ((mmR 57), .inl (cJ, 500, .inr (.inl mm_stackL))), ((mmR 26), .inl (cI, 3200, .inl mm_codeSortF)), ((mmR 27), .inl (cI, 3200, .inl mm_codeValueF))] H := hP
    have hD : va_D A [(a_p0, .inr (12, oX12 mmI mmJ mmR)), ((mmR 24), .inl (cI, 6, .inl mm_sumFromF)), ((mmR 45), .inl (cI, 22, .inl mm_nightOfF)), ((mmR 58), .inl (cI, 12, .inl g_7)), ((mmR 20), .inl (cI, 14, .inl mm_sharpOfF)), ((mmR 46), .inl (cI, 22, .inl mm_mileOfF)), ((mmR 14), .inl (cI, 2, .inl mm_milesToldF)), ((mmR 25), .inl (cI, 6, .inl mm_sumBehindF)), ((mmR 57), .inl (cJ, 500, .inr (.inl mm_stackL))), ((mmR 26), .inl (cI, 3200, .inl mm_codeSortF)), ((mmR 27), .inl (cI, 3200, .inl mm_codeValueF))] := hD
    refine lv_aload_n hx hb dX12_isHeardIn_64 rfl (lv_at hl 0 rfl) ?_
    refine va_get (D := (dC, dI)) (ci := 12) (v := .ref ((mmR 58))) (C := RX12) (T := TX12) (N := 70) hx hb hts hinX12 hown hK hP 0 rfl rfl 58 (by decide) hw0 (fun _ h9 => h9) rfl dX12_isHeardIn_65 ?_
    refine lv_bipush (v := 6) hx hb dX12_isHeardIn_68 (by decide) ?_
    refine lv_iload_n hx hb dX12_isHeardIn_70 rfl (lv_at hl 3 rfl) ?_
    refine xq_iast hx hb hK hP hD hS 3 0 rfl rfl hf dX12_isHeardIn_71 (fun g_8 H locs hf hP hD hS => ?_)
    have hP : va_P (dC, dI) vwCl [(a_p0, .inr (12, oX12 mmI mmJ mmR)), ((mmR 24), .inl (cI, 6, .inl mm_sumFromF)), ((mmR 45), .inl (cI, 22, .inl mm_nightOfF)), ((mmR 58), .inl (cI, 12, .inl g_8)), ((mmR 20), .inl (cI, 14, .inl mm_sharpOfF)), ((mmR 46), .inl (cI, 22, .inl mm_mileOfF)), ((mmR 14), .inl (cI, 2, .inl mm_milesToldF)), ((mmR 25), .inl (cI, 6, .inl mm_sumBehindF)), ((mmR 57), .inl (cJ, 500, .inr (.inl mm_stackL))), ((mmR 26), .inl (cI, 3200, .inl mm_codeSortF)), ((mmR 27), .inl (cI, 3200, .inl mm_codeValueF))] H := hP
    have hD : va_D A [(a_p0, .inr (12, oX12 mmI mmJ mmR)), ((mmR 24), .inl (cI, 6, .inl mm_sumFromF)), ((mmR 45), .inl (cI, 22, .inl mm_nightOfF)), ((mmR 58), .inl (cI, 12, .inl g_8)), ((mmR 20), .inl (cI, 14, .inl mm_sharpOfF)), ((mmR 46), .inl (cI, 22, .inl mm_mileOfF)), ((mmR 14), .inl (cI, 2, .inl mm_milesToldF)), ((mmR 25), .inl (cI, 6, .inl mm_sumBehindF)), ((mmR 57), .inl (cJ, 500, .inr (.inl mm_stackL))), ((mmR 26), .inl (cI, 3200, .inl mm_codeSortF)), ((mmR 27), .inl (cI, 3200, .inl mm_codeValueF))] := hD
    refine lv_aload_n hx hb dX12_isHeardIn_72 rfl (lv_at hl 0 rfl) ?_
    refine va_get (D := (dC, dI)) (ci := 12) (v := .ref ((mmR 58))) (C := RX12) (T := TX12) (N := 70) hx hb hts hinX12 hown hK hP 0 rfl rfl 58 (by decide) hw0 (fun _ h9 => h9) rfl dX12_isHeardIn_73 ?_
    refine lv_bipush (v := 7) hx hb dX12_isHeardIn_76 (by decide) ?_
    refine lv_aload_n hx hb dX12_isHeardIn_78 rfl (lv_at hl 0 rfl) ?_
    refine lv_iload_n hx hb dX12_isHeardIn_79 rfl (lv_at hl 1 rfl) ?_
    obtain ⟨r_9, h_10, hf⟩ := xq_bd_some hf
    refine xq_callV (As := [.int p1]) (rest := [.int 7, .ref ((mmR 58))]) (ci := 12) (q0 := 0) ⟨hx, hb, hml, hown, hts⟩ (kX12_farOf l dC dI cI cB cJ cZ cM z ad N a_p0 mmI mmJ mmR mm_mileOfF mm_milesToldF p1 h_10) (cwV 1 hts gX12_isHeardIn_X12_farOf rfl rfl rfl (by decide +kernel) ⟨Nat.le_of_ble_eq_true rfl, Nat.le_of_ble_eq_true rfl⟩) hN hK hP hD hS hA [0, 5, 6] (by decide) rfl rfl rfl rfl rfl rfl hl.1 rfl (Nat.le_of_ble_eq_true rfl) dX12_isHeardIn_80 ⟨Nat.zero_le _, Nat.zero_le _⟩ (fun H locs hP hD hS => ?_)
    have hP : va_P (dC, dI) vwCl [(a_p0, .inr (12, oX12 mmI mmJ mmR)), ((mmR 24), .inl (cI, 6, .inl mm_sumFromF)), ((mmR 45), .inl (cI, 22, .inl mm_nightOfF)), ((mmR 58), .inl (cI, 12, .inl g_8)), ((mmR 20), .inl (cI, 14, .inl mm_sharpOfF)), ((mmR 46), .inl (cI, 22, .inl mm_mileOfF)), ((mmR 14), .inl (cI, 2, .inl mm_milesToldF)), ((mmR 25), .inl (cI, 6, .inl mm_sumBehindF)), ((mmR 57), .inl (cJ, 500, .inr (.inl mm_stackL))), ((mmR 26), .inl (cI, 3200, .inl mm_codeSortF)), ((mmR 27), .inl (cI, 3200, .inl mm_codeValueF))] H := hP
    have hD : va_D A [(a_p0, .inr (12, oX12 mmI mmJ mmR)), ((mmR 24), .inl (cI, 6, .inl mm_sumFromF)), ((mmR 45), .inl (cI, 22, .inl mm_nightOfF)), ((mmR 58), .inl (cI, 12, .inl g_8)), ((mmR 20), .inl (cI, 14, .inl mm_sharpOfF)), ((mmR 46), .inl (cI, 22, .inl mm_mileOfF)), ((mmR 14), .inl (cI, 2, .inl mm_milesToldF)), ((mmR 25), .inl (cI, 6, .inl mm_sumBehindF)), ((mmR 57), .inl (cJ, 500, .inr (.inl mm_stackL))), ((mmR 26), .inl (cI, 3200, .inl mm_codeSortF)), ((mmR 27), .inl (cI, 3200, .inl mm_codeValueF))] := hD
    refine W.eq (g2 := F0 m 83 ls [.int r_9, .int 7, .ref ((mmR 58))]) rfl ?_
    refine xq_iast hx hb hK hP hD hS 3 0 rfl rfl hf dX12_isHeardIn_83 (fun g_11 H locs hf hP hD hS => ?_)
    have hP : va_P (dC, dI) vwCl [(a_p0, .inr (12, oX12 mmI mmJ mmR)), ((mmR 24), .inl (cI, 6, .inl mm_sumFromF)), ((mmR 45), .inl (cI, 22, .inl mm_nightOfF)), ((mmR 58), .inl (cI, 12, .inl g_11)), ((mmR 20), .inl (cI, 14, .inl mm_sharpOfF)), ((mmR 46), .inl (cI, 22, .inl mm_mileOfF)), ((mmR 14), .inl (cI, 2, .inl mm_milesToldF)), ((mmR 25), .inl (cI, 6, .inl mm_sumBehindF)), ((mmR 57), .inl (cJ, 500, .inr (.inl mm_stackL))), ((mmR 26), .inl (cI, 3200, .inl mm_codeSortF)), ((mmR 27), .inl (cI, 3200, .inl mm_codeValueF))] H := hP
    have hD : va_D A [(a_p0, .inr (12, oX12 mmI mmJ mmR)), ((mmR 24), .inl (cI, 6, .inl mm_sumFromF)), ((mmR 45), .inl (cI, 22, .inl mm_nightOfF)), ((mmR 58), .inl (cI, 12, .inl g_11)), ((mmR 20), .inl (cI, 14, .inl mm_sharpOfF)), ((mmR 46), .inl (cI, 22, .inl mm_mileOfF)), ((mmR 14), .inl (cI, 2, .inl mm_milesToldF)), ((mmR 25), .inl (cI, 6, .inl mm_sumBehindF)), ((mmR 57), .inl (cJ, 500, .inr (.inl mm_stackL))), ((mmR 26), .inl (cI, 3200, .inl mm_codeSortF)), ((mmR 27), .inl (cI, 3200, .inl mm_codeValueF))] := hD
    refine lv_aload_n hx hb dX12_isHeardIn_84 rfl (lv_at hl 0 rfl) ?_
    refine lv_iconst (v := 1) hx hb dX12_isHeardIn_85 (by decide) ?_
    obtain ⟨⟨r_12_0, r_12_1⟩, h_13, hf⟩ := xq_bd_some hf
    refine xq_callV (As := [.int 1]) (rest := []) (ci := 12) (q0 := 0) ⟨hx, hb, hml, hown, hts⟩ (kX12_reckons l dC dI cI cB cJ cZ cM z ad N a_p0 mmI mmJ mmR mm_sumFromF mm_sumBehindF mm_stackL mm_codeSortF g_11 mm_codeValueF 1 h_13) (cwV 1 hts gX12_isHeardIn_X12_reckons rfl rfl rfl (by decide +kernel) ⟨Nat.le_of_ble_eq_true rfl, Nat.le_of_ble_eq_true rfl⟩) hN hK hP hD hS hA [0, 1, 7, 8, 9, 3, 10] (by decide) rfl rfl rfl rfl rfl rfl hl.1 rfl (Nat.le_of_ble_eq_true rfl) dX12_isHeardIn_86 ⟨Nat.zero_le _, Nat.zero_le _⟩ (fun H locs hP hD hS => ?_)
    have hP : va_P (dC, dI) vwCl [(a_p0, .inr (12, oX12 mmI mmJ mmR)), ((mmR 24), .inl (cI, 6, .inl mm_sumFromF)), ((mmR 45), .inl (cI, 22, .inl mm_nightOfF)), ((mmR 58), .inl (cI, 12, .inl g_11)), ((mmR 20), .inl (cI, 14, .inl mm_sharpOfF)), ((mmR 46), .inl (cI, 22, .inl mm_mileOfF)), ((mmR 14), .inl (cI, 2, .inl mm_milesToldF)), ((mmR 25), .inl (cI, 6, .inl mm_sumBehindF)), ((mmR 57), .inl (cJ, 500, .inr (.inl r_12_1))), ((mmR 26), .inl (cI, 3200, .inl mm_codeSortF)), ((mmR 27), .inl (cI, 3200, .inl mm_codeValueF))] H := hP
    have hD : va_D A [(a_p0, .inr (12, oX12 mmI mmJ mmR)), ((mmR 24), .inl (cI, 6, .inl mm_sumFromF)), ((mmR 45), .inl (cI, 22, .inl mm_nightOfF)), ((mmR 58), .inl (cI, 12, .inl g_11)), ((mmR 20), .inl (cI, 14, .inl mm_sharpOfF)), ((mmR 46), .inl (cI, 22, .inl mm_mileOfF)), ((mmR 14), .inl (cI, 2, .inl mm_milesToldF)), ((mmR 25), .inl (cI, 6, .inl mm_sumBehindF)), ((mmR 57), .inl (cJ, 500, .inr (.inl r_12_1))), ((mmR 26), .inl (cI, 3200, .inl mm_codeSortF)), ((mmR 27), .inl (cI, 3200, .inl mm_codeValueF))] := hD
    refine W.eq (g2 := F0 m 89 ls [.long r_12_0]) rfl ?_
    refine lv_lconst (v := 1) hx hb dX12_isHeardIn_89 (by decide) ?_
    refine W.lcmp hx hb dX12_isHeardIn_90 ?_
    refine lv_if_ne (tgt := 98) hx hb dX12_isHeardIn_91 (by decide) (fun c_ => ?_) (fun c_ => ?_)
    · have hf := xq_neg hf c_
      refine lv_iconst (v := 0) hx hb dX12_isHeardIn_98 (by decide) ?_
      have hP9 := hP
      have hD9 := hD
      have hS9 := hS
      cases hf
      exact xq_zret hx hb hr (by decide +kernel) hlocks hK hP9 hD9 hS9 dX12_isHeardIn_99
    · have hf := xq_pos hf c_
      refine lv_iconst (v := 1) hx hb dX12_isHeardIn_94 (by decide) ?_
      refine lv_goto (tgt := 99) hx hb dX12_isHeardIn_95 (by decide) ?_
      have hP9 := hP
      have hD9 := hD
      have hS9 := hS
      cases hf
      exact xq_zret hx hb hr (by decide +kernel) hlocks hK hP9 hD9 hS9 dX12_isHeardIn_99
  · have hf := xq_pos hf c_
    refine lv_aload_n hx hb dX12_isHeardIn_8 rfl (lv_at hl 0 rfl) ?_
    refine lv_iload_n hx hb dX12_isHeardIn_9 rfl (lv_at hl 1 rfl) ?_
    obtain ⟨r_14, h_15, hf⟩ := xq_bd_some hf
    refine xq_callV (As := [.int p1]) (rest := []) (ci := 12) (q0 := 0) ⟨hx, hb, hml, hown, hts⟩ (kX12_farOf l dC dI cI cB cJ cZ cM z ad N a_p0 mmI mmJ mmR mm_mileOfF mm_milesToldF p1 h_15) (cwV 1 hts gX12_isHeardIn_X12_farOf rfl rfl rfl (by decide +kernel) ⟨Nat.le_of_ble_eq_true rfl, Nat.le_of_ble_eq_true rfl⟩) hN hK hP hD hS hA [0, 5, 6] (by decide) rfl rfl rfl rfl rfl rfl hl.1 rfl (Nat.le_of_ble_eq_true rfl) dX12_isHeardIn_10 ⟨Nat.zero_le _, Nat.zero_le _⟩ (fun H locs hP hD hS => ?_)
    have hP : va_P (dC, dI) vwCl [(a_p0, .inr (12, oX12 mmI mmJ mmR)), ((mmR 24), .inl (cI, 6, .inl mm_sumFromF)), ((mmR 45), .inl (cI, 22, .inl mm_nightOfF)), ((mmR 58), .inl (cI, 12, .inl mm_askedF)), ((mmR 20), .inl (cI, 14, .inl mm_sharpOfF)), ((mmR 46), .inl (cI, 22, .inl mm_mileOfF)), ((mmR 14), .inl (cI, 2, .inl mm_milesToldF)), ((mmR 25), .inl (cI, 6, .inl mm_sumBehindF)), ((mmR 57), .inl (cJ, 500, .inr (.inl mm_stackL))), ((mmR 26), .inl (cI, 3200, .inl mm_codeSortF)), ((mmR 27), .inl (cI, 3200, .inl mm_codeValueF))] H := hP
    have hD : va_D A [(a_p0, .inr (12, oX12 mmI mmJ mmR)), ((mmR 24), .inl (cI, 6, .inl mm_sumFromF)), ((mmR 45), .inl (cI, 22, .inl mm_nightOfF)), ((mmR 58), .inl (cI, 12, .inl mm_askedF)), ((mmR 20), .inl (cI, 14, .inl mm_sharpOfF)), ((mmR 46), .inl (cI, 22, .inl mm_mileOfF)), ((mmR 14), .inl (cI, 2, .inl mm_milesToldF)), ((mmR 25), .inl (cI, 6, .inl mm_sumBehindF)), ((mmR 57), .inl (cJ, 500, .inr (.inl mm_stackL))), ((mmR 26), .inl (cI, 3200, .inl mm_codeSortF)), ((mmR 27), .inl (cI, 3200, .inl mm_codeValueF))] := hD
    refine W.eq (g2 := F0 m 13 ls [.int r_14]) rfl ?_
    refine lv_bipush (v := 9) hx hb dX12_isHeardIn_13 (by decide) ?_
    refine lv_icmp_gt (tgt := 22) hx hb dX12_isHeardIn_15 (by decide) (fun c_ => ?_) (fun c_ => ?_)
    · have hf := xq_pos hf c_
      refine lv_iconst (v := 0) hx hb dX12_isHeardIn_22 (by decide) ?_
      have hP9 := hP
      have hD9 := hD
      have hS9 := hS
      cases hf
      exact xq_zret hx hb hr (by decide +kernel) hlocks hK hP9 hD9 hS9 dX12_isHeardIn_23
    · have hf := xq_neg hf c_
      refine lv_iconst (v := 1) hx hb dX12_isHeardIn_18 (by decide) ?_
      refine lv_goto (tgt := 23) hx hb dX12_isHeardIn_19 (by decide) ?_
      have hP9 := hP
      have hD9 := hD
      have hS9 := hS
      cases hf
      exact xq_zret hx hb hr (by decide +kernel) hlocks hK hP9 hD9 hS9 dX12_isHeardIn_23
def dsX12_placeOn_0 : List (Nat × Instr × Nat) := [(0, (.iconst 0, 1)), (1, (.istore_n 2, 1)), (2, (.iload_n 2, 1)), (3, (.aload_n 0, 1)), (4, (.getfield 75, 3)), (7, (.aload_n 0, 1)), (8, (.getfield 51, 3)), (11, (.iaload, 1)), (12, (.if_icmp .ge 29, 3)), (15, (.aload_n 0, 1)), (16, (.getfield 78, 3)), (19, (.bipush 6, 2)), (21, (.aload_n 0, 1)), (22, (.getfield 51, 3)), (25, (.imul, 1)), (26, (.iload_n 2, 1)), (27, (.iadd, 1)), (28, (.iaload, 1)), (29, (.iload_n 1, 1)), (30, (.if_icmp .ne 5, 3)), (33, (.iload_n 2, 1)), (34, (.ireturn, 1)), (35, (.iinc 2 1, 3)), (38, (.goto (-36), 3)), (41, (.iconst (-1), 1)), (42, (.ireturn, 1))]
theorem dsX12_placeOn_0_ok : (dsX12_placeOn_0.all fun q => decide (decode cX12_placeOn q.1 = .ok q.2)) = true := by decide +kernel
theorem dX12_placeOn_0 : decode cX12_placeOn 0 = .ok (.iconst 0, 1) := of_decide_eq_true (List.all_eq_true.mp dsX12_placeOn_0_ok (0, (.iconst 0, 1)) (List.mem_of_getElem? (i := 0) rfl))
theorem dX12_placeOn_1 : decode cX12_placeOn 1 = .ok (.istore_n 2, 1) := of_decide_eq_true (List.all_eq_true.mp dsX12_placeOn_0_ok (1, (.istore_n 2, 1)) (List.mem_of_getElem? (i := 1) rfl))
theorem dX12_placeOn_2 : decode cX12_placeOn 2 = .ok (.iload_n 2, 1) := of_decide_eq_true (List.all_eq_true.mp dsX12_placeOn_0_ok (2, (.iload_n 2, 1)) (List.mem_of_getElem? (i := 2) rfl))
theorem dX12_placeOn_3 : decode cX12_placeOn 3 = .ok (.aload_n 0, 1) := of_decide_eq_true (List.all_eq_true.mp dsX12_placeOn_0_ok (3, (.aload_n 0, 1)) (List.mem_of_getElem? (i := 3) rfl))
theorem dX12_placeOn_4 : decode cX12_placeOn 4 = .ok (.getfield 75, 3) := of_decide_eq_true (List.all_eq_true.mp dsX12_placeOn_0_ok (4, (.getfield 75, 3)) (List.mem_of_getElem? (i := 4) rfl))
theorem dX12_placeOn_7 : decode cX12_placeOn 7 = .ok (.aload_n 0, 1) := of_decide_eq_true (List.all_eq_true.mp dsX12_placeOn_0_ok (7, (.aload_n 0, 1)) (List.mem_of_getElem? (i := 5) rfl))
theorem dX12_placeOn_8 : decode cX12_placeOn 8 = .ok (.getfield 51, 3) := of_decide_eq_true (List.all_eq_true.mp dsX12_placeOn_0_ok (8, (.getfield 51, 3)) (List.mem_of_getElem? (i := 6) rfl))
theorem dX12_placeOn_11 : decode cX12_placeOn 11 = .ok (.iaload, 1) := of_decide_eq_true (List.all_eq_true.mp dsX12_placeOn_0_ok (11, (.iaload, 1)) (List.mem_of_getElem? (i := 7) rfl))
theorem dX12_placeOn_12 : decode cX12_placeOn 12 = .ok (.if_icmp .ge 29, 3) := of_decide_eq_true (List.all_eq_true.mp dsX12_placeOn_0_ok (12, (.if_icmp .ge 29, 3)) (List.mem_of_getElem? (i := 8) rfl))
theorem dX12_placeOn_15 : decode cX12_placeOn 15 = .ok (.aload_n 0, 1) := of_decide_eq_true (List.all_eq_true.mp dsX12_placeOn_0_ok (15, (.aload_n 0, 1)) (List.mem_of_getElem? (i := 9) rfl))
theorem dX12_placeOn_16 : decode cX12_placeOn 16 = .ok (.getfield 78, 3) := of_decide_eq_true (List.all_eq_true.mp dsX12_placeOn_0_ok (16, (.getfield 78, 3)) (List.mem_of_getElem? (i := 10) rfl))
theorem dX12_placeOn_19 : decode cX12_placeOn 19 = .ok (.bipush 6, 2) := of_decide_eq_true (List.all_eq_true.mp dsX12_placeOn_0_ok (19, (.bipush 6, 2)) (List.mem_of_getElem? (i := 11) rfl))
theorem dX12_placeOn_21 : decode cX12_placeOn 21 = .ok (.aload_n 0, 1) := of_decide_eq_true (List.all_eq_true.mp dsX12_placeOn_0_ok (21, (.aload_n 0, 1)) (List.mem_of_getElem? (i := 12) rfl))
theorem dX12_placeOn_22 : decode cX12_placeOn 22 = .ok (.getfield 51, 3) := of_decide_eq_true (List.all_eq_true.mp dsX12_placeOn_0_ok (22, (.getfield 51, 3)) (List.mem_of_getElem? (i := 13) rfl))
theorem dX12_placeOn_25 : decode cX12_placeOn 25 = .ok (.imul, 1) := of_decide_eq_true (List.all_eq_true.mp dsX12_placeOn_0_ok (25, (.imul, 1)) (List.mem_of_getElem? (i := 14) rfl))
theorem dX12_placeOn_26 : decode cX12_placeOn 26 = .ok (.iload_n 2, 1) := of_decide_eq_true (List.all_eq_true.mp dsX12_placeOn_0_ok (26, (.iload_n 2, 1)) (List.mem_of_getElem? (i := 15) rfl))
theorem dX12_placeOn_27 : decode cX12_placeOn 27 = .ok (.iadd, 1) := of_decide_eq_true (List.all_eq_true.mp dsX12_placeOn_0_ok (27, (.iadd, 1)) (List.mem_of_getElem? (i := 16) rfl))
theorem dX12_placeOn_28 : decode cX12_placeOn 28 = .ok (.iaload, 1) := of_decide_eq_true (List.all_eq_true.mp dsX12_placeOn_0_ok (28, (.iaload, 1)) (List.mem_of_getElem? (i := 17) rfl))
theorem dX12_placeOn_29 : decode cX12_placeOn 29 = .ok (.iload_n 1, 1) := of_decide_eq_true (List.all_eq_true.mp dsX12_placeOn_0_ok (29, (.iload_n 1, 1)) (List.mem_of_getElem? (i := 18) rfl))
theorem dX12_placeOn_30 : decode cX12_placeOn 30 = .ok (.if_icmp .ne 5, 3) := of_decide_eq_true (List.all_eq_true.mp dsX12_placeOn_0_ok (30, (.if_icmp .ne 5, 3)) (List.mem_of_getElem? (i := 19) rfl))
theorem dX12_placeOn_33 : decode cX12_placeOn 33 = .ok (.iload_n 2, 1) := of_decide_eq_true (List.all_eq_true.mp dsX12_placeOn_0_ok (33, (.iload_n 2, 1)) (List.mem_of_getElem? (i := 20) rfl))
theorem dX12_placeOn_34 : decode cX12_placeOn 34 = .ok (.ireturn, 1) := of_decide_eq_true (List.all_eq_true.mp dsX12_placeOn_0_ok (34, (.ireturn, 1)) (List.mem_of_getElem? (i := 21) rfl))
theorem dX12_placeOn_35 : decode cX12_placeOn 35 = .ok (.iinc 2 1, 3) := of_decide_eq_true (List.all_eq_true.mp dsX12_placeOn_0_ok (35, (.iinc 2 1, 3)) (List.mem_of_getElem? (i := 22) rfl))
theorem dX12_placeOn_38 : decode cX12_placeOn 38 = .ok (.goto (-36), 3) := of_decide_eq_true (List.all_eq_true.mp dsX12_placeOn_0_ok (38, (.goto (-36), 3)) (List.mem_of_getElem? (i := 23) rfl))
theorem dX12_placeOn_41 : decode cX12_placeOn 41 = .ok (.iconst (-1), 1) := of_decide_eq_true (List.all_eq_true.mp dsX12_placeOn_0_ok (41, (.iconst (-1), 1)) (List.mem_of_getElem? (i := 24) rfl))
theorem dX12_placeOn_42 : decode cX12_placeOn 42 = .ok (.ireturn, 1) := of_decide_eq_true (List.all_eq_true.mp dsX12_placeOn_0_ok (42, (.ireturn, 1)) (List.mem_of_getElem? (i := 25) rfl))
def fX12_placeOn_l2 (N : Nat) (mmI : Nat → Int32) (mm_placesF : Nat → Int32) (mm_placeAtF : Nat → Int32)  (k2 : (Int32 × Int32) → Option (Int32)) : (Int32 × Int32) → Option (Int32) :=
  fun (x1_2, x2_2) => (xq_bd (xq_ald 2 mm_placesF (mmI 13)) fun v_1 => (if v_1 ≤ x2_2 then some ((-1)) else (xq_bd (xq_ald 12 mm_placeAtF ((6 * (mmI 13)) + x2_2)) fun v_2 => (if v_2 = x1_2 then some x2_2 else k2 (x1_2, x2_2 + 1)))))
def fX12_placeOn (N : Nat) (mmI : Nat → Int32) (mm_placesF : Nat → Int32) (mm_placeAtF : Nat → Int32)  (p1 : Int32) : Option (Int32) :=
  xq_loop (fX12_placeOn_l2 N mmI mm_placesF mm_placeAtF) N (p1, 0)
set_option maxHeartbeats 4000000 in
set_option maxRecDepth 100000 in
theorem kX12_placeOn (l : Launch) (dC : Nat → ClassId) (dI : Nat → Nat → Nat) (cI cB cJ cZ cM : ClassId) (z : Nat) (ad : Nat → Nat) (N : Nat) (a_p0 : Nat) (mmI : Nat → Int32) (mmJ : Nat → Int64) (mmR : Nat → Nat) (mm_placesF : Nat → Int32) (mm_placeAtF : Nat → Int32) (p1 : Int32) {r0 : Int32} (hf : fX12_placeOn N mmI mm_placesF mm_placeAtF p1 = some r0) : xq_Ct l yX12_placeOn wsX12_placeOn { frames := 0, cells := 0, slots := 0, locals := 0 } (dC, dI) vwCl (xq_tys cI cB cJ cZ cM) z ad [.ref a_p0, .int p1] [(a_p0, .inr (12, oX12 mmI mmJ mmR)), ((mmR 21), .inl (cI, 2, .inl mm_placesF)), ((mmR 22), .inl (cI, 12, .inl mm_placeAtF))] [(a_p0, .inr (12, oX12 mmI mmJ mmR)), ((mmR 21), .inl (cI, 2, .inl mm_placesF)), ((mmR 22), .inl (cI, 12, .inl mm_placeAtF))] (some (.int r0)) := by
  intro sz
  refine Met.ofW (cc := cX12_placeOn) (maxL := 3) (ret := (some .int)) (by decide) rfl ?_
  intro p e s m args below meth c s₁ B hml hv
  obtain ⟨rfl, hsz, hP, hK, hD0, hE, hz⟩ := hv
  have hx := B.exec
  have hb := B.bytes
  have hr := B.returns
  have hts := atoms_spec (ws := wsX12_placeOn) B.pre
  have hown : s.vm.findClass RX12 = some m.cls := findClass_of_methodNamed B.named
  have hlocks := B.notSynchronized
  subst hsz
  have hD := hD0.self (sz := s.heap.size)
  have hN := xq_Env.of hE hz hD0
  generalize hAe : va_A [(a_p0, .inr (12, oX12 mmI mmJ mmR)), ((mmR 21), .inl (cI, 2, .inl mm_placesF)), ((mmR 22), .inl (cI, 12, .inl mm_placeAtF))] s.heap.size = A at hD hN ⊢
  have hA : ∀ q : Nat, s.heap.size ≤ q → A q := fun q h => by rw [← hAe]; exact Or.inr h
  clear hAe hD0
  have hS : va_S A s.heap s.heap [] := va_S.rf
  have hl := lv_entry ([.ref a_p0, .int p1]) (n := 3) (Nat.le_of_ble_eq_true rfl)
  rw [lg_entry_eq]
  generalize (lg_sl ([.ref a_p0, .int p1]) ++ List.replicate (3 - (lg_sl ([.ref a_p0, .int p1])).length) Slot.unset).toArray = ls at hl ⊢
  have hl : lv_has ls 3 [(0, .ref a_p0), (1, .int p1)] := hl
  have hw0 := hts (.fieldLink RX12 75 "DistantVoiceModel" "places" "[I") (by decide +kernel)
  have hinX12 : ∀ w ∈ wsX120, w ∈ wsX12_placeOn := fun w h => List.mem_cons_of_mem _ (List.mem_append_right _ h)
  have hw2 := hts (.fieldLink RX12 51 "DistantVoiceModel" "bank" "I") (by decide +kernel)
  have hw3 := hts (.fieldLink RX12 78 "DistantVoiceModel" "placeAt" "[I") (by decide +kernel)
  have l2 : ∀ n2 : Nat, ∀ (x1_2 : Int32) (x2_2 : Int32) (ls : Array Slot) (H : Heap) (locs : List Loc), xq_loop (fX12_placeOn_l2 N mmI mm_placesF mm_placeAtF) n2 (x1_2, x2_2) = some r0 → va_P (dC, dI) vwCl [(a_p0, .inr (12, oX12 mmI mmJ mmR)), ((mmR 21), .inl (cI, 2, .inl mm_placesF)), ((mmR 22), .inl (cI, 12, .inl mm_placeAtF))] H → va_D A [(a_p0, .inr (12, oX12 mmI mmJ mmR)), ((mmR 21), .inl (cI, 2, .inl mm_placesF)), ((mmR 22), .inl (cI, 12, .inl mm_placeAtF))] → va_S A s.heap H locs → lv_has ls 3 [(0, .ref a_p0), (1, .int x1_2), (2, .int x2_2)] → W p l e (headSpec wsX12_placeOn { frames := 0, cells := 0, slots := 0, locals := 0 }).room s m [.ref a_p0, .int p1].toArray below meth c H locs 0 0 (MQ below (xq_Q (dC, dI) vwCl (xq_tys cI cB cJ cZ cM) A [(a_p0, .inr (12, oX12 mmI mmJ mmR)), ((mmR 21), .inl (cI, 2, .inl mm_placesF)), ((mmR 22), .inl (cI, 12, .inl mm_placeAtF))] (some (.int r0))) [.ref a_p0, .int p1].toArray s 0 0 A) (F0 m 2 ls []) := by
    intro n2
    induction n2 with
    | zero => intro x1_2 x2_2 ls H locs hf; cases (show none = some r0 from hf)
    | succ n2 ih2 =>
      intro x1_2 x2_2 ls H locs hf hP hD hS hl
      have hf : fX12_placeOn_l2 N mmI mm_placesF mm_placeAtF (xq_loop (fX12_placeOn_l2 N mmI mm_placesF mm_placeAtF) n2) (x1_2, x2_2) = some r0 := hf
      unfold fX12_placeOn_l2 at hf
      refine lv_iload_n hx hb dX12_placeOn_2 rfl (lv_at hl 2 rfl) ?_
      refine lv_aload_n hx hb dX12_placeOn_3 rfl (lv_at hl 0 rfl) ?_
      refine va_get (D := (dC, dI)) (ci := 12) (v := .ref ((mmR 21))) (C := RX12) (T := TX12) (N := 70) hx hb hts hinX12 hown hK hP 0 rfl rfl 21 (by decide) hw0 (fun _ h9 => h9) rfl dX12_placeOn_4 ?_
      refine lv_aload_n hx hb dX12_placeOn_7 rfl (lv_at hl 0 rfl) ?_
      refine va_get (D := (dC, dI)) (ci := 12) (v := .int (mmI 13)) (C := RX12) (T := TX12) (N := 70) hx hb hts hinX12 hown hK hP 0 rfl rfl 13 (by decide) hw2 (fun _ h9 => h9) rfl dX12_placeOn_8 ?_
      refine xq_iald hx hb hK hP 1 0 rfl rfl hf dX12_placeOn_11 (fun v_1 hf => ?_)
      refine lv_icmp_ge (tgt := 41) hx hb dX12_placeOn_12 (by decide) (fun c_ => ?_) (fun c_ => ?_)
      · have hf := xq_pos hf c_
        refine lv_iconst (v := (-1)) hx hb dX12_placeOn_41 (by decide) ?_
        have hP9 := hP
        have hD9 := hD
        have hS9 := hS
        cases hf
        exact xq_iret hx hb hr hlocks hK hP9 hD9 hS9 dX12_placeOn_42
      · have hf := xq_neg hf c_
        refine lv_aload_n hx hb dX12_placeOn_15 rfl (lv_at hl 0 rfl) ?_
        refine va_get (D := (dC, dI)) (ci := 12) (v := .ref ((mmR 22))) (C := RX12) (T := TX12) (N := 70) hx hb hts hinX12 hown hK hP 0 rfl rfl 22 (by decide) hw3 (fun _ h9 => h9) rfl dX12_placeOn_16 ?_
        refine lv_bipush (v := 6) hx hb dX12_placeOn_19 (by decide) ?_
        refine lv_aload_n hx hb dX12_placeOn_21 rfl (lv_at hl 0 rfl) ?_
        refine va_get (D := (dC, dI)) (ci := 12) (v := .int (mmI 13)) (C := RX12) (T := TX12) (N := 70) hx hb hts hinX12 hown hK hP 0 rfl rfl 13 (by decide) hw2 (fun _ h9 => h9) rfl dX12_placeOn_22 ?_
        refine lv_imul hx hb dX12_placeOn_25 ?_
        refine lv_iload_n hx hb dX12_placeOn_26 rfl (lv_at hl 2 rfl) ?_
        refine lv_iadd hx hb dX12_placeOn_27 ?_
        refine xq_iald hx hb hK hP 2 0 rfl rfl hf dX12_placeOn_28 (fun v_2 hf => ?_)
        refine lv_iload_n hx hb dX12_placeOn_29 rfl (lv_at hl 1 rfl) ?_
        refine lv_icmp_ne (tgt := 35) hx hb dX12_placeOn_30 (by decide) (fun c_ => ?_) (fun c_ => ?_)
        · have hf := xq_neg hf c_
          refine lv_iinc (v := x2_2 + 1) (lv' := [(2, .int (x2_2 + 1)), (0, .ref a_p0), (1, .int x1_2)]) hx hb dX12_placeOn_35 hl (k := 2) rfl (congrArg (fun q9 => x2_2 + q9) (by decide : Int32.ofInt 1 = 1)) (by decide) rfl (fun ls hl => ?_)
          refine lv_goto (tgt := 2) hx hb dX12_placeOn_38 (by decide) ?_
          exact ih2 x1_2 (x2_2 + 1) _ _ _ hf hP hD hS (lv_sub hl [1, 2, 0] rfl)
        · have hf := xq_pos hf c_
          refine lv_iload_n hx hb dX12_placeOn_33 rfl (lv_at hl 2 rfl) ?_
          have hP9 := hP
          have hD9 := hD
          have hS9 := hS
          cases hf
          exact xq_iret hx hb hr hlocks hK hP9 hD9 hS9 dX12_placeOn_34
  unfold fX12_placeOn at hf
  refine lv_iconst (v := 0) hx hb dX12_placeOn_0 (by decide) ?_
  refine lv_istore_n (lv' := [(2, .int 0), (0, .ref a_p0), (1, .int p1)]) hx hb dX12_placeOn_1 rfl hl (by decide) rfl (fun ls hl => ?_)
  exact l2 N p1 0 _ _ _ hf hP hD hS (lv_sub hl [1, 2, 0] rfl)
set_option maxRecDepth 20000 in
theorem ggX12_walks_X12_strideOf : GoodIn wsX12_walks wsX12_strideOf := goodIn_r _ [10, 11, 12, 1, 4, 13, 14, 15, 9, 16, 17, 3, 18, 19, 20, 21, 22, 23, 24, 25, 26, 27, 28, 29, 30, 31, 32, 33, 34, 35, 36, 37, 38, 39, 51, 52, 53, 54, 55, 56, 57, 58, 59, 60, 61, 62, 63, 64, 65, 66, 67, 68, 69, 70, 71, 72, 73, 74, 75, 76, 77, 78, 79, 80, 81, 82, 83, 84, 85, 86, 87, 88, 89, 90, 91, 92, 93, 94, 95, 96, 97, 98, 99, 100, 101, 102, 103, 104, 105, 106, 107, 108, 109, 110, 111, 112, 113, 114, 115, 116, 117, 118, 119, 120] rfl (by decide +kernel)
set_option maxRecDepth 20000 in
theorem gX12_walks_X12_strideOf : GoodIn wsX12_walks (wsV RX12 427 RX12 yX12_strideOf wsX12_strideOf) := goodIn_app (goodIn_of _ (by decide +kernel)) ggX12_walks_X12_strideOf
set_option maxRecDepth 20000 in
theorem ggX12_walks_X12_placeOn : GoodIn wsX12_walks wsX12_placeOn := goodIn_r _ [43, 44, 3, 45, 51, 52, 53, 54, 55, 56, 57, 58, 59, 60, 61, 62, 63, 64, 65, 66, 67, 68, 69, 70, 71, 72, 73, 74, 75, 76, 77, 78, 79, 80, 81, 82, 83, 84, 85, 86, 87, 88, 89, 90, 91, 92, 93, 94, 95, 96, 97, 98, 99, 100, 101, 102, 103, 104, 105, 106, 107, 108, 109, 110, 111, 112, 113, 114, 115, 116, 117, 118, 119, 120] rfl (by decide +kernel)
set_option maxRecDepth 20000 in
theorem gX12_walks_X12_placeOn : GoodIn wsX12_walks (wsV RX12 430 RX12 yX12_placeOn wsX12_placeOn) := goodIn_app (goodIn_of _ (by decide +kernel)) ggX12_walks_X12_placeOn
set_option maxRecDepth 20000 in
theorem ggX12_walks_X12_talkAt : GoodIn wsX12_walks wsX12_talkAt := goodIn_r _ [49, 50, 11, 12, 13, 14, 15, 9, 16, 17, 3, 18, 19, 20, 21, 22, 23, 24, 25, 26, 27, 28, 29, 30, 31, 32, 33, 34, 35, 36, 37, 38, 39, 51, 52, 53, 54, 55, 56, 57, 58, 59, 60, 61, 62, 63, 64, 65, 66, 67, 68, 69, 70, 71, 72, 73, 74, 75, 76, 77, 78, 79, 80, 81, 82, 83, 84, 85, 86, 87, 88, 89, 90, 91, 92, 93, 94, 95, 96, 97, 98, 99, 100, 101, 102, 103, 104, 105, 106, 107, 108, 109, 110, 111, 112, 113, 114, 115, 116, 117, 118, 119, 120] rfl (by decide +kernel)
set_option maxRecDepth 20000 in
theorem gX12_walks_X12_talkAt : GoodIn wsX12_walks (wsV RX12 433 RX12 yX12_talkAt wsX12_talkAt) := goodIn_app (goodIn_of _ (by decide +kernel)) ggX12_walks_X12_talkAt
def dsX12_walks_0 : List (Nat × Instr × Nat) := [(0, (.aload_n 0, 1)), (1, (.iload_n 1, 1)), (2, (.iload_n 2, 1)), (3, (.invokevirtual 427, 3)), (6, (.istore_n 3, 1)), (7, (.iload_n 3, 1)), (8, (.ifCond .le 103, 3)), (11, (.iinc 3 (-1), 3)), (14, (.aload_n 0, 1)), (15, (.getfield 153, 3)), (18, (.iload_n 1, 1)), (19, (.dup2, 1)), (20, (.iaload, 1)), (21, (.iconst 1, 1)), (22, (.iadd, 1)), (23, (.iastore, 1)), (24, (.aload_n 0, 1)), (25, (.getfield 153, 3)), (28, (.iload_n 1, 1)), (29, (.iaload, 1)), (30, (.aload_n 0, 1)), (31, (.getfield 54, 3)), (34, (.aload_n 0, 1)), (35, (.getfield 51, 3)), (38, (.iaload, 1)), (39, (.if_icmp .ne 32, 3)), (42, (.aload_n 0, 1)), (43, (.getfield 153, 3)), (46, (.iload_n 1, 1)), (47, (.iconst 0, 1)), (48, (.iastore, 1)), (49, (.aload_n 0, 1)), (50, (.getfield 156, 3)), (53, (.iload_n 1, 1)), (54, (.iaload, 1)), (55, (.sipush 999, 3)), (58, (.if_icmp .ge 13, 3)), (61, (.aload_n 0, 1)), (62, (.getfield 156, 3)), (65, (.iload_n 1, 1)), (66, (.dup2, 1)), (67, (.iaload, 1)), (68, (.iconst 1, 1)), (69, (.iadd, 1)), (70, (.iastore, 1)), (71, (.aload_n 0, 1)), (72, (.aload_n 0, 1)), (73, (.getfield 153, 3)), (76, (.iload_n 1, 1)), (77, (.iaload, 1)), (78, (.invokevirtual 430, 3)), (81, (.istore 4, 2)), (83, (.iload 4, 2)), (85, (.iconst (-1), 1)), (86, (.if_icmp .ne 6, 3)), (89, (.goto (-82), 3)), (92, (.aload_n 0, 1)), (93, (.getfield 159, 3)), (96, (.iload_n 1, 1)), (97, (.aload_n 0, 1))]
theorem dsX12_walks_0_ok : (dsX12_walks_0.all fun q => decide (decode cX12_walks q.1 = .ok q.2)) = true := by decide +kernel
theorem dX12_walks_0 : decode cX12_walks 0 = .ok (.aload_n 0, 1) := of_decide_eq_true (List.all_eq_true.mp dsX12_walks_0_ok (0, (.aload_n 0, 1)) (List.mem_of_getElem? (i := 0) rfl))
theorem dX12_walks_1 : decode cX12_walks 1 = .ok (.iload_n 1, 1) := of_decide_eq_true (List.all_eq_true.mp dsX12_walks_0_ok (1, (.iload_n 1, 1)) (List.mem_of_getElem? (i := 1) rfl))
theorem dX12_walks_2 : decode cX12_walks 2 = .ok (.iload_n 2, 1) := of_decide_eq_true (List.all_eq_true.mp dsX12_walks_0_ok (2, (.iload_n 2, 1)) (List.mem_of_getElem? (i := 2) rfl))
theorem dX12_walks_3 : decode cX12_walks 3 = .ok (.invokevirtual 427, 3) := of_decide_eq_true (List.all_eq_true.mp dsX12_walks_0_ok (3, (.invokevirtual 427, 3)) (List.mem_of_getElem? (i := 3) rfl))
theorem dX12_walks_6 : decode cX12_walks 6 = .ok (.istore_n 3, 1) := of_decide_eq_true (List.all_eq_true.mp dsX12_walks_0_ok (6, (.istore_n 3, 1)) (List.mem_of_getElem? (i := 4) rfl))
theorem dX12_walks_7 : decode cX12_walks 7 = .ok (.iload_n 3, 1) := of_decide_eq_true (List.all_eq_true.mp dsX12_walks_0_ok (7, (.iload_n 3, 1)) (List.mem_of_getElem? (i := 5) rfl))
theorem dX12_walks_8 : decode cX12_walks 8 = .ok (.ifCond .le 103, 3) := of_decide_eq_true (List.all_eq_true.mp dsX12_walks_0_ok (8, (.ifCond .le 103, 3)) (List.mem_of_getElem? (i := 6) rfl))
theorem dX12_walks_11 : decode cX12_walks 11 = .ok (.iinc 3 (-1), 3) := of_decide_eq_true (List.all_eq_true.mp dsX12_walks_0_ok (11, (.iinc 3 (-1), 3)) (List.mem_of_getElem? (i := 7) rfl))
theorem dX12_walks_14 : decode cX12_walks 14 = .ok (.aload_n 0, 1) := of_decide_eq_true (List.all_eq_true.mp dsX12_walks_0_ok (14, (.aload_n 0, 1)) (List.mem_of_getElem? (i := 8) rfl))
theorem dX12_walks_15 : decode cX12_walks 15 = .ok (.getfield 153, 3) := of_decide_eq_true (List.all_eq_true.mp dsX12_walks_0_ok (15, (.getfield 153, 3)) (List.mem_of_getElem? (i := 9) rfl))
theorem dX12_walks_18 : decode cX12_walks 18 = .ok (.iload_n 1, 1) := of_decide_eq_true (List.all_eq_true.mp dsX12_walks_0_ok (18, (.iload_n 1, 1)) (List.mem_of_getElem? (i := 10) rfl))
theorem dX12_walks_19 : decode cX12_walks 19 = .ok (.dup2, 1) := of_decide_eq_true (List.all_eq_true.mp dsX12_walks_0_ok (19, (.dup2, 1)) (List.mem_of_getElem? (i := 11) rfl))
theorem dX12_walks_20 : decode cX12_walks 20 = .ok (.iaload, 1) := of_decide_eq_true (List.all_eq_true.mp dsX12_walks_0_ok (20, (.iaload, 1)) (List.mem_of_getElem? (i := 12) rfl))
theorem dX12_walks_21 : decode cX12_walks 21 = .ok (.iconst 1, 1) := of_decide_eq_true (List.all_eq_true.mp dsX12_walks_0_ok (21, (.iconst 1, 1)) (List.mem_of_getElem? (i := 13) rfl))
theorem dX12_walks_22 : decode cX12_walks 22 = .ok (.iadd, 1) := of_decide_eq_true (List.all_eq_true.mp dsX12_walks_0_ok (22, (.iadd, 1)) (List.mem_of_getElem? (i := 14) rfl))
theorem dX12_walks_23 : decode cX12_walks 23 = .ok (.iastore, 1) := of_decide_eq_true (List.all_eq_true.mp dsX12_walks_0_ok (23, (.iastore, 1)) (List.mem_of_getElem? (i := 15) rfl))
theorem dX12_walks_24 : decode cX12_walks 24 = .ok (.aload_n 0, 1) := of_decide_eq_true (List.all_eq_true.mp dsX12_walks_0_ok (24, (.aload_n 0, 1)) (List.mem_of_getElem? (i := 16) rfl))
theorem dX12_walks_25 : decode cX12_walks 25 = .ok (.getfield 153, 3) := of_decide_eq_true (List.all_eq_true.mp dsX12_walks_0_ok (25, (.getfield 153, 3)) (List.mem_of_getElem? (i := 17) rfl))
theorem dX12_walks_28 : decode cX12_walks 28 = .ok (.iload_n 1, 1) := of_decide_eq_true (List.all_eq_true.mp dsX12_walks_0_ok (28, (.iload_n 1, 1)) (List.mem_of_getElem? (i := 18) rfl))
theorem dX12_walks_29 : decode cX12_walks 29 = .ok (.iaload, 1) := of_decide_eq_true (List.all_eq_true.mp dsX12_walks_0_ok (29, (.iaload, 1)) (List.mem_of_getElem? (i := 19) rfl))
theorem dX12_walks_30 : decode cX12_walks 30 = .ok (.aload_n 0, 1) := of_decide_eq_true (List.all_eq_true.mp dsX12_walks_0_ok (30, (.aload_n 0, 1)) (List.mem_of_getElem? (i := 20) rfl))
theorem dX12_walks_31 : decode cX12_walks 31 = .ok (.getfield 54, 3) := of_decide_eq_true (List.all_eq_true.mp dsX12_walks_0_ok (31, (.getfield 54, 3)) (List.mem_of_getElem? (i := 21) rfl))
theorem dX12_walks_34 : decode cX12_walks 34 = .ok (.aload_n 0, 1) := of_decide_eq_true (List.all_eq_true.mp dsX12_walks_0_ok (34, (.aload_n 0, 1)) (List.mem_of_getElem? (i := 22) rfl))
theorem dX12_walks_35 : decode cX12_walks 35 = .ok (.getfield 51, 3) := of_decide_eq_true (List.all_eq_true.mp dsX12_walks_0_ok (35, (.getfield 51, 3)) (List.mem_of_getElem? (i := 23) rfl))
theorem dX12_walks_38 : decode cX12_walks 38 = .ok (.iaload, 1) := of_decide_eq_true (List.all_eq_true.mp dsX12_walks_0_ok (38, (.iaload, 1)) (List.mem_of_getElem? (i := 24) rfl))
theorem dX12_walks_39 : decode cX12_walks 39 = .ok (.if_icmp .ne 32, 3) := of_decide_eq_true (List.all_eq_true.mp dsX12_walks_0_ok (39, (.if_icmp .ne 32, 3)) (List.mem_of_getElem? (i := 25) rfl))
theorem dX12_walks_42 : decode cX12_walks 42 = .ok (.aload_n 0, 1) := of_decide_eq_true (List.all_eq_true.mp dsX12_walks_0_ok (42, (.aload_n 0, 1)) (List.mem_of_getElem? (i := 26) rfl))
theorem dX12_walks_43 : decode cX12_walks 43 = .ok (.getfield 153, 3) := of_decide_eq_true (List.all_eq_true.mp dsX12_walks_0_ok (43, (.getfield 153, 3)) (List.mem_of_getElem? (i := 27) rfl))
theorem dX12_walks_46 : decode cX12_walks 46 = .ok (.iload_n 1, 1) := of_decide_eq_true (List.all_eq_true.mp dsX12_walks_0_ok (46, (.iload_n 1, 1)) (List.mem_of_getElem? (i := 28) rfl))
theorem dX12_walks_47 : decode cX12_walks 47 = .ok (.iconst 0, 1) := of_decide_eq_true (List.all_eq_true.mp dsX12_walks_0_ok (47, (.iconst 0, 1)) (List.mem_of_getElem? (i := 29) rfl))
theorem dX12_walks_48 : decode cX12_walks 48 = .ok (.iastore, 1) := of_decide_eq_true (List.all_eq_true.mp dsX12_walks_0_ok (48, (.iastore, 1)) (List.mem_of_getElem? (i := 30) rfl))
theorem dX12_walks_49 : decode cX12_walks 49 = .ok (.aload_n 0, 1) := of_decide_eq_true (List.all_eq_true.mp dsX12_walks_0_ok (49, (.aload_n 0, 1)) (List.mem_of_getElem? (i := 31) rfl))
theorem dX12_walks_50 : decode cX12_walks 50 = .ok (.getfield 156, 3) := of_decide_eq_true (List.all_eq_true.mp dsX12_walks_0_ok (50, (.getfield 156, 3)) (List.mem_of_getElem? (i := 32) rfl))
theorem dX12_walks_53 : decode cX12_walks 53 = .ok (.iload_n 1, 1) := of_decide_eq_true (List.all_eq_true.mp dsX12_walks_0_ok (53, (.iload_n 1, 1)) (List.mem_of_getElem? (i := 33) rfl))
theorem dX12_walks_54 : decode cX12_walks 54 = .ok (.iaload, 1) := of_decide_eq_true (List.all_eq_true.mp dsX12_walks_0_ok (54, (.iaload, 1)) (List.mem_of_getElem? (i := 34) rfl))
theorem dX12_walks_55 : decode cX12_walks 55 = .ok (.sipush 999, 3) := of_decide_eq_true (List.all_eq_true.mp dsX12_walks_0_ok (55, (.sipush 999, 3)) (List.mem_of_getElem? (i := 35) rfl))
theorem dX12_walks_58 : decode cX12_walks 58 = .ok (.if_icmp .ge 13, 3) := of_decide_eq_true (List.all_eq_true.mp dsX12_walks_0_ok (58, (.if_icmp .ge 13, 3)) (List.mem_of_getElem? (i := 36) rfl))
theorem dX12_walks_61 : decode cX12_walks 61 = .ok (.aload_n 0, 1) := of_decide_eq_true (List.all_eq_true.mp dsX12_walks_0_ok (61, (.aload_n 0, 1)) (List.mem_of_getElem? (i := 37) rfl))
theorem dX12_walks_62 : decode cX12_walks 62 = .ok (.getfield 156, 3) := of_decide_eq_true (List.all_eq_true.mp dsX12_walks_0_ok (62, (.getfield 156, 3)) (List.mem_of_getElem? (i := 38) rfl))
theorem dX12_walks_65 : decode cX12_walks 65 = .ok (.iload_n 1, 1) := of_decide_eq_true (List.all_eq_true.mp dsX12_walks_0_ok (65, (.iload_n 1, 1)) (List.mem_of_getElem? (i := 39) rfl))
theorem dX12_walks_66 : decode cX12_walks 66 = .ok (.dup2, 1) := of_decide_eq_true (List.all_eq_true.mp dsX12_walks_0_ok (66, (.dup2, 1)) (List.mem_of_getElem? (i := 40) rfl))
theorem dX12_walks_67 : decode cX12_walks 67 = .ok (.iaload, 1) := of_decide_eq_true (List.all_eq_true.mp dsX12_walks_0_ok (67, (.iaload, 1)) (List.mem_of_getElem? (i := 41) rfl))
theorem dX12_walks_68 : decode cX12_walks 68 = .ok (.iconst 1, 1) := of_decide_eq_true (List.all_eq_true.mp dsX12_walks_0_ok (68, (.iconst 1, 1)) (List.mem_of_getElem? (i := 42) rfl))
theorem dX12_walks_69 : decode cX12_walks 69 = .ok (.iadd, 1) := of_decide_eq_true (List.all_eq_true.mp dsX12_walks_0_ok (69, (.iadd, 1)) (List.mem_of_getElem? (i := 43) rfl))
theorem dX12_walks_70 : decode cX12_walks 70 = .ok (.iastore, 1) := of_decide_eq_true (List.all_eq_true.mp dsX12_walks_0_ok (70, (.iastore, 1)) (List.mem_of_getElem? (i := 44) rfl))
theorem dX12_walks_71 : decode cX12_walks 71 = .ok (.aload_n 0, 1) := of_decide_eq_true (List.all_eq_true.mp dsX12_walks_0_ok (71, (.aload_n 0, 1)) (List.mem_of_getElem? (i := 45) rfl))
theorem dX12_walks_72 : decode cX12_walks 72 = .ok (.aload_n 0, 1) := of_decide_eq_true (List.all_eq_true.mp dsX12_walks_0_ok (72, (.aload_n 0, 1)) (List.mem_of_getElem? (i := 46) rfl))
theorem dX12_walks_73 : decode cX12_walks 73 = .ok (.getfield 153, 3) := of_decide_eq_true (List.all_eq_true.mp dsX12_walks_0_ok (73, (.getfield 153, 3)) (List.mem_of_getElem? (i := 47) rfl))
theorem dX12_walks_76 : decode cX12_walks 76 = .ok (.iload_n 1, 1) := of_decide_eq_true (List.all_eq_true.mp dsX12_walks_0_ok (76, (.iload_n 1, 1)) (List.mem_of_getElem? (i := 48) rfl))
theorem dX12_walks_77 : decode cX12_walks 77 = .ok (.iaload, 1) := of_decide_eq_true (List.all_eq_true.mp dsX12_walks_0_ok (77, (.iaload, 1)) (List.mem_of_getElem? (i := 49) rfl))
theorem dX12_walks_78 : decode cX12_walks 78 = .ok (.invokevirtual 430, 3) := of_decide_eq_true (List.all_eq_true.mp dsX12_walks_0_ok (78, (.invokevirtual 430, 3)) (List.mem_of_getElem? (i := 50) rfl))
theorem dX12_walks_81 : decode cX12_walks 81 = .ok (.istore 4, 2) := of_decide_eq_true (List.all_eq_true.mp dsX12_walks_0_ok (81, (.istore 4, 2)) (List.mem_of_getElem? (i := 51) rfl))
theorem dX12_walks_83 : decode cX12_walks 83 = .ok (.iload 4, 2) := of_decide_eq_true (List.all_eq_true.mp dsX12_walks_0_ok (83, (.iload 4, 2)) (List.mem_of_getElem? (i := 52) rfl))
theorem dX12_walks_85 : decode cX12_walks 85 = .ok (.iconst (-1), 1) := of_decide_eq_true (List.all_eq_true.mp dsX12_walks_0_ok (85, (.iconst (-1), 1)) (List.mem_of_getElem? (i := 53) rfl))
theorem dX12_walks_86 : decode cX12_walks 86 = .ok (.if_icmp .ne 6, 3) := of_decide_eq_true (List.all_eq_true.mp dsX12_walks_0_ok (86, (.if_icmp .ne 6, 3)) (List.mem_of_getElem? (i := 54) rfl))
theorem dX12_walks_89 : decode cX12_walks 89 = .ok (.goto (-82), 3) := of_decide_eq_true (List.all_eq_true.mp dsX12_walks_0_ok (89, (.goto (-82), 3)) (List.mem_of_getElem? (i := 55) rfl))
theorem dX12_walks_92 : decode cX12_walks 92 = .ok (.aload_n 0, 1) := of_decide_eq_true (List.all_eq_true.mp dsX12_walks_0_ok (92, (.aload_n 0, 1)) (List.mem_of_getElem? (i := 56) rfl))
theorem dX12_walks_93 : decode cX12_walks 93 = .ok (.getfield 159, 3) := of_decide_eq_true (List.all_eq_true.mp dsX12_walks_0_ok (93, (.getfield 159, 3)) (List.mem_of_getElem? (i := 57) rfl))
theorem dX12_walks_96 : decode cX12_walks 96 = .ok (.iload_n 1, 1) := of_decide_eq_true (List.all_eq_true.mp dsX12_walks_0_ok (96, (.iload_n 1, 1)) (List.mem_of_getElem? (i := 58) rfl))
theorem dX12_walks_97 : decode cX12_walks 97 = .ok (.aload_n 0, 1) := of_decide_eq_true (List.all_eq_true.mp dsX12_walks_0_ok (97, (.aload_n 0, 1)) (List.mem_of_getElem? (i := 59) rfl))
def dsX12_walks_1 : List (Nat × Instr × Nat) := [(98, (.iload_n 1, 1)), (99, (.iload 4, 2)), (101, (.iload_n 2, 1)), (102, (.invokevirtual 433, 3)), (105, (.iastore, 1)), (106, (.iconst 0, 1)), (107, (.istore_n 3, 1)), (108, (.goto (-101), 3)), (111, (.return_, 1))]
theorem dsX12_walks_1_ok : (dsX12_walks_1.all fun q => decide (decode cX12_walks q.1 = .ok q.2)) = true := by decide +kernel
theorem dX12_walks_98 : decode cX12_walks 98 = .ok (.iload_n 1, 1) := of_decide_eq_true (List.all_eq_true.mp dsX12_walks_1_ok (98, (.iload_n 1, 1)) (List.mem_of_getElem? (i := 0) rfl))
theorem dX12_walks_99 : decode cX12_walks 99 = .ok (.iload 4, 2) := of_decide_eq_true (List.all_eq_true.mp dsX12_walks_1_ok (99, (.iload 4, 2)) (List.mem_of_getElem? (i := 1) rfl))
theorem dX12_walks_101 : decode cX12_walks 101 = .ok (.iload_n 2, 1) := of_decide_eq_true (List.all_eq_true.mp dsX12_walks_1_ok (101, (.iload_n 2, 1)) (List.mem_of_getElem? (i := 2) rfl))
theorem dX12_walks_102 : decode cX12_walks 102 = .ok (.invokevirtual 433, 3) := of_decide_eq_true (List.all_eq_true.mp dsX12_walks_1_ok (102, (.invokevirtual 433, 3)) (List.mem_of_getElem? (i := 3) rfl))
theorem dX12_walks_105 : decode cX12_walks 105 = .ok (.iastore, 1) := of_decide_eq_true (List.all_eq_true.mp dsX12_walks_1_ok (105, (.iastore, 1)) (List.mem_of_getElem? (i := 4) rfl))
theorem dX12_walks_106 : decode cX12_walks 106 = .ok (.iconst 0, 1) := of_decide_eq_true (List.all_eq_true.mp dsX12_walks_1_ok (106, (.iconst 0, 1)) (List.mem_of_getElem? (i := 5) rfl))
theorem dX12_walks_107 : decode cX12_walks 107 = .ok (.istore_n 3, 1) := of_decide_eq_true (List.all_eq_true.mp dsX12_walks_1_ok (107, (.istore_n 3, 1)) (List.mem_of_getElem? (i := 6) rfl))
theorem dX12_walks_108 : decode cX12_walks 108 = .ok (.goto (-101), 3) := of_decide_eq_true (List.all_eq_true.mp dsX12_walks_1_ok (108, (.goto (-101), 3)) (List.mem_of_getElem? (i := 7) rfl))
theorem dX12_walks_111 : decode cX12_walks 111 = .ok (.return_, 1) := of_decide_eq_true (List.all_eq_true.mp dsX12_walks_1_ok (111, (.return_, 1)) (List.mem_of_getElem? (i := 8) rfl))
def fX12_walks_b71 (N : Nat) (mmI : Nat → Int32) (mm_sumFromF : Nat → Int32) (mm_nightOfF : Nat → Int32) (mm_sumBehindF : Nat → Int32) (mm_codeSortF : Nat → Int32) (mm_codeValueF : Nat → Int32) (mm_milesToldF : Nat → Int32) (mm_placesF : Nat → Int32) (mm_placeAtF : Nat → Int32) (mm_talkOfF : Nat → Int32)  (k7 : ((Nat → Int32) × (Nat → Int32) × (Nat → Int32) × (Nat → Int64) × (Nat → Int32) × Int32 × Int32 × Int32) → Option ((Nat → Int32) × (Nat → Int32) × (Nat → Int32) × (Nat → Int64) × (Nat → Int32))) : ((Nat → Int32) × (Nat → Int32) × (Nat → Int32) × (Nat → Int64) × (Nat → Int32) × Int32 × Int32 × Int32) → Option ((Nat → Int32) × (Nat → Int32) × (Nat → Int32) × (Nat → Int64) × (Nat → Int32)) :=
  fun (mm_askedF_71, mm_mileOfF_71, mm_roundsOfF_71, mm_stackL_71, mm_talkingOfF_71, x1_71, x2_71, x3_71) => (xq_bd (xq_ald 22 mm_mileOfF_71 x1_71) fun v_1 => (xq_bd (fX12_placeOn N mmI mm_placesF mm_placeAtF v_1) fun r_2 => (if r_2 = ((-1)) then k7 (mm_askedF_71, mm_mileOfF_71, mm_roundsOfF_71, mm_stackL_71, mm_talkingOfF_71, x1_71, x2_71, x3_71) else (xq_bd (fX12_talkAt N mmI mm_talkOfF mm_sumFromF mm_nightOfF mm_askedF_71 mm_sumBehindF mm_stackL_71 mm_codeSortF mm_codeValueF x1_71 r_2 x2_71) fun (r_4_0, r_4_1, r_4_2) => (xq_bd (xq_ast 22 mm_talkingOfF_71 x1_71 r_4_0) fun g_6 => k7 (r_4_1, mm_mileOfF_71, mm_roundsOfF_71, r_4_2, g_6, x1_71, x2_71, 0))))))
def fX12_walks_l7 (N : Nat) (mmI : Nat → Int32) (mm_sumFromF : Nat → Int32) (mm_nightOfF : Nat → Int32) (mm_sumBehindF : Nat → Int32) (mm_codeSortF : Nat → Int32) (mm_codeValueF : Nat → Int32) (mm_milesToldF : Nat → Int32) (mm_placesF : Nat → Int32) (mm_placeAtF : Nat → Int32) (mm_talkOfF : Nat → Int32)  (k7 : ((Nat → Int32) × (Nat → Int32) × (Nat → Int32) × (Nat → Int64) × (Nat → Int32) × Int32 × Int32 × Int32) → Option ((Nat → Int32) × (Nat → Int32) × (Nat → Int32) × (Nat → Int64) × (Nat → Int32))) : ((Nat → Int32) × (Nat → Int32) × (Nat → Int32) × (Nat → Int64) × (Nat → Int32) × Int32 × Int32 × Int32) → Option ((Nat → Int32) × (Nat → Int32) × (Nat → Int32) × (Nat → Int64) × (Nat → Int32)) :=
  fun (mm_askedF_7, mm_mileOfF_7, mm_roundsOfF_7, mm_stackL_7, mm_talkingOfF_7, x1_7, x2_7, x3_7) => (if x3_7 ≤ 0 then some ((mm_askedF_7, mm_mileOfF_7, mm_roundsOfF_7, mm_stackL_7, mm_talkingOfF_7)) else (xq_bd (xq_ald 22 mm_mileOfF_7 x1_7) fun v_7 => (xq_bd (xq_ast 22 mm_mileOfF_7 x1_7 (v_7 + 1)) fun g_8 => (xq_bd (xq_ald 22 g_8 x1_7) fun v_9 => (xq_bd (xq_ald 2 mm_milesToldF (mmI 13)) fun v_10 => (if v_9 = v_10 then (xq_bd (xq_ast 22 g_8 x1_7 0) fun g_11 => (xq_bd (xq_ald 22 mm_roundsOfF_7 x1_7) fun v_12 => (if 999 ≤ v_12 then fX12_walks_b71 N mmI mm_sumFromF mm_nightOfF mm_sumBehindF mm_codeSortF mm_codeValueF mm_milesToldF mm_placesF mm_placeAtF mm_talkOfF k7 (mm_askedF_7, g_11, mm_roundsOfF_7, mm_stackL_7, mm_talkingOfF_7, x1_7, x2_7, x3_7 + (-1)) else (xq_bd (xq_ald 22 mm_roundsOfF_7 x1_7) fun v_13 => (xq_bd (xq_ast 22 mm_roundsOfF_7 x1_7 (v_13 + 1)) fun g_14 => fX12_walks_b71 N mmI mm_sumFromF mm_nightOfF mm_sumBehindF mm_codeSortF mm_codeValueF mm_milesToldF mm_placesF mm_placeAtF mm_talkOfF k7 (mm_askedF_7, g_11, g_14, mm_stackL_7, mm_talkingOfF_7, x1_7, x2_7, x3_7 + (-1))))))) else fX12_walks_b71 N mmI mm_sumFromF mm_nightOfF mm_sumBehindF mm_codeSortF mm_codeValueF mm_milesToldF mm_placesF mm_placeAtF mm_talkOfF k7 (mm_askedF_7, g_8, mm_roundsOfF_7, mm_stackL_7, mm_talkingOfF_7, x1_7, x2_7, x3_7 + (-1))))))))
def fX12_walks (N : Nat) (mmI : Nat → Int32) (mm_sumFromF : Nat → Int32) (mm_nightOfF : Nat → Int32) (mm_askedF : Nat → Int32) (mm_mileOfF : Nat → Int32) (mm_roundsOfF : Nat → Int32) (mm_sumBehindF : Nat → Int32) (mm_stackL : Nat → Int64) (mm_codeSortF : Nat → Int32) (mm_codeValueF : Nat → Int32) (mm_milesToldF : Nat → Int32) (mm_placesF : Nat → Int32) (mm_placeAtF : Nat → Int32) (mm_talkOfF : Nat → Int32) (mm_talkingOfF : Nat → Int32)  (p1 : Int32) (p2 : Int32) : Option ((Nat → Int32) × (Nat → Int32) × (Nat → Int32) × (Nat → Int64) × (Nat → Int32)) :=
  (xq_bd (fX12_strideOf N mmI mm_sumFromF mm_nightOfF mm_askedF mm_mileOfF mm_roundsOfF mm_sumBehindF mm_stackL mm_codeSortF mm_codeValueF p1 p2) fun (r_1_0, r_1_1, r_1_2) => xq_loop (fX12_walks_l7 N mmI mm_sumFromF mm_nightOfF mm_sumBehindF mm_codeSortF mm_codeValueF mm_milesToldF mm_placesF mm_placeAtF mm_talkOfF) N (r_1_1, mm_mileOfF, mm_roundsOfF, r_1_2, mm_talkingOfF, p1, p2, r_1_0))
set_option maxHeartbeats 4000000 in
set_option maxRecDepth 100000 in
theorem kX12_walks (l : Launch) (dC : Nat → ClassId) (dI : Nat → Nat → Nat) (cI cB cJ cZ cM : ClassId) (z : Nat) (ad : Nat → Nat) (N : Nat) (a_p0 : Nat) (mmI : Nat → Int32) (mmJ : Nat → Int64) (mmR : Nat → Nat) (mm_sumFromF : Nat → Int32) (mm_nightOfF : Nat → Int32) (mm_askedF : Nat → Int32) (mm_mileOfF : Nat → Int32) (mm_roundsOfF : Nat → Int32) (mm_sumBehindF : Nat → Int32) (mm_stackL : Nat → Int64) (mm_codeSortF : Nat → Int32) (mm_codeValueF : Nat → Int32) (mm_milesToldF : Nat → Int32) (mm_placesF : Nat → Int32) (mm_placeAtF : Nat → Int32) (mm_talkOfF : Nat → Int32) (mm_talkingOfF : Nat → Int32) (p1 : Int32) (p2 : Int32) {r0 : Nat → Int32} {r1 : Nat → Int32} {r2 : Nat → Int32} {r3 : Nat → Int64} {r4 : Nat → Int32} (hf : fX12_walks N mmI mm_sumFromF mm_nightOfF mm_askedF mm_mileOfF mm_roundsOfF mm_sumBehindF mm_stackL mm_codeSortF mm_codeValueF mm_milesToldF mm_placesF mm_placeAtF mm_talkOfF mm_talkingOfF p1 p2 = some (r0, r1, r2, r3, r4)) : xq_Ct l yX12_walks wsX12_walks { frames := 4, cells := 0, slots := 0, locals := 97 } (dC, dI) vwCl (xq_tys cI cB cJ cZ cM) z ad [.ref a_p0, .int p1, .int p2] [(a_p0, .inr (12, oX12 mmI mmJ mmR)), ((mmR 24), .inl (cI, 6, .inl mm_sumFromF)), ((mmR 45), .inl (cI, 22, .inl mm_nightOfF)), ((mmR 58), .inl (cI, 12, .inl mm_askedF)), ((mmR 46), .inl (cI, 22, .inl mm_mileOfF)), ((mmR 47), .inl (cI, 22, .inl mm_roundsOfF)), ((mmR 25), .inl (cI, 6, .inl mm_sumBehindF)), ((mmR 57), .inl (cJ, 500, .inr (.inl mm_stackL))), ((mmR 26), .inl (cI, 3200, .inl mm_codeSortF)), ((mmR 27), .inl (cI, 3200, .inl mm_codeValueF)), ((mmR 14), .inl (cI, 2, .inl mm_milesToldF)), ((mmR 21), .inl (cI, 2, .inl mm_placesF)), ((mmR 22), .inl (cI, 12, .inl mm_placeAtF)), ((mmR 51), .inl (cI, 132, .inl mm_talkOfF)), ((mmR 48), .inl (cI, 22, .inl mm_talkingOfF))] [(a_p0, .inr (12, oX12 mmI mmJ mmR)), ((mmR 24), .inl (cI, 6, .inl mm_sumFromF)), ((mmR 45), .inl (cI, 22, .inl mm_nightOfF)), ((mmR 58), .inl (cI, 12, .inl r0)), ((mmR 46), .inl (cI, 22, .inl r1)), ((mmR 47), .inl (cI, 22, .inl r2)), ((mmR 25), .inl (cI, 6, .inl mm_sumBehindF)), ((mmR 57), .inl (cJ, 500, .inr (.inl r3))), ((mmR 26), .inl (cI, 3200, .inl mm_codeSortF)), ((mmR 27), .inl (cI, 3200, .inl mm_codeValueF)), ((mmR 14), .inl (cI, 2, .inl mm_milesToldF)), ((mmR 21), .inl (cI, 2, .inl mm_placesF)), ((mmR 22), .inl (cI, 12, .inl mm_placeAtF)), ((mmR 51), .inl (cI, 132, .inl mm_talkOfF)), ((mmR 48), .inl (cI, 22, .inl r4))] none := by
  intro sz
  refine Met.ofW (cc := cX12_walks) (maxL := 5) (ret := none) (by decide) rfl ?_
  intro p e s m args below meth c s₁ B hml hv
  obtain ⟨rfl, hsz, hP, hK, hD0, hE, hz⟩ := hv
  have hx := B.exec
  have hb := B.bytes
  have hr := B.returns
  have hts := atoms_spec (ws := wsX12_walks) B.pre
  have hown : s.vm.findClass RX12 = some m.cls := findClass_of_methodNamed B.named
  have hlocks := B.notSynchronized
  subst hsz
  have hD := hD0.self (sz := s.heap.size)
  have hN := xq_Env.of hE hz hD0
  generalize hAe : va_A [(a_p0, .inr (12, oX12 mmI mmJ mmR)), ((mmR 24), .inl (cI, 6, .inl mm_sumFromF)), ((mmR 45), .inl (cI, 22, .inl mm_nightOfF)), ((mmR 58), .inl (cI, 12, .inl mm_askedF)), ((mmR 46), .inl (cI, 22, .inl mm_mileOfF)), ((mmR 47), .inl (cI, 22, .inl mm_roundsOfF)), ((mmR 25), .inl (cI, 6, .inl mm_sumBehindF)), ((mmR 57), .inl (cJ, 500, .inr (.inl mm_stackL))), ((mmR 26), .inl (cI, 3200, .inl mm_codeSortF)), ((mmR 27), .inl (cI, 3200, .inl mm_codeValueF)), ((mmR 14), .inl (cI, 2, .inl mm_milesToldF)), ((mmR 21), .inl (cI, 2, .inl mm_placesF)), ((mmR 22), .inl (cI, 12, .inl mm_placeAtF)), ((mmR 51), .inl (cI, 132, .inl mm_talkOfF)), ((mmR 48), .inl (cI, 22, .inl mm_talkingOfF))] s.heap.size = A at hD hN ⊢
  have hA : ∀ q : Nat, s.heap.size ≤ q → A q := fun q h => by rw [← hAe]; exact Or.inr h
  clear hAe hD0
  have hS : va_S A s.heap s.heap [] := va_S.rf
  have hl := lv_entry ([.ref a_p0, .int p1, .int p2]) (n := 5) (Nat.le_of_ble_eq_true rfl)
  rw [lg_entry_eq]
  generalize (lg_sl ([.ref a_p0, .int p1, .int p2]) ++ List.replicate (5 - (lg_sl ([.ref a_p0, .int p1, .int p2])).length) Slot.unset).toArray = ls at hl ⊢
  have hl : lv_has ls 5 [(0, .ref a_p0), (1, .int p1), (2, .int p2)] := hl
  have hw0 := hts (.fieldLink RX12 153 "DistantVoiceModel" "mileOf" "[I") (by decide +kernel)
  have hinX12 : ∀ w ∈ wsX120, w ∈ wsX12_walks := fun w h => List.mem_cons_of_mem _ (List.mem_append_right _ h)
  have hw2 := hts (.fieldLink RX12 54 "DistantVoiceModel" "milesTold" "[I") (by decide +kernel)
  have hw3 := hts (.fieldLink RX12 51 "DistantVoiceModel" "bank" "I") (by decide +kernel)
  have hw4 := hts (.fieldLink RX12 156 "DistantVoiceModel" "roundsOf" "[I") (by decide +kernel)
  have hw5 := hts (.fieldLink RX12 159 "DistantVoiceModel" "talkingOf" "[I") (by decide +kernel)
  have l7 : ∀ n7 : Nat, ∀ (mm_askedF_7 : Nat → Int32) (mm_mileOfF_7 : Nat → Int32) (mm_roundsOfF_7 : Nat → Int32) (mm_stackL_7 : Nat → Int64) (mm_talkingOfF_7 : Nat → Int32) (x1_7 : Int32) (x2_7 : Int32) (x3_7 : Int32) (ls : Array Slot) (H : Heap) (locs : List Loc), xq_loop (fX12_walks_l7 N mmI mm_sumFromF mm_nightOfF mm_sumBehindF mm_codeSortF mm_codeValueF mm_milesToldF mm_placesF mm_placeAtF mm_talkOfF) n7 (mm_askedF_7, mm_mileOfF_7, mm_roundsOfF_7, mm_stackL_7, mm_talkingOfF_7, x1_7, x2_7, x3_7) = some (r0, r1, r2, r3, r4) → va_P (dC, dI) vwCl [(a_p0, .inr (12, oX12 mmI mmJ mmR)), ((mmR 24), .inl (cI, 6, .inl mm_sumFromF)), ((mmR 45), .inl (cI, 22, .inl mm_nightOfF)), ((mmR 58), .inl (cI, 12, .inl mm_askedF_7)), ((mmR 46), .inl (cI, 22, .inl mm_mileOfF_7)), ((mmR 47), .inl (cI, 22, .inl mm_roundsOfF_7)), ((mmR 25), .inl (cI, 6, .inl mm_sumBehindF)), ((mmR 57), .inl (cJ, 500, .inr (.inl mm_stackL_7))), ((mmR 26), .inl (cI, 3200, .inl mm_codeSortF)), ((mmR 27), .inl (cI, 3200, .inl mm_codeValueF)), ((mmR 14), .inl (cI, 2, .inl mm_milesToldF)), ((mmR 21), .inl (cI, 2, .inl mm_placesF)), ((mmR 22), .inl (cI, 12, .inl mm_placeAtF)), ((mmR 51), .inl (cI, 132, .inl mm_talkOfF)), ((mmR 48), .inl (cI, 22, .inl mm_talkingOfF_7))] H → va_D A [(a_p0, .inr (12, oX12 mmI mmJ mmR)), ((mmR 24), .inl (cI, 6, .inl mm_sumFromF)), ((mmR 45), .inl (cI, 22, .inl mm_nightOfF)), ((mmR 58), .inl (cI, 12, .inl mm_askedF_7)), ((mmR 46), .inl (cI, 22, .inl mm_mileOfF_7)), ((mmR 47), .inl (cI, 22, .inl mm_roundsOfF_7)), ((mmR 25), .inl (cI, 6, .inl mm_sumBehindF)), ((mmR 57), .inl (cJ, 500, .inr (.inl mm_stackL_7))), ((mmR 26), .inl (cI, 3200, .inl mm_codeSortF)), ((mmR 27), .inl (cI, 3200, .inl mm_codeValueF)), ((mmR 14), .inl (cI, 2, .inl mm_milesToldF)), ((mmR 21), .inl (cI, 2, .inl mm_placesF)), ((mmR 22), .inl (cI, 12, .inl mm_placeAtF)), ((mmR 51), .inl (cI, 132, .inl mm_talkOfF)), ((mmR 48), .inl (cI, 22, .inl mm_talkingOfF_7))] → va_S A s.heap H locs → lv_has ls 5 [(0, .ref a_p0), (1, .int x1_7), (2, .int x2_7), (3, .int x3_7)] → W p l e (headSpec wsX12_walks { frames := 4, cells := 0, slots := 0, locals := 97 }).room s m [.ref a_p0, .int p1, .int p2].toArray below meth c H locs 0 0 (MQ below (xq_Q (dC, dI) vwCl (xq_tys cI cB cJ cZ cM) A [(a_p0, .inr (12, oX12 mmI mmJ mmR)), ((mmR 24), .inl (cI, 6, .inl mm_sumFromF)), ((mmR 45), .inl (cI, 22, .inl mm_nightOfF)), ((mmR 58), .inl (cI, 12, .inl r0)), ((mmR 46), .inl (cI, 22, .inl r1)), ((mmR 47), .inl (cI, 22, .inl r2)), ((mmR 25), .inl (cI, 6, .inl mm_sumBehindF)), ((mmR 57), .inl (cJ, 500, .inr (.inl r3))), ((mmR 26), .inl (cI, 3200, .inl mm_codeSortF)), ((mmR 27), .inl (cI, 3200, .inl mm_codeValueF)), ((mmR 14), .inl (cI, 2, .inl mm_milesToldF)), ((mmR 21), .inl (cI, 2, .inl mm_placesF)), ((mmR 22), .inl (cI, 12, .inl mm_placeAtF)), ((mmR 51), .inl (cI, 132, .inl mm_talkOfF)), ((mmR 48), .inl (cI, 22, .inl r4))] none) [.ref a_p0, .int p1, .int p2].toArray s 0 0 A) (F0 m 7 ls []) := by
    intro n7
    induction n7 with
    | zero => intro mm_askedF_7 mm_mileOfF_7 mm_roundsOfF_7 mm_stackL_7 mm_talkingOfF_7 x1_7 x2_7 x3_7 ls H locs hf; cases (show none = some (r0, r1, r2, r3, r4) from hf)
    | succ n7 ih7 =>
      have b71 : ∀ (mm_askedF_71 : Nat → Int32) (mm_mileOfF_71 : Nat → Int32) (mm_roundsOfF_71 : Nat → Int32) (mm_stackL_71 : Nat → Int64) (mm_talkingOfF_71 : Nat → Int32) (x1_71 : Int32) (x2_71 : Int32) (x3_71 : Int32) (ls : Array Slot) (H : Heap) (locs : List Loc), fX12_walks_b71 N mmI mm_sumFromF mm_nightOfF mm_sumBehindF mm_codeSortF mm_codeValueF mm_milesToldF mm_placesF mm_placeAtF mm_talkOfF (xq_loop (fX12_walks_l7 N mmI mm_sumFromF mm_nightOfF mm_sumBehindF mm_codeSortF mm_codeValueF mm_milesToldF mm_placesF mm_placeAtF mm_talkOfF) n7) (mm_askedF_71, mm_mileOfF_71, mm_roundsOfF_71, mm_stackL_71, mm_talkingOfF_71, x1_71, x2_71, x3_71) = some (r0, r1, r2, r3, r4) → va_P (dC, dI) vwCl [(a_p0, .inr (12, oX12 mmI mmJ mmR)), ((mmR 24), .inl (cI, 6, .inl mm_sumFromF)), ((mmR 45), .inl (cI, 22, .inl mm_nightOfF)), ((mmR 58), .inl (cI, 12, .inl mm_askedF_71)), ((mmR 46), .inl (cI, 22, .inl mm_mileOfF_71)), ((mmR 47), .inl (cI, 22, .inl mm_roundsOfF_71)), ((mmR 25), .inl (cI, 6, .inl mm_sumBehindF)), ((mmR 57), .inl (cJ, 500, .inr (.inl mm_stackL_71))), ((mmR 26), .inl (cI, 3200, .inl mm_codeSortF)), ((mmR 27), .inl (cI, 3200, .inl mm_codeValueF)), ((mmR 14), .inl (cI, 2, .inl mm_milesToldF)), ((mmR 21), .inl (cI, 2, .inl mm_placesF)), ((mmR 22), .inl (cI, 12, .inl mm_placeAtF)), ((mmR 51), .inl (cI, 132, .inl mm_talkOfF)), ((mmR 48), .inl (cI, 22, .inl mm_talkingOfF_71))] H → va_D A [(a_p0, .inr (12, oX12 mmI mmJ mmR)), ((mmR 24), .inl (cI, 6, .inl mm_sumFromF)), ((mmR 45), .inl (cI, 22, .inl mm_nightOfF)), ((mmR 58), .inl (cI, 12, .inl mm_askedF_71)), ((mmR 46), .inl (cI, 22, .inl mm_mileOfF_71)), ((mmR 47), .inl (cI, 22, .inl mm_roundsOfF_71)), ((mmR 25), .inl (cI, 6, .inl mm_sumBehindF)), ((mmR 57), .inl (cJ, 500, .inr (.inl mm_stackL_71))), ((mmR 26), .inl (cI, 3200, .inl mm_codeSortF)), ((mmR 27), .inl (cI, 3200, .inl mm_codeValueF)), ((mmR 14), .inl (cI, 2, .inl mm_milesToldF)), ((mmR 21), .inl (cI, 2, .inl mm_placesF)), ((mmR 22), .inl (cI, 12, .inl mm_placeAtF)), ((mmR 51), .inl (cI, 132, .inl mm_talkOfF)), ((mmR 48), .inl (cI, 22, .inl mm_talkingOfF_71))] → va_S A s.heap H locs → lv_has ls 5 [(0, .ref a_p0), (1, .int x1_71), (2, .int x2_71), (3, .int x3_71)] → W p l e (headSpec wsX12_walks { frames := 4, cells := 0, slots := 0, locals := 97 }).room s m [.ref a_p0, .int p1, .int p2].toArray below meth c H locs 0 0 (MQ below (xq_Q (dC, dI) vwCl (xq_tys cI cB cJ cZ cM) A [(a_p0, .inr (12, oX12 mmI mmJ mmR)), ((mmR 24), .inl (cI, 6, .inl mm_sumFromF)), ((mmR 45), .inl (cI, 22, .inl mm_nightOfF)), ((mmR 58), .inl (cI, 12, .inl r0)), ((mmR 46), .inl (cI, 22, .inl r1)), ((mmR 47), .inl (cI, 22, .inl r2)), ((mmR 25), .inl (cI, 6, .inl mm_sumBehindF)), ((mmR 57), .inl (cJ, 500, .inr (.inl r3))), ((mmR 26), .inl (cI, 3200, .inl mm_codeSortF)), ((mmR 27), .inl (cI, 3200, .inl mm_codeValueF)), ((mmR 14), .inl (cI, 2, .inl mm_milesToldF)), ((mmR 21), .inl (cI, 2, .inl mm_placesF)), ((mmR 22), .inl (cI, 12, .inl mm_placeAtF)), ((mmR 51), .inl (cI, 132, .inl mm_talkOfF)), ((mmR 48), .inl (cI, 22, .inl r4))] none) [.ref a_p0, .int p1, .int p2].toArray s 0 0 A) (F0 m 71 ls []) := by
        intro mm_askedF_71 mm_mileOfF_71 mm_roundsOfF_71 mm_stackL_71 mm_talkingOfF_71 x1_71 x2_71 x3_71 ls H locs hf hP hD hS hl
        unfold fX12_walks_b71 at hf
        refine lv_aload_n hx hb dX12_walks_71 rfl (lv_at hl 0 rfl) ?_
        refine lv_aload_n hx hb dX12_walks_72 rfl (lv_at hl 0 rfl) ?_
        refine va_get (D := (dC, dI)) (ci := 12) (v := .ref ((mmR 46))) (C := RX12) (T := TX12) (N := 70) hx hb hts hinX12 hown hK hP 0 rfl rfl 46 (by decide) hw0 (fun _ h9 => h9) rfl dX12_walks_73 ?_
        refine lv_iload_n hx hb dX12_walks_76 rfl (lv_at hl 1 rfl) ?_
        refine xq_iald hx hb hK hP 4 0 rfl rfl hf dX12_walks_77 (fun v_1 hf => ?_)
        obtain ⟨r_2, h_3, hf⟩ := xq_bd_some hf
        refine xq_callV (As := [.int v_1]) (rest := []) (ci := 12) (q0 := 0) ⟨hx, hb, hml, hown, hts⟩ (kX12_placeOn l dC dI cI cB cJ cZ cM z ad N a_p0 mmI mmJ mmR mm_placesF mm_placeAtF v_1 h_3) (cwV 1 hts gX12_walks_X12_placeOn rfl rfl rfl (by decide +kernel) ⟨Nat.le_of_ble_eq_true rfl, Nat.le_of_ble_eq_true rfl⟩) hN hK hP hD hS hA [0, 11, 12] (by decide) rfl rfl rfl rfl rfl rfl hl.1 rfl (Nat.le_of_ble_eq_true rfl) dX12_walks_78 ⟨Nat.zero_le _, Nat.zero_le _⟩ (fun H locs hP hD hS => ?_)
        have hP : va_P (dC, dI) vwCl [(a_p0, .inr (12, oX12 mmI mmJ mmR)), ((mmR 24), .inl (cI, 6, .inl mm_sumFromF)), ((mmR 45), .inl (cI, 22, .inl mm_nightOfF)), ((mmR 58), .inl (cI, 12, .inl mm_askedF_71)), ((mmR 46), .inl (cI, 22, .inl mm_mileOfF_71)), ((mmR 47), .inl (cI, 22, .inl mm_roundsOfF_71)), ((mmR 25), .inl (cI, 6, .inl mm_sumBehindF)), ((mmR 57), .inl (cJ, 500, .inr (.inl mm_stackL_71))), ((mmR 26), .inl (cI, 3200, .inl mm_codeSortF)), ((mmR 27), .inl (cI, 3200, .inl mm_codeValueF)), ((mmR 14), .inl (cI, 2, .inl mm_milesToldF)), ((mmR 21), .inl (cI, 2, .inl mm_placesF)), ((mmR 22), .inl (cI, 12, .inl mm_placeAtF)), ((mmR 51), .inl (cI, 132, .inl mm_talkOfF)), ((mmR 48), .inl (cI, 22, .inl mm_talkingOfF_71))] H := hP
        have hD : va_D A [(a_p0, .inr (12, oX12 mmI mmJ mmR)), ((mmR 24), .inl (cI, 6, .inl mm_sumFromF)), ((mmR 45), .inl (cI, 22, .inl mm_nightOfF)), ((mmR 58), .inl (cI, 12, .inl mm_askedF_71)), ((mmR 46), .inl (cI, 22, .inl mm_mileOfF_71)), ((mmR 47), .inl (cI, 22, .inl mm_roundsOfF_71)), ((mmR 25), .inl (cI, 6, .inl mm_sumBehindF)), ((mmR 57), .inl (cJ, 500, .inr (.inl mm_stackL_71))), ((mmR 26), .inl (cI, 3200, .inl mm_codeSortF)), ((mmR 27), .inl (cI, 3200, .inl mm_codeValueF)), ((mmR 14), .inl (cI, 2, .inl mm_milesToldF)), ((mmR 21), .inl (cI, 2, .inl mm_placesF)), ((mmR 22), .inl (cI, 12, .inl mm_placeAtF)), ((mmR 51), .inl (cI, 132, .inl mm_talkOfF)), ((mmR 48), .inl (cI, 22, .inl mm_talkingOfF_71))] := hD
        refine W.eq (g2 := F0 m 81 ls [.int r_2]) rfl ?_
        refine lv_istore (lv' := [(4, .int r_2), (0, .ref a_p0), (1, .int x1_71), (2, .int x2_71), (3, .int x3_71)]) hx hb dX12_walks_81 hl (by decide) rfl (fun ls hl => ?_)
        refine lv_iload hx hb dX12_walks_83 (lv_at hl 0 rfl) ?_
        refine lv_iconst (v := (-1)) hx hb dX12_walks_85 (by decide) ?_
        refine lv_icmp_ne (tgt := 92) hx hb dX12_walks_86 (by decide) (fun c_ => ?_) (fun c_ => ?_)
        · have hf := xq_neg hf c_
          refine lv_aload_n hx hb dX12_walks_92 rfl (lv_at hl 1 rfl) ?_
          refine va_get (D := (dC, dI)) (ci := 12) (v := .ref ((mmR 48))) (C := RX12) (T := TX12) (N := 70) hx hb hts hinX12 hown hK hP 0 rfl rfl 48 (by decide) hw5 (fun _ h9 => h9) rfl dX12_walks_93 ?_
          refine lv_iload_n hx hb dX12_walks_96 rfl (lv_at hl 2 rfl) ?_
          refine lv_aload_n hx hb dX12_walks_97 rfl (lv_at hl 1 rfl) ?_
          refine lv_iload_n hx hb dX12_walks_98 rfl (lv_at hl 2 rfl) ?_
          refine lv_iload hx hb dX12_walks_99 (lv_at hl 0 rfl) ?_
          refine lv_iload_n hx hb dX12_walks_101 rfl (lv_at hl 3 rfl) ?_
          obtain ⟨⟨r_4_0, r_4_1, r_4_2⟩, h_5, hf⟩ := xq_bd_some hf
          refine xq_callV (As := [.int x1_71, .int r_2, .int x2_71]) (rest := [.int x1_71, .ref ((mmR 48))]) (ci := 12) (q0 := 0) ⟨hx, hb, hml, hown, hts⟩ (kX12_talkAt l dC dI cI cB cJ cZ cM z ad N a_p0 mmI mmJ mmR mm_talkOfF mm_sumFromF mm_nightOfF mm_askedF_71 mm_sumBehindF mm_stackL_71 mm_codeSortF mm_codeValueF x1_71 r_2 x2_71 h_5) (cwV 3 hts gX12_walks_X12_talkAt rfl rfl rfl (by decide +kernel) ⟨Nat.le_of_ble_eq_true rfl, Nat.le_of_ble_eq_true rfl⟩) hN hK hP hD hS hA [0, 13, 1, 2, 3, 6, 7, 8, 9] (by decide) rfl rfl rfl rfl rfl rfl hl.1 rfl (Nat.le_of_ble_eq_true rfl) dX12_walks_102 ⟨Nat.zero_le _, Nat.zero_le _⟩ (fun H locs hP hD hS => ?_)
          have hP : va_P (dC, dI) vwCl [(a_p0, .inr (12, oX12 mmI mmJ mmR)), ((mmR 24), .inl (cI, 6, .inl mm_sumFromF)), ((mmR 45), .inl (cI, 22, .inl mm_nightOfF)), ((mmR 58), .inl (cI, 12, .inl r_4_1)), ((mmR 46), .inl (cI, 22, .inl mm_mileOfF_71)), ((mmR 47), .inl (cI, 22, .inl mm_roundsOfF_71)), ((mmR 25), .inl (cI, 6, .inl mm_sumBehindF)), ((mmR 57), .inl (cJ, 500, .inr (.inl r_4_2))), ((mmR 26), .inl (cI, 3200, .inl mm_codeSortF)), ((mmR 27), .inl (cI, 3200, .inl mm_codeValueF)), ((mmR 14), .inl (cI, 2, .inl mm_milesToldF)), ((mmR 21), .inl (cI, 2, .inl mm_placesF)), ((mmR 22), .inl (cI, 12, .inl mm_placeAtF)), ((mmR 51), .inl (cI, 132, .inl mm_talkOfF)), ((mmR 48), .inl (cI, 22, .inl mm_talkingOfF_71))] H := hP
          have hD : va_D A [(a_p0, .inr (12, oX12 mmI mmJ mmR)), ((mmR 24), .inl (cI, 6, .inl mm_sumFromF)), ((mmR 45), .inl (cI, 22, .inl mm_nightOfF)), ((mmR 58), .inl (cI, 12, .inl r_4_1)), ((mmR 46), .inl (cI, 22, .inl mm_mileOfF_71)), ((mmR 47), .inl (cI, 22, .inl mm_roundsOfF_71)), ((mmR 25), .inl (cI, 6, .inl mm_sumBehindF)), ((mmR 57), .inl (cJ, 500, .inr (.inl r_4_2))), ((mmR 26), .inl (cI, 3200, .inl mm_codeSortF)), ((mmR 27), .inl (cI, 3200, .inl mm_codeValueF)), ((mmR 14), .inl (cI, 2, .inl mm_milesToldF)), ((mmR 21), .inl (cI, 2, .inl mm_placesF)), ((mmR 22), .inl (cI, 12, .inl mm_placeAtF)), ((mmR 51), .inl (cI, 132, .inl mm_talkOfF)), ((mmR 48), .inl (cI, 22, .inl mm_talkingOfF_71))] := hD
          refine W.eq (g2 := F0 m 105 ls [.int r_4_0, .int x1_71, .ref ((mmR 48))]) rfl ?_
          refine xq_iast hx hb hK hP hD hS 14 0 rfl rfl hf dX12_walks_105 (fun g_6 H locs hf hP hD hS => ?_)
          have hP : va_P (dC, dI) vwCl [(a_p0, .inr (12, oX12 mmI mmJ mmR)), ((mmR 24), .inl (cI, 6, .inl mm_sumFromF)), ((mmR 45), .inl (cI, 22, .inl mm_nightOfF)), ((mmR 58), .inl (cI, 12, .inl r_4_1)), ((mmR 46), .inl (cI, 22, .inl mm_mileOfF_71)), ((mmR 47), .inl (cI, 22, .inl mm_roundsOfF_71)), ((mmR 25), .inl (cI, 6, .inl mm_sumBehindF)), ((mmR 57), .inl (cJ, 500, .inr (.inl r_4_2))), ((mmR 26), .inl (cI, 3200, .inl mm_codeSortF)), ((mmR 27), .inl (cI, 3200, .inl mm_codeValueF)), ((mmR 14), .inl (cI, 2, .inl mm_milesToldF)), ((mmR 21), .inl (cI, 2, .inl mm_placesF)), ((mmR 22), .inl (cI, 12, .inl mm_placeAtF)), ((mmR 51), .inl (cI, 132, .inl mm_talkOfF)), ((mmR 48), .inl (cI, 22, .inl g_6))] H := hP
          have hD : va_D A [(a_p0, .inr (12, oX12 mmI mmJ mmR)), ((mmR 24), .inl (cI, 6, .inl mm_sumFromF)), ((mmR 45), .inl (cI, 22, .inl mm_nightOfF)), ((mmR 58), .inl (cI, 12, .inl r_4_1)), ((mmR 46), .inl (cI, 22, .inl mm_mileOfF_71)), ((mmR 47), .inl (cI, 22, .inl mm_roundsOfF_71)), ((mmR 25), .inl (cI, 6, .inl mm_sumBehindF)), ((mmR 57), .inl (cJ, 500, .inr (.inl r_4_2))), ((mmR 26), .inl (cI, 3200, .inl mm_codeSortF)), ((mmR 27), .inl (cI, 3200, .inl mm_codeValueF)), ((mmR 14), .inl (cI, 2, .inl mm_milesToldF)), ((mmR 21), .inl (cI, 2, .inl mm_placesF)), ((mmR 22), .inl (cI, 12, .inl mm_placeAtF)), ((mmR 51), .inl (cI, 132, .inl mm_talkOfF)), ((mmR 48), .inl (cI, 22, .inl g_6))] := hD
          refine lv_iconst (v := 0) hx hb dX12_walks_106 (by decide) ?_
          refine lv_istore_n (lv' := [(3, .int 0), (4, .int r_2), (0, .ref a_p0), (1, .int x1_71), (2, .int x2_71)]) hx hb dX12_walks_107 rfl hl (by decide) rfl (fun ls hl => ?_)
          refine lv_goto (tgt := 7) hx hb dX12_walks_108 (by decide) ?_
          exact ih7 r_4_1 mm_mileOfF_71 mm_roundsOfF_71 r_4_2 g_6 x1_71 x2_71 0 _ _ _ hf hP hD hS (lv_sub hl [2, 3, 4, 0] rfl)
        · have hf := xq_pos hf c_
          refine lv_goto (tgt := 7) hx hb dX12_walks_89 (by decide) ?_
          exact ih7 mm_askedF_71 mm_mileOfF_71 mm_roundsOfF_71 mm_stackL_71 mm_talkingOfF_71 x1_71 x2_71 x3_71 _ _ _ hf hP hD hS (lv_sub hl [1, 2, 3, 4] rfl)
      intro mm_askedF_7 mm_mileOfF_7 mm_roundsOfF_7 mm_stackL_7 mm_talkingOfF_7 x1_7 x2_7 x3_7 ls H locs hf hP hD hS hl
      have hf : fX12_walks_l7 N mmI mm_sumFromF mm_nightOfF mm_sumBehindF mm_codeSortF mm_codeValueF mm_milesToldF mm_placesF mm_placeAtF mm_talkOfF (xq_loop (fX12_walks_l7 N mmI mm_sumFromF mm_nightOfF mm_sumBehindF mm_codeSortF mm_codeValueF mm_milesToldF mm_placesF mm_placeAtF mm_talkOfF) n7) (mm_askedF_7, mm_mileOfF_7, mm_roundsOfF_7, mm_stackL_7, mm_talkingOfF_7, x1_7, x2_7, x3_7) = some (r0, r1, r2, r3, r4) := hf
      unfold fX12_walks_l7 at hf
      refine lv_iload_n hx hb dX12_walks_7 rfl (lv_at hl 3 rfl) ?_
      refine lv_if_le (tgt := 111) hx hb dX12_walks_8 (by decide) (fun c_ => ?_) (fun c_ => ?_)
      · have hf := xq_pos hf c_
        have hP9 := hP
        have hD9 := hD
        have hS9 := hS
        cases hf
        exact xq_vret hx hb hr hlocks hK hP9 hD9 hS9 dX12_walks_111
      · have hf := xq_neg hf c_
        refine lv_iinc (v := x3_7 + (-1)) (lv' := [(3, .int (x3_7 + (-1))), (0, .ref a_p0), (1, .int x1_7), (2, .int x2_7)]) hx hb dX12_walks_11 hl (k := 3) rfl (congrArg (fun q9 => x3_7 + q9) (by decide : Int32.ofInt (-1) = (-1))) (by decide) rfl (fun ls hl => ?_)
        refine lv_aload_n hx hb dX12_walks_14 rfl (lv_at hl 1 rfl) ?_
        refine va_get (D := (dC, dI)) (ci := 12) (v := .ref ((mmR 46))) (C := RX12) (T := TX12) (N := 70) hx hb hts hinX12 hown hK hP 0 rfl rfl 46 (by decide) hw0 (fun _ h9 => h9) rfl dX12_walks_15 ?_
        refine lv_iload_n hx hb dX12_walks_18 rfl (lv_at hl 2 rfl) ?_
        refine lv_dup2_11 hx hb dX12_walks_19 rfl rfl ?_
        refine xq_iald hx hb hK hP 4 0 rfl rfl hf dX12_walks_20 (fun v_1 hf => ?_)
        refine lv_iconst (v := 1) hx hb dX12_walks_21 (by decide) ?_
        refine lv_iadd hx hb dX12_walks_22 ?_
        refine xq_iast hx hb hK hP hD hS 4 0 rfl rfl hf dX12_walks_23 (fun g_2 H locs hf hP hD hS => ?_)
        have hP : va_P (dC, dI) vwCl [(a_p0, .inr (12, oX12 mmI mmJ mmR)), ((mmR 24), .inl (cI, 6, .inl mm_sumFromF)), ((mmR 45), .inl (cI, 22, .inl mm_nightOfF)), ((mmR 58), .inl (cI, 12, .inl mm_askedF_7)), ((mmR 46), .inl (cI, 22, .inl g_2)), ((mmR 47), .inl (cI, 22, .inl mm_roundsOfF_7)), ((mmR 25), .inl (cI, 6, .inl mm_sumBehindF)), ((mmR 57), .inl (cJ, 500, .inr (.inl mm_stackL_7))), ((mmR 26), .inl (cI, 3200, .inl mm_codeSortF)), ((mmR 27), .inl (cI, 3200, .inl mm_codeValueF)), ((mmR 14), .inl (cI, 2, .inl mm_milesToldF)), ((mmR 21), .inl (cI, 2, .inl mm_placesF)), ((mmR 22), .inl (cI, 12, .inl mm_placeAtF)), ((mmR 51), .inl (cI, 132, .inl mm_talkOfF)), ((mmR 48), .inl (cI, 22, .inl mm_talkingOfF_7))] H := hP
        have hD : va_D A [(a_p0, .inr (12, oX12 mmI mmJ mmR)), ((mmR 24), .inl (cI, 6, .inl mm_sumFromF)), ((mmR 45), .inl (cI, 22, .inl mm_nightOfF)), ((mmR 58), .inl (cI, 12, .inl mm_askedF_7)), ((mmR 46), .inl (cI, 22, .inl g_2)), ((mmR 47), .inl (cI, 22, .inl mm_roundsOfF_7)), ((mmR 25), .inl (cI, 6, .inl mm_sumBehindF)), ((mmR 57), .inl (cJ, 500, .inr (.inl mm_stackL_7))), ((mmR 26), .inl (cI, 3200, .inl mm_codeSortF)), ((mmR 27), .inl (cI, 3200, .inl mm_codeValueF)), ((mmR 14), .inl (cI, 2, .inl mm_milesToldF)), ((mmR 21), .inl (cI, 2, .inl mm_placesF)), ((mmR 22), .inl (cI, 12, .inl mm_placeAtF)), ((mmR 51), .inl (cI, 132, .inl mm_talkOfF)), ((mmR 48), .inl (cI, 22, .inl mm_talkingOfF_7))] := hD
        refine lv_aload_n hx hb dX12_walks_24 rfl (lv_at hl 1 rfl) ?_
        refine va_get (D := (dC, dI)) (ci := 12) (v := .ref ((mmR 46))) (C := RX12) (T := TX12) (N := 70) hx hb hts hinX12 hown hK hP 0 rfl rfl 46 (by decide) hw0 (fun _ h9 => h9) rfl dX12_walks_25 ?_
        refine lv_iload_n hx hb dX12_walks_28 rfl (lv_at hl 2 rfl) ?_
        refine xq_iald hx hb hK hP 4 0 rfl rfl hf dX12_walks_29 (fun v_3 hf => ?_)
        refine lv_aload_n hx hb dX12_walks_30 rfl (lv_at hl 1 rfl) ?_
        refine va_get (D := (dC, dI)) (ci := 12) (v := .ref ((mmR 14))) (C := RX12) (T := TX12) (N := 70) hx hb hts hinX12 hown hK hP 0 rfl rfl 14 (by decide) hw2 (fun _ h9 => h9) rfl dX12_walks_31 ?_
        refine lv_aload_n hx hb dX12_walks_34 rfl (lv_at hl 1 rfl) ?_
        refine va_get (D := (dC, dI)) (ci := 12) (v := .int (mmI 13)) (C := RX12) (T := TX12) (N := 70) hx hb hts hinX12 hown hK hP 0 rfl rfl 13 (by decide) hw3 (fun _ h9 => h9) rfl dX12_walks_35 ?_
        refine xq_iald hx hb hK hP 10 0 rfl rfl hf dX12_walks_38 (fun v_4 hf => ?_)
        refine lv_icmp_ne (tgt := 71) hx hb dX12_walks_39 (by decide) (fun c_ => ?_) (fun c_ => ?_)
        · have hf := xq_neg hf c_
          exact b71 mm_askedF_7 g_2 mm_roundsOfF_7 mm_stackL_7 mm_talkingOfF_7 x1_7 x2_7 (x3_7 + (-1)) _ _ _ hf hP hD hS (lv_sub hl [1, 2, 3, 0] rfl)
        · have hf := xq_pos hf c_
          refine lv_aload_n hx hb dX12_walks_42 rfl (lv_at hl 1 rfl) ?_
          refine va_get (D := (dC, dI)) (ci := 12) (v := .ref ((mmR 46))) (C := RX12) (T := TX12) (N := 70) hx hb hts hinX12 hown hK hP 0 rfl rfl 46 (by decide) hw0 (fun _ h9 => h9) rfl dX12_walks_43 ?_
          refine lv_iload_n hx hb dX12_walks_46 rfl (lv_at hl 2 rfl) ?_
          refine lv_iconst (v := 0) hx hb dX12_walks_47 (by decide) ?_
          refine xq_iast hx hb hK hP hD hS 4 0 rfl rfl hf dX12_walks_48 (fun g_5 H locs hf hP hD hS => ?_)
          have hP : va_P (dC, dI) vwCl [(a_p0, .inr (12, oX12 mmI mmJ mmR)), ((mmR 24), .inl (cI, 6, .inl mm_sumFromF)), ((mmR 45), .inl (cI, 22, .inl mm_nightOfF)), ((mmR 58), .inl (cI, 12, .inl mm_askedF_7)), ((mmR 46), .inl (cI, 22, .inl g_5)), ((mmR 47), .inl (cI, 22, .inl mm_roundsOfF_7)), ((mmR 25), .inl (cI, 6, .inl mm_sumBehindF)), ((mmR 57), .inl (cJ, 500, .inr (.inl mm_stackL_7))), ((mmR 26), .inl (cI, 3200, .inl mm_codeSortF)), ((mmR 27), .inl (cI, 3200, .inl mm_codeValueF)), ((mmR 14), .inl (cI, 2, .inl mm_milesToldF)), ((mmR 21), .inl (cI, 2, .inl mm_placesF)), ((mmR 22), .inl (cI, 12, .inl mm_placeAtF)), ((mmR 51), .inl (cI, 132, .inl mm_talkOfF)), ((mmR 48), .inl (cI, 22, .inl mm_talkingOfF_7))] H := hP
          have hD : va_D A [(a_p0, .inr (12, oX12 mmI mmJ mmR)), ((mmR 24), .inl (cI, 6, .inl mm_sumFromF)), ((mmR 45), .inl (cI, 22, .inl mm_nightOfF)), ((mmR 58), .inl (cI, 12, .inl mm_askedF_7)), ((mmR 46), .inl (cI, 22, .inl g_5)), ((mmR 47), .inl (cI, 22, .inl mm_roundsOfF_7)), ((mmR 25), .inl (cI, 6, .inl mm_sumBehindF)), ((mmR 57), .inl (cJ, 500, .inr (.inl mm_stackL_7))), ((mmR 26), .inl (cI, 3200, .inl mm_codeSortF)), ((mmR 27), .inl (cI, 3200, .inl mm_codeValueF)), ((mmR 14), .inl (cI, 2, .inl mm_milesToldF)), ((mmR 21), .inl (cI, 2, .inl mm_placesF)), ((mmR 22), .inl (cI, 12, .inl mm_placeAtF)), ((mmR 51), .inl (cI, 132, .inl mm_talkOfF)), ((mmR 48), .inl (cI, 22, .inl mm_talkingOfF_7))] := hD
          refine lv_aload_n hx hb dX12_walks_49 rfl (lv_at hl 1 rfl) ?_
          refine va_get (D := (dC, dI)) (ci := 12) (v := .ref ((mmR 47))) (C := RX12) (T := TX12) (N := 70) hx hb hts hinX12 hown hK hP 0 rfl rfl 47 (by decide) hw4 (fun _ h9 => h9) rfl dX12_walks_50 ?_
          refine lv_iload_n hx hb dX12_walks_53 rfl (lv_at hl 2 rfl) ?_
          refine xq_iald hx hb hK hP 5 0 rfl rfl hf dX12_walks_54 (fun v_6 hf => ?_)
          refine lv_sipush (v := 999) hx hb dX12_walks_55 (by decide) ?_
          refine lv_icmp_ge (tgt := 71) hx hb dX12_walks_58 (by decide) (fun c_ => ?_) (fun c_ => ?_)
          · have hf := xq_pos hf c_
            exact b71 mm_askedF_7 g_5 mm_roundsOfF_7 mm_stackL_7 mm_talkingOfF_7 x1_7 x2_7 (x3_7 + (-1)) _ _ _ hf hP hD hS (lv_sub hl [1, 2, 3, 0] rfl)
          · have hf := xq_neg hf c_
            refine lv_aload_n hx hb dX12_walks_61 rfl (lv_at hl 1 rfl) ?_
            refine va_get (D := (dC, dI)) (ci := 12) (v := .ref ((mmR 47))) (C := RX12) (T := TX12) (N := 70) hx hb hts hinX12 hown hK hP 0 rfl rfl 47 (by decide) hw4 (fun _ h9 => h9) rfl dX12_walks_62 ?_
            refine lv_iload_n hx hb dX12_walks_65 rfl (lv_at hl 2 rfl) ?_
            refine lv_dup2_11 hx hb dX12_walks_66 rfl rfl ?_
            refine xq_iald hx hb hK hP 5 0 rfl rfl hf dX12_walks_67 (fun v_7 hf => ?_)
            refine lv_iconst (v := 1) hx hb dX12_walks_68 (by decide) ?_
            refine lv_iadd hx hb dX12_walks_69 ?_
            refine xq_iast hx hb hK hP hD hS 5 0 rfl rfl hf dX12_walks_70 (fun g_8 H locs hf hP hD hS => ?_)
            have hP : va_P (dC, dI) vwCl [(a_p0, .inr (12, oX12 mmI mmJ mmR)), ((mmR 24), .inl (cI, 6, .inl mm_sumFromF)), ((mmR 45), .inl (cI, 22, .inl mm_nightOfF)), ((mmR 58), .inl (cI, 12, .inl mm_askedF_7)), ((mmR 46), .inl (cI, 22, .inl g_5)), ((mmR 47), .inl (cI, 22, .inl g_8)), ((mmR 25), .inl (cI, 6, .inl mm_sumBehindF)), ((mmR 57), .inl (cJ, 500, .inr (.inl mm_stackL_7))), ((mmR 26), .inl (cI, 3200, .inl mm_codeSortF)), ((mmR 27), .inl (cI, 3200, .inl mm_codeValueF)), ((mmR 14), .inl (cI, 2, .inl mm_milesToldF)), ((mmR 21), .inl (cI, 2, .inl mm_placesF)), ((mmR 22), .inl (cI, 12, .inl mm_placeAtF)), ((mmR 51), .inl (cI, 132, .inl mm_talkOfF)), ((mmR 48), .inl (cI, 22, .inl mm_talkingOfF_7))] H := hP
            have hD : va_D A [(a_p0, .inr (12, oX12 mmI mmJ mmR)), ((mmR 24), .inl (cI, 6, .inl mm_sumFromF)), ((mmR 45), .inl (cI, 22, .inl mm_nightOfF)), ((mmR 58), .inl (cI, 12, .inl mm_askedF_7)), ((mmR 46), .inl (cI, 22, .inl g_5)), ((mmR 47), .inl (cI, 22, .inl g_8)), ((mmR 25), .inl (cI, 6, .inl mm_sumBehindF)), ((mmR 57), .inl (cJ, 500, .inr (.inl mm_stackL_7))), ((mmR 26), .inl (cI, 3200, .inl mm_codeSortF)), ((mmR 27), .inl (cI, 3200, .inl mm_codeValueF)), ((mmR 14), .inl (cI, 2, .inl mm_milesToldF)), ((mmR 21), .inl (cI, 2, .inl mm_placesF)), ((mmR 22), .inl (cI, 12, .inl mm_placeAtF)), ((mmR 51), .inl (cI, 132, .inl mm_talkOfF)), ((mmR 48), .inl (cI, 22, .inl mm_talkingOfF_7))] := hD
            exact b71 mm_askedF_7 g_5 g_8 mm_stackL_7 mm_talkingOfF_7 x1_7 x2_7 (x3_7 + (-1)) _ _ _ hf hP hD hS (lv_sub hl [1, 2, 3, 0] rfl)
  unfold fX12_walks at hf
  refine lv_aload_n hx hb dX12_walks_0 rfl (lv_at hl 0 rfl) ?_
  refine lv_iload_n hx hb dX12_walks_1 rfl (lv_at hl 1 rfl) ?_
  refine lv_iload_n hx hb dX12_walks_2 rfl (lv_at hl 2 rfl) ?_
  obtain ⟨⟨r_1_0, r_1_1, r_1_2⟩, h_2, hf⟩ := xq_bd_some hf
  refine xq_callV (As := [.int p1, .int p2]) (rest := []) (ci := 12) (q0 := 0) ⟨hx, hb, hml, hown, hts⟩ (kX12_strideOf l dC dI cI cB cJ cZ cM z ad N a_p0 mmI mmJ mmR mm_sumFromF mm_nightOfF mm_askedF mm_mileOfF mm_roundsOfF mm_sumBehindF mm_stackL mm_codeSortF mm_codeValueF p1 p2 h_2) (cwV 2 hts gX12_walks_X12_strideOf rfl rfl rfl (by decide +kernel) ⟨Nat.le_of_ble_eq_true rfl, Nat.le_of_ble_eq_true rfl⟩) hN hK hP hD hS hA [0, 1, 2, 3, 4, 5, 6, 7, 8, 9] (by decide) rfl rfl rfl rfl rfl rfl hl.1 rfl (Nat.le_of_ble_eq_true rfl) dX12_walks_3 ⟨Nat.zero_le _, Nat.zero_le _⟩ (fun H locs hP hD hS => ?_)
  have hP : va_P (dC, dI) vwCl [(a_p0, .inr (12, oX12 mmI mmJ mmR)), ((mmR 24), .inl (cI, 6, .inl mm_sumFromF)), ((mmR 45), .inl (cI, 22, .inl mm_nightOfF)), ((mmR 58), .inl (cI, 12, .inl r_1_1)), ((mmR 46), .inl (cI, 22, .inl mm_mileOfF)), ((mmR 47), .inl (cI, 22, .inl mm_roundsOfF)), ((mmR 25), .inl (cI, 6, .inl mm_sumBehindF)), ((mmR 57), .inl (cJ, 500, .inr (.inl r_1_2))), ((mmR 26), .inl (cI, 3200, .inl mm_codeSortF)), ((mmR 27), .inl (cI, 3200, .inl mm_codeValueF)), ((mmR 14), .inl (cI, 2, .inl mm_milesToldF)), ((mmR 21), .inl (cI, 2, .inl mm_placesF)), ((mmR 22), .inl (cI, 12, .inl mm_placeAtF)), ((mmR 51), .inl (cI, 132, .inl mm_talkOfF)), ((mmR 48), .inl (cI, 22, .inl mm_talkingOfF))] H := hP
  have hD : va_D A [(a_p0, .inr (12, oX12 mmI mmJ mmR)), ((mmR 24), .inl (cI, 6, .inl mm_sumFromF)), ((mmR 45), .inl (cI, 22, .inl mm_nightOfF)), ((mmR 58), .inl (cI, 12, .inl r_1_1)), ((mmR 46), .inl (cI, 22, .inl mm_mileOfF)), ((mmR 47), .inl (cI, 22, .inl mm_roundsOfF)), ((mmR 25), .inl (cI, 6, .inl mm_sumBehindF)), ((mmR 57), .inl (cJ, 500, .inr (.inl r_1_2))), ((mmR 26), .inl (cI, 3200, .inl mm_codeSortF)), ((mmR 27), .inl (cI, 3200, .inl mm_codeValueF)), ((mmR 14), .inl (cI, 2, .inl mm_milesToldF)), ((mmR 21), .inl (cI, 2, .inl mm_placesF)), ((mmR 22), .inl (cI, 12, .inl mm_placeAtF)), ((mmR 51), .inl (cI, 132, .inl mm_talkOfF)), ((mmR 48), .inl (cI, 22, .inl mm_talkingOfF))] := hD
  refine W.eq (g2 := F0 m 6 ls [.int r_1_0]) rfl ?_
  refine lv_istore_n (lv' := [(3, .int r_1_0), (0, .ref a_p0), (1, .int p1), (2, .int p2)]) hx hb dX12_walks_6 rfl hl (by decide) rfl (fun ls hl => ?_)
  exact l7 N r_1_1 mm_mileOfF mm_roundsOfF r_1_2 mm_talkingOfF p1 p2 r_1_0 _ _ _ hf hP hD hS (lv_sub hl [1, 2, 3, 0] rfl)
set_option maxRecDepth 20000 in
theorem ggX12_counts_X12_isHeardIn : GoodIn wsX12_counts wsX12_isHeardIn := goodIn_r _ [8, 9, 10, 11, 2, 12, 13, 14, 7, 15, 16, 17, 18, 19, 20, 21, 22, 23, 24, 25, 26, 27, 28, 29, 30, 31, 32, 33, 34, 35, 36, 37, 38, 39, 40, 41, 42, 43, 44, 45, 46, 47, 48, 49, 50, 51, 52, 53, 54, 55, 56, 57, 58, 59, 60, 61, 62, 63, 64, 65, 66, 67, 68, 69, 70, 71, 72, 73, 74, 75, 76, 77, 78, 79, 80, 81, 82, 83, 84, 85, 86, 87, 88, 89, 90, 91, 92, 93, 94, 95, 96, 97, 98, 99, 100, 101, 102, 103, 104, 105, 106, 107, 108, 109, 110, 111] rfl (by decide +kernel)
set_option maxRecDepth 20000 in
theorem gX12_counts_X12_isHeardIn : GoodIn wsX12_counts (wsV RX12 437 RX12 yX12_isHeardIn wsX12_isHeardIn) := goodIn_app (goodIn_of _ (by decide +kernel)) ggX12_counts_X12_isHeardIn
def dsX12_counts_0 : List (Nat × Instr × Nat) := [(0, (.iconst 0, 1)), (1, (.istore_n 3, 1)), (2, (.iload_n 3, 1)), (3, (.aload_n 0, 1)), (4, (.getfield 66, 3)), (7, (.aload_n 0, 1)), (8, (.getfield 51, 3)), (11, (.iaload, 1)), (12, (.if_icmp .ge 57, 3)), (15, (.iconst 0, 1)), (16, (.istore 4, 2)), (18, (.iload 4, 2)), (20, (.bipush 10, 2)), (22, (.if_icmp .ge 41, 3)), (25, (.aload_n 0, 1)), (26, (.getfield 192, 3)), (29, (.bipush 10, 2)), (31, (.iload_n 3, 1)), (32, (.imul, 1)), (33, (.iload 4, 2)), (35, (.iadd, 1)), (36, (.dup2, 1)), (37, (.iaload, 1)), (38, (.aload_n 0, 1)), (39, (.iload_n 1, 1)), (40, (.iload_n 3, 1)), (41, (.iload 4, 2)), (43, (.iload_n 2, 1)), (44, (.invokevirtual 437, 3)), (47, (.ifCond .eq 7, 3)), (50, (.iconst 1, 1)), (51, (.goto 4, 3)), (54, (.iconst 0, 1)), (55, (.iadd, 1)), (56, (.iastore, 1)), (57, (.iinc 4 1, 3)), (60, (.goto (-42), 3)), (63, (.iinc 3 1, 3)), (66, (.goto (-64), 3)), (69, (.return_, 1))]
theorem dsX12_counts_0_ok : (dsX12_counts_0.all fun q => decide (decode cX12_counts q.1 = .ok q.2)) = true := by decide +kernel
theorem dX12_counts_0 : decode cX12_counts 0 = .ok (.iconst 0, 1) := of_decide_eq_true (List.all_eq_true.mp dsX12_counts_0_ok (0, (.iconst 0, 1)) (List.mem_of_getElem? (i := 0) rfl))
theorem dX12_counts_1 : decode cX12_counts 1 = .ok (.istore_n 3, 1) := of_decide_eq_true (List.all_eq_true.mp dsX12_counts_0_ok (1, (.istore_n 3, 1)) (List.mem_of_getElem? (i := 1) rfl))
theorem dX12_counts_2 : decode cX12_counts 2 = .ok (.iload_n 3, 1) := of_decide_eq_true (List.all_eq_true.mp dsX12_counts_0_ok (2, (.iload_n 3, 1)) (List.mem_of_getElem? (i := 2) rfl))
theorem dX12_counts_3 : decode cX12_counts 3 = .ok (.aload_n 0, 1) := of_decide_eq_true (List.all_eq_true.mp dsX12_counts_0_ok (3, (.aload_n 0, 1)) (List.mem_of_getElem? (i := 3) rfl))
theorem dX12_counts_4 : decode cX12_counts 4 = .ok (.getfield 66, 3) := of_decide_eq_true (List.all_eq_true.mp dsX12_counts_0_ok (4, (.getfield 66, 3)) (List.mem_of_getElem? (i := 4) rfl))
theorem dX12_counts_7 : decode cX12_counts 7 = .ok (.aload_n 0, 1) := of_decide_eq_true (List.all_eq_true.mp dsX12_counts_0_ok (7, (.aload_n 0, 1)) (List.mem_of_getElem? (i := 5) rfl))
theorem dX12_counts_8 : decode cX12_counts 8 = .ok (.getfield 51, 3) := of_decide_eq_true (List.all_eq_true.mp dsX12_counts_0_ok (8, (.getfield 51, 3)) (List.mem_of_getElem? (i := 6) rfl))
theorem dX12_counts_11 : decode cX12_counts 11 = .ok (.iaload, 1) := of_decide_eq_true (List.all_eq_true.mp dsX12_counts_0_ok (11, (.iaload, 1)) (List.mem_of_getElem? (i := 7) rfl))
theorem dX12_counts_12 : decode cX12_counts 12 = .ok (.if_icmp .ge 57, 3) := of_decide_eq_true (List.all_eq_true.mp dsX12_counts_0_ok (12, (.if_icmp .ge 57, 3)) (List.mem_of_getElem? (i := 8) rfl))
theorem dX12_counts_15 : decode cX12_counts 15 = .ok (.iconst 0, 1) := of_decide_eq_true (List.all_eq_true.mp dsX12_counts_0_ok (15, (.iconst 0, 1)) (List.mem_of_getElem? (i := 9) rfl))
theorem dX12_counts_16 : decode cX12_counts 16 = .ok (.istore 4, 2) := of_decide_eq_true (List.all_eq_true.mp dsX12_counts_0_ok (16, (.istore 4, 2)) (List.mem_of_getElem? (i := 10) rfl))
theorem dX12_counts_18 : decode cX12_counts 18 = .ok (.iload 4, 2) := of_decide_eq_true (List.all_eq_true.mp dsX12_counts_0_ok (18, (.iload 4, 2)) (List.mem_of_getElem? (i := 11) rfl))
theorem dX12_counts_20 : decode cX12_counts 20 = .ok (.bipush 10, 2) := of_decide_eq_true (List.all_eq_true.mp dsX12_counts_0_ok (20, (.bipush 10, 2)) (List.mem_of_getElem? (i := 12) rfl))
theorem dX12_counts_22 : decode cX12_counts 22 = .ok (.if_icmp .ge 41, 3) := of_decide_eq_true (List.all_eq_true.mp dsX12_counts_0_ok (22, (.if_icmp .ge 41, 3)) (List.mem_of_getElem? (i := 13) rfl))
theorem dX12_counts_25 : decode cX12_counts 25 = .ok (.aload_n 0, 1) := of_decide_eq_true (List.all_eq_true.mp dsX12_counts_0_ok (25, (.aload_n 0, 1)) (List.mem_of_getElem? (i := 14) rfl))
theorem dX12_counts_26 : decode cX12_counts 26 = .ok (.getfield 192, 3) := of_decide_eq_true (List.all_eq_true.mp dsX12_counts_0_ok (26, (.getfield 192, 3)) (List.mem_of_getElem? (i := 15) rfl))
theorem dX12_counts_29 : decode cX12_counts 29 = .ok (.bipush 10, 2) := of_decide_eq_true (List.all_eq_true.mp dsX12_counts_0_ok (29, (.bipush 10, 2)) (List.mem_of_getElem? (i := 16) rfl))
theorem dX12_counts_31 : decode cX12_counts 31 = .ok (.iload_n 3, 1) := of_decide_eq_true (List.all_eq_true.mp dsX12_counts_0_ok (31, (.iload_n 3, 1)) (List.mem_of_getElem? (i := 17) rfl))
theorem dX12_counts_32 : decode cX12_counts 32 = .ok (.imul, 1) := of_decide_eq_true (List.all_eq_true.mp dsX12_counts_0_ok (32, (.imul, 1)) (List.mem_of_getElem? (i := 18) rfl))
theorem dX12_counts_33 : decode cX12_counts 33 = .ok (.iload 4, 2) := of_decide_eq_true (List.all_eq_true.mp dsX12_counts_0_ok (33, (.iload 4, 2)) (List.mem_of_getElem? (i := 19) rfl))
theorem dX12_counts_35 : decode cX12_counts 35 = .ok (.iadd, 1) := of_decide_eq_true (List.all_eq_true.mp dsX12_counts_0_ok (35, (.iadd, 1)) (List.mem_of_getElem? (i := 20) rfl))
theorem dX12_counts_36 : decode cX12_counts 36 = .ok (.dup2, 1) := of_decide_eq_true (List.all_eq_true.mp dsX12_counts_0_ok (36, (.dup2, 1)) (List.mem_of_getElem? (i := 21) rfl))
theorem dX12_counts_37 : decode cX12_counts 37 = .ok (.iaload, 1) := of_decide_eq_true (List.all_eq_true.mp dsX12_counts_0_ok (37, (.iaload, 1)) (List.mem_of_getElem? (i := 22) rfl))
theorem dX12_counts_38 : decode cX12_counts 38 = .ok (.aload_n 0, 1) := of_decide_eq_true (List.all_eq_true.mp dsX12_counts_0_ok (38, (.aload_n 0, 1)) (List.mem_of_getElem? (i := 23) rfl))
theorem dX12_counts_39 : decode cX12_counts 39 = .ok (.iload_n 1, 1) := of_decide_eq_true (List.all_eq_true.mp dsX12_counts_0_ok (39, (.iload_n 1, 1)) (List.mem_of_getElem? (i := 24) rfl))
theorem dX12_counts_40 : decode cX12_counts 40 = .ok (.iload_n 3, 1) := of_decide_eq_true (List.all_eq_true.mp dsX12_counts_0_ok (40, (.iload_n 3, 1)) (List.mem_of_getElem? (i := 25) rfl))
theorem dX12_counts_41 : decode cX12_counts 41 = .ok (.iload 4, 2) := of_decide_eq_true (List.all_eq_true.mp dsX12_counts_0_ok (41, (.iload 4, 2)) (List.mem_of_getElem? (i := 26) rfl))
theorem dX12_counts_43 : decode cX12_counts 43 = .ok (.iload_n 2, 1) := of_decide_eq_true (List.all_eq_true.mp dsX12_counts_0_ok (43, (.iload_n 2, 1)) (List.mem_of_getElem? (i := 27) rfl))
theorem dX12_counts_44 : decode cX12_counts 44 = .ok (.invokevirtual 437, 3) := of_decide_eq_true (List.all_eq_true.mp dsX12_counts_0_ok (44, (.invokevirtual 437, 3)) (List.mem_of_getElem? (i := 28) rfl))
theorem dX12_counts_47 : decode cX12_counts 47 = .ok (.ifCond .eq 7, 3) := of_decide_eq_true (List.all_eq_true.mp dsX12_counts_0_ok (47, (.ifCond .eq 7, 3)) (List.mem_of_getElem? (i := 29) rfl))
theorem dX12_counts_50 : decode cX12_counts 50 = .ok (.iconst 1, 1) := of_decide_eq_true (List.all_eq_true.mp dsX12_counts_0_ok (50, (.iconst 1, 1)) (List.mem_of_getElem? (i := 30) rfl))
theorem dX12_counts_51 : decode cX12_counts 51 = .ok (.goto 4, 3) := of_decide_eq_true (List.all_eq_true.mp dsX12_counts_0_ok (51, (.goto 4, 3)) (List.mem_of_getElem? (i := 31) rfl))
theorem dX12_counts_54 : decode cX12_counts 54 = .ok (.iconst 0, 1) := of_decide_eq_true (List.all_eq_true.mp dsX12_counts_0_ok (54, (.iconst 0, 1)) (List.mem_of_getElem? (i := 32) rfl))
theorem dX12_counts_55 : decode cX12_counts 55 = .ok (.iadd, 1) := of_decide_eq_true (List.all_eq_true.mp dsX12_counts_0_ok (55, (.iadd, 1)) (List.mem_of_getElem? (i := 33) rfl))
theorem dX12_counts_56 : decode cX12_counts 56 = .ok (.iastore, 1) := of_decide_eq_true (List.all_eq_true.mp dsX12_counts_0_ok (56, (.iastore, 1)) (List.mem_of_getElem? (i := 34) rfl))
theorem dX12_counts_57 : decode cX12_counts 57 = .ok (.iinc 4 1, 3) := of_decide_eq_true (List.all_eq_true.mp dsX12_counts_0_ok (57, (.iinc 4 1, 3)) (List.mem_of_getElem? (i := 35) rfl))
theorem dX12_counts_60 : decode cX12_counts 60 = .ok (.goto (-42), 3) := of_decide_eq_true (List.all_eq_true.mp dsX12_counts_0_ok (60, (.goto (-42), 3)) (List.mem_of_getElem? (i := 36) rfl))
theorem dX12_counts_63 : decode cX12_counts 63 = .ok (.iinc 3 1, 3) := of_decide_eq_true (List.all_eq_true.mp dsX12_counts_0_ok (63, (.iinc 3 1, 3)) (List.mem_of_getElem? (i := 37) rfl))
theorem dX12_counts_66 : decode cX12_counts 66 = .ok (.goto (-64), 3) := of_decide_eq_true (List.all_eq_true.mp dsX12_counts_0_ok (66, (.goto (-64), 3)) (List.mem_of_getElem? (i := 38) rfl))
theorem dX12_counts_69 : decode cX12_counts 69 = .ok (.return_, 1) := of_decide_eq_true (List.all_eq_true.mp dsX12_counts_0_ok (69, (.return_, 1)) (List.mem_of_getElem? (i := 39) rfl))
def fX12_counts_b55 (N : Nat) (mmI : Nat → Int32) (mm_earsF : Nat → Int32) (mm_sumFromF : Nat → Int32) (mm_nightOfF : Nat → Int32) (mm_sharpOfF : Nat → Int32) (mm_mileOfF : Nat → Int32) (mm_milesToldF : Nat → Int32) (mm_sumBehindF : Nat → Int32) (mm_codeSortF : Nat → Int32) (mm_codeValueF : Nat → Int32)  (k2 : ((Nat → Int32) × (Nat → Int32) × (Nat → Int64) × Int32 × Int32 × Int32) → Option ((Nat → Int32) × (Nat → Int32) × (Nat → Int64))) (k18 : ((Nat → Int32) × (Nat → Int32) × (Nat → Int64) × Int32 × Int32 × Int32 × Int32) → Option ((Nat → Int32) × (Nat → Int32) × (Nat → Int64))) : ((Nat → Int32) × (Nat → Int32) × (Nat → Int64) × Int32 × Int32 × Int32 × Int32 × Int32 × Int32 × Int32) → Option ((Nat → Int32) × (Nat → Int32) × (Nat → Int64)) :=
  fun (mm_heardFromF_55, mm_askedF_55, mm_stackL_55, x1_55, x2_55, x3_55, x4_55, y1_55, y2_55, y3_55) => (xq_bd (xq_ast 70 mm_heardFromF_55 y1_55 (y2_55 + y3_55)) fun g_1 => k18 (g_1, mm_askedF_55, mm_stackL_55, x1_55, x2_55, x3_55, x4_55 + 1))
def fX12_counts_l18 (N : Nat) (mmI : Nat → Int32) (mm_earsF : Nat → Int32) (mm_sumFromF : Nat → Int32) (mm_nightOfF : Nat → Int32) (mm_sharpOfF : Nat → Int32) (mm_mileOfF : Nat → Int32) (mm_milesToldF : Nat → Int32) (mm_sumBehindF : Nat → Int32) (mm_codeSortF : Nat → Int32) (mm_codeValueF : Nat → Int32)  (k2 : ((Nat → Int32) × (Nat → Int32) × (Nat → Int64) × Int32 × Int32 × Int32) → Option ((Nat → Int32) × (Nat → Int32) × (Nat → Int64))) (k18 : ((Nat → Int32) × (Nat → Int32) × (Nat → Int64) × Int32 × Int32 × Int32 × Int32) → Option ((Nat → Int32) × (Nat → Int32) × (Nat → Int64))) : ((Nat → Int32) × (Nat → Int32) × (Nat → Int64) × Int32 × Int32 × Int32 × Int32) → Option ((Nat → Int32) × (Nat → Int32) × (Nat → Int64)) :=
  fun (mm_heardFromF_18, mm_askedF_18, mm_stackL_18, x1_18, x2_18, x3_18, x4_18) => (if 10 ≤ x4_18 then k2 (mm_heardFromF_18, mm_askedF_18, mm_stackL_18, x1_18, x2_18, x3_18 + 1) else (xq_bd (xq_ald 70 mm_heardFromF_18 ((10 * x3_18) + x4_18)) fun v_2 => (xq_bd (fX12_isHeardIn N mmI mm_sumFromF mm_nightOfF mm_askedF_18 mm_sharpOfF mm_mileOfF mm_milesToldF mm_sumBehindF mm_stackL_18 mm_codeSortF mm_codeValueF x1_18 x3_18 x4_18 x2_18) fun (r_3_0, r_3_1, r_3_2) => (if r_3_0 = 0 then fX12_counts_b55 N mmI mm_earsF mm_sumFromF mm_nightOfF mm_sharpOfF mm_mileOfF mm_milesToldF mm_sumBehindF mm_codeSortF mm_codeValueF k2 k18 (mm_heardFromF_18, r_3_1, r_3_2, x1_18, x2_18, x3_18, x4_18, (10 * x3_18) + x4_18, v_2, 0) else fX12_counts_b55 N mmI mm_earsF mm_sumFromF mm_nightOfF mm_sharpOfF mm_mileOfF mm_milesToldF mm_sumBehindF mm_codeSortF mm_codeValueF k2 k18 (mm_heardFromF_18, r_3_1, r_3_2, x1_18, x2_18, x3_18, x4_18, (10 * x3_18) + x4_18, v_2, 1)))))
def fX12_counts_l2 (N : Nat) (mmI : Nat → Int32) (mm_earsF : Nat → Int32) (mm_sumFromF : Nat → Int32) (mm_nightOfF : Nat → Int32) (mm_sharpOfF : Nat → Int32) (mm_mileOfF : Nat → Int32) (mm_milesToldF : Nat → Int32) (mm_sumBehindF : Nat → Int32) (mm_codeSortF : Nat → Int32) (mm_codeValueF : Nat → Int32)  (k2 : ((Nat → Int32) × (Nat → Int32) × (Nat → Int64) × Int32 × Int32 × Int32) → Option ((Nat → Int32) × (Nat → Int32) × (Nat → Int64))) : ((Nat → Int32) × (Nat → Int32) × (Nat → Int64) × Int32 × Int32 × Int32) → Option ((Nat → Int32) × (Nat → Int32) × (Nat → Int64)) :=
  fun (mm_heardFromF_2, mm_askedF_2, mm_stackL_2, x1_2, x2_2, x3_2) => (xq_bd (xq_ald 2 mm_earsF (mmI 13)) fun v_5 => (if v_5 ≤ x3_2 then some ((mm_heardFromF_2, mm_askedF_2, mm_stackL_2)) else xq_loop (fX12_counts_l18 N mmI mm_earsF mm_sumFromF mm_nightOfF mm_sharpOfF mm_mileOfF mm_milesToldF mm_sumBehindF mm_codeSortF mm_codeValueF k2) N (mm_heardFromF_2, mm_askedF_2, mm_stackL_2, x1_2, x2_2, x3_2, 0)))
def fX12_counts (N : Nat) (mmI : Nat → Int32) (mm_earsF : Nat → Int32) (mm_heardFromF : Nat → Int32) (mm_sumFromF : Nat → Int32) (mm_nightOfF : Nat → Int32) (mm_askedF : Nat → Int32) (mm_sharpOfF : Nat → Int32) (mm_mileOfF : Nat → Int32) (mm_milesToldF : Nat → Int32) (mm_sumBehindF : Nat → Int32) (mm_stackL : Nat → Int64) (mm_codeSortF : Nat → Int32) (mm_codeValueF : Nat → Int32)  (p1 : Int32) (p2 : Int32) : Option ((Nat → Int32) × (Nat → Int32) × (Nat → Int64)) :=
  xq_loop (fX12_counts_l2 N mmI mm_earsF mm_sumFromF mm_nightOfF mm_sharpOfF mm_mileOfF mm_milesToldF mm_sumBehindF mm_codeSortF mm_codeValueF) N (mm_heardFromF, mm_askedF, mm_stackL, p1, p2, 0)
set_option maxHeartbeats 4000000 in
set_option maxRecDepth 100000 in
theorem kX12_counts (l : Launch) (dC : Nat → ClassId) (dI : Nat → Nat → Nat) (cI cB cJ cZ cM : ClassId) (z : Nat) (ad : Nat → Nat) (N : Nat) (a_p0 : Nat) (mmI : Nat → Int32) (mmJ : Nat → Int64) (mmR : Nat → Nat) (mm_earsF : Nat → Int32) (mm_heardFromF : Nat → Int32) (mm_sumFromF : Nat → Int32) (mm_nightOfF : Nat → Int32) (mm_askedF : Nat → Int32) (mm_sharpOfF : Nat → Int32) (mm_mileOfF : Nat → Int32) (mm_milesToldF : Nat → Int32) (mm_sumBehindF : Nat → Int32) (mm_stackL : Nat → Int64) (mm_codeSortF : Nat → Int32) (mm_codeValueF : Nat → Int32) (p1 : Int32) (p2 : Int32) {r0 : Nat → Int32} {r1 : Nat → Int32} {r2 : Nat → Int64} (hf : fX12_counts N mmI mm_earsF mm_heardFromF mm_sumFromF mm_nightOfF mm_askedF mm_sharpOfF mm_mileOfF mm_milesToldF mm_sumBehindF mm_stackL mm_codeSortF mm_codeValueF p1 p2 = some (r0, r1, r2)) : xq_Ct l yX12_counts wsX12_counts { frames := 4, cells := 0, slots := 0, locals := 97 } (dC, dI) vwCl (xq_tys cI cB cJ cZ cM) z ad [.ref a_p0, .int p1, .int p2] [(a_p0, .inr (12, oX12 mmI mmJ mmR)), ((mmR 18), .inl (cI, 2, .inl mm_earsF)), ((mmR 59), .inl (cI, 70, .inl mm_heardFromF)), ((mmR 24), .inl (cI, 6, .inl mm_sumFromF)), ((mmR 45), .inl (cI, 22, .inl mm_nightOfF)), ((mmR 58), .inl (cI, 12, .inl mm_askedF)), ((mmR 20), .inl (cI, 14, .inl mm_sharpOfF)), ((mmR 46), .inl (cI, 22, .inl mm_mileOfF)), ((mmR 14), .inl (cI, 2, .inl mm_milesToldF)), ((mmR 25), .inl (cI, 6, .inl mm_sumBehindF)), ((mmR 57), .inl (cJ, 500, .inr (.inl mm_stackL))), ((mmR 26), .inl (cI, 3200, .inl mm_codeSortF)), ((mmR 27), .inl (cI, 3200, .inl mm_codeValueF))] [(a_p0, .inr (12, oX12 mmI mmJ mmR)), ((mmR 18), .inl (cI, 2, .inl mm_earsF)), ((mmR 59), .inl (cI, 70, .inl r0)), ((mmR 24), .inl (cI, 6, .inl mm_sumFromF)), ((mmR 45), .inl (cI, 22, .inl mm_nightOfF)), ((mmR 58), .inl (cI, 12, .inl r1)), ((mmR 20), .inl (cI, 14, .inl mm_sharpOfF)), ((mmR 46), .inl (cI, 22, .inl mm_mileOfF)), ((mmR 14), .inl (cI, 2, .inl mm_milesToldF)), ((mmR 25), .inl (cI, 6, .inl mm_sumBehindF)), ((mmR 57), .inl (cJ, 500, .inr (.inl r2))), ((mmR 26), .inl (cI, 3200, .inl mm_codeSortF)), ((mmR 27), .inl (cI, 3200, .inl mm_codeValueF))] none := by
  intro sz
  refine Met.ofW (cc := cX12_counts) (maxL := 5) (ret := none) (by decide) rfl ?_
  intro p e s m args below meth c s₁ B hml hv
  obtain ⟨rfl, hsz, hP, hK, hD0, hE, hz⟩ := hv
  have hx := B.exec
  have hb := B.bytes
  have hr := B.returns
  have hts := atoms_spec (ws := wsX12_counts) B.pre
  have hown : s.vm.findClass RX12 = some m.cls := findClass_of_methodNamed B.named
  have hlocks := B.notSynchronized
  subst hsz
  have hD := hD0.self (sz := s.heap.size)
  have hN := xq_Env.of hE hz hD0
  generalize hAe : va_A [(a_p0, .inr (12, oX12 mmI mmJ mmR)), ((mmR 18), .inl (cI, 2, .inl mm_earsF)), ((mmR 59), .inl (cI, 70, .inl mm_heardFromF)), ((mmR 24), .inl (cI, 6, .inl mm_sumFromF)), ((mmR 45), .inl (cI, 22, .inl mm_nightOfF)), ((mmR 58), .inl (cI, 12, .inl mm_askedF)), ((mmR 20), .inl (cI, 14, .inl mm_sharpOfF)), ((mmR 46), .inl (cI, 22, .inl mm_mileOfF)), ((mmR 14), .inl (cI, 2, .inl mm_milesToldF)), ((mmR 25), .inl (cI, 6, .inl mm_sumBehindF)), ((mmR 57), .inl (cJ, 500, .inr (.inl mm_stackL))), ((mmR 26), .inl (cI, 3200, .inl mm_codeSortF)), ((mmR 27), .inl (cI, 3200, .inl mm_codeValueF))] s.heap.size = A at hD hN ⊢
  have hA : ∀ q : Nat, s.heap.size ≤ q → A q := fun q h => by rw [← hAe]; exact Or.inr h
  clear hAe hD0
  have hS : va_S A s.heap s.heap [] := va_S.rf
  have hl := lv_entry ([.ref a_p0, .int p1, .int p2]) (n := 5) (Nat.le_of_ble_eq_true rfl)
  rw [lg_entry_eq]
  generalize (lg_sl ([.ref a_p0, .int p1, .int p2]) ++ List.replicate (5 - (lg_sl ([.ref a_p0, .int p1, .int p2])).length) Slot.unset).toArray = ls at hl ⊢
  have hl : lv_has ls 5 [(0, .ref a_p0), (1, .int p1), (2, .int p2)] := hl
  have hw0 := hts (.fieldLink RX12 66 "DistantVoiceModel" "ears" "[I") (by decide +kernel)
  have hinX12 : ∀ w ∈ wsX120, w ∈ wsX12_counts := fun w h => List.mem_cons_of_mem _ (List.mem_append_right _ h)
  have hw2 := hts (.fieldLink RX12 51 "DistantVoiceModel" "bank" "I") (by decide +kernel)
  have hw3 := hts (.fieldLink RX12 192 "DistantVoiceModel" "heardFrom" "[I") (by decide +kernel)
  have l2 : ∀ n2 : Nat, ∀ (mm_heardFromF_2 : Nat → Int32) (mm_askedF_2 : Nat → Int32) (mm_stackL_2 : Nat → Int64) (x1_2 : Int32) (x2_2 : Int32) (x3_2 : Int32) (ls : Array Slot) (H : Heap) (locs : List Loc), xq_loop (fX12_counts_l2 N mmI mm_earsF mm_sumFromF mm_nightOfF mm_sharpOfF mm_mileOfF mm_milesToldF mm_sumBehindF mm_codeSortF mm_codeValueF) n2 (mm_heardFromF_2, mm_askedF_2, mm_stackL_2, x1_2, x2_2, x3_2) = some (r0, r1, r2) → va_P (dC, dI) vwCl [(a_p0, .inr (12, oX12 mmI mmJ mmR)), ((mmR 18), .inl (cI, 2, .inl mm_earsF)), ((mmR 59), .inl (cI, 70, .inl mm_heardFromF_2)), ((mmR 24), .inl (cI, 6, .inl mm_sumFromF)), ((mmR 45), .inl (cI, 22, .inl mm_nightOfF)), ((mmR 58), .inl (cI, 12, .inl mm_askedF_2)), ((mmR 20), .inl (cI, 14, .inl mm_sharpOfF)), ((mmR 46), .inl (cI, 22, .inl mm_mileOfF)), ((mmR 14), .inl (cI, 2, .inl mm_milesToldF)), ((mmR 25), .inl (cI, 6, .inl mm_sumBehindF)), ((mmR 57), .inl (cJ, 500, .inr (.inl mm_stackL_2))), ((mmR 26), .inl (cI, 3200, .inl mm_codeSortF)), ((mmR 27), .inl (cI, 3200, .inl mm_codeValueF))] H → va_D A [(a_p0, .inr (12, oX12 mmI mmJ mmR)), ((mmR 18), .inl (cI, 2, .inl mm_earsF)), ((mmR 59), .inl (cI, 70, .inl mm_heardFromF_2)), ((mmR 24), .inl (cI, 6, .inl mm_sumFromF)), ((mmR 45), .inl (cI, 22, .inl mm_nightOfF)), ((mmR 58), .inl (cI, 12, .inl mm_askedF_2)), ((mmR 20), .inl (cI, 14, .inl mm_sharpOfF)), ((mmR 46), .inl (cI, 22, .inl mm_mileOfF)), ((mmR 14), .inl (cI, 2, .inl mm_milesToldF)), ((mmR 25), .inl (cI, 6, .inl mm_sumBehindF)), ((mmR 57), .inl (cJ, 500, .inr (.inl mm_stackL_2))), ((mmR 26), .inl (cI, 3200, .inl mm_codeSortF)), ((mmR 27), .inl (cI, 3200, .inl mm_codeValueF))] → va_S A s.heap H locs → lv_has ls 5 [(0, .ref a_p0), (1, .int x1_2), (2, .int x2_2), (3, .int x3_2)] → W p l e (headSpec wsX12_counts { frames := 4, cells := 0, slots := 0, locals := 97 }).room s m [.ref a_p0, .int p1, .int p2].toArray below meth c H locs 0 0 (MQ below (xq_Q (dC, dI) vwCl (xq_tys cI cB cJ cZ cM) A [(a_p0, .inr (12, oX12 mmI mmJ mmR)), ((mmR 18), .inl (cI, 2, .inl mm_earsF)), ((mmR 59), .inl (cI, 70, .inl r0)), ((mmR 24), .inl (cI, 6, .inl mm_sumFromF)), ((mmR 45), .inl (cI, 22, .inl mm_nightOfF)), ((mmR 58), .inl (cI, 12, .inl r1)), ((mmR 20), .inl (cI, 14, .inl mm_sharpOfF)), ((mmR 46), .inl (cI, 22, .inl mm_mileOfF)), ((mmR 14), .inl (cI, 2, .inl mm_milesToldF)), ((mmR 25), .inl (cI, 6, .inl mm_sumBehindF)), ((mmR 57), .inl (cJ, 500, .inr (.inl r2))), ((mmR 26), .inl (cI, 3200, .inl mm_codeSortF)), ((mmR 27), .inl (cI, 3200, .inl mm_codeValueF))] none) [.ref a_p0, .int p1, .int p2].toArray s 0 0 A) (F0 m 2 ls []) := by
    intro n2
    induction n2 with
    | zero => intro mm_heardFromF_2 mm_askedF_2 mm_stackL_2 x1_2 x2_2 x3_2 ls H locs hf; cases (show none = some (r0, r1, r2) from hf)
    | succ n2 ih2 =>
      have l18 : ∀ n18 : Nat, ∀ (mm_heardFromF_18 : Nat → Int32) (mm_askedF_18 : Nat → Int32) (mm_stackL_18 : Nat → Int64) (x1_18 : Int32) (x2_18 : Int32) (x3_18 : Int32) (x4_18 : Int32) (ls : Array Slot) (H : Heap) (locs : List Loc), xq_loop (fX12_counts_l18 N mmI mm_earsF mm_sumFromF mm_nightOfF mm_sharpOfF mm_mileOfF mm_milesToldF mm_sumBehindF mm_codeSortF mm_codeValueF (xq_loop (fX12_counts_l2 N mmI mm_earsF mm_sumFromF mm_nightOfF mm_sharpOfF mm_mileOfF mm_milesToldF mm_sumBehindF mm_codeSortF mm_codeValueF) n2)) n18 (mm_heardFromF_18, mm_askedF_18, mm_stackL_18, x1_18, x2_18, x3_18, x4_18) = some (r0, r1, r2) → va_P (dC, dI) vwCl [(a_p0, .inr (12, oX12 mmI mmJ mmR)), ((mmR 18), .inl (cI, 2, .inl mm_earsF)), ((mmR 59), .inl (cI, 70, .inl mm_heardFromF_18)), ((mmR 24), .inl (cI, 6, .inl mm_sumFromF)), ((mmR 45), .inl (cI, 22, .inl mm_nightOfF)), ((mmR 58), .inl (cI, 12, .inl mm_askedF_18)), ((mmR 20), .inl (cI, 14, .inl mm_sharpOfF)), ((mmR 46), .inl (cI, 22, .inl mm_mileOfF)), ((mmR 14), .inl (cI, 2, .inl mm_milesToldF)), ((mmR 25), .inl (cI, 6, .inl mm_sumBehindF)), ((mmR 57), .inl (cJ, 500, .inr (.inl mm_stackL_18))), ((mmR 26), .inl (cI, 3200, .inl mm_codeSortF)), ((mmR 27), .inl (cI, 3200, .inl mm_codeValueF))] H → va_D A [(a_p0, .inr (12, oX12 mmI mmJ mmR)), ((mmR 18), .inl (cI, 2, .inl mm_earsF)), ((mmR 59), .inl (cI, 70, .inl mm_heardFromF_18)), ((mmR 24), .inl (cI, 6, .inl mm_sumFromF)), ((mmR 45), .inl (cI, 22, .inl mm_nightOfF)), ((mmR 58), .inl (cI, 12, .inl mm_askedF_18)), ((mmR 20), .inl (cI, 14, .inl mm_sharpOfF)), ((mmR 46), .inl (cI, 22, .inl mm_mileOfF)), ((mmR 14), .inl (cI, 2, .inl mm_milesToldF)), ((mmR 25), .inl (cI, 6, .inl mm_sumBehindF)), ((mmR 57), .inl (cJ, 500, .inr (.inl mm_stackL_18))), ((mmR 26), .inl (cI, 3200, .inl mm_codeSortF)), ((mmR 27), .inl (cI, 3200, .inl mm_codeValueF))] → va_S A s.heap H locs → lv_has ls 5 [(0, .ref a_p0), (1, .int x1_18), (2, .int x2_18), (3, .int x3_18), (4, .int x4_18)] → W p l e (headSpec wsX12_counts { frames := 4, cells := 0, slots := 0, locals := 97 }).room s m [.ref a_p0, .int p1, .int p2].toArray below meth c H locs 0 0 (MQ below (xq_Q (dC, dI) vwCl (xq_tys cI cB cJ cZ cM) A [(a_p0, .inr (12, oX12 mmI mmJ mmR)), ((mmR 18), .inl (cI, 2, .inl mm_earsF)), ((mmR 59), .inl (cI, 70, .inl r0)), ((mmR 24), .inl (cI, 6, .inl mm_sumFromF)), ((mmR 45), .inl (cI, 22, .inl mm_nightOfF)), ((mmR 58), .inl (cI, 12, .inl r1)), ((mmR 20), .inl (cI, 14, .inl mm_sharpOfF)), ((mmR 46), .inl (cI, 22, .inl mm_mileOfF)), ((mmR 14), .inl (cI, 2, .inl mm_milesToldF)), ((mmR 25), .inl (cI, 6, .inl mm_sumBehindF)), ((mmR 57), .inl (cJ, 500, .inr (.inl r2))), ((mmR 26), .inl (cI, 3200, .inl mm_codeSortF)), ((mmR 27), .inl (cI, 3200, .inl mm_codeValueF))] none) [.ref a_p0, .int p1, .int p2].toArray s 0 0 A) (F0 m 18 ls []) := by
        intro n18
        induction n18 with
        | zero => intro mm_heardFromF_18 mm_askedF_18 mm_stackL_18 x1_18 x2_18 x3_18 x4_18 ls H locs hf; cases (show none = some (r0, r1, r2) from hf)
        | succ n18 ih18 =>
          have b55 : ∀ (mm_heardFromF_55 : Nat → Int32) (mm_askedF_55 : Nat → Int32) (mm_stackL_55 : Nat → Int64) (x1_55 : Int32) (x2_55 : Int32) (x3_55 : Int32) (x4_55 : Int32) (y1_55 : Int32) (y2_55 : Int32) (y3_55 : Int32) (ls : Array Slot) (H : Heap) (locs : List Loc), fX12_counts_b55 N mmI mm_earsF mm_sumFromF mm_nightOfF mm_sharpOfF mm_mileOfF mm_milesToldF mm_sumBehindF mm_codeSortF mm_codeValueF (xq_loop (fX12_counts_l2 N mmI mm_earsF mm_sumFromF mm_nightOfF mm_sharpOfF mm_mileOfF mm_milesToldF mm_sumBehindF mm_codeSortF mm_codeValueF) n2) (xq_loop (fX12_counts_l18 N mmI mm_earsF mm_sumFromF mm_nightOfF mm_sharpOfF mm_mileOfF mm_milesToldF mm_sumBehindF mm_codeSortF mm_codeValueF (xq_loop (fX12_counts_l2 N mmI mm_earsF mm_sumFromF mm_nightOfF mm_sharpOfF mm_mileOfF mm_milesToldF mm_sumBehindF mm_codeSortF mm_codeValueF) n2)) n18) (mm_heardFromF_55, mm_askedF_55, mm_stackL_55, x1_55, x2_55, x3_55, x4_55, y1_55, y2_55, y3_55) = some (r0, r1, r2) → va_P (dC, dI) vwCl [(a_p0, .inr (12, oX12 mmI mmJ mmR)), ((mmR 18), .inl (cI, 2, .inl mm_earsF)), ((mmR 59), .inl (cI, 70, .inl mm_heardFromF_55)), ((mmR 24), .inl (cI, 6, .inl mm_sumFromF)), ((mmR 45), .inl (cI, 22, .inl mm_nightOfF)), ((mmR 58), .inl (cI, 12, .inl mm_askedF_55)), ((mmR 20), .inl (cI, 14, .inl mm_sharpOfF)), ((mmR 46), .inl (cI, 22, .inl mm_mileOfF)), ((mmR 14), .inl (cI, 2, .inl mm_milesToldF)), ((mmR 25), .inl (cI, 6, .inl mm_sumBehindF)), ((mmR 57), .inl (cJ, 500, .inr (.inl mm_stackL_55))), ((mmR 26), .inl (cI, 3200, .inl mm_codeSortF)), ((mmR 27), .inl (cI, 3200, .inl mm_codeValueF))] H → va_D A [(a_p0, .inr (12, oX12 mmI mmJ mmR)), ((mmR 18), .inl (cI, 2, .inl mm_earsF)), ((mmR 59), .inl (cI, 70, .inl mm_heardFromF_55)), ((mmR 24), .inl (cI, 6, .inl mm_sumFromF)), ((mmR 45), .inl (cI, 22, .inl mm_nightOfF)), ((mmR 58), .inl (cI, 12, .inl mm_askedF_55)), ((mmR 20), .inl (cI, 14, .inl mm_sharpOfF)), ((mmR 46), .inl (cI, 22, .inl mm_mileOfF)), ((mmR 14), .inl (cI, 2, .inl mm_milesToldF)), ((mmR 25), .inl (cI, 6, .inl mm_sumBehindF)), ((mmR 57), .inl (cJ, 500, .inr (.inl mm_stackL_55))), ((mmR 26), .inl (cI, 3200, .inl mm_codeSortF)), ((mmR 27), .inl (cI, 3200, .inl mm_codeValueF))] → va_S A s.heap H locs → lv_has ls 5 [(0, .ref a_p0), (1, .int x1_55), (2, .int x2_55), (3, .int x3_55), (4, .int x4_55)] → W p l e (headSpec wsX12_counts { frames := 4, cells := 0, slots := 0, locals := 97 }).room s m [.ref a_p0, .int p1, .int p2].toArray below meth c H locs 0 0 (MQ below (xq_Q (dC, dI) vwCl (xq_tys cI cB cJ cZ cM) A [(a_p0, .inr (12, oX12 mmI mmJ mmR)), ((mmR 18), .inl (cI, 2, .inl mm_earsF)), ((mmR 59), .inl (cI, 70, .inl r0)), ((mmR 24), .inl (cI, 6, .inl mm_sumFromF)), ((mmR 45), .inl (cI, 22, .inl mm_nightOfF)), ((mmR 58), .inl (cI, 12, .inl r1)), ((mmR 20), .inl (cI, 14, .inl mm_sharpOfF)), ((mmR 46), .inl (cI, 22, .inl mm_mileOfF)), ((mmR 14), .inl (cI, 2, .inl mm_milesToldF)), ((mmR 25), .inl (cI, 6, .inl mm_sumBehindF)), ((mmR 57), .inl (cJ, 500, .inr (.inl r2))), ((mmR 26), .inl (cI, 3200, .inl mm_codeSortF)), ((mmR 27), .inl (cI, 3200, .inl mm_codeValueF))] none) [.ref a_p0, .int p1, .int p2].toArray s 0 0 A) (F0 m 55 ls [.int y3_55, .int y2_55, .int y1_55, .ref ((mmR 59))]) := by
            intro mm_heardFromF_55 mm_askedF_55 mm_stackL_55 x1_55 x2_55 x3_55 x4_55 y1_55 y2_55 y3_55 ls H locs hf hP hD hS hl
            unfold fX12_counts_b55 at hf
            refine lv_iadd hx hb dX12_counts_55 ?_
            refine xq_iast hx hb hK hP hD hS 2 0 rfl rfl hf dX12_counts_56 (fun g_1 H locs hf hP hD hS => ?_)
            have hP : va_P (dC, dI) vwCl [(a_p0, .inr (12, oX12 mmI mmJ mmR)), ((mmR 18), .inl (cI, 2, .inl mm_earsF)), ((mmR 59), .inl (cI, 70, .inl g_1)), ((mmR 24), .inl (cI, 6, .inl mm_sumFromF)), ((mmR 45), .inl (cI, 22, .inl mm_nightOfF)), ((mmR 58), .inl (cI, 12, .inl mm_askedF_55)), ((mmR 20), .inl (cI, 14, .inl mm_sharpOfF)), ((mmR 46), .inl (cI, 22, .inl mm_mileOfF)), ((mmR 14), .inl (cI, 2, .inl mm_milesToldF)), ((mmR 25), .inl (cI, 6, .inl mm_sumBehindF)), ((mmR 57), .inl (cJ, 500, .inr (.inl mm_stackL_55))), ((mmR 26), .inl (cI, 3200, .inl mm_codeSortF)), ((mmR 27), .inl (cI, 3200, .inl mm_codeValueF))] H := hP
            have hD : va_D A [(a_p0, .inr (12, oX12 mmI mmJ mmR)), ((mmR 18), .inl (cI, 2, .inl mm_earsF)), ((mmR 59), .inl (cI, 70, .inl g_1)), ((mmR 24), .inl (cI, 6, .inl mm_sumFromF)), ((mmR 45), .inl (cI, 22, .inl mm_nightOfF)), ((mmR 58), .inl (cI, 12, .inl mm_askedF_55)), ((mmR 20), .inl (cI, 14, .inl mm_sharpOfF)), ((mmR 46), .inl (cI, 22, .inl mm_mileOfF)), ((mmR 14), .inl (cI, 2, .inl mm_milesToldF)), ((mmR 25), .inl (cI, 6, .inl mm_sumBehindF)), ((mmR 57), .inl (cJ, 500, .inr (.inl mm_stackL_55))), ((mmR 26), .inl (cI, 3200, .inl mm_codeSortF)), ((mmR 27), .inl (cI, 3200, .inl mm_codeValueF))] := hD
            refine lv_iinc (v := x4_55 + 1) (lv' := [(4, .int (x4_55 + 1)), (0, .ref a_p0), (1, .int x1_55), (2, .int x2_55), (3, .int x3_55)]) hx hb dX12_counts_57 hl (k := 4) rfl (congrArg (fun q9 => x4_55 + q9) (by decide : Int32.ofInt 1 = 1)) (by decide) rfl (fun ls hl => ?_)
            refine lv_goto (tgt := 18) hx hb dX12_counts_60 (by decide) ?_
            exact ih18 g_1 mm_askedF_55 mm_stackL_55 x1_55 x2_55 x3_55 (x4_55 + 1) _ _ _ hf hP hD hS (lv_sub hl [1, 2, 3, 4, 0] rfl)
          intro mm_heardFromF_18 mm_askedF_18 mm_stackL_18 x1_18 x2_18 x3_18 x4_18 ls H locs hf hP hD hS hl
          have hf : fX12_counts_l18 N mmI mm_earsF mm_sumFromF mm_nightOfF mm_sharpOfF mm_mileOfF mm_milesToldF mm_sumBehindF mm_codeSortF mm_codeValueF (xq_loop (fX12_counts_l2 N mmI mm_earsF mm_sumFromF mm_nightOfF mm_sharpOfF mm_mileOfF mm_milesToldF mm_sumBehindF mm_codeSortF mm_codeValueF) n2) (xq_loop (fX12_counts_l18 N mmI mm_earsF mm_sumFromF mm_nightOfF mm_sharpOfF mm_mileOfF mm_milesToldF mm_sumBehindF mm_codeSortF mm_codeValueF (xq_loop (fX12_counts_l2 N mmI mm_earsF mm_sumFromF mm_nightOfF mm_sharpOfF mm_mileOfF mm_milesToldF mm_sumBehindF mm_codeSortF mm_codeValueF) n2)) n18) (mm_heardFromF_18, mm_askedF_18, mm_stackL_18, x1_18, x2_18, x3_18, x4_18) = some (r0, r1, r2) := hf
          unfold fX12_counts_l18 at hf
          refine lv_iload hx hb dX12_counts_18 (lv_at hl 4 rfl) ?_
          refine lv_bipush (v := 10) hx hb dX12_counts_20 (by decide) ?_
          refine lv_icmp_ge (tgt := 63) hx hb dX12_counts_22 (by decide) (fun c_ => ?_) (fun c_ => ?_)
          · have hf := xq_pos hf c_
            refine lv_iinc (v := x3_18 + 1) (lv' := [(3, .int (x3_18 + 1)), (0, .ref a_p0), (1, .int x1_18), (2, .int x2_18), (4, .int x4_18)]) hx hb dX12_counts_63 hl (k := 3) rfl (congrArg (fun q9 => x3_18 + q9) (by decide : Int32.ofInt 1 = 1)) (by decide) rfl (fun ls hl => ?_)
            refine lv_goto (tgt := 2) hx hb dX12_counts_66 (by decide) ?_
            exact ih2 mm_heardFromF_18 mm_askedF_18 mm_stackL_18 x1_18 x2_18 (x3_18 + 1) _ _ _ hf hP hD hS (lv_sub hl [1, 2, 3, 0] rfl)
          · have hf := xq_neg hf c_
            refine lv_aload_n hx hb dX12_counts_25 rfl (lv_at hl 0 rfl) ?_
            refine va_get (D := (dC, dI)) (ci := 12) (v := .ref ((mmR 59))) (C := RX12) (T := TX12) (N := 70) hx hb hts hinX12 hown hK hP 0 rfl rfl 59 (by decide) hw3 (fun _ h9 => h9) rfl dX12_counts_26 ?_
            refine lv_bipush (v := 10) hx hb dX12_counts_29 (by decide) ?_
            refine lv_iload_n hx hb dX12_counts_31 rfl (lv_at hl 3 rfl) ?_
            refine lv_imul hx hb dX12_counts_32 ?_
            refine lv_iload hx hb dX12_counts_33 (lv_at hl 4 rfl) ?_
            refine lv_iadd hx hb dX12_counts_35 ?_
            refine lv_dup2_11 hx hb dX12_counts_36 rfl rfl ?_
            refine xq_iald hx hb hK hP 2 0 rfl rfl hf dX12_counts_37 (fun v_1 hf => ?_)
            refine lv_aload_n hx hb dX12_counts_38 rfl (lv_at hl 0 rfl) ?_
            refine lv_iload_n hx hb dX12_counts_39 rfl (lv_at hl 1 rfl) ?_
            refine lv_iload_n hx hb dX12_counts_40 rfl (lv_at hl 3 rfl) ?_
            refine lv_iload hx hb dX12_counts_41 (lv_at hl 4 rfl) ?_
            refine lv_iload_n hx hb dX12_counts_43 rfl (lv_at hl 2 rfl) ?_
            obtain ⟨⟨r_2_0, r_2_1, r_2_2⟩, h_3, hf⟩ := xq_bd_some hf
            refine xq_callV (As := [.int x1_18, .int x3_18, .int x4_18, .int x2_18]) (rest := [.int v_1, .int ((10 * x3_18) + x4_18), .ref ((mmR 59))]) (ci := 12) (q0 := 0) ⟨hx, hb, hml, hown, hts⟩ (kX12_isHeardIn l dC dI cI cB cJ cZ cM z ad N a_p0 mmI mmJ mmR mm_sumFromF mm_nightOfF mm_askedF_18 mm_sharpOfF mm_mileOfF mm_milesToldF mm_sumBehindF mm_stackL_18 mm_codeSortF mm_codeValueF x1_18 x3_18 x4_18 x2_18 h_3) (cwV 4 hts gX12_counts_X12_isHeardIn rfl rfl rfl (by decide +kernel) ⟨Nat.le_of_ble_eq_true rfl, Nat.le_of_ble_eq_true rfl⟩) hN hK hP hD hS hA [0, 3, 4, 5, 6, 7, 8, 9, 10, 11, 12] (by decide) rfl rfl rfl rfl rfl rfl hl.1 rfl (Nat.le_of_ble_eq_true rfl) dX12_counts_44 ⟨Nat.zero_le _, Nat.zero_le _⟩ (fun H locs hP hD hS => ?_)
            have hP : va_P (dC, dI) vwCl [(a_p0, .inr (12, oX12 mmI mmJ mmR)), ((mmR 18), .inl (cI, 2, .inl mm_earsF)), ((mmR 59), .inl (cI, 70, .inl mm_heardFromF_18)), ((mmR 24), .inl (cI, 6, .inl mm_sumFromF)), ((mmR 45), .inl (cI, 22, .inl mm_nightOfF)), ((mmR 58), .inl (cI, 12, .inl r_2_1)), ((mmR 20), .inl (cI, 14, .inl mm_sharpOfF)), ((mmR 46), .inl (cI, 22, .inl mm_mileOfF)), ((mmR 14), .inl (cI, 2, .inl mm_milesToldF)), ((mmR 25), .inl (cI, 6, .inl mm_sumBehindF)), ((mmR 57), .inl (cJ, 500, .inr (.inl r_2_2))), ((mmR 26), .inl (cI, 3200, .inl mm_codeSortF)), ((mmR 27), .inl (cI, 3200, .inl mm_codeValueF))] H := hP
            have hD : va_D A [(a_p0, .inr (12, oX12 mmI mmJ mmR)), ((mmR 18), .inl (cI, 2, .inl mm_earsF)), ((mmR 59), .inl (cI, 70, .inl mm_heardFromF_18)), ((mmR 24), .inl (cI, 6, .inl mm_sumFromF)), ((mmR 45), .inl (cI, 22, .inl mm_nightOfF)), ((mmR 58), .inl (cI, 12, .inl r_2_1)), ((mmR 20), .inl (cI, 14, .inl mm_sharpOfF)), ((mmR 46), .inl (cI, 22, .inl mm_mileOfF)), ((mmR 14), .inl (cI, 2, .inl mm_milesToldF)), ((mmR 25), .inl (cI, 6, .inl mm_sumBehindF)), ((mmR 57), .inl (cJ, 500, .inr (.inl r_2_2))), ((mmR 26), .inl (cI, 3200, .inl mm_codeSortF)), ((mmR 27), .inl (cI, 3200, .inl mm_codeValueF))] := hD
            refine W.eq (g2 := F0 m 47 ls [.int r_2_0, .int v_1, .int ((10 * x3_18) + x4_18), .ref ((mmR 59))]) rfl ?_
            refine lv_if_eq (tgt := 54) hx hb dX12_counts_47 (by decide) (fun c_ => ?_) (fun c_ => ?_)
            · have hf := xq_pos hf c_
              refine lv_iconst (v := 0) hx hb dX12_counts_54 (by decide) ?_
              exact b55 mm_heardFromF_18 r_2_1 r_2_2 x1_18 x2_18 x3_18 x4_18 ((10 * x3_18) + x4_18) v_1 0 _ _ _ hf hP hD hS (lv_sub hl [0, 1, 2, 3, 4] rfl)
            · have hf := xq_neg hf c_
              refine lv_iconst (v := 1) hx hb dX12_counts_50 (by decide) ?_
              refine lv_goto (tgt := 55) hx hb dX12_counts_51 (by decide) ?_
              exact b55 mm_heardFromF_18 r_2_1 r_2_2 x1_18 x2_18 x3_18 x4_18 ((10 * x3_18) + x4_18) v_1 1 _ _ _ hf hP hD hS (lv_sub hl [0, 1, 2, 3, 4] rfl)
      intro mm_heardFromF_2 mm_askedF_2 mm_stackL_2 x1_2 x2_2 x3_2 ls H locs hf hP hD hS hl
      have hf : fX12_counts_l2 N mmI mm_earsF mm_sumFromF mm_nightOfF mm_sharpOfF mm_mileOfF mm_milesToldF mm_sumBehindF mm_codeSortF mm_codeValueF (xq_loop (fX12_counts_l2 N mmI mm_earsF mm_sumFromF mm_nightOfF mm_sharpOfF mm_mileOfF mm_milesToldF mm_sumBehindF mm_codeSortF mm_codeValueF) n2) (mm_heardFromF_2, mm_askedF_2, mm_stackL_2, x1_2, x2_2, x3_2) = some (r0, r1, r2) := hf
      unfold fX12_counts_l2 at hf
      refine lv_iload_n hx hb dX12_counts_2 rfl (lv_at hl 3 rfl) ?_
      refine lv_aload_n hx hb dX12_counts_3 rfl (lv_at hl 0 rfl) ?_
      refine va_get (D := (dC, dI)) (ci := 12) (v := .ref ((mmR 18))) (C := RX12) (T := TX12) (N := 70) hx hb hts hinX12 hown hK hP 0 rfl rfl 18 (by decide) hw0 (fun _ h9 => h9) rfl dX12_counts_4 ?_
      refine lv_aload_n hx hb dX12_counts_7 rfl (lv_at hl 0 rfl) ?_
      refine va_get (D := (dC, dI)) (ci := 12) (v := .int (mmI 13)) (C := RX12) (T := TX12) (N := 70) hx hb hts hinX12 hown hK hP 0 rfl rfl 13 (by decide) hw2 (fun _ h9 => h9) rfl dX12_counts_8 ?_
      refine xq_iald hx hb hK hP 1 0 rfl rfl hf dX12_counts_11 (fun v_1 hf => ?_)
      refine lv_icmp_ge (tgt := 69) hx hb dX12_counts_12 (by decide) (fun c_ => ?_) (fun c_ => ?_)
      · have hf := xq_pos hf c_
        have hP9 := hP
        have hD9 := hD
        have hS9 := hS
        cases hf
        exact xq_vret hx hb hr hlocks hK hP9 hD9 hS9 dX12_counts_69
      · have hf := xq_neg hf c_
        refine lv_iconst (v := 0) hx hb dX12_counts_15 (by decide) ?_
        refine lv_istore (lv' := [(4, .int 0), (0, .ref a_p0), (1, .int x1_2), (2, .int x2_2), (3, .int x3_2)]) hx hb dX12_counts_16 hl (by decide) rfl (fun ls hl => ?_)
        exact l18 N mm_heardFromF_2 mm_askedF_2 mm_stackL_2 x1_2 x2_2 x3_2 0 _ _ _ hf hP hD hS (lv_sub hl [1, 2, 3, 4, 0] rfl)
  unfold fX12_counts at hf
  refine lv_iconst (v := 0) hx hb dX12_counts_0 (by decide) ?_
  refine lv_istore_n (lv' := [(3, .int 0), (0, .ref a_p0), (1, .int p1), (2, .int p2)]) hx hb dX12_counts_1 rfl hl (by decide) rfl (fun ls hl => ?_)
  exact l2 N mm_heardFromF mm_askedF mm_stackL p1 p2 0 _ _ _ hf hP hD hS (lv_sub hl [1, 2, 3, 0] rfl)
def dsX12_writesDown_0 : List (Nat × Instr × Nat) := [(0, (.aload_n 0, 1)), (1, (.getfield 171, 3)), (4, (.iload_n 1, 1)), (5, (.iaload, 1)), (6, (.bipush 40, 2)), (8, (.if_icmp .ne 51, 3)), (11, (.bipush 120, 2)), (13, (.iload_n 1, 1)), (14, (.imul, 1)), (15, (.istore_n 3, 1)), (16, (.iload_n 3, 1)), (17, (.bipush 120, 2)), (19, (.iload_n 1, 1)), (20, (.imul, 1)), (21, (.bipush 120, 2)), (23, (.iadd, 1)), (24, (.iconst 3, 1)), (25, (.isub, 1)), (26, (.if_icmp .ge 23, 3)), (29, (.aload_n 0, 1)), (30, (.getfield 174, 3)), (33, (.iload_n 3, 1)), (34, (.aload_n 0, 1)), (35, (.getfield 174, 3)), (38, (.iload_n 3, 1)), (39, (.iconst 3, 1)), (40, (.iadd, 1)), (41, (.iaload, 1)), (42, (.iastore, 1)), (43, (.iinc 3 1, 3)), (46, (.goto (-30), 3)), (49, (.aload_n 0, 1)), (50, (.getfield 171, 3)), (53, (.iload_n 1, 1)), (54, (.dup2, 1)), (55, (.iaload, 1)), (56, (.iconst 1, 1)), (57, (.isub, 1)), (58, (.iastore, 1)), (59, (.iconst 3, 1)), (60, (.bipush 40, 2)), (62, (.iload_n 1, 1)), (63, (.imul, 1)), (64, (.aload_n 0, 1)), (65, (.getfield 171, 3)), (68, (.iload_n 1, 1)), (69, (.iaload, 1)), (70, (.iadd, 1)), (71, (.imul, 1)), (72, (.istore_n 3, 1)), (73, (.aload_n 0, 1)), (74, (.getfield 174, 3)), (77, (.iload_n 3, 1)), (78, (.aload_n 0, 1)), (79, (.getfield 150, 3)), (82, (.iload_n 1, 1)), (83, (.iaload, 1)), (84, (.iastore, 1)), (85, (.aload_n 0, 1)), (86, (.getfield 174, 3))]
theorem dsX12_writesDown_0_ok : (dsX12_writesDown_0.all fun q => decide (decode cX12_writesDown q.1 = .ok q.2)) = true := by decide +kernel
theorem dX12_writesDown_0 : decode cX12_writesDown 0 = .ok (.aload_n 0, 1) := of_decide_eq_true (List.all_eq_true.mp dsX12_writesDown_0_ok (0, (.aload_n 0, 1)) (List.mem_of_getElem? (i := 0) rfl))
theorem dX12_writesDown_1 : decode cX12_writesDown 1 = .ok (.getfield 171, 3) := of_decide_eq_true (List.all_eq_true.mp dsX12_writesDown_0_ok (1, (.getfield 171, 3)) (List.mem_of_getElem? (i := 1) rfl))
theorem dX12_writesDown_4 : decode cX12_writesDown 4 = .ok (.iload_n 1, 1) := of_decide_eq_true (List.all_eq_true.mp dsX12_writesDown_0_ok (4, (.iload_n 1, 1)) (List.mem_of_getElem? (i := 2) rfl))
theorem dX12_writesDown_5 : decode cX12_writesDown 5 = .ok (.iaload, 1) := of_decide_eq_true (List.all_eq_true.mp dsX12_writesDown_0_ok (5, (.iaload, 1)) (List.mem_of_getElem? (i := 3) rfl))
theorem dX12_writesDown_6 : decode cX12_writesDown 6 = .ok (.bipush 40, 2) := of_decide_eq_true (List.all_eq_true.mp dsX12_writesDown_0_ok (6, (.bipush 40, 2)) (List.mem_of_getElem? (i := 4) rfl))
theorem dX12_writesDown_8 : decode cX12_writesDown 8 = .ok (.if_icmp .ne 51, 3) := of_decide_eq_true (List.all_eq_true.mp dsX12_writesDown_0_ok (8, (.if_icmp .ne 51, 3)) (List.mem_of_getElem? (i := 5) rfl))
theorem dX12_writesDown_11 : decode cX12_writesDown 11 = .ok (.bipush 120, 2) := of_decide_eq_true (List.all_eq_true.mp dsX12_writesDown_0_ok (11, (.bipush 120, 2)) (List.mem_of_getElem? (i := 6) rfl))
theorem dX12_writesDown_13 : decode cX12_writesDown 13 = .ok (.iload_n 1, 1) := of_decide_eq_true (List.all_eq_true.mp dsX12_writesDown_0_ok (13, (.iload_n 1, 1)) (List.mem_of_getElem? (i := 7) rfl))
theorem dX12_writesDown_14 : decode cX12_writesDown 14 = .ok (.imul, 1) := of_decide_eq_true (List.all_eq_true.mp dsX12_writesDown_0_ok (14, (.imul, 1)) (List.mem_of_getElem? (i := 8) rfl))
theorem dX12_writesDown_15 : decode cX12_writesDown 15 = .ok (.istore_n 3, 1) := of_decide_eq_true (List.all_eq_true.mp dsX12_writesDown_0_ok (15, (.istore_n 3, 1)) (List.mem_of_getElem? (i := 9) rfl))
theorem dX12_writesDown_16 : decode cX12_writesDown 16 = .ok (.iload_n 3, 1) := of_decide_eq_true (List.all_eq_true.mp dsX12_writesDown_0_ok (16, (.iload_n 3, 1)) (List.mem_of_getElem? (i := 10) rfl))
theorem dX12_writesDown_17 : decode cX12_writesDown 17 = .ok (.bipush 120, 2) := of_decide_eq_true (List.all_eq_true.mp dsX12_writesDown_0_ok (17, (.bipush 120, 2)) (List.mem_of_getElem? (i := 11) rfl))
theorem dX12_writesDown_19 : decode cX12_writesDown 19 = .ok (.iload_n 1, 1) := of_decide_eq_true (List.all_eq_true.mp dsX12_writesDown_0_ok (19, (.iload_n 1, 1)) (List.mem_of_getElem? (i := 12) rfl))
theorem dX12_writesDown_20 : decode cX12_writesDown 20 = .ok (.imul, 1) := of_decide_eq_true (List.all_eq_true.mp dsX12_writesDown_0_ok (20, (.imul, 1)) (List.mem_of_getElem? (i := 13) rfl))
theorem dX12_writesDown_21 : decode cX12_writesDown 21 = .ok (.bipush 120, 2) := of_decide_eq_true (List.all_eq_true.mp dsX12_writesDown_0_ok (21, (.bipush 120, 2)) (List.mem_of_getElem? (i := 14) rfl))
theorem dX12_writesDown_23 : decode cX12_writesDown 23 = .ok (.iadd, 1) := of_decide_eq_true (List.all_eq_true.mp dsX12_writesDown_0_ok (23, (.iadd, 1)) (List.mem_of_getElem? (i := 15) rfl))
theorem dX12_writesDown_24 : decode cX12_writesDown 24 = .ok (.iconst 3, 1) := of_decide_eq_true (List.all_eq_true.mp dsX12_writesDown_0_ok (24, (.iconst 3, 1)) (List.mem_of_getElem? (i := 16) rfl))
theorem dX12_writesDown_25 : decode cX12_writesDown 25 = .ok (.isub, 1) := of_decide_eq_true (List.all_eq_true.mp dsX12_writesDown_0_ok (25, (.isub, 1)) (List.mem_of_getElem? (i := 17) rfl))
theorem dX12_writesDown_26 : decode cX12_writesDown 26 = .ok (.if_icmp .ge 23, 3) := of_decide_eq_true (List.all_eq_true.mp dsX12_writesDown_0_ok (26, (.if_icmp .ge 23, 3)) (List.mem_of_getElem? (i := 18) rfl))
theorem dX12_writesDown_29 : decode cX12_writesDown 29 = .ok (.aload_n 0, 1) := of_decide_eq_true (List.all_eq_true.mp dsX12_writesDown_0_ok (29, (.aload_n 0, 1)) (List.mem_of_getElem? (i := 19) rfl))
theorem dX12_writesDown_30 : decode cX12_writesDown 30 = .ok (.getfield 174, 3) := of_decide_eq_true (List.all_eq_true.mp dsX12_writesDown_0_ok (30, (.getfield 174, 3)) (List.mem_of_getElem? (i := 20) rfl))
theorem dX12_writesDown_33 : decode cX12_writesDown 33 = .ok (.iload_n 3, 1) := of_decide_eq_true (List.all_eq_true.mp dsX12_writesDown_0_ok (33, (.iload_n 3, 1)) (List.mem_of_getElem? (i := 21) rfl))
theorem dX12_writesDown_34 : decode cX12_writesDown 34 = .ok (.aload_n 0, 1) := of_decide_eq_true (List.all_eq_true.mp dsX12_writesDown_0_ok (34, (.aload_n 0, 1)) (List.mem_of_getElem? (i := 22) rfl))
theorem dX12_writesDown_35 : decode cX12_writesDown 35 = .ok (.getfield 174, 3) := of_decide_eq_true (List.all_eq_true.mp dsX12_writesDown_0_ok (35, (.getfield 174, 3)) (List.mem_of_getElem? (i := 23) rfl))
theorem dX12_writesDown_38 : decode cX12_writesDown 38 = .ok (.iload_n 3, 1) := of_decide_eq_true (List.all_eq_true.mp dsX12_writesDown_0_ok (38, (.iload_n 3, 1)) (List.mem_of_getElem? (i := 24) rfl))
theorem dX12_writesDown_39 : decode cX12_writesDown 39 = .ok (.iconst 3, 1) := of_decide_eq_true (List.all_eq_true.mp dsX12_writesDown_0_ok (39, (.iconst 3, 1)) (List.mem_of_getElem? (i := 25) rfl))
theorem dX12_writesDown_40 : decode cX12_writesDown 40 = .ok (.iadd, 1) := of_decide_eq_true (List.all_eq_true.mp dsX12_writesDown_0_ok (40, (.iadd, 1)) (List.mem_of_getElem? (i := 26) rfl))
theorem dX12_writesDown_41 : decode cX12_writesDown 41 = .ok (.iaload, 1) := of_decide_eq_true (List.all_eq_true.mp dsX12_writesDown_0_ok (41, (.iaload, 1)) (List.mem_of_getElem? (i := 27) rfl))
theorem dX12_writesDown_42 : decode cX12_writesDown 42 = .ok (.iastore, 1) := of_decide_eq_true (List.all_eq_true.mp dsX12_writesDown_0_ok (42, (.iastore, 1)) (List.mem_of_getElem? (i := 28) rfl))
theorem dX12_writesDown_43 : decode cX12_writesDown 43 = .ok (.iinc 3 1, 3) := of_decide_eq_true (List.all_eq_true.mp dsX12_writesDown_0_ok (43, (.iinc 3 1, 3)) (List.mem_of_getElem? (i := 29) rfl))
theorem dX12_writesDown_46 : decode cX12_writesDown 46 = .ok (.goto (-30), 3) := of_decide_eq_true (List.all_eq_true.mp dsX12_writesDown_0_ok (46, (.goto (-30), 3)) (List.mem_of_getElem? (i := 30) rfl))
theorem dX12_writesDown_49 : decode cX12_writesDown 49 = .ok (.aload_n 0, 1) := of_decide_eq_true (List.all_eq_true.mp dsX12_writesDown_0_ok (49, (.aload_n 0, 1)) (List.mem_of_getElem? (i := 31) rfl))
theorem dX12_writesDown_50 : decode cX12_writesDown 50 = .ok (.getfield 171, 3) := of_decide_eq_true (List.all_eq_true.mp dsX12_writesDown_0_ok (50, (.getfield 171, 3)) (List.mem_of_getElem? (i := 32) rfl))
theorem dX12_writesDown_53 : decode cX12_writesDown 53 = .ok (.iload_n 1, 1) := of_decide_eq_true (List.all_eq_true.mp dsX12_writesDown_0_ok (53, (.iload_n 1, 1)) (List.mem_of_getElem? (i := 33) rfl))
theorem dX12_writesDown_54 : decode cX12_writesDown 54 = .ok (.dup2, 1) := of_decide_eq_true (List.all_eq_true.mp dsX12_writesDown_0_ok (54, (.dup2, 1)) (List.mem_of_getElem? (i := 34) rfl))
theorem dX12_writesDown_55 : decode cX12_writesDown 55 = .ok (.iaload, 1) := of_decide_eq_true (List.all_eq_true.mp dsX12_writesDown_0_ok (55, (.iaload, 1)) (List.mem_of_getElem? (i := 35) rfl))
theorem dX12_writesDown_56 : decode cX12_writesDown 56 = .ok (.iconst 1, 1) := of_decide_eq_true (List.all_eq_true.mp dsX12_writesDown_0_ok (56, (.iconst 1, 1)) (List.mem_of_getElem? (i := 36) rfl))
theorem dX12_writesDown_57 : decode cX12_writesDown 57 = .ok (.isub, 1) := of_decide_eq_true (List.all_eq_true.mp dsX12_writesDown_0_ok (57, (.isub, 1)) (List.mem_of_getElem? (i := 37) rfl))
theorem dX12_writesDown_58 : decode cX12_writesDown 58 = .ok (.iastore, 1) := of_decide_eq_true (List.all_eq_true.mp dsX12_writesDown_0_ok (58, (.iastore, 1)) (List.mem_of_getElem? (i := 38) rfl))
theorem dX12_writesDown_59 : decode cX12_writesDown 59 = .ok (.iconst 3, 1) := of_decide_eq_true (List.all_eq_true.mp dsX12_writesDown_0_ok (59, (.iconst 3, 1)) (List.mem_of_getElem? (i := 39) rfl))
theorem dX12_writesDown_60 : decode cX12_writesDown 60 = .ok (.bipush 40, 2) := of_decide_eq_true (List.all_eq_true.mp dsX12_writesDown_0_ok (60, (.bipush 40, 2)) (List.mem_of_getElem? (i := 40) rfl))
theorem dX12_writesDown_62 : decode cX12_writesDown 62 = .ok (.iload_n 1, 1) := of_decide_eq_true (List.all_eq_true.mp dsX12_writesDown_0_ok (62, (.iload_n 1, 1)) (List.mem_of_getElem? (i := 41) rfl))
theorem dX12_writesDown_63 : decode cX12_writesDown 63 = .ok (.imul, 1) := of_decide_eq_true (List.all_eq_true.mp dsX12_writesDown_0_ok (63, (.imul, 1)) (List.mem_of_getElem? (i := 42) rfl))
theorem dX12_writesDown_64 : decode cX12_writesDown 64 = .ok (.aload_n 0, 1) := of_decide_eq_true (List.all_eq_true.mp dsX12_writesDown_0_ok (64, (.aload_n 0, 1)) (List.mem_of_getElem? (i := 43) rfl))
theorem dX12_writesDown_65 : decode cX12_writesDown 65 = .ok (.getfield 171, 3) := of_decide_eq_true (List.all_eq_true.mp dsX12_writesDown_0_ok (65, (.getfield 171, 3)) (List.mem_of_getElem? (i := 44) rfl))
theorem dX12_writesDown_68 : decode cX12_writesDown 68 = .ok (.iload_n 1, 1) := of_decide_eq_true (List.all_eq_true.mp dsX12_writesDown_0_ok (68, (.iload_n 1, 1)) (List.mem_of_getElem? (i := 45) rfl))
theorem dX12_writesDown_69 : decode cX12_writesDown 69 = .ok (.iaload, 1) := of_decide_eq_true (List.all_eq_true.mp dsX12_writesDown_0_ok (69, (.iaload, 1)) (List.mem_of_getElem? (i := 46) rfl))
theorem dX12_writesDown_70 : decode cX12_writesDown 70 = .ok (.iadd, 1) := of_decide_eq_true (List.all_eq_true.mp dsX12_writesDown_0_ok (70, (.iadd, 1)) (List.mem_of_getElem? (i := 47) rfl))
theorem dX12_writesDown_71 : decode cX12_writesDown 71 = .ok (.imul, 1) := of_decide_eq_true (List.all_eq_true.mp dsX12_writesDown_0_ok (71, (.imul, 1)) (List.mem_of_getElem? (i := 48) rfl))
theorem dX12_writesDown_72 : decode cX12_writesDown 72 = .ok (.istore_n 3, 1) := of_decide_eq_true (List.all_eq_true.mp dsX12_writesDown_0_ok (72, (.istore_n 3, 1)) (List.mem_of_getElem? (i := 49) rfl))
theorem dX12_writesDown_73 : decode cX12_writesDown 73 = .ok (.aload_n 0, 1) := of_decide_eq_true (List.all_eq_true.mp dsX12_writesDown_0_ok (73, (.aload_n 0, 1)) (List.mem_of_getElem? (i := 50) rfl))
theorem dX12_writesDown_74 : decode cX12_writesDown 74 = .ok (.getfield 174, 3) := of_decide_eq_true (List.all_eq_true.mp dsX12_writesDown_0_ok (74, (.getfield 174, 3)) (List.mem_of_getElem? (i := 51) rfl))
theorem dX12_writesDown_77 : decode cX12_writesDown 77 = .ok (.iload_n 3, 1) := of_decide_eq_true (List.all_eq_true.mp dsX12_writesDown_0_ok (77, (.iload_n 3, 1)) (List.mem_of_getElem? (i := 52) rfl))
theorem dX12_writesDown_78 : decode cX12_writesDown 78 = .ok (.aload_n 0, 1) := of_decide_eq_true (List.all_eq_true.mp dsX12_writesDown_0_ok (78, (.aload_n 0, 1)) (List.mem_of_getElem? (i := 53) rfl))
theorem dX12_writesDown_79 : decode cX12_writesDown 79 = .ok (.getfield 150, 3) := of_decide_eq_true (List.all_eq_true.mp dsX12_writesDown_0_ok (79, (.getfield 150, 3)) (List.mem_of_getElem? (i := 54) rfl))
theorem dX12_writesDown_82 : decode cX12_writesDown 82 = .ok (.iload_n 1, 1) := of_decide_eq_true (List.all_eq_true.mp dsX12_writesDown_0_ok (82, (.iload_n 1, 1)) (List.mem_of_getElem? (i := 55) rfl))
theorem dX12_writesDown_83 : decode cX12_writesDown 83 = .ok (.iaload, 1) := of_decide_eq_true (List.all_eq_true.mp dsX12_writesDown_0_ok (83, (.iaload, 1)) (List.mem_of_getElem? (i := 56) rfl))
theorem dX12_writesDown_84 : decode cX12_writesDown 84 = .ok (.iastore, 1) := of_decide_eq_true (List.all_eq_true.mp dsX12_writesDown_0_ok (84, (.iastore, 1)) (List.mem_of_getElem? (i := 57) rfl))
theorem dX12_writesDown_85 : decode cX12_writesDown 85 = .ok (.aload_n 0, 1) := of_decide_eq_true (List.all_eq_true.mp dsX12_writesDown_0_ok (85, (.aload_n 0, 1)) (List.mem_of_getElem? (i := 58) rfl))
theorem dX12_writesDown_86 : decode cX12_writesDown 86 = .ok (.getfield 174, 3) := of_decide_eq_true (List.all_eq_true.mp dsX12_writesDown_0_ok (86, (.getfield 174, 3)) (List.mem_of_getElem? (i := 59) rfl))
def dsX12_writesDown_1 : List (Nat × Instr × Nat) := [(89, (.iload_n 3, 1)), (90, (.iconst 1, 1)), (91, (.iadd, 1)), (92, (.aload_n 0, 1)), (93, (.getfield 153, 3)), (96, (.iload_n 1, 1)), (97, (.iaload, 1)), (98, (.iastore, 1)), (99, (.aload_n 0, 1)), (100, (.getfield 174, 3)), (103, (.iload_n 3, 1)), (104, (.iconst 2, 1)), (105, (.iadd, 1)), (106, (.iload_n 2, 1)), (107, (.iastore, 1)), (108, (.aload_n 0, 1)), (109, (.getfield 171, 3)), (112, (.iload_n 1, 1)), (113, (.dup2, 1)), (114, (.iaload, 1)), (115, (.iconst 1, 1)), (116, (.iadd, 1)), (117, (.iastore, 1)), (118, (.return_, 1))]
theorem dsX12_writesDown_1_ok : (dsX12_writesDown_1.all fun q => decide (decode cX12_writesDown q.1 = .ok q.2)) = true := by decide +kernel
theorem dX12_writesDown_89 : decode cX12_writesDown 89 = .ok (.iload_n 3, 1) := of_decide_eq_true (List.all_eq_true.mp dsX12_writesDown_1_ok (89, (.iload_n 3, 1)) (List.mem_of_getElem? (i := 0) rfl))
theorem dX12_writesDown_90 : decode cX12_writesDown 90 = .ok (.iconst 1, 1) := of_decide_eq_true (List.all_eq_true.mp dsX12_writesDown_1_ok (90, (.iconst 1, 1)) (List.mem_of_getElem? (i := 1) rfl))
theorem dX12_writesDown_91 : decode cX12_writesDown 91 = .ok (.iadd, 1) := of_decide_eq_true (List.all_eq_true.mp dsX12_writesDown_1_ok (91, (.iadd, 1)) (List.mem_of_getElem? (i := 2) rfl))
theorem dX12_writesDown_92 : decode cX12_writesDown 92 = .ok (.aload_n 0, 1) := of_decide_eq_true (List.all_eq_true.mp dsX12_writesDown_1_ok (92, (.aload_n 0, 1)) (List.mem_of_getElem? (i := 3) rfl))
theorem dX12_writesDown_93 : decode cX12_writesDown 93 = .ok (.getfield 153, 3) := of_decide_eq_true (List.all_eq_true.mp dsX12_writesDown_1_ok (93, (.getfield 153, 3)) (List.mem_of_getElem? (i := 4) rfl))
theorem dX12_writesDown_96 : decode cX12_writesDown 96 = .ok (.iload_n 1, 1) := of_decide_eq_true (List.all_eq_true.mp dsX12_writesDown_1_ok (96, (.iload_n 1, 1)) (List.mem_of_getElem? (i := 5) rfl))
theorem dX12_writesDown_97 : decode cX12_writesDown 97 = .ok (.iaload, 1) := of_decide_eq_true (List.all_eq_true.mp dsX12_writesDown_1_ok (97, (.iaload, 1)) (List.mem_of_getElem? (i := 6) rfl))
theorem dX12_writesDown_98 : decode cX12_writesDown 98 = .ok (.iastore, 1) := of_decide_eq_true (List.all_eq_true.mp dsX12_writesDown_1_ok (98, (.iastore, 1)) (List.mem_of_getElem? (i := 7) rfl))
theorem dX12_writesDown_99 : decode cX12_writesDown 99 = .ok (.aload_n 0, 1) := of_decide_eq_true (List.all_eq_true.mp dsX12_writesDown_1_ok (99, (.aload_n 0, 1)) (List.mem_of_getElem? (i := 8) rfl))
theorem dX12_writesDown_100 : decode cX12_writesDown 100 = .ok (.getfield 174, 3) := of_decide_eq_true (List.all_eq_true.mp dsX12_writesDown_1_ok (100, (.getfield 174, 3)) (List.mem_of_getElem? (i := 9) rfl))
theorem dX12_writesDown_103 : decode cX12_writesDown 103 = .ok (.iload_n 3, 1) := of_decide_eq_true (List.all_eq_true.mp dsX12_writesDown_1_ok (103, (.iload_n 3, 1)) (List.mem_of_getElem? (i := 10) rfl))
theorem dX12_writesDown_104 : decode cX12_writesDown 104 = .ok (.iconst 2, 1) := of_decide_eq_true (List.all_eq_true.mp dsX12_writesDown_1_ok (104, (.iconst 2, 1)) (List.mem_of_getElem? (i := 11) rfl))
theorem dX12_writesDown_105 : decode cX12_writesDown 105 = .ok (.iadd, 1) := of_decide_eq_true (List.all_eq_true.mp dsX12_writesDown_1_ok (105, (.iadd, 1)) (List.mem_of_getElem? (i := 12) rfl))
theorem dX12_writesDown_106 : decode cX12_writesDown 106 = .ok (.iload_n 2, 1) := of_decide_eq_true (List.all_eq_true.mp dsX12_writesDown_1_ok (106, (.iload_n 2, 1)) (List.mem_of_getElem? (i := 13) rfl))
theorem dX12_writesDown_107 : decode cX12_writesDown 107 = .ok (.iastore, 1) := of_decide_eq_true (List.all_eq_true.mp dsX12_writesDown_1_ok (107, (.iastore, 1)) (List.mem_of_getElem? (i := 14) rfl))
theorem dX12_writesDown_108 : decode cX12_writesDown 108 = .ok (.aload_n 0, 1) := of_decide_eq_true (List.all_eq_true.mp dsX12_writesDown_1_ok (108, (.aload_n 0, 1)) (List.mem_of_getElem? (i := 15) rfl))
theorem dX12_writesDown_109 : decode cX12_writesDown 109 = .ok (.getfield 171, 3) := of_decide_eq_true (List.all_eq_true.mp dsX12_writesDown_1_ok (109, (.getfield 171, 3)) (List.mem_of_getElem? (i := 16) rfl))
theorem dX12_writesDown_112 : decode cX12_writesDown 112 = .ok (.iload_n 1, 1) := of_decide_eq_true (List.all_eq_true.mp dsX12_writesDown_1_ok (112, (.iload_n 1, 1)) (List.mem_of_getElem? (i := 17) rfl))
theorem dX12_writesDown_113 : decode cX12_writesDown 113 = .ok (.dup2, 1) := of_decide_eq_true (List.all_eq_true.mp dsX12_writesDown_1_ok (113, (.dup2, 1)) (List.mem_of_getElem? (i := 18) rfl))
theorem dX12_writesDown_114 : decode cX12_writesDown 114 = .ok (.iaload, 1) := of_decide_eq_true (List.all_eq_true.mp dsX12_writesDown_1_ok (114, (.iaload, 1)) (List.mem_of_getElem? (i := 19) rfl))
theorem dX12_writesDown_115 : decode cX12_writesDown 115 = .ok (.iconst 1, 1) := of_decide_eq_true (List.all_eq_true.mp dsX12_writesDown_1_ok (115, (.iconst 1, 1)) (List.mem_of_getElem? (i := 20) rfl))
theorem dX12_writesDown_116 : decode cX12_writesDown 116 = .ok (.iadd, 1) := of_decide_eq_true (List.all_eq_true.mp dsX12_writesDown_1_ok (116, (.iadd, 1)) (List.mem_of_getElem? (i := 21) rfl))
theorem dX12_writesDown_117 : decode cX12_writesDown 117 = .ok (.iastore, 1) := of_decide_eq_true (List.all_eq_true.mp dsX12_writesDown_1_ok (117, (.iastore, 1)) (List.mem_of_getElem? (i := 22) rfl))
theorem dX12_writesDown_118 : decode cX12_writesDown 118 = .ok (.return_, 1) := of_decide_eq_true (List.all_eq_true.mp dsX12_writesDown_1_ok (118, (.return_, 1)) (List.mem_of_getElem? (i := 23) rfl))
def fX12_writesDown_b59 (N : Nat) (mm_nightOfF : Nat → Int32) (mm_mileOfF : Nat → Int32)   : ((Nat → Int32) × (Nat → Int32) × Int32 × Int32) → Option ((Nat → Int32) × (Nat → Int32)) :=
  fun (mm_keptManyF_59, mm_keptRowF_59, x1_59, x2_59) => (xq_bd (xq_ald 22 mm_keptManyF_59 x1_59) fun v_1 => (xq_bd (xq_ald 22 mm_nightOfF x1_59) fun v_2 => (xq_bd (xq_ast 2640 mm_keptRowF_59 (3 * ((40 * x1_59) + v_1)) v_2) fun g_3 => (xq_bd (xq_ald 22 mm_mileOfF x1_59) fun v_4 => (xq_bd (xq_ast 2640 g_3 ((3 * ((40 * x1_59) + v_1)) + 1) v_4) fun g_5 => (xq_bd (xq_ast 2640 g_5 ((3 * ((40 * x1_59) + v_1)) + 2) x2_59) fun g_6 => (xq_bd (xq_ald 22 mm_keptManyF_59 x1_59) fun v_7 => (xq_bd (xq_ast 22 mm_keptManyF_59 x1_59 (v_7 + 1)) fun g_8 => some ((g_8, g_6))))))))))
def fX12_writesDown_l16 (N : Nat) (mm_nightOfF : Nat → Int32) (mm_mileOfF : Nat → Int32)  (k16 : ((Nat → Int32) × (Nat → Int32) × Int32 × Int32 × Int32) → Option ((Nat → Int32) × (Nat → Int32))) : ((Nat → Int32) × (Nat → Int32) × Int32 × Int32 × Int32) → Option ((Nat → Int32) × (Nat → Int32)) :=
  fun (mm_keptManyF_16, mm_keptRowF_16, x1_16, x2_16, x3_16) => (if (((120 * x1_16) + 120) - 3) ≤ x3_16 then (xq_bd (xq_ald 22 mm_keptManyF_16 x1_16) fun v_9 => (xq_bd (xq_ast 22 mm_keptManyF_16 x1_16 (v_9 - 1)) fun g_10 => fX12_writesDown_b59 N mm_nightOfF mm_mileOfF (g_10, mm_keptRowF_16, x1_16, x2_16))) else (xq_bd (xq_ald 2640 mm_keptRowF_16 (x3_16 + 3)) fun v_11 => (xq_bd (xq_ast 2640 mm_keptRowF_16 x3_16 v_11) fun g_12 => k16 (mm_keptManyF_16, g_12, x1_16, x2_16, x3_16 + 1))))
def fX12_writesDown (N : Nat) (mm_keptManyF : Nat → Int32) (mm_keptRowF : Nat → Int32) (mm_nightOfF : Nat → Int32) (mm_mileOfF : Nat → Int32)  (p1 : Int32) (p2 : Int32) : Option ((Nat → Int32) × (Nat → Int32)) :=
  (xq_bd (xq_ald 22 mm_keptManyF p1) fun v_1 => (if v_1 = 40 then xq_loop (fX12_writesDown_l16 N mm_nightOfF mm_mileOfF) N (mm_keptManyF, mm_keptRowF, p1, p2, 120 * p1) else fX12_writesDown_b59 N mm_nightOfF mm_mileOfF (mm_keptManyF, mm_keptRowF, p1, p2)))
set_option maxHeartbeats 4000000 in
set_option maxRecDepth 100000 in
theorem kX12_writesDown (l : Launch) (dC : Nat → ClassId) (dI : Nat → Nat → Nat) (cI cB cJ cZ cM : ClassId) (z : Nat) (ad : Nat → Nat) (N : Nat) (a_p0 : Nat) (mmI : Nat → Int32) (mmJ : Nat → Int64) (mmR : Nat → Nat) (mm_keptManyF : Nat → Int32) (mm_keptRowF : Nat → Int32) (mm_nightOfF : Nat → Int32) (mm_mileOfF : Nat → Int32) (p1 : Int32) (p2 : Int32) {r0 : Nat → Int32} {r1 : Nat → Int32} (hf : fX12_writesDown N mm_keptManyF mm_keptRowF mm_nightOfF mm_mileOfF p1 p2 = some (r0, r1)) : xq_Ct l yX12_writesDown wsX12_writesDown { frames := 0, cells := 0, slots := 0, locals := 0 } (dC, dI) vwCl (xq_tys cI cB cJ cZ cM) z ad [.ref a_p0, .int p1, .int p2] [(a_p0, .inr (12, oX12 mmI mmJ mmR)), ((mmR 52), .inl (cI, 22, .inl mm_keptManyF)), ((mmR 53), .inl (cI, 2640, .inl mm_keptRowF)), ((mmR 45), .inl (cI, 22, .inl mm_nightOfF)), ((mmR 46), .inl (cI, 22, .inl mm_mileOfF))] [(a_p0, .inr (12, oX12 mmI mmJ mmR)), ((mmR 52), .inl (cI, 22, .inl r0)), ((mmR 53), .inl (cI, 2640, .inl r1)), ((mmR 45), .inl (cI, 22, .inl mm_nightOfF)), ((mmR 46), .inl (cI, 22, .inl mm_mileOfF))] none := by
  intro sz
  refine Met.ofW (cc := cX12_writesDown) (maxL := 4) (ret := none) (by decide) rfl ?_
  intro p e s m args below meth c s₁ B hml hv
  obtain ⟨rfl, hsz, hP, hK, hD0, hE, hz⟩ := hv
  have hx := B.exec
  have hb := B.bytes
  have hr := B.returns
  have hts := atoms_spec (ws := wsX12_writesDown) B.pre
  have hown : s.vm.findClass RX12 = some m.cls := findClass_of_methodNamed B.named
  have hlocks := B.notSynchronized
  subst hsz
  have hD := hD0.self (sz := s.heap.size)
  have hN := xq_Env.of hE hz hD0
  generalize hAe : va_A [(a_p0, .inr (12, oX12 mmI mmJ mmR)), ((mmR 52), .inl (cI, 22, .inl mm_keptManyF)), ((mmR 53), .inl (cI, 2640, .inl mm_keptRowF)), ((mmR 45), .inl (cI, 22, .inl mm_nightOfF)), ((mmR 46), .inl (cI, 22, .inl mm_mileOfF))] s.heap.size = A at hD hN ⊢
  have hA : ∀ q : Nat, s.heap.size ≤ q → A q := fun q h => by rw [← hAe]; exact Or.inr h
  clear hAe hD0
  have hS : va_S A s.heap s.heap [] := va_S.rf
  have hl := lv_entry ([.ref a_p0, .int p1, .int p2]) (n := 4) (Nat.le_of_ble_eq_true rfl)
  rw [lg_entry_eq]
  generalize (lg_sl ([.ref a_p0, .int p1, .int p2]) ++ List.replicate (4 - (lg_sl ([.ref a_p0, .int p1, .int p2])).length) Slot.unset).toArray = ls at hl ⊢
  have hl : lv_has ls 4 [(0, .ref a_p0), (1, .int p1), (2, .int p2)] := hl
  have hw0 := hts (.fieldLink RX12 171 "DistantVoiceModel" "keptMany" "[I") (by decide +kernel)
  have hinX12 : ∀ w ∈ wsX120, w ∈ wsX12_writesDown := fun w h => List.mem_cons_of_mem _ (List.mem_append_right _ h)
  have hw2 := hts (.fieldLink RX12 174 "DistantVoiceModel" "keptRow" "[I") (by decide +kernel)
  have hw3 := hts (.fieldLink RX12 150 "DistantVoiceModel" "nightOf" "[I") (by decide +kernel)
  have hw4 := hts (.fieldLink RX12 153 "DistantVoiceModel" "mileOf" "[I") (by decide +kernel)
  have b59 : ∀ (mm_keptManyF_59 : Nat → Int32) (mm_keptRowF_59 : Nat → Int32) (x1_59 : Int32) (x2_59 : Int32) (ls : Array Slot) (H : Heap) (locs : List Loc), fX12_writesDown_b59 N mm_nightOfF mm_mileOfF (mm_keptManyF_59, mm_keptRowF_59, x1_59, x2_59) = some (r0, r1) → va_P (dC, dI) vwCl [(a_p0, .inr (12, oX12 mmI mmJ mmR)), ((mmR 52), .inl (cI, 22, .inl mm_keptManyF_59)), ((mmR 53), .inl (cI, 2640, .inl mm_keptRowF_59)), ((mmR 45), .inl (cI, 22, .inl mm_nightOfF)), ((mmR 46), .inl (cI, 22, .inl mm_mileOfF))] H → va_D A [(a_p0, .inr (12, oX12 mmI mmJ mmR)), ((mmR 52), .inl (cI, 22, .inl mm_keptManyF_59)), ((mmR 53), .inl (cI, 2640, .inl mm_keptRowF_59)), ((mmR 45), .inl (cI, 22, .inl mm_nightOfF)), ((mmR 46), .inl (cI, 22, .inl mm_mileOfF))] → va_S A s.heap H locs → lv_has ls 4 [(0, .ref a_p0), (1, .int x1_59), (2, .int x2_59)] → W p l e (headSpec wsX12_writesDown { frames := 0, cells := 0, slots := 0, locals := 0 }).room s m [.ref a_p0, .int p1, .int p2].toArray below meth c H locs 0 0 (MQ below (xq_Q (dC, dI) vwCl (xq_tys cI cB cJ cZ cM) A [(a_p0, .inr (12, oX12 mmI mmJ mmR)), ((mmR 52), .inl (cI, 22, .inl r0)), ((mmR 53), .inl (cI, 2640, .inl r1)), ((mmR 45), .inl (cI, 22, .inl mm_nightOfF)), ((mmR 46), .inl (cI, 22, .inl mm_mileOfF))] none) [.ref a_p0, .int p1, .int p2].toArray s 0 0 A) (F0 m 59 ls []) := by
    intro mm_keptManyF_59 mm_keptRowF_59 x1_59 x2_59 ls H locs hf hP hD hS hl
    unfold fX12_writesDown_b59 at hf
    refine lv_iconst (v := 3) hx hb dX12_writesDown_59 (by decide) ?_
    refine lv_bipush (v := 40) hx hb dX12_writesDown_60 (by decide) ?_
    refine lv_iload_n hx hb dX12_writesDown_62 rfl (lv_at hl 1 rfl) ?_
    refine lv_imul hx hb dX12_writesDown_63 ?_
    refine lv_aload_n hx hb dX12_writesDown_64 rfl (lv_at hl 0 rfl) ?_
    refine va_get (D := (dC, dI)) (ci := 12) (v := .ref ((mmR 52))) (C := RX12) (T := TX12) (N := 70) hx hb hts hinX12 hown hK hP 0 rfl rfl 52 (by decide) hw0 (fun _ h9 => h9) rfl dX12_writesDown_65 ?_
    refine lv_iload_n hx hb dX12_writesDown_68 rfl (lv_at hl 1 rfl) ?_
    refine xq_iald hx hb hK hP 1 0 rfl rfl hf dX12_writesDown_69 (fun v_1 hf => ?_)
    refine lv_iadd hx hb dX12_writesDown_70 ?_
    refine lv_imul hx hb dX12_writesDown_71 ?_
    refine lv_istore_n (lv' := [(3, .int (3 * ((40 * x1_59) + v_1))), (0, .ref a_p0), (1, .int x1_59), (2, .int x2_59)]) hx hb dX12_writesDown_72 rfl hl (by decide) rfl (fun ls hl => ?_)
    refine lv_aload_n hx hb dX12_writesDown_73 rfl (lv_at hl 1 rfl) ?_
    refine va_get (D := (dC, dI)) (ci := 12) (v := .ref ((mmR 53))) (C := RX12) (T := TX12) (N := 70) hx hb hts hinX12 hown hK hP 0 rfl rfl 53 (by decide) hw2 (fun _ h9 => h9) rfl dX12_writesDown_74 ?_
    refine lv_iload_n hx hb dX12_writesDown_77 rfl (lv_at hl 0 rfl) ?_
    refine lv_aload_n hx hb dX12_writesDown_78 rfl (lv_at hl 1 rfl) ?_
    refine va_get (D := (dC, dI)) (ci := 12) (v := .ref ((mmR 45))) (C := RX12) (T := TX12) (N := 70) hx hb hts hinX12 hown hK hP 0 rfl rfl 45 (by decide) hw3 (fun _ h9 => h9) rfl dX12_writesDown_79 ?_
    refine lv_iload_n hx hb dX12_writesDown_82 rfl (lv_at hl 2 rfl) ?_
    refine xq_iald hx hb hK hP 3 0 rfl rfl hf dX12_writesDown_83 (fun v_2 hf => ?_)
    refine xq_iast hx hb hK hP hD hS 2 0 rfl rfl hf dX12_writesDown_84 (fun g_3 H locs hf hP hD hS => ?_)
    have hP : va_P (dC, dI) vwCl [(a_p0, .inr (12, oX12 mmI mmJ mmR)), ((mmR 52), .inl (cI, 22, .inl mm_keptManyF_59)), ((mmR 53), .inl (cI, 2640, .inl g_3)), ((mmR 45), .inl (cI, 22, .inl mm_nightOfF)), ((mmR 46), .inl (cI, 22, .inl mm_mileOfF))] H := hP
    have hD : va_D A [(a_p0, .inr (12, oX12 mmI mmJ mmR)), ((mmR 52), .inl (cI, 22, .inl mm_keptManyF_59)), ((mmR 53), .inl (cI, 2640, .inl g_3)), ((mmR 45), .inl (cI, 22, .inl mm_nightOfF)), ((mmR 46), .inl (cI, 22, .inl mm_mileOfF))] := hD
    refine lv_aload_n hx hb dX12_writesDown_85 rfl (lv_at hl 1 rfl) ?_
    refine va_get (D := (dC, dI)) (ci := 12) (v := .ref ((mmR 53))) (C := RX12) (T := TX12) (N := 70) hx hb hts hinX12 hown hK hP 0 rfl rfl 53 (by decide) hw2 (fun _ h9 => h9) rfl dX12_writesDown_86 ?_
    refine lv_iload_n hx hb dX12_writesDown_89 rfl (lv_at hl 0 rfl) ?_
    refine lv_iconst (v := 1) hx hb dX12_writesDown_90 (by decide) ?_
    refine lv_iadd hx hb dX12_writesDown_91 ?_
    refine lv_aload_n hx hb dX12_writesDown_92 rfl (lv_at hl 1 rfl) ?_
    refine va_get (D := (dC, dI)) (ci := 12) (v := .ref ((mmR 46))) (C := RX12) (T := TX12) (N := 70) hx hb hts hinX12 hown hK hP 0 rfl rfl 46 (by decide) hw4 (fun _ h9 => h9) rfl dX12_writesDown_93 ?_
    refine lv_iload_n hx hb dX12_writesDown_96 rfl (lv_at hl 2 rfl) ?_
    refine xq_iald hx hb hK hP 4 0 rfl rfl hf dX12_writesDown_97 (fun v_4 hf => ?_)
    refine xq_iast hx hb hK hP hD hS 2 0 rfl rfl hf dX12_writesDown_98 (fun g_5 H locs hf hP hD hS => ?_)
    have hP : va_P (dC, dI) vwCl [(a_p0, .inr (12, oX12 mmI mmJ mmR)), ((mmR 52), .inl (cI, 22, .inl mm_keptManyF_59)), ((mmR 53), .inl (cI, 2640, .inl g_5)), ((mmR 45), .inl (cI, 22, .inl mm_nightOfF)), ((mmR 46), .inl (cI, 22, .inl mm_mileOfF))] H := hP
    have hD : va_D A [(a_p0, .inr (12, oX12 mmI mmJ mmR)), ((mmR 52), .inl (cI, 22, .inl mm_keptManyF_59)), ((mmR 53), .inl (cI, 2640, .inl g_5)), ((mmR 45), .inl (cI, 22, .inl mm_nightOfF)), ((mmR 46), .inl (cI, 22, .inl mm_mileOfF))] := hD
    refine lv_aload_n hx hb dX12_writesDown_99 rfl (lv_at hl 1 rfl) ?_
    refine va_get (D := (dC, dI)) (ci := 12) (v := .ref ((mmR 53))) (C := RX12) (T := TX12) (N := 70) hx hb hts hinX12 hown hK hP 0 rfl rfl 53 (by decide) hw2 (fun _ h9 => h9) rfl dX12_writesDown_100 ?_
    refine lv_iload_n hx hb dX12_writesDown_103 rfl (lv_at hl 0 rfl) ?_
    refine lv_iconst (v := 2) hx hb dX12_writesDown_104 (by decide) ?_
    refine lv_iadd hx hb dX12_writesDown_105 ?_
    refine lv_iload_n hx hb dX12_writesDown_106 rfl (lv_at hl 3 rfl) ?_
    refine xq_iast hx hb hK hP hD hS 2 0 rfl rfl hf dX12_writesDown_107 (fun g_6 H locs hf hP hD hS => ?_)
    have hP : va_P (dC, dI) vwCl [(a_p0, .inr (12, oX12 mmI mmJ mmR)), ((mmR 52), .inl (cI, 22, .inl mm_keptManyF_59)), ((mmR 53), .inl (cI, 2640, .inl g_6)), ((mmR 45), .inl (cI, 22, .inl mm_nightOfF)), ((mmR 46), .inl (cI, 22, .inl mm_mileOfF))] H := hP
    have hD : va_D A [(a_p0, .inr (12, oX12 mmI mmJ mmR)), ((mmR 52), .inl (cI, 22, .inl mm_keptManyF_59)), ((mmR 53), .inl (cI, 2640, .inl g_6)), ((mmR 45), .inl (cI, 22, .inl mm_nightOfF)), ((mmR 46), .inl (cI, 22, .inl mm_mileOfF))] := hD
    refine lv_aload_n hx hb dX12_writesDown_108 rfl (lv_at hl 1 rfl) ?_
    refine va_get (D := (dC, dI)) (ci := 12) (v := .ref ((mmR 52))) (C := RX12) (T := TX12) (N := 70) hx hb hts hinX12 hown hK hP 0 rfl rfl 52 (by decide) hw0 (fun _ h9 => h9) rfl dX12_writesDown_109 ?_
    refine lv_iload_n hx hb dX12_writesDown_112 rfl (lv_at hl 2 rfl) ?_
    refine lv_dup2_11 hx hb dX12_writesDown_113 rfl rfl ?_
    refine xq_iald hx hb hK hP 1 0 rfl rfl hf dX12_writesDown_114 (fun v_7 hf => ?_)
    refine lv_iconst (v := 1) hx hb dX12_writesDown_115 (by decide) ?_
    refine lv_iadd hx hb dX12_writesDown_116 ?_
    refine xq_iast hx hb hK hP hD hS 1 0 rfl rfl hf dX12_writesDown_117 (fun g_8 H locs hf hP hD hS => ?_)
    have hP : va_P (dC, dI) vwCl [(a_p0, .inr (12, oX12 mmI mmJ mmR)), ((mmR 52), .inl (cI, 22, .inl g_8)), ((mmR 53), .inl (cI, 2640, .inl g_6)), ((mmR 45), .inl (cI, 22, .inl mm_nightOfF)), ((mmR 46), .inl (cI, 22, .inl mm_mileOfF))] H := hP
    have hD : va_D A [(a_p0, .inr (12, oX12 mmI mmJ mmR)), ((mmR 52), .inl (cI, 22, .inl g_8)), ((mmR 53), .inl (cI, 2640, .inl g_6)), ((mmR 45), .inl (cI, 22, .inl mm_nightOfF)), ((mmR 46), .inl (cI, 22, .inl mm_mileOfF))] := hD
    have hP9 := hP
    have hD9 := hD
    have hS9 := hS
    cases hf
    exact xq_vret hx hb hr hlocks hK hP9 hD9 hS9 dX12_writesDown_118
  have l16 : ∀ n16 : Nat, ∀ (mm_keptManyF_16 : Nat → Int32) (mm_keptRowF_16 : Nat → Int32) (x1_16 : Int32) (x2_16 : Int32) (x3_16 : Int32) (ls : Array Slot) (H : Heap) (locs : List Loc), xq_loop (fX12_writesDown_l16 N mm_nightOfF mm_mileOfF) n16 (mm_keptManyF_16, mm_keptRowF_16, x1_16, x2_16, x3_16) = some (r0, r1) → va_P (dC, dI) vwCl [(a_p0, .inr (12, oX12 mmI mmJ mmR)), ((mmR 52), .inl (cI, 22, .inl mm_keptManyF_16)), ((mmR 53), .inl (cI, 2640, .inl mm_keptRowF_16)), ((mmR 45), .inl (cI, 22, .inl mm_nightOfF)), ((mmR 46), .inl (cI, 22, .inl mm_mileOfF))] H → va_D A [(a_p0, .inr (12, oX12 mmI mmJ mmR)), ((mmR 52), .inl (cI, 22, .inl mm_keptManyF_16)), ((mmR 53), .inl (cI, 2640, .inl mm_keptRowF_16)), ((mmR 45), .inl (cI, 22, .inl mm_nightOfF)), ((mmR 46), .inl (cI, 22, .inl mm_mileOfF))] → va_S A s.heap H locs → lv_has ls 4 [(0, .ref a_p0), (1, .int x1_16), (2, .int x2_16), (3, .int x3_16)] → W p l e (headSpec wsX12_writesDown { frames := 0, cells := 0, slots := 0, locals := 0 }).room s m [.ref a_p0, .int p1, .int p2].toArray below meth c H locs 0 0 (MQ below (xq_Q (dC, dI) vwCl (xq_tys cI cB cJ cZ cM) A [(a_p0, .inr (12, oX12 mmI mmJ mmR)), ((mmR 52), .inl (cI, 22, .inl r0)), ((mmR 53), .inl (cI, 2640, .inl r1)), ((mmR 45), .inl (cI, 22, .inl mm_nightOfF)), ((mmR 46), .inl (cI, 22, .inl mm_mileOfF))] none) [.ref a_p0, .int p1, .int p2].toArray s 0 0 A) (F0 m 16 ls []) := by
    intro n16
    induction n16 with
    | zero => intro mm_keptManyF_16 mm_keptRowF_16 x1_16 x2_16 x3_16 ls H locs hf; cases (show none = some (r0, r1) from hf)
    | succ n16 ih16 =>
      intro mm_keptManyF_16 mm_keptRowF_16 x1_16 x2_16 x3_16 ls H locs hf hP hD hS hl
      have hf : fX12_writesDown_l16 N mm_nightOfF mm_mileOfF (xq_loop (fX12_writesDown_l16 N mm_nightOfF mm_mileOfF) n16) (mm_keptManyF_16, mm_keptRowF_16, x1_16, x2_16, x3_16) = some (r0, r1) := hf
      unfold fX12_writesDown_l16 at hf
      refine lv_iload_n hx hb dX12_writesDown_16 rfl (lv_at hl 3 rfl) ?_
      refine lv_bipush (v := 120) hx hb dX12_writesDown_17 (by decide) ?_
      refine lv_iload_n hx hb dX12_writesDown_19 rfl (lv_at hl 1 rfl) ?_
      refine lv_imul hx hb dX12_writesDown_20 ?_
      refine lv_bipush (v := 120) hx hb dX12_writesDown_21 (by decide) ?_
      refine lv_iadd hx hb dX12_writesDown_23 ?_
      refine lv_iconst (v := 3) hx hb dX12_writesDown_24 (by decide) ?_
      refine lv_isub hx hb dX12_writesDown_25 ?_
      refine lv_icmp_ge (tgt := 49) hx hb dX12_writesDown_26 (by decide) (fun c_ => ?_) (fun c_ => ?_)
      · have hf := xq_pos hf c_
        refine lv_aload_n hx hb dX12_writesDown_49 rfl (lv_at hl 0 rfl) ?_
        refine va_get (D := (dC, dI)) (ci := 12) (v := .ref ((mmR 52))) (C := RX12) (T := TX12) (N := 70) hx hb hts hinX12 hown hK hP 0 rfl rfl 52 (by decide) hw0 (fun _ h9 => h9) rfl dX12_writesDown_50 ?_
        refine lv_iload_n hx hb dX12_writesDown_53 rfl (lv_at hl 1 rfl) ?_
        refine lv_dup2_11 hx hb dX12_writesDown_54 rfl rfl ?_
        refine xq_iald hx hb hK hP 1 0 rfl rfl hf dX12_writesDown_55 (fun v_1 hf => ?_)
        refine lv_iconst (v := 1) hx hb dX12_writesDown_56 (by decide) ?_
        refine lv_isub hx hb dX12_writesDown_57 ?_
        refine xq_iast hx hb hK hP hD hS 1 0 rfl rfl hf dX12_writesDown_58 (fun g_2 H locs hf hP hD hS => ?_)
        have hP : va_P (dC, dI) vwCl [(a_p0, .inr (12, oX12 mmI mmJ mmR)), ((mmR 52), .inl (cI, 22, .inl g_2)), ((mmR 53), .inl (cI, 2640, .inl mm_keptRowF_16)), ((mmR 45), .inl (cI, 22, .inl mm_nightOfF)), ((mmR 46), .inl (cI, 22, .inl mm_mileOfF))] H := hP
        have hD : va_D A [(a_p0, .inr (12, oX12 mmI mmJ mmR)), ((mmR 52), .inl (cI, 22, .inl g_2)), ((mmR 53), .inl (cI, 2640, .inl mm_keptRowF_16)), ((mmR 45), .inl (cI, 22, .inl mm_nightOfF)), ((mmR 46), .inl (cI, 22, .inl mm_mileOfF))] := hD
        exact b59 g_2 mm_keptRowF_16 x1_16 x2_16 _ _ _ hf hP hD hS (lv_sub hl [0, 1, 2] rfl)
      · have hf := xq_neg hf c_
        refine lv_aload_n hx hb dX12_writesDown_29 rfl (lv_at hl 0 rfl) ?_
        refine va_get (D := (dC, dI)) (ci := 12) (v := .ref ((mmR 53))) (C := RX12) (T := TX12) (N := 70) hx hb hts hinX12 hown hK hP 0 rfl rfl 53 (by decide) hw2 (fun _ h9 => h9) rfl dX12_writesDown_30 ?_
        refine lv_iload_n hx hb dX12_writesDown_33 rfl (lv_at hl 3 rfl) ?_
        refine lv_aload_n hx hb dX12_writesDown_34 rfl (lv_at hl 0 rfl) ?_
        refine va_get (D := (dC, dI)) (ci := 12) (v := .ref ((mmR 53))) (C := RX12) (T := TX12) (N := 70) hx hb hts hinX12 hown hK hP 0 rfl rfl 53 (by decide) hw2 (fun _ h9 => h9) rfl dX12_writesDown_35 ?_
        refine lv_iload_n hx hb dX12_writesDown_38 rfl (lv_at hl 3 rfl) ?_
        refine lv_iconst (v := 3) hx hb dX12_writesDown_39 (by decide) ?_
        refine lv_iadd hx hb dX12_writesDown_40 ?_
        refine xq_iald hx hb hK hP 2 0 rfl rfl hf dX12_writesDown_41 (fun v_3 hf => ?_)
        refine xq_iast hx hb hK hP hD hS 2 0 rfl rfl hf dX12_writesDown_42 (fun g_4 H locs hf hP hD hS => ?_)
        have hP : va_P (dC, dI) vwCl [(a_p0, .inr (12, oX12 mmI mmJ mmR)), ((mmR 52), .inl (cI, 22, .inl mm_keptManyF_16)), ((mmR 53), .inl (cI, 2640, .inl g_4)), ((mmR 45), .inl (cI, 22, .inl mm_nightOfF)), ((mmR 46), .inl (cI, 22, .inl mm_mileOfF))] H := hP
        have hD : va_D A [(a_p0, .inr (12, oX12 mmI mmJ mmR)), ((mmR 52), .inl (cI, 22, .inl mm_keptManyF_16)), ((mmR 53), .inl (cI, 2640, .inl g_4)), ((mmR 45), .inl (cI, 22, .inl mm_nightOfF)), ((mmR 46), .inl (cI, 22, .inl mm_mileOfF))] := hD
        refine lv_iinc (v := x3_16 + 1) (lv' := [(3, .int (x3_16 + 1)), (0, .ref a_p0), (1, .int x1_16), (2, .int x2_16)]) hx hb dX12_writesDown_43 hl (k := 3) rfl (congrArg (fun q9 => x3_16 + q9) (by decide : Int32.ofInt 1 = 1)) (by decide) rfl (fun ls hl => ?_)
        refine lv_goto (tgt := 16) hx hb dX12_writesDown_46 (by decide) ?_
        exact ih16 mm_keptManyF_16 g_4 x1_16 x2_16 (x3_16 + 1) _ _ _ hf hP hD hS (lv_sub hl [1, 2, 3, 0] rfl)
  unfold fX12_writesDown at hf
  refine lv_aload_n hx hb dX12_writesDown_0 rfl (lv_at hl 0 rfl) ?_
  refine va_get (D := (dC, dI)) (ci := 12) (v := .ref ((mmR 52))) (C := RX12) (T := TX12) (N := 70) hx hb hts hinX12 hown hK hP 0 rfl rfl 52 (by decide) hw0 (fun _ h9 => h9) rfl dX12_writesDown_1 ?_
  refine lv_iload_n hx hb dX12_writesDown_4 rfl (lv_at hl 1 rfl) ?_
  refine xq_iald hx hb hK hP 1 0 rfl rfl hf dX12_writesDown_5 (fun v_1 hf => ?_)
  refine lv_bipush (v := 40) hx hb dX12_writesDown_6 (by decide) ?_
  refine lv_icmp_ne (tgt := 59) hx hb dX12_writesDown_8 (by decide) (fun c_ => ?_) (fun c_ => ?_)
  · have hf := xq_neg hf c_
    exact b59 mm_keptManyF mm_keptRowF p1 p2 _ _ _ hf hP hD hS (lv_sub hl [0, 1, 2] rfl)
  · have hf := xq_pos hf c_
    refine lv_bipush (v := 120) hx hb dX12_writesDown_11 (by decide) ?_
    refine lv_iload_n hx hb dX12_writesDown_13 rfl (lv_at hl 1 rfl) ?_
    refine lv_imul hx hb dX12_writesDown_14 ?_
    refine lv_istore_n (lv' := [(3, .int (120 * p1)), (0, .ref a_p0), (1, .int p1), (2, .int p2)]) hx hb dX12_writesDown_15 rfl hl (by decide) rfl (fun ls hl => ?_)
    exact l16 N mm_keptManyF mm_keptRowF p1 p2 (120 * p1) _ _ _ hf hP hD hS (lv_sub hl [1, 2, 3, 0] rfl)
set_option maxRecDepth 20000 in
theorem ggX12_ticks_X12_walks : GoodIn wsX12_ticks wsX12_walks := goodIn_r _ [10, 11, 12, 3, 13, 1, 14, 15, 16, 9, 17, 18, 5, 19, 20, 21, 22, 23, 24, 25, 26, 27, 28, 29, 30, 31, 32, 33, 34, 35, 36, 37, 38, 39, 40, 41, 42, 43, 44, 45, 46, 47, 48, 49, 50, 51, 52, 53, 54, 55, 56, 77, 78, 79, 80, 81, 82, 83, 84, 85, 86, 87, 88, 89, 90, 91, 92, 93, 94, 95, 96, 97, 98, 99, 100, 101, 102, 103, 104, 105, 106, 107, 108, 109, 110, 111, 112, 113, 114, 115, 116, 117, 118, 119, 120, 121, 122, 123, 124, 125, 126, 127, 128, 129, 130, 131, 132, 133, 134, 135, 136, 137, 138, 139, 140, 141, 142, 143, 144, 145, 146] rfl (by decide +kernel)
set_option maxRecDepth 20000 in
theorem gX12_ticks_X12_walks : GoodIn wsX12_ticks (wsV RX12 441 RX12 yX12_walks wsX12_walks) := goodIn_app (goodIn_of _ (by decide +kernel)) ggX12_ticks_X12_walks
set_option maxRecDepth 20000 in
theorem ggX12_ticks_X12_isHeardIn : GoodIn wsX12_ticks wsX12_isHeardIn := goodIn_r _ [60, 18, 5, 61, 3, 19, 20, 21, 9, 22, 23, 62, 63, 64, 65, 11, 12, 24, 25, 26, 27, 28, 29, 30, 31, 32, 33, 34, 35, 36, 37, 38, 39, 40, 41, 42, 77, 78, 79, 80, 81, 82, 83, 84, 85, 86, 87, 88, 89, 90, 91, 92, 93, 94, 95, 96, 97, 98, 99, 100, 101, 102, 103, 104, 105, 106, 107, 108, 109, 110, 111, 112, 113, 114, 115, 116, 117, 118, 119, 120, 121, 122, 123, 124, 125, 126, 127, 128, 129, 130, 131, 132, 133, 134, 135, 136, 137, 138, 139, 140, 141, 142, 143, 144, 145, 146] rfl (by decide +kernel)
set_option maxRecDepth 20000 in
theorem gX12_ticks_X12_isHeardIn : GoodIn wsX12_ticks (wsV RX12 437 RX12 yX12_isHeardIn wsX12_isHeardIn) := goodIn_app (goodIn_of _ (by decide +kernel)) ggX12_ticks_X12_isHeardIn
set_option maxRecDepth 20000 in
theorem ggX12_ticks_X12_counts : GoodIn wsX12_ticks wsX12_counts := goodIn_r _ [69, 2, 3, 70, 57, 58, 59, 9, 60, 18, 5, 61, 19, 20, 21, 22, 23, 62, 63, 64, 65, 11, 12, 24, 25, 26, 27, 28, 29, 30, 31, 32, 33, 34, 35, 36, 37, 38, 39, 40, 41, 42, 77, 78, 79, 80, 81, 82, 83, 84, 85, 86, 87, 88, 89, 90, 91, 92, 93, 94, 95, 96, 97, 98, 99, 100, 101, 102, 103, 104, 105, 106, 107, 108, 109, 110, 111, 112, 113, 114, 115, 116, 117, 118, 119, 120, 121, 122, 123, 124, 125, 126, 127, 128, 129, 130, 131, 132, 133, 134, 135, 136, 137, 138, 139, 140, 141, 142, 143, 144, 145, 146] rfl (by decide +kernel)
set_option maxRecDepth 20000 in
theorem gX12_ticks_X12_counts : GoodIn wsX12_ticks (wsV RX12 444 RX12 yX12_counts wsX12_counts) := goodIn_app (goodIn_of _ (by decide +kernel)) ggX12_ticks_X12_counts
set_option maxRecDepth 20000 in
theorem ggX12_ticks_X12_writesDown : GoodIn wsX12_ticks wsX12_writesDown := goodIn_r _ [74, 75, 76, 5, 11, 77, 78, 79, 80, 81, 82, 83, 84, 85, 86, 87, 88, 89, 90, 91, 92, 93, 94, 95, 96, 97, 98, 99, 100, 101, 102, 103, 104, 105, 106, 107, 108, 109, 110, 111, 112, 113, 114, 115, 116, 117, 118, 119, 120, 121, 122, 123, 124, 125, 126, 127, 128, 129, 130, 131, 132, 133, 134, 135, 136, 137, 138, 139, 140, 141, 142, 143, 144, 145, 146] rfl (by decide +kernel)
set_option maxRecDepth 20000 in
theorem gX12_ticks_X12_writesDown : GoodIn wsX12_ticks (wsV RX12 447 RX12 yX12_writesDown wsX12_writesDown) := goodIn_app (goodIn_of _ (by decide +kernel)) ggX12_ticks_X12_writesDown
def dsX12_ticks_0 : List (Nat × Instr × Nat) := [(0, (.aload_n 0, 1)), (1, (.getfield 159, 3)), (4, (.iload_n 1, 1)), (5, (.iaload, 1)), (6, (.ifCond .le 16, 3)), (9, (.aload_n 0, 1)), (10, (.getfield 159, 3)), (13, (.iload_n 1, 1)), (14, (.dup2, 1)), (15, (.iaload, 1)), (16, (.iconst 1, 1)), (17, (.isub, 1)), (18, (.iastore, 1)), (19, (.goto 9, 3)), (22, (.aload_n 0, 1)), (23, (.iload_n 1, 1)), (24, (.iload_n 2, 1)), (25, (.invokevirtual 441, 3)), (28, (.iconst 0, 1)), (29, (.istore 4, 2)), (31, (.iconst 0, 1)), (32, (.istore 5, 2)), (34, (.iload 5, 2)), (36, (.aload_n 0, 1)), (37, (.getfield 66, 3)), (40, (.aload_n 0, 1)), (41, (.getfield 51, 3)), (44, (.iaload, 1)), (45, (.if_icmp .ge 45, 3)), (48, (.iload 4, 2)), (50, (.aload_n 0, 1)), (51, (.iload_n 1, 1)), (52, (.iload 5, 2)), (54, (.aload_n 0, 1)), (55, (.getfield 165, 3)), (58, (.bipush 7, 2)), (60, (.iload_n 1, 1)), (61, (.imul, 1)), (62, (.iload 5, 2)), (64, (.iadd, 1)), (65, (.iaload, 1)), (66, (.iload_n 2, 1)), (67, (.invokevirtual 437, 3)), (70, (.ifCond .eq 10, 3)), (73, (.iconst 1, 1)), (74, (.iload 5, 2)), (76, (.ishl, 1)), (77, (.goto 4, 3)), (80, (.iconst 0, 1)), (81, (.ior, 1)), (82, (.istore 4, 2)), (84, (.iinc 5 1, 3)), (87, (.goto (-53), 3)), (90, (.iload_n 3, 1)), (91, (.ifCond .eq 9, 3)), (94, (.aload_n 0, 1)), (95, (.iload_n 1, 1)), (96, (.iload_n 2, 1)), (97, (.invokevirtual 444, 3)), (100, (.iload 4, 2))]
theorem dsX12_ticks_0_ok : (dsX12_ticks_0.all fun q => decide (decode cX12_ticks q.1 = .ok q.2)) = true := by decide +kernel
theorem dX12_ticks_0 : decode cX12_ticks 0 = .ok (.aload_n 0, 1) := of_decide_eq_true (List.all_eq_true.mp dsX12_ticks_0_ok (0, (.aload_n 0, 1)) (List.mem_of_getElem? (i := 0) rfl))
theorem dX12_ticks_1 : decode cX12_ticks 1 = .ok (.getfield 159, 3) := of_decide_eq_true (List.all_eq_true.mp dsX12_ticks_0_ok (1, (.getfield 159, 3)) (List.mem_of_getElem? (i := 1) rfl))
theorem dX12_ticks_4 : decode cX12_ticks 4 = .ok (.iload_n 1, 1) := of_decide_eq_true (List.all_eq_true.mp dsX12_ticks_0_ok (4, (.iload_n 1, 1)) (List.mem_of_getElem? (i := 2) rfl))
theorem dX12_ticks_5 : decode cX12_ticks 5 = .ok (.iaload, 1) := of_decide_eq_true (List.all_eq_true.mp dsX12_ticks_0_ok (5, (.iaload, 1)) (List.mem_of_getElem? (i := 3) rfl))
theorem dX12_ticks_6 : decode cX12_ticks 6 = .ok (.ifCond .le 16, 3) := of_decide_eq_true (List.all_eq_true.mp dsX12_ticks_0_ok (6, (.ifCond .le 16, 3)) (List.mem_of_getElem? (i := 4) rfl))
theorem dX12_ticks_9 : decode cX12_ticks 9 = .ok (.aload_n 0, 1) := of_decide_eq_true (List.all_eq_true.mp dsX12_ticks_0_ok (9, (.aload_n 0, 1)) (List.mem_of_getElem? (i := 5) rfl))
theorem dX12_ticks_10 : decode cX12_ticks 10 = .ok (.getfield 159, 3) := of_decide_eq_true (List.all_eq_true.mp dsX12_ticks_0_ok (10, (.getfield 159, 3)) (List.mem_of_getElem? (i := 6) rfl))
theorem dX12_ticks_13 : decode cX12_ticks 13 = .ok (.iload_n 1, 1) := of_decide_eq_true (List.all_eq_true.mp dsX12_ticks_0_ok (13, (.iload_n 1, 1)) (List.mem_of_getElem? (i := 7) rfl))
theorem dX12_ticks_14 : decode cX12_ticks 14 = .ok (.dup2, 1) := of_decide_eq_true (List.all_eq_true.mp dsX12_ticks_0_ok (14, (.dup2, 1)) (List.mem_of_getElem? (i := 8) rfl))
theorem dX12_ticks_15 : decode cX12_ticks 15 = .ok (.iaload, 1) := of_decide_eq_true (List.all_eq_true.mp dsX12_ticks_0_ok (15, (.iaload, 1)) (List.mem_of_getElem? (i := 9) rfl))
theorem dX12_ticks_16 : decode cX12_ticks 16 = .ok (.iconst 1, 1) := of_decide_eq_true (List.all_eq_true.mp dsX12_ticks_0_ok (16, (.iconst 1, 1)) (List.mem_of_getElem? (i := 10) rfl))
theorem dX12_ticks_17 : decode cX12_ticks 17 = .ok (.isub, 1) := of_decide_eq_true (List.all_eq_true.mp dsX12_ticks_0_ok (17, (.isub, 1)) (List.mem_of_getElem? (i := 11) rfl))
theorem dX12_ticks_18 : decode cX12_ticks 18 = .ok (.iastore, 1) := of_decide_eq_true (List.all_eq_true.mp dsX12_ticks_0_ok (18, (.iastore, 1)) (List.mem_of_getElem? (i := 12) rfl))
theorem dX12_ticks_19 : decode cX12_ticks 19 = .ok (.goto 9, 3) := of_decide_eq_true (List.all_eq_true.mp dsX12_ticks_0_ok (19, (.goto 9, 3)) (List.mem_of_getElem? (i := 13) rfl))
theorem dX12_ticks_22 : decode cX12_ticks 22 = .ok (.aload_n 0, 1) := of_decide_eq_true (List.all_eq_true.mp dsX12_ticks_0_ok (22, (.aload_n 0, 1)) (List.mem_of_getElem? (i := 14) rfl))
theorem dX12_ticks_23 : decode cX12_ticks 23 = .ok (.iload_n 1, 1) := of_decide_eq_true (List.all_eq_true.mp dsX12_ticks_0_ok (23, (.iload_n 1, 1)) (List.mem_of_getElem? (i := 15) rfl))
theorem dX12_ticks_24 : decode cX12_ticks 24 = .ok (.iload_n 2, 1) := of_decide_eq_true (List.all_eq_true.mp dsX12_ticks_0_ok (24, (.iload_n 2, 1)) (List.mem_of_getElem? (i := 16) rfl))
theorem dX12_ticks_25 : decode cX12_ticks 25 = .ok (.invokevirtual 441, 3) := of_decide_eq_true (List.all_eq_true.mp dsX12_ticks_0_ok (25, (.invokevirtual 441, 3)) (List.mem_of_getElem? (i := 17) rfl))
theorem dX12_ticks_28 : decode cX12_ticks 28 = .ok (.iconst 0, 1) := of_decide_eq_true (List.all_eq_true.mp dsX12_ticks_0_ok (28, (.iconst 0, 1)) (List.mem_of_getElem? (i := 18) rfl))
theorem dX12_ticks_29 : decode cX12_ticks 29 = .ok (.istore 4, 2) := of_decide_eq_true (List.all_eq_true.mp dsX12_ticks_0_ok (29, (.istore 4, 2)) (List.mem_of_getElem? (i := 19) rfl))
theorem dX12_ticks_31 : decode cX12_ticks 31 = .ok (.iconst 0, 1) := of_decide_eq_true (List.all_eq_true.mp dsX12_ticks_0_ok (31, (.iconst 0, 1)) (List.mem_of_getElem? (i := 20) rfl))
theorem dX12_ticks_32 : decode cX12_ticks 32 = .ok (.istore 5, 2) := of_decide_eq_true (List.all_eq_true.mp dsX12_ticks_0_ok (32, (.istore 5, 2)) (List.mem_of_getElem? (i := 21) rfl))
theorem dX12_ticks_34 : decode cX12_ticks 34 = .ok (.iload 5, 2) := of_decide_eq_true (List.all_eq_true.mp dsX12_ticks_0_ok (34, (.iload 5, 2)) (List.mem_of_getElem? (i := 22) rfl))
theorem dX12_ticks_36 : decode cX12_ticks 36 = .ok (.aload_n 0, 1) := of_decide_eq_true (List.all_eq_true.mp dsX12_ticks_0_ok (36, (.aload_n 0, 1)) (List.mem_of_getElem? (i := 23) rfl))
theorem dX12_ticks_37 : decode cX12_ticks 37 = .ok (.getfield 66, 3) := of_decide_eq_true (List.all_eq_true.mp dsX12_ticks_0_ok (37, (.getfield 66, 3)) (List.mem_of_getElem? (i := 24) rfl))
theorem dX12_ticks_40 : decode cX12_ticks 40 = .ok (.aload_n 0, 1) := of_decide_eq_true (List.all_eq_true.mp dsX12_ticks_0_ok (40, (.aload_n 0, 1)) (List.mem_of_getElem? (i := 25) rfl))
theorem dX12_ticks_41 : decode cX12_ticks 41 = .ok (.getfield 51, 3) := of_decide_eq_true (List.all_eq_true.mp dsX12_ticks_0_ok (41, (.getfield 51, 3)) (List.mem_of_getElem? (i := 26) rfl))
theorem dX12_ticks_44 : decode cX12_ticks 44 = .ok (.iaload, 1) := of_decide_eq_true (List.all_eq_true.mp dsX12_ticks_0_ok (44, (.iaload, 1)) (List.mem_of_getElem? (i := 27) rfl))
theorem dX12_ticks_45 : decode cX12_ticks 45 = .ok (.if_icmp .ge 45, 3) := of_decide_eq_true (List.all_eq_true.mp dsX12_ticks_0_ok (45, (.if_icmp .ge 45, 3)) (List.mem_of_getElem? (i := 28) rfl))
theorem dX12_ticks_48 : decode cX12_ticks 48 = .ok (.iload 4, 2) := of_decide_eq_true (List.all_eq_true.mp dsX12_ticks_0_ok (48, (.iload 4, 2)) (List.mem_of_getElem? (i := 29) rfl))
theorem dX12_ticks_50 : decode cX12_ticks 50 = .ok (.aload_n 0, 1) := of_decide_eq_true (List.all_eq_true.mp dsX12_ticks_0_ok (50, (.aload_n 0, 1)) (List.mem_of_getElem? (i := 30) rfl))
theorem dX12_ticks_51 : decode cX12_ticks 51 = .ok (.iload_n 1, 1) := of_decide_eq_true (List.all_eq_true.mp dsX12_ticks_0_ok (51, (.iload_n 1, 1)) (List.mem_of_getElem? (i := 31) rfl))
theorem dX12_ticks_52 : decode cX12_ticks 52 = .ok (.iload 5, 2) := of_decide_eq_true (List.all_eq_true.mp dsX12_ticks_0_ok (52, (.iload 5, 2)) (List.mem_of_getElem? (i := 32) rfl))
theorem dX12_ticks_54 : decode cX12_ticks 54 = .ok (.aload_n 0, 1) := of_decide_eq_true (List.all_eq_true.mp dsX12_ticks_0_ok (54, (.aload_n 0, 1)) (List.mem_of_getElem? (i := 33) rfl))
theorem dX12_ticks_55 : decode cX12_ticks 55 = .ok (.getfield 165, 3) := of_decide_eq_true (List.all_eq_true.mp dsX12_ticks_0_ok (55, (.getfield 165, 3)) (List.mem_of_getElem? (i := 34) rfl))
theorem dX12_ticks_58 : decode cX12_ticks 58 = .ok (.bipush 7, 2) := of_decide_eq_true (List.all_eq_true.mp dsX12_ticks_0_ok (58, (.bipush 7, 2)) (List.mem_of_getElem? (i := 35) rfl))
theorem dX12_ticks_60 : decode cX12_ticks 60 = .ok (.iload_n 1, 1) := of_decide_eq_true (List.all_eq_true.mp dsX12_ticks_0_ok (60, (.iload_n 1, 1)) (List.mem_of_getElem? (i := 36) rfl))
theorem dX12_ticks_61 : decode cX12_ticks 61 = .ok (.imul, 1) := of_decide_eq_true (List.all_eq_true.mp dsX12_ticks_0_ok (61, (.imul, 1)) (List.mem_of_getElem? (i := 37) rfl))
theorem dX12_ticks_62 : decode cX12_ticks 62 = .ok (.iload 5, 2) := of_decide_eq_true (List.all_eq_true.mp dsX12_ticks_0_ok (62, (.iload 5, 2)) (List.mem_of_getElem? (i := 38) rfl))
theorem dX12_ticks_64 : decode cX12_ticks 64 = .ok (.iadd, 1) := of_decide_eq_true (List.all_eq_true.mp dsX12_ticks_0_ok (64, (.iadd, 1)) (List.mem_of_getElem? (i := 39) rfl))
theorem dX12_ticks_65 : decode cX12_ticks 65 = .ok (.iaload, 1) := of_decide_eq_true (List.all_eq_true.mp dsX12_ticks_0_ok (65, (.iaload, 1)) (List.mem_of_getElem? (i := 40) rfl))
theorem dX12_ticks_66 : decode cX12_ticks 66 = .ok (.iload_n 2, 1) := of_decide_eq_true (List.all_eq_true.mp dsX12_ticks_0_ok (66, (.iload_n 2, 1)) (List.mem_of_getElem? (i := 41) rfl))
theorem dX12_ticks_67 : decode cX12_ticks 67 = .ok (.invokevirtual 437, 3) := of_decide_eq_true (List.all_eq_true.mp dsX12_ticks_0_ok (67, (.invokevirtual 437, 3)) (List.mem_of_getElem? (i := 42) rfl))
theorem dX12_ticks_70 : decode cX12_ticks 70 = .ok (.ifCond .eq 10, 3) := of_decide_eq_true (List.all_eq_true.mp dsX12_ticks_0_ok (70, (.ifCond .eq 10, 3)) (List.mem_of_getElem? (i := 43) rfl))
theorem dX12_ticks_73 : decode cX12_ticks 73 = .ok (.iconst 1, 1) := of_decide_eq_true (List.all_eq_true.mp dsX12_ticks_0_ok (73, (.iconst 1, 1)) (List.mem_of_getElem? (i := 44) rfl))
theorem dX12_ticks_74 : decode cX12_ticks 74 = .ok (.iload 5, 2) := of_decide_eq_true (List.all_eq_true.mp dsX12_ticks_0_ok (74, (.iload 5, 2)) (List.mem_of_getElem? (i := 45) rfl))
theorem dX12_ticks_76 : decode cX12_ticks 76 = .ok (.ishl, 1) := of_decide_eq_true (List.all_eq_true.mp dsX12_ticks_0_ok (76, (.ishl, 1)) (List.mem_of_getElem? (i := 46) rfl))
theorem dX12_ticks_77 : decode cX12_ticks 77 = .ok (.goto 4, 3) := of_decide_eq_true (List.all_eq_true.mp dsX12_ticks_0_ok (77, (.goto 4, 3)) (List.mem_of_getElem? (i := 47) rfl))
theorem dX12_ticks_80 : decode cX12_ticks 80 = .ok (.iconst 0, 1) := of_decide_eq_true (List.all_eq_true.mp dsX12_ticks_0_ok (80, (.iconst 0, 1)) (List.mem_of_getElem? (i := 48) rfl))
theorem dX12_ticks_81 : decode cX12_ticks 81 = .ok (.ior, 1) := of_decide_eq_true (List.all_eq_true.mp dsX12_ticks_0_ok (81, (.ior, 1)) (List.mem_of_getElem? (i := 49) rfl))
theorem dX12_ticks_82 : decode cX12_ticks 82 = .ok (.istore 4, 2) := of_decide_eq_true (List.all_eq_true.mp dsX12_ticks_0_ok (82, (.istore 4, 2)) (List.mem_of_getElem? (i := 50) rfl))
theorem dX12_ticks_84 : decode cX12_ticks 84 = .ok (.iinc 5 1, 3) := of_decide_eq_true (List.all_eq_true.mp dsX12_ticks_0_ok (84, (.iinc 5 1, 3)) (List.mem_of_getElem? (i := 51) rfl))
theorem dX12_ticks_87 : decode cX12_ticks 87 = .ok (.goto (-53), 3) := of_decide_eq_true (List.all_eq_true.mp dsX12_ticks_0_ok (87, (.goto (-53), 3)) (List.mem_of_getElem? (i := 52) rfl))
theorem dX12_ticks_90 : decode cX12_ticks 90 = .ok (.iload_n 3, 1) := of_decide_eq_true (List.all_eq_true.mp dsX12_ticks_0_ok (90, (.iload_n 3, 1)) (List.mem_of_getElem? (i := 53) rfl))
theorem dX12_ticks_91 : decode cX12_ticks 91 = .ok (.ifCond .eq 9, 3) := of_decide_eq_true (List.all_eq_true.mp dsX12_ticks_0_ok (91, (.ifCond .eq 9, 3)) (List.mem_of_getElem? (i := 54) rfl))
theorem dX12_ticks_94 : decode cX12_ticks 94 = .ok (.aload_n 0, 1) := of_decide_eq_true (List.all_eq_true.mp dsX12_ticks_0_ok (94, (.aload_n 0, 1)) (List.mem_of_getElem? (i := 55) rfl))
theorem dX12_ticks_95 : decode cX12_ticks 95 = .ok (.iload_n 1, 1) := of_decide_eq_true (List.all_eq_true.mp dsX12_ticks_0_ok (95, (.iload_n 1, 1)) (List.mem_of_getElem? (i := 56) rfl))
theorem dX12_ticks_96 : decode cX12_ticks 96 = .ok (.iload_n 2, 1) := of_decide_eq_true (List.all_eq_true.mp dsX12_ticks_0_ok (96, (.iload_n 2, 1)) (List.mem_of_getElem? (i := 57) rfl))
theorem dX12_ticks_97 : decode cX12_ticks 97 = .ok (.invokevirtual 444, 3) := of_decide_eq_true (List.all_eq_true.mp dsX12_ticks_0_ok (97, (.invokevirtual 444, 3)) (List.mem_of_getElem? (i := 58) rfl))
theorem dX12_ticks_100 : decode cX12_ticks 100 = .ok (.iload 4, 2) := of_decide_eq_true (List.all_eq_true.mp dsX12_ticks_0_ok (100, (.iload 4, 2)) (List.mem_of_getElem? (i := 59) rfl))
def dsX12_ticks_1 : List (Nat × Instr × Nat) := [(102, (.ifCond .eq 10, 3)), (105, (.aload_n 0, 1)), (106, (.iload_n 1, 1)), (107, (.iload 4, 2)), (109, (.invokevirtual 447, 3)), (112, (.aload_n 0, 1)), (113, (.getfield 150, 3)), (116, (.iload_n 1, 1)), (117, (.dup2, 1)), (118, (.iaload, 1)), (119, (.iconst 1, 1)), (120, (.iadd, 1)), (121, (.iastore, 1)), (122, (.iload 4, 2)), (124, (.ireturn, 1))]
theorem dsX12_ticks_1_ok : (dsX12_ticks_1.all fun q => decide (decode cX12_ticks q.1 = .ok q.2)) = true := by decide +kernel
theorem dX12_ticks_102 : decode cX12_ticks 102 = .ok (.ifCond .eq 10, 3) := of_decide_eq_true (List.all_eq_true.mp dsX12_ticks_1_ok (102, (.ifCond .eq 10, 3)) (List.mem_of_getElem? (i := 0) rfl))
theorem dX12_ticks_105 : decode cX12_ticks 105 = .ok (.aload_n 0, 1) := of_decide_eq_true (List.all_eq_true.mp dsX12_ticks_1_ok (105, (.aload_n 0, 1)) (List.mem_of_getElem? (i := 1) rfl))
theorem dX12_ticks_106 : decode cX12_ticks 106 = .ok (.iload_n 1, 1) := of_decide_eq_true (List.all_eq_true.mp dsX12_ticks_1_ok (106, (.iload_n 1, 1)) (List.mem_of_getElem? (i := 2) rfl))
theorem dX12_ticks_107 : decode cX12_ticks 107 = .ok (.iload 4, 2) := of_decide_eq_true (List.all_eq_true.mp dsX12_ticks_1_ok (107, (.iload 4, 2)) (List.mem_of_getElem? (i := 3) rfl))
theorem dX12_ticks_109 : decode cX12_ticks 109 = .ok (.invokevirtual 447, 3) := of_decide_eq_true (List.all_eq_true.mp dsX12_ticks_1_ok (109, (.invokevirtual 447, 3)) (List.mem_of_getElem? (i := 4) rfl))
theorem dX12_ticks_112 : decode cX12_ticks 112 = .ok (.aload_n 0, 1) := of_decide_eq_true (List.all_eq_true.mp dsX12_ticks_1_ok (112, (.aload_n 0, 1)) (List.mem_of_getElem? (i := 5) rfl))
theorem dX12_ticks_113 : decode cX12_ticks 113 = .ok (.getfield 150, 3) := of_decide_eq_true (List.all_eq_true.mp dsX12_ticks_1_ok (113, (.getfield 150, 3)) (List.mem_of_getElem? (i := 6) rfl))
theorem dX12_ticks_116 : decode cX12_ticks 116 = .ok (.iload_n 1, 1) := of_decide_eq_true (List.all_eq_true.mp dsX12_ticks_1_ok (116, (.iload_n 1, 1)) (List.mem_of_getElem? (i := 7) rfl))
theorem dX12_ticks_117 : decode cX12_ticks 117 = .ok (.dup2, 1) := of_decide_eq_true (List.all_eq_true.mp dsX12_ticks_1_ok (117, (.dup2, 1)) (List.mem_of_getElem? (i := 8) rfl))
theorem dX12_ticks_118 : decode cX12_ticks 118 = .ok (.iaload, 1) := of_decide_eq_true (List.all_eq_true.mp dsX12_ticks_1_ok (118, (.iaload, 1)) (List.mem_of_getElem? (i := 9) rfl))
theorem dX12_ticks_119 : decode cX12_ticks 119 = .ok (.iconst 1, 1) := of_decide_eq_true (List.all_eq_true.mp dsX12_ticks_1_ok (119, (.iconst 1, 1)) (List.mem_of_getElem? (i := 10) rfl))
theorem dX12_ticks_120 : decode cX12_ticks 120 = .ok (.iadd, 1) := of_decide_eq_true (List.all_eq_true.mp dsX12_ticks_1_ok (120, (.iadd, 1)) (List.mem_of_getElem? (i := 11) rfl))
theorem dX12_ticks_121 : decode cX12_ticks 121 = .ok (.iastore, 1) := of_decide_eq_true (List.all_eq_true.mp dsX12_ticks_1_ok (121, (.iastore, 1)) (List.mem_of_getElem? (i := 12) rfl))
theorem dX12_ticks_122 : decode cX12_ticks 122 = .ok (.iload 4, 2) := of_decide_eq_true (List.all_eq_true.mp dsX12_ticks_1_ok (122, (.iload 4, 2)) (List.mem_of_getElem? (i := 13) rfl))
theorem dX12_ticks_124 : decode cX12_ticks 124 = .ok (.ireturn, 1) := of_decide_eq_true (List.all_eq_true.mp dsX12_ticks_1_ok (124, (.ireturn, 1)) (List.mem_of_getElem? (i := 14) rfl))
def fX12_ticks_b112 (N : Nat) (mmI : Nat → Int32) (mm_sumFromF : Nat → Int32) (mm_sumBehindF : Nat → Int32) (mm_codeSortF : Nat → Int32) (mm_codeValueF : Nat → Int32) (mm_milesToldF : Nat → Int32) (mm_placesF : Nat → Int32) (mm_placeAtF : Nat → Int32) (mm_talkOfF : Nat → Int32) (mm_earsF : Nat → Int32) (mm_sharpOfF : Nat → Int32) (mm_rowOfF : Nat → Int32)   : ((Nat → Int32) × (Nat → Int32) × (Nat → Int32) × (Nat → Int32) × (Nat → Int32) × (Nat → Int64) × (Nat → Int32) × (Nat → Int32) × (Nat → Int32) × Int32 × Int32) → Option (Int32 × (Nat → Int32) × (Nat → Int32) × (Nat → Int32) × (Nat → Int32) × (Nat → Int32) × (Nat → Int64) × (Nat → Int32) × (Nat → Int32) × (Nat → Int32)) :=
  fun (mm_talkingOfF_112, mm_nightOfF_112, mm_askedF_112, mm_mileOfF_112, mm_roundsOfF_112, mm_stackL_112, mm_heardFromF_112, mm_keptManyF_112, mm_keptRowF_112, x1_112, x4_112) => (xq_bd (xq_ald 22 mm_nightOfF_112 x1_112) fun v_1 => (xq_bd (xq_ast 22 mm_nightOfF_112 x1_112 (v_1 + 1)) fun g_2 => some ((x4_112, mm_talkingOfF_112, g_2, mm_askedF_112, mm_mileOfF_112, mm_roundsOfF_112, mm_stackL_112, mm_heardFromF_112, mm_keptManyF_112, mm_keptRowF_112))))
def fX12_ticks_b100 (N : Nat) (mmI : Nat → Int32) (mm_sumFromF : Nat → Int32) (mm_sumBehindF : Nat → Int32) (mm_codeSortF : Nat → Int32) (mm_codeValueF : Nat → Int32) (mm_milesToldF : Nat → Int32) (mm_placesF : Nat → Int32) (mm_placeAtF : Nat → Int32) (mm_talkOfF : Nat → Int32) (mm_earsF : Nat → Int32) (mm_sharpOfF : Nat → Int32) (mm_rowOfF : Nat → Int32)   : ((Nat → Int32) × (Nat → Int32) × (Nat → Int32) × (Nat → Int32) × (Nat → Int32) × (Nat → Int64) × (Nat → Int32) × (Nat → Int32) × (Nat → Int32) × Int32 × Int32) → Option (Int32 × (Nat → Int32) × (Nat → Int32) × (Nat → Int32) × (Nat → Int32) × (Nat → Int32) × (Nat → Int64) × (Nat → Int32) × (Nat → Int32) × (Nat → Int32)) :=
  fun (mm_talkingOfF_100, mm_nightOfF_100, mm_askedF_100, mm_mileOfF_100, mm_roundsOfF_100, mm_stackL_100, mm_heardFromF_100, mm_keptManyF_100, mm_keptRowF_100, x1_100, x4_100) => (if x4_100 = 0 then fX12_ticks_b112 N mmI mm_sumFromF mm_sumBehindF mm_codeSortF mm_codeValueF mm_milesToldF mm_placesF mm_placeAtF mm_talkOfF mm_earsF mm_sharpOfF mm_rowOfF (mm_talkingOfF_100, mm_nightOfF_100, mm_askedF_100, mm_mileOfF_100, mm_roundsOfF_100, mm_stackL_100, mm_heardFromF_100, mm_keptManyF_100, mm_keptRowF_100, x1_100, x4_100) else (xq_bd (fX12_writesDown N mm_keptManyF_100 mm_keptRowF_100 mm_nightOfF_100 mm_mileOfF_100 x1_100 x4_100) fun (r_3_0, r_3_1) => fX12_ticks_b112 N mmI mm_sumFromF mm_sumBehindF mm_codeSortF mm_codeValueF mm_milesToldF mm_placesF mm_placeAtF mm_talkOfF mm_earsF mm_sharpOfF mm_rowOfF (mm_talkingOfF_100, mm_nightOfF_100, mm_askedF_100, mm_mileOfF_100, mm_roundsOfF_100, mm_stackL_100, mm_heardFromF_100, r_3_0, r_3_1, x1_100, x4_100)))
def fX12_ticks_b81 (N : Nat) (mmI : Nat → Int32) (mm_sumFromF : Nat → Int32) (mm_sumBehindF : Nat → Int32) (mm_codeSortF : Nat → Int32) (mm_codeValueF : Nat → Int32) (mm_milesToldF : Nat → Int32) (mm_placesF : Nat → Int32) (mm_placeAtF : Nat → Int32) (mm_talkOfF : Nat → Int32) (mm_earsF : Nat → Int32) (mm_sharpOfF : Nat → Int32) (mm_rowOfF : Nat → Int32)  (k34 : ((Nat → Int32) × (Nat → Int32) × (Nat → Int32) × (Nat → Int32) × (Nat → Int32) × (Nat → Int64) × (Nat → Int32) × (Nat → Int32) × (Nat → Int32) × Int32 × Int32 × Int32 × Int32 × Int32) → Option (Int32 × (Nat → Int32) × (Nat → Int32) × (Nat → Int32) × (Nat → Int32) × (Nat → Int32) × (Nat → Int64) × (Nat → Int32) × (Nat → Int32) × (Nat → Int32))) : ((Nat → Int32) × (Nat → Int32) × (Nat → Int32) × (Nat → Int32) × (Nat → Int32) × (Nat → Int64) × (Nat → Int32) × (Nat → Int32) × (Nat → Int32) × Int32 × Int32 × Int32 × Int32 × Int32 × Int32) → Option (Int32 × (Nat → Int32) × (Nat → Int32) × (Nat → Int32) × (Nat → Int32) × (Nat → Int32) × (Nat → Int64) × (Nat → Int32) × (Nat → Int32) × (Nat → Int32)) :=
  fun (mm_talkingOfF_81, mm_nightOfF_81, mm_askedF_81, mm_mileOfF_81, mm_roundsOfF_81, mm_stackL_81, mm_heardFromF_81, mm_keptManyF_81, mm_keptRowF_81, x1_81, x2_81, x3_81, x5_81, y0_81, y1_81) => k34 (mm_talkingOfF_81, mm_nightOfF_81, mm_askedF_81, mm_mileOfF_81, mm_roundsOfF_81, mm_stackL_81, mm_heardFromF_81, mm_keptManyF_81, mm_keptRowF_81, x1_81, x2_81, x3_81, y0_81 ||| y1_81, x5_81 + 1)
def fX12_ticks_l34 (N : Nat) (mmI : Nat → Int32) (mm_sumFromF : Nat → Int32) (mm_sumBehindF : Nat → Int32) (mm_codeSortF : Nat → Int32) (mm_codeValueF : Nat → Int32) (mm_milesToldF : Nat → Int32) (mm_placesF : Nat → Int32) (mm_placeAtF : Nat → Int32) (mm_talkOfF : Nat → Int32) (mm_earsF : Nat → Int32) (mm_sharpOfF : Nat → Int32) (mm_rowOfF : Nat → Int32)  (k34 : ((Nat → Int32) × (Nat → Int32) × (Nat → Int32) × (Nat → Int32) × (Nat → Int32) × (Nat → Int64) × (Nat → Int32) × (Nat → Int32) × (Nat → Int32) × Int32 × Int32 × Int32 × Int32 × Int32) → Option (Int32 × (Nat → Int32) × (Nat → Int32) × (Nat → Int32) × (Nat → Int32) × (Nat → Int32) × (Nat → Int64) × (Nat → Int32) × (Nat → Int32) × (Nat → Int32))) : ((Nat → Int32) × (Nat → Int32) × (Nat → Int32) × (Nat → Int32) × (Nat → Int32) × (Nat → Int64) × (Nat → Int32) × (Nat → Int32) × (Nat → Int32) × Int32 × Int32 × Int32 × Int32 × Int32) → Option (Int32 × (Nat → Int32) × (Nat → Int32) × (Nat → Int32) × (Nat → Int32) × (Nat → Int32) × (Nat → Int64) × (Nat → Int32) × (Nat → Int32) × (Nat → Int32)) :=
  fun (mm_talkingOfF_34, mm_nightOfF_34, mm_askedF_34, mm_mileOfF_34, mm_roundsOfF_34, mm_stackL_34, mm_heardFromF_34, mm_keptManyF_34, mm_keptRowF_34, x1_34, x2_34, x3_34, x4_34, x5_34) => (xq_bd (xq_ald 2 mm_earsF (mmI 13)) fun v_5 => (if v_5 ≤ x5_34 then (if x3_34 = 0 then fX12_ticks_b100 N mmI mm_sumFromF mm_sumBehindF mm_codeSortF mm_codeValueF mm_milesToldF mm_placesF mm_placeAtF mm_talkOfF mm_earsF mm_sharpOfF mm_rowOfF (mm_talkingOfF_34, mm_nightOfF_34, mm_askedF_34, mm_mileOfF_34, mm_roundsOfF_34, mm_stackL_34, mm_heardFromF_34, mm_keptManyF_34, mm_keptRowF_34, x1_34, x4_34) else (xq_bd (fX12_counts N mmI mm_earsF mm_heardFromF_34 mm_sumFromF mm_nightOfF_34 mm_askedF_34 mm_sharpOfF mm_mileOfF_34 mm_milesToldF mm_sumBehindF mm_stackL_34 mm_codeSortF mm_codeValueF x1_34 x2_34) fun (r_6_0, r_6_1, r_6_2) => fX12_ticks_b100 N mmI mm_sumFromF mm_sumBehindF mm_codeSortF mm_codeValueF mm_milesToldF mm_placesF mm_placeAtF mm_talkOfF mm_earsF mm_sharpOfF mm_rowOfF (mm_talkingOfF_34, mm_nightOfF_34, r_6_1, mm_mileOfF_34, mm_roundsOfF_34, r_6_2, r_6_0, mm_keptManyF_34, mm_keptRowF_34, x1_34, x4_34))) else (xq_bd (xq_ald 154 mm_rowOfF ((7 * x1_34) + x5_34)) fun v_8 => (xq_bd (fX12_isHeardIn N mmI mm_sumFromF mm_nightOfF_34 mm_askedF_34 mm_sharpOfF mm_mileOfF_34 mm_milesToldF mm_sumBehindF mm_stackL_34 mm_codeSortF mm_codeValueF x1_34 x5_34 v_8 x2_34) fun (r_9_0, r_9_1, r_9_2) => (if r_9_0 = 0 then fX12_ticks_b81 N mmI mm_sumFromF mm_sumBehindF mm_codeSortF mm_codeValueF mm_milesToldF mm_placesF mm_placeAtF mm_talkOfF mm_earsF mm_sharpOfF mm_rowOfF k34 (mm_talkingOfF_34, mm_nightOfF_34, r_9_1, mm_mileOfF_34, mm_roundsOfF_34, r_9_2, mm_heardFromF_34, mm_keptManyF_34, mm_keptRowF_34, x1_34, x2_34, x3_34, x5_34, x4_34, 0) else fX12_ticks_b81 N mmI mm_sumFromF mm_sumBehindF mm_codeSortF mm_codeValueF mm_milesToldF mm_placesF mm_placeAtF mm_talkOfF mm_earsF mm_sharpOfF mm_rowOfF k34 (mm_talkingOfF_34, mm_nightOfF_34, r_9_1, mm_mileOfF_34, mm_roundsOfF_34, r_9_2, mm_heardFromF_34, mm_keptManyF_34, mm_keptRowF_34, x1_34, x2_34, x3_34, x5_34, x4_34, 1 <<< (x5_34 &&& 31)))))))
def fX12_ticks_b28 (N : Nat) (mmI : Nat → Int32) (mm_sumFromF : Nat → Int32) (mm_sumBehindF : Nat → Int32) (mm_codeSortF : Nat → Int32) (mm_codeValueF : Nat → Int32) (mm_milesToldF : Nat → Int32) (mm_placesF : Nat → Int32) (mm_placeAtF : Nat → Int32) (mm_talkOfF : Nat → Int32) (mm_earsF : Nat → Int32) (mm_sharpOfF : Nat → Int32) (mm_rowOfF : Nat → Int32)   : ((Nat → Int32) × (Nat → Int32) × (Nat → Int32) × (Nat → Int32) × (Nat → Int32) × (Nat → Int64) × (Nat → Int32) × (Nat → Int32) × (Nat → Int32) × Int32 × Int32 × Int32) → Option (Int32 × (Nat → Int32) × (Nat → Int32) × (Nat → Int32) × (Nat → Int32) × (Nat → Int32) × (Nat → Int64) × (Nat → Int32) × (Nat → Int32) × (Nat → Int32)) :=
  fun (mm_talkingOfF_28, mm_nightOfF_28, mm_askedF_28, mm_mileOfF_28, mm_roundsOfF_28, mm_stackL_28, mm_heardFromF_28, mm_keptManyF_28, mm_keptRowF_28, x1_28, x2_28, x3_28) => xq_loop (fX12_ticks_l34 N mmI mm_sumFromF mm_sumBehindF mm_codeSortF mm_codeValueF mm_milesToldF mm_placesF mm_placeAtF mm_talkOfF mm_earsF mm_sharpOfF mm_rowOfF) N (mm_talkingOfF_28, mm_nightOfF_28, mm_askedF_28, mm_mileOfF_28, mm_roundsOfF_28, mm_stackL_28, mm_heardFromF_28, mm_keptManyF_28, mm_keptRowF_28, x1_28, x2_28, x3_28, 0, 0)
def fX12_ticks (N : Nat) (mmI : Nat → Int32) (mm_talkingOfF : Nat → Int32) (mm_sumFromF : Nat → Int32) (mm_nightOfF : Nat → Int32) (mm_askedF : Nat → Int32) (mm_mileOfF : Nat → Int32) (mm_roundsOfF : Nat → Int32) (mm_sumBehindF : Nat → Int32) (mm_stackL : Nat → Int64) (mm_codeSortF : Nat → Int32) (mm_codeValueF : Nat → Int32) (mm_milesToldF : Nat → Int32) (mm_placesF : Nat → Int32) (mm_placeAtF : Nat → Int32) (mm_talkOfF : Nat → Int32) (mm_earsF : Nat → Int32) (mm_heardFromF : Nat → Int32) (mm_sharpOfF : Nat → Int32) (mm_rowOfF : Nat → Int32) (mm_keptManyF : Nat → Int32) (mm_keptRowF : Nat → Int32)  (p1 : Int32) (p2 : Int32) (p3 : Int32) : Option (Int32 × (Nat → Int32) × (Nat → Int32) × (Nat → Int32) × (Nat → Int32) × (Nat → Int32) × (Nat → Int64) × (Nat → Int32) × (Nat → Int32) × (Nat → Int32)) :=
  (xq_bd (xq_ald 22 mm_talkingOfF p1) fun v_1 => (if v_1 ≤ 0 then (xq_bd (fX12_walks N mmI mm_sumFromF mm_nightOfF mm_askedF mm_mileOfF mm_roundsOfF mm_sumBehindF mm_stackL mm_codeSortF mm_codeValueF mm_milesToldF mm_placesF mm_placeAtF mm_talkOfF mm_talkingOfF p1 p2) fun (r_2_0, r_2_1, r_2_2, r_2_3, r_2_4) => fX12_ticks_b28 N mmI mm_sumFromF mm_sumBehindF mm_codeSortF mm_codeValueF mm_milesToldF mm_placesF mm_placeAtF mm_talkOfF mm_earsF mm_sharpOfF mm_rowOfF (r_2_4, mm_nightOfF, r_2_0, r_2_1, r_2_2, r_2_3, mm_heardFromF, mm_keptManyF, mm_keptRowF, p1, p2, p3)) else (xq_bd (xq_ald 22 mm_talkingOfF p1) fun v_4 => (xq_bd (xq_ast 22 mm_talkingOfF p1 (v_4 - 1)) fun g_5 => fX12_ticks_b28 N mmI mm_sumFromF mm_sumBehindF mm_codeSortF mm_codeValueF mm_milesToldF mm_placesF mm_placeAtF mm_talkOfF mm_earsF mm_sharpOfF mm_rowOfF (g_5, mm_nightOfF, mm_askedF, mm_mileOfF, mm_roundsOfF, mm_stackL, mm_heardFromF, mm_keptManyF, mm_keptRowF, p1, p2, p3)))))
set_option maxHeartbeats 4000000 in
set_option maxRecDepth 100000 in
theorem kX12_ticks (l : Launch) (dC : Nat → ClassId) (dI : Nat → Nat → Nat) (cI cB cJ cZ cM : ClassId) (z : Nat) (ad : Nat → Nat) (N : Nat) (a_p0 : Nat) (mmI : Nat → Int32) (mmJ : Nat → Int64) (mmR : Nat → Nat) (mm_talkingOfF : Nat → Int32) (mm_sumFromF : Nat → Int32) (mm_nightOfF : Nat → Int32) (mm_askedF : Nat → Int32) (mm_mileOfF : Nat → Int32) (mm_roundsOfF : Nat → Int32) (mm_sumBehindF : Nat → Int32) (mm_stackL : Nat → Int64) (mm_codeSortF : Nat → Int32) (mm_codeValueF : Nat → Int32) (mm_milesToldF : Nat → Int32) (mm_placesF : Nat → Int32) (mm_placeAtF : Nat → Int32) (mm_talkOfF : Nat → Int32) (mm_earsF : Nat → Int32) (mm_heardFromF : Nat → Int32) (mm_sharpOfF : Nat → Int32) (mm_rowOfF : Nat → Int32) (mm_keptManyF : Nat → Int32) (mm_keptRowF : Nat → Int32) (p1 : Int32) (p2 : Int32) (p3 : Int32) {r0 : Int32} {r1 : Nat → Int32} {r2 : Nat → Int32} {r3 : Nat → Int32} {r4 : Nat → Int32} {r5 : Nat → Int32} {r6 : Nat → Int64} {r7 : Nat → Int32} {r8 : Nat → Int32} {r9 : Nat → Int32} (hf : fX12_ticks N mmI mm_talkingOfF mm_sumFromF mm_nightOfF mm_askedF mm_mileOfF mm_roundsOfF mm_sumBehindF mm_stackL mm_codeSortF mm_codeValueF mm_milesToldF mm_placesF mm_placeAtF mm_talkOfF mm_earsF mm_heardFromF mm_sharpOfF mm_rowOfF mm_keptManyF mm_keptRowF p1 p2 p3 = some (r0, r1, r2, r3, r4, r5, r6, r7, r8, r9)) : xq_Ct l yX12_ticks wsX12_ticks { frames := 5, cells := 0, slots := 0, locals := 121 } (dC, dI) vwCl (xq_tys cI cB cJ cZ cM) z ad [.ref a_p0, .int p1, .int p2, .int p3] [(a_p0, .inr (12, oX12 mmI mmJ mmR)), ((mmR 48), .inl (cI, 22, .inl mm_talkingOfF)), ((mmR 24), .inl (cI, 6, .inl mm_sumFromF)), ((mmR 45), .inl (cI, 22, .inl mm_nightOfF)), ((mmR 58), .inl (cI, 12, .inl mm_askedF)), ((mmR 46), .inl (cI, 22, .inl mm_mileOfF)), ((mmR 47), .inl (cI, 22, .inl mm_roundsOfF)), ((mmR 25), .inl (cI, 6, .inl mm_sumBehindF)), ((mmR 57), .inl (cJ, 500, .inr (.inl mm_stackL))), ((mmR 26), .inl (cI, 3200, .inl mm_codeSortF)), ((mmR 27), .inl (cI, 3200, .inl mm_codeValueF)), ((mmR 14), .inl (cI, 2, .inl mm_milesToldF)), ((mmR 21), .inl (cI, 2, .inl mm_placesF)), ((mmR 22), .inl (cI, 12, .inl mm_placeAtF)), ((mmR 51), .inl (cI, 132, .inl mm_talkOfF)), ((mmR 18), .inl (cI, 2, .inl mm_earsF)), ((mmR 59), .inl (cI, 70, .inl mm_heardFromF)), ((mmR 20), .inl (cI, 14, .inl mm_sharpOfF)), ((mmR 50), .inl (cI, 154, .inl mm_rowOfF)), ((mmR 52), .inl (cI, 22, .inl mm_keptManyF)), ((mmR 53), .inl (cI, 2640, .inl mm_keptRowF))] [(a_p0, .inr (12, oX12 mmI mmJ mmR)), ((mmR 48), .inl (cI, 22, .inl r1)), ((mmR 24), .inl (cI, 6, .inl mm_sumFromF)), ((mmR 45), .inl (cI, 22, .inl r2)), ((mmR 58), .inl (cI, 12, .inl r3)), ((mmR 46), .inl (cI, 22, .inl r4)), ((mmR 47), .inl (cI, 22, .inl r5)), ((mmR 25), .inl (cI, 6, .inl mm_sumBehindF)), ((mmR 57), .inl (cJ, 500, .inr (.inl r6))), ((mmR 26), .inl (cI, 3200, .inl mm_codeSortF)), ((mmR 27), .inl (cI, 3200, .inl mm_codeValueF)), ((mmR 14), .inl (cI, 2, .inl mm_milesToldF)), ((mmR 21), .inl (cI, 2, .inl mm_placesF)), ((mmR 22), .inl (cI, 12, .inl mm_placeAtF)), ((mmR 51), .inl (cI, 132, .inl mm_talkOfF)), ((mmR 18), .inl (cI, 2, .inl mm_earsF)), ((mmR 59), .inl (cI, 70, .inl r7)), ((mmR 20), .inl (cI, 14, .inl mm_sharpOfF)), ((mmR 50), .inl (cI, 154, .inl mm_rowOfF)), ((mmR 52), .inl (cI, 22, .inl r8)), ((mmR 53), .inl (cI, 2640, .inl r9))] (some (.int r0)) := by
  intro sz
  refine Met.ofW (cc := cX12_ticks) (maxL := 6) (ret := (some .int)) (by decide) rfl ?_
  intro p e s m args below meth c s₁ B hml hv
  obtain ⟨rfl, hsz, hP, hK, hD0, hE, hz⟩ := hv
  have hx := B.exec
  have hb := B.bytes
  have hr := B.returns
  have hts := atoms_spec (ws := wsX12_ticks) B.pre
  have hown : s.vm.findClass RX12 = some m.cls := findClass_of_methodNamed B.named
  have hlocks := B.notSynchronized
  subst hsz
  have hD := hD0.self (sz := s.heap.size)
  have hN := xq_Env.of hE hz hD0
  generalize hAe : va_A [(a_p0, .inr (12, oX12 mmI mmJ mmR)), ((mmR 48), .inl (cI, 22, .inl mm_talkingOfF)), ((mmR 24), .inl (cI, 6, .inl mm_sumFromF)), ((mmR 45), .inl (cI, 22, .inl mm_nightOfF)), ((mmR 58), .inl (cI, 12, .inl mm_askedF)), ((mmR 46), .inl (cI, 22, .inl mm_mileOfF)), ((mmR 47), .inl (cI, 22, .inl mm_roundsOfF)), ((mmR 25), .inl (cI, 6, .inl mm_sumBehindF)), ((mmR 57), .inl (cJ, 500, .inr (.inl mm_stackL))), ((mmR 26), .inl (cI, 3200, .inl mm_codeSortF)), ((mmR 27), .inl (cI, 3200, .inl mm_codeValueF)), ((mmR 14), .inl (cI, 2, .inl mm_milesToldF)), ((mmR 21), .inl (cI, 2, .inl mm_placesF)), ((mmR 22), .inl (cI, 12, .inl mm_placeAtF)), ((mmR 51), .inl (cI, 132, .inl mm_talkOfF)), ((mmR 18), .inl (cI, 2, .inl mm_earsF)), ((mmR 59), .inl (cI, 70, .inl mm_heardFromF)), ((mmR 20), .inl (cI, 14, .inl mm_sharpOfF)), ((mmR 50), .inl (cI, 154, .inl mm_rowOfF)), ((mmR 52), .inl (cI, 22, .inl mm_keptManyF)), ((mmR 53), .inl (cI, 2640, .inl mm_keptRowF))] s.heap.size = A at hD hN ⊢
  have hA : ∀ q : Nat, s.heap.size ≤ q → A q := fun q h => by rw [← hAe]; exact Or.inr h
  clear hAe hD0
  have hS : va_S A s.heap s.heap [] := va_S.rf
  have hl := lv_entry ([.ref a_p0, .int p1, .int p2, .int p3]) (n := 6) (Nat.le_of_ble_eq_true rfl)
  rw [lg_entry_eq]
  generalize (lg_sl ([.ref a_p0, .int p1, .int p2, .int p3]) ++ List.replicate (6 - (lg_sl ([.ref a_p0, .int p1, .int p2, .int p3])).length) Slot.unset).toArray = ls at hl ⊢
  have hl : lv_has ls 6 [(0, .ref a_p0), (1, .int p1), (2, .int p2), (3, .int p3)] := hl
  have hw0 := hts (.fieldLink RX12 159 "DistantVoiceModel" "talkingOf" "[I") (by decide +kernel)
  have hinX12 : ∀ w ∈ wsX120, w ∈ wsX12_ticks := fun w h => List.mem_cons_of_mem _ (List.mem_append_right _ h)
  have hw2 := hts (.fieldLink RX12 66 "DistantVoiceModel" "ears" "[I") (by decide +kernel)
  have hw3 := hts (.fieldLink RX12 51 "DistantVoiceModel" "bank" "I") (by decide +kernel)
  have hw4 := hts (.fieldLink RX12 165 "DistantVoiceModel" "rowOf" "[I") (by decide +kernel)
  have hw5 := hts (.fieldLink RX12 150 "DistantVoiceModel" "nightOf" "[I") (by decide +kernel)
  have b112 : ∀ (mm_talkingOfF_112 : Nat → Int32) (mm_nightOfF_112 : Nat → Int32) (mm_askedF_112 : Nat → Int32) (mm_mileOfF_112 : Nat → Int32) (mm_roundsOfF_112 : Nat → Int32) (mm_stackL_112 : Nat → Int64) (mm_heardFromF_112 : Nat → Int32) (mm_keptManyF_112 : Nat → Int32) (mm_keptRowF_112 : Nat → Int32) (x1_112 : Int32) (x4_112 : Int32) (ls : Array Slot) (H : Heap) (locs : List Loc), fX12_ticks_b112 N mmI mm_sumFromF mm_sumBehindF mm_codeSortF mm_codeValueF mm_milesToldF mm_placesF mm_placeAtF mm_talkOfF mm_earsF mm_sharpOfF mm_rowOfF (mm_talkingOfF_112, mm_nightOfF_112, mm_askedF_112, mm_mileOfF_112, mm_roundsOfF_112, mm_stackL_112, mm_heardFromF_112, mm_keptManyF_112, mm_keptRowF_112, x1_112, x4_112) = some (r0, r1, r2, r3, r4, r5, r6, r7, r8, r9) → va_P (dC, dI) vwCl [(a_p0, .inr (12, oX12 mmI mmJ mmR)), ((mmR 48), .inl (cI, 22, .inl mm_talkingOfF_112)), ((mmR 24), .inl (cI, 6, .inl mm_sumFromF)), ((mmR 45), .inl (cI, 22, .inl mm_nightOfF_112)), ((mmR 58), .inl (cI, 12, .inl mm_askedF_112)), ((mmR 46), .inl (cI, 22, .inl mm_mileOfF_112)), ((mmR 47), .inl (cI, 22, .inl mm_roundsOfF_112)), ((mmR 25), .inl (cI, 6, .inl mm_sumBehindF)), ((mmR 57), .inl (cJ, 500, .inr (.inl mm_stackL_112))), ((mmR 26), .inl (cI, 3200, .inl mm_codeSortF)), ((mmR 27), .inl (cI, 3200, .inl mm_codeValueF)), ((mmR 14), .inl (cI, 2, .inl mm_milesToldF)), ((mmR 21), .inl (cI, 2, .inl mm_placesF)), ((mmR 22), .inl (cI, 12, .inl mm_placeAtF)), ((mmR 51), .inl (cI, 132, .inl mm_talkOfF)), ((mmR 18), .inl (cI, 2, .inl mm_earsF)), ((mmR 59), .inl (cI, 70, .inl mm_heardFromF_112)), ((mmR 20), .inl (cI, 14, .inl mm_sharpOfF)), ((mmR 50), .inl (cI, 154, .inl mm_rowOfF)), ((mmR 52), .inl (cI, 22, .inl mm_keptManyF_112)), ((mmR 53), .inl (cI, 2640, .inl mm_keptRowF_112))] H → va_D A [(a_p0, .inr (12, oX12 mmI mmJ mmR)), ((mmR 48), .inl (cI, 22, .inl mm_talkingOfF_112)), ((mmR 24), .inl (cI, 6, .inl mm_sumFromF)), ((mmR 45), .inl (cI, 22, .inl mm_nightOfF_112)), ((mmR 58), .inl (cI, 12, .inl mm_askedF_112)), ((mmR 46), .inl (cI, 22, .inl mm_mileOfF_112)), ((mmR 47), .inl (cI, 22, .inl mm_roundsOfF_112)), ((mmR 25), .inl (cI, 6, .inl mm_sumBehindF)), ((mmR 57), .inl (cJ, 500, .inr (.inl mm_stackL_112))), ((mmR 26), .inl (cI, 3200, .inl mm_codeSortF)), ((mmR 27), .inl (cI, 3200, .inl mm_codeValueF)), ((mmR 14), .inl (cI, 2, .inl mm_milesToldF)), ((mmR 21), .inl (cI, 2, .inl mm_placesF)), ((mmR 22), .inl (cI, 12, .inl mm_placeAtF)), ((mmR 51), .inl (cI, 132, .inl mm_talkOfF)), ((mmR 18), .inl (cI, 2, .inl mm_earsF)), ((mmR 59), .inl (cI, 70, .inl mm_heardFromF_112)), ((mmR 20), .inl (cI, 14, .inl mm_sharpOfF)), ((mmR 50), .inl (cI, 154, .inl mm_rowOfF)), ((mmR 52), .inl (cI, 22, .inl mm_keptManyF_112)), ((mmR 53), .inl (cI, 2640, .inl mm_keptRowF_112))] → va_S A s.heap H locs → lv_has ls 6 [(0, .ref a_p0), (1, .int x1_112), (4, .int x4_112)] → W p l e (headSpec wsX12_ticks { frames := 5, cells := 0, slots := 0, locals := 121 }).room s m [.ref a_p0, .int p1, .int p2, .int p3].toArray below meth c H locs 0 0 (MQ below (xq_Q (dC, dI) vwCl (xq_tys cI cB cJ cZ cM) A [(a_p0, .inr (12, oX12 mmI mmJ mmR)), ((mmR 48), .inl (cI, 22, .inl r1)), ((mmR 24), .inl (cI, 6, .inl mm_sumFromF)), ((mmR 45), .inl (cI, 22, .inl r2)), ((mmR 58), .inl (cI, 12, .inl r3)), ((mmR 46), .inl (cI, 22, .inl r4)), ((mmR 47), .inl (cI, 22, .inl r5)), ((mmR 25), .inl (cI, 6, .inl mm_sumBehindF)), ((mmR 57), .inl (cJ, 500, .inr (.inl r6))), ((mmR 26), .inl (cI, 3200, .inl mm_codeSortF)), ((mmR 27), .inl (cI, 3200, .inl mm_codeValueF)), ((mmR 14), .inl (cI, 2, .inl mm_milesToldF)), ((mmR 21), .inl (cI, 2, .inl mm_placesF)), ((mmR 22), .inl (cI, 12, .inl mm_placeAtF)), ((mmR 51), .inl (cI, 132, .inl mm_talkOfF)), ((mmR 18), .inl (cI, 2, .inl mm_earsF)), ((mmR 59), .inl (cI, 70, .inl r7)), ((mmR 20), .inl (cI, 14, .inl mm_sharpOfF)), ((mmR 50), .inl (cI, 154, .inl mm_rowOfF)), ((mmR 52), .inl (cI, 22, .inl r8)), ((mmR 53), .inl (cI, 2640, .inl r9))] (some (.int r0))) [.ref a_p0, .int p1, .int p2, .int p3].toArray s 0 0 A) (F0 m 112 ls []) := by
    intro mm_talkingOfF_112 mm_nightOfF_112 mm_askedF_112 mm_mileOfF_112 mm_roundsOfF_112 mm_stackL_112 mm_heardFromF_112 mm_keptManyF_112 mm_keptRowF_112 x1_112 x4_112 ls H locs hf hP hD hS hl
    unfold fX12_ticks_b112 at hf
    refine lv_aload_n hx hb dX12_ticks_112 rfl (lv_at hl 0 rfl) ?_
    refine va_get (D := (dC, dI)) (ci := 12) (v := .ref ((mmR 45))) (C := RX12) (T := TX12) (N := 70) hx hb hts hinX12 hown hK hP 0 rfl rfl 45 (by decide) hw5 (fun _ h9 => h9) rfl dX12_ticks_113 ?_
    refine lv_iload_n hx hb dX12_ticks_116 rfl (lv_at hl 1 rfl) ?_
    refine lv_dup2_11 hx hb dX12_ticks_117 rfl rfl ?_
    refine xq_iald hx hb hK hP 3 0 rfl rfl hf dX12_ticks_118 (fun v_1 hf => ?_)
    refine lv_iconst (v := 1) hx hb dX12_ticks_119 (by decide) ?_
    refine lv_iadd hx hb dX12_ticks_120 ?_
    refine xq_iast hx hb hK hP hD hS 3 0 rfl rfl hf dX12_ticks_121 (fun g_2 H locs hf hP hD hS => ?_)
    have hP : va_P (dC, dI) vwCl [(a_p0, .inr (12, oX12 mmI mmJ mmR)), ((mmR 48), .inl (cI, 22, .inl mm_talkingOfF_112)), ((mmR 24), .inl (cI, 6, .inl mm_sumFromF)), ((mmR 45), .inl (cI, 22, .inl g_2)), ((mmR 58), .inl (cI, 12, .inl mm_askedF_112)), ((mmR 46), .inl (cI, 22, .inl mm_mileOfF_112)), ((mmR 47), .inl (cI, 22, .inl mm_roundsOfF_112)), ((mmR 25), .inl (cI, 6, .inl mm_sumBehindF)), ((mmR 57), .inl (cJ, 500, .inr (.inl mm_stackL_112))), ((mmR 26), .inl (cI, 3200, .inl mm_codeSortF)), ((mmR 27), .inl (cI, 3200, .inl mm_codeValueF)), ((mmR 14), .inl (cI, 2, .inl mm_milesToldF)), ((mmR 21), .inl (cI, 2, .inl mm_placesF)), ((mmR 22), .inl (cI, 12, .inl mm_placeAtF)), ((mmR 51), .inl (cI, 132, .inl mm_talkOfF)), ((mmR 18), .inl (cI, 2, .inl mm_earsF)), ((mmR 59), .inl (cI, 70, .inl mm_heardFromF_112)), ((mmR 20), .inl (cI, 14, .inl mm_sharpOfF)), ((mmR 50), .inl (cI, 154, .inl mm_rowOfF)), ((mmR 52), .inl (cI, 22, .inl mm_keptManyF_112)), ((mmR 53), .inl (cI, 2640, .inl mm_keptRowF_112))] H := hP
    have hD : va_D A [(a_p0, .inr (12, oX12 mmI mmJ mmR)), ((mmR 48), .inl (cI, 22, .inl mm_talkingOfF_112)), ((mmR 24), .inl (cI, 6, .inl mm_sumFromF)), ((mmR 45), .inl (cI, 22, .inl g_2)), ((mmR 58), .inl (cI, 12, .inl mm_askedF_112)), ((mmR 46), .inl (cI, 22, .inl mm_mileOfF_112)), ((mmR 47), .inl (cI, 22, .inl mm_roundsOfF_112)), ((mmR 25), .inl (cI, 6, .inl mm_sumBehindF)), ((mmR 57), .inl (cJ, 500, .inr (.inl mm_stackL_112))), ((mmR 26), .inl (cI, 3200, .inl mm_codeSortF)), ((mmR 27), .inl (cI, 3200, .inl mm_codeValueF)), ((mmR 14), .inl (cI, 2, .inl mm_milesToldF)), ((mmR 21), .inl (cI, 2, .inl mm_placesF)), ((mmR 22), .inl (cI, 12, .inl mm_placeAtF)), ((mmR 51), .inl (cI, 132, .inl mm_talkOfF)), ((mmR 18), .inl (cI, 2, .inl mm_earsF)), ((mmR 59), .inl (cI, 70, .inl mm_heardFromF_112)), ((mmR 20), .inl (cI, 14, .inl mm_sharpOfF)), ((mmR 50), .inl (cI, 154, .inl mm_rowOfF)), ((mmR 52), .inl (cI, 22, .inl mm_keptManyF_112)), ((mmR 53), .inl (cI, 2640, .inl mm_keptRowF_112))] := hD
    refine lv_iload hx hb dX12_ticks_122 (lv_at hl 2 rfl) ?_
    have hP9 := hP
    have hD9 := hD
    have hS9 := hS
    cases hf
    exact xq_iret hx hb hr hlocks hK hP9 hD9 hS9 dX12_ticks_124
  have b100 : ∀ (mm_talkingOfF_100 : Nat → Int32) (mm_nightOfF_100 : Nat → Int32) (mm_askedF_100 : Nat → Int32) (mm_mileOfF_100 : Nat → Int32) (mm_roundsOfF_100 : Nat → Int32) (mm_stackL_100 : Nat → Int64) (mm_heardFromF_100 : Nat → Int32) (mm_keptManyF_100 : Nat → Int32) (mm_keptRowF_100 : Nat → Int32) (x1_100 : Int32) (x4_100 : Int32) (ls : Array Slot) (H : Heap) (locs : List Loc), fX12_ticks_b100 N mmI mm_sumFromF mm_sumBehindF mm_codeSortF mm_codeValueF mm_milesToldF mm_placesF mm_placeAtF mm_talkOfF mm_earsF mm_sharpOfF mm_rowOfF (mm_talkingOfF_100, mm_nightOfF_100, mm_askedF_100, mm_mileOfF_100, mm_roundsOfF_100, mm_stackL_100, mm_heardFromF_100, mm_keptManyF_100, mm_keptRowF_100, x1_100, x4_100) = some (r0, r1, r2, r3, r4, r5, r6, r7, r8, r9) → va_P (dC, dI) vwCl [(a_p0, .inr (12, oX12 mmI mmJ mmR)), ((mmR 48), .inl (cI, 22, .inl mm_talkingOfF_100)), ((mmR 24), .inl (cI, 6, .inl mm_sumFromF)), ((mmR 45), .inl (cI, 22, .inl mm_nightOfF_100)), ((mmR 58), .inl (cI, 12, .inl mm_askedF_100)), ((mmR 46), .inl (cI, 22, .inl mm_mileOfF_100)), ((mmR 47), .inl (cI, 22, .inl mm_roundsOfF_100)), ((mmR 25), .inl (cI, 6, .inl mm_sumBehindF)), ((mmR 57), .inl (cJ, 500, .inr (.inl mm_stackL_100))), ((mmR 26), .inl (cI, 3200, .inl mm_codeSortF)), ((mmR 27), .inl (cI, 3200, .inl mm_codeValueF)), ((mmR 14), .inl (cI, 2, .inl mm_milesToldF)), ((mmR 21), .inl (cI, 2, .inl mm_placesF)), ((mmR 22), .inl (cI, 12, .inl mm_placeAtF)), ((mmR 51), .inl (cI, 132, .inl mm_talkOfF)), ((mmR 18), .inl (cI, 2, .inl mm_earsF)), ((mmR 59), .inl (cI, 70, .inl mm_heardFromF_100)), ((mmR 20), .inl (cI, 14, .inl mm_sharpOfF)), ((mmR 50), .inl (cI, 154, .inl mm_rowOfF)), ((mmR 52), .inl (cI, 22, .inl mm_keptManyF_100)), ((mmR 53), .inl (cI, 2640, .inl mm_keptRowF_100))] H → va_D A [(a_p0, .inr (12, oX12 mmI mmJ mmR)), ((mmR 48), .inl (cI, 22, .inl mm_talkingOfF_100)), ((mmR 24), .inl (cI, 6, .inl mm_sumFromF)), ((mmR 45), .inl (cI, 22, .inl mm_nightOfF_100)), ((mmR 58), .inl (cI, 12, .inl mm_askedF_100)), ((mmR 46), .inl (cI, 22, .inl mm_mileOfF_100)), ((mmR 47), .inl (cI, 22, .inl mm_roundsOfF_100)), ((mmR 25), .inl (cI, 6, .inl mm_sumBehindF)), ((mmR 57), .inl (cJ, 500, .inr (.inl mm_stackL_100))), ((mmR 26), .inl (cI, 3200, .inl mm_codeSortF)), ((mmR 27), .inl (cI, 3200, .inl mm_codeValueF)), ((mmR 14), .inl (cI, 2, .inl mm_milesToldF)), ((mmR 21), .inl (cI, 2, .inl mm_placesF)), ((mmR 22), .inl (cI, 12, .inl mm_placeAtF)), ((mmR 51), .inl (cI, 132, .inl mm_talkOfF)), ((mmR 18), .inl (cI, 2, .inl mm_earsF)), ((mmR 59), .inl (cI, 70, .inl mm_heardFromF_100)), ((mmR 20), .inl (cI, 14, .inl mm_sharpOfF)), ((mmR 50), .inl (cI, 154, .inl mm_rowOfF)), ((mmR 52), .inl (cI, 22, .inl mm_keptManyF_100)), ((mmR 53), .inl (cI, 2640, .inl mm_keptRowF_100))] → va_S A s.heap H locs → lv_has ls 6 [(0, .ref a_p0), (1, .int x1_100), (4, .int x4_100)] → W p l e (headSpec wsX12_ticks { frames := 5, cells := 0, slots := 0, locals := 121 }).room s m [.ref a_p0, .int p1, .int p2, .int p3].toArray below meth c H locs 0 0 (MQ below (xq_Q (dC, dI) vwCl (xq_tys cI cB cJ cZ cM) A [(a_p0, .inr (12, oX12 mmI mmJ mmR)), ((mmR 48), .inl (cI, 22, .inl r1)), ((mmR 24), .inl (cI, 6, .inl mm_sumFromF)), ((mmR 45), .inl (cI, 22, .inl r2)), ((mmR 58), .inl (cI, 12, .inl r3)), ((mmR 46), .inl (cI, 22, .inl r4)), ((mmR 47), .inl (cI, 22, .inl r5)), ((mmR 25), .inl (cI, 6, .inl mm_sumBehindF)), ((mmR 57), .inl (cJ, 500, .inr (.inl r6))), ((mmR 26), .inl (cI, 3200, .inl mm_codeSortF)), ((mmR 27), .inl (cI, 3200, .inl mm_codeValueF)), ((mmR 14), .inl (cI, 2, .inl mm_milesToldF)), ((mmR 21), .inl (cI, 2, .inl mm_placesF)), ((mmR 22), .inl (cI, 12, .inl mm_placeAtF)), ((mmR 51), .inl (cI, 132, .inl mm_talkOfF)), ((mmR 18), .inl (cI, 2, .inl mm_earsF)), ((mmR 59), .inl (cI, 70, .inl r7)), ((mmR 20), .inl (cI, 14, .inl mm_sharpOfF)), ((mmR 50), .inl (cI, 154, .inl mm_rowOfF)), ((mmR 52), .inl (cI, 22, .inl r8)), ((mmR 53), .inl (cI, 2640, .inl r9))] (some (.int r0))) [.ref a_p0, .int p1, .int p2, .int p3].toArray s 0 0 A) (F0 m 100 ls []) := by
    intro mm_talkingOfF_100 mm_nightOfF_100 mm_askedF_100 mm_mileOfF_100 mm_roundsOfF_100 mm_stackL_100 mm_heardFromF_100 mm_keptManyF_100 mm_keptRowF_100 x1_100 x4_100 ls H locs hf hP hD hS hl
    unfold fX12_ticks_b100 at hf
    refine lv_iload hx hb dX12_ticks_100 (lv_at hl 2 rfl) ?_
    refine lv_if_eq (tgt := 112) hx hb dX12_ticks_102 (by decide) (fun c_ => ?_) (fun c_ => ?_)
    · have hf := xq_pos hf c_
      exact b112 mm_talkingOfF_100 mm_nightOfF_100 mm_askedF_100 mm_mileOfF_100 mm_roundsOfF_100 mm_stackL_100 mm_heardFromF_100 mm_keptManyF_100 mm_keptRowF_100 x1_100 x4_100 _ _ _ hf hP hD hS (lv_sub hl [0, 1, 2] rfl)
    · have hf := xq_neg hf c_
      refine lv_aload_n hx hb dX12_ticks_105 rfl (lv_at hl 0 rfl) ?_
      refine lv_iload_n hx hb dX12_ticks_106 rfl (lv_at hl 1 rfl) ?_
      refine lv_iload hx hb dX12_ticks_107 (lv_at hl 2 rfl) ?_
      obtain ⟨⟨r_1_0, r_1_1⟩, h_2, hf⟩ := xq_bd_some hf
      refine xq_callV (As := [.int x1_100, .int x4_100]) (rest := []) (ci := 12) (q0 := 0) ⟨hx, hb, hml, hown, hts⟩ (kX12_writesDown l dC dI cI cB cJ cZ cM z ad N a_p0 mmI mmJ mmR mm_keptManyF_100 mm_keptRowF_100 mm_nightOfF_100 mm_mileOfF_100 x1_100 x4_100 h_2) (cwV 2 hts gX12_ticks_X12_writesDown rfl rfl rfl (by decide +kernel) ⟨Nat.le_of_ble_eq_true rfl, Nat.le_of_ble_eq_true rfl⟩) hN hK hP hD hS hA [0, 19, 20, 3, 5] (by decide) rfl rfl rfl rfl rfl rfl hl.1 rfl (Nat.le_of_ble_eq_true rfl) dX12_ticks_109 ⟨Nat.zero_le _, Nat.zero_le _⟩ (fun H locs hP hD hS => ?_)
      have hP : va_P (dC, dI) vwCl [(a_p0, .inr (12, oX12 mmI mmJ mmR)), ((mmR 48), .inl (cI, 22, .inl mm_talkingOfF_100)), ((mmR 24), .inl (cI, 6, .inl mm_sumFromF)), ((mmR 45), .inl (cI, 22, .inl mm_nightOfF_100)), ((mmR 58), .inl (cI, 12, .inl mm_askedF_100)), ((mmR 46), .inl (cI, 22, .inl mm_mileOfF_100)), ((mmR 47), .inl (cI, 22, .inl mm_roundsOfF_100)), ((mmR 25), .inl (cI, 6, .inl mm_sumBehindF)), ((mmR 57), .inl (cJ, 500, .inr (.inl mm_stackL_100))), ((mmR 26), .inl (cI, 3200, .inl mm_codeSortF)), ((mmR 27), .inl (cI, 3200, .inl mm_codeValueF)), ((mmR 14), .inl (cI, 2, .inl mm_milesToldF)), ((mmR 21), .inl (cI, 2, .inl mm_placesF)), ((mmR 22), .inl (cI, 12, .inl mm_placeAtF)), ((mmR 51), .inl (cI, 132, .inl mm_talkOfF)), ((mmR 18), .inl (cI, 2, .inl mm_earsF)), ((mmR 59), .inl (cI, 70, .inl mm_heardFromF_100)), ((mmR 20), .inl (cI, 14, .inl mm_sharpOfF)), ((mmR 50), .inl (cI, 154, .inl mm_rowOfF)), ((mmR 52), .inl (cI, 22, .inl r_1_0)), ((mmR 53), .inl (cI, 2640, .inl r_1_1))] H := hP
      have hD : va_D A [(a_p0, .inr (12, oX12 mmI mmJ mmR)), ((mmR 48), .inl (cI, 22, .inl mm_talkingOfF_100)), ((mmR 24), .inl (cI, 6, .inl mm_sumFromF)), ((mmR 45), .inl (cI, 22, .inl mm_nightOfF_100)), ((mmR 58), .inl (cI, 12, .inl mm_askedF_100)), ((mmR 46), .inl (cI, 22, .inl mm_mileOfF_100)), ((mmR 47), .inl (cI, 22, .inl mm_roundsOfF_100)), ((mmR 25), .inl (cI, 6, .inl mm_sumBehindF)), ((mmR 57), .inl (cJ, 500, .inr (.inl mm_stackL_100))), ((mmR 26), .inl (cI, 3200, .inl mm_codeSortF)), ((mmR 27), .inl (cI, 3200, .inl mm_codeValueF)), ((mmR 14), .inl (cI, 2, .inl mm_milesToldF)), ((mmR 21), .inl (cI, 2, .inl mm_placesF)), ((mmR 22), .inl (cI, 12, .inl mm_placeAtF)), ((mmR 51), .inl (cI, 132, .inl mm_talkOfF)), ((mmR 18), .inl (cI, 2, .inl mm_earsF)), ((mmR 59), .inl (cI, 70, .inl mm_heardFromF_100)), ((mmR 20), .inl (cI, 14, .inl mm_sharpOfF)), ((mmR 50), .inl (cI, 154, .inl mm_rowOfF)), ((mmR 52), .inl (cI, 22, .inl r_1_0)), ((mmR 53), .inl (cI, 2640, .inl r_1_1))] := hD
      refine W.eq (g2 := F0 m 112 ls []) rfl ?_
      exact b112 mm_talkingOfF_100 mm_nightOfF_100 mm_askedF_100 mm_mileOfF_100 mm_roundsOfF_100 mm_stackL_100 mm_heardFromF_100 r_1_0 r_1_1 x1_100 x4_100 _ _ _ hf hP hD hS (lv_sub hl [0, 1, 2] rfl)
  have l34 : ∀ n34 : Nat, ∀ (mm_talkingOfF_34 : Nat → Int32) (mm_nightOfF_34 : Nat → Int32) (mm_askedF_34 : Nat → Int32) (mm_mileOfF_34 : Nat → Int32) (mm_roundsOfF_34 : Nat → Int32) (mm_stackL_34 : Nat → Int64) (mm_heardFromF_34 : Nat → Int32) (mm_keptManyF_34 : Nat → Int32) (mm_keptRowF_34 : Nat → Int32) (x1_34 : Int32) (x2_34 : Int32) (x3_34 : Int32) (x4_34 : Int32) (x5_34 : Int32) (ls : Array Slot) (H : Heap) (locs : List Loc), xq_loop (fX12_ticks_l34 N mmI mm_sumFromF mm_sumBehindF mm_codeSortF mm_codeValueF mm_milesToldF mm_placesF mm_placeAtF mm_talkOfF mm_earsF mm_sharpOfF mm_rowOfF) n34 (mm_talkingOfF_34, mm_nightOfF_34, mm_askedF_34, mm_mileOfF_34, mm_roundsOfF_34, mm_stackL_34, mm_heardFromF_34, mm_keptManyF_34, mm_keptRowF_34, x1_34, x2_34, x3_34, x4_34, x5_34) = some (r0, r1, r2, r3, r4, r5, r6, r7, r8, r9) → va_P (dC, dI) vwCl [(a_p0, .inr (12, oX12 mmI mmJ mmR)), ((mmR 48), .inl (cI, 22, .inl mm_talkingOfF_34)), ((mmR 24), .inl (cI, 6, .inl mm_sumFromF)), ((mmR 45), .inl (cI, 22, .inl mm_nightOfF_34)), ((mmR 58), .inl (cI, 12, .inl mm_askedF_34)), ((mmR 46), .inl (cI, 22, .inl mm_mileOfF_34)), ((mmR 47), .inl (cI, 22, .inl mm_roundsOfF_34)), ((mmR 25), .inl (cI, 6, .inl mm_sumBehindF)), ((mmR 57), .inl (cJ, 500, .inr (.inl mm_stackL_34))), ((mmR 26), .inl (cI, 3200, .inl mm_codeSortF)), ((mmR 27), .inl (cI, 3200, .inl mm_codeValueF)), ((mmR 14), .inl (cI, 2, .inl mm_milesToldF)), ((mmR 21), .inl (cI, 2, .inl mm_placesF)), ((mmR 22), .inl (cI, 12, .inl mm_placeAtF)), ((mmR 51), .inl (cI, 132, .inl mm_talkOfF)), ((mmR 18), .inl (cI, 2, .inl mm_earsF)), ((mmR 59), .inl (cI, 70, .inl mm_heardFromF_34)), ((mmR 20), .inl (cI, 14, .inl mm_sharpOfF)), ((mmR 50), .inl (cI, 154, .inl mm_rowOfF)), ((mmR 52), .inl (cI, 22, .inl mm_keptManyF_34)), ((mmR 53), .inl (cI, 2640, .inl mm_keptRowF_34))] H → va_D A [(a_p0, .inr (12, oX12 mmI mmJ mmR)), ((mmR 48), .inl (cI, 22, .inl mm_talkingOfF_34)), ((mmR 24), .inl (cI, 6, .inl mm_sumFromF)), ((mmR 45), .inl (cI, 22, .inl mm_nightOfF_34)), ((mmR 58), .inl (cI, 12, .inl mm_askedF_34)), ((mmR 46), .inl (cI, 22, .inl mm_mileOfF_34)), ((mmR 47), .inl (cI, 22, .inl mm_roundsOfF_34)), ((mmR 25), .inl (cI, 6, .inl mm_sumBehindF)), ((mmR 57), .inl (cJ, 500, .inr (.inl mm_stackL_34))), ((mmR 26), .inl (cI, 3200, .inl mm_codeSortF)), ((mmR 27), .inl (cI, 3200, .inl mm_codeValueF)), ((mmR 14), .inl (cI, 2, .inl mm_milesToldF)), ((mmR 21), .inl (cI, 2, .inl mm_placesF)), ((mmR 22), .inl (cI, 12, .inl mm_placeAtF)), ((mmR 51), .inl (cI, 132, .inl mm_talkOfF)), ((mmR 18), .inl (cI, 2, .inl mm_earsF)), ((mmR 59), .inl (cI, 70, .inl mm_heardFromF_34)), ((mmR 20), .inl (cI, 14, .inl mm_sharpOfF)), ((mmR 50), .inl (cI, 154, .inl mm_rowOfF)), ((mmR 52), .inl (cI, 22, .inl mm_keptManyF_34)), ((mmR 53), .inl (cI, 2640, .inl mm_keptRowF_34))] → va_S A s.heap H locs → lv_has ls 6 [(0, .ref a_p0), (1, .int x1_34), (2, .int x2_34), (3, .int x3_34), (4, .int x4_34), (5, .int x5_34)] → W p l e (headSpec wsX12_ticks { frames := 5, cells := 0, slots := 0, locals := 121 }).room s m [.ref a_p0, .int p1, .int p2, .int p3].toArray below meth c H locs 0 0 (MQ below (xq_Q (dC, dI) vwCl (xq_tys cI cB cJ cZ cM) A [(a_p0, .inr (12, oX12 mmI mmJ mmR)), ((mmR 48), .inl (cI, 22, .inl r1)), ((mmR 24), .inl (cI, 6, .inl mm_sumFromF)), ((mmR 45), .inl (cI, 22, .inl r2)), ((mmR 58), .inl (cI, 12, .inl r3)), ((mmR 46), .inl (cI, 22, .inl r4)), ((mmR 47), .inl (cI, 22, .inl r5)), ((mmR 25), .inl (cI, 6, .inl mm_sumBehindF)), ((mmR 57), .inl (cJ, 500, .inr (.inl r6))), ((mmR 26), .inl (cI, 3200, .inl mm_codeSortF)), ((mmR 27), .inl (cI, 3200, .inl mm_codeValueF)), ((mmR 14), .inl (cI, 2, .inl mm_milesToldF)), ((mmR 21), .inl (cI, 2, .inl mm_placesF)), ((mmR 22), .inl (cI, 12, .inl mm_placeAtF)), ((mmR 51), .inl (cI, 132, .inl mm_talkOfF)), ((mmR 18), .inl (cI, 2, .inl mm_earsF)), ((mmR 59), .inl (cI, 70, .inl r7)), ((mmR 20), .inl (cI, 14, .inl mm_sharpOfF)), ((mmR 50), .inl (cI, 154, .inl mm_rowOfF)), ((mmR 52), .inl (cI, 22, .inl r8)), ((mmR 53), .inl (cI, 2640, .inl r9))] (some (.int r0))) [.ref a_p0, .int p1, .int p2, .int p3].toArray s 0 0 A) (F0 m 34 ls []) := by
    intro n34
    induction n34 with
    | zero => intro mm_talkingOfF_34 mm_nightOfF_34 mm_askedF_34 mm_mileOfF_34 mm_roundsOfF_34 mm_stackL_34 mm_heardFromF_34 mm_keptManyF_34 mm_keptRowF_34 x1_34 x2_34 x3_34 x4_34 x5_34 ls H locs hf; cases (show none = some (r0, r1, r2, r3, r4, r5, r6, r7, r8, r9) from hf)
    | succ n34 ih34 =>
      have b81 : ∀ (mm_talkingOfF_81 : Nat → Int32) (mm_nightOfF_81 : Nat → Int32) (mm_askedF_81 : Nat → Int32) (mm_mileOfF_81 : Nat → Int32) (mm_roundsOfF_81 : Nat → Int32) (mm_stackL_81 : Nat → Int64) (mm_heardFromF_81 : Nat → Int32) (mm_keptManyF_81 : Nat → Int32) (mm_keptRowF_81 : Nat → Int32) (x1_81 : Int32) (x2_81 : Int32) (x3_81 : Int32) (x5_81 : Int32) (y0_81 : Int32) (y1_81 : Int32) (ls : Array Slot) (H : Heap) (locs : List Loc), fX12_ticks_b81 N mmI mm_sumFromF mm_sumBehindF mm_codeSortF mm_codeValueF mm_milesToldF mm_placesF mm_placeAtF mm_talkOfF mm_earsF mm_sharpOfF mm_rowOfF (xq_loop (fX12_ticks_l34 N mmI mm_sumFromF mm_sumBehindF mm_codeSortF mm_codeValueF mm_milesToldF mm_placesF mm_placeAtF mm_talkOfF mm_earsF mm_sharpOfF mm_rowOfF) n34) (mm_talkingOfF_81, mm_nightOfF_81, mm_askedF_81, mm_mileOfF_81, mm_roundsOfF_81, mm_stackL_81, mm_heardFromF_81, mm_keptManyF_81, mm_keptRowF_81, x1_81, x2_81, x3_81, x5_81, y0_81, y1_81) = some (r0, r1, r2, r3, r4, r5, r6, r7, r8, r9) → va_P (dC, dI) vwCl [(a_p0, .inr (12, oX12 mmI mmJ mmR)), ((mmR 48), .inl (cI, 22, .inl mm_talkingOfF_81)), ((mmR 24), .inl (cI, 6, .inl mm_sumFromF)), ((mmR 45), .inl (cI, 22, .inl mm_nightOfF_81)), ((mmR 58), .inl (cI, 12, .inl mm_askedF_81)), ((mmR 46), .inl (cI, 22, .inl mm_mileOfF_81)), ((mmR 47), .inl (cI, 22, .inl mm_roundsOfF_81)), ((mmR 25), .inl (cI, 6, .inl mm_sumBehindF)), ((mmR 57), .inl (cJ, 500, .inr (.inl mm_stackL_81))), ((mmR 26), .inl (cI, 3200, .inl mm_codeSortF)), ((mmR 27), .inl (cI, 3200, .inl mm_codeValueF)), ((mmR 14), .inl (cI, 2, .inl mm_milesToldF)), ((mmR 21), .inl (cI, 2, .inl mm_placesF)), ((mmR 22), .inl (cI, 12, .inl mm_placeAtF)), ((mmR 51), .inl (cI, 132, .inl mm_talkOfF)), ((mmR 18), .inl (cI, 2, .inl mm_earsF)), ((mmR 59), .inl (cI, 70, .inl mm_heardFromF_81)), ((mmR 20), .inl (cI, 14, .inl mm_sharpOfF)), ((mmR 50), .inl (cI, 154, .inl mm_rowOfF)), ((mmR 52), .inl (cI, 22, .inl mm_keptManyF_81)), ((mmR 53), .inl (cI, 2640, .inl mm_keptRowF_81))] H → va_D A [(a_p0, .inr (12, oX12 mmI mmJ mmR)), ((mmR 48), .inl (cI, 22, .inl mm_talkingOfF_81)), ((mmR 24), .inl (cI, 6, .inl mm_sumFromF)), ((mmR 45), .inl (cI, 22, .inl mm_nightOfF_81)), ((mmR 58), .inl (cI, 12, .inl mm_askedF_81)), ((mmR 46), .inl (cI, 22, .inl mm_mileOfF_81)), ((mmR 47), .inl (cI, 22, .inl mm_roundsOfF_81)), ((mmR 25), .inl (cI, 6, .inl mm_sumBehindF)), ((mmR 57), .inl (cJ, 500, .inr (.inl mm_stackL_81))), ((mmR 26), .inl (cI, 3200, .inl mm_codeSortF)), ((mmR 27), .inl (cI, 3200, .inl mm_codeValueF)), ((mmR 14), .inl (cI, 2, .inl mm_milesToldF)), ((mmR 21), .inl (cI, 2, .inl mm_placesF)), ((mmR 22), .inl (cI, 12, .inl mm_placeAtF)), ((mmR 51), .inl (cI, 132, .inl mm_talkOfF)), ((mmR 18), .inl (cI, 2, .inl mm_earsF)), ((mmR 59), .inl (cI, 70, .inl mm_heardFromF_81)), ((mmR 20), .inl (cI, 14, .inl mm_sharpOfF)), ((mmR 50), .inl (cI, 154, .inl mm_rowOfF)), ((mmR 52), .inl (cI, 22, .inl mm_keptManyF_81)), ((mmR 53), .inl (cI, 2640, .inl mm_keptRowF_81))] → va_S A s.heap H locs → lv_has ls 6 [(0, .ref a_p0), (1, .int x1_81), (2, .int x2_81), (3, .int x3_81), (5, .int x5_81)] → W p l e (headSpec wsX12_ticks { frames := 5, cells := 0, slots := 0, locals := 121 }).room s m [.ref a_p0, .int p1, .int p2, .int p3].toArray below meth c H locs 0 0 (MQ below (xq_Q (dC, dI) vwCl (xq_tys cI cB cJ cZ cM) A [(a_p0, .inr (12, oX12 mmI mmJ mmR)), ((mmR 48), .inl (cI, 22, .inl r1)), ((mmR 24), .inl (cI, 6, .inl mm_sumFromF)), ((mmR 45), .inl (cI, 22, .inl r2)), ((mmR 58), .inl (cI, 12, .inl r3)), ((mmR 46), .inl (cI, 22, .inl r4)), ((mmR 47), .inl (cI, 22, .inl r5)), ((mmR 25), .inl (cI, 6, .inl mm_sumBehindF)), ((mmR 57), .inl (cJ, 500, .inr (.inl r6))), ((mmR 26), .inl (cI, 3200, .inl mm_codeSortF)), ((mmR 27), .inl (cI, 3200, .inl mm_codeValueF)), ((mmR 14), .inl (cI, 2, .inl mm_milesToldF)), ((mmR 21), .inl (cI, 2, .inl mm_placesF)), ((mmR 22), .inl (cI, 12, .inl mm_placeAtF)), ((mmR 51), .inl (cI, 132, .inl mm_talkOfF)), ((mmR 18), .inl (cI, 2, .inl mm_earsF)), ((mmR 59), .inl (cI, 70, .inl r7)), ((mmR 20), .inl (cI, 14, .inl mm_sharpOfF)), ((mmR 50), .inl (cI, 154, .inl mm_rowOfF)), ((mmR 52), .inl (cI, 22, .inl r8)), ((mmR 53), .inl (cI, 2640, .inl r9))] (some (.int r0))) [.ref a_p0, .int p1, .int p2, .int p3].toArray s 0 0 A) (F0 m 81 ls [.int y1_81, .int y0_81]) := by
        intro mm_talkingOfF_81 mm_nightOfF_81 mm_askedF_81 mm_mileOfF_81 mm_roundsOfF_81 mm_stackL_81 mm_heardFromF_81 mm_keptManyF_81 mm_keptRowF_81 x1_81 x2_81 x3_81 x5_81 y0_81 y1_81 ls H locs hf hP hD hS hl
        unfold fX12_ticks_b81 at hf
        refine lv_ior hx hb dX12_ticks_81 ?_
        refine lv_istore (lv' := [(4, .int (y0_81 ||| y1_81)), (0, .ref a_p0), (1, .int x1_81), (2, .int x2_81), (3, .int x3_81), (5, .int x5_81)]) hx hb dX12_ticks_82 hl (by decide) rfl (fun ls hl => ?_)
        refine lv_iinc (v := x5_81 + 1) (lv' := [(5, .int (x5_81 + 1)), (4, .int (y0_81 ||| y1_81)), (0, .ref a_p0), (1, .int x1_81), (2, .int x2_81), (3, .int x3_81)]) hx hb dX12_ticks_84 hl (k := 5) rfl (congrArg (fun q9 => x5_81 + q9) (by decide : Int32.ofInt 1 = 1)) (by decide) rfl (fun ls hl => ?_)
        refine lv_goto (tgt := 34) hx hb dX12_ticks_87 (by decide) ?_
        exact ih34 mm_talkingOfF_81 mm_nightOfF_81 mm_askedF_81 mm_mileOfF_81 mm_roundsOfF_81 mm_stackL_81 mm_heardFromF_81 mm_keptManyF_81 mm_keptRowF_81 x1_81 x2_81 x3_81 (y0_81 ||| y1_81) (x5_81 + 1) _ _ _ hf hP hD hS (lv_sub hl [2, 3, 4, 5, 1, 0] rfl)
      intro mm_talkingOfF_34 mm_nightOfF_34 mm_askedF_34 mm_mileOfF_34 mm_roundsOfF_34 mm_stackL_34 mm_heardFromF_34 mm_keptManyF_34 mm_keptRowF_34 x1_34 x2_34 x3_34 x4_34 x5_34 ls H locs hf hP hD hS hl
      have hf : fX12_ticks_l34 N mmI mm_sumFromF mm_sumBehindF mm_codeSortF mm_codeValueF mm_milesToldF mm_placesF mm_placeAtF mm_talkOfF mm_earsF mm_sharpOfF mm_rowOfF (xq_loop (fX12_ticks_l34 N mmI mm_sumFromF mm_sumBehindF mm_codeSortF mm_codeValueF mm_milesToldF mm_placesF mm_placeAtF mm_talkOfF mm_earsF mm_sharpOfF mm_rowOfF) n34) (mm_talkingOfF_34, mm_nightOfF_34, mm_askedF_34, mm_mileOfF_34, mm_roundsOfF_34, mm_stackL_34, mm_heardFromF_34, mm_keptManyF_34, mm_keptRowF_34, x1_34, x2_34, x3_34, x4_34, x5_34) = some (r0, r1, r2, r3, r4, r5, r6, r7, r8, r9) := hf
      unfold fX12_ticks_l34 at hf
      refine lv_iload hx hb dX12_ticks_34 (lv_at hl 5 rfl) ?_
      refine lv_aload_n hx hb dX12_ticks_36 rfl (lv_at hl 0 rfl) ?_
      refine va_get (D := (dC, dI)) (ci := 12) (v := .ref ((mmR 18))) (C := RX12) (T := TX12) (N := 70) hx hb hts hinX12 hown hK hP 0 rfl rfl 18 (by decide) hw2 (fun _ h9 => h9) rfl dX12_ticks_37 ?_
      refine lv_aload_n hx hb dX12_ticks_40 rfl (lv_at hl 0 rfl) ?_
      refine va_get (D := (dC, dI)) (ci := 12) (v := .int (mmI 13)) (C := RX12) (T := TX12) (N := 70) hx hb hts hinX12 hown hK hP 0 rfl rfl 13 (by decide) hw3 (fun _ h9 => h9) rfl dX12_ticks_41 ?_
      refine xq_iald hx hb hK hP 15 0 rfl rfl hf dX12_ticks_44 (fun v_1 hf => ?_)
      refine lv_icmp_ge (tgt := 90) hx hb dX12_ticks_45 (by decide) (fun c_ => ?_) (fun c_ => ?_)
      · have hf := xq_pos hf c_
        refine lv_iload_n hx hb dX12_ticks_90 rfl (lv_at hl 3 rfl) ?_
        refine lv_if_eq (tgt := 100) hx hb dX12_ticks_91 (by decide) (fun c_ => ?_) (fun c_ => ?_)
        · have hf := xq_pos hf c_
          exact b100 mm_talkingOfF_34 mm_nightOfF_34 mm_askedF_34 mm_mileOfF_34 mm_roundsOfF_34 mm_stackL_34 mm_heardFromF_34 mm_keptManyF_34 mm_keptRowF_34 x1_34 x4_34 _ _ _ hf hP hD hS (lv_sub hl [0, 1, 4] rfl)
        · have hf := xq_neg hf c_
          refine lv_aload_n hx hb dX12_ticks_94 rfl (lv_at hl 0 rfl) ?_
          refine lv_iload_n hx hb dX12_ticks_95 rfl (lv_at hl 1 rfl) ?_
          refine lv_iload_n hx hb dX12_ticks_96 rfl (lv_at hl 2 rfl) ?_
          obtain ⟨⟨r_2_0, r_2_1, r_2_2⟩, h_3, hf⟩ := xq_bd_some hf
          refine xq_callV (As := [.int x1_34, .int x2_34]) (rest := []) (ci := 12) (q0 := 0) ⟨hx, hb, hml, hown, hts⟩ (kX12_counts l dC dI cI cB cJ cZ cM z ad N a_p0 mmI mmJ mmR mm_earsF mm_heardFromF_34 mm_sumFromF mm_nightOfF_34 mm_askedF_34 mm_sharpOfF mm_mileOfF_34 mm_milesToldF mm_sumBehindF mm_stackL_34 mm_codeSortF mm_codeValueF x1_34 x2_34 h_3) (cwV 2 hts gX12_ticks_X12_counts rfl rfl rfl (by decide +kernel) ⟨Nat.le_of_ble_eq_true rfl, Nat.le_of_ble_eq_true rfl⟩) hN hK hP hD hS hA [0, 15, 16, 2, 3, 4, 17, 5, 11, 7, 8, 9, 10] (by decide) rfl rfl rfl rfl rfl rfl hl.1 rfl (Nat.le_of_ble_eq_true rfl) dX12_ticks_97 ⟨Nat.zero_le _, Nat.zero_le _⟩ (fun H locs hP hD hS => ?_)
          have hP : va_P (dC, dI) vwCl [(a_p0, .inr (12, oX12 mmI mmJ mmR)), ((mmR 48), .inl (cI, 22, .inl mm_talkingOfF_34)), ((mmR 24), .inl (cI, 6, .inl mm_sumFromF)), ((mmR 45), .inl (cI, 22, .inl mm_nightOfF_34)), ((mmR 58), .inl (cI, 12, .inl r_2_1)), ((mmR 46), .inl (cI, 22, .inl mm_mileOfF_34)), ((mmR 47), .inl (cI, 22, .inl mm_roundsOfF_34)), ((mmR 25), .inl (cI, 6, .inl mm_sumBehindF)), ((mmR 57), .inl (cJ, 500, .inr (.inl r_2_2))), ((mmR 26), .inl (cI, 3200, .inl mm_codeSortF)), ((mmR 27), .inl (cI, 3200, .inl mm_codeValueF)), ((mmR 14), .inl (cI, 2, .inl mm_milesToldF)), ((mmR 21), .inl (cI, 2, .inl mm_placesF)), ((mmR 22), .inl (cI, 12, .inl mm_placeAtF)), ((mmR 51), .inl (cI, 132, .inl mm_talkOfF)), ((mmR 18), .inl (cI, 2, .inl mm_earsF)), ((mmR 59), .inl (cI, 70, .inl r_2_0)), ((mmR 20), .inl (cI, 14, .inl mm_sharpOfF)), ((mmR 50), .inl (cI, 154, .inl mm_rowOfF)), ((mmR 52), .inl (cI, 22, .inl mm_keptManyF_34)), ((mmR 53), .inl (cI, 2640, .inl mm_keptRowF_34))] H := hP
          have hD : va_D A [(a_p0, .inr (12, oX12 mmI mmJ mmR)), ((mmR 48), .inl (cI, 22, .inl mm_talkingOfF_34)), ((mmR 24), .inl (cI, 6, .inl mm_sumFromF)), ((mmR 45), .inl (cI, 22, .inl mm_nightOfF_34)), ((mmR 58), .inl (cI, 12, .inl r_2_1)), ((mmR 46), .inl (cI, 22, .inl mm_mileOfF_34)), ((mmR 47), .inl (cI, 22, .inl mm_roundsOfF_34)), ((mmR 25), .inl (cI, 6, .inl mm_sumBehindF)), ((mmR 57), .inl (cJ, 500, .inr (.inl r_2_2))), ((mmR 26), .inl (cI, 3200, .inl mm_codeSortF)), ((mmR 27), .inl (cI, 3200, .inl mm_codeValueF)), ((mmR 14), .inl (cI, 2, .inl mm_milesToldF)), ((mmR 21), .inl (cI, 2, .inl mm_placesF)), ((mmR 22), .inl (cI, 12, .inl mm_placeAtF)), ((mmR 51), .inl (cI, 132, .inl mm_talkOfF)), ((mmR 18), .inl (cI, 2, .inl mm_earsF)), ((mmR 59), .inl (cI, 70, .inl r_2_0)), ((mmR 20), .inl (cI, 14, .inl mm_sharpOfF)), ((mmR 50), .inl (cI, 154, .inl mm_rowOfF)), ((mmR 52), .inl (cI, 22, .inl mm_keptManyF_34)), ((mmR 53), .inl (cI, 2640, .inl mm_keptRowF_34))] := hD
          refine W.eq (g2 := F0 m 100 ls []) rfl ?_
          exact b100 mm_talkingOfF_34 mm_nightOfF_34 r_2_1 mm_mileOfF_34 mm_roundsOfF_34 r_2_2 r_2_0 mm_keptManyF_34 mm_keptRowF_34 x1_34 x4_34 _ _ _ hf hP hD hS (lv_sub hl [0, 1, 4] rfl)
      · have hf := xq_neg hf c_
        refine lv_iload hx hb dX12_ticks_48 (lv_at hl 4 rfl) ?_
        refine lv_aload_n hx hb dX12_ticks_50 rfl (lv_at hl 0 rfl) ?_
        refine lv_iload_n hx hb dX12_ticks_51 rfl (lv_at hl 1 rfl) ?_
        refine lv_iload hx hb dX12_ticks_52 (lv_at hl 5 rfl) ?_
        refine lv_aload_n hx hb dX12_ticks_54 rfl (lv_at hl 0 rfl) ?_
        refine va_get (D := (dC, dI)) (ci := 12) (v := .ref ((mmR 50))) (C := RX12) (T := TX12) (N := 70) hx hb hts hinX12 hown hK hP 0 rfl rfl 50 (by decide) hw4 (fun _ h9 => h9) rfl dX12_ticks_55 ?_
        refine lv_bipush (v := 7) hx hb dX12_ticks_58 (by decide) ?_
        refine lv_iload_n hx hb dX12_ticks_60 rfl (lv_at hl 1 rfl) ?_
        refine lv_imul hx hb dX12_ticks_61 ?_
        refine lv_iload hx hb dX12_ticks_62 (lv_at hl 5 rfl) ?_
        refine lv_iadd hx hb dX12_ticks_64 ?_
        refine xq_iald hx hb hK hP 18 0 rfl rfl hf dX12_ticks_65 (fun v_4 hf => ?_)
        refine lv_iload_n hx hb dX12_ticks_66 rfl (lv_at hl 2 rfl) ?_
        obtain ⟨⟨r_5_0, r_5_1, r_5_2⟩, h_6, hf⟩ := xq_bd_some hf
        refine xq_callV (As := [.int x1_34, .int x5_34, .int v_4, .int x2_34]) (rest := [.int x4_34]) (ci := 12) (q0 := 0) ⟨hx, hb, hml, hown, hts⟩ (kX12_isHeardIn l dC dI cI cB cJ cZ cM z ad N a_p0 mmI mmJ mmR mm_sumFromF mm_nightOfF_34 mm_askedF_34 mm_sharpOfF mm_mileOfF_34 mm_milesToldF mm_sumBehindF mm_stackL_34 mm_codeSortF mm_codeValueF x1_34 x5_34 v_4 x2_34 h_6) (cwV 4 hts gX12_ticks_X12_isHeardIn rfl rfl rfl (by decide +kernel) ⟨Nat.le_of_ble_eq_true rfl, Nat.le_of_ble_eq_true rfl⟩) hN hK hP hD hS hA [0, 2, 3, 4, 17, 5, 11, 7, 8, 9, 10] (by decide) rfl rfl rfl rfl rfl rfl hl.1 rfl (Nat.le_of_ble_eq_true rfl) dX12_ticks_67 ⟨Nat.zero_le _, Nat.zero_le _⟩ (fun H locs hP hD hS => ?_)
        have hP : va_P (dC, dI) vwCl [(a_p0, .inr (12, oX12 mmI mmJ mmR)), ((mmR 48), .inl (cI, 22, .inl mm_talkingOfF_34)), ((mmR 24), .inl (cI, 6, .inl mm_sumFromF)), ((mmR 45), .inl (cI, 22, .inl mm_nightOfF_34)), ((mmR 58), .inl (cI, 12, .inl r_5_1)), ((mmR 46), .inl (cI, 22, .inl mm_mileOfF_34)), ((mmR 47), .inl (cI, 22, .inl mm_roundsOfF_34)), ((mmR 25), .inl (cI, 6, .inl mm_sumBehindF)), ((mmR 57), .inl (cJ, 500, .inr (.inl r_5_2))), ((mmR 26), .inl (cI, 3200, .inl mm_codeSortF)), ((mmR 27), .inl (cI, 3200, .inl mm_codeValueF)), ((mmR 14), .inl (cI, 2, .inl mm_milesToldF)), ((mmR 21), .inl (cI, 2, .inl mm_placesF)), ((mmR 22), .inl (cI, 12, .inl mm_placeAtF)), ((mmR 51), .inl (cI, 132, .inl mm_talkOfF)), ((mmR 18), .inl (cI, 2, .inl mm_earsF)), ((mmR 59), .inl (cI, 70, .inl mm_heardFromF_34)), ((mmR 20), .inl (cI, 14, .inl mm_sharpOfF)), ((mmR 50), .inl (cI, 154, .inl mm_rowOfF)), ((mmR 52), .inl (cI, 22, .inl mm_keptManyF_34)), ((mmR 53), .inl (cI, 2640, .inl mm_keptRowF_34))] H := hP
        have hD : va_D A [(a_p0, .inr (12, oX12 mmI mmJ mmR)), ((mmR 48), .inl (cI, 22, .inl mm_talkingOfF_34)), ((mmR 24), .inl (cI, 6, .inl mm_sumFromF)), ((mmR 45), .inl (cI, 22, .inl mm_nightOfF_34)), ((mmR 58), .inl (cI, 12, .inl r_5_1)), ((mmR 46), .inl (cI, 22, .inl mm_mileOfF_34)), ((mmR 47), .inl (cI, 22, .inl mm_roundsOfF_34)), ((mmR 25), .inl (cI, 6, .inl mm_sumBehindF)), ((mmR 57), .inl (cJ, 500, .inr (.inl r_5_2))), ((mmR 26), .inl (cI, 3200, .inl mm_codeSortF)), ((mmR 27), .inl (cI, 3200, .inl mm_codeValueF)), ((mmR 14), .inl (cI, 2, .inl mm_milesToldF)), ((mmR 21), .inl (cI, 2, .inl mm_placesF)), ((mmR 22), .inl (cI, 12, .inl mm_placeAtF)), ((mmR 51), .inl (cI, 132, .inl mm_talkOfF)), ((mmR 18), .inl (cI, 2, .inl mm_earsF)), ((mmR 59), .inl (cI, 70, .inl mm_heardFromF_34)), ((mmR 20), .inl (cI, 14, .inl mm_sharpOfF)), ((mmR 50), .inl (cI, 154, .inl mm_rowOfF)), ((mmR 52), .inl (cI, 22, .inl mm_keptManyF_34)), ((mmR 53), .inl (cI, 2640, .inl mm_keptRowF_34))] := hD
        refine W.eq (g2 := F0 m 70 ls [.int r_5_0, .int x4_34]) rfl ?_
        refine lv_if_eq (tgt := 80) hx hb dX12_ticks_70 (by decide) (fun c_ => ?_) (fun c_ => ?_)
        · have hf := xq_pos hf c_
          refine lv_iconst (v := 0) hx hb dX12_ticks_80 (by decide) ?_
          exact b81 mm_talkingOfF_34 mm_nightOfF_34 r_5_1 mm_mileOfF_34 mm_roundsOfF_34 r_5_2 mm_heardFromF_34 mm_keptManyF_34 mm_keptRowF_34 x1_34 x2_34 x3_34 x5_34 x4_34 0 _ _ _ hf hP hD hS (lv_sub hl [0, 1, 2, 3, 5] rfl)
        · have hf := xq_neg hf c_
          refine lv_iconst (v := 1) hx hb dX12_ticks_73 (by decide) ?_
          refine lv_iload hx hb dX12_ticks_74 (lv_at hl 5 rfl) ?_
          refine lv_ishl hx hb dX12_ticks_76 ?_
          refine lv_goto (tgt := 81) hx hb dX12_ticks_77 (by decide) ?_
          exact b81 mm_talkingOfF_34 mm_nightOfF_34 r_5_1 mm_mileOfF_34 mm_roundsOfF_34 r_5_2 mm_heardFromF_34 mm_keptManyF_34 mm_keptRowF_34 x1_34 x2_34 x3_34 x5_34 x4_34 (1 <<< (x5_34 &&& 31)) _ _ _ hf hP hD hS (lv_sub hl [0, 1, 2, 3, 5] rfl)
  have b28 : ∀ (mm_talkingOfF_28 : Nat → Int32) (mm_nightOfF_28 : Nat → Int32) (mm_askedF_28 : Nat → Int32) (mm_mileOfF_28 : Nat → Int32) (mm_roundsOfF_28 : Nat → Int32) (mm_stackL_28 : Nat → Int64) (mm_heardFromF_28 : Nat → Int32) (mm_keptManyF_28 : Nat → Int32) (mm_keptRowF_28 : Nat → Int32) (x1_28 : Int32) (x2_28 : Int32) (x3_28 : Int32) (ls : Array Slot) (H : Heap) (locs : List Loc), fX12_ticks_b28 N mmI mm_sumFromF mm_sumBehindF mm_codeSortF mm_codeValueF mm_milesToldF mm_placesF mm_placeAtF mm_talkOfF mm_earsF mm_sharpOfF mm_rowOfF (mm_talkingOfF_28, mm_nightOfF_28, mm_askedF_28, mm_mileOfF_28, mm_roundsOfF_28, mm_stackL_28, mm_heardFromF_28, mm_keptManyF_28, mm_keptRowF_28, x1_28, x2_28, x3_28) = some (r0, r1, r2, r3, r4, r5, r6, r7, r8, r9) → va_P (dC, dI) vwCl [(a_p0, .inr (12, oX12 mmI mmJ mmR)), ((mmR 48), .inl (cI, 22, .inl mm_talkingOfF_28)), ((mmR 24), .inl (cI, 6, .inl mm_sumFromF)), ((mmR 45), .inl (cI, 22, .inl mm_nightOfF_28)), ((mmR 58), .inl (cI, 12, .inl mm_askedF_28)), ((mmR 46), .inl (cI, 22, .inl mm_mileOfF_28)), ((mmR 47), .inl (cI, 22, .inl mm_roundsOfF_28)), ((mmR 25), .inl (cI, 6, .inl mm_sumBehindF)), ((mmR 57), .inl (cJ, 500, .inr (.inl mm_stackL_28))), ((mmR 26), .inl (cI, 3200, .inl mm_codeSortF)), ((mmR 27), .inl (cI, 3200, .inl mm_codeValueF)), ((mmR 14), .inl (cI, 2, .inl mm_milesToldF)), ((mmR 21), .inl (cI, 2, .inl mm_placesF)), ((mmR 22), .inl (cI, 12, .inl mm_placeAtF)), ((mmR 51), .inl (cI, 132, .inl mm_talkOfF)), ((mmR 18), .inl (cI, 2, .inl mm_earsF)), ((mmR 59), .inl (cI, 70, .inl mm_heardFromF_28)), ((mmR 20), .inl (cI, 14, .inl mm_sharpOfF)), ((mmR 50), .inl (cI, 154, .inl mm_rowOfF)), ((mmR 52), .inl (cI, 22, .inl mm_keptManyF_28)), ((mmR 53), .inl (cI, 2640, .inl mm_keptRowF_28))] H → va_D A [(a_p0, .inr (12, oX12 mmI mmJ mmR)), ((mmR 48), .inl (cI, 22, .inl mm_talkingOfF_28)), ((mmR 24), .inl (cI, 6, .inl mm_sumFromF)), ((mmR 45), .inl (cI, 22, .inl mm_nightOfF_28)), ((mmR 58), .inl (cI, 12, .inl mm_askedF_28)), ((mmR 46), .inl (cI, 22, .inl mm_mileOfF_28)), ((mmR 47), .inl (cI, 22, .inl mm_roundsOfF_28)), ((mmR 25), .inl (cI, 6, .inl mm_sumBehindF)), ((mmR 57), .inl (cJ, 500, .inr (.inl mm_stackL_28))), ((mmR 26), .inl (cI, 3200, .inl mm_codeSortF)), ((mmR 27), .inl (cI, 3200, .inl mm_codeValueF)), ((mmR 14), .inl (cI, 2, .inl mm_milesToldF)), ((mmR 21), .inl (cI, 2, .inl mm_placesF)), ((mmR 22), .inl (cI, 12, .inl mm_placeAtF)), ((mmR 51), .inl (cI, 132, .inl mm_talkOfF)), ((mmR 18), .inl (cI, 2, .inl mm_earsF)), ((mmR 59), .inl (cI, 70, .inl mm_heardFromF_28)), ((mmR 20), .inl (cI, 14, .inl mm_sharpOfF)), ((mmR 50), .inl (cI, 154, .inl mm_rowOfF)), ((mmR 52), .inl (cI, 22, .inl mm_keptManyF_28)), ((mmR 53), .inl (cI, 2640, .inl mm_keptRowF_28))] → va_S A s.heap H locs → lv_has ls 6 [(0, .ref a_p0), (1, .int x1_28), (2, .int x2_28), (3, .int x3_28)] → W p l e (headSpec wsX12_ticks { frames := 5, cells := 0, slots := 0, locals := 121 }).room s m [.ref a_p0, .int p1, .int p2, .int p3].toArray below meth c H locs 0 0 (MQ below (xq_Q (dC, dI) vwCl (xq_tys cI cB cJ cZ cM) A [(a_p0, .inr (12, oX12 mmI mmJ mmR)), ((mmR 48), .inl (cI, 22, .inl r1)), ((mmR 24), .inl (cI, 6, .inl mm_sumFromF)), ((mmR 45), .inl (cI, 22, .inl r2)), ((mmR 58), .inl (cI, 12, .inl r3)), ((mmR 46), .inl (cI, 22, .inl r4)), ((mmR 47), .inl (cI, 22, .inl r5)), ((mmR 25), .inl (cI, 6, .inl mm_sumBehindF)), ((mmR 57), .inl (cJ, 500, .inr (.inl r6))), ((mmR 26), .inl (cI, 3200, .inl mm_codeSortF)), ((mmR 27), .inl (cI, 3200, .inl mm_codeValueF)), ((mmR 14), .inl (cI, 2, .inl mm_milesToldF)), ((mmR 21), .inl (cI, 2, .inl mm_placesF)), ((mmR 22), .inl (cI, 12, .inl mm_placeAtF)), ((mmR 51), .inl (cI, 132, .inl mm_talkOfF)), ((mmR 18), .inl (cI, 2, .inl mm_earsF)), ((mmR 59), .inl (cI, 70, .inl r7)), ((mmR 20), .inl (cI, 14, .inl mm_sharpOfF)), ((mmR 50), .inl (cI, 154, .inl mm_rowOfF)), ((mmR 52), .inl (cI, 22, .inl r8)), ((mmR 53), .inl (cI, 2640, .inl r9))] (some (.int r0))) [.ref a_p0, .int p1, .int p2, .int p3].toArray s 0 0 A) (F0 m 28 ls []) := by
    intro mm_talkingOfF_28 mm_nightOfF_28 mm_askedF_28 mm_mileOfF_28 mm_roundsOfF_28 mm_stackL_28 mm_heardFromF_28 mm_keptManyF_28 mm_keptRowF_28 x1_28 x2_28 x3_28 ls H locs hf hP hD hS hl
    unfold fX12_ticks_b28 at hf
    refine lv_iconst (v := 0) hx hb dX12_ticks_28 (by decide) ?_
    refine lv_istore (lv' := [(4, .int 0), (0, .ref a_p0), (1, .int x1_28), (2, .int x2_28), (3, .int x3_28)]) hx hb dX12_ticks_29 hl (by decide) rfl (fun ls hl => ?_)
    refine lv_iconst (v := 0) hx hb dX12_ticks_31 (by decide) ?_
    refine lv_istore (lv' := [(5, .int 0), (4, .int 0), (0, .ref a_p0), (1, .int x1_28), (2, .int x2_28), (3, .int x3_28)]) hx hb dX12_ticks_32 hl (by decide) rfl (fun ls hl => ?_)
    exact l34 N mm_talkingOfF_28 mm_nightOfF_28 mm_askedF_28 mm_mileOfF_28 mm_roundsOfF_28 mm_stackL_28 mm_heardFromF_28 mm_keptManyF_28 mm_keptRowF_28 x1_28 x2_28 x3_28 0 0 _ _ _ hf hP hD hS (lv_sub hl [2, 3, 4, 5, 1, 0] rfl)
  unfold fX12_ticks at hf
  refine lv_aload_n hx hb dX12_ticks_0 rfl (lv_at hl 0 rfl) ?_
  refine va_get (D := (dC, dI)) (ci := 12) (v := .ref ((mmR 48))) (C := RX12) (T := TX12) (N := 70) hx hb hts hinX12 hown hK hP 0 rfl rfl 48 (by decide) hw0 (fun _ h9 => h9) rfl dX12_ticks_1 ?_
  refine lv_iload_n hx hb dX12_ticks_4 rfl (lv_at hl 1 rfl) ?_
  refine xq_iald hx hb hK hP 1 0 rfl rfl hf dX12_ticks_5 (fun v_1 hf => ?_)
  refine lv_if_le (tgt := 22) hx hb dX12_ticks_6 (by decide) (fun c_ => ?_) (fun c_ => ?_)
  · have hf := xq_pos hf c_
    refine lv_aload_n hx hb dX12_ticks_22 rfl (lv_at hl 0 rfl) ?_
    refine lv_iload_n hx hb dX12_ticks_23 rfl (lv_at hl 1 rfl) ?_
    refine lv_iload_n hx hb dX12_ticks_24 rfl (lv_at hl 2 rfl) ?_
    obtain ⟨⟨r_2_0, r_2_1, r_2_2, r_2_3, r_2_4⟩, h_3, hf⟩ := xq_bd_some hf
    refine xq_callV (As := [.int p1, .int p2]) (rest := []) (ci := 12) (q0 := 0) ⟨hx, hb, hml, hown, hts⟩ (kX12_walks l dC dI cI cB cJ cZ cM z ad N a_p0 mmI mmJ mmR mm_sumFromF mm_nightOfF mm_askedF mm_mileOfF mm_roundsOfF mm_sumBehindF mm_stackL mm_codeSortF mm_codeValueF mm_milesToldF mm_placesF mm_placeAtF mm_talkOfF mm_talkingOfF p1 p2 h_3) (cwV 2 hts gX12_ticks_X12_walks rfl rfl rfl (by decide +kernel) ⟨Nat.le_of_ble_eq_true rfl, Nat.le_of_ble_eq_true rfl⟩) hN hK hP hD hS hA [0, 2, 3, 4, 5, 6, 7, 8, 9, 10, 11, 12, 13, 14, 1] (by decide) rfl rfl rfl rfl rfl rfl hl.1 rfl (Nat.le_of_ble_eq_true rfl) dX12_ticks_25 ⟨Nat.zero_le _, Nat.zero_le _⟩ (fun H locs hP hD hS => ?_)
    have hP : va_P (dC, dI) vwCl [(a_p0, .inr (12, oX12 mmI mmJ mmR)), ((mmR 48), .inl (cI, 22, .inl r_2_4)), ((mmR 24), .inl (cI, 6, .inl mm_sumFromF)), ((mmR 45), .inl (cI, 22, .inl mm_nightOfF)), ((mmR 58), .inl (cI, 12, .inl r_2_0)), ((mmR 46), .inl (cI, 22, .inl r_2_1)), ((mmR 47), .inl (cI, 22, .inl r_2_2)), ((mmR 25), .inl (cI, 6, .inl mm_sumBehindF)), ((mmR 57), .inl (cJ, 500, .inr (.inl r_2_3))), ((mmR 26), .inl (cI, 3200, .inl mm_codeSortF)), ((mmR 27), .inl (cI, 3200, .inl mm_codeValueF)), ((mmR 14), .inl (cI, 2, .inl mm_milesToldF)), ((mmR 21), .inl (cI, 2, .inl mm_placesF)), ((mmR 22), .inl (cI, 12, .inl mm_placeAtF)), ((mmR 51), .inl (cI, 132, .inl mm_talkOfF)), ((mmR 18), .inl (cI, 2, .inl mm_earsF)), ((mmR 59), .inl (cI, 70, .inl mm_heardFromF)), ((mmR 20), .inl (cI, 14, .inl mm_sharpOfF)), ((mmR 50), .inl (cI, 154, .inl mm_rowOfF)), ((mmR 52), .inl (cI, 22, .inl mm_keptManyF)), ((mmR 53), .inl (cI, 2640, .inl mm_keptRowF))] H := hP
    have hD : va_D A [(a_p0, .inr (12, oX12 mmI mmJ mmR)), ((mmR 48), .inl (cI, 22, .inl r_2_4)), ((mmR 24), .inl (cI, 6, .inl mm_sumFromF)), ((mmR 45), .inl (cI, 22, .inl mm_nightOfF)), ((mmR 58), .inl (cI, 12, .inl r_2_0)), ((mmR 46), .inl (cI, 22, .inl r_2_1)), ((mmR 47), .inl (cI, 22, .inl r_2_2)), ((mmR 25), .inl (cI, 6, .inl mm_sumBehindF)), ((mmR 57), .inl (cJ, 500, .inr (.inl r_2_3))), ((mmR 26), .inl (cI, 3200, .inl mm_codeSortF)), ((mmR 27), .inl (cI, 3200, .inl mm_codeValueF)), ((mmR 14), .inl (cI, 2, .inl mm_milesToldF)), ((mmR 21), .inl (cI, 2, .inl mm_placesF)), ((mmR 22), .inl (cI, 12, .inl mm_placeAtF)), ((mmR 51), .inl (cI, 132, .inl mm_talkOfF)), ((mmR 18), .inl (cI, 2, .inl mm_earsF)), ((mmR 59), .inl (cI, 70, .inl mm_heardFromF)), ((mmR 20), .inl (cI, 14, .inl mm_sharpOfF)), ((mmR 50), .inl (cI, 154, .inl mm_rowOfF)), ((mmR 52), .inl (cI, 22, .inl mm_keptManyF)), ((mmR 53), .inl (cI, 2640, .inl mm_keptRowF))] := hD
    refine W.eq (g2 := F0 m 28 ls []) rfl ?_
    exact b28 r_2_4 mm_nightOfF r_2_0 r_2_1 r_2_2 r_2_3 mm_heardFromF mm_keptManyF mm_keptRowF p1 p2 p3 _ _ _ hf hP hD hS (lv_sub hl [0, 1, 2, 3] rfl)
  · have hf := xq_neg hf c_
    refine lv_aload_n hx hb dX12_ticks_9 rfl (lv_at hl 0 rfl) ?_
    refine va_get (D := (dC, dI)) (ci := 12) (v := .ref ((mmR 48))) (C := RX12) (T := TX12) (N := 70) hx hb hts hinX12 hown hK hP 0 rfl rfl 48 (by decide) hw0 (fun _ h9 => h9) rfl dX12_ticks_10 ?_
    refine lv_iload_n hx hb dX12_ticks_13 rfl (lv_at hl 1 rfl) ?_
    refine lv_dup2_11 hx hb dX12_ticks_14 rfl rfl ?_
    refine xq_iald hx hb hK hP 1 0 rfl rfl hf dX12_ticks_15 (fun v_4 hf => ?_)
    refine lv_iconst (v := 1) hx hb dX12_ticks_16 (by decide) ?_
    refine lv_isub hx hb dX12_ticks_17 ?_
    refine xq_iast hx hb hK hP hD hS 1 0 rfl rfl hf dX12_ticks_18 (fun g_5 H locs hf hP hD hS => ?_)
    have hP : va_P (dC, dI) vwCl [(a_p0, .inr (12, oX12 mmI mmJ mmR)), ((mmR 48), .inl (cI, 22, .inl g_5)), ((mmR 24), .inl (cI, 6, .inl mm_sumFromF)), ((mmR 45), .inl (cI, 22, .inl mm_nightOfF)), ((mmR 58), .inl (cI, 12, .inl mm_askedF)), ((mmR 46), .inl (cI, 22, .inl mm_mileOfF)), ((mmR 47), .inl (cI, 22, .inl mm_roundsOfF)), ((mmR 25), .inl (cI, 6, .inl mm_sumBehindF)), ((mmR 57), .inl (cJ, 500, .inr (.inl mm_stackL))), ((mmR 26), .inl (cI, 3200, .inl mm_codeSortF)), ((mmR 27), .inl (cI, 3200, .inl mm_codeValueF)), ((mmR 14), .inl (cI, 2, .inl mm_milesToldF)), ((mmR 21), .inl (cI, 2, .inl mm_placesF)), ((mmR 22), .inl (cI, 12, .inl mm_placeAtF)), ((mmR 51), .inl (cI, 132, .inl mm_talkOfF)), ((mmR 18), .inl (cI, 2, .inl mm_earsF)), ((mmR 59), .inl (cI, 70, .inl mm_heardFromF)), ((mmR 20), .inl (cI, 14, .inl mm_sharpOfF)), ((mmR 50), .inl (cI, 154, .inl mm_rowOfF)), ((mmR 52), .inl (cI, 22, .inl mm_keptManyF)), ((mmR 53), .inl (cI, 2640, .inl mm_keptRowF))] H := hP
    have hD : va_D A [(a_p0, .inr (12, oX12 mmI mmJ mmR)), ((mmR 48), .inl (cI, 22, .inl g_5)), ((mmR 24), .inl (cI, 6, .inl mm_sumFromF)), ((mmR 45), .inl (cI, 22, .inl mm_nightOfF)), ((mmR 58), .inl (cI, 12, .inl mm_askedF)), ((mmR 46), .inl (cI, 22, .inl mm_mileOfF)), ((mmR 47), .inl (cI, 22, .inl mm_roundsOfF)), ((mmR 25), .inl (cI, 6, .inl mm_sumBehindF)), ((mmR 57), .inl (cJ, 500, .inr (.inl mm_stackL))), ((mmR 26), .inl (cI, 3200, .inl mm_codeSortF)), ((mmR 27), .inl (cI, 3200, .inl mm_codeValueF)), ((mmR 14), .inl (cI, 2, .inl mm_milesToldF)), ((mmR 21), .inl (cI, 2, .inl mm_placesF)), ((mmR 22), .inl (cI, 12, .inl mm_placeAtF)), ((mmR 51), .inl (cI, 132, .inl mm_talkOfF)), ((mmR 18), .inl (cI, 2, .inl mm_earsF)), ((mmR 59), .inl (cI, 70, .inl mm_heardFromF)), ((mmR 20), .inl (cI, 14, .inl mm_sharpOfF)), ((mmR 50), .inl (cI, 154, .inl mm_rowOfF)), ((mmR 52), .inl (cI, 22, .inl mm_keptManyF)), ((mmR 53), .inl (cI, 2640, .inl mm_keptRowF))] := hD
    refine lv_goto (tgt := 28) hx hb dX12_ticks_19 (by decide) ?_
    exact b28 g_5 mm_nightOfF mm_askedF mm_mileOfF mm_roundsOfF mm_stackL mm_heardFromF mm_keptManyF mm_keptRowF p1 p2 p3 _ _ _ hf hP hD hS (lv_sub hl [0, 1, 2, 3] rfl)
set_option maxRecDepth 20000 in
theorem ggX12_passes_X12_ticks : GoodIn wsX12_passes wsX12_ticks := goodIn_r _ [6, 7, 8, 9, 10, 11, 12, 13, 14, 5, 15, 16, 17, 18, 19, 20, 21, 22, 23, 24, 25, 26, 27, 28, 29, 30, 31, 32, 33, 34, 35, 36, 37, 38, 39, 40, 41, 42, 43, 44, 45, 46, 47, 48, 49, 50, 51, 52, 53, 54, 55, 56, 57, 58, 59, 60, 61, 62, 63, 64, 65, 66, 67, 68, 69, 70, 71, 72, 73, 74, 75, 76, 77, 78, 79, 80, 81, 82, 83, 84, 85, 86, 87, 88, 89, 90, 91, 92, 93, 94, 95, 96, 97, 98, 99, 100, 101, 102, 103, 104, 105, 106, 107, 108, 109, 110, 111, 112, 113, 114, 115, 116, 117, 118, 119, 120, 121, 122, 123, 124, 125, 126, 127, 128, 129, 130, 131, 132, 133, 134, 135, 136, 137, 138, 139, 140, 141, 142, 143, 144, 145, 146, 147, 148, 149, 150, 151] rfl (by decide +kernel)
set_option maxRecDepth 20000 in
theorem gX12_passes_X12_ticks : GoodIn wsX12_passes (wsV RX12 450 RX12 yX12_ticks wsX12_ticks) := goodIn_app (goodIn_of _ (by decide +kernel)) ggX12_passes_X12_ticks
def dsX12_passes_0 : List (Nat × Instr × Nat) := [(0, (.aload_n 0, 1)), (1, (.iload_n 1, 1)), (2, (.aload_n 0, 1)), (3, (.getfield 162, 3)), (6, (.iload_n 1, 1)), (7, (.iaload, 1)), (8, (.iconst 0, 1)), (9, (.invokevirtual 450, 3)), (12, (.ireturn, 1))]
theorem dsX12_passes_0_ok : (dsX12_passes_0.all fun q => decide (decode cX12_passes q.1 = .ok q.2)) = true := by decide +kernel
theorem dX12_passes_0 : decode cX12_passes 0 = .ok (.aload_n 0, 1) := of_decide_eq_true (List.all_eq_true.mp dsX12_passes_0_ok (0, (.aload_n 0, 1)) (List.mem_of_getElem? (i := 0) rfl))
theorem dX12_passes_1 : decode cX12_passes 1 = .ok (.iload_n 1, 1) := of_decide_eq_true (List.all_eq_true.mp dsX12_passes_0_ok (1, (.iload_n 1, 1)) (List.mem_of_getElem? (i := 1) rfl))
theorem dX12_passes_2 : decode cX12_passes 2 = .ok (.aload_n 0, 1) := of_decide_eq_true (List.all_eq_true.mp dsX12_passes_0_ok (2, (.aload_n 0, 1)) (List.mem_of_getElem? (i := 2) rfl))
theorem dX12_passes_3 : decode cX12_passes 3 = .ok (.getfield 162, 3) := of_decide_eq_true (List.all_eq_true.mp dsX12_passes_0_ok (3, (.getfield 162, 3)) (List.mem_of_getElem? (i := 3) rfl))
theorem dX12_passes_6 : decode cX12_passes 6 = .ok (.iload_n 1, 1) := of_decide_eq_true (List.all_eq_true.mp dsX12_passes_0_ok (6, (.iload_n 1, 1)) (List.mem_of_getElem? (i := 4) rfl))
theorem dX12_passes_7 : decode cX12_passes 7 = .ok (.iaload, 1) := of_decide_eq_true (List.all_eq_true.mp dsX12_passes_0_ok (7, (.iaload, 1)) (List.mem_of_getElem? (i := 5) rfl))
theorem dX12_passes_8 : decode cX12_passes 8 = .ok (.iconst 0, 1) := of_decide_eq_true (List.all_eq_true.mp dsX12_passes_0_ok (8, (.iconst 0, 1)) (List.mem_of_getElem? (i := 6) rfl))
theorem dX12_passes_9 : decode cX12_passes 9 = .ok (.invokevirtual 450, 3) := of_decide_eq_true (List.all_eq_true.mp dsX12_passes_0_ok (9, (.invokevirtual 450, 3)) (List.mem_of_getElem? (i := 7) rfl))
theorem dX12_passes_12 : decode cX12_passes 12 = .ok (.ireturn, 1) := of_decide_eq_true (List.all_eq_true.mp dsX12_passes_0_ok (12, (.ireturn, 1)) (List.mem_of_getElem? (i := 8) rfl))
def fX12_passes (N : Nat) (mmI : Nat → Int32) (mm_hushOfF : Nat → Int32) (mm_talkingOfF : Nat → Int32) (mm_sumFromF : Nat → Int32) (mm_nightOfF : Nat → Int32) (mm_askedF : Nat → Int32) (mm_mileOfF : Nat → Int32) (mm_roundsOfF : Nat → Int32) (mm_sumBehindF : Nat → Int32) (mm_stackL : Nat → Int64) (mm_codeSortF : Nat → Int32) (mm_codeValueF : Nat → Int32) (mm_milesToldF : Nat → Int32) (mm_placesF : Nat → Int32) (mm_placeAtF : Nat → Int32) (mm_talkOfF : Nat → Int32) (mm_earsF : Nat → Int32) (mm_heardFromF : Nat → Int32) (mm_sharpOfF : Nat → Int32) (mm_rowOfF : Nat → Int32) (mm_keptManyF : Nat → Int32) (mm_keptRowF : Nat → Int32)  (p1 : Int32) : Option (Int32 × (Nat → Int32) × (Nat → Int32) × (Nat → Int32) × (Nat → Int32) × (Nat → Int32) × (Nat → Int64) × (Nat → Int32) × (Nat → Int32) × (Nat → Int32)) :=
  (xq_bd (xq_ald 22 mm_hushOfF p1) fun v_1 => (xq_bd (fX12_ticks N mmI mm_talkingOfF mm_sumFromF mm_nightOfF mm_askedF mm_mileOfF mm_roundsOfF mm_sumBehindF mm_stackL mm_codeSortF mm_codeValueF mm_milesToldF mm_placesF mm_placeAtF mm_talkOfF mm_earsF mm_heardFromF mm_sharpOfF mm_rowOfF mm_keptManyF mm_keptRowF p1 v_1 0) fun (r_2_0, r_2_1, r_2_2, r_2_3, r_2_4, r_2_5, r_2_6, r_2_7, r_2_8, r_2_9) => some ((r_2_0, r_2_1, r_2_2, r_2_3, r_2_4, r_2_5, r_2_6, r_2_7, r_2_8, r_2_9))))
set_option maxHeartbeats 4000000 in
set_option maxRecDepth 100000 in
theorem kX12_passes (l : Launch) (dC : Nat → ClassId) (dI : Nat → Nat → Nat) (cI cB cJ cZ cM : ClassId) (z : Nat) (ad : Nat → Nat) (N : Nat) (a_p0 : Nat) (mmI : Nat → Int32) (mmJ : Nat → Int64) (mmR : Nat → Nat) (mm_hushOfF : Nat → Int32) (mm_talkingOfF : Nat → Int32) (mm_sumFromF : Nat → Int32) (mm_nightOfF : Nat → Int32) (mm_askedF : Nat → Int32) (mm_mileOfF : Nat → Int32) (mm_roundsOfF : Nat → Int32) (mm_sumBehindF : Nat → Int32) (mm_stackL : Nat → Int64) (mm_codeSortF : Nat → Int32) (mm_codeValueF : Nat → Int32) (mm_milesToldF : Nat → Int32) (mm_placesF : Nat → Int32) (mm_placeAtF : Nat → Int32) (mm_talkOfF : Nat → Int32) (mm_earsF : Nat → Int32) (mm_heardFromF : Nat → Int32) (mm_sharpOfF : Nat → Int32) (mm_rowOfF : Nat → Int32) (mm_keptManyF : Nat → Int32) (mm_keptRowF : Nat → Int32) (p1 : Int32) {r0 : Int32} {r1 : Nat → Int32} {r2 : Nat → Int32} {r3 : Nat → Int32} {r4 : Nat → Int32} {r5 : Nat → Int32} {r6 : Nat → Int64} {r7 : Nat → Int32} {r8 : Nat → Int32} {r9 : Nat → Int32} (hf : fX12_passes N mmI mm_hushOfF mm_talkingOfF mm_sumFromF mm_nightOfF mm_askedF mm_mileOfF mm_roundsOfF mm_sumBehindF mm_stackL mm_codeSortF mm_codeValueF mm_milesToldF mm_placesF mm_placeAtF mm_talkOfF mm_earsF mm_heardFromF mm_sharpOfF mm_rowOfF mm_keptManyF mm_keptRowF p1 = some (r0, r1, r2, r3, r4, r5, r6, r7, r8, r9)) : xq_Ct l yX12_passes wsX12_passes { frames := 6, cells := 0, slots := 0, locals := 146 } (dC, dI) vwCl (xq_tys cI cB cJ cZ cM) z ad [.ref a_p0, .int p1] [(a_p0, .inr (12, oX12 mmI mmJ mmR)), ((mmR 49), .inl (cI, 22, .inl mm_hushOfF)), ((mmR 48), .inl (cI, 22, .inl mm_talkingOfF)), ((mmR 24), .inl (cI, 6, .inl mm_sumFromF)), ((mmR 45), .inl (cI, 22, .inl mm_nightOfF)), ((mmR 58), .inl (cI, 12, .inl mm_askedF)), ((mmR 46), .inl (cI, 22, .inl mm_mileOfF)), ((mmR 47), .inl (cI, 22, .inl mm_roundsOfF)), ((mmR 25), .inl (cI, 6, .inl mm_sumBehindF)), ((mmR 57), .inl (cJ, 500, .inr (.inl mm_stackL))), ((mmR 26), .inl (cI, 3200, .inl mm_codeSortF)), ((mmR 27), .inl (cI, 3200, .inl mm_codeValueF)), ((mmR 14), .inl (cI, 2, .inl mm_milesToldF)), ((mmR 21), .inl (cI, 2, .inl mm_placesF)), ((mmR 22), .inl (cI, 12, .inl mm_placeAtF)), ((mmR 51), .inl (cI, 132, .inl mm_talkOfF)), ((mmR 18), .inl (cI, 2, .inl mm_earsF)), ((mmR 59), .inl (cI, 70, .inl mm_heardFromF)), ((mmR 20), .inl (cI, 14, .inl mm_sharpOfF)), ((mmR 50), .inl (cI, 154, .inl mm_rowOfF)), ((mmR 52), .inl (cI, 22, .inl mm_keptManyF)), ((mmR 53), .inl (cI, 2640, .inl mm_keptRowF))] [(a_p0, .inr (12, oX12 mmI mmJ mmR)), ((mmR 49), .inl (cI, 22, .inl mm_hushOfF)), ((mmR 48), .inl (cI, 22, .inl r1)), ((mmR 24), .inl (cI, 6, .inl mm_sumFromF)), ((mmR 45), .inl (cI, 22, .inl r2)), ((mmR 58), .inl (cI, 12, .inl r3)), ((mmR 46), .inl (cI, 22, .inl r4)), ((mmR 47), .inl (cI, 22, .inl r5)), ((mmR 25), .inl (cI, 6, .inl mm_sumBehindF)), ((mmR 57), .inl (cJ, 500, .inr (.inl r6))), ((mmR 26), .inl (cI, 3200, .inl mm_codeSortF)), ((mmR 27), .inl (cI, 3200, .inl mm_codeValueF)), ((mmR 14), .inl (cI, 2, .inl mm_milesToldF)), ((mmR 21), .inl (cI, 2, .inl mm_placesF)), ((mmR 22), .inl (cI, 12, .inl mm_placeAtF)), ((mmR 51), .inl (cI, 132, .inl mm_talkOfF)), ((mmR 18), .inl (cI, 2, .inl mm_earsF)), ((mmR 59), .inl (cI, 70, .inl r7)), ((mmR 20), .inl (cI, 14, .inl mm_sharpOfF)), ((mmR 50), .inl (cI, 154, .inl mm_rowOfF)), ((mmR 52), .inl (cI, 22, .inl r8)), ((mmR 53), .inl (cI, 2640, .inl r9))] (some (.int r0)) := by
  intro sz
  refine Met.ofW (cc := cX12_passes) (maxL := 2) (ret := (some .int)) (by decide) rfl ?_
  intro p e s m args below meth c s₁ B hml hv
  obtain ⟨rfl, hsz, hP, hK, hD0, hE, hz⟩ := hv
  have hx := B.exec
  have hb := B.bytes
  have hr := B.returns
  have hts := atoms_spec (ws := wsX12_passes) B.pre
  have hown : s.vm.findClass RX12 = some m.cls := findClass_of_methodNamed B.named
  have hlocks := B.notSynchronized
  subst hsz
  have hD := hD0.self (sz := s.heap.size)
  have hN := xq_Env.of hE hz hD0
  generalize hAe : va_A [(a_p0, .inr (12, oX12 mmI mmJ mmR)), ((mmR 49), .inl (cI, 22, .inl mm_hushOfF)), ((mmR 48), .inl (cI, 22, .inl mm_talkingOfF)), ((mmR 24), .inl (cI, 6, .inl mm_sumFromF)), ((mmR 45), .inl (cI, 22, .inl mm_nightOfF)), ((mmR 58), .inl (cI, 12, .inl mm_askedF)), ((mmR 46), .inl (cI, 22, .inl mm_mileOfF)), ((mmR 47), .inl (cI, 22, .inl mm_roundsOfF)), ((mmR 25), .inl (cI, 6, .inl mm_sumBehindF)), ((mmR 57), .inl (cJ, 500, .inr (.inl mm_stackL))), ((mmR 26), .inl (cI, 3200, .inl mm_codeSortF)), ((mmR 27), .inl (cI, 3200, .inl mm_codeValueF)), ((mmR 14), .inl (cI, 2, .inl mm_milesToldF)), ((mmR 21), .inl (cI, 2, .inl mm_placesF)), ((mmR 22), .inl (cI, 12, .inl mm_placeAtF)), ((mmR 51), .inl (cI, 132, .inl mm_talkOfF)), ((mmR 18), .inl (cI, 2, .inl mm_earsF)), ((mmR 59), .inl (cI, 70, .inl mm_heardFromF)), ((mmR 20), .inl (cI, 14, .inl mm_sharpOfF)), ((mmR 50), .inl (cI, 154, .inl mm_rowOfF)), ((mmR 52), .inl (cI, 22, .inl mm_keptManyF)), ((mmR 53), .inl (cI, 2640, .inl mm_keptRowF))] s.heap.size = A at hD hN ⊢
  have hA : ∀ q : Nat, s.heap.size ≤ q → A q := fun q h => by rw [← hAe]; exact Or.inr h
  clear hAe hD0
  have hS : va_S A s.heap s.heap [] := va_S.rf
  have hl := lv_entry ([.ref a_p0, .int p1]) (n := 2) (Nat.le_of_ble_eq_true rfl)
  rw [lg_entry_eq]
  generalize (lg_sl ([.ref a_p0, .int p1]) ++ List.replicate (2 - (lg_sl ([.ref a_p0, .int p1])).length) Slot.unset).toArray = ls at hl ⊢
  have hl : lv_has ls 2 [(0, .ref a_p0), (1, .int p1)] := hl
  have hw0 := hts (.fieldLink RX12 162 "DistantVoiceModel" "hushOf" "[I") (by decide +kernel)
  have hinX12 : ∀ w ∈ wsX120, w ∈ wsX12_passes := fun w h => List.mem_cons_of_mem _ (List.mem_append_right _ h)
  unfold fX12_passes at hf
  refine lv_aload_n hx hb dX12_passes_0 rfl (lv_at hl 0 rfl) ?_
  refine lv_iload_n hx hb dX12_passes_1 rfl (lv_at hl 1 rfl) ?_
  refine lv_aload_n hx hb dX12_passes_2 rfl (lv_at hl 0 rfl) ?_
  refine va_get (D := (dC, dI)) (ci := 12) (v := .ref ((mmR 49))) (C := RX12) (T := TX12) (N := 70) hx hb hts hinX12 hown hK hP 0 rfl rfl 49 (by decide) hw0 (fun _ h9 => h9) rfl dX12_passes_3 ?_
  refine lv_iload_n hx hb dX12_passes_6 rfl (lv_at hl 1 rfl) ?_
  refine xq_iald hx hb hK hP 1 0 rfl rfl hf dX12_passes_7 (fun v_1 hf => ?_)
  refine lv_iconst (v := 0) hx hb dX12_passes_8 (by decide) ?_
  obtain ⟨⟨r_2_0, r_2_1, r_2_2, r_2_3, r_2_4, r_2_5, r_2_6, r_2_7, r_2_8, r_2_9⟩, h_3, hf⟩ := xq_bd_some hf
  refine xq_callV (As := [.int p1, .int v_1, .int 0]) (rest := []) (ci := 12) (q0 := 0) ⟨hx, hb, hml, hown, hts⟩ (kX12_ticks l dC dI cI cB cJ cZ cM z ad N a_p0 mmI mmJ mmR mm_talkingOfF mm_sumFromF mm_nightOfF mm_askedF mm_mileOfF mm_roundsOfF mm_sumBehindF mm_stackL mm_codeSortF mm_codeValueF mm_milesToldF mm_placesF mm_placeAtF mm_talkOfF mm_earsF mm_heardFromF mm_sharpOfF mm_rowOfF mm_keptManyF mm_keptRowF p1 v_1 0 h_3) (cwV 3 hts gX12_passes_X12_ticks rfl rfl rfl (by decide +kernel) ⟨Nat.le_of_ble_eq_true rfl, Nat.le_of_ble_eq_true rfl⟩) hN hK hP hD hS hA [0, 2, 3, 4, 5, 6, 7, 8, 9, 10, 11, 12, 13, 14, 15, 16, 17, 18, 19, 20, 21] (by decide) rfl rfl rfl rfl rfl rfl hl.1 rfl (Nat.le_of_ble_eq_true rfl) dX12_passes_9 ⟨Nat.zero_le _, Nat.zero_le _⟩ (fun H locs hP hD hS => ?_)
  have hP : va_P (dC, dI) vwCl [(a_p0, .inr (12, oX12 mmI mmJ mmR)), ((mmR 49), .inl (cI, 22, .inl mm_hushOfF)), ((mmR 48), .inl (cI, 22, .inl r_2_1)), ((mmR 24), .inl (cI, 6, .inl mm_sumFromF)), ((mmR 45), .inl (cI, 22, .inl r_2_2)), ((mmR 58), .inl (cI, 12, .inl r_2_3)), ((mmR 46), .inl (cI, 22, .inl r_2_4)), ((mmR 47), .inl (cI, 22, .inl r_2_5)), ((mmR 25), .inl (cI, 6, .inl mm_sumBehindF)), ((mmR 57), .inl (cJ, 500, .inr (.inl r_2_6))), ((mmR 26), .inl (cI, 3200, .inl mm_codeSortF)), ((mmR 27), .inl (cI, 3200, .inl mm_codeValueF)), ((mmR 14), .inl (cI, 2, .inl mm_milesToldF)), ((mmR 21), .inl (cI, 2, .inl mm_placesF)), ((mmR 22), .inl (cI, 12, .inl mm_placeAtF)), ((mmR 51), .inl (cI, 132, .inl mm_talkOfF)), ((mmR 18), .inl (cI, 2, .inl mm_earsF)), ((mmR 59), .inl (cI, 70, .inl r_2_7)), ((mmR 20), .inl (cI, 14, .inl mm_sharpOfF)), ((mmR 50), .inl (cI, 154, .inl mm_rowOfF)), ((mmR 52), .inl (cI, 22, .inl r_2_8)), ((mmR 53), .inl (cI, 2640, .inl r_2_9))] H := hP
  have hD : va_D A [(a_p0, .inr (12, oX12 mmI mmJ mmR)), ((mmR 49), .inl (cI, 22, .inl mm_hushOfF)), ((mmR 48), .inl (cI, 22, .inl r_2_1)), ((mmR 24), .inl (cI, 6, .inl mm_sumFromF)), ((mmR 45), .inl (cI, 22, .inl r_2_2)), ((mmR 58), .inl (cI, 12, .inl r_2_3)), ((mmR 46), .inl (cI, 22, .inl r_2_4)), ((mmR 47), .inl (cI, 22, .inl r_2_5)), ((mmR 25), .inl (cI, 6, .inl mm_sumBehindF)), ((mmR 57), .inl (cJ, 500, .inr (.inl r_2_6))), ((mmR 26), .inl (cI, 3200, .inl mm_codeSortF)), ((mmR 27), .inl (cI, 3200, .inl mm_codeValueF)), ((mmR 14), .inl (cI, 2, .inl mm_milesToldF)), ((mmR 21), .inl (cI, 2, .inl mm_placesF)), ((mmR 22), .inl (cI, 12, .inl mm_placeAtF)), ((mmR 51), .inl (cI, 132, .inl mm_talkOfF)), ((mmR 18), .inl (cI, 2, .inl mm_earsF)), ((mmR 59), .inl (cI, 70, .inl r_2_7)), ((mmR 20), .inl (cI, 14, .inl mm_sharpOfF)), ((mmR 50), .inl (cI, 154, .inl mm_rowOfF)), ((mmR 52), .inl (cI, 22, .inl r_2_8)), ((mmR 53), .inl (cI, 2640, .inl r_2_9))] := hD
  refine W.eq (g2 := F0 m 12 ls [.int r_2_0]) rfl ?_
  have hP9 := hP
  have hD9 := hD
  have hS9 := hS
  cases hf
  exact xq_iret hx hb hr hlocks hK hP9 hD9 hS9 dX12_passes_12
set_option maxRecDepth 20000 in
theorem ggX12_runsOn_X12_passes : GoodIn wsX12_runsOn wsX12_passes := goodIn_r _ [5, 6, 7, 8, 9, 4, 10, 11, 12, 13, 14, 15, 16, 17, 18, 19, 20, 21, 22, 23, 24, 25, 26, 27, 28, 29, 30, 31, 32, 33, 34, 35, 36, 37, 38, 39, 40, 41, 42, 43, 44, 45, 46, 47, 48, 49, 50, 51, 52, 53, 54, 55, 56, 57, 58, 59, 60, 61, 62, 63, 64, 65, 66, 67, 68, 69, 70, 71, 72, 73, 74, 75, 76, 77, 78, 79, 80, 81, 82, 83, 84, 85, 86, 87, 88, 89, 90, 91, 92, 93, 94, 95, 96, 97, 98, 99, 100, 101, 102, 103, 104, 105, 106, 107, 108, 109, 110, 111, 112, 113, 114, 115, 116, 117, 118, 119, 120, 121, 122, 123, 124, 125, 126, 127, 128, 129, 130, 131, 132, 133, 134, 135, 136, 137, 138, 139, 140, 141, 142, 143, 144, 145, 146, 147, 148, 149, 150, 151, 152, 153, 154, 155] rfl (by decide +kernel)
set_option maxRecDepth 20000 in
theorem gX12_runsOn_X12_passes : GoodIn wsX12_runsOn (wsV RX12 462 RX12 yX12_passes wsX12_passes) := goodIn_app (goodIn_of _ (by decide +kernel)) ggX12_runsOn_X12_passes
def dsX12_runsOn_0 : List (Nat × Instr × Nat) := [(0, (.iconst 0, 1)), (1, (.istore_n 2, 1)), (2, (.iload_n 2, 1)), (3, (.iload_n 1, 1)), (4, (.if_icmp .ge 15, 3)), (7, (.aload_n 0, 1)), (8, (.iconst 1, 1)), (9, (.invokevirtual 462, 3)), (12, (.pop, 1)), (13, (.iinc 2 1, 3)), (16, (.goto (-14), 3)), (19, (.return_, 1))]
theorem dsX12_runsOn_0_ok : (dsX12_runsOn_0.all fun q => decide (decode cX12_runsOn q.1 = .ok q.2)) = true := by decide +kernel
theorem dX12_runsOn_0 : decode cX12_runsOn 0 = .ok (.iconst 0, 1) := of_decide_eq_true (List.all_eq_true.mp dsX12_runsOn_0_ok (0, (.iconst 0, 1)) (List.mem_of_getElem? (i := 0) rfl))
theorem dX12_runsOn_1 : decode cX12_runsOn 1 = .ok (.istore_n 2, 1) := of_decide_eq_true (List.all_eq_true.mp dsX12_runsOn_0_ok (1, (.istore_n 2, 1)) (List.mem_of_getElem? (i := 1) rfl))
theorem dX12_runsOn_2 : decode cX12_runsOn 2 = .ok (.iload_n 2, 1) := of_decide_eq_true (List.all_eq_true.mp dsX12_runsOn_0_ok (2, (.iload_n 2, 1)) (List.mem_of_getElem? (i := 2) rfl))
theorem dX12_runsOn_3 : decode cX12_runsOn 3 = .ok (.iload_n 1, 1) := of_decide_eq_true (List.all_eq_true.mp dsX12_runsOn_0_ok (3, (.iload_n 1, 1)) (List.mem_of_getElem? (i := 3) rfl))
theorem dX12_runsOn_4 : decode cX12_runsOn 4 = .ok (.if_icmp .ge 15, 3) := of_decide_eq_true (List.all_eq_true.mp dsX12_runsOn_0_ok (4, (.if_icmp .ge 15, 3)) (List.mem_of_getElem? (i := 4) rfl))
theorem dX12_runsOn_7 : decode cX12_runsOn 7 = .ok (.aload_n 0, 1) := of_decide_eq_true (List.all_eq_true.mp dsX12_runsOn_0_ok (7, (.aload_n 0, 1)) (List.mem_of_getElem? (i := 5) rfl))
theorem dX12_runsOn_8 : decode cX12_runsOn 8 = .ok (.iconst 1, 1) := of_decide_eq_true (List.all_eq_true.mp dsX12_runsOn_0_ok (8, (.iconst 1, 1)) (List.mem_of_getElem? (i := 6) rfl))
theorem dX12_runsOn_9 : decode cX12_runsOn 9 = .ok (.invokevirtual 462, 3) := of_decide_eq_true (List.all_eq_true.mp dsX12_runsOn_0_ok (9, (.invokevirtual 462, 3)) (List.mem_of_getElem? (i := 7) rfl))
theorem dX12_runsOn_12 : decode cX12_runsOn 12 = .ok (.pop, 1) := of_decide_eq_true (List.all_eq_true.mp dsX12_runsOn_0_ok (12, (.pop, 1)) (List.mem_of_getElem? (i := 8) rfl))
theorem dX12_runsOn_13 : decode cX12_runsOn 13 = .ok (.iinc 2 1, 3) := of_decide_eq_true (List.all_eq_true.mp dsX12_runsOn_0_ok (13, (.iinc 2 1, 3)) (List.mem_of_getElem? (i := 9) rfl))
theorem dX12_runsOn_16 : decode cX12_runsOn 16 = .ok (.goto (-14), 3) := of_decide_eq_true (List.all_eq_true.mp dsX12_runsOn_0_ok (16, (.goto (-14), 3)) (List.mem_of_getElem? (i := 10) rfl))
theorem dX12_runsOn_19 : decode cX12_runsOn 19 = .ok (.return_, 1) := of_decide_eq_true (List.all_eq_true.mp dsX12_runsOn_0_ok (19, (.return_, 1)) (List.mem_of_getElem? (i := 11) rfl))
def fX12_runsOn_l2 (N : Nat) (mmI : Nat → Int32) (mm_hushOfF : Nat → Int32) (mm_sumFromF : Nat → Int32) (mm_sumBehindF : Nat → Int32) (mm_codeSortF : Nat → Int32) (mm_codeValueF : Nat → Int32) (mm_milesToldF : Nat → Int32) (mm_placesF : Nat → Int32) (mm_placeAtF : Nat → Int32) (mm_talkOfF : Nat → Int32) (mm_earsF : Nat → Int32) (mm_sharpOfF : Nat → Int32) (mm_rowOfF : Nat → Int32)  (k2 : ((Nat → Int32) × (Nat → Int32) × (Nat → Int32) × (Nat → Int32) × (Nat → Int32) × (Nat → Int64) × (Nat → Int32) × (Nat → Int32) × (Nat → Int32) × Int32 × Int32) → Option ((Nat → Int32) × (Nat → Int32) × (Nat → Int32) × (Nat → Int32) × (Nat → Int32) × (Nat → Int64) × (Nat → Int32) × (Nat → Int32) × (Nat → Int32))) : ((Nat → Int32) × (Nat → Int32) × (Nat → Int32) × (Nat → Int32) × (Nat → Int32) × (Nat → Int64) × (Nat → Int32) × (Nat → Int32) × (Nat → Int32) × Int32 × Int32) → Option ((Nat → Int32) × (Nat → Int32) × (Nat → Int32) × (Nat → Int32) × (Nat → Int32) × (Nat → Int64) × (Nat → Int32) × (Nat → Int32) × (Nat → Int32)) :=
  fun (mm_talkingOfF_2, mm_nightOfF_2, mm_askedF_2, mm_mileOfF_2, mm_roundsOfF_2, mm_stackL_2, mm_heardFromF_2, mm_keptManyF_2, mm_keptRowF_2, x1_2, x2_2) => (if x1_2 ≤ x2_2 then some ((mm_talkingOfF_2, mm_nightOfF_2, mm_askedF_2, mm_mileOfF_2, mm_roundsOfF_2, mm_stackL_2, mm_heardFromF_2, mm_keptManyF_2, mm_keptRowF_2)) else (xq_bd (fX12_passes N mmI mm_hushOfF mm_talkingOfF_2 mm_sumFromF mm_nightOfF_2 mm_askedF_2 mm_mileOfF_2 mm_roundsOfF_2 mm_sumBehindF mm_stackL_2 mm_codeSortF mm_codeValueF mm_milesToldF mm_placesF mm_placeAtF mm_talkOfF mm_earsF mm_heardFromF_2 mm_sharpOfF mm_rowOfF mm_keptManyF_2 mm_keptRowF_2 1) fun (r_1_0, r_1_1, r_1_2, r_1_3, r_1_4, r_1_5, r_1_6, r_1_7, r_1_8, r_1_9) => k2 (r_1_1, r_1_2, r_1_3, r_1_4, r_1_5, r_1_6, r_1_7, r_1_8, r_1_9, x1_2, x2_2 + 1)))
def fX12_runsOn (N : Nat) (mmI : Nat → Int32) (mm_hushOfF : Nat → Int32) (mm_talkingOfF : Nat → Int32) (mm_sumFromF : Nat → Int32) (mm_nightOfF : Nat → Int32) (mm_askedF : Nat → Int32) (mm_mileOfF : Nat → Int32) (mm_roundsOfF : Nat → Int32) (mm_sumBehindF : Nat → Int32) (mm_stackL : Nat → Int64) (mm_codeSortF : Nat → Int32) (mm_codeValueF : Nat → Int32) (mm_milesToldF : Nat → Int32) (mm_placesF : Nat → Int32) (mm_placeAtF : Nat → Int32) (mm_talkOfF : Nat → Int32) (mm_earsF : Nat → Int32) (mm_heardFromF : Nat → Int32) (mm_sharpOfF : Nat → Int32) (mm_rowOfF : Nat → Int32) (mm_keptManyF : Nat → Int32) (mm_keptRowF : Nat → Int32)  (p1 : Int32) : Option ((Nat → Int32) × (Nat → Int32) × (Nat → Int32) × (Nat → Int32) × (Nat → Int32) × (Nat → Int64) × (Nat → Int32) × (Nat → Int32) × (Nat → Int32)) :=
  xq_loop (fX12_runsOn_l2 N mmI mm_hushOfF mm_sumFromF mm_sumBehindF mm_codeSortF mm_codeValueF mm_milesToldF mm_placesF mm_placeAtF mm_talkOfF mm_earsF mm_sharpOfF mm_rowOfF) N (mm_talkingOfF, mm_nightOfF, mm_askedF, mm_mileOfF, mm_roundsOfF, mm_stackL, mm_heardFromF, mm_keptManyF, mm_keptRowF, p1, 0)
set_option maxHeartbeats 4000000 in
set_option maxRecDepth 100000 in
theorem kX12_runsOn (l : Launch) (dC : Nat → ClassId) (dI : Nat → Nat → Nat) (cI cB cJ cZ cM : ClassId) (z : Nat) (ad : Nat → Nat) (N : Nat) (a_p0 : Nat) (mmI : Nat → Int32) (mmJ : Nat → Int64) (mmR : Nat → Nat) (mm_hushOfF : Nat → Int32) (mm_talkingOfF : Nat → Int32) (mm_sumFromF : Nat → Int32) (mm_nightOfF : Nat → Int32) (mm_askedF : Nat → Int32) (mm_mileOfF : Nat → Int32) (mm_roundsOfF : Nat → Int32) (mm_sumBehindF : Nat → Int32) (mm_stackL : Nat → Int64) (mm_codeSortF : Nat → Int32) (mm_codeValueF : Nat → Int32) (mm_milesToldF : Nat → Int32) (mm_placesF : Nat → Int32) (mm_placeAtF : Nat → Int32) (mm_talkOfF : Nat → Int32) (mm_earsF : Nat → Int32) (mm_heardFromF : Nat → Int32) (mm_sharpOfF : Nat → Int32) (mm_rowOfF : Nat → Int32) (mm_keptManyF : Nat → Int32) (mm_keptRowF : Nat → Int32) (p1 : Int32) {r0 : Nat → Int32} {r1 : Nat → Int32} {r2 : Nat → Int32} {r3 : Nat → Int32} {r4 : Nat → Int32} {r5 : Nat → Int64} {r6 : Nat → Int32} {r7 : Nat → Int32} {r8 : Nat → Int32} (hf : fX12_runsOn N mmI mm_hushOfF mm_talkingOfF mm_sumFromF mm_nightOfF mm_askedF mm_mileOfF mm_roundsOfF mm_sumBehindF mm_stackL mm_codeSortF mm_codeValueF mm_milesToldF mm_placesF mm_placeAtF mm_talkOfF mm_earsF mm_heardFromF mm_sharpOfF mm_rowOfF mm_keptManyF mm_keptRowF p1 = some (r0, r1, r2, r3, r4, r5, r6, r7, r8)) : xq_Ct l yX12_runsOn wsX12_runsOn { frames := 7, cells := 0, slots := 0, locals := 167 } (dC, dI) vwCl (xq_tys cI cB cJ cZ cM) z ad [.ref a_p0, .int p1] [(a_p0, .inr (12, oX12 mmI mmJ mmR)), ((mmR 49), .inl (cI, 22, .inl mm_hushOfF)), ((mmR 48), .inl (cI, 22, .inl mm_talkingOfF)), ((mmR 24), .inl (cI, 6, .inl mm_sumFromF)), ((mmR 45), .inl (cI, 22, .inl mm_nightOfF)), ((mmR 58), .inl (cI, 12, .inl mm_askedF)), ((mmR 46), .inl (cI, 22, .inl mm_mileOfF)), ((mmR 47), .inl (cI, 22, .inl mm_roundsOfF)), ((mmR 25), .inl (cI, 6, .inl mm_sumBehindF)), ((mmR 57), .inl (cJ, 500, .inr (.inl mm_stackL))), ((mmR 26), .inl (cI, 3200, .inl mm_codeSortF)), ((mmR 27), .inl (cI, 3200, .inl mm_codeValueF)), ((mmR 14), .inl (cI, 2, .inl mm_milesToldF)), ((mmR 21), .inl (cI, 2, .inl mm_placesF)), ((mmR 22), .inl (cI, 12, .inl mm_placeAtF)), ((mmR 51), .inl (cI, 132, .inl mm_talkOfF)), ((mmR 18), .inl (cI, 2, .inl mm_earsF)), ((mmR 59), .inl (cI, 70, .inl mm_heardFromF)), ((mmR 20), .inl (cI, 14, .inl mm_sharpOfF)), ((mmR 50), .inl (cI, 154, .inl mm_rowOfF)), ((mmR 52), .inl (cI, 22, .inl mm_keptManyF)), ((mmR 53), .inl (cI, 2640, .inl mm_keptRowF))] [(a_p0, .inr (12, oX12 mmI mmJ mmR)), ((mmR 49), .inl (cI, 22, .inl mm_hushOfF)), ((mmR 48), .inl (cI, 22, .inl r0)), ((mmR 24), .inl (cI, 6, .inl mm_sumFromF)), ((mmR 45), .inl (cI, 22, .inl r1)), ((mmR 58), .inl (cI, 12, .inl r2)), ((mmR 46), .inl (cI, 22, .inl r3)), ((mmR 47), .inl (cI, 22, .inl r4)), ((mmR 25), .inl (cI, 6, .inl mm_sumBehindF)), ((mmR 57), .inl (cJ, 500, .inr (.inl r5))), ((mmR 26), .inl (cI, 3200, .inl mm_codeSortF)), ((mmR 27), .inl (cI, 3200, .inl mm_codeValueF)), ((mmR 14), .inl (cI, 2, .inl mm_milesToldF)), ((mmR 21), .inl (cI, 2, .inl mm_placesF)), ((mmR 22), .inl (cI, 12, .inl mm_placeAtF)), ((mmR 51), .inl (cI, 132, .inl mm_talkOfF)), ((mmR 18), .inl (cI, 2, .inl mm_earsF)), ((mmR 59), .inl (cI, 70, .inl r6)), ((mmR 20), .inl (cI, 14, .inl mm_sharpOfF)), ((mmR 50), .inl (cI, 154, .inl mm_rowOfF)), ((mmR 52), .inl (cI, 22, .inl r7)), ((mmR 53), .inl (cI, 2640, .inl r8))] none := by
  intro sz
  refine Met.ofW (cc := cX12_runsOn) (maxL := 3) (ret := none) (by decide) rfl ?_
  intro p e s m args below meth c s₁ B hml hv
  obtain ⟨rfl, hsz, hP, hK, hD0, hE, hz⟩ := hv
  have hx := B.exec
  have hb := B.bytes
  have hr := B.returns
  have hts := atoms_spec (ws := wsX12_runsOn) B.pre
  have hown : s.vm.findClass RX12 = some m.cls := findClass_of_methodNamed B.named
  have hlocks := B.notSynchronized
  subst hsz
  have hD := hD0.self (sz := s.heap.size)
  have hN := xq_Env.of hE hz hD0
  generalize hAe : va_A [(a_p0, .inr (12, oX12 mmI mmJ mmR)), ((mmR 49), .inl (cI, 22, .inl mm_hushOfF)), ((mmR 48), .inl (cI, 22, .inl mm_talkingOfF)), ((mmR 24), .inl (cI, 6, .inl mm_sumFromF)), ((mmR 45), .inl (cI, 22, .inl mm_nightOfF)), ((mmR 58), .inl (cI, 12, .inl mm_askedF)), ((mmR 46), .inl (cI, 22, .inl mm_mileOfF)), ((mmR 47), .inl (cI, 22, .inl mm_roundsOfF)), ((mmR 25), .inl (cI, 6, .inl mm_sumBehindF)), ((mmR 57), .inl (cJ, 500, .inr (.inl mm_stackL))), ((mmR 26), .inl (cI, 3200, .inl mm_codeSortF)), ((mmR 27), .inl (cI, 3200, .inl mm_codeValueF)), ((mmR 14), .inl (cI, 2, .inl mm_milesToldF)), ((mmR 21), .inl (cI, 2, .inl mm_placesF)), ((mmR 22), .inl (cI, 12, .inl mm_placeAtF)), ((mmR 51), .inl (cI, 132, .inl mm_talkOfF)), ((mmR 18), .inl (cI, 2, .inl mm_earsF)), ((mmR 59), .inl (cI, 70, .inl mm_heardFromF)), ((mmR 20), .inl (cI, 14, .inl mm_sharpOfF)), ((mmR 50), .inl (cI, 154, .inl mm_rowOfF)), ((mmR 52), .inl (cI, 22, .inl mm_keptManyF)), ((mmR 53), .inl (cI, 2640, .inl mm_keptRowF))] s.heap.size = A at hD hN ⊢
  have hA : ∀ q : Nat, s.heap.size ≤ q → A q := fun q h => by rw [← hAe]; exact Or.inr h
  clear hAe hD0
  have hS : va_S A s.heap s.heap [] := va_S.rf
  have hl := lv_entry ([.ref a_p0, .int p1]) (n := 3) (Nat.le_of_ble_eq_true rfl)
  rw [lg_entry_eq]
  generalize (lg_sl ([.ref a_p0, .int p1]) ++ List.replicate (3 - (lg_sl ([.ref a_p0, .int p1])).length) Slot.unset).toArray = ls at hl ⊢
  have hl : lv_has ls 3 [(0, .ref a_p0), (1, .int p1)] := hl
  have l2 : ∀ n2 : Nat, ∀ (mm_talkingOfF_2 : Nat → Int32) (mm_nightOfF_2 : Nat → Int32) (mm_askedF_2 : Nat → Int32) (mm_mileOfF_2 : Nat → Int32) (mm_roundsOfF_2 : Nat → Int32) (mm_stackL_2 : Nat → Int64) (mm_heardFromF_2 : Nat → Int32) (mm_keptManyF_2 : Nat → Int32) (mm_keptRowF_2 : Nat → Int32) (x1_2 : Int32) (x2_2 : Int32) (ls : Array Slot) (H : Heap) (locs : List Loc), xq_loop (fX12_runsOn_l2 N mmI mm_hushOfF mm_sumFromF mm_sumBehindF mm_codeSortF mm_codeValueF mm_milesToldF mm_placesF mm_placeAtF mm_talkOfF mm_earsF mm_sharpOfF mm_rowOfF) n2 (mm_talkingOfF_2, mm_nightOfF_2, mm_askedF_2, mm_mileOfF_2, mm_roundsOfF_2, mm_stackL_2, mm_heardFromF_2, mm_keptManyF_2, mm_keptRowF_2, x1_2, x2_2) = some (r0, r1, r2, r3, r4, r5, r6, r7, r8) → va_P (dC, dI) vwCl [(a_p0, .inr (12, oX12 mmI mmJ mmR)), ((mmR 49), .inl (cI, 22, .inl mm_hushOfF)), ((mmR 48), .inl (cI, 22, .inl mm_talkingOfF_2)), ((mmR 24), .inl (cI, 6, .inl mm_sumFromF)), ((mmR 45), .inl (cI, 22, .inl mm_nightOfF_2)), ((mmR 58), .inl (cI, 12, .inl mm_askedF_2)), ((mmR 46), .inl (cI, 22, .inl mm_mileOfF_2)), ((mmR 47), .inl (cI, 22, .inl mm_roundsOfF_2)), ((mmR 25), .inl (cI, 6, .inl mm_sumBehindF)), ((mmR 57), .inl (cJ, 500, .inr (.inl mm_stackL_2))), ((mmR 26), .inl (cI, 3200, .inl mm_codeSortF)), ((mmR 27), .inl (cI, 3200, .inl mm_codeValueF)), ((mmR 14), .inl (cI, 2, .inl mm_milesToldF)), ((mmR 21), .inl (cI, 2, .inl mm_placesF)), ((mmR 22), .inl (cI, 12, .inl mm_placeAtF)), ((mmR 51), .inl (cI, 132, .inl mm_talkOfF)), ((mmR 18), .inl (cI, 2, .inl mm_earsF)), ((mmR 59), .inl (cI, 70, .inl mm_heardFromF_2)), ((mmR 20), .inl (cI, 14, .inl mm_sharpOfF)), ((mmR 50), .inl (cI, 154, .inl mm_rowOfF)), ((mmR 52), .inl (cI, 22, .inl mm_keptManyF_2)), ((mmR 53), .inl (cI, 2640, .inl mm_keptRowF_2))] H → va_D A [(a_p0, .inr (12, oX12 mmI mmJ mmR)), ((mmR 49), .inl (cI, 22, .inl mm_hushOfF)), ((mmR 48), .inl (cI, 22, .inl mm_talkingOfF_2)), ((mmR 24), .inl (cI, 6, .inl mm_sumFromF)), ((mmR 45), .inl (cI, 22, .inl mm_nightOfF_2)), ((mmR 58), .inl (cI, 12, .inl mm_askedF_2)), ((mmR 46), .inl (cI, 22, .inl mm_mileOfF_2)), ((mmR 47), .inl (cI, 22, .inl mm_roundsOfF_2)), ((mmR 25), .inl (cI, 6, .inl mm_sumBehindF)), ((mmR 57), .inl (cJ, 500, .inr (.inl mm_stackL_2))), ((mmR 26), .inl (cI, 3200, .inl mm_codeSortF)), ((mmR 27), .inl (cI, 3200, .inl mm_codeValueF)), ((mmR 14), .inl (cI, 2, .inl mm_milesToldF)), ((mmR 21), .inl (cI, 2, .inl mm_placesF)), ((mmR 22), .inl (cI, 12, .inl mm_placeAtF)), ((mmR 51), .inl (cI, 132, .inl mm_talkOfF)), ((mmR 18), .inl (cI, 2, .inl mm_earsF)), ((mmR 59), .inl (cI, 70, .inl mm_heardFromF_2)), ((mmR 20), .inl (cI, 14, .inl mm_sharpOfF)), ((mmR 50), .inl (cI, 154, .inl mm_rowOfF)), ((mmR 52), .inl (cI, 22, .inl mm_keptManyF_2)), ((mmR 53), .inl (cI, 2640, .inl mm_keptRowF_2))] → va_S A s.heap H locs → lv_has ls 3 [(0, .ref a_p0), (1, .int x1_2), (2, .int x2_2)] → W p l e (headSpec wsX12_runsOn { frames := 7, cells := 0, slots := 0, locals := 167 }).room s m [.ref a_p0, .int p1].toArray below meth c H locs 0 0 (MQ below (xq_Q (dC, dI) vwCl (xq_tys cI cB cJ cZ cM) A [(a_p0, .inr (12, oX12 mmI mmJ mmR)), ((mmR 49), .inl (cI, 22, .inl mm_hushOfF)), ((mmR 48), .inl (cI, 22, .inl r0)), ((mmR 24), .inl (cI, 6, .inl mm_sumFromF)), ((mmR 45), .inl (cI, 22, .inl r1)), ((mmR 58), .inl (cI, 12, .inl r2)), ((mmR 46), .inl (cI, 22, .inl r3)), ((mmR 47), .inl (cI, 22, .inl r4)), ((mmR 25), .inl (cI, 6, .inl mm_sumBehindF)), ((mmR 57), .inl (cJ, 500, .inr (.inl r5))), ((mmR 26), .inl (cI, 3200, .inl mm_codeSortF)), ((mmR 27), .inl (cI, 3200, .inl mm_codeValueF)), ((mmR 14), .inl (cI, 2, .inl mm_milesToldF)), ((mmR 21), .inl (cI, 2, .inl mm_placesF)), ((mmR 22), .inl (cI, 12, .inl mm_placeAtF)), ((mmR 51), .inl (cI, 132, .inl mm_talkOfF)), ((mmR 18), .inl (cI, 2, .inl mm_earsF)), ((mmR 59), .inl (cI, 70, .inl r6)), ((mmR 20), .inl (cI, 14, .inl mm_sharpOfF)), ((mmR 50), .inl (cI, 154, .inl mm_rowOfF)), ((mmR 52), .inl (cI, 22, .inl r7)), ((mmR 53), .inl (cI, 2640, .inl r8))] none) [.ref a_p0, .int p1].toArray s 0 0 A) (F0 m 2 ls []) := by
    intro n2
    induction n2 with
    | zero => intro mm_talkingOfF_2 mm_nightOfF_2 mm_askedF_2 mm_mileOfF_2 mm_roundsOfF_2 mm_stackL_2 mm_heardFromF_2 mm_keptManyF_2 mm_keptRowF_2 x1_2 x2_2 ls H locs hf; cases (show none = some (r0, r1, r2, r3, r4, r5, r6, r7, r8) from hf)
    | succ n2 ih2 =>
      intro mm_talkingOfF_2 mm_nightOfF_2 mm_askedF_2 mm_mileOfF_2 mm_roundsOfF_2 mm_stackL_2 mm_heardFromF_2 mm_keptManyF_2 mm_keptRowF_2 x1_2 x2_2 ls H locs hf hP hD hS hl
      have hf : fX12_runsOn_l2 N mmI mm_hushOfF mm_sumFromF mm_sumBehindF mm_codeSortF mm_codeValueF mm_milesToldF mm_placesF mm_placeAtF mm_talkOfF mm_earsF mm_sharpOfF mm_rowOfF (xq_loop (fX12_runsOn_l2 N mmI mm_hushOfF mm_sumFromF mm_sumBehindF mm_codeSortF mm_codeValueF mm_milesToldF mm_placesF mm_placeAtF mm_talkOfF mm_earsF mm_sharpOfF mm_rowOfF) n2) (mm_talkingOfF_2, mm_nightOfF_2, mm_askedF_2, mm_mileOfF_2, mm_roundsOfF_2, mm_stackL_2, mm_heardFromF_2, mm_keptManyF_2, mm_keptRowF_2, x1_2, x2_2) = some (r0, r1, r2, r3, r4, r5, r6, r7, r8) := hf
      unfold fX12_runsOn_l2 at hf
      refine lv_iload_n hx hb dX12_runsOn_2 rfl (lv_at hl 2 rfl) ?_
      refine lv_iload_n hx hb dX12_runsOn_3 rfl (lv_at hl 1 rfl) ?_
      refine lv_icmp_ge (tgt := 19) hx hb dX12_runsOn_4 (by decide) (fun c_ => ?_) (fun c_ => ?_)
      · have hf := xq_pos hf c_
        have hP9 := hP
        have hD9 := hD
        have hS9 := hS
        cases hf
        exact xq_vret hx hb hr hlocks hK hP9 hD9 hS9 dX12_runsOn_19
      · have hf := xq_neg hf c_
        refine lv_aload_n hx hb dX12_runsOn_7 rfl (lv_at hl 0 rfl) ?_
        refine lv_iconst (v := 1) hx hb dX12_runsOn_8 (by decide) ?_
        obtain ⟨⟨r_1_0, r_1_1, r_1_2, r_1_3, r_1_4, r_1_5, r_1_6, r_1_7, r_1_8, r_1_9⟩, h_2, hf⟩ := xq_bd_some hf
        refine xq_callV (As := [.int 1]) (rest := []) (ci := 12) (q0 := 0) ⟨hx, hb, hml, hown, hts⟩ (kX12_passes l dC dI cI cB cJ cZ cM z ad N a_p0 mmI mmJ mmR mm_hushOfF mm_talkingOfF_2 mm_sumFromF mm_nightOfF_2 mm_askedF_2 mm_mileOfF_2 mm_roundsOfF_2 mm_sumBehindF mm_stackL_2 mm_codeSortF mm_codeValueF mm_milesToldF mm_placesF mm_placeAtF mm_talkOfF mm_earsF mm_heardFromF_2 mm_sharpOfF mm_rowOfF mm_keptManyF_2 mm_keptRowF_2 1 h_2) (cwV 1 hts gX12_runsOn_X12_passes rfl rfl rfl (by decide +kernel) ⟨Nat.le_of_ble_eq_true rfl, Nat.le_of_ble_eq_true rfl⟩) hN hK hP hD hS hA [0, 1, 2, 3, 4, 5, 6, 7, 8, 9, 10, 11, 12, 13, 14, 15, 16, 17, 18, 19, 20, 21] (by decide) rfl rfl rfl rfl rfl rfl hl.1 rfl (Nat.le_of_ble_eq_true rfl) dX12_runsOn_9 ⟨Nat.zero_le _, Nat.zero_le _⟩ (fun H locs hP hD hS => ?_)
        have hP : va_P (dC, dI) vwCl [(a_p0, .inr (12, oX12 mmI mmJ mmR)), ((mmR 49), .inl (cI, 22, .inl mm_hushOfF)), ((mmR 48), .inl (cI, 22, .inl r_1_1)), ((mmR 24), .inl (cI, 6, .inl mm_sumFromF)), ((mmR 45), .inl (cI, 22, .inl r_1_2)), ((mmR 58), .inl (cI, 12, .inl r_1_3)), ((mmR 46), .inl (cI, 22, .inl r_1_4)), ((mmR 47), .inl (cI, 22, .inl r_1_5)), ((mmR 25), .inl (cI, 6, .inl mm_sumBehindF)), ((mmR 57), .inl (cJ, 500, .inr (.inl r_1_6))), ((mmR 26), .inl (cI, 3200, .inl mm_codeSortF)), ((mmR 27), .inl (cI, 3200, .inl mm_codeValueF)), ((mmR 14), .inl (cI, 2, .inl mm_milesToldF)), ((mmR 21), .inl (cI, 2, .inl mm_placesF)), ((mmR 22), .inl (cI, 12, .inl mm_placeAtF)), ((mmR 51), .inl (cI, 132, .inl mm_talkOfF)), ((mmR 18), .inl (cI, 2, .inl mm_earsF)), ((mmR 59), .inl (cI, 70, .inl r_1_7)), ((mmR 20), .inl (cI, 14, .inl mm_sharpOfF)), ((mmR 50), .inl (cI, 154, .inl mm_rowOfF)), ((mmR 52), .inl (cI, 22, .inl r_1_8)), ((mmR 53), .inl (cI, 2640, .inl r_1_9))] H := hP
        have hD : va_D A [(a_p0, .inr (12, oX12 mmI mmJ mmR)), ((mmR 49), .inl (cI, 22, .inl mm_hushOfF)), ((mmR 48), .inl (cI, 22, .inl r_1_1)), ((mmR 24), .inl (cI, 6, .inl mm_sumFromF)), ((mmR 45), .inl (cI, 22, .inl r_1_2)), ((mmR 58), .inl (cI, 12, .inl r_1_3)), ((mmR 46), .inl (cI, 22, .inl r_1_4)), ((mmR 47), .inl (cI, 22, .inl r_1_5)), ((mmR 25), .inl (cI, 6, .inl mm_sumBehindF)), ((mmR 57), .inl (cJ, 500, .inr (.inl r_1_6))), ((mmR 26), .inl (cI, 3200, .inl mm_codeSortF)), ((mmR 27), .inl (cI, 3200, .inl mm_codeValueF)), ((mmR 14), .inl (cI, 2, .inl mm_milesToldF)), ((mmR 21), .inl (cI, 2, .inl mm_placesF)), ((mmR 22), .inl (cI, 12, .inl mm_placeAtF)), ((mmR 51), .inl (cI, 132, .inl mm_talkOfF)), ((mmR 18), .inl (cI, 2, .inl mm_earsF)), ((mmR 59), .inl (cI, 70, .inl r_1_7)), ((mmR 20), .inl (cI, 14, .inl mm_sharpOfF)), ((mmR 50), .inl (cI, 154, .inl mm_rowOfF)), ((mmR 52), .inl (cI, 22, .inl r_1_8)), ((mmR 53), .inl (cI, 2640, .inl r_1_9))] := hD
        refine W.eq (g2 := F0 m 12 ls [.int r_1_0]) rfl ?_
        refine lv_pop hx hb dX12_runsOn_12 rfl ?_
        refine lv_iinc (v := x2_2 + 1) (lv' := [(2, .int (x2_2 + 1)), (0, .ref a_p0), (1, .int x1_2)]) hx hb dX12_runsOn_13 hl (k := 2) rfl (congrArg (fun q9 => x2_2 + q9) (by decide : Int32.ofInt 1 = 1)) (by decide) rfl (fun ls hl => ?_)
        refine lv_goto (tgt := 2) hx hb dX12_runsOn_16 (by decide) ?_
        exact ih2 r_1_1 r_1_2 r_1_3 r_1_4 r_1_5 r_1_6 r_1_7 r_1_8 r_1_9 x1_2 (x2_2 + 1) _ _ _ hf hP hD hS (lv_sub hl [1, 2, 0] rfl)
  unfold fX12_runsOn at hf
  refine lv_iconst (v := 0) hx hb dX12_runsOn_0 (by decide) ?_
  refine lv_istore_n (lv' := [(2, .int 0), (0, .ref a_p0), (1, .int p1)]) hx hb dX12_runsOn_1 rfl hl (by decide) rfl (fun ls hl => ?_)
  exact l2 N mm_talkingOfF mm_nightOfF mm_askedF mm_mileOfF mm_roundsOfF mm_stackL mm_heardFromF mm_keptManyF mm_keptRowF p1 0 _ _ _ hf hP hD hS (lv_sub hl [1, 2, 0] rfl)
def dsX12_isEar_0 : List (Nat × Instr × Nat) := [(0, (.iload_n 1, 1)), (1, (.ifCond .lt 20, 3)), (4, (.iload_n 1, 1)), (5, (.aload_n 0, 1)), (6, (.getfield 66, 3)), (9, (.aload_n 0, 1)), (10, (.getfield 51, 3)), (13, (.iaload, 1)), (14, (.if_icmp .ge 7, 3)), (17, (.iconst 1, 1)), (18, (.goto 4, 3)), (21, (.iconst 0, 1)), (22, (.ireturn, 1))]
theorem dsX12_isEar_0_ok : (dsX12_isEar_0.all fun q => decide (decode cX12_isEar q.1 = .ok q.2)) = true := by decide +kernel
theorem dX12_isEar_0 : decode cX12_isEar 0 = .ok (.iload_n 1, 1) := of_decide_eq_true (List.all_eq_true.mp dsX12_isEar_0_ok (0, (.iload_n 1, 1)) (List.mem_of_getElem? (i := 0) rfl))
theorem dX12_isEar_1 : decode cX12_isEar 1 = .ok (.ifCond .lt 20, 3) := of_decide_eq_true (List.all_eq_true.mp dsX12_isEar_0_ok (1, (.ifCond .lt 20, 3)) (List.mem_of_getElem? (i := 1) rfl))
theorem dX12_isEar_4 : decode cX12_isEar 4 = .ok (.iload_n 1, 1) := of_decide_eq_true (List.all_eq_true.mp dsX12_isEar_0_ok (4, (.iload_n 1, 1)) (List.mem_of_getElem? (i := 2) rfl))
theorem dX12_isEar_5 : decode cX12_isEar 5 = .ok (.aload_n 0, 1) := of_decide_eq_true (List.all_eq_true.mp dsX12_isEar_0_ok (5, (.aload_n 0, 1)) (List.mem_of_getElem? (i := 3) rfl))
theorem dX12_isEar_6 : decode cX12_isEar 6 = .ok (.getfield 66, 3) := of_decide_eq_true (List.all_eq_true.mp dsX12_isEar_0_ok (6, (.getfield 66, 3)) (List.mem_of_getElem? (i := 4) rfl))
theorem dX12_isEar_9 : decode cX12_isEar 9 = .ok (.aload_n 0, 1) := of_decide_eq_true (List.all_eq_true.mp dsX12_isEar_0_ok (9, (.aload_n 0, 1)) (List.mem_of_getElem? (i := 5) rfl))
theorem dX12_isEar_10 : decode cX12_isEar 10 = .ok (.getfield 51, 3) := of_decide_eq_true (List.all_eq_true.mp dsX12_isEar_0_ok (10, (.getfield 51, 3)) (List.mem_of_getElem? (i := 6) rfl))
theorem dX12_isEar_13 : decode cX12_isEar 13 = .ok (.iaload, 1) := of_decide_eq_true (List.all_eq_true.mp dsX12_isEar_0_ok (13, (.iaload, 1)) (List.mem_of_getElem? (i := 7) rfl))
theorem dX12_isEar_14 : decode cX12_isEar 14 = .ok (.if_icmp .ge 7, 3) := of_decide_eq_true (List.all_eq_true.mp dsX12_isEar_0_ok (14, (.if_icmp .ge 7, 3)) (List.mem_of_getElem? (i := 8) rfl))
theorem dX12_isEar_17 : decode cX12_isEar 17 = .ok (.iconst 1, 1) := of_decide_eq_true (List.all_eq_true.mp dsX12_isEar_0_ok (17, (.iconst 1, 1)) (List.mem_of_getElem? (i := 9) rfl))
theorem dX12_isEar_18 : decode cX12_isEar 18 = .ok (.goto 4, 3) := of_decide_eq_true (List.all_eq_true.mp dsX12_isEar_0_ok (18, (.goto 4, 3)) (List.mem_of_getElem? (i := 10) rfl))
theorem dX12_isEar_21 : decode cX12_isEar 21 = .ok (.iconst 0, 1) := of_decide_eq_true (List.all_eq_true.mp dsX12_isEar_0_ok (21, (.iconst 0, 1)) (List.mem_of_getElem? (i := 11) rfl))
theorem dX12_isEar_22 : decode cX12_isEar 22 = .ok (.ireturn, 1) := of_decide_eq_true (List.all_eq_true.mp dsX12_isEar_0_ok (22, (.ireturn, 1)) (List.mem_of_getElem? (i := 12) rfl))
def fX12_isEar (N : Nat) (mmI : Nat → Int32) (mm_earsF : Nat → Int32)  (p1 : Int32) : Option (Int32) :=
  (if p1 < 0 then some 0 else (xq_bd (xq_ald 2 mm_earsF (mmI 13)) fun v_1 => (if v_1 ≤ p1 then some 0 else some 1)))
set_option maxHeartbeats 4000000 in
set_option maxRecDepth 100000 in
theorem kX12_isEar (l : Launch) (dC : Nat → ClassId) (dI : Nat → Nat → Nat) (cI cB cJ cZ cM : ClassId) (z : Nat) (ad : Nat → Nat) (N : Nat) (a_p0 : Nat) (mmI : Nat → Int32) (mmJ : Nat → Int64) (mmR : Nat → Nat) (mm_earsF : Nat → Int32) (p1 : Int32) {r0 : Int32} (hf : fX12_isEar N mmI mm_earsF p1 = some r0) : xq_Ct l yX12_isEar wsX12_isEar { frames := 0, cells := 0, slots := 0, locals := 0 } (dC, dI) vwCl (xq_tys cI cB cJ cZ cM) z ad [.ref a_p0, .int p1] [(a_p0, .inr (12, oX12 mmI mmJ mmR)), ((mmR 18), .inl (cI, 2, .inl mm_earsF))] [(a_p0, .inr (12, oX12 mmI mmJ mmR)), ((mmR 18), .inl (cI, 2, .inl mm_earsF))] (some (.int r0)) := by
  intro sz
  refine Met.ofW (cc := cX12_isEar) (maxL := 2) (ret := (some .boolean)) (by decide) rfl ?_
  intro p e s m args below meth c s₁ B hml hv
  obtain ⟨rfl, hsz, hP, hK, hD0, hE, hz⟩ := hv
  have hx := B.exec
  have hb := B.bytes
  have hr := B.returns
  have hts := atoms_spec (ws := wsX12_isEar) B.pre
  have hown : s.vm.findClass RX12 = some m.cls := findClass_of_methodNamed B.named
  have hlocks := B.notSynchronized
  subst hsz
  have hD := hD0.self (sz := s.heap.size)
  have hN := xq_Env.of hE hz hD0
  generalize hAe : va_A [(a_p0, .inr (12, oX12 mmI mmJ mmR)), ((mmR 18), .inl (cI, 2, .inl mm_earsF))] s.heap.size = A at hD hN ⊢
  have hA : ∀ q : Nat, s.heap.size ≤ q → A q := fun q h => by rw [← hAe]; exact Or.inr h
  clear hAe hD0
  have hS : va_S A s.heap s.heap [] := va_S.rf
  have hl := lv_entry ([.ref a_p0, .int p1]) (n := 2) (Nat.le_of_ble_eq_true rfl)
  rw [lg_entry_eq]
  generalize (lg_sl ([.ref a_p0, .int p1]) ++ List.replicate (2 - (lg_sl ([.ref a_p0, .int p1])).length) Slot.unset).toArray = ls at hl ⊢
  have hl : lv_has ls 2 [(0, .ref a_p0), (1, .int p1)] := hl
  have hw0 := hts (.fieldLink RX12 66 "DistantVoiceModel" "ears" "[I") (by decide +kernel)
  have hinX12 : ∀ w ∈ wsX120, w ∈ wsX12_isEar := fun w h => List.mem_cons_of_mem _ (List.mem_append_right _ h)
  have hw2 := hts (.fieldLink RX12 51 "DistantVoiceModel" "bank" "I") (by decide +kernel)
  unfold fX12_isEar at hf
  refine lv_iload_n hx hb dX12_isEar_0 rfl (lv_at hl 1 rfl) ?_
  refine lv_if_lt (tgt := 21) hx hb dX12_isEar_1 (by decide) (fun c_ => ?_) (fun c_ => ?_)
  · have hf := xq_pos hf c_
    refine lv_iconst (v := 0) hx hb dX12_isEar_21 (by decide) ?_
    have hP9 := hP
    have hD9 := hD
    have hS9 := hS
    cases hf
    exact xq_zret hx hb hr (by decide +kernel) hlocks hK hP9 hD9 hS9 dX12_isEar_22
  · have hf := xq_neg hf c_
    refine lv_iload_n hx hb dX12_isEar_4 rfl (lv_at hl 1 rfl) ?_
    refine lv_aload_n hx hb dX12_isEar_5 rfl (lv_at hl 0 rfl) ?_
    refine va_get (D := (dC, dI)) (ci := 12) (v := .ref ((mmR 18))) (C := RX12) (T := TX12) (N := 70) hx hb hts hinX12 hown hK hP 0 rfl rfl 18 (by decide) hw0 (fun _ h9 => h9) rfl dX12_isEar_6 ?_
    refine lv_aload_n hx hb dX12_isEar_9 rfl (lv_at hl 0 rfl) ?_
    refine va_get (D := (dC, dI)) (ci := 12) (v := .int (mmI 13)) (C := RX12) (T := TX12) (N := 70) hx hb hts hinX12 hown hK hP 0 rfl rfl 13 (by decide) hw2 (fun _ h9 => h9) rfl dX12_isEar_10 ?_
    refine xq_iald hx hb hK hP 1 0 rfl rfl hf dX12_isEar_13 (fun v_1 hf => ?_)
    refine lv_icmp_ge (tgt := 21) hx hb dX12_isEar_14 (by decide) (fun c_ => ?_) (fun c_ => ?_)
    · have hf := xq_pos hf c_
      refine lv_iconst (v := 0) hx hb dX12_isEar_21 (by decide) ?_
      have hP9 := hP
      have hD9 := hD
      have hS9 := hS
      cases hf
      exact xq_zret hx hb hr (by decide +kernel) hlocks hK hP9 hD9 hS9 dX12_isEar_22
    · have hf := xq_neg hf c_
      refine lv_iconst (v := 1) hx hb dX12_isEar_17 (by decide) ?_
      refine lv_goto (tgt := 22) hx hb dX12_isEar_18 (by decide) ?_
      have hP9 := hP
      have hD9 := hD
      have hS9 := hS
      cases hf
      exact xq_zret hx hb hr (by decide +kernel) hlocks hK hP9 hD9 hS9 dX12_isEar_22
def dsX12_isPlace_0 : List (Nat × Instr × Nat) := [(0, (.iload_n 1, 1)), (1, (.ifCond .lt 20, 3)), (4, (.iload_n 1, 1)), (5, (.aload_n 0, 1)), (6, (.getfield 75, 3)), (9, (.aload_n 0, 1)), (10, (.getfield 51, 3)), (13, (.iaload, 1)), (14, (.if_icmp .ge 7, 3)), (17, (.iconst 1, 1)), (18, (.goto 4, 3)), (21, (.iconst 0, 1)), (22, (.ireturn, 1))]
theorem dsX12_isPlace_0_ok : (dsX12_isPlace_0.all fun q => decide (decode cX12_isPlace q.1 = .ok q.2)) = true := by decide +kernel
theorem dX12_isPlace_0 : decode cX12_isPlace 0 = .ok (.iload_n 1, 1) := of_decide_eq_true (List.all_eq_true.mp dsX12_isPlace_0_ok (0, (.iload_n 1, 1)) (List.mem_of_getElem? (i := 0) rfl))
theorem dX12_isPlace_1 : decode cX12_isPlace 1 = .ok (.ifCond .lt 20, 3) := of_decide_eq_true (List.all_eq_true.mp dsX12_isPlace_0_ok (1, (.ifCond .lt 20, 3)) (List.mem_of_getElem? (i := 1) rfl))
theorem dX12_isPlace_4 : decode cX12_isPlace 4 = .ok (.iload_n 1, 1) := of_decide_eq_true (List.all_eq_true.mp dsX12_isPlace_0_ok (4, (.iload_n 1, 1)) (List.mem_of_getElem? (i := 2) rfl))
theorem dX12_isPlace_5 : decode cX12_isPlace 5 = .ok (.aload_n 0, 1) := of_decide_eq_true (List.all_eq_true.mp dsX12_isPlace_0_ok (5, (.aload_n 0, 1)) (List.mem_of_getElem? (i := 3) rfl))
theorem dX12_isPlace_6 : decode cX12_isPlace 6 = .ok (.getfield 75, 3) := of_decide_eq_true (List.all_eq_true.mp dsX12_isPlace_0_ok (6, (.getfield 75, 3)) (List.mem_of_getElem? (i := 4) rfl))
theorem dX12_isPlace_9 : decode cX12_isPlace 9 = .ok (.aload_n 0, 1) := of_decide_eq_true (List.all_eq_true.mp dsX12_isPlace_0_ok (9, (.aload_n 0, 1)) (List.mem_of_getElem? (i := 5) rfl))
theorem dX12_isPlace_10 : decode cX12_isPlace 10 = .ok (.getfield 51, 3) := of_decide_eq_true (List.all_eq_true.mp dsX12_isPlace_0_ok (10, (.getfield 51, 3)) (List.mem_of_getElem? (i := 6) rfl))
theorem dX12_isPlace_13 : decode cX12_isPlace 13 = .ok (.iaload, 1) := of_decide_eq_true (List.all_eq_true.mp dsX12_isPlace_0_ok (13, (.iaload, 1)) (List.mem_of_getElem? (i := 7) rfl))
theorem dX12_isPlace_14 : decode cX12_isPlace 14 = .ok (.if_icmp .ge 7, 3) := of_decide_eq_true (List.all_eq_true.mp dsX12_isPlace_0_ok (14, (.if_icmp .ge 7, 3)) (List.mem_of_getElem? (i := 8) rfl))
theorem dX12_isPlace_17 : decode cX12_isPlace 17 = .ok (.iconst 1, 1) := of_decide_eq_true (List.all_eq_true.mp dsX12_isPlace_0_ok (17, (.iconst 1, 1)) (List.mem_of_getElem? (i := 9) rfl))
theorem dX12_isPlace_18 : decode cX12_isPlace 18 = .ok (.goto 4, 3) := of_decide_eq_true (List.all_eq_true.mp dsX12_isPlace_0_ok (18, (.goto 4, 3)) (List.mem_of_getElem? (i := 10) rfl))
theorem dX12_isPlace_21 : decode cX12_isPlace 21 = .ok (.iconst 0, 1) := of_decide_eq_true (List.all_eq_true.mp dsX12_isPlace_0_ok (21, (.iconst 0, 1)) (List.mem_of_getElem? (i := 11) rfl))
theorem dX12_isPlace_22 : decode cX12_isPlace 22 = .ok (.ireturn, 1) := of_decide_eq_true (List.all_eq_true.mp dsX12_isPlace_0_ok (22, (.ireturn, 1)) (List.mem_of_getElem? (i := 12) rfl))
def fX12_isPlace (N : Nat) (mmI : Nat → Int32) (mm_placesF : Nat → Int32)  (p1 : Int32) : Option (Int32) :=
  (if p1 < 0 then some 0 else (xq_bd (xq_ald 2 mm_placesF (mmI 13)) fun v_1 => (if v_1 ≤ p1 then some 0 else some 1)))
set_option maxHeartbeats 4000000 in
set_option maxRecDepth 100000 in
theorem kX12_isPlace (l : Launch) (dC : Nat → ClassId) (dI : Nat → Nat → Nat) (cI cB cJ cZ cM : ClassId) (z : Nat) (ad : Nat → Nat) (N : Nat) (a_p0 : Nat) (mmI : Nat → Int32) (mmJ : Nat → Int64) (mmR : Nat → Nat) (mm_placesF : Nat → Int32) (p1 : Int32) {r0 : Int32} (hf : fX12_isPlace N mmI mm_placesF p1 = some r0) : xq_Ct l yX12_isPlace wsX12_isPlace { frames := 0, cells := 0, slots := 0, locals := 0 } (dC, dI) vwCl (xq_tys cI cB cJ cZ cM) z ad [.ref a_p0, .int p1] [(a_p0, .inr (12, oX12 mmI mmJ mmR)), ((mmR 21), .inl (cI, 2, .inl mm_placesF))] [(a_p0, .inr (12, oX12 mmI mmJ mmR)), ((mmR 21), .inl (cI, 2, .inl mm_placesF))] (some (.int r0)) := by
  intro sz
  refine Met.ofW (cc := cX12_isPlace) (maxL := 2) (ret := (some .boolean)) (by decide) rfl ?_
  intro p e s m args below meth c s₁ B hml hv
  obtain ⟨rfl, hsz, hP, hK, hD0, hE, hz⟩ := hv
  have hx := B.exec
  have hb := B.bytes
  have hr := B.returns
  have hts := atoms_spec (ws := wsX12_isPlace) B.pre
  have hown : s.vm.findClass RX12 = some m.cls := findClass_of_methodNamed B.named
  have hlocks := B.notSynchronized
  subst hsz
  have hD := hD0.self (sz := s.heap.size)
  have hN := xq_Env.of hE hz hD0
  generalize hAe : va_A [(a_p0, .inr (12, oX12 mmI mmJ mmR)), ((mmR 21), .inl (cI, 2, .inl mm_placesF))] s.heap.size = A at hD hN ⊢
  have hA : ∀ q : Nat, s.heap.size ≤ q → A q := fun q h => by rw [← hAe]; exact Or.inr h
  clear hAe hD0
  have hS : va_S A s.heap s.heap [] := va_S.rf
  have hl := lv_entry ([.ref a_p0, .int p1]) (n := 2) (Nat.le_of_ble_eq_true rfl)
  rw [lg_entry_eq]
  generalize (lg_sl ([.ref a_p0, .int p1]) ++ List.replicate (2 - (lg_sl ([.ref a_p0, .int p1])).length) Slot.unset).toArray = ls at hl ⊢
  have hl : lv_has ls 2 [(0, .ref a_p0), (1, .int p1)] := hl
  have hw0 := hts (.fieldLink RX12 75 "DistantVoiceModel" "places" "[I") (by decide +kernel)
  have hinX12 : ∀ w ∈ wsX120, w ∈ wsX12_isPlace := fun w h => List.mem_cons_of_mem _ (List.mem_append_right _ h)
  have hw2 := hts (.fieldLink RX12 51 "DistantVoiceModel" "bank" "I") (by decide +kernel)
  unfold fX12_isPlace at hf
  refine lv_iload_n hx hb dX12_isPlace_0 rfl (lv_at hl 1 rfl) ?_
  refine lv_if_lt (tgt := 21) hx hb dX12_isPlace_1 (by decide) (fun c_ => ?_) (fun c_ => ?_)
  · have hf := xq_pos hf c_
    refine lv_iconst (v := 0) hx hb dX12_isPlace_21 (by decide) ?_
    have hP9 := hP
    have hD9 := hD
    have hS9 := hS
    cases hf
    exact xq_zret hx hb hr (by decide +kernel) hlocks hK hP9 hD9 hS9 dX12_isPlace_22
  · have hf := xq_neg hf c_
    refine lv_iload_n hx hb dX12_isPlace_4 rfl (lv_at hl 1 rfl) ?_
    refine lv_aload_n hx hb dX12_isPlace_5 rfl (lv_at hl 0 rfl) ?_
    refine va_get (D := (dC, dI)) (ci := 12) (v := .ref ((mmR 21))) (C := RX12) (T := TX12) (N := 70) hx hb hts hinX12 hown hK hP 0 rfl rfl 21 (by decide) hw0 (fun _ h9 => h9) rfl dX12_isPlace_6 ?_
    refine lv_aload_n hx hb dX12_isPlace_9 rfl (lv_at hl 0 rfl) ?_
    refine va_get (D := (dC, dI)) (ci := 12) (v := .int (mmI 13)) (C := RX12) (T := TX12) (N := 70) hx hb hts hinX12 hown hK hP 0 rfl rfl 13 (by decide) hw2 (fun _ h9 => h9) rfl dX12_isPlace_10 ?_
    refine xq_iald hx hb hK hP 1 0 rfl rfl hf dX12_isPlace_13 (fun v_1 hf => ?_)
    refine lv_icmp_ge (tgt := 21) hx hb dX12_isPlace_14 (by decide) (fun c_ => ?_) (fun c_ => ?_)
    · have hf := xq_pos hf c_
      refine lv_iconst (v := 0) hx hb dX12_isPlace_21 (by decide) ?_
      have hP9 := hP
      have hD9 := hD
      have hS9 := hS
      cases hf
      exact xq_zret hx hb hr (by decide +kernel) hlocks hK hP9 hD9 hS9 dX12_isPlace_22
    · have hf := xq_neg hf c_
      refine lv_iconst (v := 1) hx hb dX12_isPlace_17 (by decide) ?_
      refine lv_goto (tgt := 22) hx hb dX12_isPlace_18 (by decide) ?_
      have hP9 := hP
      have hD9 := hD
      have hS9 := hS
      cases hf
      exact xq_zret hx hb hr (by decide +kernel) hlocks hK hP9 hD9 hS9 dX12_isPlace_22
def dsX12_bits_0 : List (Nat × Instr × Nat) := [(0, (.iconst 0, 1)), (1, (.istore_n 1, 1)), (2, (.iload_n 0, 1)), (3, (.istore_n 2, 1)), (4, (.iload_n 2, 1)), (5, (.ifCond .eq 15, 3)), (8, (.iinc 1 1, 3)), (11, (.iload_n 2, 1)), (12, (.iload_n 2, 1)), (13, (.iconst 1, 1)), (14, (.isub, 1)), (15, (.iand, 1)), (16, (.istore_n 2, 1)), (17, (.goto (-13), 3)), (20, (.iload_n 1, 1)), (21, (.ireturn, 1))]
theorem dsX12_bits_0_ok : (dsX12_bits_0.all fun q => decide (decode cX12_bits q.1 = .ok q.2)) = true := by decide +kernel
theorem dX12_bits_0 : decode cX12_bits 0 = .ok (.iconst 0, 1) := of_decide_eq_true (List.all_eq_true.mp dsX12_bits_0_ok (0, (.iconst 0, 1)) (List.mem_of_getElem? (i := 0) rfl))
theorem dX12_bits_1 : decode cX12_bits 1 = .ok (.istore_n 1, 1) := of_decide_eq_true (List.all_eq_true.mp dsX12_bits_0_ok (1, (.istore_n 1, 1)) (List.mem_of_getElem? (i := 1) rfl))
theorem dX12_bits_2 : decode cX12_bits 2 = .ok (.iload_n 0, 1) := of_decide_eq_true (List.all_eq_true.mp dsX12_bits_0_ok (2, (.iload_n 0, 1)) (List.mem_of_getElem? (i := 2) rfl))
theorem dX12_bits_3 : decode cX12_bits 3 = .ok (.istore_n 2, 1) := of_decide_eq_true (List.all_eq_true.mp dsX12_bits_0_ok (3, (.istore_n 2, 1)) (List.mem_of_getElem? (i := 3) rfl))
theorem dX12_bits_4 : decode cX12_bits 4 = .ok (.iload_n 2, 1) := of_decide_eq_true (List.all_eq_true.mp dsX12_bits_0_ok (4, (.iload_n 2, 1)) (List.mem_of_getElem? (i := 4) rfl))
theorem dX12_bits_5 : decode cX12_bits 5 = .ok (.ifCond .eq 15, 3) := of_decide_eq_true (List.all_eq_true.mp dsX12_bits_0_ok (5, (.ifCond .eq 15, 3)) (List.mem_of_getElem? (i := 5) rfl))
theorem dX12_bits_8 : decode cX12_bits 8 = .ok (.iinc 1 1, 3) := of_decide_eq_true (List.all_eq_true.mp dsX12_bits_0_ok (8, (.iinc 1 1, 3)) (List.mem_of_getElem? (i := 6) rfl))
theorem dX12_bits_11 : decode cX12_bits 11 = .ok (.iload_n 2, 1) := of_decide_eq_true (List.all_eq_true.mp dsX12_bits_0_ok (11, (.iload_n 2, 1)) (List.mem_of_getElem? (i := 7) rfl))
theorem dX12_bits_12 : decode cX12_bits 12 = .ok (.iload_n 2, 1) := of_decide_eq_true (List.all_eq_true.mp dsX12_bits_0_ok (12, (.iload_n 2, 1)) (List.mem_of_getElem? (i := 8) rfl))
theorem dX12_bits_13 : decode cX12_bits 13 = .ok (.iconst 1, 1) := of_decide_eq_true (List.all_eq_true.mp dsX12_bits_0_ok (13, (.iconst 1, 1)) (List.mem_of_getElem? (i := 9) rfl))
theorem dX12_bits_14 : decode cX12_bits 14 = .ok (.isub, 1) := of_decide_eq_true (List.all_eq_true.mp dsX12_bits_0_ok (14, (.isub, 1)) (List.mem_of_getElem? (i := 10) rfl))
theorem dX12_bits_15 : decode cX12_bits 15 = .ok (.iand, 1) := of_decide_eq_true (List.all_eq_true.mp dsX12_bits_0_ok (15, (.iand, 1)) (List.mem_of_getElem? (i := 11) rfl))
theorem dX12_bits_16 : decode cX12_bits 16 = .ok (.istore_n 2, 1) := of_decide_eq_true (List.all_eq_true.mp dsX12_bits_0_ok (16, (.istore_n 2, 1)) (List.mem_of_getElem? (i := 12) rfl))
theorem dX12_bits_17 : decode cX12_bits 17 = .ok (.goto (-13), 3) := of_decide_eq_true (List.all_eq_true.mp dsX12_bits_0_ok (17, (.goto (-13), 3)) (List.mem_of_getElem? (i := 13) rfl))
theorem dX12_bits_20 : decode cX12_bits 20 = .ok (.iload_n 1, 1) := of_decide_eq_true (List.all_eq_true.mp dsX12_bits_0_ok (20, (.iload_n 1, 1)) (List.mem_of_getElem? (i := 14) rfl))
theorem dX12_bits_21 : decode cX12_bits 21 = .ok (.ireturn, 1) := of_decide_eq_true (List.all_eq_true.mp dsX12_bits_0_ok (21, (.ireturn, 1)) (List.mem_of_getElem? (i := 15) rfl))
def fX12_bits_l4 (N : Nat)   (k4 : (Int32 × Int32) → Option (Int32)) : (Int32 × Int32) → Option (Int32) :=
  fun (x1_4, x2_4) => (if x2_4 = 0 then some x1_4 else k4 (x1_4 + 1, x2_4 &&& (x2_4 - 1)))
def fX12_bits (N : Nat)   (p0 : Int32) : Option (Int32) :=
  xq_loop (fX12_bits_l4 N) N (0, p0)
set_option maxHeartbeats 4000000 in
set_option maxRecDepth 100000 in
theorem kX12_bits (l : Launch) (dC : Nat → ClassId) (dI : Nat → Nat → Nat) (cI cB cJ cZ cM : ClassId) (z : Nat) (ad : Nat → Nat) (N : Nat) (p0 : Int32) {r0 : Int32} (hf : fX12_bits N p0 = some r0) : xq_Ct l yX12_bits wsX12_bits { frames := 0, cells := 0, slots := 0, locals := 0 } (dC, dI) vwCl (xq_tys cI cB cJ cZ cM) z ad [.int p0] [] [] (some (.int r0)) := by
  intro sz
  refine Met.ofW (cc := cX12_bits) (maxL := 3) (ret := (some .int)) (by decide) rfl ?_
  intro p e s m args below meth c s₁ B hml hv
  obtain ⟨rfl, hsz, hP, hK, hD0, hE, hz⟩ := hv
  have hx := B.exec
  have hb := B.bytes
  have hr := B.returns
  have hts := atoms_spec (ws := wsX12_bits) B.pre
  have hown : s.vm.findClass RX12 = some m.cls := findClass_of_methodNamed B.named
  have hlocks := B.notSynchronized
  subst hsz
  have hD := hD0.self (sz := s.heap.size)
  have hN := xq_Env.of hE hz hD0
  generalize hAe : va_A [] s.heap.size = A at hD hN ⊢
  have hA : ∀ q : Nat, s.heap.size ≤ q → A q := fun q h => by rw [← hAe]; exact Or.inr h
  clear hAe hD0
  have hS : va_S A s.heap s.heap [] := va_S.rf
  have hl := lv_entry ([.int p0]) (n := 3) (Nat.le_of_ble_eq_true rfl)
  rw [lg_entry_eq]
  generalize (lg_sl ([.int p0]) ++ List.replicate (3 - (lg_sl ([.int p0])).length) Slot.unset).toArray = ls at hl ⊢
  have hl : lv_has ls 3 [(0, .int p0)] := hl
  have l4 : ∀ n4 : Nat, ∀ (x1_4 : Int32) (x2_4 : Int32) (ls : Array Slot) (H : Heap) (locs : List Loc), xq_loop (fX12_bits_l4 N) n4 (x1_4, x2_4) = some r0 → va_P (dC, dI) vwCl [] H → va_D A [] → va_S A s.heap H locs → lv_has ls 3 [(1, .int x1_4), (2, .int x2_4)] → W p l e (headSpec wsX12_bits { frames := 0, cells := 0, slots := 0, locals := 0 }).room s m [.int p0].toArray below meth c H locs 0 0 (MQ below (xq_Q (dC, dI) vwCl (xq_tys cI cB cJ cZ cM) A [] (some (.int r0))) [.int p0].toArray s 0 0 A) (F0 m 4 ls []) := by
    intro n4
    induction n4 with
    | zero => intro x1_4 x2_4 ls H locs hf; cases (show none = some r0 from hf)
    | succ n4 ih4 =>
      intro x1_4 x2_4 ls H locs hf hP hD hS hl
      have hf : fX12_bits_l4 N (xq_loop (fX12_bits_l4 N) n4) (x1_4, x2_4) = some r0 := hf
      unfold fX12_bits_l4 at hf
      refine lv_iload_n hx hb dX12_bits_4 rfl (lv_at hl 1 rfl) ?_
      refine lv_if_eq (tgt := 20) hx hb dX12_bits_5 (by decide) (fun c_ => ?_) (fun c_ => ?_)
      · have hf := xq_pos hf c_
        refine lv_iload_n hx hb dX12_bits_20 rfl (lv_at hl 0 rfl) ?_
        have hP9 := hP
        have hD9 := hD
        have hS9 := hS
        cases hf
        exact xq_iret hx hb hr hlocks hK hP9 hD9 hS9 dX12_bits_21
      · have hf := xq_neg hf c_
        refine lv_iinc (v := x1_4 + 1) (lv' := [(1, .int (x1_4 + 1)), (2, .int x2_4)]) hx hb dX12_bits_8 hl (k := 0) rfl (congrArg (fun q9 => x1_4 + q9) (by decide : Int32.ofInt 1 = 1)) (by decide) rfl (fun ls hl => ?_)
        refine lv_iload_n hx hb dX12_bits_11 rfl (lv_at hl 1 rfl) ?_
        refine lv_iload_n hx hb dX12_bits_12 rfl (lv_at hl 1 rfl) ?_
        refine lv_iconst (v := 1) hx hb dX12_bits_13 (by decide) ?_
        refine lv_isub hx hb dX12_bits_14 ?_
        refine lv_iand hx hb dX12_bits_15 ?_
        refine lv_istore_n (lv' := [(2, .int (x2_4 &&& (x2_4 - 1))), (1, .int (x1_4 + 1))]) hx hb dX12_bits_16 rfl hl (by decide) rfl (fun ls hl => ?_)
        refine lv_goto (tgt := 4) hx hb dX12_bits_17 (by decide) ?_
        exact ih4 (x1_4 + 1) (x2_4 &&& (x2_4 - 1)) _ _ _ hf hP hD hS (lv_sub hl [1, 0] rfl)
  unfold fX12_bits at hf
  refine lv_iconst (v := 0) hx hb dX12_bits_0 (by decide) ?_
  refine lv_istore_n (lv' := [(1, .int 0), (0, .int p0)]) hx hb dX12_bits_1 rfl hl (by decide) rfl (fun ls hl => ?_)
  refine lv_iload_n hx hb dX12_bits_2 rfl (lv_at hl 1 rfl) ?_
  refine lv_istore_n (lv' := [(2, .int p0), (1, .int 0), (0, .int p0)]) hx hb dX12_bits_3 rfl hl (by decide) rfl (fun ls hl => ?_)
  exact l4 N 0 p0 _ _ _ hf hP hD hS (lv_sub hl [1, 0] rfl)
set_option maxRecDepth 20000 in
theorem ggX12_has_X12_farOf : GoodIn wsX12_has wsX12_farOf := goodIn_r _ [18, 6, 1, 2, 19, 20, 21, 22, 23, 24, 25, 26, 27, 28, 29, 30, 31, 32, 33, 34, 35, 36, 37, 38, 39, 40, 41, 42, 43, 44, 45, 46, 47, 48, 49, 50, 51, 52, 53, 54, 55, 56, 57, 58, 59, 60, 61, 62, 63, 64, 65, 66, 67, 68, 69, 70, 71, 72, 73, 74, 75, 76, 77, 78, 79, 80, 81, 82, 83, 84, 85, 86, 87, 88] rfl (by decide +kernel)
set_option maxRecDepth 20000 in
theorem gX12_has_X12_farOf : GoodIn wsX12_has (wsV RX12 424 RX12 yX12_farOf wsX12_farOf) := goodIn_app (goodIn_of _ (by decide +kernel)) ggX12_has_X12_farOf
def dsX12_has_0 : List (Nat × Instr × Nat) := [(0, (.iload_n 1, 1)), (1, (.tableswitch 161 0 12 #[67, 77, 87, 97, 104, 111, 118, 125, 132, 138, 145, 150, 155], 67)), (68, (.aload_n 0, 1)), (69, (.getfield 54, 3)), (72, (.aload_n 0, 1)), (73, (.getfield 51, 3)), (76, (.iaload, 1)), (77, (.ireturn, 1)), (78, (.aload_n 0, 1)), (79, (.getfield 66, 3)), (82, (.aload_n 0, 1)), (83, (.getfield 51, 3)), (86, (.iaload, 1)), (87, (.ireturn, 1)), (88, (.aload_n 0, 1)), (89, (.getfield 75, 3)), (92, (.aload_n 0, 1)), (93, (.getfield 51, 3)), (96, (.iaload, 1)), (97, (.ireturn, 1)), (98, (.aload_n 0, 1)), (99, (.getfield 150, 3)), (102, (.iconst 0, 1)), (103, (.iaload, 1)), (104, (.ireturn, 1)), (105, (.aload_n 0, 1)), (106, (.getfield 153, 3)), (109, (.iconst 0, 1)), (110, (.iaload, 1)), (111, (.ireturn, 1)), (112, (.aload_n 0, 1)), (113, (.getfield 156, 3)), (116, (.iconst 0, 1)), (117, (.iaload, 1)), (118, (.ireturn, 1)), (119, (.aload_n 0, 1)), (120, (.getfield 159, 3)), (123, (.iconst 0, 1)), (124, (.iaload, 1)), (125, (.ireturn, 1)), (126, (.aload_n 0, 1)), (127, (.getfield 162, 3)), (130, (.iconst 0, 1)), (131, (.iaload, 1)), (132, (.ireturn, 1)), (133, (.aload_n 0, 1)), (134, (.iconst 0, 1)), (135, (.invokevirtual 424, 3)), (138, (.ireturn, 1)), (139, (.aload_n 0, 1)), (140, (.getfield 171, 3)), (143, (.iconst 0, 1)), (144, (.iaload, 1)), (145, (.ireturn, 1)), (146, (.aload_n 0, 1)), (147, (.getfield 201, 3)), (150, (.ireturn, 1)), (151, (.aload_n 0, 1)), (152, (.getfield 180, 3)), (155, (.ireturn, 1))]
theorem dsX12_has_0_ok : (dsX12_has_0.all fun q => decide (decode cX12_has q.1 = .ok q.2)) = true := by decide +kernel
theorem dX12_has_0 : decode cX12_has 0 = .ok (.iload_n 1, 1) := of_decide_eq_true (List.all_eq_true.mp dsX12_has_0_ok (0, (.iload_n 1, 1)) (List.mem_of_getElem? (i := 0) rfl))
theorem dX12_has_1 : decode cX12_has 1 = .ok (.tableswitch 161 0 12 #[67, 77, 87, 97, 104, 111, 118, 125, 132, 138, 145, 150, 155], 67) := of_decide_eq_true (List.all_eq_true.mp dsX12_has_0_ok (1, (.tableswitch 161 0 12 #[67, 77, 87, 97, 104, 111, 118, 125, 132, 138, 145, 150, 155], 67)) (List.mem_of_getElem? (i := 1) rfl))
theorem dX12_has_68 : decode cX12_has 68 = .ok (.aload_n 0, 1) := of_decide_eq_true (List.all_eq_true.mp dsX12_has_0_ok (68, (.aload_n 0, 1)) (List.mem_of_getElem? (i := 2) rfl))
theorem dX12_has_69 : decode cX12_has 69 = .ok (.getfield 54, 3) := of_decide_eq_true (List.all_eq_true.mp dsX12_has_0_ok (69, (.getfield 54, 3)) (List.mem_of_getElem? (i := 3) rfl))
theorem dX12_has_72 : decode cX12_has 72 = .ok (.aload_n 0, 1) := of_decide_eq_true (List.all_eq_true.mp dsX12_has_0_ok (72, (.aload_n 0, 1)) (List.mem_of_getElem? (i := 4) rfl))
theorem dX12_has_73 : decode cX12_has 73 = .ok (.getfield 51, 3) := of_decide_eq_true (List.all_eq_true.mp dsX12_has_0_ok (73, (.getfield 51, 3)) (List.mem_of_getElem? (i := 5) rfl))
theorem dX12_has_76 : decode cX12_has 76 = .ok (.iaload, 1) := of_decide_eq_true (List.all_eq_true.mp dsX12_has_0_ok (76, (.iaload, 1)) (List.mem_of_getElem? (i := 6) rfl))
theorem dX12_has_77 : decode cX12_has 77 = .ok (.ireturn, 1) := of_decide_eq_true (List.all_eq_true.mp dsX12_has_0_ok (77, (.ireturn, 1)) (List.mem_of_getElem? (i := 7) rfl))
theorem dX12_has_78 : decode cX12_has 78 = .ok (.aload_n 0, 1) := of_decide_eq_true (List.all_eq_true.mp dsX12_has_0_ok (78, (.aload_n 0, 1)) (List.mem_of_getElem? (i := 8) rfl))
theorem dX12_has_79 : decode cX12_has 79 = .ok (.getfield 66, 3) := of_decide_eq_true (List.all_eq_true.mp dsX12_has_0_ok (79, (.getfield 66, 3)) (List.mem_of_getElem? (i := 9) rfl))
theorem dX12_has_82 : decode cX12_has 82 = .ok (.aload_n 0, 1) := of_decide_eq_true (List.all_eq_true.mp dsX12_has_0_ok (82, (.aload_n 0, 1)) (List.mem_of_getElem? (i := 10) rfl))
theorem dX12_has_83 : decode cX12_has 83 = .ok (.getfield 51, 3) := of_decide_eq_true (List.all_eq_true.mp dsX12_has_0_ok (83, (.getfield 51, 3)) (List.mem_of_getElem? (i := 11) rfl))
theorem dX12_has_86 : decode cX12_has 86 = .ok (.iaload, 1) := of_decide_eq_true (List.all_eq_true.mp dsX12_has_0_ok (86, (.iaload, 1)) (List.mem_of_getElem? (i := 12) rfl))
theorem dX12_has_87 : decode cX12_has 87 = .ok (.ireturn, 1) := of_decide_eq_true (List.all_eq_true.mp dsX12_has_0_ok (87, (.ireturn, 1)) (List.mem_of_getElem? (i := 13) rfl))
theorem dX12_has_88 : decode cX12_has 88 = .ok (.aload_n 0, 1) := of_decide_eq_true (List.all_eq_true.mp dsX12_has_0_ok (88, (.aload_n 0, 1)) (List.mem_of_getElem? (i := 14) rfl))
theorem dX12_has_89 : decode cX12_has 89 = .ok (.getfield 75, 3) := of_decide_eq_true (List.all_eq_true.mp dsX12_has_0_ok (89, (.getfield 75, 3)) (List.mem_of_getElem? (i := 15) rfl))
theorem dX12_has_92 : decode cX12_has 92 = .ok (.aload_n 0, 1) := of_decide_eq_true (List.all_eq_true.mp dsX12_has_0_ok (92, (.aload_n 0, 1)) (List.mem_of_getElem? (i := 16) rfl))
theorem dX12_has_93 : decode cX12_has 93 = .ok (.getfield 51, 3) := of_decide_eq_true (List.all_eq_true.mp dsX12_has_0_ok (93, (.getfield 51, 3)) (List.mem_of_getElem? (i := 17) rfl))
theorem dX12_has_96 : decode cX12_has 96 = .ok (.iaload, 1) := of_decide_eq_true (List.all_eq_true.mp dsX12_has_0_ok (96, (.iaload, 1)) (List.mem_of_getElem? (i := 18) rfl))
theorem dX12_has_97 : decode cX12_has 97 = .ok (.ireturn, 1) := of_decide_eq_true (List.all_eq_true.mp dsX12_has_0_ok (97, (.ireturn, 1)) (List.mem_of_getElem? (i := 19) rfl))
theorem dX12_has_98 : decode cX12_has 98 = .ok (.aload_n 0, 1) := of_decide_eq_true (List.all_eq_true.mp dsX12_has_0_ok (98, (.aload_n 0, 1)) (List.mem_of_getElem? (i := 20) rfl))
theorem dX12_has_99 : decode cX12_has 99 = .ok (.getfield 150, 3) := of_decide_eq_true (List.all_eq_true.mp dsX12_has_0_ok (99, (.getfield 150, 3)) (List.mem_of_getElem? (i := 21) rfl))
theorem dX12_has_102 : decode cX12_has 102 = .ok (.iconst 0, 1) := of_decide_eq_true (List.all_eq_true.mp dsX12_has_0_ok (102, (.iconst 0, 1)) (List.mem_of_getElem? (i := 22) rfl))
theorem dX12_has_103 : decode cX12_has 103 = .ok (.iaload, 1) := of_decide_eq_true (List.all_eq_true.mp dsX12_has_0_ok (103, (.iaload, 1)) (List.mem_of_getElem? (i := 23) rfl))
theorem dX12_has_104 : decode cX12_has 104 = .ok (.ireturn, 1) := of_decide_eq_true (List.all_eq_true.mp dsX12_has_0_ok (104, (.ireturn, 1)) (List.mem_of_getElem? (i := 24) rfl))
theorem dX12_has_105 : decode cX12_has 105 = .ok (.aload_n 0, 1) := of_decide_eq_true (List.all_eq_true.mp dsX12_has_0_ok (105, (.aload_n 0, 1)) (List.mem_of_getElem? (i := 25) rfl))
theorem dX12_has_106 : decode cX12_has 106 = .ok (.getfield 153, 3) := of_decide_eq_true (List.all_eq_true.mp dsX12_has_0_ok (106, (.getfield 153, 3)) (List.mem_of_getElem? (i := 26) rfl))
theorem dX12_has_109 : decode cX12_has 109 = .ok (.iconst 0, 1) := of_decide_eq_true (List.all_eq_true.mp dsX12_has_0_ok (109, (.iconst 0, 1)) (List.mem_of_getElem? (i := 27) rfl))
theorem dX12_has_110 : decode cX12_has 110 = .ok (.iaload, 1) := of_decide_eq_true (List.all_eq_true.mp dsX12_has_0_ok (110, (.iaload, 1)) (List.mem_of_getElem? (i := 28) rfl))
theorem dX12_has_111 : decode cX12_has 111 = .ok (.ireturn, 1) := of_decide_eq_true (List.all_eq_true.mp dsX12_has_0_ok (111, (.ireturn, 1)) (List.mem_of_getElem? (i := 29) rfl))
theorem dX12_has_112 : decode cX12_has 112 = .ok (.aload_n 0, 1) := of_decide_eq_true (List.all_eq_true.mp dsX12_has_0_ok (112, (.aload_n 0, 1)) (List.mem_of_getElem? (i := 30) rfl))
theorem dX12_has_113 : decode cX12_has 113 = .ok (.getfield 156, 3) := of_decide_eq_true (List.all_eq_true.mp dsX12_has_0_ok (113, (.getfield 156, 3)) (List.mem_of_getElem? (i := 31) rfl))
theorem dX12_has_116 : decode cX12_has 116 = .ok (.iconst 0, 1) := of_decide_eq_true (List.all_eq_true.mp dsX12_has_0_ok (116, (.iconst 0, 1)) (List.mem_of_getElem? (i := 32) rfl))
theorem dX12_has_117 : decode cX12_has 117 = .ok (.iaload, 1) := of_decide_eq_true (List.all_eq_true.mp dsX12_has_0_ok (117, (.iaload, 1)) (List.mem_of_getElem? (i := 33) rfl))
theorem dX12_has_118 : decode cX12_has 118 = .ok (.ireturn, 1) := of_decide_eq_true (List.all_eq_true.mp dsX12_has_0_ok (118, (.ireturn, 1)) (List.mem_of_getElem? (i := 34) rfl))
theorem dX12_has_119 : decode cX12_has 119 = .ok (.aload_n 0, 1) := of_decide_eq_true (List.all_eq_true.mp dsX12_has_0_ok (119, (.aload_n 0, 1)) (List.mem_of_getElem? (i := 35) rfl))
theorem dX12_has_120 : decode cX12_has 120 = .ok (.getfield 159, 3) := of_decide_eq_true (List.all_eq_true.mp dsX12_has_0_ok (120, (.getfield 159, 3)) (List.mem_of_getElem? (i := 36) rfl))
theorem dX12_has_123 : decode cX12_has 123 = .ok (.iconst 0, 1) := of_decide_eq_true (List.all_eq_true.mp dsX12_has_0_ok (123, (.iconst 0, 1)) (List.mem_of_getElem? (i := 37) rfl))
theorem dX12_has_124 : decode cX12_has 124 = .ok (.iaload, 1) := of_decide_eq_true (List.all_eq_true.mp dsX12_has_0_ok (124, (.iaload, 1)) (List.mem_of_getElem? (i := 38) rfl))
theorem dX12_has_125 : decode cX12_has 125 = .ok (.ireturn, 1) := of_decide_eq_true (List.all_eq_true.mp dsX12_has_0_ok (125, (.ireturn, 1)) (List.mem_of_getElem? (i := 39) rfl))
theorem dX12_has_126 : decode cX12_has 126 = .ok (.aload_n 0, 1) := of_decide_eq_true (List.all_eq_true.mp dsX12_has_0_ok (126, (.aload_n 0, 1)) (List.mem_of_getElem? (i := 40) rfl))
theorem dX12_has_127 : decode cX12_has 127 = .ok (.getfield 162, 3) := of_decide_eq_true (List.all_eq_true.mp dsX12_has_0_ok (127, (.getfield 162, 3)) (List.mem_of_getElem? (i := 41) rfl))
theorem dX12_has_130 : decode cX12_has 130 = .ok (.iconst 0, 1) := of_decide_eq_true (List.all_eq_true.mp dsX12_has_0_ok (130, (.iconst 0, 1)) (List.mem_of_getElem? (i := 42) rfl))
theorem dX12_has_131 : decode cX12_has 131 = .ok (.iaload, 1) := of_decide_eq_true (List.all_eq_true.mp dsX12_has_0_ok (131, (.iaload, 1)) (List.mem_of_getElem? (i := 43) rfl))
theorem dX12_has_132 : decode cX12_has 132 = .ok (.ireturn, 1) := of_decide_eq_true (List.all_eq_true.mp dsX12_has_0_ok (132, (.ireturn, 1)) (List.mem_of_getElem? (i := 44) rfl))
theorem dX12_has_133 : decode cX12_has 133 = .ok (.aload_n 0, 1) := of_decide_eq_true (List.all_eq_true.mp dsX12_has_0_ok (133, (.aload_n 0, 1)) (List.mem_of_getElem? (i := 45) rfl))
theorem dX12_has_134 : decode cX12_has 134 = .ok (.iconst 0, 1) := of_decide_eq_true (List.all_eq_true.mp dsX12_has_0_ok (134, (.iconst 0, 1)) (List.mem_of_getElem? (i := 46) rfl))
theorem dX12_has_135 : decode cX12_has 135 = .ok (.invokevirtual 424, 3) := of_decide_eq_true (List.all_eq_true.mp dsX12_has_0_ok (135, (.invokevirtual 424, 3)) (List.mem_of_getElem? (i := 47) rfl))
theorem dX12_has_138 : decode cX12_has 138 = .ok (.ireturn, 1) := of_decide_eq_true (List.all_eq_true.mp dsX12_has_0_ok (138, (.ireturn, 1)) (List.mem_of_getElem? (i := 48) rfl))
theorem dX12_has_139 : decode cX12_has 139 = .ok (.aload_n 0, 1) := of_decide_eq_true (List.all_eq_true.mp dsX12_has_0_ok (139, (.aload_n 0, 1)) (List.mem_of_getElem? (i := 49) rfl))
theorem dX12_has_140 : decode cX12_has 140 = .ok (.getfield 171, 3) := of_decide_eq_true (List.all_eq_true.mp dsX12_has_0_ok (140, (.getfield 171, 3)) (List.mem_of_getElem? (i := 50) rfl))
theorem dX12_has_143 : decode cX12_has 143 = .ok (.iconst 0, 1) := of_decide_eq_true (List.all_eq_true.mp dsX12_has_0_ok (143, (.iconst 0, 1)) (List.mem_of_getElem? (i := 51) rfl))
theorem dX12_has_144 : decode cX12_has 144 = .ok (.iaload, 1) := of_decide_eq_true (List.all_eq_true.mp dsX12_has_0_ok (144, (.iaload, 1)) (List.mem_of_getElem? (i := 52) rfl))
theorem dX12_has_145 : decode cX12_has 145 = .ok (.ireturn, 1) := of_decide_eq_true (List.all_eq_true.mp dsX12_has_0_ok (145, (.ireturn, 1)) (List.mem_of_getElem? (i := 53) rfl))
theorem dX12_has_146 : decode cX12_has 146 = .ok (.aload_n 0, 1) := of_decide_eq_true (List.all_eq_true.mp dsX12_has_0_ok (146, (.aload_n 0, 1)) (List.mem_of_getElem? (i := 54) rfl))
theorem dX12_has_147 : decode cX12_has 147 = .ok (.getfield 201, 3) := of_decide_eq_true (List.all_eq_true.mp dsX12_has_0_ok (147, (.getfield 201, 3)) (List.mem_of_getElem? (i := 55) rfl))
theorem dX12_has_150 : decode cX12_has 150 = .ok (.ireturn, 1) := of_decide_eq_true (List.all_eq_true.mp dsX12_has_0_ok (150, (.ireturn, 1)) (List.mem_of_getElem? (i := 56) rfl))
theorem dX12_has_151 : decode cX12_has 151 = .ok (.aload_n 0, 1) := of_decide_eq_true (List.all_eq_true.mp dsX12_has_0_ok (151, (.aload_n 0, 1)) (List.mem_of_getElem? (i := 57) rfl))
theorem dX12_has_152 : decode cX12_has 152 = .ok (.getfield 180, 3) := of_decide_eq_true (List.all_eq_true.mp dsX12_has_0_ok (152, (.getfield 180, 3)) (List.mem_of_getElem? (i := 58) rfl))
theorem dX12_has_155 : decode cX12_has 155 = .ok (.ireturn, 1) := of_decide_eq_true (List.all_eq_true.mp dsX12_has_0_ok (155, (.ireturn, 1)) (List.mem_of_getElem? (i := 59) rfl))
def dsX12_has_1 : List (Nat × Instr × Nat) := [(156, (.aload_n 0, 1)), (157, (.getfield 183, 3)), (160, (.l2i, 1)), (161, (.ireturn, 1)), (162, (.iconst (-1), 1)), (163, (.ireturn, 1))]
theorem dsX12_has_1_ok : (dsX12_has_1.all fun q => decide (decode cX12_has q.1 = .ok q.2)) = true := by decide +kernel
theorem dX12_has_156 : decode cX12_has 156 = .ok (.aload_n 0, 1) := of_decide_eq_true (List.all_eq_true.mp dsX12_has_1_ok (156, (.aload_n 0, 1)) (List.mem_of_getElem? (i := 0) rfl))
theorem dX12_has_157 : decode cX12_has 157 = .ok (.getfield 183, 3) := of_decide_eq_true (List.all_eq_true.mp dsX12_has_1_ok (157, (.getfield 183, 3)) (List.mem_of_getElem? (i := 1) rfl))
theorem dX12_has_160 : decode cX12_has 160 = .ok (.l2i, 1) := of_decide_eq_true (List.all_eq_true.mp dsX12_has_1_ok (160, (.l2i, 1)) (List.mem_of_getElem? (i := 2) rfl))
theorem dX12_has_161 : decode cX12_has 161 = .ok (.ireturn, 1) := of_decide_eq_true (List.all_eq_true.mp dsX12_has_1_ok (161, (.ireturn, 1)) (List.mem_of_getElem? (i := 3) rfl))
theorem dX12_has_162 : decode cX12_has 162 = .ok (.iconst (-1), 1) := of_decide_eq_true (List.all_eq_true.mp dsX12_has_1_ok (162, (.iconst (-1), 1)) (List.mem_of_getElem? (i := 4) rfl))
theorem dX12_has_163 : decode cX12_has 163 = .ok (.ireturn, 1) := of_decide_eq_true (List.all_eq_true.mp dsX12_has_1_ok (163, (.ireturn, 1)) (List.mem_of_getElem? (i := 5) rfl))
def fX12_has (N : Nat) (mmI : Nat → Int32) (mmJ : Nat → Int64) (mm_milesToldF : Nat → Int32) (mm_earsF : Nat → Int32) (mm_placesF : Nat → Int32) (mm_nightOfF : Nat → Int32) (mm_mileOfF : Nat → Int32) (mm_roundsOfF : Nat → Int32) (mm_talkingOfF : Nat → Int32) (mm_hushOfF : Nat → Int32) (mm_keptManyF : Nat → Int32)  (p1 : Int32) : Option (Int32) :=
  (if p1 = 0 then (xq_bd (xq_ald 2 mm_milesToldF (mmI 13)) fun v_1 => some v_1) else (if p1 = 1 then (xq_bd (xq_ald 2 mm_earsF (mmI 13)) fun v_2 => some v_2) else (if p1 = 2 then (xq_bd (xq_ald 2 mm_placesF (mmI 13)) fun v_3 => some v_3) else (if p1 = 3 then (xq_bd (xq_ald 22 mm_nightOfF 0) fun v_4 => some v_4) else (if p1 = 4 then (xq_bd (xq_ald 22 mm_mileOfF 0) fun v_5 => some v_5) else (if p1 = 5 then (xq_bd (xq_ald 22 mm_roundsOfF 0) fun v_6 => some v_6) else (if p1 = 6 then (xq_bd (xq_ald 22 mm_talkingOfF 0) fun v_7 => some v_7) else (if p1 = 7 then (xq_bd (xq_ald 22 mm_hushOfF 0) fun v_8 => some v_8) else (if p1 = 8 then (xq_bd (fX12_farOf N mmI mm_mileOfF mm_milesToldF 0) fun r_9 => some r_9) else (if p1 = 9 then (xq_bd (xq_ald 22 mm_keptManyF 0) fun v_11 => some v_11) else (if p1 = 10 then some (mmI 62) else (if p1 = 11 then some (mmI 55) else (if p1 = 12 then some ((mmJ 56).toInt32) else some ((-1)))))))))))))))
set_option maxHeartbeats 4000000 in
set_option maxRecDepth 100000 in
theorem kX12_has (l : Launch) (dC : Nat → ClassId) (dI : Nat → Nat → Nat) (cI cB cJ cZ cM : ClassId) (z : Nat) (ad : Nat → Nat) (N : Nat) (a_p0 : Nat) (mmI : Nat → Int32) (mmJ : Nat → Int64) (mmR : Nat → Nat) (mm_milesToldF : Nat → Int32) (mm_earsF : Nat → Int32) (mm_placesF : Nat → Int32) (mm_nightOfF : Nat → Int32) (mm_mileOfF : Nat → Int32) (mm_roundsOfF : Nat → Int32) (mm_talkingOfF : Nat → Int32) (mm_hushOfF : Nat → Int32) (mm_keptManyF : Nat → Int32) (p1 : Int32) {r0 : Int32} (hf : fX12_has N mmI mmJ mm_milesToldF mm_earsF mm_placesF mm_nightOfF mm_mileOfF mm_roundsOfF mm_talkingOfF mm_hushOfF mm_keptManyF p1 = some r0) : xq_Ct l yX12_has wsX12_has { frames := 1, cells := 0, slots := 0, locals := 21 } (dC, dI) vwCl (xq_tys cI cB cJ cZ cM) z ad [.ref a_p0, .int p1] [(a_p0, .inr (12, oX12 mmI mmJ mmR)), ((mmR 14), .inl (cI, 2, .inl mm_milesToldF)), ((mmR 18), .inl (cI, 2, .inl mm_earsF)), ((mmR 21), .inl (cI, 2, .inl mm_placesF)), ((mmR 45), .inl (cI, 22, .inl mm_nightOfF)), ((mmR 46), .inl (cI, 22, .inl mm_mileOfF)), ((mmR 47), .inl (cI, 22, .inl mm_roundsOfF)), ((mmR 48), .inl (cI, 22, .inl mm_talkingOfF)), ((mmR 49), .inl (cI, 22, .inl mm_hushOfF)), ((mmR 52), .inl (cI, 22, .inl mm_keptManyF))] [(a_p0, .inr (12, oX12 mmI mmJ mmR)), ((mmR 14), .inl (cI, 2, .inl mm_milesToldF)), ((mmR 18), .inl (cI, 2, .inl mm_earsF)), ((mmR 21), .inl (cI, 2, .inl mm_placesF)), ((mmR 45), .inl (cI, 22, .inl mm_nightOfF)), ((mmR 46), .inl (cI, 22, .inl mm_mileOfF)), ((mmR 47), .inl (cI, 22, .inl mm_roundsOfF)), ((mmR 48), .inl (cI, 22, .inl mm_talkingOfF)), ((mmR 49), .inl (cI, 22, .inl mm_hushOfF)), ((mmR 52), .inl (cI, 22, .inl mm_keptManyF))] (some (.int r0)) := by
  intro sz
  refine Met.ofW (cc := cX12_has) (maxL := 2) (ret := (some .int)) (by decide) rfl ?_
  intro p e s m args below meth c s₁ B hml hv
  obtain ⟨rfl, hsz, hP, hK, hD0, hE, hz⟩ := hv
  have hx := B.exec
  have hb := B.bytes
  have hr := B.returns
  have hts := atoms_spec (ws := wsX12_has) B.pre
  have hown : s.vm.findClass RX12 = some m.cls := findClass_of_methodNamed B.named
  have hlocks := B.notSynchronized
  subst hsz
  have hD := hD0.self (sz := s.heap.size)
  have hN := xq_Env.of hE hz hD0
  generalize hAe : va_A [(a_p0, .inr (12, oX12 mmI mmJ mmR)), ((mmR 14), .inl (cI, 2, .inl mm_milesToldF)), ((mmR 18), .inl (cI, 2, .inl mm_earsF)), ((mmR 21), .inl (cI, 2, .inl mm_placesF)), ((mmR 45), .inl (cI, 22, .inl mm_nightOfF)), ((mmR 46), .inl (cI, 22, .inl mm_mileOfF)), ((mmR 47), .inl (cI, 22, .inl mm_roundsOfF)), ((mmR 48), .inl (cI, 22, .inl mm_talkingOfF)), ((mmR 49), .inl (cI, 22, .inl mm_hushOfF)), ((mmR 52), .inl (cI, 22, .inl mm_keptManyF))] s.heap.size = A at hD hN ⊢
  have hA : ∀ q : Nat, s.heap.size ≤ q → A q := fun q h => by rw [← hAe]; exact Or.inr h
  clear hAe hD0
  have hS : va_S A s.heap s.heap [] := va_S.rf
  have hl := lv_entry ([.ref a_p0, .int p1]) (n := 2) (Nat.le_of_ble_eq_true rfl)
  rw [lg_entry_eq]
  generalize (lg_sl ([.ref a_p0, .int p1]) ++ List.replicate (2 - (lg_sl ([.ref a_p0, .int p1])).length) Slot.unset).toArray = ls at hl ⊢
  have hl : lv_has ls 2 [(0, .ref a_p0), (1, .int p1)] := hl
  have hw0 := hts (.fieldLink RX12 54 "DistantVoiceModel" "milesTold" "[I") (by decide +kernel)
  have hinX12 : ∀ w ∈ wsX120, w ∈ wsX12_has := fun w h => List.mem_cons_of_mem _ (List.mem_append_right _ h)
  have hw2 := hts (.fieldLink RX12 51 "DistantVoiceModel" "bank" "I") (by decide +kernel)
  have hw3 := hts (.fieldLink RX12 66 "DistantVoiceModel" "ears" "[I") (by decide +kernel)
  have hw4 := hts (.fieldLink RX12 75 "DistantVoiceModel" "places" "[I") (by decide +kernel)
  have hw5 := hts (.fieldLink RX12 150 "DistantVoiceModel" "nightOf" "[I") (by decide +kernel)
  have hw6 := hts (.fieldLink RX12 153 "DistantVoiceModel" "mileOf" "[I") (by decide +kernel)
  have hw7 := hts (.fieldLink RX12 156 "DistantVoiceModel" "roundsOf" "[I") (by decide +kernel)
  have hw8 := hts (.fieldLink RX12 159 "DistantVoiceModel" "talkingOf" "[I") (by decide +kernel)
  have hw9 := hts (.fieldLink RX12 162 "DistantVoiceModel" "hushOf" "[I") (by decide +kernel)
  have hw10 := hts (.fieldLink RX12 171 "DistantVoiceModel" "keptMany" "[I") (by decide +kernel)
  have hw11 := hts (.fieldLink RX12 201 "DistantVoiceModel" "marked" "I") (by decide +kernel)
  have hw12 := hts (.fieldLink RX12 180 "DistantVoiceModel" "undos" "I") (by decide +kernel)
  have hw13 := hts (.fieldLink RX12 183 "DistantVoiceModel" "seeds" "J") (by decide +kernel)
  unfold fX12_has at hf
  refine lv_iload_n hx hb dX12_has_0 rfl (lv_at hl 1 rfl) ?_
  by_cases c0 : p1 = 0
  · have hf := xq_pos hf c0
    refine lv_tableIn (tgt := 68) hx hb dX12_has_1 (by rw [c0]; decide) (by rw [c0]; decide) (off := 67) (by rw [c0]; decide) (by decide) ?_
    refine lv_aload_n hx hb dX12_has_68 rfl (lv_at hl 0 rfl) ?_
    refine va_get (D := (dC, dI)) (ci := 12) (v := .ref ((mmR 14))) (C := RX12) (T := TX12) (N := 70) hx hb hts hinX12 hown hK hP 0 rfl rfl 14 (by decide) hw0 (fun _ h9 => h9) rfl dX12_has_69 ?_
    refine lv_aload_n hx hb dX12_has_72 rfl (lv_at hl 0 rfl) ?_
    refine va_get (D := (dC, dI)) (ci := 12) (v := .int (mmI 13)) (C := RX12) (T := TX12) (N := 70) hx hb hts hinX12 hown hK hP 0 rfl rfl 13 (by decide) hw2 (fun _ h9 => h9) rfl dX12_has_73 ?_
    refine xq_iald hx hb hK hP 1 0 rfl rfl hf dX12_has_76 (fun v_1 hf => ?_)
    have hP9 := hP
    have hD9 := hD
    have hS9 := hS
    cases hf
    exact xq_iret hx hb hr hlocks hK hP9 hD9 hS9 dX12_has_77
  · have hf := xq_neg hf c0
    by_cases c1 : p1 = 1
    · have hf := xq_pos hf c1
      refine lv_tableIn (tgt := 78) hx hb dX12_has_1 (by rw [c1]; decide) (by rw [c1]; decide) (off := 77) (by rw [c1]; decide) (by decide) ?_
      refine lv_aload_n hx hb dX12_has_78 rfl (lv_at hl 0 rfl) ?_
      refine va_get (D := (dC, dI)) (ci := 12) (v := .ref ((mmR 18))) (C := RX12) (T := TX12) (N := 70) hx hb hts hinX12 hown hK hP 0 rfl rfl 18 (by decide) hw3 (fun _ h9 => h9) rfl dX12_has_79 ?_
      refine lv_aload_n hx hb dX12_has_82 rfl (lv_at hl 0 rfl) ?_
      refine va_get (D := (dC, dI)) (ci := 12) (v := .int (mmI 13)) (C := RX12) (T := TX12) (N := 70) hx hb hts hinX12 hown hK hP 0 rfl rfl 13 (by decide) hw2 (fun _ h9 => h9) rfl dX12_has_83 ?_
      refine xq_iald hx hb hK hP 2 0 rfl rfl hf dX12_has_86 (fun v_2 hf => ?_)
      have hP9 := hP
      have hD9 := hD
      have hS9 := hS
      cases hf
      exact xq_iret hx hb hr hlocks hK hP9 hD9 hS9 dX12_has_87
    · have hf := xq_neg hf c1
      by_cases c2 : p1 = 2
      · have hf := xq_pos hf c2
        refine lv_tableIn (tgt := 88) hx hb dX12_has_1 (by rw [c2]; decide) (by rw [c2]; decide) (off := 87) (by rw [c2]; decide) (by decide) ?_
        refine lv_aload_n hx hb dX12_has_88 rfl (lv_at hl 0 rfl) ?_
        refine va_get (D := (dC, dI)) (ci := 12) (v := .ref ((mmR 21))) (C := RX12) (T := TX12) (N := 70) hx hb hts hinX12 hown hK hP 0 rfl rfl 21 (by decide) hw4 (fun _ h9 => h9) rfl dX12_has_89 ?_
        refine lv_aload_n hx hb dX12_has_92 rfl (lv_at hl 0 rfl) ?_
        refine va_get (D := (dC, dI)) (ci := 12) (v := .int (mmI 13)) (C := RX12) (T := TX12) (N := 70) hx hb hts hinX12 hown hK hP 0 rfl rfl 13 (by decide) hw2 (fun _ h9 => h9) rfl dX12_has_93 ?_
        refine xq_iald hx hb hK hP 3 0 rfl rfl hf dX12_has_96 (fun v_3 hf => ?_)
        have hP9 := hP
        have hD9 := hD
        have hS9 := hS
        cases hf
        exact xq_iret hx hb hr hlocks hK hP9 hD9 hS9 dX12_has_97
      · have hf := xq_neg hf c2
        by_cases c3 : p1 = 3
        · have hf := xq_pos hf c3
          refine lv_tableIn (tgt := 98) hx hb dX12_has_1 (by rw [c3]; decide) (by rw [c3]; decide) (off := 97) (by rw [c3]; decide) (by decide) ?_
          refine lv_aload_n hx hb dX12_has_98 rfl (lv_at hl 0 rfl) ?_
          refine va_get (D := (dC, dI)) (ci := 12) (v := .ref ((mmR 45))) (C := RX12) (T := TX12) (N := 70) hx hb hts hinX12 hown hK hP 0 rfl rfl 45 (by decide) hw5 (fun _ h9 => h9) rfl dX12_has_99 ?_
          refine lv_iconst (v := 0) hx hb dX12_has_102 (by decide) ?_
          refine xq_iald hx hb hK hP 4 0 rfl rfl hf dX12_has_103 (fun v_4 hf => ?_)
          have hP9 := hP
          have hD9 := hD
          have hS9 := hS
          cases hf
          exact xq_iret hx hb hr hlocks hK hP9 hD9 hS9 dX12_has_104
        · have hf := xq_neg hf c3
          by_cases c4 : p1 = 4
          · have hf := xq_pos hf c4
            refine lv_tableIn (tgt := 105) hx hb dX12_has_1 (by rw [c4]; decide) (by rw [c4]; decide) (off := 104) (by rw [c4]; decide) (by decide) ?_
            refine lv_aload_n hx hb dX12_has_105 rfl (lv_at hl 0 rfl) ?_
            refine va_get (D := (dC, dI)) (ci := 12) (v := .ref ((mmR 46))) (C := RX12) (T := TX12) (N := 70) hx hb hts hinX12 hown hK hP 0 rfl rfl 46 (by decide) hw6 (fun _ h9 => h9) rfl dX12_has_106 ?_
            refine lv_iconst (v := 0) hx hb dX12_has_109 (by decide) ?_
            refine xq_iald hx hb hK hP 5 0 rfl rfl hf dX12_has_110 (fun v_5 hf => ?_)
            have hP9 := hP
            have hD9 := hD
            have hS9 := hS
            cases hf
            exact xq_iret hx hb hr hlocks hK hP9 hD9 hS9 dX12_has_111
          · have hf := xq_neg hf c4
            by_cases c5 : p1 = 5
            · have hf := xq_pos hf c5
              refine lv_tableIn (tgt := 112) hx hb dX12_has_1 (by rw [c5]; decide) (by rw [c5]; decide) (off := 111) (by rw [c5]; decide) (by decide) ?_
              refine lv_aload_n hx hb dX12_has_112 rfl (lv_at hl 0 rfl) ?_
              refine va_get (D := (dC, dI)) (ci := 12) (v := .ref ((mmR 47))) (C := RX12) (T := TX12) (N := 70) hx hb hts hinX12 hown hK hP 0 rfl rfl 47 (by decide) hw7 (fun _ h9 => h9) rfl dX12_has_113 ?_
              refine lv_iconst (v := 0) hx hb dX12_has_116 (by decide) ?_
              refine xq_iald hx hb hK hP 6 0 rfl rfl hf dX12_has_117 (fun v_6 hf => ?_)
              have hP9 := hP
              have hD9 := hD
              have hS9 := hS
              cases hf
              exact xq_iret hx hb hr hlocks hK hP9 hD9 hS9 dX12_has_118
            · have hf := xq_neg hf c5
              by_cases c6 : p1 = 6
              · have hf := xq_pos hf c6
                refine lv_tableIn (tgt := 119) hx hb dX12_has_1 (by rw [c6]; decide) (by rw [c6]; decide) (off := 118) (by rw [c6]; decide) (by decide) ?_
                refine lv_aload_n hx hb dX12_has_119 rfl (lv_at hl 0 rfl) ?_
                refine va_get (D := (dC, dI)) (ci := 12) (v := .ref ((mmR 48))) (C := RX12) (T := TX12) (N := 70) hx hb hts hinX12 hown hK hP 0 rfl rfl 48 (by decide) hw8 (fun _ h9 => h9) rfl dX12_has_120 ?_
                refine lv_iconst (v := 0) hx hb dX12_has_123 (by decide) ?_
                refine xq_iald hx hb hK hP 7 0 rfl rfl hf dX12_has_124 (fun v_7 hf => ?_)
                have hP9 := hP
                have hD9 := hD
                have hS9 := hS
                cases hf
                exact xq_iret hx hb hr hlocks hK hP9 hD9 hS9 dX12_has_125
              · have hf := xq_neg hf c6
                by_cases c7 : p1 = 7
                · have hf := xq_pos hf c7
                  refine lv_tableIn (tgt := 126) hx hb dX12_has_1 (by rw [c7]; decide) (by rw [c7]; decide) (off := 125) (by rw [c7]; decide) (by decide) ?_
                  refine lv_aload_n hx hb dX12_has_126 rfl (lv_at hl 0 rfl) ?_
                  refine va_get (D := (dC, dI)) (ci := 12) (v := .ref ((mmR 49))) (C := RX12) (T := TX12) (N := 70) hx hb hts hinX12 hown hK hP 0 rfl rfl 49 (by decide) hw9 (fun _ h9 => h9) rfl dX12_has_127 ?_
                  refine lv_iconst (v := 0) hx hb dX12_has_130 (by decide) ?_
                  refine xq_iald hx hb hK hP 8 0 rfl rfl hf dX12_has_131 (fun v_8 hf => ?_)
                  have hP9 := hP
                  have hD9 := hD
                  have hS9 := hS
                  cases hf
                  exact xq_iret hx hb hr hlocks hK hP9 hD9 hS9 dX12_has_132
                · have hf := xq_neg hf c7
                  by_cases c8 : p1 = 8
                  · have hf := xq_pos hf c8
                    refine lv_tableIn (tgt := 133) hx hb dX12_has_1 (by rw [c8]; decide) (by rw [c8]; decide) (off := 132) (by rw [c8]; decide) (by decide) ?_
                    refine lv_aload_n hx hb dX12_has_133 rfl (lv_at hl 0 rfl) ?_
                    refine lv_iconst (v := 0) hx hb dX12_has_134 (by decide) ?_
                    obtain ⟨r_9, h_10, hf⟩ := xq_bd_some hf
                    refine xq_callV (As := [.int 0]) (rest := []) (ci := 12) (q0 := 0) ⟨hx, hb, hml, hown, hts⟩ (kX12_farOf l dC dI cI cB cJ cZ cM z ad N a_p0 mmI mmJ mmR mm_mileOfF mm_milesToldF 0 h_10) (cwV 1 hts gX12_has_X12_farOf rfl rfl rfl (by decide +kernel) ⟨Nat.le_of_ble_eq_true rfl, Nat.le_of_ble_eq_true rfl⟩) hN hK hP hD hS hA [0, 5, 1] (by decide) rfl rfl rfl rfl rfl rfl hl.1 rfl (Nat.le_of_ble_eq_true rfl) dX12_has_135 ⟨Nat.zero_le _, Nat.zero_le _⟩ (fun H locs hP hD hS => ?_)
                    have hP : va_P (dC, dI) vwCl [(a_p0, .inr (12, oX12 mmI mmJ mmR)), ((mmR 14), .inl (cI, 2, .inl mm_milesToldF)), ((mmR 18), .inl (cI, 2, .inl mm_earsF)), ((mmR 21), .inl (cI, 2, .inl mm_placesF)), ((mmR 45), .inl (cI, 22, .inl mm_nightOfF)), ((mmR 46), .inl (cI, 22, .inl mm_mileOfF)), ((mmR 47), .inl (cI, 22, .inl mm_roundsOfF)), ((mmR 48), .inl (cI, 22, .inl mm_talkingOfF)), ((mmR 49), .inl (cI, 22, .inl mm_hushOfF)), ((mmR 52), .inl (cI, 22, .inl mm_keptManyF))] H := hP
                    have hD : va_D A [(a_p0, .inr (12, oX12 mmI mmJ mmR)), ((mmR 14), .inl (cI, 2, .inl mm_milesToldF)), ((mmR 18), .inl (cI, 2, .inl mm_earsF)), ((mmR 21), .inl (cI, 2, .inl mm_placesF)), ((mmR 45), .inl (cI, 22, .inl mm_nightOfF)), ((mmR 46), .inl (cI, 22, .inl mm_mileOfF)), ((mmR 47), .inl (cI, 22, .inl mm_roundsOfF)), ((mmR 48), .inl (cI, 22, .inl mm_talkingOfF)), ((mmR 49), .inl (cI, 22, .inl mm_hushOfF)), ((mmR 52), .inl (cI, 22, .inl mm_keptManyF))] := hD
                    refine W.eq (g2 := F0 m 138 ls [.int r_9]) rfl ?_
                    have hP9 := hP
                    have hD9 := hD
                    have hS9 := hS
                    cases hf
                    exact xq_iret hx hb hr hlocks hK hP9 hD9 hS9 dX12_has_138
                  · have hf := xq_neg hf c8
                    by_cases c9 : p1 = 9
                    · have hf := xq_pos hf c9
                      refine lv_tableIn (tgt := 139) hx hb dX12_has_1 (by rw [c9]; decide) (by rw [c9]; decide) (off := 138) (by rw [c9]; decide) (by decide) ?_
                      refine lv_aload_n hx hb dX12_has_139 rfl (lv_at hl 0 rfl) ?_
                      refine va_get (D := (dC, dI)) (ci := 12) (v := .ref ((mmR 52))) (C := RX12) (T := TX12) (N := 70) hx hb hts hinX12 hown hK hP 0 rfl rfl 52 (by decide) hw10 (fun _ h9 => h9) rfl dX12_has_140 ?_
                      refine lv_iconst (v := 0) hx hb dX12_has_143 (by decide) ?_
                      refine xq_iald hx hb hK hP 9 0 rfl rfl hf dX12_has_144 (fun v_11 hf => ?_)
                      have hP9 := hP
                      have hD9 := hD
                      have hS9 := hS
                      cases hf
                      exact xq_iret hx hb hr hlocks hK hP9 hD9 hS9 dX12_has_145
                    · have hf := xq_neg hf c9
                      by_cases c10 : p1 = 10
                      · have hf := xq_pos hf c10
                        refine lv_tableIn (tgt := 146) hx hb dX12_has_1 (by rw [c10]; decide) (by rw [c10]; decide) (off := 145) (by rw [c10]; decide) (by decide) ?_
                        refine lv_aload_n hx hb dX12_has_146 rfl (lv_at hl 0 rfl) ?_
                        refine va_get (D := (dC, dI)) (ci := 12) (v := .int (mmI 62)) (C := RX12) (T := TX12) (N := 70) hx hb hts hinX12 hown hK hP 0 rfl rfl 62 (by decide) hw11 (fun _ h9 => h9) rfl dX12_has_147 ?_
                        have hP9 := hP
                        have hD9 := hD
                        have hS9 := hS
                        cases hf
                        exact xq_iret hx hb hr hlocks hK hP9 hD9 hS9 dX12_has_150
                      · have hf := xq_neg hf c10
                        by_cases c11 : p1 = 11
                        · have hf := xq_pos hf c11
                          refine lv_tableIn (tgt := 151) hx hb dX12_has_1 (by rw [c11]; decide) (by rw [c11]; decide) (off := 150) (by rw [c11]; decide) (by decide) ?_
                          refine lv_aload_n hx hb dX12_has_151 rfl (lv_at hl 0 rfl) ?_
                          refine va_get (D := (dC, dI)) (ci := 12) (v := .int (mmI 55)) (C := RX12) (T := TX12) (N := 70) hx hb hts hinX12 hown hK hP 0 rfl rfl 55 (by decide) hw12 (fun _ h9 => h9) rfl dX12_has_152 ?_
                          have hP9 := hP
                          have hD9 := hD
                          have hS9 := hS
                          cases hf
                          exact xq_iret hx hb hr hlocks hK hP9 hD9 hS9 dX12_has_155
                        · have hf := xq_neg hf c11
                          by_cases c12 : p1 = 12
                          · have hf := xq_pos hf c12
                            refine lv_tableIn (tgt := 156) hx hb dX12_has_1 (by rw [c12]; decide) (by rw [c12]; decide) (off := 155) (by rw [c12]; decide) (by decide) ?_
                            refine lv_aload_n hx hb dX12_has_156 rfl (lv_at hl 0 rfl) ?_
                            refine va_get (D := (dC, dI)) (ci := 12) (v := .long (mmJ 56)) (C := RX12) (T := TX12) (N := 70) hx hb hts hinX12 hown hK hP 0 rfl rfl 56 (by decide) hw13 (fun _ h9 => h9) rfl dX12_has_157 ?_
                            refine lv_l2i (v := (mmJ 56).toInt32) hx hb dX12_has_160 rfl ?_
                            have hP9 := hP
                            have hD9 := hD
                            have hS9 := hS
                            cases hf
                            exact xq_iret hx hb hr hlocks hK hP9 hD9 hS9 dX12_has_161
                          · have hf := xq_neg hf c12
                            have e0 := lv_neT c0 (a := 0) (by decide)
                            have e1 := lv_neT c1 (a := 1) (by decide)
                            have e2 := lv_neT c2 (a := 2) (by decide)
                            have e3 := lv_neT c3 (a := 3) (by decide)
                            have e4 := lv_neT c4 (a := 4) (by decide)
                            have e5 := lv_neT c5 (a := 5) (by decide)
                            have e6 := lv_neT c6 (a := 6) (by decide)
                            have e7 := lv_neT c7 (a := 7) (by decide)
                            have e8 := lv_neT c8 (a := 8) (by decide)
                            have e9 := lv_neT c9 (a := 9) (by decide)
                            have e10 := lv_neT c10 (a := 10) (by decide)
                            have e11 := lv_neT c11 (a := 11) (by decide)
                            have e12 := lv_neT c12 (a := 12) (by decide)
                            refine lv_tableOut (tgt := 162) hx hb dX12_has_1 (by omega) (by decide) ?_
                            refine lv_iconst (v := (-1)) hx hb dX12_has_162 (by decide) ?_
                            have hP9 := hP
                            have hD9 := hD
                            have hS9 := hS
                            cases hf
                            exact xq_iret hx hb hr hlocks hK hP9 hD9 hS9 dX12_has_163
set_option maxRecDepth 20000 in
theorem ggX12_letter_X12_isEar : GoodIn wsX12_letter wsX12_isEar := goodIn_r _ [9, 10, 2, 19, 20, 21, 22, 23, 24, 25, 26, 27, 28, 29, 30, 31, 32, 33, 34, 35, 36, 37, 38, 39, 40, 41, 42, 43, 44, 45, 46, 47, 48, 49, 50, 51, 52, 53, 54, 55, 56, 57, 58, 59, 60, 61, 62, 63, 64, 65, 66, 67, 68, 69, 70, 71, 72, 73, 74, 75, 76, 77, 78, 79, 80, 81, 82, 83, 84, 85, 86, 87, 88] rfl (by decide +kernel)
set_option maxRecDepth 20000 in
theorem gX12_letter_X12_isEar : GoodIn wsX12_letter (wsV RX12 454 RX12 yX12_isEar wsX12_isEar) := goodIn_app (goodIn_of _ (by decide +kernel)) ggX12_letter_X12_isEar
set_option maxRecDepth 20000 in
theorem ggX12_letter_X12_isPlace : GoodIn wsX12_letter wsX12_isPlace := goodIn_r _ [14, 15, 2, 19, 20, 21, 22, 23, 24, 25, 26, 27, 28, 29, 30, 31, 32, 33, 34, 35, 36, 37, 38, 39, 40, 41, 42, 43, 44, 45, 46, 47, 48, 49, 50, 51, 52, 53, 54, 55, 56, 57, 58, 59, 60, 61, 62, 63, 64, 65, 66, 67, 68, 69, 70, 71, 72, 73, 74, 75, 76, 77, 78, 79, 80, 81, 82, 83, 84, 85, 86, 87, 88] rfl (by decide +kernel)
set_option maxRecDepth 20000 in
theorem gX12_letter_X12_isPlace : GoodIn wsX12_letter (wsV RX12 457 RX12 yX12_isPlace wsX12_isPlace) := goodIn_app (goodIn_of _ (by decide +kernel)) ggX12_letter_X12_isPlace
set_option maxRecDepth 20000 in
theorem ggX12_letter_X12_is : GoodIn wsX12_letter wsX12_is := goodIn_r _ [18] rfl (by decide +kernel)
set_option maxRecDepth 20000 in
theorem gX12_letter_X12_is : GoodIn wsX12_letter (va_wsS RX12 301 yX12_is wsX12_is) := goodIn_app (goodIn_of _ (by decide +kernel)) ggX12_letter_X12_is
def dsX12_letter_0 : List (Nat × Instr × Nat) := [(0, (.iload_n 1, 1)), (1, (.ifCond .ne 11, 3)), (4, (.aload_n 0, 1)), (5, (.iload_n 2, 1)), (6, (.invokevirtual 454, 3)), (9, (.goto 21, 3)), (12, (.iload_n 1, 1)), (13, (.iconst 1, 1)), (14, (.if_icmp .ne 15, 3)), (17, (.aload_n 0, 1)), (18, (.iload_n 2, 1)), (19, (.invokevirtual 457, 3)), (22, (.ifCond .eq 7, 3)), (25, (.iconst 1, 1)), (26, (.goto 4, 3)), (29, (.iconst 0, 1)), (30, (.istore 4, 2)), (32, (.iload 4, 2)), (34, (.ifCond .eq 12, 3)), (37, (.iload_n 3, 1)), (38, (.iconst 0, 1)), (39, (.iconst 5, 1)), (40, (.invokestatic 301, 3)), (43, (.ifCond .ne 5, 3)), (46, (.iconst (-1), 1)), (47, (.ireturn, 1)), (48, (.iload_n 1, 1)), (49, (.ifCond .ne 20, 3)), (52, (.aload_n 0, 1)), (53, (.getfield 96, 3)), (56, (.bipush 7, 2)), (58, (.aload_n 0, 1)), (59, (.getfield 51, 3)), (62, (.imul, 1)), (63, (.iload_n 2, 1)), (64, (.iadd, 1)), (65, (.laload, 1)), (66, (.goto 17, 3)), (69, (.aload_n 0, 1)), (70, (.getfield 100, 3)), (73, (.bipush 6, 2)), (75, (.aload_n 0, 1)), (76, (.getfield 51, 3)), (79, (.imul, 1)), (80, (.iload_n 2, 1)), (81, (.iadd, 1)), (82, (.laload, 1)), (83, (.lstore 5, 2)), (85, (.iconst 0, 1)), (86, (.istore 7, 2)), (88, (.lload 5, 2)), (90, (.lstore 8, 2)), (92, (.lload 8, 2)), (94, (.lconst 0, 1)), (95, (.lcmp, 1)), (96, (.ifCond .le 16, 3)), (99, (.iinc 7 1, 3)), (102, (.lload 8, 2)), (104, (.bipush 8, 2)), (106, (.lshr, 1))]
theorem dsX12_letter_0_ok : (dsX12_letter_0.all fun q => decide (decode cX12_letter q.1 = .ok q.2)) = true := by decide +kernel
theorem dX12_letter_0 : decode cX12_letter 0 = .ok (.iload_n 1, 1) := of_decide_eq_true (List.all_eq_true.mp dsX12_letter_0_ok (0, (.iload_n 1, 1)) (List.mem_of_getElem? (i := 0) rfl))
theorem dX12_letter_1 : decode cX12_letter 1 = .ok (.ifCond .ne 11, 3) := of_decide_eq_true (List.all_eq_true.mp dsX12_letter_0_ok (1, (.ifCond .ne 11, 3)) (List.mem_of_getElem? (i := 1) rfl))
theorem dX12_letter_4 : decode cX12_letter 4 = .ok (.aload_n 0, 1) := of_decide_eq_true (List.all_eq_true.mp dsX12_letter_0_ok (4, (.aload_n 0, 1)) (List.mem_of_getElem? (i := 2) rfl))
theorem dX12_letter_5 : decode cX12_letter 5 = .ok (.iload_n 2, 1) := of_decide_eq_true (List.all_eq_true.mp dsX12_letter_0_ok (5, (.iload_n 2, 1)) (List.mem_of_getElem? (i := 3) rfl))
theorem dX12_letter_6 : decode cX12_letter 6 = .ok (.invokevirtual 454, 3) := of_decide_eq_true (List.all_eq_true.mp dsX12_letter_0_ok (6, (.invokevirtual 454, 3)) (List.mem_of_getElem? (i := 4) rfl))
theorem dX12_letter_9 : decode cX12_letter 9 = .ok (.goto 21, 3) := of_decide_eq_true (List.all_eq_true.mp dsX12_letter_0_ok (9, (.goto 21, 3)) (List.mem_of_getElem? (i := 5) rfl))
theorem dX12_letter_12 : decode cX12_letter 12 = .ok (.iload_n 1, 1) := of_decide_eq_true (List.all_eq_true.mp dsX12_letter_0_ok (12, (.iload_n 1, 1)) (List.mem_of_getElem? (i := 6) rfl))
theorem dX12_letter_13 : decode cX12_letter 13 = .ok (.iconst 1, 1) := of_decide_eq_true (List.all_eq_true.mp dsX12_letter_0_ok (13, (.iconst 1, 1)) (List.mem_of_getElem? (i := 7) rfl))
theorem dX12_letter_14 : decode cX12_letter 14 = .ok (.if_icmp .ne 15, 3) := of_decide_eq_true (List.all_eq_true.mp dsX12_letter_0_ok (14, (.if_icmp .ne 15, 3)) (List.mem_of_getElem? (i := 8) rfl))
theorem dX12_letter_17 : decode cX12_letter 17 = .ok (.aload_n 0, 1) := of_decide_eq_true (List.all_eq_true.mp dsX12_letter_0_ok (17, (.aload_n 0, 1)) (List.mem_of_getElem? (i := 9) rfl))
theorem dX12_letter_18 : decode cX12_letter 18 = .ok (.iload_n 2, 1) := of_decide_eq_true (List.all_eq_true.mp dsX12_letter_0_ok (18, (.iload_n 2, 1)) (List.mem_of_getElem? (i := 10) rfl))
theorem dX12_letter_19 : decode cX12_letter 19 = .ok (.invokevirtual 457, 3) := of_decide_eq_true (List.all_eq_true.mp dsX12_letter_0_ok (19, (.invokevirtual 457, 3)) (List.mem_of_getElem? (i := 11) rfl))
theorem dX12_letter_22 : decode cX12_letter 22 = .ok (.ifCond .eq 7, 3) := of_decide_eq_true (List.all_eq_true.mp dsX12_letter_0_ok (22, (.ifCond .eq 7, 3)) (List.mem_of_getElem? (i := 12) rfl))
theorem dX12_letter_25 : decode cX12_letter 25 = .ok (.iconst 1, 1) := of_decide_eq_true (List.all_eq_true.mp dsX12_letter_0_ok (25, (.iconst 1, 1)) (List.mem_of_getElem? (i := 13) rfl))
theorem dX12_letter_26 : decode cX12_letter 26 = .ok (.goto 4, 3) := of_decide_eq_true (List.all_eq_true.mp dsX12_letter_0_ok (26, (.goto 4, 3)) (List.mem_of_getElem? (i := 14) rfl))
theorem dX12_letter_29 : decode cX12_letter 29 = .ok (.iconst 0, 1) := of_decide_eq_true (List.all_eq_true.mp dsX12_letter_0_ok (29, (.iconst 0, 1)) (List.mem_of_getElem? (i := 15) rfl))
theorem dX12_letter_30 : decode cX12_letter 30 = .ok (.istore 4, 2) := of_decide_eq_true (List.all_eq_true.mp dsX12_letter_0_ok (30, (.istore 4, 2)) (List.mem_of_getElem? (i := 16) rfl))
theorem dX12_letter_32 : decode cX12_letter 32 = .ok (.iload 4, 2) := of_decide_eq_true (List.all_eq_true.mp dsX12_letter_0_ok (32, (.iload 4, 2)) (List.mem_of_getElem? (i := 17) rfl))
theorem dX12_letter_34 : decode cX12_letter 34 = .ok (.ifCond .eq 12, 3) := of_decide_eq_true (List.all_eq_true.mp dsX12_letter_0_ok (34, (.ifCond .eq 12, 3)) (List.mem_of_getElem? (i := 18) rfl))
theorem dX12_letter_37 : decode cX12_letter 37 = .ok (.iload_n 3, 1) := of_decide_eq_true (List.all_eq_true.mp dsX12_letter_0_ok (37, (.iload_n 3, 1)) (List.mem_of_getElem? (i := 19) rfl))
theorem dX12_letter_38 : decode cX12_letter 38 = .ok (.iconst 0, 1) := of_decide_eq_true (List.all_eq_true.mp dsX12_letter_0_ok (38, (.iconst 0, 1)) (List.mem_of_getElem? (i := 20) rfl))
theorem dX12_letter_39 : decode cX12_letter 39 = .ok (.iconst 5, 1) := of_decide_eq_true (List.all_eq_true.mp dsX12_letter_0_ok (39, (.iconst 5, 1)) (List.mem_of_getElem? (i := 21) rfl))
theorem dX12_letter_40 : decode cX12_letter 40 = .ok (.invokestatic 301, 3) := of_decide_eq_true (List.all_eq_true.mp dsX12_letter_0_ok (40, (.invokestatic 301, 3)) (List.mem_of_getElem? (i := 22) rfl))
theorem dX12_letter_43 : decode cX12_letter 43 = .ok (.ifCond .ne 5, 3) := of_decide_eq_true (List.all_eq_true.mp dsX12_letter_0_ok (43, (.ifCond .ne 5, 3)) (List.mem_of_getElem? (i := 23) rfl))
theorem dX12_letter_46 : decode cX12_letter 46 = .ok (.iconst (-1), 1) := of_decide_eq_true (List.all_eq_true.mp dsX12_letter_0_ok (46, (.iconst (-1), 1)) (List.mem_of_getElem? (i := 24) rfl))
theorem dX12_letter_47 : decode cX12_letter 47 = .ok (.ireturn, 1) := of_decide_eq_true (List.all_eq_true.mp dsX12_letter_0_ok (47, (.ireturn, 1)) (List.mem_of_getElem? (i := 25) rfl))
theorem dX12_letter_48 : decode cX12_letter 48 = .ok (.iload_n 1, 1) := of_decide_eq_true (List.all_eq_true.mp dsX12_letter_0_ok (48, (.iload_n 1, 1)) (List.mem_of_getElem? (i := 26) rfl))
theorem dX12_letter_49 : decode cX12_letter 49 = .ok (.ifCond .ne 20, 3) := of_decide_eq_true (List.all_eq_true.mp dsX12_letter_0_ok (49, (.ifCond .ne 20, 3)) (List.mem_of_getElem? (i := 27) rfl))
theorem dX12_letter_52 : decode cX12_letter 52 = .ok (.aload_n 0, 1) := of_decide_eq_true (List.all_eq_true.mp dsX12_letter_0_ok (52, (.aload_n 0, 1)) (List.mem_of_getElem? (i := 28) rfl))
theorem dX12_letter_53 : decode cX12_letter 53 = .ok (.getfield 96, 3) := of_decide_eq_true (List.all_eq_true.mp dsX12_letter_0_ok (53, (.getfield 96, 3)) (List.mem_of_getElem? (i := 29) rfl))
theorem dX12_letter_56 : decode cX12_letter 56 = .ok (.bipush 7, 2) := of_decide_eq_true (List.all_eq_true.mp dsX12_letter_0_ok (56, (.bipush 7, 2)) (List.mem_of_getElem? (i := 30) rfl))
theorem dX12_letter_58 : decode cX12_letter 58 = .ok (.aload_n 0, 1) := of_decide_eq_true (List.all_eq_true.mp dsX12_letter_0_ok (58, (.aload_n 0, 1)) (List.mem_of_getElem? (i := 31) rfl))
theorem dX12_letter_59 : decode cX12_letter 59 = .ok (.getfield 51, 3) := of_decide_eq_true (List.all_eq_true.mp dsX12_letter_0_ok (59, (.getfield 51, 3)) (List.mem_of_getElem? (i := 32) rfl))
theorem dX12_letter_62 : decode cX12_letter 62 = .ok (.imul, 1) := of_decide_eq_true (List.all_eq_true.mp dsX12_letter_0_ok (62, (.imul, 1)) (List.mem_of_getElem? (i := 33) rfl))
theorem dX12_letter_63 : decode cX12_letter 63 = .ok (.iload_n 2, 1) := of_decide_eq_true (List.all_eq_true.mp dsX12_letter_0_ok (63, (.iload_n 2, 1)) (List.mem_of_getElem? (i := 34) rfl))
theorem dX12_letter_64 : decode cX12_letter 64 = .ok (.iadd, 1) := of_decide_eq_true (List.all_eq_true.mp dsX12_letter_0_ok (64, (.iadd, 1)) (List.mem_of_getElem? (i := 35) rfl))
theorem dX12_letter_65 : decode cX12_letter 65 = .ok (.laload, 1) := of_decide_eq_true (List.all_eq_true.mp dsX12_letter_0_ok (65, (.laload, 1)) (List.mem_of_getElem? (i := 36) rfl))
theorem dX12_letter_66 : decode cX12_letter 66 = .ok (.goto 17, 3) := of_decide_eq_true (List.all_eq_true.mp dsX12_letter_0_ok (66, (.goto 17, 3)) (List.mem_of_getElem? (i := 37) rfl))
theorem dX12_letter_69 : decode cX12_letter 69 = .ok (.aload_n 0, 1) := of_decide_eq_true (List.all_eq_true.mp dsX12_letter_0_ok (69, (.aload_n 0, 1)) (List.mem_of_getElem? (i := 38) rfl))
theorem dX12_letter_70 : decode cX12_letter 70 = .ok (.getfield 100, 3) := of_decide_eq_true (List.all_eq_true.mp dsX12_letter_0_ok (70, (.getfield 100, 3)) (List.mem_of_getElem? (i := 39) rfl))
theorem dX12_letter_73 : decode cX12_letter 73 = .ok (.bipush 6, 2) := of_decide_eq_true (List.all_eq_true.mp dsX12_letter_0_ok (73, (.bipush 6, 2)) (List.mem_of_getElem? (i := 40) rfl))
theorem dX12_letter_75 : decode cX12_letter 75 = .ok (.aload_n 0, 1) := of_decide_eq_true (List.all_eq_true.mp dsX12_letter_0_ok (75, (.aload_n 0, 1)) (List.mem_of_getElem? (i := 41) rfl))
theorem dX12_letter_76 : decode cX12_letter 76 = .ok (.getfield 51, 3) := of_decide_eq_true (List.all_eq_true.mp dsX12_letter_0_ok (76, (.getfield 51, 3)) (List.mem_of_getElem? (i := 42) rfl))
theorem dX12_letter_79 : decode cX12_letter 79 = .ok (.imul, 1) := of_decide_eq_true (List.all_eq_true.mp dsX12_letter_0_ok (79, (.imul, 1)) (List.mem_of_getElem? (i := 43) rfl))
theorem dX12_letter_80 : decode cX12_letter 80 = .ok (.iload_n 2, 1) := of_decide_eq_true (List.all_eq_true.mp dsX12_letter_0_ok (80, (.iload_n 2, 1)) (List.mem_of_getElem? (i := 44) rfl))
theorem dX12_letter_81 : decode cX12_letter 81 = .ok (.iadd, 1) := of_decide_eq_true (List.all_eq_true.mp dsX12_letter_0_ok (81, (.iadd, 1)) (List.mem_of_getElem? (i := 45) rfl))
theorem dX12_letter_82 : decode cX12_letter 82 = .ok (.laload, 1) := of_decide_eq_true (List.all_eq_true.mp dsX12_letter_0_ok (82, (.laload, 1)) (List.mem_of_getElem? (i := 46) rfl))
theorem dX12_letter_83 : decode cX12_letter 83 = .ok (.lstore 5, 2) := of_decide_eq_true (List.all_eq_true.mp dsX12_letter_0_ok (83, (.lstore 5, 2)) (List.mem_of_getElem? (i := 47) rfl))
theorem dX12_letter_85 : decode cX12_letter 85 = .ok (.iconst 0, 1) := of_decide_eq_true (List.all_eq_true.mp dsX12_letter_0_ok (85, (.iconst 0, 1)) (List.mem_of_getElem? (i := 48) rfl))
theorem dX12_letter_86 : decode cX12_letter 86 = .ok (.istore 7, 2) := of_decide_eq_true (List.all_eq_true.mp dsX12_letter_0_ok (86, (.istore 7, 2)) (List.mem_of_getElem? (i := 49) rfl))
theorem dX12_letter_88 : decode cX12_letter 88 = .ok (.lload 5, 2) := of_decide_eq_true (List.all_eq_true.mp dsX12_letter_0_ok (88, (.lload 5, 2)) (List.mem_of_getElem? (i := 50) rfl))
theorem dX12_letter_90 : decode cX12_letter 90 = .ok (.lstore 8, 2) := of_decide_eq_true (List.all_eq_true.mp dsX12_letter_0_ok (90, (.lstore 8, 2)) (List.mem_of_getElem? (i := 51) rfl))
theorem dX12_letter_92 : decode cX12_letter 92 = .ok (.lload 8, 2) := of_decide_eq_true (List.all_eq_true.mp dsX12_letter_0_ok (92, (.lload 8, 2)) (List.mem_of_getElem? (i := 52) rfl))
theorem dX12_letter_94 : decode cX12_letter 94 = .ok (.lconst 0, 1) := of_decide_eq_true (List.all_eq_true.mp dsX12_letter_0_ok (94, (.lconst 0, 1)) (List.mem_of_getElem? (i := 53) rfl))
theorem dX12_letter_95 : decode cX12_letter 95 = .ok (.lcmp, 1) := of_decide_eq_true (List.all_eq_true.mp dsX12_letter_0_ok (95, (.lcmp, 1)) (List.mem_of_getElem? (i := 54) rfl))
theorem dX12_letter_96 : decode cX12_letter 96 = .ok (.ifCond .le 16, 3) := of_decide_eq_true (List.all_eq_true.mp dsX12_letter_0_ok (96, (.ifCond .le 16, 3)) (List.mem_of_getElem? (i := 55) rfl))
theorem dX12_letter_99 : decode cX12_letter 99 = .ok (.iinc 7 1, 3) := of_decide_eq_true (List.all_eq_true.mp dsX12_letter_0_ok (99, (.iinc 7 1, 3)) (List.mem_of_getElem? (i := 56) rfl))
theorem dX12_letter_102 : decode cX12_letter 102 = .ok (.lload 8, 2) := of_decide_eq_true (List.all_eq_true.mp dsX12_letter_0_ok (102, (.lload 8, 2)) (List.mem_of_getElem? (i := 57) rfl))
theorem dX12_letter_104 : decode cX12_letter 104 = .ok (.bipush 8, 2) := of_decide_eq_true (List.all_eq_true.mp dsX12_letter_0_ok (104, (.bipush 8, 2)) (List.mem_of_getElem? (i := 58) rfl))
theorem dX12_letter_106 : decode cX12_letter 106 = .ok (.lshr, 1) := of_decide_eq_true (List.all_eq_true.mp dsX12_letter_0_ok (106, (.lshr, 1)) (List.mem_of_getElem? (i := 59) rfl))
def dsX12_letter_1 : List (Nat × Instr × Nat) := [(107, (.lstore 8, 2)), (109, (.goto (-17), 3)), (112, (.iload_n 3, 1)), (113, (.iload 7, 2)), (115, (.if_icmp .lt 7, 3)), (118, (.iconst 0, 1)), (119, (.goto 25, 3)), (122, (.lload 5, 2)), (124, (.bipush 8, 2)), (126, (.iload 7, 2)), (128, (.iconst 1, 1)), (129, (.isub, 1)), (130, (.iload_n 3, 1)), (131, (.isub, 1)), (132, (.imul, 1)), (133, (.lshr, 1)), (134, (.ldc2_w 460, 3)), (137, (.land, 1)), (138, (.l2i, 1)), (139, (.bipush 97, 2)), (141, (.isub, 1)), (142, (.iconst 1, 1)), (143, (.iadd, 1)), (144, (.ireturn, 1))]
theorem dsX12_letter_1_ok : (dsX12_letter_1.all fun q => decide (decode cX12_letter q.1 = .ok q.2)) = true := by decide +kernel
theorem dX12_letter_107 : decode cX12_letter 107 = .ok (.lstore 8, 2) := of_decide_eq_true (List.all_eq_true.mp dsX12_letter_1_ok (107, (.lstore 8, 2)) (List.mem_of_getElem? (i := 0) rfl))
theorem dX12_letter_109 : decode cX12_letter 109 = .ok (.goto (-17), 3) := of_decide_eq_true (List.all_eq_true.mp dsX12_letter_1_ok (109, (.goto (-17), 3)) (List.mem_of_getElem? (i := 1) rfl))
theorem dX12_letter_112 : decode cX12_letter 112 = .ok (.iload_n 3, 1) := of_decide_eq_true (List.all_eq_true.mp dsX12_letter_1_ok (112, (.iload_n 3, 1)) (List.mem_of_getElem? (i := 2) rfl))
theorem dX12_letter_113 : decode cX12_letter 113 = .ok (.iload 7, 2) := of_decide_eq_true (List.all_eq_true.mp dsX12_letter_1_ok (113, (.iload 7, 2)) (List.mem_of_getElem? (i := 3) rfl))
theorem dX12_letter_115 : decode cX12_letter 115 = .ok (.if_icmp .lt 7, 3) := of_decide_eq_true (List.all_eq_true.mp dsX12_letter_1_ok (115, (.if_icmp .lt 7, 3)) (List.mem_of_getElem? (i := 4) rfl))
theorem dX12_letter_118 : decode cX12_letter 118 = .ok (.iconst 0, 1) := of_decide_eq_true (List.all_eq_true.mp dsX12_letter_1_ok (118, (.iconst 0, 1)) (List.mem_of_getElem? (i := 5) rfl))
theorem dX12_letter_119 : decode cX12_letter 119 = .ok (.goto 25, 3) := of_decide_eq_true (List.all_eq_true.mp dsX12_letter_1_ok (119, (.goto 25, 3)) (List.mem_of_getElem? (i := 6) rfl))
theorem dX12_letter_122 : decode cX12_letter 122 = .ok (.lload 5, 2) := of_decide_eq_true (List.all_eq_true.mp dsX12_letter_1_ok (122, (.lload 5, 2)) (List.mem_of_getElem? (i := 7) rfl))
theorem dX12_letter_124 : decode cX12_letter 124 = .ok (.bipush 8, 2) := of_decide_eq_true (List.all_eq_true.mp dsX12_letter_1_ok (124, (.bipush 8, 2)) (List.mem_of_getElem? (i := 8) rfl))
theorem dX12_letter_126 : decode cX12_letter 126 = .ok (.iload 7, 2) := of_decide_eq_true (List.all_eq_true.mp dsX12_letter_1_ok (126, (.iload 7, 2)) (List.mem_of_getElem? (i := 9) rfl))
theorem dX12_letter_128 : decode cX12_letter 128 = .ok (.iconst 1, 1) := of_decide_eq_true (List.all_eq_true.mp dsX12_letter_1_ok (128, (.iconst 1, 1)) (List.mem_of_getElem? (i := 10) rfl))
theorem dX12_letter_129 : decode cX12_letter 129 = .ok (.isub, 1) := of_decide_eq_true (List.all_eq_true.mp dsX12_letter_1_ok (129, (.isub, 1)) (List.mem_of_getElem? (i := 11) rfl))
theorem dX12_letter_130 : decode cX12_letter 130 = .ok (.iload_n 3, 1) := of_decide_eq_true (List.all_eq_true.mp dsX12_letter_1_ok (130, (.iload_n 3, 1)) (List.mem_of_getElem? (i := 12) rfl))
theorem dX12_letter_131 : decode cX12_letter 131 = .ok (.isub, 1) := of_decide_eq_true (List.all_eq_true.mp dsX12_letter_1_ok (131, (.isub, 1)) (List.mem_of_getElem? (i := 13) rfl))
theorem dX12_letter_132 : decode cX12_letter 132 = .ok (.imul, 1) := of_decide_eq_true (List.all_eq_true.mp dsX12_letter_1_ok (132, (.imul, 1)) (List.mem_of_getElem? (i := 14) rfl))
theorem dX12_letter_133 : decode cX12_letter 133 = .ok (.lshr, 1) := of_decide_eq_true (List.all_eq_true.mp dsX12_letter_1_ok (133, (.lshr, 1)) (List.mem_of_getElem? (i := 15) rfl))
theorem dX12_letter_134 : decode cX12_letter 134 = .ok (.ldc2_w 460, 3) := of_decide_eq_true (List.all_eq_true.mp dsX12_letter_1_ok (134, (.ldc2_w 460, 3)) (List.mem_of_getElem? (i := 16) rfl))
theorem dX12_letter_137 : decode cX12_letter 137 = .ok (.land, 1) := of_decide_eq_true (List.all_eq_true.mp dsX12_letter_1_ok (137, (.land, 1)) (List.mem_of_getElem? (i := 17) rfl))
theorem dX12_letter_138 : decode cX12_letter 138 = .ok (.l2i, 1) := of_decide_eq_true (List.all_eq_true.mp dsX12_letter_1_ok (138, (.l2i, 1)) (List.mem_of_getElem? (i := 18) rfl))
theorem dX12_letter_139 : decode cX12_letter 139 = .ok (.bipush 97, 2) := of_decide_eq_true (List.all_eq_true.mp dsX12_letter_1_ok (139, (.bipush 97, 2)) (List.mem_of_getElem? (i := 19) rfl))
theorem dX12_letter_141 : decode cX12_letter 141 = .ok (.isub, 1) := of_decide_eq_true (List.all_eq_true.mp dsX12_letter_1_ok (141, (.isub, 1)) (List.mem_of_getElem? (i := 20) rfl))
theorem dX12_letter_142 : decode cX12_letter 142 = .ok (.iconst 1, 1) := of_decide_eq_true (List.all_eq_true.mp dsX12_letter_1_ok (142, (.iconst 1, 1)) (List.mem_of_getElem? (i := 21) rfl))
theorem dX12_letter_143 : decode cX12_letter 143 = .ok (.iadd, 1) := of_decide_eq_true (List.all_eq_true.mp dsX12_letter_1_ok (143, (.iadd, 1)) (List.mem_of_getElem? (i := 22) rfl))
theorem dX12_letter_144 : decode cX12_letter 144 = .ok (.ireturn, 1) := of_decide_eq_true (List.all_eq_true.mp dsX12_letter_1_ok (144, (.ireturn, 1)) (List.mem_of_getElem? (i := 23) rfl))
def fX12_letter_l92 (N : Nat) (mmI : Nat → Int32) (mm_placesF : Nat → Int32) (mm_earsF : Nat → Int32) (mm_placeNameL : Nat → Int64) (mm_earNameL : Nat → Int64)  (k92 : (Int32 × Int64 × Int32 × Int64) → Option (Int32)) : (Int32 × Int64 × Int32 × Int64) → Option (Int32) :=
  fun (x3_92, x5_92, x7_92, x8_92) => (if (lg_cmp x8_92 0) ≤ 0 then (if x3_92 < x7_92 then some (((((x5_92 >>> ((8 * ((x7_92 - 1) - x3_92)).toInt64 &&& 63)) &&& 255).toInt32) - 97) + 1) else some 0) else k92 (x3_92, x5_92, x7_92 + 1, x8_92 >>> ((8 : Int32).toInt64 &&& 63)))
def fX12_letter_b83 (N : Nat) (mmI : Nat → Int32) (mm_placesF : Nat → Int32) (mm_earsF : Nat → Int32) (mm_placeNameL : Nat → Int64) (mm_earNameL : Nat → Int64)   : (Int32 × Int64) → Option (Int32) :=
  fun (x3_83, y0_83) => xq_loop (fX12_letter_l92 N mmI mm_placesF mm_earsF mm_placeNameL mm_earNameL) N (x3_83, y0_83, 0, y0_83)
def fX12_letter_b30 (N : Nat) (mmI : Nat → Int32) (mm_placesF : Nat → Int32) (mm_earsF : Nat → Int32) (mm_placeNameL : Nat → Int64) (mm_earNameL : Nat → Int64)   : (Int32 × Int32 × Int32 × Int32) → Option (Int32) :=
  fun (x1_30, x2_30, x3_30, y0_30) => (if y0_30 = 0 then some ((-1)) else (xq_bd (fX12_is N x3_30 0 5) fun r_1 => (if r_1 = 0 then some ((-1)) else (if x1_30 = 0 then (xq_bd (xq_aldL 14 mm_earNameL ((7 * (mmI 13)) + x2_30)) fun v_4 => fX12_letter_b83 N mmI mm_placesF mm_earsF mm_placeNameL mm_earNameL (x3_30, v_4)) else (xq_bd (xq_aldL 12 mm_placeNameL ((6 * (mmI 13)) + x2_30)) fun v_3 => fX12_letter_b83 N mmI mm_placesF mm_earsF mm_placeNameL mm_earNameL (x3_30, v_3))))))
def fX12_letter_b29 (N : Nat) (mmI : Nat → Int32) (mm_placesF : Nat → Int32) (mm_earsF : Nat → Int32) (mm_placeNameL : Nat → Int64) (mm_earNameL : Nat → Int64)   : (Int32 × Int32 × Int32) → Option (Int32) :=
  fun (x1_29, x2_29, x3_29) => fX12_letter_b30 N mmI mm_placesF mm_earsF mm_placeNameL mm_earNameL (x1_29, x2_29, x3_29, 0)
def fX12_letter (N : Nat) (mmI : Nat → Int32) (mm_placesF : Nat → Int32) (mm_earsF : Nat → Int32) (mm_placeNameL : Nat → Int64) (mm_earNameL : Nat → Int64)  (p1 : Int32) (p2 : Int32) (p3 : Int32) : Option (Int32) :=
  (if p1 = 0 then (xq_bd (fX12_isEar N mmI mm_earsF p2) fun r_3 => fX12_letter_b30 N mmI mm_placesF mm_earsF mm_placeNameL mm_earNameL (p1, p2, p3, r_3)) else (if p1 = 1 then (xq_bd (fX12_isPlace N mmI mm_placesF p2) fun r_1 => (if r_1 = 0 then fX12_letter_b29 N mmI mm_placesF mm_earsF mm_placeNameL mm_earNameL (p1, p2, p3) else fX12_letter_b30 N mmI mm_placesF mm_earsF mm_placeNameL mm_earNameL (p1, p2, p3, 1))) else fX12_letter_b29 N mmI mm_placesF mm_earsF mm_placeNameL mm_earNameL (p1, p2, p3)))
set_option maxHeartbeats 4000000 in
set_option maxRecDepth 100000 in
theorem kX12_letter (l : Launch) (dC : Nat → ClassId) (dI : Nat → Nat → Nat) (cI cB cJ cZ cM : ClassId) (z : Nat) (ad : Nat → Nat) (N : Nat) (a_p0 : Nat) (mmI : Nat → Int32) (mmJ : Nat → Int64) (mmR : Nat → Nat) (mm_placesF : Nat → Int32) (mm_earsF : Nat → Int32) (mm_placeNameL : Nat → Int64) (mm_earNameL : Nat → Int64) (p1 : Int32) (p2 : Int32) (p3 : Int32) {r0 : Int32} (hf : fX12_letter N mmI mm_placesF mm_earsF mm_placeNameL mm_earNameL p1 p2 p3 = some r0) : xq_Ct l yX12_letter wsX12_letter { frames := 1, cells := 0, slots := 0, locals := 22 } (dC, dI) vwCl (xq_tys cI cB cJ cZ cM) z ad [.ref a_p0, .int p1, .int p2, .int p3] [(a_p0, .inr (12, oX12 mmI mmJ mmR)), ((mmR 21), .inl (cI, 2, .inl mm_placesF)), ((mmR 18), .inl (cI, 2, .inl mm_earsF)), ((mmR 29), .inl (cJ, 12, .inr (.inl mm_placeNameL))), ((mmR 28), .inl (cJ, 14, .inr (.inl mm_earNameL)))] [(a_p0, .inr (12, oX12 mmI mmJ mmR)), ((mmR 21), .inl (cI, 2, .inl mm_placesF)), ((mmR 18), .inl (cI, 2, .inl mm_earsF)), ((mmR 29), .inl (cJ, 12, .inr (.inl mm_placeNameL))), ((mmR 28), .inl (cJ, 14, .inr (.inl mm_earNameL)))] (some (.int r0)) := by
  intro sz
  refine Met.ofW (cc := cX12_letter) (maxL := 10) (ret := (some .int)) (by decide) rfl ?_
  intro p e s m args below meth c s₁ B hml hv
  obtain ⟨rfl, hsz, hP, hK, hD0, hE, hz⟩ := hv
  have hx := B.exec
  have hb := B.bytes
  have hr := B.returns
  have hts := atoms_spec (ws := wsX12_letter) B.pre
  have hown : s.vm.findClass RX12 = some m.cls := findClass_of_methodNamed B.named
  have hlocks := B.notSynchronized
  subst hsz
  have hD := hD0.self (sz := s.heap.size)
  have hN := xq_Env.of hE hz hD0
  generalize hAe : va_A [(a_p0, .inr (12, oX12 mmI mmJ mmR)), ((mmR 21), .inl (cI, 2, .inl mm_placesF)), ((mmR 18), .inl (cI, 2, .inl mm_earsF)), ((mmR 29), .inl (cJ, 12, .inr (.inl mm_placeNameL))), ((mmR 28), .inl (cJ, 14, .inr (.inl mm_earNameL)))] s.heap.size = A at hD hN ⊢
  have hA : ∀ q : Nat, s.heap.size ≤ q → A q := fun q h => by rw [← hAe]; exact Or.inr h
  clear hAe hD0
  have hS : va_S A s.heap s.heap [] := va_S.rf
  have hl := lv_entry ([.ref a_p0, .int p1, .int p2, .int p3]) (n := 10) (Nat.le_of_ble_eq_true rfl)
  rw [lg_entry_eq]
  generalize (lg_sl ([.ref a_p0, .int p1, .int p2, .int p3]) ++ List.replicate (10 - (lg_sl ([.ref a_p0, .int p1, .int p2, .int p3])).length) Slot.unset).toArray = ls at hl ⊢
  have hl : lv_has ls 10 [(0, .ref a_p0), (1, .int p1), (2, .int p2), (3, .int p3)] := hl
  have hw0 := hts (.fieldLink RX12 100 "DistantVoiceModel" "placeName" "[J") (by decide +kernel)
  have hinX12 : ∀ w ∈ wsX120, w ∈ wsX12_letter := fun w h => List.mem_cons_of_mem _ (List.mem_append_right _ h)
  have hw2 := hts (.fieldLink RX12 51 "DistantVoiceModel" "bank" "I") (by decide +kernel)
  have hw3 := hts (.fieldLink RX12 96 "DistantVoiceModel" "earName" "[J") (by decide +kernel)
  have hw4 := hts (.constantLong RX12 460 (255)) (by decide +kernel)
  have l92 : ∀ n92 : Nat, ∀ (x3_92 : Int32) (x5_92 : Int64) (x7_92 : Int32) (x8_92 : Int64) (ls : Array Slot) (H : Heap) (locs : List Loc), xq_loop (fX12_letter_l92 N mmI mm_placesF mm_earsF mm_placeNameL mm_earNameL) n92 (x3_92, x5_92, x7_92, x8_92) = some r0 → va_P (dC, dI) vwCl [(a_p0, .inr (12, oX12 mmI mmJ mmR)), ((mmR 21), .inl (cI, 2, .inl mm_placesF)), ((mmR 18), .inl (cI, 2, .inl mm_earsF)), ((mmR 29), .inl (cJ, 12, .inr (.inl mm_placeNameL))), ((mmR 28), .inl (cJ, 14, .inr (.inl mm_earNameL)))] H → va_D A [(a_p0, .inr (12, oX12 mmI mmJ mmR)), ((mmR 21), .inl (cI, 2, .inl mm_placesF)), ((mmR 18), .inl (cI, 2, .inl mm_earsF)), ((mmR 29), .inl (cJ, 12, .inr (.inl mm_placeNameL))), ((mmR 28), .inl (cJ, 14, .inr (.inl mm_earNameL)))] → va_S A s.heap H locs → lv_has ls 10 [(3, .int x3_92), (5, .long x5_92), (7, .int x7_92), (8, .long x8_92)] → W p l e (headSpec wsX12_letter { frames := 1, cells := 0, slots := 0, locals := 22 }).room s m [.ref a_p0, .int p1, .int p2, .int p3].toArray below meth c H locs 0 0 (MQ below (xq_Q (dC, dI) vwCl (xq_tys cI cB cJ cZ cM) A [(a_p0, .inr (12, oX12 mmI mmJ mmR)), ((mmR 21), .inl (cI, 2, .inl mm_placesF)), ((mmR 18), .inl (cI, 2, .inl mm_earsF)), ((mmR 29), .inl (cJ, 12, .inr (.inl mm_placeNameL))), ((mmR 28), .inl (cJ, 14, .inr (.inl mm_earNameL)))] (some (.int r0))) [.ref a_p0, .int p1, .int p2, .int p3].toArray s 0 0 A) (F0 m 92 ls []) := by
    intro n92
    induction n92 with
    | zero => intro x3_92 x5_92 x7_92 x8_92 ls H locs hf; cases (show none = some r0 from hf)
    | succ n92 ih92 =>
      intro x3_92 x5_92 x7_92 x8_92 ls H locs hf hP hD hS hl
      have hf : fX12_letter_l92 N mmI mm_placesF mm_earsF mm_placeNameL mm_earNameL (xq_loop (fX12_letter_l92 N mmI mm_placesF mm_earsF mm_placeNameL mm_earNameL) n92) (x3_92, x5_92, x7_92, x8_92) = some r0 := hf
      unfold fX12_letter_l92 at hf
      refine lv_lload hx hb dX12_letter_92 (lv_at hl 3 rfl) ?_
      refine lv_lconst (v := 0) hx hb dX12_letter_94 (by decide) ?_
      refine W.lcmp hx hb dX12_letter_95 ?_
      refine lv_if_le (tgt := 112) hx hb dX12_letter_96 (by decide) (fun c_ => ?_) (fun c_ => ?_)
      · have hf := xq_pos hf c_
        refine lv_iload_n hx hb dX12_letter_112 rfl (lv_at hl 0 rfl) ?_
        refine lv_iload hx hb dX12_letter_113 (lv_at hl 2 rfl) ?_
        refine lv_icmp_lt (tgt := 122) hx hb dX12_letter_115 (by decide) (fun c_ => ?_) (fun c_ => ?_)
        · have hf := xq_pos hf c_
          refine lv_lload hx hb dX12_letter_122 (lv_at hl 1 rfl) ?_
          refine lv_bipush (v := 8) hx hb dX12_letter_124 (by decide) ?_
          refine lv_iload hx hb dX12_letter_126 (lv_at hl 2 rfl) ?_
          refine lv_iconst (v := 1) hx hb dX12_letter_128 (by decide) ?_
          refine lv_isub hx hb dX12_letter_129 ?_
          refine lv_iload_n hx hb dX12_letter_130 rfl (lv_at hl 0 rfl) ?_
          refine lv_isub hx hb dX12_letter_131 ?_
          refine lv_imul hx hb dX12_letter_132 ?_
          refine lv_lshr (v := x5_92 >>> ((8 * ((x7_92 - 1) - x3_92)).toInt64 &&& 63)) hx hb dX12_letter_133 rfl ?_
          refine lv_ldc2 (v := 255) hx hb hown hw4 dX12_letter_134 ?_
          refine lv_land hx hb dX12_letter_137 ?_
          refine lv_l2i (v := ((x5_92 >>> ((8 * ((x7_92 - 1) - x3_92)).toInt64 &&& 63)) &&& 255).toInt32) hx hb dX12_letter_138 rfl ?_
          refine lv_bipush (v := 97) hx hb dX12_letter_139 (by decide) ?_
          refine lv_isub hx hb dX12_letter_141 ?_
          refine lv_iconst (v := 1) hx hb dX12_letter_142 (by decide) ?_
          refine lv_iadd hx hb dX12_letter_143 ?_
          have hP9 := hP
          have hD9 := hD
          have hS9 := hS
          cases hf
          exact xq_iret hx hb hr hlocks hK hP9 hD9 hS9 dX12_letter_144
        · have hf := xq_neg hf c_
          refine lv_iconst (v := 0) hx hb dX12_letter_118 (by decide) ?_
          refine lv_goto (tgt := 144) hx hb dX12_letter_119 (by decide) ?_
          have hP9 := hP
          have hD9 := hD
          have hS9 := hS
          cases hf
          exact xq_iret hx hb hr hlocks hK hP9 hD9 hS9 dX12_letter_144
      · have hf := xq_neg hf c_
        refine lv_iinc (v := x7_92 + 1) (lv' := [(7, .int (x7_92 + 1)), (3, .int x3_92), (5, .long x5_92), (8, .long x8_92)]) hx hb dX12_letter_99 hl (k := 2) rfl (congrArg (fun q9 => x7_92 + q9) (by decide : Int32.ofInt 1 = 1)) (by decide) rfl (fun ls hl => ?_)
        refine lv_lload hx hb dX12_letter_102 (lv_at hl 3 rfl) ?_
        refine lv_bipush (v := 8) hx hb dX12_letter_104 (by decide) ?_
        refine lv_lshr (v := x8_92 >>> ((8 : Int32).toInt64 &&& 63)) hx hb dX12_letter_106 rfl ?_
        refine lv_lstore (lv' := [(8, .long (x8_92 >>> ((8 : Int32).toInt64 &&& 63))), (7, .int (x7_92 + 1)), (3, .int x3_92), (5, .long x5_92)]) hx hb dX12_letter_107 hl (by decide) rfl (fun ls hl => ?_)
        refine lv_goto (tgt := 92) hx hb dX12_letter_109 (by decide) ?_
        exact ih92 x3_92 x5_92 (x7_92 + 1) (x8_92 >>> ((8 : Int32).toInt64 &&& 63)) _ _ _ hf hP hD hS (lv_sub hl [2, 3, 1, 0] rfl)
  have b83 : ∀ (x3_83 : Int32) (y0_83 : Int64) (ls : Array Slot) (H : Heap) (locs : List Loc), fX12_letter_b83 N mmI mm_placesF mm_earsF mm_placeNameL mm_earNameL (x3_83, y0_83) = some r0 → va_P (dC, dI) vwCl [(a_p0, .inr (12, oX12 mmI mmJ mmR)), ((mmR 21), .inl (cI, 2, .inl mm_placesF)), ((mmR 18), .inl (cI, 2, .inl mm_earsF)), ((mmR 29), .inl (cJ, 12, .inr (.inl mm_placeNameL))), ((mmR 28), .inl (cJ, 14, .inr (.inl mm_earNameL)))] H → va_D A [(a_p0, .inr (12, oX12 mmI mmJ mmR)), ((mmR 21), .inl (cI, 2, .inl mm_placesF)), ((mmR 18), .inl (cI, 2, .inl mm_earsF)), ((mmR 29), .inl (cJ, 12, .inr (.inl mm_placeNameL))), ((mmR 28), .inl (cJ, 14, .inr (.inl mm_earNameL)))] → va_S A s.heap H locs → lv_has ls 10 [(3, .int x3_83)] → W p l e (headSpec wsX12_letter { frames := 1, cells := 0, slots := 0, locals := 22 }).room s m [.ref a_p0, .int p1, .int p2, .int p3].toArray below meth c H locs 0 0 (MQ below (xq_Q (dC, dI) vwCl (xq_tys cI cB cJ cZ cM) A [(a_p0, .inr (12, oX12 mmI mmJ mmR)), ((mmR 21), .inl (cI, 2, .inl mm_placesF)), ((mmR 18), .inl (cI, 2, .inl mm_earsF)), ((mmR 29), .inl (cJ, 12, .inr (.inl mm_placeNameL))), ((mmR 28), .inl (cJ, 14, .inr (.inl mm_earNameL)))] (some (.int r0))) [.ref a_p0, .int p1, .int p2, .int p3].toArray s 0 0 A) (F0 m 83 ls [.long y0_83]) := by
    intro x3_83 y0_83 ls H locs hf hP hD hS hl
    unfold fX12_letter_b83 at hf
    refine lv_lstore (lv' := [(5, .long y0_83), (3, .int x3_83)]) hx hb dX12_letter_83 hl (by decide) rfl (fun ls hl => ?_)
    refine lv_iconst (v := 0) hx hb dX12_letter_85 (by decide) ?_
    refine lv_istore (lv' := [(7, .int 0), (5, .long y0_83), (3, .int x3_83)]) hx hb dX12_letter_86 hl (by decide) rfl (fun ls hl => ?_)
    refine lv_lload hx hb dX12_letter_88 (lv_at hl 1 rfl) ?_
    refine lv_lstore (lv' := [(8, .long y0_83), (7, .int 0), (5, .long y0_83), (3, .int x3_83)]) hx hb dX12_letter_90 hl (by decide) rfl (fun ls hl => ?_)
    exact l92 N x3_83 y0_83 0 y0_83 _ _ _ hf hP hD hS (lv_sub hl [3, 2, 1, 0] rfl)
  have b30 : ∀ (x1_30 : Int32) (x2_30 : Int32) (x3_30 : Int32) (y0_30 : Int32) (ls : Array Slot) (H : Heap) (locs : List Loc), fX12_letter_b30 N mmI mm_placesF mm_earsF mm_placeNameL mm_earNameL (x1_30, x2_30, x3_30, y0_30) = some r0 → va_P (dC, dI) vwCl [(a_p0, .inr (12, oX12 mmI mmJ mmR)), ((mmR 21), .inl (cI, 2, .inl mm_placesF)), ((mmR 18), .inl (cI, 2, .inl mm_earsF)), ((mmR 29), .inl (cJ, 12, .inr (.inl mm_placeNameL))), ((mmR 28), .inl (cJ, 14, .inr (.inl mm_earNameL)))] H → va_D A [(a_p0, .inr (12, oX12 mmI mmJ mmR)), ((mmR 21), .inl (cI, 2, .inl mm_placesF)), ((mmR 18), .inl (cI, 2, .inl mm_earsF)), ((mmR 29), .inl (cJ, 12, .inr (.inl mm_placeNameL))), ((mmR 28), .inl (cJ, 14, .inr (.inl mm_earNameL)))] → va_S A s.heap H locs → lv_has ls 10 [(0, .ref a_p0), (1, .int x1_30), (2, .int x2_30), (3, .int x3_30)] → W p l e (headSpec wsX12_letter { frames := 1, cells := 0, slots := 0, locals := 22 }).room s m [.ref a_p0, .int p1, .int p2, .int p3].toArray below meth c H locs 0 0 (MQ below (xq_Q (dC, dI) vwCl (xq_tys cI cB cJ cZ cM) A [(a_p0, .inr (12, oX12 mmI mmJ mmR)), ((mmR 21), .inl (cI, 2, .inl mm_placesF)), ((mmR 18), .inl (cI, 2, .inl mm_earsF)), ((mmR 29), .inl (cJ, 12, .inr (.inl mm_placeNameL))), ((mmR 28), .inl (cJ, 14, .inr (.inl mm_earNameL)))] (some (.int r0))) [.ref a_p0, .int p1, .int p2, .int p3].toArray s 0 0 A) (F0 m 30 ls [.int y0_30]) := by
    intro x1_30 x2_30 x3_30 y0_30 ls H locs hf hP hD hS hl
    unfold fX12_letter_b30 at hf
    refine lv_istore (lv' := [(4, .int y0_30), (0, .ref a_p0), (1, .int x1_30), (2, .int x2_30), (3, .int x3_30)]) hx hb dX12_letter_30 hl (by decide) rfl (fun ls hl => ?_)
    refine lv_iload hx hb dX12_letter_32 (lv_at hl 0 rfl) ?_
    refine lv_if_eq (tgt := 46) hx hb dX12_letter_34 (by decide) (fun c_ => ?_) (fun c_ => ?_)
    · have hf := xq_pos hf c_
      refine lv_iconst (v := (-1)) hx hb dX12_letter_46 (by decide) ?_
      have hP9 := hP
      have hD9 := hD
      have hS9 := hS
      cases hf
      exact xq_iret hx hb hr hlocks hK hP9 hD9 hS9 dX12_letter_47
    · have hf := xq_neg hf c_
      refine lv_iload_n hx hb dX12_letter_37 rfl (lv_at hl 4 rfl) ?_
      refine lv_iconst (v := 0) hx hb dX12_letter_38 (by decide) ?_
      refine lv_iconst (v := 5) hx hb dX12_letter_39 (by decide) ?_
      obtain ⟨r_1, h_2, hf⟩ := xq_bd_some hf
      refine xq_callS (As := [.int x3_30, .int 0, .int 5]) (rest := []) ⟨hx, hb, hml, hown, hts⟩ (kX12_is l dC dI cI cB cJ cZ cM z ad N x3_30 0 5 h_2) (va_cwS 3 hts gX12_letter_X12_is rfl rfl rfl (by decide +kernel) ⟨Nat.le_of_ble_eq_true rfl, Nat.le_of_ble_eq_true rfl⟩) hN hK hP hD hS hA [] (by decide) rfl rfl rfl hl.1 rfl (Nat.le_of_ble_eq_true rfl) dX12_letter_40 ⟨Nat.zero_le _, Nat.zero_le _⟩ (fun H locs hP hD hS => ?_)
      have hP : va_P (dC, dI) vwCl [(a_p0, .inr (12, oX12 mmI mmJ mmR)), ((mmR 21), .inl (cI, 2, .inl mm_placesF)), ((mmR 18), .inl (cI, 2, .inl mm_earsF)), ((mmR 29), .inl (cJ, 12, .inr (.inl mm_placeNameL))), ((mmR 28), .inl (cJ, 14, .inr (.inl mm_earNameL)))] H := hP
      have hD : va_D A [(a_p0, .inr (12, oX12 mmI mmJ mmR)), ((mmR 21), .inl (cI, 2, .inl mm_placesF)), ((mmR 18), .inl (cI, 2, .inl mm_earsF)), ((mmR 29), .inl (cJ, 12, .inr (.inl mm_placeNameL))), ((mmR 28), .inl (cJ, 14, .inr (.inl mm_earNameL)))] := hD
      refine W.eq (g2 := F0 m 43 ls [.int r_1]) rfl ?_
      refine lv_if_ne (tgt := 48) hx hb dX12_letter_43 (by decide) (fun c_ => ?_) (fun c_ => ?_)
      · have hf := xq_neg hf c_
        refine lv_iload_n hx hb dX12_letter_48 rfl (lv_at hl 2 rfl) ?_
        refine lv_if_ne (tgt := 69) hx hb dX12_letter_49 (by decide) (fun c_ => ?_) (fun c_ => ?_)
        · have hf := xq_neg hf c_
          refine lv_aload_n hx hb dX12_letter_69 rfl (lv_at hl 1 rfl) ?_
          refine va_get (D := (dC, dI)) (ci := 12) (v := .ref ((mmR 29))) (C := RX12) (T := TX12) (N := 70) hx hb hts hinX12 hown hK hP 0 rfl rfl 29 (by decide) hw0 (fun _ h9 => h9) rfl dX12_letter_70 ?_
          refine lv_bipush (v := 6) hx hb dX12_letter_73 (by decide) ?_
          refine lv_aload_n hx hb dX12_letter_75 rfl (lv_at hl 1 rfl) ?_
          refine va_get (D := (dC, dI)) (ci := 12) (v := .int (mmI 13)) (C := RX12) (T := TX12) (N := 70) hx hb hts hinX12 hown hK hP 0 rfl rfl 13 (by decide) hw2 (fun _ h9 => h9) rfl dX12_letter_76 ?_
          refine lv_imul hx hb dX12_letter_79 ?_
          refine lv_iload_n hx hb dX12_letter_80 rfl (lv_at hl 3 rfl) ?_
          refine lv_iadd hx hb dX12_letter_81 ?_
          refine xq_lald hx hb hK hP 3 2 rfl rfl hf dX12_letter_82 (fun v_3 hf => ?_)
          exact b83 x3_30 v_3 _ _ _ hf hP hD hS (lv_sub hl [4] rfl)
        · have hf := xq_pos hf c_
          refine lv_aload_n hx hb dX12_letter_52 rfl (lv_at hl 1 rfl) ?_
          refine va_get (D := (dC, dI)) (ci := 12) (v := .ref ((mmR 28))) (C := RX12) (T := TX12) (N := 70) hx hb hts hinX12 hown hK hP 0 rfl rfl 28 (by decide) hw3 (fun _ h9 => h9) rfl dX12_letter_53 ?_
          refine lv_bipush (v := 7) hx hb dX12_letter_56 (by decide) ?_
          refine lv_aload_n hx hb dX12_letter_58 rfl (lv_at hl 1 rfl) ?_
          refine va_get (D := (dC, dI)) (ci := 12) (v := .int (mmI 13)) (C := RX12) (T := TX12) (N := 70) hx hb hts hinX12 hown hK hP 0 rfl rfl 13 (by decide) hw2 (fun _ h9 => h9) rfl dX12_letter_59 ?_
          refine lv_imul hx hb dX12_letter_62 ?_
          refine lv_iload_n hx hb dX12_letter_63 rfl (lv_at hl 3 rfl) ?_
          refine lv_iadd hx hb dX12_letter_64 ?_
          refine xq_lald hx hb hK hP 4 2 rfl rfl hf dX12_letter_65 (fun v_4 hf => ?_)
          refine lv_goto (tgt := 83) hx hb dX12_letter_66 (by decide) ?_
          exact b83 x3_30 v_4 _ _ _ hf hP hD hS (lv_sub hl [4] rfl)
      · have hf := xq_pos hf c_
        refine lv_iconst (v := (-1)) hx hb dX12_letter_46 (by decide) ?_
        have hP9 := hP
        have hD9 := hD
        have hS9 := hS
        cases hf
        exact xq_iret hx hb hr hlocks hK hP9 hD9 hS9 dX12_letter_47
  have b29 : ∀ (x1_29 : Int32) (x2_29 : Int32) (x3_29 : Int32) (ls : Array Slot) (H : Heap) (locs : List Loc), fX12_letter_b29 N mmI mm_placesF mm_earsF mm_placeNameL mm_earNameL (x1_29, x2_29, x3_29) = some r0 → va_P (dC, dI) vwCl [(a_p0, .inr (12, oX12 mmI mmJ mmR)), ((mmR 21), .inl (cI, 2, .inl mm_placesF)), ((mmR 18), .inl (cI, 2, .inl mm_earsF)), ((mmR 29), .inl (cJ, 12, .inr (.inl mm_placeNameL))), ((mmR 28), .inl (cJ, 14, .inr (.inl mm_earNameL)))] H → va_D A [(a_p0, .inr (12, oX12 mmI mmJ mmR)), ((mmR 21), .inl (cI, 2, .inl mm_placesF)), ((mmR 18), .inl (cI, 2, .inl mm_earsF)), ((mmR 29), .inl (cJ, 12, .inr (.inl mm_placeNameL))), ((mmR 28), .inl (cJ, 14, .inr (.inl mm_earNameL)))] → va_S A s.heap H locs → lv_has ls 10 [(0, .ref a_p0), (1, .int x1_29), (2, .int x2_29), (3, .int x3_29)] → W p l e (headSpec wsX12_letter { frames := 1, cells := 0, slots := 0, locals := 22 }).room s m [.ref a_p0, .int p1, .int p2, .int p3].toArray below meth c H locs 0 0 (MQ below (xq_Q (dC, dI) vwCl (xq_tys cI cB cJ cZ cM) A [(a_p0, .inr (12, oX12 mmI mmJ mmR)), ((mmR 21), .inl (cI, 2, .inl mm_placesF)), ((mmR 18), .inl (cI, 2, .inl mm_earsF)), ((mmR 29), .inl (cJ, 12, .inr (.inl mm_placeNameL))), ((mmR 28), .inl (cJ, 14, .inr (.inl mm_earNameL)))] (some (.int r0))) [.ref a_p0, .int p1, .int p2, .int p3].toArray s 0 0 A) (F0 m 29 ls []) := by
    intro x1_29 x2_29 x3_29 ls H locs hf hP hD hS hl
    unfold fX12_letter_b29 at hf
    refine lv_iconst (v := 0) hx hb dX12_letter_29 (by decide) ?_
    exact b30 x1_29 x2_29 x3_29 0 _ _ _ hf hP hD hS (lv_sub hl [0, 1, 2, 3] rfl)
  unfold fX12_letter at hf
  refine lv_iload_n hx hb dX12_letter_0 rfl (lv_at hl 1 rfl) ?_
  refine lv_if_ne (tgt := 12) hx hb dX12_letter_1 (by decide) (fun c_ => ?_) (fun c_ => ?_)
  · have hf := xq_neg hf c_
    refine lv_iload_n hx hb dX12_letter_12 rfl (lv_at hl 1 rfl) ?_
    refine lv_iconst (v := 1) hx hb dX12_letter_13 (by decide) ?_
    refine lv_icmp_ne (tgt := 29) hx hb dX12_letter_14 (by decide) (fun c_ => ?_) (fun c_ => ?_)
    · have hf := xq_neg hf c_
      exact b29 p1 p2 p3 _ _ _ hf hP hD hS (lv_sub hl [0, 1, 2, 3] rfl)
    · have hf := xq_pos hf c_
      refine lv_aload_n hx hb dX12_letter_17 rfl (lv_at hl 0 rfl) ?_
      refine lv_iload_n hx hb dX12_letter_18 rfl (lv_at hl 2 rfl) ?_
      obtain ⟨r_1, h_2, hf⟩ := xq_bd_some hf
      refine xq_callV (As := [.int p2]) (rest := []) (ci := 12) (q0 := 0) ⟨hx, hb, hml, hown, hts⟩ (kX12_isPlace l dC dI cI cB cJ cZ cM z ad N a_p0 mmI mmJ mmR mm_placesF p2 h_2) (cwV 1 hts gX12_letter_X12_isPlace rfl rfl rfl (by decide +kernel) ⟨Nat.le_of_ble_eq_true rfl, Nat.le_of_ble_eq_true rfl⟩) hN hK hP hD hS hA [0, 1] (by decide) rfl rfl rfl rfl rfl rfl hl.1 rfl (Nat.le_of_ble_eq_true rfl) dX12_letter_19 ⟨Nat.zero_le _, Nat.zero_le _⟩ (fun H locs hP hD hS => ?_)
      have hP : va_P (dC, dI) vwCl [(a_p0, .inr (12, oX12 mmI mmJ mmR)), ((mmR 21), .inl (cI, 2, .inl mm_placesF)), ((mmR 18), .inl (cI, 2, .inl mm_earsF)), ((mmR 29), .inl (cJ, 12, .inr (.inl mm_placeNameL))), ((mmR 28), .inl (cJ, 14, .inr (.inl mm_earNameL)))] H := hP
      have hD : va_D A [(a_p0, .inr (12, oX12 mmI mmJ mmR)), ((mmR 21), .inl (cI, 2, .inl mm_placesF)), ((mmR 18), .inl (cI, 2, .inl mm_earsF)), ((mmR 29), .inl (cJ, 12, .inr (.inl mm_placeNameL))), ((mmR 28), .inl (cJ, 14, .inr (.inl mm_earNameL)))] := hD
      refine W.eq (g2 := F0 m 22 ls [.int r_1]) rfl ?_
      refine lv_if_eq (tgt := 29) hx hb dX12_letter_22 (by decide) (fun c_ => ?_) (fun c_ => ?_)
      · have hf := xq_pos hf c_
        exact b29 p1 p2 p3 _ _ _ hf hP hD hS (lv_sub hl [0, 1, 2, 3] rfl)
      · have hf := xq_neg hf c_
        refine lv_iconst (v := 1) hx hb dX12_letter_25 (by decide) ?_
        refine lv_goto (tgt := 30) hx hb dX12_letter_26 (by decide) ?_
        exact b30 p1 p2 p3 1 _ _ _ hf hP hD hS (lv_sub hl [0, 1, 2, 3] rfl)
  · have hf := xq_pos hf c_
    refine lv_aload_n hx hb dX12_letter_4 rfl (lv_at hl 0 rfl) ?_
    refine lv_iload_n hx hb dX12_letter_5 rfl (lv_at hl 2 rfl) ?_
    obtain ⟨r_3, h_4, hf⟩ := xq_bd_some hf
    refine xq_callV (As := [.int p2]) (rest := []) (ci := 12) (q0 := 0) ⟨hx, hb, hml, hown, hts⟩ (kX12_isEar l dC dI cI cB cJ cZ cM z ad N a_p0 mmI mmJ mmR mm_earsF p2 h_4) (cwV 1 hts gX12_letter_X12_isEar rfl rfl rfl (by decide +kernel) ⟨Nat.le_of_ble_eq_true rfl, Nat.le_of_ble_eq_true rfl⟩) hN hK hP hD hS hA [0, 2] (by decide) rfl rfl rfl rfl rfl rfl hl.1 rfl (Nat.le_of_ble_eq_true rfl) dX12_letter_6 ⟨Nat.zero_le _, Nat.zero_le _⟩ (fun H locs hP hD hS => ?_)
    have hP : va_P (dC, dI) vwCl [(a_p0, .inr (12, oX12 mmI mmJ mmR)), ((mmR 21), .inl (cI, 2, .inl mm_placesF)), ((mmR 18), .inl (cI, 2, .inl mm_earsF)), ((mmR 29), .inl (cJ, 12, .inr (.inl mm_placeNameL))), ((mmR 28), .inl (cJ, 14, .inr (.inl mm_earNameL)))] H := hP
    have hD : va_D A [(a_p0, .inr (12, oX12 mmI mmJ mmR)), ((mmR 21), .inl (cI, 2, .inl mm_placesF)), ((mmR 18), .inl (cI, 2, .inl mm_earsF)), ((mmR 29), .inl (cJ, 12, .inr (.inl mm_placeNameL))), ((mmR 28), .inl (cJ, 14, .inr (.inl mm_earNameL)))] := hD
    refine W.eq (g2 := F0 m 9 ls [.int r_3]) rfl ?_
    refine lv_goto (tgt := 30) hx hb dX12_letter_9 (by decide) ?_
    exact b30 p1 p2 p3 r_3 _ _ _ hf hP hD hS (lv_sub hl [0, 1, 2, 3] rfl)
set_option maxRecDepth 20000 in
theorem ggX12_ear_X12_isEar : GoodIn wsX12_ear wsX12_isEar := goodIn_r _ [9, 10, 3, 47, 48, 49, 50, 51, 52, 53, 54, 55, 56, 57, 58, 59, 60, 61, 62, 63, 64, 65, 66, 67, 68, 69, 70, 71, 72, 73, 74, 75, 76, 77, 78, 79, 80, 81, 82, 83, 84, 85, 86, 87, 88, 89, 90, 91, 92, 93, 94, 95, 96, 97, 98, 99, 100, 101, 102, 103, 104, 105, 106, 107, 108, 109, 110, 111, 112, 113, 114, 115, 116] rfl (by decide +kernel)
set_option maxRecDepth 20000 in
theorem gX12_ear_X12_isEar : GoodIn wsX12_ear (wsV RX12 454 RX12 yX12_isEar wsX12_isEar) := goodIn_app (goodIn_of _ (by decide +kernel)) ggX12_ear_X12_isEar
set_option maxRecDepth 20000 in
theorem ggX12_ear_X12_isHeardIn : GoodIn wsX12_ear wsX12_isHeardIn := goodIn_r _ [14, 15, 16, 2, 3, 17, 18, 19, 8, 20, 21, 22, 23, 24, 25, 26, 27, 28, 29, 30, 31, 32, 33, 34, 35, 36, 37, 38, 39, 40, 41, 42, 43, 44, 45, 46, 47, 48, 49, 50, 51, 52, 53, 54, 55, 56, 57, 58, 59, 60, 61, 62, 63, 64, 65, 66, 67, 68, 69, 70, 71, 72, 73, 74, 75, 76, 77, 78, 79, 80, 81, 82, 83, 84, 85, 86, 87, 88, 89, 90, 91, 92, 93, 94, 95, 96, 97, 98, 99, 100, 101, 102, 103, 104, 105, 106, 107, 108, 109, 110, 111, 112, 113, 114, 115, 116] rfl (by decide +kernel)
set_option maxRecDepth 20000 in
theorem gX12_ear_X12_isHeardIn : GoodIn wsX12_ear (wsV RX12 437 RX12 yX12_isHeardIn wsX12_isHeardIn) := goodIn_app (goodIn_of _ (by decide +kernel)) ggX12_ear_X12_isHeardIn
def dsX12_ear_0 : List (Nat × Instr × Nat) := [(0, (.aload_n 0, 1)), (1, (.iload_n 1, 1)), (2, (.invokevirtual 454, 3)), (5, (.ifCond .ne 7, 3)), (8, (.iconst (-1), 1)), (9, (.goto 73, 3)), (12, (.iload_n 2, 1)), (13, (.ifCond .ne 12, 3)), (16, (.aload_n 0, 1)), (17, (.getfield 165, 3)), (20, (.iload_n 1, 1)), (21, (.iaload, 1)), (22, (.goto 60, 3)), (25, (.iload_n 2, 1)), (26, (.iconst 1, 1)), (27, (.if_icmp .ne 20, 3)), (30, (.aload_n 0, 1)), (31, (.getfield 72, 3)), (34, (.bipush 7, 2)), (36, (.aload_n 0, 1)), (37, (.getfield 51, 3)), (40, (.imul, 1)), (41, (.iload_n 1, 1)), (42, (.iadd, 1)), (43, (.iaload, 1)), (44, (.goto 38, 3)), (47, (.iload_n 2, 1)), (48, (.iconst 2, 1)), (49, (.if_icmp .ne 32, 3)), (52, (.aload_n 0, 1)), (53, (.iconst 0, 1)), (54, (.iload_n 1, 1)), (55, (.aload_n 0, 1)), (56, (.getfield 165, 3)), (59, (.iload_n 1, 1)), (60, (.iaload, 1)), (61, (.aload_n 0, 1)), (62, (.getfield 162, 3)), (65, (.iconst 0, 1)), (66, (.iaload, 1)), (67, (.invokevirtual 437, 3)), (70, (.ifCond .eq 7, 3)), (73, (.iconst 1, 1)), (74, (.goto 8, 3)), (77, (.iconst 0, 1)), (78, (.goto 4, 3)), (81, (.iconst (-1), 1)), (82, (.ireturn, 1))]
theorem dsX12_ear_0_ok : (dsX12_ear_0.all fun q => decide (decode cX12_ear q.1 = .ok q.2)) = true := by decide +kernel
theorem dX12_ear_0 : decode cX12_ear 0 = .ok (.aload_n 0, 1) := of_decide_eq_true (List.all_eq_true.mp dsX12_ear_0_ok (0, (.aload_n 0, 1)) (List.mem_of_getElem? (i := 0) rfl))
theorem dX12_ear_1 : decode cX12_ear 1 = .ok (.iload_n 1, 1) := of_decide_eq_true (List.all_eq_true.mp dsX12_ear_0_ok (1, (.iload_n 1, 1)) (List.mem_of_getElem? (i := 1) rfl))
theorem dX12_ear_2 : decode cX12_ear 2 = .ok (.invokevirtual 454, 3) := of_decide_eq_true (List.all_eq_true.mp dsX12_ear_0_ok (2, (.invokevirtual 454, 3)) (List.mem_of_getElem? (i := 2) rfl))
theorem dX12_ear_5 : decode cX12_ear 5 = .ok (.ifCond .ne 7, 3) := of_decide_eq_true (List.all_eq_true.mp dsX12_ear_0_ok (5, (.ifCond .ne 7, 3)) (List.mem_of_getElem? (i := 3) rfl))
theorem dX12_ear_8 : decode cX12_ear 8 = .ok (.iconst (-1), 1) := of_decide_eq_true (List.all_eq_true.mp dsX12_ear_0_ok (8, (.iconst (-1), 1)) (List.mem_of_getElem? (i := 4) rfl))
theorem dX12_ear_9 : decode cX12_ear 9 = .ok (.goto 73, 3) := of_decide_eq_true (List.all_eq_true.mp dsX12_ear_0_ok (9, (.goto 73, 3)) (List.mem_of_getElem? (i := 5) rfl))
theorem dX12_ear_12 : decode cX12_ear 12 = .ok (.iload_n 2, 1) := of_decide_eq_true (List.all_eq_true.mp dsX12_ear_0_ok (12, (.iload_n 2, 1)) (List.mem_of_getElem? (i := 6) rfl))
theorem dX12_ear_13 : decode cX12_ear 13 = .ok (.ifCond .ne 12, 3) := of_decide_eq_true (List.all_eq_true.mp dsX12_ear_0_ok (13, (.ifCond .ne 12, 3)) (List.mem_of_getElem? (i := 7) rfl))
theorem dX12_ear_16 : decode cX12_ear 16 = .ok (.aload_n 0, 1) := of_decide_eq_true (List.all_eq_true.mp dsX12_ear_0_ok (16, (.aload_n 0, 1)) (List.mem_of_getElem? (i := 8) rfl))
theorem dX12_ear_17 : decode cX12_ear 17 = .ok (.getfield 165, 3) := of_decide_eq_true (List.all_eq_true.mp dsX12_ear_0_ok (17, (.getfield 165, 3)) (List.mem_of_getElem? (i := 9) rfl))
theorem dX12_ear_20 : decode cX12_ear 20 = .ok (.iload_n 1, 1) := of_decide_eq_true (List.all_eq_true.mp dsX12_ear_0_ok (20, (.iload_n 1, 1)) (List.mem_of_getElem? (i := 10) rfl))
theorem dX12_ear_21 : decode cX12_ear 21 = .ok (.iaload, 1) := of_decide_eq_true (List.all_eq_true.mp dsX12_ear_0_ok (21, (.iaload, 1)) (List.mem_of_getElem? (i := 11) rfl))
theorem dX12_ear_22 : decode cX12_ear 22 = .ok (.goto 60, 3) := of_decide_eq_true (List.all_eq_true.mp dsX12_ear_0_ok (22, (.goto 60, 3)) (List.mem_of_getElem? (i := 12) rfl))
theorem dX12_ear_25 : decode cX12_ear 25 = .ok (.iload_n 2, 1) := of_decide_eq_true (List.all_eq_true.mp dsX12_ear_0_ok (25, (.iload_n 2, 1)) (List.mem_of_getElem? (i := 13) rfl))
theorem dX12_ear_26 : decode cX12_ear 26 = .ok (.iconst 1, 1) := of_decide_eq_true (List.all_eq_true.mp dsX12_ear_0_ok (26, (.iconst 1, 1)) (List.mem_of_getElem? (i := 14) rfl))
theorem dX12_ear_27 : decode cX12_ear 27 = .ok (.if_icmp .ne 20, 3) := of_decide_eq_true (List.all_eq_true.mp dsX12_ear_0_ok (27, (.if_icmp .ne 20, 3)) (List.mem_of_getElem? (i := 15) rfl))
theorem dX12_ear_30 : decode cX12_ear 30 = .ok (.aload_n 0, 1) := of_decide_eq_true (List.all_eq_true.mp dsX12_ear_0_ok (30, (.aload_n 0, 1)) (List.mem_of_getElem? (i := 16) rfl))
theorem dX12_ear_31 : decode cX12_ear 31 = .ok (.getfield 72, 3) := of_decide_eq_true (List.all_eq_true.mp dsX12_ear_0_ok (31, (.getfield 72, 3)) (List.mem_of_getElem? (i := 17) rfl))
theorem dX12_ear_34 : decode cX12_ear 34 = .ok (.bipush 7, 2) := of_decide_eq_true (List.all_eq_true.mp dsX12_ear_0_ok (34, (.bipush 7, 2)) (List.mem_of_getElem? (i := 18) rfl))
theorem dX12_ear_36 : decode cX12_ear 36 = .ok (.aload_n 0, 1) := of_decide_eq_true (List.all_eq_true.mp dsX12_ear_0_ok (36, (.aload_n 0, 1)) (List.mem_of_getElem? (i := 19) rfl))
theorem dX12_ear_37 : decode cX12_ear 37 = .ok (.getfield 51, 3) := of_decide_eq_true (List.all_eq_true.mp dsX12_ear_0_ok (37, (.getfield 51, 3)) (List.mem_of_getElem? (i := 20) rfl))
theorem dX12_ear_40 : decode cX12_ear 40 = .ok (.imul, 1) := of_decide_eq_true (List.all_eq_true.mp dsX12_ear_0_ok (40, (.imul, 1)) (List.mem_of_getElem? (i := 21) rfl))
theorem dX12_ear_41 : decode cX12_ear 41 = .ok (.iload_n 1, 1) := of_decide_eq_true (List.all_eq_true.mp dsX12_ear_0_ok (41, (.iload_n 1, 1)) (List.mem_of_getElem? (i := 22) rfl))
theorem dX12_ear_42 : decode cX12_ear 42 = .ok (.iadd, 1) := of_decide_eq_true (List.all_eq_true.mp dsX12_ear_0_ok (42, (.iadd, 1)) (List.mem_of_getElem? (i := 23) rfl))
theorem dX12_ear_43 : decode cX12_ear 43 = .ok (.iaload, 1) := of_decide_eq_true (List.all_eq_true.mp dsX12_ear_0_ok (43, (.iaload, 1)) (List.mem_of_getElem? (i := 24) rfl))
theorem dX12_ear_44 : decode cX12_ear 44 = .ok (.goto 38, 3) := of_decide_eq_true (List.all_eq_true.mp dsX12_ear_0_ok (44, (.goto 38, 3)) (List.mem_of_getElem? (i := 25) rfl))
theorem dX12_ear_47 : decode cX12_ear 47 = .ok (.iload_n 2, 1) := of_decide_eq_true (List.all_eq_true.mp dsX12_ear_0_ok (47, (.iload_n 2, 1)) (List.mem_of_getElem? (i := 26) rfl))
theorem dX12_ear_48 : decode cX12_ear 48 = .ok (.iconst 2, 1) := of_decide_eq_true (List.all_eq_true.mp dsX12_ear_0_ok (48, (.iconst 2, 1)) (List.mem_of_getElem? (i := 27) rfl))
theorem dX12_ear_49 : decode cX12_ear 49 = .ok (.if_icmp .ne 32, 3) := of_decide_eq_true (List.all_eq_true.mp dsX12_ear_0_ok (49, (.if_icmp .ne 32, 3)) (List.mem_of_getElem? (i := 28) rfl))
theorem dX12_ear_52 : decode cX12_ear 52 = .ok (.aload_n 0, 1) := of_decide_eq_true (List.all_eq_true.mp dsX12_ear_0_ok (52, (.aload_n 0, 1)) (List.mem_of_getElem? (i := 29) rfl))
theorem dX12_ear_53 : decode cX12_ear 53 = .ok (.iconst 0, 1) := of_decide_eq_true (List.all_eq_true.mp dsX12_ear_0_ok (53, (.iconst 0, 1)) (List.mem_of_getElem? (i := 30) rfl))
theorem dX12_ear_54 : decode cX12_ear 54 = .ok (.iload_n 1, 1) := of_decide_eq_true (List.all_eq_true.mp dsX12_ear_0_ok (54, (.iload_n 1, 1)) (List.mem_of_getElem? (i := 31) rfl))
theorem dX12_ear_55 : decode cX12_ear 55 = .ok (.aload_n 0, 1) := of_decide_eq_true (List.all_eq_true.mp dsX12_ear_0_ok (55, (.aload_n 0, 1)) (List.mem_of_getElem? (i := 32) rfl))
theorem dX12_ear_56 : decode cX12_ear 56 = .ok (.getfield 165, 3) := of_decide_eq_true (List.all_eq_true.mp dsX12_ear_0_ok (56, (.getfield 165, 3)) (List.mem_of_getElem? (i := 33) rfl))
theorem dX12_ear_59 : decode cX12_ear 59 = .ok (.iload_n 1, 1) := of_decide_eq_true (List.all_eq_true.mp dsX12_ear_0_ok (59, (.iload_n 1, 1)) (List.mem_of_getElem? (i := 34) rfl))
theorem dX12_ear_60 : decode cX12_ear 60 = .ok (.iaload, 1) := of_decide_eq_true (List.all_eq_true.mp dsX12_ear_0_ok (60, (.iaload, 1)) (List.mem_of_getElem? (i := 35) rfl))
theorem dX12_ear_61 : decode cX12_ear 61 = .ok (.aload_n 0, 1) := of_decide_eq_true (List.all_eq_true.mp dsX12_ear_0_ok (61, (.aload_n 0, 1)) (List.mem_of_getElem? (i := 36) rfl))
theorem dX12_ear_62 : decode cX12_ear 62 = .ok (.getfield 162, 3) := of_decide_eq_true (List.all_eq_true.mp dsX12_ear_0_ok (62, (.getfield 162, 3)) (List.mem_of_getElem? (i := 37) rfl))
theorem dX12_ear_65 : decode cX12_ear 65 = .ok (.iconst 0, 1) := of_decide_eq_true (List.all_eq_true.mp dsX12_ear_0_ok (65, (.iconst 0, 1)) (List.mem_of_getElem? (i := 38) rfl))
theorem dX12_ear_66 : decode cX12_ear 66 = .ok (.iaload, 1) := of_decide_eq_true (List.all_eq_true.mp dsX12_ear_0_ok (66, (.iaload, 1)) (List.mem_of_getElem? (i := 39) rfl))
theorem dX12_ear_67 : decode cX12_ear 67 = .ok (.invokevirtual 437, 3) := of_decide_eq_true (List.all_eq_true.mp dsX12_ear_0_ok (67, (.invokevirtual 437, 3)) (List.mem_of_getElem? (i := 40) rfl))
theorem dX12_ear_70 : decode cX12_ear 70 = .ok (.ifCond .eq 7, 3) := of_decide_eq_true (List.all_eq_true.mp dsX12_ear_0_ok (70, (.ifCond .eq 7, 3)) (List.mem_of_getElem? (i := 41) rfl))
theorem dX12_ear_73 : decode cX12_ear 73 = .ok (.iconst 1, 1) := of_decide_eq_true (List.all_eq_true.mp dsX12_ear_0_ok (73, (.iconst 1, 1)) (List.mem_of_getElem? (i := 42) rfl))
theorem dX12_ear_74 : decode cX12_ear 74 = .ok (.goto 8, 3) := of_decide_eq_true (List.all_eq_true.mp dsX12_ear_0_ok (74, (.goto 8, 3)) (List.mem_of_getElem? (i := 43) rfl))
theorem dX12_ear_77 : decode cX12_ear 77 = .ok (.iconst 0, 1) := of_decide_eq_true (List.all_eq_true.mp dsX12_ear_0_ok (77, (.iconst 0, 1)) (List.mem_of_getElem? (i := 44) rfl))
theorem dX12_ear_78 : decode cX12_ear 78 = .ok (.goto 4, 3) := of_decide_eq_true (List.all_eq_true.mp dsX12_ear_0_ok (78, (.goto 4, 3)) (List.mem_of_getElem? (i := 45) rfl))
theorem dX12_ear_81 : decode cX12_ear 81 = .ok (.iconst (-1), 1) := of_decide_eq_true (List.all_eq_true.mp dsX12_ear_0_ok (81, (.iconst (-1), 1)) (List.mem_of_getElem? (i := 46) rfl))
theorem dX12_ear_82 : decode cX12_ear 82 = .ok (.ireturn, 1) := of_decide_eq_true (List.all_eq_true.mp dsX12_ear_0_ok (82, (.ireturn, 1)) (List.mem_of_getElem? (i := 47) rfl))
def fX12_ear (N : Nat) (mmI : Nat → Int32) (mm_earsF : Nat → Int32) (mm_rowOfF : Nat → Int32) (mm_hushOfF : Nat → Int32) (mm_sumFromF : Nat → Int32) (mm_nightOfF : Nat → Int32) (mm_askedF : Nat → Int32) (mm_sharpOfF : Nat → Int32) (mm_mileOfF : Nat → Int32) (mm_milesToldF : Nat → Int32) (mm_sumBehindF : Nat → Int32) (mm_stackL : Nat → Int64) (mm_codeSortF : Nat → Int32) (mm_codeValueF : Nat → Int32)  (p1 : Int32) (p2 : Int32) : Option (Int32 × (Nat → Int32) × (Nat → Int64)) :=
  (xq_bd (fX12_isEar N mmI mm_earsF p1) fun r_1 => (if r_1 = 0 then some (((-1), mm_askedF, mm_stackL)) else (if p2 = 0 then (xq_bd (xq_ald 154 mm_rowOfF p1) fun v_8 => some ((v_8, mm_askedF, mm_stackL))) else (if p2 = 1 then (xq_bd (xq_ald 14 mm_sharpOfF ((7 * (mmI 13)) + p1)) fun v_7 => some ((v_7, mm_askedF, mm_stackL))) else (if p2 = 2 then (xq_bd (xq_ald 154 mm_rowOfF p1) fun v_3 => (xq_bd (xq_ald 22 mm_hushOfF 0) fun v_4 => (xq_bd (fX12_isHeardIn N mmI mm_sumFromF mm_nightOfF mm_askedF mm_sharpOfF mm_mileOfF mm_milesToldF mm_sumBehindF mm_stackL mm_codeSortF mm_codeValueF 0 p1 v_3 v_4) fun (r_5_0, r_5_1, r_5_2) => (if r_5_0 = 0 then some ((0, r_5_1, r_5_2)) else some ((1, r_5_1, r_5_2)))))) else some (((-1), mm_askedF, mm_stackL)))))))
set_option maxHeartbeats 4000000 in
set_option maxRecDepth 100000 in
theorem kX12_ear (l : Launch) (dC : Nat → ClassId) (dI : Nat → Nat → Nat) (cI cB cJ cZ cM : ClassId) (z : Nat) (ad : Nat → Nat) (N : Nat) (a_p0 : Nat) (mmI : Nat → Int32) (mmJ : Nat → Int64) (mmR : Nat → Nat) (mm_earsF : Nat → Int32) (mm_rowOfF : Nat → Int32) (mm_hushOfF : Nat → Int32) (mm_sumFromF : Nat → Int32) (mm_nightOfF : Nat → Int32) (mm_askedF : Nat → Int32) (mm_sharpOfF : Nat → Int32) (mm_mileOfF : Nat → Int32) (mm_milesToldF : Nat → Int32) (mm_sumBehindF : Nat → Int32) (mm_stackL : Nat → Int64) (mm_codeSortF : Nat → Int32) (mm_codeValueF : Nat → Int32) (p1 : Int32) (p2 : Int32) {r0 : Int32} {r1 : Nat → Int32} {r2 : Nat → Int64} (hf : fX12_ear N mmI mm_earsF mm_rowOfF mm_hushOfF mm_sumFromF mm_nightOfF mm_askedF mm_sharpOfF mm_mileOfF mm_milesToldF mm_sumBehindF mm_stackL mm_codeSortF mm_codeValueF p1 p2 = some (r0, r1, r2)) : xq_Ct l yX12_ear wsX12_ear { frames := 4, cells := 0, slots := 0, locals := 97 } (dC, dI) vwCl (xq_tys cI cB cJ cZ cM) z ad [.ref a_p0, .int p1, .int p2] [(a_p0, .inr (12, oX12 mmI mmJ mmR)), ((mmR 18), .inl (cI, 2, .inl mm_earsF)), ((mmR 50), .inl (cI, 154, .inl mm_rowOfF)), ((mmR 49), .inl (cI, 22, .inl mm_hushOfF)), ((mmR 24), .inl (cI, 6, .inl mm_sumFromF)), ((mmR 45), .inl (cI, 22, .inl mm_nightOfF)), ((mmR 58), .inl (cI, 12, .inl mm_askedF)), ((mmR 20), .inl (cI, 14, .inl mm_sharpOfF)), ((mmR 46), .inl (cI, 22, .inl mm_mileOfF)), ((mmR 14), .inl (cI, 2, .inl mm_milesToldF)), ((mmR 25), .inl (cI, 6, .inl mm_sumBehindF)), ((mmR 57), .inl (cJ, 500, .inr (.inl mm_stackL))), ((mmR 26), .inl (cI, 3200, .inl mm_codeSortF)), ((mmR 27), .inl (cI, 3200, .inl mm_codeValueF))] [(a_p0, .inr (12, oX12 mmI mmJ mmR)), ((mmR 18), .inl (cI, 2, .inl mm_earsF)), ((mmR 50), .inl (cI, 154, .inl mm_rowOfF)), ((mmR 49), .inl (cI, 22, .inl mm_hushOfF)), ((mmR 24), .inl (cI, 6, .inl mm_sumFromF)), ((mmR 45), .inl (cI, 22, .inl mm_nightOfF)), ((mmR 58), .inl (cI, 12, .inl r1)), ((mmR 20), .inl (cI, 14, .inl mm_sharpOfF)), ((mmR 46), .inl (cI, 22, .inl mm_mileOfF)), ((mmR 14), .inl (cI, 2, .inl mm_milesToldF)), ((mmR 25), .inl (cI, 6, .inl mm_sumBehindF)), ((mmR 57), .inl (cJ, 500, .inr (.inl r2))), ((mmR 26), .inl (cI, 3200, .inl mm_codeSortF)), ((mmR 27), .inl (cI, 3200, .inl mm_codeValueF))] (some (.int r0)) := by
  intro sz
  refine Met.ofW (cc := cX12_ear) (maxL := 3) (ret := (some .int)) (by decide) rfl ?_
  intro p e s m args below meth c s₁ B hml hv
  obtain ⟨rfl, hsz, hP, hK, hD0, hE, hz⟩ := hv
  have hx := B.exec
  have hb := B.bytes
  have hr := B.returns
  have hts := atoms_spec (ws := wsX12_ear) B.pre
  have hown : s.vm.findClass RX12 = some m.cls := findClass_of_methodNamed B.named
  have hlocks := B.notSynchronized
  subst hsz
  have hD := hD0.self (sz := s.heap.size)
  have hN := xq_Env.of hE hz hD0
  generalize hAe : va_A [(a_p0, .inr (12, oX12 mmI mmJ mmR)), ((mmR 18), .inl (cI, 2, .inl mm_earsF)), ((mmR 50), .inl (cI, 154, .inl mm_rowOfF)), ((mmR 49), .inl (cI, 22, .inl mm_hushOfF)), ((mmR 24), .inl (cI, 6, .inl mm_sumFromF)), ((mmR 45), .inl (cI, 22, .inl mm_nightOfF)), ((mmR 58), .inl (cI, 12, .inl mm_askedF)), ((mmR 20), .inl (cI, 14, .inl mm_sharpOfF)), ((mmR 46), .inl (cI, 22, .inl mm_mileOfF)), ((mmR 14), .inl (cI, 2, .inl mm_milesToldF)), ((mmR 25), .inl (cI, 6, .inl mm_sumBehindF)), ((mmR 57), .inl (cJ, 500, .inr (.inl mm_stackL))), ((mmR 26), .inl (cI, 3200, .inl mm_codeSortF)), ((mmR 27), .inl (cI, 3200, .inl mm_codeValueF))] s.heap.size = A at hD hN ⊢
  have hA : ∀ q : Nat, s.heap.size ≤ q → A q := fun q h => by rw [← hAe]; exact Or.inr h
  clear hAe hD0
  have hS : va_S A s.heap s.heap [] := va_S.rf
  have hl := lv_entry ([.ref a_p0, .int p1, .int p2]) (n := 3) (Nat.le_of_ble_eq_true rfl)
  rw [lg_entry_eq]
  generalize (lg_sl ([.ref a_p0, .int p1, .int p2]) ++ List.replicate (3 - (lg_sl ([.ref a_p0, .int p1, .int p2])).length) Slot.unset).toArray = ls at hl ⊢
  have hl : lv_has ls 3 [(0, .ref a_p0), (1, .int p1), (2, .int p2)] := hl
  have hw0 := hts (.fieldLink RX12 165 "DistantVoiceModel" "rowOf" "[I") (by decide +kernel)
  have hinX12 : ∀ w ∈ wsX120, w ∈ wsX12_ear := fun w h => List.mem_cons_of_mem _ (List.mem_append_right _ h)
  have hw2 := hts (.fieldLink RX12 162 "DistantVoiceModel" "hushOf" "[I") (by decide +kernel)
  have hw3 := hts (.fieldLink RX12 72 "DistantVoiceModel" "sharpOf" "[I") (by decide +kernel)
  have hw4 := hts (.fieldLink RX12 51 "DistantVoiceModel" "bank" "I") (by decide +kernel)
  unfold fX12_ear at hf
  refine lv_aload_n hx hb dX12_ear_0 rfl (lv_at hl 0 rfl) ?_
  refine lv_iload_n hx hb dX12_ear_1 rfl (lv_at hl 1 rfl) ?_
  obtain ⟨r_1, h_2, hf⟩ := xq_bd_some hf
  refine xq_callV (As := [.int p1]) (rest := []) (ci := 12) (q0 := 0) ⟨hx, hb, hml, hown, hts⟩ (kX12_isEar l dC dI cI cB cJ cZ cM z ad N a_p0 mmI mmJ mmR mm_earsF p1 h_2) (cwV 1 hts gX12_ear_X12_isEar rfl rfl rfl (by decide +kernel) ⟨Nat.le_of_ble_eq_true rfl, Nat.le_of_ble_eq_true rfl⟩) hN hK hP hD hS hA [0, 1] (by decide) rfl rfl rfl rfl rfl rfl hl.1 rfl (Nat.le_of_ble_eq_true rfl) dX12_ear_2 ⟨Nat.zero_le _, Nat.zero_le _⟩ (fun H locs hP hD hS => ?_)
  have hP : va_P (dC, dI) vwCl [(a_p0, .inr (12, oX12 mmI mmJ mmR)), ((mmR 18), .inl (cI, 2, .inl mm_earsF)), ((mmR 50), .inl (cI, 154, .inl mm_rowOfF)), ((mmR 49), .inl (cI, 22, .inl mm_hushOfF)), ((mmR 24), .inl (cI, 6, .inl mm_sumFromF)), ((mmR 45), .inl (cI, 22, .inl mm_nightOfF)), ((mmR 58), .inl (cI, 12, .inl mm_askedF)), ((mmR 20), .inl (cI, 14, .inl mm_sharpOfF)), ((mmR 46), .inl (cI, 22, .inl mm_mileOfF)), ((mmR 14), .inl (cI, 2, .inl mm_milesToldF)), ((mmR 25), .inl (cI, 6, .inl mm_sumBehindF)), ((mmR 57), .inl (cJ, 500, .inr (.inl mm_stackL))), ((mmR 26), .inl (cI, 3200, .inl mm_codeSortF)), ((mmR 27), .inl (cI, 3200, .inl mm_codeValueF))] H := hP
  have hD : va_D A [(a_p0, .inr (12, oX12 mmI mmJ mmR)), ((mmR 18), .inl (cI, 2, .inl mm_earsF)), ((mmR 50), .inl (cI, 154, .inl mm_rowOfF)), ((mmR 49), .inl (cI, 22, .inl mm_hushOfF)), ((mmR 24), .inl (cI, 6, .inl mm_sumFromF)), ((mmR 45), .inl (cI, 22, .inl mm_nightOfF)), ((mmR 58), .inl (cI, 12, .inl mm_askedF)), ((mmR 20), .inl (cI, 14, .inl mm_sharpOfF)), ((mmR 46), .inl (cI, 22, .inl mm_mileOfF)), ((mmR 14), .inl (cI, 2, .inl mm_milesToldF)), ((mmR 25), .inl (cI, 6, .inl mm_sumBehindF)), ((mmR 57), .inl (cJ, 500, .inr (.inl mm_stackL))), ((mmR 26), .inl (cI, 3200, .inl mm_codeSortF)), ((mmR 27), .inl (cI, 3200, .inl mm_codeValueF))] := hD
  refine W.eq (g2 := F0 m 5 ls [.int r_1]) rfl ?_
  refine lv_if_ne (tgt := 12) hx hb dX12_ear_5 (by decide) (fun c_ => ?_) (fun c_ => ?_)
  · have hf := xq_neg hf c_
    refine lv_iload_n hx hb dX12_ear_12 rfl (lv_at hl 2 rfl) ?_
    refine lv_if_ne (tgt := 25) hx hb dX12_ear_13 (by decide) (fun c_ => ?_) (fun c_ => ?_)
    · have hf := xq_neg hf c_
      refine lv_iload_n hx hb dX12_ear_25 rfl (lv_at hl 2 rfl) ?_
      refine lv_iconst (v := 1) hx hb dX12_ear_26 (by decide) ?_
      refine lv_icmp_ne (tgt := 47) hx hb dX12_ear_27 (by decide) (fun c_ => ?_) (fun c_ => ?_)
      · have hf := xq_neg hf c_
        refine lv_iload_n hx hb dX12_ear_47 rfl (lv_at hl 2 rfl) ?_
        refine lv_iconst (v := 2) hx hb dX12_ear_48 (by decide) ?_
        refine lv_icmp_ne (tgt := 81) hx hb dX12_ear_49 (by decide) (fun c_ => ?_) (fun c_ => ?_)
        · have hf := xq_neg hf c_
          refine lv_iconst (v := (-1)) hx hb dX12_ear_81 (by decide) ?_
          have hP9 := hP
          have hD9 := hD
          have hS9 := hS
          cases hf
          exact xq_iret hx hb hr hlocks hK hP9 hD9 hS9 dX12_ear_82
        · have hf := xq_pos hf c_
          refine lv_aload_n hx hb dX12_ear_52 rfl (lv_at hl 0 rfl) ?_
          refine lv_iconst (v := 0) hx hb dX12_ear_53 (by decide) ?_
          refine lv_iload_n hx hb dX12_ear_54 rfl (lv_at hl 1 rfl) ?_
          refine lv_aload_n hx hb dX12_ear_55 rfl (lv_at hl 0 rfl) ?_
          refine va_get (D := (dC, dI)) (ci := 12) (v := .ref ((mmR 50))) (C := RX12) (T := TX12) (N := 70) hx hb hts hinX12 hown hK hP 0 rfl rfl 50 (by decide) hw0 (fun _ h9 => h9) rfl dX12_ear_56 ?_
          refine lv_iload_n hx hb dX12_ear_59 rfl (lv_at hl 1 rfl) ?_
          refine xq_iald hx hb hK hP 2 0 rfl rfl hf dX12_ear_60 (fun v_3 hf => ?_)
          refine lv_aload_n hx hb dX12_ear_61 rfl (lv_at hl 0 rfl) ?_
          refine va_get (D := (dC, dI)) (ci := 12) (v := .ref ((mmR 49))) (C := RX12) (T := TX12) (N := 70) hx hb hts hinX12 hown hK hP 0 rfl rfl 49 (by decide) hw2 (fun _ h9 => h9) rfl dX12_ear_62 ?_
          refine lv_iconst (v := 0) hx hb dX12_ear_65 (by decide) ?_
          refine xq_iald hx hb hK hP 3 0 rfl rfl hf dX12_ear_66 (fun v_4 hf => ?_)
          obtain ⟨⟨r_5_0, r_5_1, r_5_2⟩, h_6, hf⟩ := xq_bd_some hf
          refine xq_callV (As := [.int 0, .int p1, .int v_3, .int v_4]) (rest := []) (ci := 12) (q0 := 0) ⟨hx, hb, hml, hown, hts⟩ (kX12_isHeardIn l dC dI cI cB cJ cZ cM z ad N a_p0 mmI mmJ mmR mm_sumFromF mm_nightOfF mm_askedF mm_sharpOfF mm_mileOfF mm_milesToldF mm_sumBehindF mm_stackL mm_codeSortF mm_codeValueF 0 p1 v_3 v_4 h_6) (cwV 4 hts gX12_ear_X12_isHeardIn rfl rfl rfl (by decide +kernel) ⟨Nat.le_of_ble_eq_true rfl, Nat.le_of_ble_eq_true rfl⟩) hN hK hP hD hS hA [0, 4, 5, 6, 7, 8, 9, 10, 11, 12, 13] (by decide) rfl rfl rfl rfl rfl rfl hl.1 rfl (Nat.le_of_ble_eq_true rfl) dX12_ear_67 ⟨Nat.zero_le _, Nat.zero_le _⟩ (fun H locs hP hD hS => ?_)
          have hP : va_P (dC, dI) vwCl [(a_p0, .inr (12, oX12 mmI mmJ mmR)), ((mmR 18), .inl (cI, 2, .inl mm_earsF)), ((mmR 50), .inl (cI, 154, .inl mm_rowOfF)), ((mmR 49), .inl (cI, 22, .inl mm_hushOfF)), ((mmR 24), .inl (cI, 6, .inl mm_sumFromF)), ((mmR 45), .inl (cI, 22, .inl mm_nightOfF)), ((mmR 58), .inl (cI, 12, .inl r_5_1)), ((mmR 20), .inl (cI, 14, .inl mm_sharpOfF)), ((mmR 46), .inl (cI, 22, .inl mm_mileOfF)), ((mmR 14), .inl (cI, 2, .inl mm_milesToldF)), ((mmR 25), .inl (cI, 6, .inl mm_sumBehindF)), ((mmR 57), .inl (cJ, 500, .inr (.inl r_5_2))), ((mmR 26), .inl (cI, 3200, .inl mm_codeSortF)), ((mmR 27), .inl (cI, 3200, .inl mm_codeValueF))] H := hP
          have hD : va_D A [(a_p0, .inr (12, oX12 mmI mmJ mmR)), ((mmR 18), .inl (cI, 2, .inl mm_earsF)), ((mmR 50), .inl (cI, 154, .inl mm_rowOfF)), ((mmR 49), .inl (cI, 22, .inl mm_hushOfF)), ((mmR 24), .inl (cI, 6, .inl mm_sumFromF)), ((mmR 45), .inl (cI, 22, .inl mm_nightOfF)), ((mmR 58), .inl (cI, 12, .inl r_5_1)), ((mmR 20), .inl (cI, 14, .inl mm_sharpOfF)), ((mmR 46), .inl (cI, 22, .inl mm_mileOfF)), ((mmR 14), .inl (cI, 2, .inl mm_milesToldF)), ((mmR 25), .inl (cI, 6, .inl mm_sumBehindF)), ((mmR 57), .inl (cJ, 500, .inr (.inl r_5_2))), ((mmR 26), .inl (cI, 3200, .inl mm_codeSortF)), ((mmR 27), .inl (cI, 3200, .inl mm_codeValueF))] := hD
          refine W.eq (g2 := F0 m 70 ls [.int r_5_0]) rfl ?_
          refine lv_if_eq (tgt := 77) hx hb dX12_ear_70 (by decide) (fun c_ => ?_) (fun c_ => ?_)
          · have hf := xq_pos hf c_
            refine lv_iconst (v := 0) hx hb dX12_ear_77 (by decide) ?_
            refine lv_goto (tgt := 82) hx hb dX12_ear_78 (by decide) ?_
            have hP9 := hP
            have hD9 := hD
            have hS9 := hS
            cases hf
            exact xq_iret hx hb hr hlocks hK hP9 hD9 hS9 dX12_ear_82
          · have hf := xq_neg hf c_
            refine lv_iconst (v := 1) hx hb dX12_ear_73 (by decide) ?_
            refine lv_goto (tgt := 82) hx hb dX12_ear_74 (by decide) ?_
            have hP9 := hP
            have hD9 := hD
            have hS9 := hS
            cases hf
            exact xq_iret hx hb hr hlocks hK hP9 hD9 hS9 dX12_ear_82
      · have hf := xq_pos hf c_
        refine lv_aload_n hx hb dX12_ear_30 rfl (lv_at hl 0 rfl) ?_
        refine va_get (D := (dC, dI)) (ci := 12) (v := .ref ((mmR 20))) (C := RX12) (T := TX12) (N := 70) hx hb hts hinX12 hown hK hP 0 rfl rfl 20 (by decide) hw3 (fun _ h9 => h9) rfl dX12_ear_31 ?_
        refine lv_bipush (v := 7) hx hb dX12_ear_34 (by decide) ?_
        refine lv_aload_n hx hb dX12_ear_36 rfl (lv_at hl 0 rfl) ?_
        refine va_get (D := (dC, dI)) (ci := 12) (v := .int (mmI 13)) (C := RX12) (T := TX12) (N := 70) hx hb hts hinX12 hown hK hP 0 rfl rfl 13 (by decide) hw4 (fun _ h9 => h9) rfl dX12_ear_37 ?_
        refine lv_imul hx hb dX12_ear_40 ?_
        refine lv_iload_n hx hb dX12_ear_41 rfl (lv_at hl 1 rfl) ?_
        refine lv_iadd hx hb dX12_ear_42 ?_
        refine xq_iald hx hb hK hP 7 0 rfl rfl hf dX12_ear_43 (fun v_7 hf => ?_)
        refine lv_goto (tgt := 82) hx hb dX12_ear_44 (by decide) ?_
        have hP9 := hP
        have hD9 := hD
        have hS9 := hS
        cases hf
        exact xq_iret hx hb hr hlocks hK hP9 hD9 hS9 dX12_ear_82
    · have hf := xq_pos hf c_
      refine lv_aload_n hx hb dX12_ear_16 rfl (lv_at hl 0 rfl) ?_
      refine va_get (D := (dC, dI)) (ci := 12) (v := .ref ((mmR 50))) (C := RX12) (T := TX12) (N := 70) hx hb hts hinX12 hown hK hP 0 rfl rfl 50 (by decide) hw0 (fun _ h9 => h9) rfl dX12_ear_17 ?_
      refine lv_iload_n hx hb dX12_ear_20 rfl (lv_at hl 1 rfl) ?_
      refine xq_iald hx hb hK hP 2 0 rfl rfl hf dX12_ear_21 (fun v_8 hf => ?_)
      refine lv_goto (tgt := 82) hx hb dX12_ear_22 (by decide) ?_
      have hP9 := hP
      have hD9 := hD
      have hS9 := hS
      cases hf
      exact xq_iret hx hb hr hlocks hK hP9 hD9 hS9 dX12_ear_82
  · have hf := xq_pos hf c_
    refine lv_iconst (v := (-1)) hx hb dX12_ear_8 (by decide) ?_
    refine lv_goto (tgt := 82) hx hb dX12_ear_9 (by decide) ?_
    have hP9 := hP
    have hD9 := hD
    have hS9 := hS
    cases hf
    exact xq_iret hx hb hr hlocks hK hP9 hD9 hS9 dX12_ear_82
set_option maxRecDepth 20000 in
theorem ggX12_place_X12_isPlace : GoodIn wsX12_place wsX12_isPlace := goodIn_r _ [9, 10, 2, 44, 45, 46, 47, 48, 49, 50, 51, 52, 53, 54, 55, 56, 57, 58, 59, 60, 61, 62, 63, 64, 65, 66, 67, 68, 69, 70, 71, 72, 73, 74, 75, 76, 77, 78, 79, 80, 81, 82, 83, 84, 85, 86, 87, 88, 89, 90, 91, 92, 93, 94, 95, 96, 97, 98, 99, 100, 101, 102, 103, 104, 105, 106, 107, 108, 109, 110, 111, 112, 113] rfl (by decide +kernel)
set_option maxRecDepth 20000 in
theorem gX12_place_X12_isPlace : GoodIn wsX12_place (wsV RX12 457 RX12 yX12_isPlace wsX12_isPlace) := goodIn_app (goodIn_of _ (by decide +kernel)) ggX12_place_X12_isPlace
set_option maxRecDepth 20000 in
theorem ggX12_place_X12_talkAt : GoodIn wsX12_place wsX12_talkAt := goodIn_r _ [14, 3, 15, 16, 17, 18, 19, 8, 20, 21, 2, 22, 23, 24, 25, 26, 27, 28, 29, 30, 31, 32, 33, 34, 35, 36, 37, 38, 39, 40, 41, 42, 43, 44, 45, 46, 47, 48, 49, 50, 51, 52, 53, 54, 55, 56, 57, 58, 59, 60, 61, 62, 63, 64, 65, 66, 67, 68, 69, 70, 71, 72, 73, 74, 75, 76, 77, 78, 79, 80, 81, 82, 83, 84, 85, 86, 87, 88, 89, 90, 91, 92, 93, 94, 95, 96, 97, 98, 99, 100, 101, 102, 103, 104, 105, 106, 107, 108, 109, 110, 111, 112, 113] rfl (by decide +kernel)
set_option maxRecDepth 20000 in
theorem gX12_place_X12_talkAt : GoodIn wsX12_place (wsV RX12 433 RX12 yX12_talkAt wsX12_talkAt) := goodIn_app (goodIn_of _ (by decide +kernel)) ggX12_place_X12_talkAt
def dsX12_place_0 : List (Nat × Instr × Nat) := [(0, (.aload_n 0, 1)), (1, (.iload_n 1, 1)), (2, (.invokevirtual 457, 3)), (5, (.ifCond .ne 7, 3)), (8, (.iconst (-1), 1)), (9, (.goto 59, 3)), (12, (.iload_n 2, 1)), (13, (.ifCond .ne 20, 3)), (16, (.aload_n 0, 1)), (17, (.getfield 78, 3)), (20, (.bipush 6, 2)), (22, (.aload_n 0, 1)), (23, (.getfield 51, 3)), (26, (.imul, 1)), (27, (.iload_n 1, 1)), (28, (.iadd, 1)), (29, (.iaload, 1)), (30, (.goto 38, 3)), (33, (.iload_n 2, 1)), (34, (.iconst 1, 1)), (35, (.if_icmp .ne 12, 3)), (38, (.aload_n 0, 1)), (39, (.getfield 168, 3)), (42, (.iload_n 1, 1)), (43, (.iaload, 1)), (44, (.goto 24, 3)), (47, (.iload_n 2, 1)), (48, (.iconst 2, 1)), (49, (.if_icmp .ne 18, 3)), (52, (.aload_n 0, 1)), (53, (.iconst 0, 1)), (54, (.iload_n 1, 1)), (55, (.aload_n 0, 1)), (56, (.getfield 162, 3)), (59, (.iconst 0, 1)), (60, (.iaload, 1)), (61, (.invokevirtual 433, 3)), (64, (.goto 4, 3)), (67, (.iconst (-1), 1)), (68, (.ireturn, 1))]
theorem dsX12_place_0_ok : (dsX12_place_0.all fun q => decide (decode cX12_place q.1 = .ok q.2)) = true := by decide +kernel
theorem dX12_place_0 : decode cX12_place 0 = .ok (.aload_n 0, 1) := of_decide_eq_true (List.all_eq_true.mp dsX12_place_0_ok (0, (.aload_n 0, 1)) (List.mem_of_getElem? (i := 0) rfl))
theorem dX12_place_1 : decode cX12_place 1 = .ok (.iload_n 1, 1) := of_decide_eq_true (List.all_eq_true.mp dsX12_place_0_ok (1, (.iload_n 1, 1)) (List.mem_of_getElem? (i := 1) rfl))
theorem dX12_place_2 : decode cX12_place 2 = .ok (.invokevirtual 457, 3) := of_decide_eq_true (List.all_eq_true.mp dsX12_place_0_ok (2, (.invokevirtual 457, 3)) (List.mem_of_getElem? (i := 2) rfl))
theorem dX12_place_5 : decode cX12_place 5 = .ok (.ifCond .ne 7, 3) := of_decide_eq_true (List.all_eq_true.mp dsX12_place_0_ok (5, (.ifCond .ne 7, 3)) (List.mem_of_getElem? (i := 3) rfl))
theorem dX12_place_8 : decode cX12_place 8 = .ok (.iconst (-1), 1) := of_decide_eq_true (List.all_eq_true.mp dsX12_place_0_ok (8, (.iconst (-1), 1)) (List.mem_of_getElem? (i := 4) rfl))
theorem dX12_place_9 : decode cX12_place 9 = .ok (.goto 59, 3) := of_decide_eq_true (List.all_eq_true.mp dsX12_place_0_ok (9, (.goto 59, 3)) (List.mem_of_getElem? (i := 5) rfl))
theorem dX12_place_12 : decode cX12_place 12 = .ok (.iload_n 2, 1) := of_decide_eq_true (List.all_eq_true.mp dsX12_place_0_ok (12, (.iload_n 2, 1)) (List.mem_of_getElem? (i := 6) rfl))
theorem dX12_place_13 : decode cX12_place 13 = .ok (.ifCond .ne 20, 3) := of_decide_eq_true (List.all_eq_true.mp dsX12_place_0_ok (13, (.ifCond .ne 20, 3)) (List.mem_of_getElem? (i := 7) rfl))
theorem dX12_place_16 : decode cX12_place 16 = .ok (.aload_n 0, 1) := of_decide_eq_true (List.all_eq_true.mp dsX12_place_0_ok (16, (.aload_n 0, 1)) (List.mem_of_getElem? (i := 8) rfl))
theorem dX12_place_17 : decode cX12_place 17 = .ok (.getfield 78, 3) := of_decide_eq_true (List.all_eq_true.mp dsX12_place_0_ok (17, (.getfield 78, 3)) (List.mem_of_getElem? (i := 9) rfl))
theorem dX12_place_20 : decode cX12_place 20 = .ok (.bipush 6, 2) := of_decide_eq_true (List.all_eq_true.mp dsX12_place_0_ok (20, (.bipush 6, 2)) (List.mem_of_getElem? (i := 10) rfl))
theorem dX12_place_22 : decode cX12_place 22 = .ok (.aload_n 0, 1) := of_decide_eq_true (List.all_eq_true.mp dsX12_place_0_ok (22, (.aload_n 0, 1)) (List.mem_of_getElem? (i := 11) rfl))
theorem dX12_place_23 : decode cX12_place 23 = .ok (.getfield 51, 3) := of_decide_eq_true (List.all_eq_true.mp dsX12_place_0_ok (23, (.getfield 51, 3)) (List.mem_of_getElem? (i := 12) rfl))
theorem dX12_place_26 : decode cX12_place 26 = .ok (.imul, 1) := of_decide_eq_true (List.all_eq_true.mp dsX12_place_0_ok (26, (.imul, 1)) (List.mem_of_getElem? (i := 13) rfl))
theorem dX12_place_27 : decode cX12_place 27 = .ok (.iload_n 1, 1) := of_decide_eq_true (List.all_eq_true.mp dsX12_place_0_ok (27, (.iload_n 1, 1)) (List.mem_of_getElem? (i := 14) rfl))
theorem dX12_place_28 : decode cX12_place 28 = .ok (.iadd, 1) := of_decide_eq_true (List.all_eq_true.mp dsX12_place_0_ok (28, (.iadd, 1)) (List.mem_of_getElem? (i := 15) rfl))
theorem dX12_place_29 : decode cX12_place 29 = .ok (.iaload, 1) := of_decide_eq_true (List.all_eq_true.mp dsX12_place_0_ok (29, (.iaload, 1)) (List.mem_of_getElem? (i := 16) rfl))
theorem dX12_place_30 : decode cX12_place 30 = .ok (.goto 38, 3) := of_decide_eq_true (List.all_eq_true.mp dsX12_place_0_ok (30, (.goto 38, 3)) (List.mem_of_getElem? (i := 17) rfl))
theorem dX12_place_33 : decode cX12_place 33 = .ok (.iload_n 2, 1) := of_decide_eq_true (List.all_eq_true.mp dsX12_place_0_ok (33, (.iload_n 2, 1)) (List.mem_of_getElem? (i := 18) rfl))
theorem dX12_place_34 : decode cX12_place 34 = .ok (.iconst 1, 1) := of_decide_eq_true (List.all_eq_true.mp dsX12_place_0_ok (34, (.iconst 1, 1)) (List.mem_of_getElem? (i := 19) rfl))
theorem dX12_place_35 : decode cX12_place 35 = .ok (.if_icmp .ne 12, 3) := of_decide_eq_true (List.all_eq_true.mp dsX12_place_0_ok (35, (.if_icmp .ne 12, 3)) (List.mem_of_getElem? (i := 20) rfl))
theorem dX12_place_38 : decode cX12_place 38 = .ok (.aload_n 0, 1) := of_decide_eq_true (List.all_eq_true.mp dsX12_place_0_ok (38, (.aload_n 0, 1)) (List.mem_of_getElem? (i := 21) rfl))
theorem dX12_place_39 : decode cX12_place 39 = .ok (.getfield 168, 3) := of_decide_eq_true (List.all_eq_true.mp dsX12_place_0_ok (39, (.getfield 168, 3)) (List.mem_of_getElem? (i := 22) rfl))
theorem dX12_place_42 : decode cX12_place 42 = .ok (.iload_n 1, 1) := of_decide_eq_true (List.all_eq_true.mp dsX12_place_0_ok (42, (.iload_n 1, 1)) (List.mem_of_getElem? (i := 23) rfl))
theorem dX12_place_43 : decode cX12_place 43 = .ok (.iaload, 1) := of_decide_eq_true (List.all_eq_true.mp dsX12_place_0_ok (43, (.iaload, 1)) (List.mem_of_getElem? (i := 24) rfl))
theorem dX12_place_44 : decode cX12_place 44 = .ok (.goto 24, 3) := of_decide_eq_true (List.all_eq_true.mp dsX12_place_0_ok (44, (.goto 24, 3)) (List.mem_of_getElem? (i := 25) rfl))
theorem dX12_place_47 : decode cX12_place 47 = .ok (.iload_n 2, 1) := of_decide_eq_true (List.all_eq_true.mp dsX12_place_0_ok (47, (.iload_n 2, 1)) (List.mem_of_getElem? (i := 26) rfl))
theorem dX12_place_48 : decode cX12_place 48 = .ok (.iconst 2, 1) := of_decide_eq_true (List.all_eq_true.mp dsX12_place_0_ok (48, (.iconst 2, 1)) (List.mem_of_getElem? (i := 27) rfl))
theorem dX12_place_49 : decode cX12_place 49 = .ok (.if_icmp .ne 18, 3) := of_decide_eq_true (List.all_eq_true.mp dsX12_place_0_ok (49, (.if_icmp .ne 18, 3)) (List.mem_of_getElem? (i := 28) rfl))
theorem dX12_place_52 : decode cX12_place 52 = .ok (.aload_n 0, 1) := of_decide_eq_true (List.all_eq_true.mp dsX12_place_0_ok (52, (.aload_n 0, 1)) (List.mem_of_getElem? (i := 29) rfl))
theorem dX12_place_53 : decode cX12_place 53 = .ok (.iconst 0, 1) := of_decide_eq_true (List.all_eq_true.mp dsX12_place_0_ok (53, (.iconst 0, 1)) (List.mem_of_getElem? (i := 30) rfl))
theorem dX12_place_54 : decode cX12_place 54 = .ok (.iload_n 1, 1) := of_decide_eq_true (List.all_eq_true.mp dsX12_place_0_ok (54, (.iload_n 1, 1)) (List.mem_of_getElem? (i := 31) rfl))
theorem dX12_place_55 : decode cX12_place 55 = .ok (.aload_n 0, 1) := of_decide_eq_true (List.all_eq_true.mp dsX12_place_0_ok (55, (.aload_n 0, 1)) (List.mem_of_getElem? (i := 32) rfl))
theorem dX12_place_56 : decode cX12_place 56 = .ok (.getfield 162, 3) := of_decide_eq_true (List.all_eq_true.mp dsX12_place_0_ok (56, (.getfield 162, 3)) (List.mem_of_getElem? (i := 33) rfl))
theorem dX12_place_59 : decode cX12_place 59 = .ok (.iconst 0, 1) := of_decide_eq_true (List.all_eq_true.mp dsX12_place_0_ok (59, (.iconst 0, 1)) (List.mem_of_getElem? (i := 34) rfl))
theorem dX12_place_60 : decode cX12_place 60 = .ok (.iaload, 1) := of_decide_eq_true (List.all_eq_true.mp dsX12_place_0_ok (60, (.iaload, 1)) (List.mem_of_getElem? (i := 35) rfl))
theorem dX12_place_61 : decode cX12_place 61 = .ok (.invokevirtual 433, 3) := of_decide_eq_true (List.all_eq_true.mp dsX12_place_0_ok (61, (.invokevirtual 433, 3)) (List.mem_of_getElem? (i := 36) rfl))
theorem dX12_place_64 : decode cX12_place 64 = .ok (.goto 4, 3) := of_decide_eq_true (List.all_eq_true.mp dsX12_place_0_ok (64, (.goto 4, 3)) (List.mem_of_getElem? (i := 37) rfl))
theorem dX12_place_67 : decode cX12_place 67 = .ok (.iconst (-1), 1) := of_decide_eq_true (List.all_eq_true.mp dsX12_place_0_ok (67, (.iconst (-1), 1)) (List.mem_of_getElem? (i := 38) rfl))
theorem dX12_place_68 : decode cX12_place 68 = .ok (.ireturn, 1) := of_decide_eq_true (List.all_eq_true.mp dsX12_place_0_ok (68, (.ireturn, 1)) (List.mem_of_getElem? (i := 39) rfl))
def fX12_place (N : Nat) (mmI : Nat → Int32) (mm_placesF : Nat → Int32) (mm_hushOfF : Nat → Int32) (mm_talkOfF : Nat → Int32) (mm_sumFromF : Nat → Int32) (mm_nightOfF : Nat → Int32) (mm_askedF : Nat → Int32) (mm_sumBehindF : Nat → Int32) (mm_stackL : Nat → Int64) (mm_codeSortF : Nat → Int32) (mm_codeValueF : Nat → Int32) (mm_placeAtF : Nat → Int32)  (p1 : Int32) (p2 : Int32) : Option (Int32 × (Nat → Int32) × (Nat → Int64)) :=
  (xq_bd (fX12_isPlace N mmI mm_placesF p1) fun r_1 => (if r_1 = 0 then some (((-1), mm_askedF, mm_stackL)) else (if p2 = 0 then (xq_bd (xq_ald 12 mm_placeAtF ((6 * (mmI 13)) + p1)) fun v_7 => some ((v_7, mm_askedF, mm_stackL))) else (if p2 = 1 then (xq_bd (xq_ald 132 mm_talkOfF p1) fun v_6 => some ((v_6, mm_askedF, mm_stackL))) else (if p2 = 2 then (xq_bd (xq_ald 22 mm_hushOfF 0) fun v_3 => (xq_bd (fX12_talkAt N mmI mm_talkOfF mm_sumFromF mm_nightOfF mm_askedF mm_sumBehindF mm_stackL mm_codeSortF mm_codeValueF 0 p1 v_3) fun (r_4_0, r_4_1, r_4_2) => some ((r_4_0, r_4_1, r_4_2)))) else some (((-1), mm_askedF, mm_stackL)))))))
set_option maxHeartbeats 4000000 in
set_option maxRecDepth 100000 in
theorem kX12_place (l : Launch) (dC : Nat → ClassId) (dI : Nat → Nat → Nat) (cI cB cJ cZ cM : ClassId) (z : Nat) (ad : Nat → Nat) (N : Nat) (a_p0 : Nat) (mmI : Nat → Int32) (mmJ : Nat → Int64) (mmR : Nat → Nat) (mm_placesF : Nat → Int32) (mm_hushOfF : Nat → Int32) (mm_talkOfF : Nat → Int32) (mm_sumFromF : Nat → Int32) (mm_nightOfF : Nat → Int32) (mm_askedF : Nat → Int32) (mm_sumBehindF : Nat → Int32) (mm_stackL : Nat → Int64) (mm_codeSortF : Nat → Int32) (mm_codeValueF : Nat → Int32) (mm_placeAtF : Nat → Int32) (p1 : Int32) (p2 : Int32) {r0 : Int32} {r1 : Nat → Int32} {r2 : Nat → Int64} (hf : fX12_place N mmI mm_placesF mm_hushOfF mm_talkOfF mm_sumFromF mm_nightOfF mm_askedF mm_sumBehindF mm_stackL mm_codeSortF mm_codeValueF mm_placeAtF p1 p2 = some (r0, r1, r2)) : xq_Ct l yX12_place wsX12_place { frames := 4, cells := 0, slots := 0, locals := 97 } (dC, dI) vwCl (xq_tys cI cB cJ cZ cM) z ad [.ref a_p0, .int p1, .int p2] [(a_p0, .inr (12, oX12 mmI mmJ mmR)), ((mmR 21), .inl (cI, 2, .inl mm_placesF)), ((mmR 49), .inl (cI, 22, .inl mm_hushOfF)), ((mmR 51), .inl (cI, 132, .inl mm_talkOfF)), ((mmR 24), .inl (cI, 6, .inl mm_sumFromF)), ((mmR 45), .inl (cI, 22, .inl mm_nightOfF)), ((mmR 58), .inl (cI, 12, .inl mm_askedF)), ((mmR 25), .inl (cI, 6, .inl mm_sumBehindF)), ((mmR 57), .inl (cJ, 500, .inr (.inl mm_stackL))), ((mmR 26), .inl (cI, 3200, .inl mm_codeSortF)), ((mmR 27), .inl (cI, 3200, .inl mm_codeValueF)), ((mmR 22), .inl (cI, 12, .inl mm_placeAtF))] [(a_p0, .inr (12, oX12 mmI mmJ mmR)), ((mmR 21), .inl (cI, 2, .inl mm_placesF)), ((mmR 49), .inl (cI, 22, .inl mm_hushOfF)), ((mmR 51), .inl (cI, 132, .inl mm_talkOfF)), ((mmR 24), .inl (cI, 6, .inl mm_sumFromF)), ((mmR 45), .inl (cI, 22, .inl mm_nightOfF)), ((mmR 58), .inl (cI, 12, .inl r1)), ((mmR 25), .inl (cI, 6, .inl mm_sumBehindF)), ((mmR 57), .inl (cJ, 500, .inr (.inl r2))), ((mmR 26), .inl (cI, 3200, .inl mm_codeSortF)), ((mmR 27), .inl (cI, 3200, .inl mm_codeValueF)), ((mmR 22), .inl (cI, 12, .inl mm_placeAtF))] (some (.int r0)) := by
  intro sz
  refine Met.ofW (cc := cX12_place) (maxL := 3) (ret := (some .int)) (by decide) rfl ?_
  intro p e s m args below meth c s₁ B hml hv
  obtain ⟨rfl, hsz, hP, hK, hD0, hE, hz⟩ := hv
  have hx := B.exec
  have hb := B.bytes
  have hr := B.returns
  have hts := atoms_spec (ws := wsX12_place) B.pre
  have hown : s.vm.findClass RX12 = some m.cls := findClass_of_methodNamed B.named
  have hlocks := B.notSynchronized
  subst hsz
  have hD := hD0.self (sz := s.heap.size)
  have hN := xq_Env.of hE hz hD0
  generalize hAe : va_A [(a_p0, .inr (12, oX12 mmI mmJ mmR)), ((mmR 21), .inl (cI, 2, .inl mm_placesF)), ((mmR 49), .inl (cI, 22, .inl mm_hushOfF)), ((mmR 51), .inl (cI, 132, .inl mm_talkOfF)), ((mmR 24), .inl (cI, 6, .inl mm_sumFromF)), ((mmR 45), .inl (cI, 22, .inl mm_nightOfF)), ((mmR 58), .inl (cI, 12, .inl mm_askedF)), ((mmR 25), .inl (cI, 6, .inl mm_sumBehindF)), ((mmR 57), .inl (cJ, 500, .inr (.inl mm_stackL))), ((mmR 26), .inl (cI, 3200, .inl mm_codeSortF)), ((mmR 27), .inl (cI, 3200, .inl mm_codeValueF)), ((mmR 22), .inl (cI, 12, .inl mm_placeAtF))] s.heap.size = A at hD hN ⊢
  have hA : ∀ q : Nat, s.heap.size ≤ q → A q := fun q h => by rw [← hAe]; exact Or.inr h
  clear hAe hD0
  have hS : va_S A s.heap s.heap [] := va_S.rf
  have hl := lv_entry ([.ref a_p0, .int p1, .int p2]) (n := 3) (Nat.le_of_ble_eq_true rfl)
  rw [lg_entry_eq]
  generalize (lg_sl ([.ref a_p0, .int p1, .int p2]) ++ List.replicate (3 - (lg_sl ([.ref a_p0, .int p1, .int p2])).length) Slot.unset).toArray = ls at hl ⊢
  have hl : lv_has ls 3 [(0, .ref a_p0), (1, .int p1), (2, .int p2)] := hl
  have hw0 := hts (.fieldLink RX12 162 "DistantVoiceModel" "hushOf" "[I") (by decide +kernel)
  have hinX12 : ∀ w ∈ wsX120, w ∈ wsX12_place := fun w h => List.mem_cons_of_mem _ (List.mem_append_right _ h)
  have hw2 := hts (.fieldLink RX12 168 "DistantVoiceModel" "talkOf" "[I") (by decide +kernel)
  have hw3 := hts (.fieldLink RX12 78 "DistantVoiceModel" "placeAt" "[I") (by decide +kernel)
  have hw4 := hts (.fieldLink RX12 51 "DistantVoiceModel" "bank" "I") (by decide +kernel)
  unfold fX12_place at hf
  refine lv_aload_n hx hb dX12_place_0 rfl (lv_at hl 0 rfl) ?_
  refine lv_iload_n hx hb dX12_place_1 rfl (lv_at hl 1 rfl) ?_
  obtain ⟨r_1, h_2, hf⟩ := xq_bd_some hf
  refine xq_callV (As := [.int p1]) (rest := []) (ci := 12) (q0 := 0) ⟨hx, hb, hml, hown, hts⟩ (kX12_isPlace l dC dI cI cB cJ cZ cM z ad N a_p0 mmI mmJ mmR mm_placesF p1 h_2) (cwV 1 hts gX12_place_X12_isPlace rfl rfl rfl (by decide +kernel) ⟨Nat.le_of_ble_eq_true rfl, Nat.le_of_ble_eq_true rfl⟩) hN hK hP hD hS hA [0, 1] (by decide) rfl rfl rfl rfl rfl rfl hl.1 rfl (Nat.le_of_ble_eq_true rfl) dX12_place_2 ⟨Nat.zero_le _, Nat.zero_le _⟩ (fun H locs hP hD hS => ?_)
  have hP : va_P (dC, dI) vwCl [(a_p0, .inr (12, oX12 mmI mmJ mmR)), ((mmR 21), .inl (cI, 2, .inl mm_placesF)), ((mmR 49), .inl (cI, 22, .inl mm_hushOfF)), ((mmR 51), .inl (cI, 132, .inl mm_talkOfF)), ((mmR 24), .inl (cI, 6, .inl mm_sumFromF)), ((mmR 45), .inl (cI, 22, .inl mm_nightOfF)), ((mmR 58), .inl (cI, 12, .inl mm_askedF)), ((mmR 25), .inl (cI, 6, .inl mm_sumBehindF)), ((mmR 57), .inl (cJ, 500, .inr (.inl mm_stackL))), ((mmR 26), .inl (cI, 3200, .inl mm_codeSortF)), ((mmR 27), .inl (cI, 3200, .inl mm_codeValueF)), ((mmR 22), .inl (cI, 12, .inl mm_placeAtF))] H := hP
  have hD : va_D A [(a_p0, .inr (12, oX12 mmI mmJ mmR)), ((mmR 21), .inl (cI, 2, .inl mm_placesF)), ((mmR 49), .inl (cI, 22, .inl mm_hushOfF)), ((mmR 51), .inl (cI, 132, .inl mm_talkOfF)), ((mmR 24), .inl (cI, 6, .inl mm_sumFromF)), ((mmR 45), .inl (cI, 22, .inl mm_nightOfF)), ((mmR 58), .inl (cI, 12, .inl mm_askedF)), ((mmR 25), .inl (cI, 6, .inl mm_sumBehindF)), ((mmR 57), .inl (cJ, 500, .inr (.inl mm_stackL))), ((mmR 26), .inl (cI, 3200, .inl mm_codeSortF)), ((mmR 27), .inl (cI, 3200, .inl mm_codeValueF)), ((mmR 22), .inl (cI, 12, .inl mm_placeAtF))] := hD
  refine W.eq (g2 := F0 m 5 ls [.int r_1]) rfl ?_
  refine lv_if_ne (tgt := 12) hx hb dX12_place_5 (by decide) (fun c_ => ?_) (fun c_ => ?_)
  · have hf := xq_neg hf c_
    refine lv_iload_n hx hb dX12_place_12 rfl (lv_at hl 2 rfl) ?_
    refine lv_if_ne (tgt := 33) hx hb dX12_place_13 (by decide) (fun c_ => ?_) (fun c_ => ?_)
    · have hf := xq_neg hf c_
      refine lv_iload_n hx hb dX12_place_33 rfl (lv_at hl 2 rfl) ?_
      refine lv_iconst (v := 1) hx hb dX12_place_34 (by decide) ?_
      refine lv_icmp_ne (tgt := 47) hx hb dX12_place_35 (by decide) (fun c_ => ?_) (fun c_ => ?_)
      · have hf := xq_neg hf c_
        refine lv_iload_n hx hb dX12_place_47 rfl (lv_at hl 2 rfl) ?_
        refine lv_iconst (v := 2) hx hb dX12_place_48 (by decide) ?_
        refine lv_icmp_ne (tgt := 67) hx hb dX12_place_49 (by decide) (fun c_ => ?_) (fun c_ => ?_)
        · have hf := xq_neg hf c_
          refine lv_iconst (v := (-1)) hx hb dX12_place_67 (by decide) ?_
          have hP9 := hP
          have hD9 := hD
          have hS9 := hS
          cases hf
          exact xq_iret hx hb hr hlocks hK hP9 hD9 hS9 dX12_place_68
        · have hf := xq_pos hf c_
          refine lv_aload_n hx hb dX12_place_52 rfl (lv_at hl 0 rfl) ?_
          refine lv_iconst (v := 0) hx hb dX12_place_53 (by decide) ?_
          refine lv_iload_n hx hb dX12_place_54 rfl (lv_at hl 1 rfl) ?_
          refine lv_aload_n hx hb dX12_place_55 rfl (lv_at hl 0 rfl) ?_
          refine va_get (D := (dC, dI)) (ci := 12) (v := .ref ((mmR 49))) (C := RX12) (T := TX12) (N := 70) hx hb hts hinX12 hown hK hP 0 rfl rfl 49 (by decide) hw0 (fun _ h9 => h9) rfl dX12_place_56 ?_
          refine lv_iconst (v := 0) hx hb dX12_place_59 (by decide) ?_
          refine xq_iald hx hb hK hP 2 0 rfl rfl hf dX12_place_60 (fun v_3 hf => ?_)
          obtain ⟨⟨r_4_0, r_4_1, r_4_2⟩, h_5, hf⟩ := xq_bd_some hf
          refine xq_callV (As := [.int 0, .int p1, .int v_3]) (rest := []) (ci := 12) (q0 := 0) ⟨hx, hb, hml, hown, hts⟩ (kX12_talkAt l dC dI cI cB cJ cZ cM z ad N a_p0 mmI mmJ mmR mm_talkOfF mm_sumFromF mm_nightOfF mm_askedF mm_sumBehindF mm_stackL mm_codeSortF mm_codeValueF 0 p1 v_3 h_5) (cwV 3 hts gX12_place_X12_talkAt rfl rfl rfl (by decide +kernel) ⟨Nat.le_of_ble_eq_true rfl, Nat.le_of_ble_eq_true rfl⟩) hN hK hP hD hS hA [0, 3, 4, 5, 6, 7, 8, 9, 10] (by decide) rfl rfl rfl rfl rfl rfl hl.1 rfl (Nat.le_of_ble_eq_true rfl) dX12_place_61 ⟨Nat.zero_le _, Nat.zero_le _⟩ (fun H locs hP hD hS => ?_)
          have hP : va_P (dC, dI) vwCl [(a_p0, .inr (12, oX12 mmI mmJ mmR)), ((mmR 21), .inl (cI, 2, .inl mm_placesF)), ((mmR 49), .inl (cI, 22, .inl mm_hushOfF)), ((mmR 51), .inl (cI, 132, .inl mm_talkOfF)), ((mmR 24), .inl (cI, 6, .inl mm_sumFromF)), ((mmR 45), .inl (cI, 22, .inl mm_nightOfF)), ((mmR 58), .inl (cI, 12, .inl r_4_1)), ((mmR 25), .inl (cI, 6, .inl mm_sumBehindF)), ((mmR 57), .inl (cJ, 500, .inr (.inl r_4_2))), ((mmR 26), .inl (cI, 3200, .inl mm_codeSortF)), ((mmR 27), .inl (cI, 3200, .inl mm_codeValueF)), ((mmR 22), .inl (cI, 12, .inl mm_placeAtF))] H := hP
          have hD : va_D A [(a_p0, .inr (12, oX12 mmI mmJ mmR)), ((mmR 21), .inl (cI, 2, .inl mm_placesF)), ((mmR 49), .inl (cI, 22, .inl mm_hushOfF)), ((mmR 51), .inl (cI, 132, .inl mm_talkOfF)), ((mmR 24), .inl (cI, 6, .inl mm_sumFromF)), ((mmR 45), .inl (cI, 22, .inl mm_nightOfF)), ((mmR 58), .inl (cI, 12, .inl r_4_1)), ((mmR 25), .inl (cI, 6, .inl mm_sumBehindF)), ((mmR 57), .inl (cJ, 500, .inr (.inl r_4_2))), ((mmR 26), .inl (cI, 3200, .inl mm_codeSortF)), ((mmR 27), .inl (cI, 3200, .inl mm_codeValueF)), ((mmR 22), .inl (cI, 12, .inl mm_placeAtF))] := hD
          refine W.eq (g2 := F0 m 64 ls [.int r_4_0]) rfl ?_
          refine lv_goto (tgt := 68) hx hb dX12_place_64 (by decide) ?_
          have hP9 := hP
          have hD9 := hD
          have hS9 := hS
          cases hf
          exact xq_iret hx hb hr hlocks hK hP9 hD9 hS9 dX12_place_68
      · have hf := xq_pos hf c_
        refine lv_aload_n hx hb dX12_place_38 rfl (lv_at hl 0 rfl) ?_
        refine va_get (D := (dC, dI)) (ci := 12) (v := .ref ((mmR 51))) (C := RX12) (T := TX12) (N := 70) hx hb hts hinX12 hown hK hP 0 rfl rfl 51 (by decide) hw2 (fun _ h9 => h9) rfl dX12_place_39 ?_
        refine lv_iload_n hx hb dX12_place_42 rfl (lv_at hl 1 rfl) ?_
        refine xq_iald hx hb hK hP 3 0 rfl rfl hf dX12_place_43 (fun v_6 hf => ?_)
        refine lv_goto (tgt := 68) hx hb dX12_place_44 (by decide) ?_
        have hP9 := hP
        have hD9 := hD
        have hS9 := hS
        cases hf
        exact xq_iret hx hb hr hlocks hK hP9 hD9 hS9 dX12_place_68
    · have hf := xq_pos hf c_
      refine lv_aload_n hx hb dX12_place_16 rfl (lv_at hl 0 rfl) ?_
      refine va_get (D := (dC, dI)) (ci := 12) (v := .ref ((mmR 22))) (C := RX12) (T := TX12) (N := 70) hx hb hts hinX12 hown hK hP 0 rfl rfl 22 (by decide) hw3 (fun _ h9 => h9) rfl dX12_place_17 ?_
      refine lv_bipush (v := 6) hx hb dX12_place_20 (by decide) ?_
      refine lv_aload_n hx hb dX12_place_22 rfl (lv_at hl 0 rfl) ?_
      refine va_get (D := (dC, dI)) (ci := 12) (v := .int (mmI 13)) (C := RX12) (T := TX12) (N := 70) hx hb hts hinX12 hown hK hP 0 rfl rfl 13 (by decide) hw4 (fun _ h9 => h9) rfl dX12_place_23 ?_
      refine lv_imul hx hb dX12_place_26 ?_
      refine lv_iload_n hx hb dX12_place_27 rfl (lv_at hl 1 rfl) ?_
      refine lv_iadd hx hb dX12_place_28 ?_
      refine xq_iald hx hb hK hP 11 0 rfl rfl hf dX12_place_29 (fun v_7 hf => ?_)
      refine lv_goto (tgt := 68) hx hb dX12_place_30 (by decide) ?_
      have hP9 := hP
      have hD9 := hD
      have hS9 := hS
      cases hf
      exact xq_iret hx hb hr hlocks hK hP9 hD9 hS9 dX12_place_68
  · have hf := xq_pos hf c_
    refine lv_iconst (v := (-1)) hx hb dX12_place_8 (by decide) ?_
    refine lv_goto (tgt := 68) hx hb dX12_place_9 (by decide) ?_
    have hP9 := hP
    have hD9 := hD
    have hS9 := hS
    cases hf
    exact xq_iret hx hb hr hlocks hK hP9 hD9 hS9 dX12_place_68
set_option maxRecDepth 20000 in
theorem ggX12_stride_X12_strideOf : GoodIn wsX12_stride wsX12_strideOf := goodIn_r _ [7, 8, 9, 10, 11, 12, 13, 14, 6, 15, 16, 17, 18, 19, 20, 21, 22, 23, 24, 25, 26, 27, 28, 29, 30, 31, 32, 33, 34, 35, 36, 37, 38, 39, 40, 41, 42, 43, 44, 45, 46, 47, 48, 49, 50, 51, 52, 53, 54, 55, 56, 57, 58, 59, 60, 61, 62, 63, 64, 65, 66, 67, 68, 69, 70, 71, 72, 73, 74, 75, 76, 77, 78, 79, 80, 81, 82, 83, 84, 85, 86, 87, 88, 89, 90, 91, 92, 93, 94, 95, 96, 97, 98, 99, 100, 101, 102, 103, 104, 105, 106, 107, 108, 109] rfl (by decide +kernel)
set_option maxRecDepth 20000 in
theorem gX12_stride_X12_strideOf : GoodIn wsX12_stride (wsV RX12 427 RX12 yX12_strideOf wsX12_strideOf) := goodIn_app (goodIn_of _ (by decide +kernel)) ggX12_stride_X12_strideOf
def dsX12_stride_0 : List (Nat × Instr × Nat) := [(0, (.aload_n 0, 1)), (1, (.getfield 144, 3)), (4, (.ifCond .eq 17, 3)), (7, (.aload_n 0, 1)), (8, (.iconst 0, 1)), (9, (.aload_n 0, 1)), (10, (.getfield 162, 3)), (13, (.iconst 0, 1)), (14, (.iaload, 1)), (15, (.invokevirtual 427, 3)), (18, (.goto 4, 3)), (21, (.iconst (-1), 1)), (22, (.ireturn, 1))]
theorem dsX12_stride_0_ok : (dsX12_stride_0.all fun q => decide (decode cX12_stride q.1 = .ok q.2)) = true := by decide +kernel
theorem dX12_stride_0 : decode cX12_stride 0 = .ok (.aload_n 0, 1) := of_decide_eq_true (List.all_eq_true.mp dsX12_stride_0_ok (0, (.aload_n 0, 1)) (List.mem_of_getElem? (i := 0) rfl))
theorem dX12_stride_1 : decode cX12_stride 1 = .ok (.getfield 144, 3) := of_decide_eq_true (List.all_eq_true.mp dsX12_stride_0_ok (1, (.getfield 144, 3)) (List.mem_of_getElem? (i := 1) rfl))
theorem dX12_stride_4 : decode cX12_stride 4 = .ok (.ifCond .eq 17, 3) := of_decide_eq_true (List.all_eq_true.mp dsX12_stride_0_ok (4, (.ifCond .eq 17, 3)) (List.mem_of_getElem? (i := 2) rfl))
theorem dX12_stride_7 : decode cX12_stride 7 = .ok (.aload_n 0, 1) := of_decide_eq_true (List.all_eq_true.mp dsX12_stride_0_ok (7, (.aload_n 0, 1)) (List.mem_of_getElem? (i := 3) rfl))
theorem dX12_stride_8 : decode cX12_stride 8 = .ok (.iconst 0, 1) := of_decide_eq_true (List.all_eq_true.mp dsX12_stride_0_ok (8, (.iconst 0, 1)) (List.mem_of_getElem? (i := 4) rfl))
theorem dX12_stride_9 : decode cX12_stride 9 = .ok (.aload_n 0, 1) := of_decide_eq_true (List.all_eq_true.mp dsX12_stride_0_ok (9, (.aload_n 0, 1)) (List.mem_of_getElem? (i := 5) rfl))
theorem dX12_stride_10 : decode cX12_stride 10 = .ok (.getfield 162, 3) := of_decide_eq_true (List.all_eq_true.mp dsX12_stride_0_ok (10, (.getfield 162, 3)) (List.mem_of_getElem? (i := 6) rfl))
theorem dX12_stride_13 : decode cX12_stride 13 = .ok (.iconst 0, 1) := of_decide_eq_true (List.all_eq_true.mp dsX12_stride_0_ok (13, (.iconst 0, 1)) (List.mem_of_getElem? (i := 7) rfl))
theorem dX12_stride_14 : decode cX12_stride 14 = .ok (.iaload, 1) := of_decide_eq_true (List.all_eq_true.mp dsX12_stride_0_ok (14, (.iaload, 1)) (List.mem_of_getElem? (i := 8) rfl))
theorem dX12_stride_15 : decode cX12_stride 15 = .ok (.invokevirtual 427, 3) := of_decide_eq_true (List.all_eq_true.mp dsX12_stride_0_ok (15, (.invokevirtual 427, 3)) (List.mem_of_getElem? (i := 9) rfl))
theorem dX12_stride_18 : decode cX12_stride 18 = .ok (.goto 4, 3) := of_decide_eq_true (List.all_eq_true.mp dsX12_stride_0_ok (18, (.goto 4, 3)) (List.mem_of_getElem? (i := 10) rfl))
theorem dX12_stride_21 : decode cX12_stride 21 = .ok (.iconst (-1), 1) := of_decide_eq_true (List.all_eq_true.mp dsX12_stride_0_ok (21, (.iconst (-1), 1)) (List.mem_of_getElem? (i := 11) rfl))
theorem dX12_stride_22 : decode cX12_stride 22 = .ok (.ireturn, 1) := of_decide_eq_true (List.all_eq_true.mp dsX12_stride_0_ok (22, (.ireturn, 1)) (List.mem_of_getElem? (i := 12) rfl))
def fX12_stride (N : Nat) (mmI : Nat → Int32) (mm_hushOfF : Nat → Int32) (mm_sumFromF : Nat → Int32) (mm_nightOfF : Nat → Int32) (mm_askedF : Nat → Int32) (mm_mileOfF : Nat → Int32) (mm_roundsOfF : Nat → Int32) (mm_sumBehindF : Nat → Int32) (mm_stackL : Nat → Int64) (mm_codeSortF : Nat → Int32) (mm_codeValueF : Nat → Int32)   : Option (Int32 × (Nat → Int32) × (Nat → Int64)) :=
  (if (mmI 43) = 0 then some (((-1), mm_askedF, mm_stackL)) else (xq_bd (xq_ald 22 mm_hushOfF 0) fun v_1 => (xq_bd (fX12_strideOf N mmI mm_sumFromF mm_nightOfF mm_askedF mm_mileOfF mm_roundsOfF mm_sumBehindF mm_stackL mm_codeSortF mm_codeValueF 0 v_1) fun (r_2_0, r_2_1, r_2_2) => some ((r_2_0, r_2_1, r_2_2)))))
set_option maxHeartbeats 4000000 in
set_option maxRecDepth 100000 in
theorem kX12_stride (l : Launch) (dC : Nat → ClassId) (dI : Nat → Nat → Nat) (cI cB cJ cZ cM : ClassId) (z : Nat) (ad : Nat → Nat) (N : Nat) (a_p0 : Nat) (mmI : Nat → Int32) (mmJ : Nat → Int64) (mmR : Nat → Nat) (mm_hushOfF : Nat → Int32) (mm_sumFromF : Nat → Int32) (mm_nightOfF : Nat → Int32) (mm_askedF : Nat → Int32) (mm_mileOfF : Nat → Int32) (mm_roundsOfF : Nat → Int32) (mm_sumBehindF : Nat → Int32) (mm_stackL : Nat → Int64) (mm_codeSortF : Nat → Int32) (mm_codeValueF : Nat → Int32) {r0 : Int32} {r1 : Nat → Int32} {r2 : Nat → Int64} (hf : fX12_stride N mmI mm_hushOfF mm_sumFromF mm_nightOfF mm_askedF mm_mileOfF mm_roundsOfF mm_sumBehindF mm_stackL mm_codeSortF mm_codeValueF = some (r0, r1, r2)) : xq_Ct l yX12_stride wsX12_stride { frames := 4, cells := 0, slots := 0, locals := 95 } (dC, dI) vwCl (xq_tys cI cB cJ cZ cM) z ad [.ref a_p0] [(a_p0, .inr (12, oX12 mmI mmJ mmR)), ((mmR 49), .inl (cI, 22, .inl mm_hushOfF)), ((mmR 24), .inl (cI, 6, .inl mm_sumFromF)), ((mmR 45), .inl (cI, 22, .inl mm_nightOfF)), ((mmR 58), .inl (cI, 12, .inl mm_askedF)), ((mmR 46), .inl (cI, 22, .inl mm_mileOfF)), ((mmR 47), .inl (cI, 22, .inl mm_roundsOfF)), ((mmR 25), .inl (cI, 6, .inl mm_sumBehindF)), ((mmR 57), .inl (cJ, 500, .inr (.inl mm_stackL))), ((mmR 26), .inl (cI, 3200, .inl mm_codeSortF)), ((mmR 27), .inl (cI, 3200, .inl mm_codeValueF))] [(a_p0, .inr (12, oX12 mmI mmJ mmR)), ((mmR 49), .inl (cI, 22, .inl mm_hushOfF)), ((mmR 24), .inl (cI, 6, .inl mm_sumFromF)), ((mmR 45), .inl (cI, 22, .inl mm_nightOfF)), ((mmR 58), .inl (cI, 12, .inl r1)), ((mmR 46), .inl (cI, 22, .inl mm_mileOfF)), ((mmR 47), .inl (cI, 22, .inl mm_roundsOfF)), ((mmR 25), .inl (cI, 6, .inl mm_sumBehindF)), ((mmR 57), .inl (cJ, 500, .inr (.inl r2))), ((mmR 26), .inl (cI, 3200, .inl mm_codeSortF)), ((mmR 27), .inl (cI, 3200, .inl mm_codeValueF))] (some (.int r0)) := by
  intro sz
  refine Met.ofW (cc := cX12_stride) (maxL := 1) (ret := (some .int)) (by decide) rfl ?_
  intro p e s m args below meth c s₁ B hml hv
  obtain ⟨rfl, hsz, hP, hK, hD0, hE, hz⟩ := hv
  have hx := B.exec
  have hb := B.bytes
  have hr := B.returns
  have hts := atoms_spec (ws := wsX12_stride) B.pre
  have hown : s.vm.findClass RX12 = some m.cls := findClass_of_methodNamed B.named
  have hlocks := B.notSynchronized
  subst hsz
  have hD := hD0.self (sz := s.heap.size)
  have hN := xq_Env.of hE hz hD0
  generalize hAe : va_A [(a_p0, .inr (12, oX12 mmI mmJ mmR)), ((mmR 49), .inl (cI, 22, .inl mm_hushOfF)), ((mmR 24), .inl (cI, 6, .inl mm_sumFromF)), ((mmR 45), .inl (cI, 22, .inl mm_nightOfF)), ((mmR 58), .inl (cI, 12, .inl mm_askedF)), ((mmR 46), .inl (cI, 22, .inl mm_mileOfF)), ((mmR 47), .inl (cI, 22, .inl mm_roundsOfF)), ((mmR 25), .inl (cI, 6, .inl mm_sumBehindF)), ((mmR 57), .inl (cJ, 500, .inr (.inl mm_stackL))), ((mmR 26), .inl (cI, 3200, .inl mm_codeSortF)), ((mmR 27), .inl (cI, 3200, .inl mm_codeValueF))] s.heap.size = A at hD hN ⊢
  have hA : ∀ q : Nat, s.heap.size ≤ q → A q := fun q h => by rw [← hAe]; exact Or.inr h
  clear hAe hD0
  have hS : va_S A s.heap s.heap [] := va_S.rf
  have hl := lv_entry ([.ref a_p0]) (n := 1) (Nat.le_of_ble_eq_true rfl)
  rw [lg_entry_eq]
  generalize (lg_sl ([.ref a_p0]) ++ List.replicate (1 - (lg_sl ([.ref a_p0])).length) Slot.unset).toArray = ls at hl ⊢
  have hl : lv_has ls 1 [(0, .ref a_p0)] := hl
  have hw0 := hts (.fieldLink RX12 144 "DistantVoiceModel" "isHouse" "Z") (by decide +kernel)
  have hinX12 : ∀ w ∈ wsX120, w ∈ wsX12_stride := fun w h => List.mem_cons_of_mem _ (List.mem_append_right _ h)
  have hw2 := hts (.fieldLink RX12 162 "DistantVoiceModel" "hushOf" "[I") (by decide +kernel)
  unfold fX12_stride at hf
  refine lv_aload_n hx hb dX12_stride_0 rfl (lv_at hl 0 rfl) ?_
  refine va_get (D := (dC, dI)) (ci := 12) (v := .int (mmI 43)) (C := RX12) (T := TX12) (N := 70) hx hb hts hinX12 hown hK hP 0 rfl rfl 43 (by decide) hw0 (fun _ h9 => h9) rfl dX12_stride_1 ?_
  refine lv_if_eq (tgt := 21) hx hb dX12_stride_4 (by decide) (fun c_ => ?_) (fun c_ => ?_)
  · have hf := xq_pos hf c_
    refine lv_iconst (v := (-1)) hx hb dX12_stride_21 (by decide) ?_
    have hP9 := hP
    have hD9 := hD
    have hS9 := hS
    cases hf
    exact xq_iret hx hb hr hlocks hK hP9 hD9 hS9 dX12_stride_22
  · have hf := xq_neg hf c_
    refine lv_aload_n hx hb dX12_stride_7 rfl (lv_at hl 0 rfl) ?_
    refine lv_iconst (v := 0) hx hb dX12_stride_8 (by decide) ?_
    refine lv_aload_n hx hb dX12_stride_9 rfl (lv_at hl 0 rfl) ?_
    refine va_get (D := (dC, dI)) (ci := 12) (v := .ref ((mmR 49))) (C := RX12) (T := TX12) (N := 70) hx hb hts hinX12 hown hK hP 0 rfl rfl 49 (by decide) hw2 (fun _ h9 => h9) rfl dX12_stride_10 ?_
    refine lv_iconst (v := 0) hx hb dX12_stride_13 (by decide) ?_
    refine xq_iald hx hb hK hP 1 0 rfl rfl hf dX12_stride_14 (fun v_1 hf => ?_)
    obtain ⟨⟨r_2_0, r_2_1, r_2_2⟩, h_3, hf⟩ := xq_bd_some hf
    refine xq_callV (As := [.int 0, .int v_1]) (rest := []) (ci := 12) (q0 := 0) ⟨hx, hb, hml, hown, hts⟩ (kX12_strideOf l dC dI cI cB cJ cZ cM z ad N a_p0 mmI mmJ mmR mm_sumFromF mm_nightOfF mm_askedF mm_mileOfF mm_roundsOfF mm_sumBehindF mm_stackL mm_codeSortF mm_codeValueF 0 v_1 h_3) (cwV 2 hts gX12_stride_X12_strideOf rfl rfl rfl (by decide +kernel) ⟨Nat.le_of_ble_eq_true rfl, Nat.le_of_ble_eq_true rfl⟩) hN hK hP hD hS hA [0, 2, 3, 4, 5, 6, 7, 8, 9, 10] (by decide) rfl rfl rfl rfl rfl rfl hl.1 rfl (Nat.le_of_ble_eq_true rfl) dX12_stride_15 ⟨Nat.zero_le _, Nat.zero_le _⟩ (fun H locs hP hD hS => ?_)
    have hP : va_P (dC, dI) vwCl [(a_p0, .inr (12, oX12 mmI mmJ mmR)), ((mmR 49), .inl (cI, 22, .inl mm_hushOfF)), ((mmR 24), .inl (cI, 6, .inl mm_sumFromF)), ((mmR 45), .inl (cI, 22, .inl mm_nightOfF)), ((mmR 58), .inl (cI, 12, .inl r_2_1)), ((mmR 46), .inl (cI, 22, .inl mm_mileOfF)), ((mmR 47), .inl (cI, 22, .inl mm_roundsOfF)), ((mmR 25), .inl (cI, 6, .inl mm_sumBehindF)), ((mmR 57), .inl (cJ, 500, .inr (.inl r_2_2))), ((mmR 26), .inl (cI, 3200, .inl mm_codeSortF)), ((mmR 27), .inl (cI, 3200, .inl mm_codeValueF))] H := hP
    have hD : va_D A [(a_p0, .inr (12, oX12 mmI mmJ mmR)), ((mmR 49), .inl (cI, 22, .inl mm_hushOfF)), ((mmR 24), .inl (cI, 6, .inl mm_sumFromF)), ((mmR 45), .inl (cI, 22, .inl mm_nightOfF)), ((mmR 58), .inl (cI, 12, .inl r_2_1)), ((mmR 46), .inl (cI, 22, .inl mm_mileOfF)), ((mmR 47), .inl (cI, 22, .inl mm_roundsOfF)), ((mmR 25), .inl (cI, 6, .inl mm_sumBehindF)), ((mmR 57), .inl (cJ, 500, .inr (.inl r_2_2))), ((mmR 26), .inl (cI, 3200, .inl mm_codeSortF)), ((mmR 27), .inl (cI, 3200, .inl mm_codeValueF))] := hD
    refine W.eq (g2 := F0 m 18 ls [.int r_2_0]) rfl ?_
    refine lv_goto (tgt := 22) hx hb dX12_stride_18 (by decide) ?_
    have hP9 := hP
    have hD9 := hD
    have hS9 := hS
    cases hf
    exact xq_iret hx hb hr hlocks hK hP9 hD9 hS9 dX12_stride_22
set_option maxRecDepth 20000 in
theorem ggX12_isAhead_X12_is : GoodIn wsX12_isAhead wsX12_is := goodIn_r _ [6] rfl (by decide +kernel)
set_option maxRecDepth 20000 in
theorem gX12_isAhead_X12_is : GoodIn wsX12_isAhead (va_wsS RX12 301 yX12_is wsX12_is) := goodIn_app (goodIn_of _ (by decide +kernel)) ggX12_isAhead_X12_is
def dsX12_isAhead_0 : List (Nat × Instr × Nat) := [(0, (.aload_n 0, 1)), (1, (.getfield 144, 3)), (4, (.ifCond .eq 30, 3)), (7, (.iload_n 1, 1)), (8, (.iload_n 2, 1)), (9, (.iload_n 3, 1)), (10, (.invokestatic 301, 3)), (13, (.ifCond .eq 21, 3)), (16, (.aload_n 0, 1)), (17, (.getfield 150, 3)), (20, (.iconst 0, 1)), (21, (.iaload, 1)), (22, (.sipush 999, 3)), (25, (.iload_n 1, 1)), (26, (.isub, 1)), (27, (.if_icmp .gt 7, 3)), (30, (.iconst 1, 1)), (31, (.goto 4, 3)), (34, (.iconst 0, 1)), (35, (.ireturn, 1))]
theorem dsX12_isAhead_0_ok : (dsX12_isAhead_0.all fun q => decide (decode cX12_isAhead q.1 = .ok q.2)) = true := by decide +kernel
theorem dX12_isAhead_0 : decode cX12_isAhead 0 = .ok (.aload_n 0, 1) := of_decide_eq_true (List.all_eq_true.mp dsX12_isAhead_0_ok (0, (.aload_n 0, 1)) (List.mem_of_getElem? (i := 0) rfl))
theorem dX12_isAhead_1 : decode cX12_isAhead 1 = .ok (.getfield 144, 3) := of_decide_eq_true (List.all_eq_true.mp dsX12_isAhead_0_ok (1, (.getfield 144, 3)) (List.mem_of_getElem? (i := 1) rfl))
theorem dX12_isAhead_4 : decode cX12_isAhead 4 = .ok (.ifCond .eq 30, 3) := of_decide_eq_true (List.all_eq_true.mp dsX12_isAhead_0_ok (4, (.ifCond .eq 30, 3)) (List.mem_of_getElem? (i := 2) rfl))
theorem dX12_isAhead_7 : decode cX12_isAhead 7 = .ok (.iload_n 1, 1) := of_decide_eq_true (List.all_eq_true.mp dsX12_isAhead_0_ok (7, (.iload_n 1, 1)) (List.mem_of_getElem? (i := 3) rfl))
theorem dX12_isAhead_8 : decode cX12_isAhead 8 = .ok (.iload_n 2, 1) := of_decide_eq_true (List.all_eq_true.mp dsX12_isAhead_0_ok (8, (.iload_n 2, 1)) (List.mem_of_getElem? (i := 4) rfl))
theorem dX12_isAhead_9 : decode cX12_isAhead 9 = .ok (.iload_n 3, 1) := of_decide_eq_true (List.all_eq_true.mp dsX12_isAhead_0_ok (9, (.iload_n 3, 1)) (List.mem_of_getElem? (i := 5) rfl))
theorem dX12_isAhead_10 : decode cX12_isAhead 10 = .ok (.invokestatic 301, 3) := of_decide_eq_true (List.all_eq_true.mp dsX12_isAhead_0_ok (10, (.invokestatic 301, 3)) (List.mem_of_getElem? (i := 6) rfl))
theorem dX12_isAhead_13 : decode cX12_isAhead 13 = .ok (.ifCond .eq 21, 3) := of_decide_eq_true (List.all_eq_true.mp dsX12_isAhead_0_ok (13, (.ifCond .eq 21, 3)) (List.mem_of_getElem? (i := 7) rfl))
theorem dX12_isAhead_16 : decode cX12_isAhead 16 = .ok (.aload_n 0, 1) := of_decide_eq_true (List.all_eq_true.mp dsX12_isAhead_0_ok (16, (.aload_n 0, 1)) (List.mem_of_getElem? (i := 8) rfl))
theorem dX12_isAhead_17 : decode cX12_isAhead 17 = .ok (.getfield 150, 3) := of_decide_eq_true (List.all_eq_true.mp dsX12_isAhead_0_ok (17, (.getfield 150, 3)) (List.mem_of_getElem? (i := 9) rfl))
theorem dX12_isAhead_20 : decode cX12_isAhead 20 = .ok (.iconst 0, 1) := of_decide_eq_true (List.all_eq_true.mp dsX12_isAhead_0_ok (20, (.iconst 0, 1)) (List.mem_of_getElem? (i := 10) rfl))
theorem dX12_isAhead_21 : decode cX12_isAhead 21 = .ok (.iaload, 1) := of_decide_eq_true (List.all_eq_true.mp dsX12_isAhead_0_ok (21, (.iaload, 1)) (List.mem_of_getElem? (i := 11) rfl))
theorem dX12_isAhead_22 : decode cX12_isAhead 22 = .ok (.sipush 999, 3) := of_decide_eq_true (List.all_eq_true.mp dsX12_isAhead_0_ok (22, (.sipush 999, 3)) (List.mem_of_getElem? (i := 12) rfl))
theorem dX12_isAhead_25 : decode cX12_isAhead 25 = .ok (.iload_n 1, 1) := of_decide_eq_true (List.all_eq_true.mp dsX12_isAhead_0_ok (25, (.iload_n 1, 1)) (List.mem_of_getElem? (i := 13) rfl))
theorem dX12_isAhead_26 : decode cX12_isAhead 26 = .ok (.isub, 1) := of_decide_eq_true (List.all_eq_true.mp dsX12_isAhead_0_ok (26, (.isub, 1)) (List.mem_of_getElem? (i := 14) rfl))
theorem dX12_isAhead_27 : decode cX12_isAhead 27 = .ok (.if_icmp .gt 7, 3) := of_decide_eq_true (List.all_eq_true.mp dsX12_isAhead_0_ok (27, (.if_icmp .gt 7, 3)) (List.mem_of_getElem? (i := 15) rfl))
theorem dX12_isAhead_30 : decode cX12_isAhead 30 = .ok (.iconst 1, 1) := of_decide_eq_true (List.all_eq_true.mp dsX12_isAhead_0_ok (30, (.iconst 1, 1)) (List.mem_of_getElem? (i := 16) rfl))
theorem dX12_isAhead_31 : decode cX12_isAhead 31 = .ok (.goto 4, 3) := of_decide_eq_true (List.all_eq_true.mp dsX12_isAhead_0_ok (31, (.goto 4, 3)) (List.mem_of_getElem? (i := 17) rfl))
theorem dX12_isAhead_34 : decode cX12_isAhead 34 = .ok (.iconst 0, 1) := of_decide_eq_true (List.all_eq_true.mp dsX12_isAhead_0_ok (34, (.iconst 0, 1)) (List.mem_of_getElem? (i := 18) rfl))
theorem dX12_isAhead_35 : decode cX12_isAhead 35 = .ok (.ireturn, 1) := of_decide_eq_true (List.all_eq_true.mp dsX12_isAhead_0_ok (35, (.ireturn, 1)) (List.mem_of_getElem? (i := 19) rfl))
def fX12_isAhead (N : Nat) (mmI : Nat → Int32) (mm_nightOfF : Nat → Int32)  (p1 : Int32) (p2 : Int32) (p3 : Int32) : Option (Int32) :=
  (if (mmI 43) = 0 then some 0 else (xq_bd (fX12_is N p1 p2 p3) fun r_1 => (if r_1 = 0 then some 0 else (xq_bd (xq_ald 22 mm_nightOfF 0) fun v_3 => (if (999 - p1) < v_3 then some 0 else some 1)))))
set_option maxHeartbeats 4000000 in
set_option maxRecDepth 100000 in
theorem kX12_isAhead (l : Launch) (dC : Nat → ClassId) (dI : Nat → Nat → Nat) (cI cB cJ cZ cM : ClassId) (z : Nat) (ad : Nat → Nat) (N : Nat) (a_p0 : Nat) (mmI : Nat → Int32) (mmJ : Nat → Int64) (mmR : Nat → Nat) (mm_nightOfF : Nat → Int32) (p1 : Int32) (p2 : Int32) (p3 : Int32) {r0 : Int32} (hf : fX12_isAhead N mmI mm_nightOfF p1 p2 p3 = some r0) : xq_Ct l yX12_isAhead wsX12_isAhead { frames := 1, cells := 0, slots := 0, locals := 22 } (dC, dI) vwCl (xq_tys cI cB cJ cZ cM) z ad [.ref a_p0, .int p1, .int p2, .int p3] [(a_p0, .inr (12, oX12 mmI mmJ mmR)), ((mmR 45), .inl (cI, 22, .inl mm_nightOfF))] [(a_p0, .inr (12, oX12 mmI mmJ mmR)), ((mmR 45), .inl (cI, 22, .inl mm_nightOfF))] (some (.int r0)) := by
  intro sz
  refine Met.ofW (cc := cX12_isAhead) (maxL := 4) (ret := (some .boolean)) (by decide) rfl ?_
  intro p e s m args below meth c s₁ B hml hv
  obtain ⟨rfl, hsz, hP, hK, hD0, hE, hz⟩ := hv
  have hx := B.exec
  have hb := B.bytes
  have hr := B.returns
  have hts := atoms_spec (ws := wsX12_isAhead) B.pre
  have hown : s.vm.findClass RX12 = some m.cls := findClass_of_methodNamed B.named
  have hlocks := B.notSynchronized
  subst hsz
  have hD := hD0.self (sz := s.heap.size)
  have hN := xq_Env.of hE hz hD0
  generalize hAe : va_A [(a_p0, .inr (12, oX12 mmI mmJ mmR)), ((mmR 45), .inl (cI, 22, .inl mm_nightOfF))] s.heap.size = A at hD hN ⊢
  have hA : ∀ q : Nat, s.heap.size ≤ q → A q := fun q h => by rw [← hAe]; exact Or.inr h
  clear hAe hD0
  have hS : va_S A s.heap s.heap [] := va_S.rf
  have hl := lv_entry ([.ref a_p0, .int p1, .int p2, .int p3]) (n := 4) (Nat.le_of_ble_eq_true rfl)
  rw [lg_entry_eq]
  generalize (lg_sl ([.ref a_p0, .int p1, .int p2, .int p3]) ++ List.replicate (4 - (lg_sl ([.ref a_p0, .int p1, .int p2, .int p3])).length) Slot.unset).toArray = ls at hl ⊢
  have hl : lv_has ls 4 [(0, .ref a_p0), (1, .int p1), (2, .int p2), (3, .int p3)] := hl
  have hw0 := hts (.fieldLink RX12 144 "DistantVoiceModel" "isHouse" "Z") (by decide +kernel)
  have hinX12 : ∀ w ∈ wsX120, w ∈ wsX12_isAhead := fun w h => List.mem_cons_of_mem _ (List.mem_append_right _ h)
  have hw2 := hts (.fieldLink RX12 150 "DistantVoiceModel" "nightOf" "[I") (by decide +kernel)
  unfold fX12_isAhead at hf
  refine lv_aload_n hx hb dX12_isAhead_0 rfl (lv_at hl 0 rfl) ?_
  refine va_get (D := (dC, dI)) (ci := 12) (v := .int (mmI 43)) (C := RX12) (T := TX12) (N := 70) hx hb hts hinX12 hown hK hP 0 rfl rfl 43 (by decide) hw0 (fun _ h9 => h9) rfl dX12_isAhead_1 ?_
  refine lv_if_eq (tgt := 34) hx hb dX12_isAhead_4 (by decide) (fun c_ => ?_) (fun c_ => ?_)
  · have hf := xq_pos hf c_
    refine lv_iconst (v := 0) hx hb dX12_isAhead_34 (by decide) ?_
    have hP9 := hP
    have hD9 := hD
    have hS9 := hS
    cases hf
    exact xq_zret hx hb hr (by decide +kernel) hlocks hK hP9 hD9 hS9 dX12_isAhead_35
  · have hf := xq_neg hf c_
    refine lv_iload_n hx hb dX12_isAhead_7 rfl (lv_at hl 1 rfl) ?_
    refine lv_iload_n hx hb dX12_isAhead_8 rfl (lv_at hl 2 rfl) ?_
    refine lv_iload_n hx hb dX12_isAhead_9 rfl (lv_at hl 3 rfl) ?_
    obtain ⟨r_1, h_2, hf⟩ := xq_bd_some hf
    refine xq_callS (As := [.int p1, .int p2, .int p3]) (rest := []) ⟨hx, hb, hml, hown, hts⟩ (kX12_is l dC dI cI cB cJ cZ cM z ad N p1 p2 p3 h_2) (va_cwS 3 hts gX12_isAhead_X12_is rfl rfl rfl (by decide +kernel) ⟨Nat.le_of_ble_eq_true rfl, Nat.le_of_ble_eq_true rfl⟩) hN hK hP hD hS hA [] (by decide) rfl rfl rfl hl.1 rfl (Nat.le_of_ble_eq_true rfl) dX12_isAhead_10 ⟨Nat.zero_le _, Nat.zero_le _⟩ (fun H locs hP hD hS => ?_)
    have hP : va_P (dC, dI) vwCl [(a_p0, .inr (12, oX12 mmI mmJ mmR)), ((mmR 45), .inl (cI, 22, .inl mm_nightOfF))] H := hP
    have hD : va_D A [(a_p0, .inr (12, oX12 mmI mmJ mmR)), ((mmR 45), .inl (cI, 22, .inl mm_nightOfF))] := hD
    refine W.eq (g2 := F0 m 13 ls [.int r_1]) rfl ?_
    refine lv_if_eq (tgt := 34) hx hb dX12_isAhead_13 (by decide) (fun c_ => ?_) (fun c_ => ?_)
    · have hf := xq_pos hf c_
      refine lv_iconst (v := 0) hx hb dX12_isAhead_34 (by decide) ?_
      have hP9 := hP
      have hD9 := hD
      have hS9 := hS
      cases hf
      exact xq_zret hx hb hr (by decide +kernel) hlocks hK hP9 hD9 hS9 dX12_isAhead_35
    · have hf := xq_neg hf c_
      refine lv_aload_n hx hb dX12_isAhead_16 rfl (lv_at hl 0 rfl) ?_
      refine va_get (D := (dC, dI)) (ci := 12) (v := .ref ((mmR 45))) (C := RX12) (T := TX12) (N := 70) hx hb hts hinX12 hown hK hP 0 rfl rfl 45 (by decide) hw2 (fun _ h9 => h9) rfl dX12_isAhead_17 ?_
      refine lv_iconst (v := 0) hx hb dX12_isAhead_20 (by decide) ?_
      refine xq_iald hx hb hK hP 1 0 rfl rfl hf dX12_isAhead_21 (fun v_3 hf => ?_)
      refine lv_sipush (v := 999) hx hb dX12_isAhead_22 (by decide) ?_
      refine lv_iload_n hx hb dX12_isAhead_25 rfl (lv_at hl 1 rfl) ?_
      refine lv_isub hx hb dX12_isAhead_26 ?_
      refine lv_icmp_gt (tgt := 34) hx hb dX12_isAhead_27 (by decide) (fun c_ => ?_) (fun c_ => ?_)
      · have hf := xq_pos hf c_
        refine lv_iconst (v := 0) hx hb dX12_isAhead_34 (by decide) ?_
        have hP9 := hP
        have hD9 := hD
        have hS9 := hS
        cases hf
        exact xq_zret hx hb hr (by decide +kernel) hlocks hK hP9 hD9 hS9 dX12_isAhead_35
      · have hf := xq_neg hf c_
        refine lv_iconst (v := 1) hx hb dX12_isAhead_30 (by decide) ?_
        refine lv_goto (tgt := 35) hx hb dX12_isAhead_31 (by decide) ?_
        have hP9 := hP
        have hD9 := hD
        have hS9 := hS
        cases hf
        exact xq_zret hx hb hr (by decide +kernel) hlocks hK hP9 hD9 hS9 dX12_isAhead_35
def dsX12_from_0 : List (Nat × Instr × Nat) := [(0, (.sipush 1024, 3)), (3, (.iload_n 0, 1)), (4, (.imul, 1)), (5, (.iload_n 1, 1)), (6, (.iadd, 1)), (7, (.ireturn, 1))]
theorem dsX12_from_0_ok : (dsX12_from_0.all fun q => decide (decode cX12_from q.1 = .ok q.2)) = true := by decide +kernel
theorem dX12_from_0 : decode cX12_from 0 = .ok (.sipush 1024, 3) := of_decide_eq_true (List.all_eq_true.mp dsX12_from_0_ok (0, (.sipush 1024, 3)) (List.mem_of_getElem? (i := 0) rfl))
theorem dX12_from_3 : decode cX12_from 3 = .ok (.iload_n 0, 1) := of_decide_eq_true (List.all_eq_true.mp dsX12_from_0_ok (3, (.iload_n 0, 1)) (List.mem_of_getElem? (i := 1) rfl))
theorem dX12_from_4 : decode cX12_from 4 = .ok (.imul, 1) := of_decide_eq_true (List.all_eq_true.mp dsX12_from_0_ok (4, (.imul, 1)) (List.mem_of_getElem? (i := 2) rfl))
theorem dX12_from_5 : decode cX12_from 5 = .ok (.iload_n 1, 1) := of_decide_eq_true (List.all_eq_true.mp dsX12_from_0_ok (5, (.iload_n 1, 1)) (List.mem_of_getElem? (i := 3) rfl))
theorem dX12_from_6 : decode cX12_from 6 = .ok (.iadd, 1) := of_decide_eq_true (List.all_eq_true.mp dsX12_from_0_ok (6, (.iadd, 1)) (List.mem_of_getElem? (i := 4) rfl))
theorem dX12_from_7 : decode cX12_from 7 = .ok (.ireturn, 1) := of_decide_eq_true (List.all_eq_true.mp dsX12_from_0_ok (7, (.ireturn, 1)) (List.mem_of_getElem? (i := 5) rfl))
def fX12_from (N : Nat)   (p0 : Int32) (p1 : Int32) : Option (Int32) :=
  some ((1024 * p0) + p1)
set_option maxHeartbeats 4000000 in
set_option maxRecDepth 100000 in
theorem kX12_from (l : Launch) (dC : Nat → ClassId) (dI : Nat → Nat → Nat) (cI cB cJ cZ cM : ClassId) (z : Nat) (ad : Nat → Nat) (N : Nat) (p0 : Int32) (p1 : Int32) {r0 : Int32} (hf : fX12_from N p0 p1 = some r0) : xq_Ct l yX12_from wsX12_from { frames := 0, cells := 0, slots := 0, locals := 0 } (dC, dI) vwCl (xq_tys cI cB cJ cZ cM) z ad [.int p0, .int p1] [] [] (some (.int r0)) := by
  intro sz
  refine Met.ofW (cc := cX12_from) (maxL := 2) (ret := (some .int)) (by decide) rfl ?_
  intro p e s m args below meth c s₁ B hml hv
  obtain ⟨rfl, hsz, hP, hK, hD0, hE, hz⟩ := hv
  have hx := B.exec
  have hb := B.bytes
  have hr := B.returns
  have hts := atoms_spec (ws := wsX12_from) B.pre
  have hown : s.vm.findClass RX12 = some m.cls := findClass_of_methodNamed B.named
  have hlocks := B.notSynchronized
  subst hsz
  have hD := hD0.self (sz := s.heap.size)
  have hN := xq_Env.of hE hz hD0
  generalize hAe : va_A [] s.heap.size = A at hD hN ⊢
  have hA : ∀ q : Nat, s.heap.size ≤ q → A q := fun q h => by rw [← hAe]; exact Or.inr h
  clear hAe hD0
  have hS : va_S A s.heap s.heap [] := va_S.rf
  have hl := lv_entry ([.int p0, .int p1]) (n := 2) (Nat.le_of_ble_eq_true rfl)
  rw [lg_entry_eq]
  generalize (lg_sl ([.int p0, .int p1]) ++ List.replicate (2 - (lg_sl ([.int p0, .int p1])).length) Slot.unset).toArray = ls at hl ⊢
  have hl : lv_has ls 2 [(0, .int p0), (1, .int p1)] := hl
  unfold fX12_from at hf
  refine lv_sipush (v := 1024) hx hb dX12_from_0 (by decide) ?_
  refine lv_iload_n hx hb dX12_from_3 rfl (lv_at hl 0 rfl) ?_
  refine lv_imul hx hb dX12_from_4 ?_
  refine lv_iload_n hx hb dX12_from_5 rfl (lv_at hl 1 rfl) ?_
  refine lv_iadd hx hb dX12_from_6 ?_
  have hP9 := hP
  have hD9 := hD
  have hS9 := hS
  cases hf
  exact xq_iret hx hb hr hlocks hK hP9 hD9 hS9 dX12_from_7
