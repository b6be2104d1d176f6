set_option maxRecDepth 20000 in
theorem ggX12_operand_X12_lex : GoodIn wsX12_operand wsX12_lex := goodIn_r _ [29, 30, 31, 32, 33, 28, 34, 1, 35, 84, 85, 86, 87, 88, 89, 90, 91, 92, 93, 94, 95, 96, 97, 98, 99, 100, 101, 102, 103, 104, 105, 106, 107, 108, 109, 110, 111, 112, 113, 114, 115, 116, 117, 118, 119, 120, 121, 122, 123, 124, 125, 126, 127, 128, 129, 130, 131, 132, 133, 134, 135, 136, 137, 138, 139, 140, 141, 142, 143, 144, 145, 146, 147, 148, 149, 150, 151, 152, 153] rfl (by decide +kernel)
set_option maxRecDepth 20000 in
theorem gX12_operand_X12_lex : GoodIn wsX12_operand (wsV RX12 244 RX12 yX12_lex wsX12_lex) := goodIn_app (goodIn_of _ (by decide +kernel)) ggX12_operand_X12_lex
set_option maxRecDepth 20000 in
theorem ggX12_operand_X12_isTest : GoodIn wsX12_operand wsX12_isTest := goodIn_r _ [38] rfl (by decide +kernel)
set_option maxRecDepth 20000 in
theorem gX12_operand_X12_isTest : GoodIn wsX12_operand (va_wsS RX12 314 yX12_isTest wsX12_isTest) := goodIn_app (goodIn_of _ (by decide +kernel)) ggX12_operand_X12_isTest
set_option maxRecDepth 20000 in
theorem ggX12_operand_X12_isWord : GoodIn wsX12_operand wsX12_isWord := goodIn_r _ [42, 14, 43, 84, 85, 86, 87, 88, 89, 90, 91, 92, 93, 94, 95, 96, 97, 98, 99, 100, 101, 102, 103, 104, 105, 106, 107, 108, 109, 110, 111, 112, 113, 114, 115, 116, 117, 118, 119, 120, 121, 122, 123, 124, 125, 126, 127, 128, 129, 130, 131, 132, 133, 134, 135, 136, 137, 138, 139, 140, 141, 142, 143, 144, 145, 146, 147, 148, 149, 150, 151, 152, 153] rfl (by decide +kernel)
set_option maxRecDepth 20000 in
theorem gX12_operand_X12_isWord : GoodIn wsX12_operand (wsV RX12 317 RX12 yX12_isWord wsX12_isWord) := goodIn_app (goodIn_of _ (by decide +kernel)) ggX12_operand_X12_isWord
set_option maxRecDepth 20000 in
theorem ggX12_operand_X12_blame : GoodIn wsX12_operand wsX12_blame := goodIn_r _ [34, 1, 35, 84, 85, 86, 87, 88, 89, 90, 91, 92, 93, 94, 95, 96, 97, 98, 99, 100, 101, 102, 103, 104, 105, 106, 107, 108, 109, 110, 111, 112, 113, 114, 115, 116, 117, 118, 119, 120, 121, 122, 123, 124, 125, 126, 127, 128, 129, 130, 131, 132, 133, 134, 135, 136, 137, 138, 139, 140, 141, 142, 143, 144, 145, 146, 147, 148, 149, 150, 151, 152, 153] rfl (by decide +kernel)
set_option maxRecDepth 20000 in
theorem gX12_operand_X12_blame : GoodIn wsX12_operand (wsV RX12 233 RX12 yX12_blame wsX12_blame) := goodIn_app (goodIn_of _ (by decide +kernel)) ggX12_operand_X12_blame
set_option maxRecDepth 20000 in
theorem ggX12_operand_X12_holdsBack : GoodIn wsX12_operand wsX12_holdsBack := goodIn_r _ [47, 48, 49, 84, 85, 86, 87, 88, 89, 90, 91, 92, 93, 94, 95, 96, 97, 98, 99, 100, 101, 102, 103, 104, 105, 106, 107, 108, 109, 110, 111, 112, 113, 114, 115, 116, 117, 118, 119, 120, 121, 122, 123, 124, 125, 126, 127, 128, 129, 130, 131, 132, 133, 134, 135, 136, 137, 138, 139, 140, 141, 142, 143, 144, 145, 146, 147, 148, 149, 150, 151, 152, 153] rfl (by decide +kernel)
set_option maxRecDepth 20000 in
theorem gX12_operand_X12_holdsBack : GoodIn wsX12_operand (wsV RX12 321 RX12 yX12_holdsBack wsX12_holdsBack) := goodIn_app (goodIn_of _ (by decide +kernel)) ggX12_operand_X12_holdsBack
set_option maxRecDepth 20000 in
theorem ggX12_operand_X12_ahead : GoodIn wsX12_operand wsX12_ahead := goodIn_r _ [53, 54, 55, 56, 7, 14, 30, 24, 43, 57, 58, 28, 59, 60, 61, 62, 84, 85, 86, 87, 88, 89, 90, 91, 92, 93, 94, 95, 96, 97, 98, 99, 100, 101, 102, 103, 104, 105, 106, 107, 108, 109, 110, 111, 112, 113, 114, 115, 116, 117, 118, 119, 120, 121, 122, 123, 124, 125, 126, 127, 128, 129, 130, 131, 132, 133, 134, 135, 136, 137, 138, 139, 140, 141, 142, 143, 144, 145, 146, 147, 148, 149, 150, 151, 152, 153] rfl (by decide +kernel)
set_option maxRecDepth 20000 in
theorem gX12_operand_X12_ahead : GoodIn wsX12_operand (wsV RX12 250 RX12 yX12_ahead wsX12_ahead) := goodIn_app (goodIn_of _ (by decide +kernel)) ggX12_operand_X12_ahead
set_option maxRecDepth 20000 in
theorem ggX12_operand_X12_isSign : GoodIn wsX12_operand wsX12_isSign := goodIn_r _ [66, 14, 24, 84, 85, 86, 87, 88, 89, 90, 91, 92, 93, 94, 95, 96, 97, 98, 99, 100, 101, 102, 103, 104, 105, 106, 107, 108, 109, 110, 111, 112, 113, 114, 115, 116, 117, 118, 119, 120, 121, 122, 123, 124, 125, 126, 127, 128, 129, 130, 131, 132, 133, 134, 135, 136, 137, 138, 139, 140, 141, 142, 143, 144, 145, 146, 147, 148, 149, 150, 151, 152, 153] rfl (by decide +kernel)
set_option maxRecDepth 20000 in
theorem gX12_operand_X12_isSign : GoodIn wsX12_operand (wsV RX12 247 RX12 yX12_isSign wsX12_isSign) := goodIn_app (goodIn_of _ (by decide +kernel)) ggX12_operand_X12_isSign
set_option maxRecDepth 20000 in
theorem ggX12_operand_X12_opens : GoodIn wsX12_operand wsX12_opens := goodIn_r _ [70, 6, 7, 1, 31, 32, 33, 28, 34, 35, 50, 51, 52, 53, 54, 55, 56, 14, 30, 24, 43, 57, 58, 59, 60, 61, 62, 71, 72, 73, 74, 3, 2, 9, 4, 75, 49, 84, 85, 86, 87, 88, 89, 90, 91, 92, 93, 94, 95, 96, 97, 98, 99, 100, 101, 102, 103, 104, 105, 106, 107, 108, 109, 110, 111, 112, 113, 114, 115, 116, 117, 118, 119, 120, 121, 122, 123, 124, 125, 126, 127, 128, 129, 130, 131, 132, 133, 134, 135, 136, 137, 138, 139, 140, 141, 142, 143, 144, 145, 146, 147, 148, 149, 150, 151, 152, 153] rfl (by decide +kernel)
set_option maxRecDepth 20000 in
theorem gX12_operand_X12_opens : GoodIn wsX12_operand (wsV RX12 324 RX12 yX12_opens wsX12_opens) := goodIn_app (goodIn_of _ (by decide +kernel)) ggX12_operand_X12_opens
set_option maxRecDepth 20000 in
theorem ggX12_operand_X12_add : GoodIn wsX12_operand wsX12_add := goodIn_r _ [79, 80, 81, 82, 83, 84, 85, 86, 87, 88, 89, 90, 91, 92, 93, 94, 95, 96, 97, 98, 99, 100, 101, 102, 103, 104, 105, 106, 107, 108, 109, 110, 111, 112, 113, 114, 115, 116, 117, 118, 119, 120, 121, 122, 123, 124, 125, 126, 127, 128, 129, 130, 131, 132, 133, 134, 135, 136, 137, 138, 139, 140, 141, 142, 143, 144, 145, 146, 147, 148, 149, 150, 151, 152, 153] rfl (by decide +kernel)
set_option maxRecDepth 20000 in
theorem gX12_operand_X12_add : GoodIn wsX12_operand (wsV RX12 308 RX12 yX12_add wsX12_add) := goodIn_app (goodIn_of _ (by decide +kernel)) ggX12_operand_X12_add
def dsX12_operand_0 : List (Nat × Instr × Nat) := [(0, (.aload_n 0, 1)), (1, (.invokevirtual 244, 3)), (4, (.aload_n 0, 1)), (5, (.getfield 36, 3)), (8, (.ifCond .le 5, 3)), (11, (.iconst 1, 1)), (12, (.ireturn, 1)), (13, (.aload_n 0, 1)), (14, (.getfield 128, 3)), (17, (.iconst 1, 1)), (18, (.isub, 1)), (19, (.istore_n 1, 1)), (20, (.aload_n 0, 1)), (21, (.getfield 112, 3)), (24, (.iload_n 1, 1)), (25, (.iaload, 1)), (26, (.invokestatic 314, 3)), (29, (.ifCond .eq 16, 3)), (32, (.aload_n 0, 1)), (33, (.getfield 118, 3)), (36, (.iload_n 1, 1)), (37, (.baload, 1)), (38, (.ifCond .eq 7, 3)), (41, (.iconst 1, 1)), (42, (.goto 4, 3)), (45, (.iconst 0, 1)), (46, (.istore_n 2, 1)), (47, (.iload_n 2, 1)), (48, (.ifCond .eq 62, 3)), (51, (.aload_n 0, 1)), (52, (.ldc2_w 293, 3)), (55, (.invokevirtual 317, 3)), (58, (.ifCond .eq 52, 3)), (61, (.aload_n 0, 1)), (62, (.getfield 131, 3)), (65, (.bipush 7, 2)), (67, (.if_icmp .ne 12, 3)), (70, (.aload_n 0, 1)), (71, (.iconst 5, 1)), (72, (.aload_n 0, 1)), (73, (.getfield 23, 3)), (76, (.invokevirtual 233, 3)), (79, (.aload_n 0, 1)), (80, (.getfield 36, 3)), (83, (.ifCond .le 5, 3)), (86, (.iconst 1, 1)), (87, (.ireturn, 1)), (88, (.aload_n 0, 1)), (89, (.dup, 1)), (90, (.getfield 131, 3)), (93, (.iconst 1, 1)), (94, (.iadd, 1)), (95, (.putfield 131, 3)), (98, (.aload_n 0, 1)), (99, (.bipush 43, 2)), (101, (.invokevirtual 321, 3)), (104, (.aload_n 0, 1)), (105, (.invokevirtual 250, 3)), (108, (.iconst 0, 1)), (109, (.ireturn, 1))]
theorem dsX12_operand_0_ok : (dsX12_operand_0.all fun q => decide (decode cX12_operand q.1 = .ok q.2)) = true := by decide +kernel
theorem dX12_operand_0 : decode cX12_operand 0 = .ok (.aload_n 0, 1) := of_decide_eq_true (List.all_eq_true.mp dsX12_operand_0_ok (0, (.aload_n 0, 1)) (List.mem_of_getElem? (i := 0) rfl))
theorem dX12_operand_1 : decode cX12_operand 1 = .ok (.invokevirtual 244, 3) := of_decide_eq_true (List.all_eq_true.mp dsX12_operand_0_ok (1, (.invokevirtual 244, 3)) (List.mem_of_getElem? (i := 1) rfl))
theorem dX12_operand_4 : decode cX12_operand 4 = .ok (.aload_n 0, 1) := of_decide_eq_true (List.all_eq_true.mp dsX12_operand_0_ok (4, (.aload_n 0, 1)) (List.mem_of_getElem? (i := 2) rfl))
theorem dX12_operand_5 : decode cX12_operand 5 = .ok (.getfield 36, 3) := of_decide_eq_true (List.all_eq_true.mp dsX12_operand_0_ok (5, (.getfield 36, 3)) (List.mem_of_getElem? (i := 3) rfl))
theorem dX12_operand_8 : decode cX12_operand 8 = .ok (.ifCond .le 5, 3) := of_decide_eq_true (List.all_eq_true.mp dsX12_operand_0_ok (8, (.ifCond .le 5, 3)) (List.mem_of_getElem? (i := 4) rfl))
theorem dX12_operand_11 : decode cX12_operand 11 = .ok (.iconst 1, 1) := of_decide_eq_true (List.all_eq_true.mp dsX12_operand_0_ok (11, (.iconst 1, 1)) (List.mem_of_getElem? (i := 5) rfl))
theorem dX12_operand_12 : decode cX12_operand 12 = .ok (.ireturn, 1) := of_decide_eq_true (List.all_eq_true.mp dsX12_operand_0_ok (12, (.ireturn, 1)) (List.mem_of_getElem? (i := 6) rfl))
theorem dX12_operand_13 : decode cX12_operand 13 = .ok (.aload_n 0, 1) := of_decide_eq_true (List.all_eq_true.mp dsX12_operand_0_ok (13, (.aload_n 0, 1)) (List.mem_of_getElem? (i := 7) rfl))
theorem dX12_operand_14 : decode cX12_operand 14 = .ok (.getfield 128, 3) := of_decide_eq_true (List.all_eq_true.mp dsX12_operand_0_ok (14, (.getfield 128, 3)) (List.mem_of_getElem? (i := 8) rfl))
theorem dX12_operand_17 : decode cX12_operand 17 = .ok (.iconst 1, 1) := of_decide_eq_true (List.all_eq_true.mp dsX12_operand_0_ok (17, (.iconst 1, 1)) (List.mem_of_getElem? (i := 9) rfl))
theorem dX12_operand_18 : decode cX12_operand 18 = .ok (.isub, 1) := of_decide_eq_true (List.all_eq_true.mp dsX12_operand_0_ok (18, (.isub, 1)) (List.mem_of_getElem? (i := 10) rfl))
theorem dX12_operand_19 : decode cX12_operand 19 = .ok (.istore_n 1, 1) := of_decide_eq_true (List.all_eq_true.mp dsX12_operand_0_ok (19, (.istore_n 1, 1)) (List.mem_of_getElem? (i := 11) rfl))
theorem dX12_operand_20 : decode cX12_operand 20 = .ok (.aload_n 0, 1) := of_decide_eq_true (List.all_eq_true.mp dsX12_operand_0_ok (20, (.aload_n 0, 1)) (List.mem_of_getElem? (i := 12) rfl))
theorem dX12_operand_21 : decode cX12_operand 21 = .ok (.getfield 112, 3) := of_decide_eq_true (List.all_eq_true.mp dsX12_operand_0_ok (21, (.getfield 112, 3)) (List.mem_of_getElem? (i := 13) rfl))
theorem dX12_operand_24 : decode cX12_operand 24 = .ok (.iload_n 1, 1) := of_decide_eq_true (List.all_eq_true.mp dsX12_operand_0_ok (24, (.iload_n 1, 1)) (List.mem_of_getElem? (i := 14) rfl))
theorem dX12_operand_25 : decode cX12_operand 25 = .ok (.iaload, 1) := of_decide_eq_true (List.all_eq_true.mp dsX12_operand_0_ok (25, (.iaload, 1)) (List.mem_of_getElem? (i := 15) rfl))
theorem dX12_operand_26 : decode cX12_operand 26 = .ok (.invokestatic 314, 3) := of_decide_eq_true (List.all_eq_true.mp dsX12_operand_0_ok (26, (.invokestatic 314, 3)) (List.mem_of_getElem? (i := 16) rfl))
theorem dX12_operand_29 : decode cX12_operand 29 = .ok (.ifCond .eq 16, 3) := of_decide_eq_true (List.all_eq_true.mp dsX12_operand_0_ok (29, (.ifCond .eq 16, 3)) (List.mem_of_getElem? (i := 17) rfl))
theorem dX12_operand_32 : decode cX12_operand 32 = .ok (.aload_n 0, 1) := of_decide_eq_true (List.all_eq_true.mp dsX12_operand_0_ok (32, (.aload_n 0, 1)) (List.mem_of_getElem? (i := 18) rfl))
theorem dX12_operand_33 : decode cX12_operand 33 = .ok (.getfield 118, 3) := of_decide_eq_true (List.all_eq_true.mp dsX12_operand_0_ok (33, (.getfield 118, 3)) (List.mem_of_getElem? (i := 19) rfl))
theorem dX12_operand_36 : decode cX12_operand 36 = .ok (.iload_n 1, 1) := of_decide_eq_true (List.all_eq_true.mp dsX12_operand_0_ok (36, (.iload_n 1, 1)) (List.mem_of_getElem? (i := 20) rfl))
theorem dX12_operand_37 : decode cX12_operand 37 = .ok (.baload, 1) := of_decide_eq_true (List.all_eq_true.mp dsX12_operand_0_ok (37, (.baload, 1)) (List.mem_of_getElem? (i := 21) rfl))
theorem dX12_operand_38 : decode cX12_operand 38 = .ok (.ifCond .eq 7, 3) := of_decide_eq_true (List.all_eq_true.mp dsX12_operand_0_ok (38, (.ifCond .eq 7, 3)) (List.mem_of_getElem? (i := 22) rfl))
theorem dX12_operand_41 : decode cX12_operand 41 = .ok (.iconst 1, 1) := of_decide_eq_true (List.all_eq_true.mp dsX12_operand_0_ok (41, (.iconst 1, 1)) (List.mem_of_getElem? (i := 23) rfl))
theorem dX12_operand_42 : decode cX12_operand 42 = .ok (.goto 4, 3) := of_decide_eq_true (List.all_eq_true.mp dsX12_operand_0_ok (42, (.goto 4, 3)) (List.mem_of_getElem? (i := 24) rfl))
theorem dX12_operand_45 : decode cX12_operand 45 = .ok (.iconst 0, 1) := of_decide_eq_true (List.all_eq_true.mp dsX12_operand_0_ok (45, (.iconst 0, 1)) (List.mem_of_getElem? (i := 25) rfl))
theorem dX12_operand_46 : decode cX12_operand 46 = .ok (.istore_n 2, 1) := of_decide_eq_true (List.all_eq_true.mp dsX12_operand_0_ok (46, (.istore_n 2, 1)) (List.mem_of_getElem? (i := 26) rfl))
theorem dX12_operand_47 : decode cX12_operand 47 = .ok (.iload_n 2, 1) := of_decide_eq_true (List.all_eq_true.mp dsX12_operand_0_ok (47, (.iload_n 2, 1)) (List.mem_of_getElem? (i := 27) rfl))
theorem dX12_operand_48 : decode cX12_operand 48 = .ok (.ifCond .eq 62, 3) := of_decide_eq_true (List.all_eq_true.mp dsX12_operand_0_ok (48, (.ifCond .eq 62, 3)) (List.mem_of_getElem? (i := 28) rfl))
theorem dX12_operand_51 : decode cX12_operand 51 = .ok (.aload_n 0, 1) := of_decide_eq_true (List.all_eq_true.mp dsX12_operand_0_ok (51, (.aload_n 0, 1)) (List.mem_of_getElem? (i := 29) rfl))
theorem dX12_operand_52 : decode cX12_operand 52 = .ok (.ldc2_w 293, 3) := of_decide_eq_true (List.all_eq_true.mp dsX12_operand_0_ok (52, (.ldc2_w 293, 3)) (List.mem_of_getElem? (i := 30) rfl))
theorem dX12_operand_55 : decode cX12_operand 55 = .ok (.invokevirtual 317, 3) := of_decide_eq_true (List.all_eq_true.mp dsX12_operand_0_ok (55, (.invokevirtual 317, 3)) (List.mem_of_getElem? (i := 31) rfl))
theorem dX12_operand_58 : decode cX12_operand 58 = .ok (.ifCond .eq 52, 3) := of_decide_eq_true (List.all_eq_true.mp dsX12_operand_0_ok (58, (.ifCond .eq 52, 3)) (List.mem_of_getElem? (i := 32) rfl))
theorem dX12_operand_61 : decode cX12_operand 61 = .ok (.aload_n 0, 1) := of_decide_eq_true (List.all_eq_true.mp dsX12_operand_0_ok (61, (.aload_n 0, 1)) (List.mem_of_getElem? (i := 33) rfl))
theorem dX12_operand_62 : decode cX12_operand 62 = .ok (.getfield 131, 3) := of_decide_eq_true (List.all_eq_true.mp dsX12_operand_0_ok (62, (.getfield 131, 3)) (List.mem_of_getElem? (i := 34) rfl))
theorem dX12_operand_65 : decode cX12_operand 65 = .ok (.bipush 7, 2) := of_decide_eq_true (List.all_eq_true.mp dsX12_operand_0_ok (65, (.bipush 7, 2)) (List.mem_of_getElem? (i := 35) rfl))
theorem dX12_operand_67 : decode cX12_operand 67 = .ok (.if_icmp .ne 12, 3) := of_decide_eq_true (List.all_eq_true.mp dsX12_operand_0_ok (67, (.if_icmp .ne 12, 3)) (List.mem_of_getElem? (i := 36) rfl))
theorem dX12_operand_70 : decode cX12_operand 70 = .ok (.aload_n 0, 1) := of_decide_eq_true (List.all_eq_true.mp dsX12_operand_0_ok (70, (.aload_n 0, 1)) (List.mem_of_getElem? (i := 37) rfl))
theorem dX12_operand_71 : decode cX12_operand 71 = .ok (.iconst 5, 1) := of_decide_eq_true (List.all_eq_true.mp dsX12_operand_0_ok (71, (.iconst 5, 1)) (List.mem_of_getElem? (i := 38) rfl))
theorem dX12_operand_72 : decode cX12_operand 72 = .ok (.aload_n 0, 1) := of_decide_eq_true (List.all_eq_true.mp dsX12_operand_0_ok (72, (.aload_n 0, 1)) (List.mem_of_getElem? (i := 39) rfl))
theorem dX12_operand_73 : decode cX12_operand 73 = .ok (.getfield 23, 3) := of_decide_eq_true (List.all_eq_true.mp dsX12_operand_0_ok (73, (.getfield 23, 3)) (List.mem_of_getElem? (i := 40) rfl))
theorem dX12_operand_76 : decode cX12_operand 76 = .ok (.invokevirtual 233, 3) := of_decide_eq_true (List.all_eq_true.mp dsX12_operand_0_ok (76, (.invokevirtual 233, 3)) (List.mem_of_getElem? (i := 41) rfl))
theorem dX12_operand_79 : decode cX12_operand 79 = .ok (.aload_n 0, 1) := of_decide_eq_true (List.all_eq_true.mp dsX12_operand_0_ok (79, (.aload_n 0, 1)) (List.mem_of_getElem? (i := 42) rfl))
theorem dX12_operand_80 : decode cX12_operand 80 = .ok (.getfield 36, 3) := of_decide_eq_true (List.all_eq_true.mp dsX12_operand_0_ok (80, (.getfield 36, 3)) (List.mem_of_getElem? (i := 43) rfl))
theorem dX12_operand_83 : decode cX12_operand 83 = .ok (.ifCond .le 5, 3) := of_decide_eq_true (List.all_eq_true.mp dsX12_operand_0_ok (83, (.ifCond .le 5, 3)) (List.mem_of_getElem? (i := 44) rfl))
theorem dX12_operand_86 : decode cX12_operand 86 = .ok (.iconst 1, 1) := of_decide_eq_true (List.all_eq_true.mp dsX12_operand_0_ok (86, (.iconst 1, 1)) (List.mem_of_getElem? (i := 45) rfl))
theorem dX12_operand_87 : decode cX12_operand 87 = .ok (.ireturn, 1) := of_decide_eq_true (List.all_eq_true.mp dsX12_operand_0_ok (87, (.ireturn, 1)) (List.mem_of_getElem? (i := 46) rfl))
theorem dX12_operand_88 : decode cX12_operand 88 = .ok (.aload_n 0, 1) := of_decide_eq_true (List.all_eq_true.mp dsX12_operand_0_ok (88, (.aload_n 0, 1)) (List.mem_of_getElem? (i := 47) rfl))
theorem dX12_operand_89 : decode cX12_operand 89 = .ok (.dup, 1) := of_decide_eq_true (List.all_eq_true.mp dsX12_operand_0_ok (89, (.dup, 1)) (List.mem_of_getElem? (i := 48) rfl))
theorem dX12_operand_90 : decode cX12_operand 90 = .ok (.getfield 131, 3) := of_decide_eq_true (List.all_eq_true.mp dsX12_operand_0_ok (90, (.getfield 131, 3)) (List.mem_of_getElem? (i := 49) rfl))
theorem dX12_operand_93 : decode cX12_operand 93 = .ok (.iconst 1, 1) := of_decide_eq_true (List.all_eq_true.mp dsX12_operand_0_ok (93, (.iconst 1, 1)) (List.mem_of_getElem? (i := 50) rfl))
theorem dX12_operand_94 : decode cX12_operand 94 = .ok (.iadd, 1) := of_decide_eq_true (List.all_eq_true.mp dsX12_operand_0_ok (94, (.iadd, 1)) (List.mem_of_getElem? (i := 51) rfl))
theorem dX12_operand_95 : decode cX12_operand 95 = .ok (.putfield 131, 3) := of_decide_eq_true (List.all_eq_true.mp dsX12_operand_0_ok (95, (.putfield 131, 3)) (List.mem_of_getElem? (i := 52) rfl))
theorem dX12_operand_98 : decode cX12_operand 98 = .ok (.aload_n 0, 1) := of_decide_eq_true (List.all_eq_true.mp dsX12_operand_0_ok (98, (.aload_n 0, 1)) (List.mem_of_getElem? (i := 53) rfl))
theorem dX12_operand_99 : decode cX12_operand 99 = .ok (.bipush 43, 2) := of_decide_eq_true (List.all_eq_true.mp dsX12_operand_0_ok (99, (.bipush 43, 2)) (List.mem_of_getElem? (i := 54) rfl))
theorem dX12_operand_101 : decode cX12_operand 101 = .ok (.invokevirtual 321, 3) := of_decide_eq_true (List.all_eq_true.mp dsX12_operand_0_ok (101, (.invokevirtual 321, 3)) (List.mem_of_getElem? (i := 55) rfl))
theorem dX12_operand_104 : decode cX12_operand 104 = .ok (.aload_n 0, 1) := of_decide_eq_true (List.all_eq_true.mp dsX12_operand_0_ok (104, (.aload_n 0, 1)) (List.mem_of_getElem? (i := 56) rfl))
theorem dX12_operand_105 : decode cX12_operand 105 = .ok (.invokevirtual 250, 3) := of_decide_eq_true (List.all_eq_true.mp dsX12_operand_0_ok (105, (.invokevirtual 250, 3)) (List.mem_of_getElem? (i := 57) rfl))
theorem dX12_operand_108 : decode cX12_operand 108 = .ok (.iconst 0, 1) := of_decide_eq_true (List.all_eq_true.mp dsX12_operand_0_ok (108, (.iconst 0, 1)) (List.mem_of_getElem? (i := 58) rfl))
theorem dX12_operand_109 : decode cX12_operand 109 = .ok (.ireturn, 1) := of_decide_eq_true (List.all_eq_true.mp dsX12_operand_0_ok (109, (.ireturn, 1)) (List.mem_of_getElem? (i := 59) rfl))
def dsX12_operand_1 : List (Nat × Instr × Nat) := [(110, (.aload_n 0, 1)), (111, (.getfield 118, 3)), (114, (.iload_n 1, 1)), (115, (.iconst 0, 1)), (116, (.bastore, 1)), (117, (.iload_n 2, 1)), (118, (.ifCond .eq 19, 3)), (121, (.aload_n 0, 1)), (122, (.bipush 91, 2)), (124, (.invokevirtual 247, 3)), (127, (.ifCond .eq 10, 3)), (130, (.aload_n 0, 1)), (131, (.iconst 5, 1)), (132, (.invokevirtual 324, 3)), (135, (.iconst 0, 1)), (136, (.ireturn, 1)), (137, (.iload_n 2, 1)), (138, (.ifCond .eq 33, 3)), (141, (.aload_n 0, 1)), (142, (.ldc2_w 295, 3)), (145, (.invokevirtual 317, 3)), (148, (.ifCond .eq 23, 3)), (151, (.aload_n 0, 1)), (152, (.bipush 30, 2)), (154, (.iconst 0, 1)), (155, (.invokevirtual 308, 3)), (158, (.aload_n 0, 1)), (159, (.getfield 115, 3)), (162, (.iload_n 1, 1)), (163, (.iconst 2, 1)), (164, (.iastore, 1)), (165, (.aload_n 0, 1)), (166, (.invokevirtual 250, 3)), (169, (.iconst 1, 1)), (170, (.ireturn, 1)), (171, (.aload_n 0, 1)), (172, (.bipush 40, 2)), (174, (.invokevirtual 247, 3)), (177, (.ifCond .eq 10, 3)), (180, (.aload_n 0, 1)), (181, (.iconst 2, 1)), (182, (.invokevirtual 324, 3)), (185, (.iconst 0, 1)), (186, (.ireturn, 1)), (187, (.aload_n 0, 1)), (188, (.ldc2_w 297, 3)), (191, (.invokevirtual 317, 3)), (194, (.ifCond .ne 23, 3)), (197, (.aload_n 0, 1)), (198, (.ldc2_w 299, 3)), (201, (.invokevirtual 317, 3)), (204, (.ifCond .ne 13, 3)), (207, (.aload_n 0, 1)), (208, (.ldc2_w 287, 3)), (211, (.invokevirtual 317, 3)), (214, (.ifCond .eq 99, 3)), (217, (.aload_n 0, 1)), (218, (.ldc2_w 297, 3)), (221, (.invokevirtual 317, 3)), (224, (.ifCond .eq 8, 3))]
theorem dsX12_operand_1_ok : (dsX12_operand_1.all fun q => decide (decode cX12_operand q.1 = .ok q.2)) = true := by decide +kernel
theorem dX12_operand_110 : decode cX12_operand 110 = .ok (.aload_n 0, 1) := of_decide_eq_true (List.all_eq_true.mp dsX12_operand_1_ok (110, (.aload_n 0, 1)) (List.mem_of_getElem? (i := 0) rfl))
theorem dX12_operand_111 : decode cX12_operand 111 = .ok (.getfield 118, 3) := of_decide_eq_true (List.all_eq_true.mp dsX12_operand_1_ok (111, (.getfield 118, 3)) (List.mem_of_getElem? (i := 1) rfl))
theorem dX12_operand_114 : decode cX12_operand 114 = .ok (.iload_n 1, 1) := of_decide_eq_true (List.all_eq_true.mp dsX12_operand_1_ok (114, (.iload_n 1, 1)) (List.mem_of_getElem? (i := 2) rfl))
theorem dX12_operand_115 : decode cX12_operand 115 = .ok (.iconst 0, 1) := of_decide_eq_true (List.all_eq_true.mp dsX12_operand_1_ok (115, (.iconst 0, 1)) (List.mem_of_getElem? (i := 3) rfl))
theorem dX12_operand_116 : decode cX12_operand 116 = .ok (.bastore, 1) := of_decide_eq_true (List.all_eq_true.mp dsX12_operand_1_ok (116, (.bastore, 1)) (List.mem_of_getElem? (i := 4) rfl))
theorem dX12_operand_117 : decode cX12_operand 117 = .ok (.iload_n 2, 1) := of_decide_eq_true (List.all_eq_true.mp dsX12_operand_1_ok (117, (.iload_n 2, 1)) (List.mem_of_getElem? (i := 5) rfl))
theorem dX12_operand_118 : decode cX12_operand 118 = .ok (.ifCond .eq 19, 3) := of_decide_eq_true (List.all_eq_true.mp dsX12_operand_1_ok (118, (.ifCond .eq 19, 3)) (List.mem_of_getElem? (i := 6) rfl))
theorem dX12_operand_121 : decode cX12_operand 121 = .ok (.aload_n 0, 1) := of_decide_eq_true (List.all_eq_true.mp dsX12_operand_1_ok (121, (.aload_n 0, 1)) (List.mem_of_getElem? (i := 7) rfl))
theorem dX12_operand_122 : decode cX12_operand 122 = .ok (.bipush 91, 2) := of_decide_eq_true (List.all_eq_true.mp dsX12_operand_1_ok (122, (.bipush 91, 2)) (List.mem_of_getElem? (i := 8) rfl))
theorem dX12_operand_124 : decode cX12_operand 124 = .ok (.invokevirtual 247, 3) := of_decide_eq_true (List.all_eq_true.mp dsX12_operand_1_ok (124, (.invokevirtual 247, 3)) (List.mem_of_getElem? (i := 9) rfl))
theorem dX12_operand_127 : decode cX12_operand 127 = .ok (.ifCond .eq 10, 3) := of_decide_eq_true (List.all_eq_true.mp dsX12_operand_1_ok (127, (.ifCond .eq 10, 3)) (List.mem_of_getElem? (i := 10) rfl))
theorem dX12_operand_130 : decode cX12_operand 130 = .ok (.aload_n 0, 1) := of_decide_eq_true (List.all_eq_true.mp dsX12_operand_1_ok (130, (.aload_n 0, 1)) (List.mem_of_getElem? (i := 11) rfl))
theorem dX12_operand_131 : decode cX12_operand 131 = .ok (.iconst 5, 1) := of_decide_eq_true (List.all_eq_true.mp dsX12_operand_1_ok (131, (.iconst 5, 1)) (List.mem_of_getElem? (i := 12) rfl))
theorem dX12_operand_132 : decode cX12_operand 132 = .ok (.invokevirtual 324, 3) := of_decide_eq_true (List.all_eq_true.mp dsX12_operand_1_ok (132, (.invokevirtual 324, 3)) (List.mem_of_getElem? (i := 13) rfl))
theorem dX12_operand_135 : decode cX12_operand 135 = .ok (.iconst 0, 1) := of_decide_eq_true (List.all_eq_true.mp dsX12_operand_1_ok (135, (.iconst 0, 1)) (List.mem_of_getElem? (i := 14) rfl))
theorem dX12_operand_136 : decode cX12_operand 136 = .ok (.ireturn, 1) := of_decide_eq_true (List.all_eq_true.mp dsX12_operand_1_ok (136, (.ireturn, 1)) (List.mem_of_getElem? (i := 15) rfl))
theorem dX12_operand_137 : decode cX12_operand 137 = .ok (.iload_n 2, 1) := of_decide_eq_true (List.all_eq_true.mp dsX12_operand_1_ok (137, (.iload_n 2, 1)) (List.mem_of_getElem? (i := 16) rfl))
theorem dX12_operand_138 : decode cX12_operand 138 = .ok (.ifCond .eq 33, 3) := of_decide_eq_true (List.all_eq_true.mp dsX12_operand_1_ok (138, (.ifCond .eq 33, 3)) (List.mem_of_getElem? (i := 17) rfl))
theorem dX12_operand_141 : decode cX12_operand 141 = .ok (.aload_n 0, 1) := of_decide_eq_true (List.all_eq_true.mp dsX12_operand_1_ok (141, (.aload_n 0, 1)) (List.mem_of_getElem? (i := 18) rfl))
theorem dX12_operand_142 : decode cX12_operand 142 = .ok (.ldc2_w 295, 3) := of_decide_eq_true (List.all_eq_true.mp dsX12_operand_1_ok (142, (.ldc2_w 295, 3)) (List.mem_of_getElem? (i := 19) rfl))
theorem dX12_operand_145 : decode cX12_operand 145 = .ok (.invokevirtual 317, 3) := of_decide_eq_true (List.all_eq_true.mp dsX12_operand_1_ok (145, (.invokevirtual 317, 3)) (List.mem_of_getElem? (i := 20) rfl))
theorem dX12_operand_148 : decode cX12_operand 148 = .ok (.ifCond .eq 23, 3) := of_decide_eq_true (List.all_eq_true.mp dsX12_operand_1_ok (148, (.ifCond .eq 23, 3)) (List.mem_of_getElem? (i := 21) rfl))
theorem dX12_operand_151 : decode cX12_operand 151 = .ok (.aload_n 0, 1) := of_decide_eq_true (List.all_eq_true.mp dsX12_operand_1_ok (151, (.aload_n 0, 1)) (List.mem_of_getElem? (i := 22) rfl))
theorem dX12_operand_152 : decode cX12_operand 152 = .ok (.bipush 30, 2) := of_decide_eq_true (List.all_eq_true.mp dsX12_operand_1_ok (152, (.bipush 30, 2)) (List.mem_of_getElem? (i := 23) rfl))
theorem dX12_operand_154 : decode cX12_operand 154 = .ok (.iconst 0, 1) := of_decide_eq_true (List.all_eq_true.mp dsX12_operand_1_ok (154, (.iconst 0, 1)) (List.mem_of_getElem? (i := 24) rfl))
theorem dX12_operand_155 : decode cX12_operand 155 = .ok (.invokevirtual 308, 3) := of_decide_eq_true (List.all_eq_true.mp dsX12_operand_1_ok (155, (.invokevirtual 308, 3)) (List.mem_of_getElem? (i := 25) rfl))
theorem dX12_operand_158 : decode cX12_operand 158 = .ok (.aload_n 0, 1) := of_decide_eq_true (List.all_eq_true.mp dsX12_operand_1_ok (158, (.aload_n 0, 1)) (List.mem_of_getElem? (i := 26) rfl))
theorem dX12_operand_159 : decode cX12_operand 159 = .ok (.getfield 115, 3) := of_decide_eq_true (List.all_eq_true.mp dsX12_operand_1_ok (159, (.getfield 115, 3)) (List.mem_of_getElem? (i := 27) rfl))
theorem dX12_operand_162 : decode cX12_operand 162 = .ok (.iload_n 1, 1) := of_decide_eq_true (List.all_eq_true.mp dsX12_operand_1_ok (162, (.iload_n 1, 1)) (List.mem_of_getElem? (i := 28) rfl))
theorem dX12_operand_163 : decode cX12_operand 163 = .ok (.iconst 2, 1) := of_decide_eq_true (List.all_eq_true.mp dsX12_operand_1_ok (163, (.iconst 2, 1)) (List.mem_of_getElem? (i := 29) rfl))
theorem dX12_operand_164 : decode cX12_operand 164 = .ok (.iastore, 1) := of_decide_eq_true (List.all_eq_true.mp dsX12_operand_1_ok (164, (.iastore, 1)) (List.mem_of_getElem? (i := 30) rfl))
theorem dX12_operand_165 : decode cX12_operand 165 = .ok (.aload_n 0, 1) := of_decide_eq_true (List.all_eq_true.mp dsX12_operand_1_ok (165, (.aload_n 0, 1)) (List.mem_of_getElem? (i := 31) rfl))
theorem dX12_operand_166 : decode cX12_operand 166 = .ok (.invokevirtual 250, 3) := of_decide_eq_true (List.all_eq_true.mp dsX12_operand_1_ok (166, (.invokevirtual 250, 3)) (List.mem_of_getElem? (i := 32) rfl))
theorem dX12_operand_169 : decode cX12_operand 169 = .ok (.iconst 1, 1) := of_decide_eq_true (List.all_eq_true.mp dsX12_operand_1_ok (169, (.iconst 1, 1)) (List.mem_of_getElem? (i := 33) rfl))
theorem dX12_operand_170 : decode cX12_operand 170 = .ok (.ireturn, 1) := of_decide_eq_true (List.all_eq_true.mp dsX12_operand_1_ok (170, (.ireturn, 1)) (List.mem_of_getElem? (i := 34) rfl))
theorem dX12_operand_171 : decode cX12_operand 171 = .ok (.aload_n 0, 1) := of_decide_eq_true (List.all_eq_true.mp dsX12_operand_1_ok (171, (.aload_n 0, 1)) (List.mem_of_getElem? (i := 35) rfl))
theorem dX12_operand_172 : decode cX12_operand 172 = .ok (.bipush 40, 2) := of_decide_eq_true (List.all_eq_true.mp dsX12_operand_1_ok (172, (.bipush 40, 2)) (List.mem_of_getElem? (i := 36) rfl))
theorem dX12_operand_174 : decode cX12_operand 174 = .ok (.invokevirtual 247, 3) := of_decide_eq_true (List.all_eq_true.mp dsX12_operand_1_ok (174, (.invokevirtual 247, 3)) (List.mem_of_getElem? (i := 37) rfl))
theorem dX12_operand_177 : decode cX12_operand 177 = .ok (.ifCond .eq 10, 3) := of_decide_eq_true (List.all_eq_true.mp dsX12_operand_1_ok (177, (.ifCond .eq 10, 3)) (List.mem_of_getElem? (i := 38) rfl))
theorem dX12_operand_180 : decode cX12_operand 180 = .ok (.aload_n 0, 1) := of_decide_eq_true (List.all_eq_true.mp dsX12_operand_1_ok (180, (.aload_n 0, 1)) (List.mem_of_getElem? (i := 39) rfl))
theorem dX12_operand_181 : decode cX12_operand 181 = .ok (.iconst 2, 1) := of_decide_eq_true (List.all_eq_true.mp dsX12_operand_1_ok (181, (.iconst 2, 1)) (List.mem_of_getElem? (i := 40) rfl))
theorem dX12_operand_182 : decode cX12_operand 182 = .ok (.invokevirtual 324, 3) := of_decide_eq_true (List.all_eq_true.mp dsX12_operand_1_ok (182, (.invokevirtual 324, 3)) (List.mem_of_getElem? (i := 41) rfl))
theorem dX12_operand_185 : decode cX12_operand 185 = .ok (.iconst 0, 1) := of_decide_eq_true (List.all_eq_true.mp dsX12_operand_1_ok (185, (.iconst 0, 1)) (List.mem_of_getElem? (i := 42) rfl))
theorem dX12_operand_186 : decode cX12_operand 186 = .ok (.ireturn, 1) := of_decide_eq_true (List.all_eq_true.mp dsX12_operand_1_ok (186, (.ireturn, 1)) (List.mem_of_getElem? (i := 43) rfl))
theorem dX12_operand_187 : decode cX12_operand 187 = .ok (.aload_n 0, 1) := of_decide_eq_true (List.all_eq_true.mp dsX12_operand_1_ok (187, (.aload_n 0, 1)) (List.mem_of_getElem? (i := 44) rfl))
theorem dX12_operand_188 : decode cX12_operand 188 = .ok (.ldc2_w 297, 3) := of_decide_eq_true (List.all_eq_true.mp dsX12_operand_1_ok (188, (.ldc2_w 297, 3)) (List.mem_of_getElem? (i := 45) rfl))
theorem dX12_operand_191 : decode cX12_operand 191 = .ok (.invokevirtual 317, 3) := of_decide_eq_true (List.all_eq_true.mp dsX12_operand_1_ok (191, (.invokevirtual 317, 3)) (List.mem_of_getElem? (i := 46) rfl))
theorem dX12_operand_194 : decode cX12_operand 194 = .ok (.ifCond .ne 23, 3) := of_decide_eq_true (List.all_eq_true.mp dsX12_operand_1_ok (194, (.ifCond .ne 23, 3)) (List.mem_of_getElem? (i := 47) rfl))
theorem dX12_operand_197 : decode cX12_operand 197 = .ok (.aload_n 0, 1) := of_decide_eq_true (List.all_eq_true.mp dsX12_operand_1_ok (197, (.aload_n 0, 1)) (List.mem_of_getElem? (i := 48) rfl))
theorem dX12_operand_198 : decode cX12_operand 198 = .ok (.ldc2_w 299, 3) := of_decide_eq_true (List.all_eq_true.mp dsX12_operand_1_ok (198, (.ldc2_w 299, 3)) (List.mem_of_getElem? (i := 49) rfl))
theorem dX12_operand_201 : decode cX12_operand 201 = .ok (.invokevirtual 317, 3) := of_decide_eq_true (List.all_eq_true.mp dsX12_operand_1_ok (201, (.invokevirtual 317, 3)) (List.mem_of_getElem? (i := 50) rfl))
theorem dX12_operand_204 : decode cX12_operand 204 = .ok (.ifCond .ne 13, 3) := of_decide_eq_true (List.all_eq_true.mp dsX12_operand_1_ok (204, (.ifCond .ne 13, 3)) (List.mem_of_getElem? (i := 51) rfl))
theorem dX12_operand_207 : decode cX12_operand 207 = .ok (.aload_n 0, 1) := of_decide_eq_true (List.all_eq_true.mp dsX12_operand_1_ok (207, (.aload_n 0, 1)) (List.mem_of_getElem? (i := 52) rfl))
theorem dX12_operand_208 : decode cX12_operand 208 = .ok (.ldc2_w 287, 3) := of_decide_eq_true (List.all_eq_true.mp dsX12_operand_1_ok (208, (.ldc2_w 287, 3)) (List.mem_of_getElem? (i := 53) rfl))
theorem dX12_operand_211 : decode cX12_operand 211 = .ok (.invokevirtual 317, 3) := of_decide_eq_true (List.all_eq_true.mp dsX12_operand_1_ok (211, (.invokevirtual 317, 3)) (List.mem_of_getElem? (i := 54) rfl))
theorem dX12_operand_214 : decode cX12_operand 214 = .ok (.ifCond .eq 99, 3) := of_decide_eq_true (List.all_eq_true.mp dsX12_operand_1_ok (214, (.ifCond .eq 99, 3)) (List.mem_of_getElem? (i := 55) rfl))
theorem dX12_operand_217 : decode cX12_operand 217 = .ok (.aload_n 0, 1) := of_decide_eq_true (List.all_eq_true.mp dsX12_operand_1_ok (217, (.aload_n 0, 1)) (List.mem_of_getElem? (i := 56) rfl))
theorem dX12_operand_218 : decode cX12_operand 218 = .ok (.ldc2_w 297, 3) := of_decide_eq_true (List.all_eq_true.mp dsX12_operand_1_ok (218, (.ldc2_w 297, 3)) (List.mem_of_getElem? (i := 57) rfl))
theorem dX12_operand_221 : decode cX12_operand 221 = .ok (.invokevirtual 317, 3) := of_decide_eq_true (List.all_eq_true.mp dsX12_operand_1_ok (221, (.invokevirtual 317, 3)) (List.mem_of_getElem? (i := 58) rfl))
theorem dX12_operand_224 : decode cX12_operand 224 = .ok (.ifCond .eq 8, 3) := of_decide_eq_true (List.all_eq_true.mp dsX12_operand_1_ok (224, (.ifCond .eq 8, 3)) (List.mem_of_getElem? (i := 59) rfl))
def dsX12_operand_2 : List (Nat × Instr × Nat) := [(227, (.bipush 36, 2)), (229, (.goto 20, 3)), (232, (.aload_n 0, 1)), (233, (.ldc2_w 299, 3)), (236, (.invokevirtual 317, 3)), (239, (.ifCond .eq 8, 3)), (242, (.bipush 37, 2)), (244, (.goto 5, 3)), (247, (.bipush 44, 2)), (249, (.istore_n 3, 1)), (250, (.aload_n 0, 1)), (251, (.invokevirtual 250, 3)), (254, (.aload_n 0, 1)), (255, (.invokevirtual 244, 3)), (258, (.aload_n 0, 1)), (259, (.bipush 40, 2)), (261, (.invokevirtual 247, 3)), (264, (.ifCond .ne 12, 3)), (267, (.aload_n 0, 1)), (268, (.iconst 1, 1)), (269, (.aload_n 0, 1)), (270, (.getfield 23, 3)), (273, (.invokevirtual 233, 3)), (276, (.aload_n 0, 1)), (277, (.iload_n 3, 1)), (278, (.bipush 44, 2)), (280, (.if_icmp .ne 8, 3)), (283, (.bipush 6, 2)), (285, (.goto 4, 3)), (288, (.iconst 3, 1)), (289, (.invokevirtual 324, 3)), (292, (.aload_n 0, 1)), (293, (.getfield 36, 3)), (296, (.ifCond .ne 15, 3)), (299, (.aload_n 0, 1)), (300, (.getfield 122, 3)), (303, (.aload_n 0, 1)), (304, (.getfield 128, 3)), (307, (.iconst 1, 1)), (308, (.isub, 1)), (309, (.iload_n 3, 1)), (310, (.iastore, 1)), (311, (.iconst 0, 1)), (312, (.ireturn, 1)), (313, (.aload_n 0, 1)), (314, (.getfield 20, 3)), (317, (.iconst 2, 1)), (318, (.if_icmp .ne 7, 3)), (321, (.iconst 0, 1)), (322, (.goto 119, 3)), (325, (.aload_n 0, 1)), (326, (.ldc2_w 279, 3)), (329, (.invokevirtual 317, 3)), (332, (.ifCond .eq 7, 3)), (335, (.iconst 1, 1)), (336, (.goto 105, 3)), (339, (.aload_n 0, 1)), (340, (.ldc2_w 257, 3)), (343, (.invokevirtual 317, 3)), (346, (.ifCond .eq 7, 3))]
theorem dsX12_operand_2_ok : (dsX12_operand_2.all fun q => decide (decode cX12_operand q.1 = .ok q.2)) = true := by decide +kernel
theorem dX12_operand_227 : decode cX12_operand 227 = .ok (.bipush 36, 2) := of_decide_eq_true (List.all_eq_true.mp dsX12_operand_2_ok (227, (.bipush 36, 2)) (List.mem_of_getElem? (i := 0) rfl))
theorem dX12_operand_229 : decode cX12_operand 229 = .ok (.goto 20, 3) := of_decide_eq_true (List.all_eq_true.mp dsX12_operand_2_ok (229, (.goto 20, 3)) (List.mem_of_getElem? (i := 1) rfl))
theorem dX12_operand_232 : decode cX12_operand 232 = .ok (.aload_n 0, 1) := of_decide_eq_true (List.all_eq_true.mp dsX12_operand_2_ok (232, (.aload_n 0, 1)) (List.mem_of_getElem? (i := 2) rfl))
theorem dX12_operand_233 : decode cX12_operand 233 = .ok (.ldc2_w 299, 3) := of_decide_eq_true (List.all_eq_true.mp dsX12_operand_2_ok (233, (.ldc2_w 299, 3)) (List.mem_of_getElem? (i := 3) rfl))
theorem dX12_operand_236 : decode cX12_operand 236 = .ok (.invokevirtual 317, 3) := of_decide_eq_true (List.all_eq_true.mp dsX12_operand_2_ok (236, (.invokevirtual 317, 3)) (List.mem_of_getElem? (i := 4) rfl))
theorem dX12_operand_239 : decode cX12_operand 239 = .ok (.ifCond .eq 8, 3) := of_decide_eq_true (List.all_eq_true.mp dsX12_operand_2_ok (239, (.ifCond .eq 8, 3)) (List.mem_of_getElem? (i := 5) rfl))
theorem dX12_operand_242 : decode cX12_operand 242 = .ok (.bipush 37, 2) := of_decide_eq_true (List.all_eq_true.mp dsX12_operand_2_ok (242, (.bipush 37, 2)) (List.mem_of_getElem? (i := 6) rfl))
theorem dX12_operand_244 : decode cX12_operand 244 = .ok (.goto 5, 3) := of_decide_eq_true (List.all_eq_true.mp dsX12_operand_2_ok (244, (.goto 5, 3)) (List.mem_of_getElem? (i := 7) rfl))
theorem dX12_operand_247 : decode cX12_operand 247 = .ok (.bipush 44, 2) := of_decide_eq_true (List.all_eq_true.mp dsX12_operand_2_ok (247, (.bipush 44, 2)) (List.mem_of_getElem? (i := 8) rfl))
theorem dX12_operand_249 : decode cX12_operand 249 = .ok (.istore_n 3, 1) := of_decide_eq_true (List.all_eq_true.mp dsX12_operand_2_ok (249, (.istore_n 3, 1)) (List.mem_of_getElem? (i := 9) rfl))
theorem dX12_operand_250 : decode cX12_operand 250 = .ok (.aload_n 0, 1) := of_decide_eq_true (List.all_eq_true.mp dsX12_operand_2_ok (250, (.aload_n 0, 1)) (List.mem_of_getElem? (i := 10) rfl))
theorem dX12_operand_251 : decode cX12_operand 251 = .ok (.invokevirtual 250, 3) := of_decide_eq_true (List.all_eq_true.mp dsX12_operand_2_ok (251, (.invokevirtual 250, 3)) (List.mem_of_getElem? (i := 11) rfl))
theorem dX12_operand_254 : decode cX12_operand 254 = .ok (.aload_n 0, 1) := of_decide_eq_true (List.all_eq_true.mp dsX12_operand_2_ok (254, (.aload_n 0, 1)) (List.mem_of_getElem? (i := 12) rfl))
theorem dX12_operand_255 : decode cX12_operand 255 = .ok (.invokevirtual 244, 3) := of_decide_eq_true (List.all_eq_true.mp dsX12_operand_2_ok (255, (.invokevirtual 244, 3)) (List.mem_of_getElem? (i := 13) rfl))
theorem dX12_operand_258 : decode cX12_operand 258 = .ok (.aload_n 0, 1) := of_decide_eq_true (List.all_eq_true.mp dsX12_operand_2_ok (258, (.aload_n 0, 1)) (List.mem_of_getElem? (i := 14) rfl))
theorem dX12_operand_259 : decode cX12_operand 259 = .ok (.bipush 40, 2) := of_decide_eq_true (List.all_eq_true.mp dsX12_operand_2_ok (259, (.bipush 40, 2)) (List.mem_of_getElem? (i := 15) rfl))
theorem dX12_operand_261 : decode cX12_operand 261 = .ok (.invokevirtual 247, 3) := of_decide_eq_true (List.all_eq_true.mp dsX12_operand_2_ok (261, (.invokevirtual 247, 3)) (List.mem_of_getElem? (i := 16) rfl))
theorem dX12_operand_264 : decode cX12_operand 264 = .ok (.ifCond .ne 12, 3) := of_decide_eq_true (List.all_eq_true.mp dsX12_operand_2_ok (264, (.ifCond .ne 12, 3)) (List.mem_of_getElem? (i := 17) rfl))
theorem dX12_operand_267 : decode cX12_operand 267 = .ok (.aload_n 0, 1) := of_decide_eq_true (List.all_eq_true.mp dsX12_operand_2_ok (267, (.aload_n 0, 1)) (List.mem_of_getElem? (i := 18) rfl))
theorem dX12_operand_268 : decode cX12_operand 268 = .ok (.iconst 1, 1) := of_decide_eq_true (List.all_eq_true.mp dsX12_operand_2_ok (268, (.iconst 1, 1)) (List.mem_of_getElem? (i := 19) rfl))
theorem dX12_operand_269 : decode cX12_operand 269 = .ok (.aload_n 0, 1) := of_decide_eq_true (List.all_eq_true.mp dsX12_operand_2_ok (269, (.aload_n 0, 1)) (List.mem_of_getElem? (i := 20) rfl))
theorem dX12_operand_270 : decode cX12_operand 270 = .ok (.getfield 23, 3) := of_decide_eq_true (List.all_eq_true.mp dsX12_operand_2_ok (270, (.getfield 23, 3)) (List.mem_of_getElem? (i := 21) rfl))
theorem dX12_operand_273 : decode cX12_operand 273 = .ok (.invokevirtual 233, 3) := of_decide_eq_true (List.all_eq_true.mp dsX12_operand_2_ok (273, (.invokevirtual 233, 3)) (List.mem_of_getElem? (i := 22) rfl))
theorem dX12_operand_276 : decode cX12_operand 276 = .ok (.aload_n 0, 1) := of_decide_eq_true (List.all_eq_true.mp dsX12_operand_2_ok (276, (.aload_n 0, 1)) (List.mem_of_getElem? (i := 23) rfl))
theorem dX12_operand_277 : decode cX12_operand 277 = .ok (.iload_n 3, 1) := of_decide_eq_true (List.all_eq_true.mp dsX12_operand_2_ok (277, (.iload_n 3, 1)) (List.mem_of_getElem? (i := 24) rfl))
theorem dX12_operand_278 : decode cX12_operand 278 = .ok (.bipush 44, 2) := of_decide_eq_true (List.all_eq_true.mp dsX12_operand_2_ok (278, (.bipush 44, 2)) (List.mem_of_getElem? (i := 25) rfl))
theorem dX12_operand_280 : decode cX12_operand 280 = .ok (.if_icmp .ne 8, 3) := of_decide_eq_true (List.all_eq_true.mp dsX12_operand_2_ok (280, (.if_icmp .ne 8, 3)) (List.mem_of_getElem? (i := 26) rfl))
theorem dX12_operand_283 : decode cX12_operand 283 = .ok (.bipush 6, 2) := of_decide_eq_true (List.all_eq_true.mp dsX12_operand_2_ok (283, (.bipush 6, 2)) (List.mem_of_getElem? (i := 27) rfl))
theorem dX12_operand_285 : decode cX12_operand 285 = .ok (.goto 4, 3) := of_decide_eq_true (List.all_eq_true.mp dsX12_operand_2_ok (285, (.goto 4, 3)) (List.mem_of_getElem? (i := 28) rfl))
theorem dX12_operand_288 : decode cX12_operand 288 = .ok (.iconst 3, 1) := of_decide_eq_true (List.all_eq_true.mp dsX12_operand_2_ok (288, (.iconst 3, 1)) (List.mem_of_getElem? (i := 29) rfl))
theorem dX12_operand_289 : decode cX12_operand 289 = .ok (.invokevirtual 324, 3) := of_decide_eq_true (List.all_eq_true.mp dsX12_operand_2_ok (289, (.invokevirtual 324, 3)) (List.mem_of_getElem? (i := 30) rfl))
theorem dX12_operand_292 : decode cX12_operand 292 = .ok (.aload_n 0, 1) := of_decide_eq_true (List.all_eq_true.mp dsX12_operand_2_ok (292, (.aload_n 0, 1)) (List.mem_of_getElem? (i := 31) rfl))
theorem dX12_operand_293 : decode cX12_operand 293 = .ok (.getfield 36, 3) := of_decide_eq_true (List.all_eq_true.mp dsX12_operand_2_ok (293, (.getfield 36, 3)) (List.mem_of_getElem? (i := 32) rfl))
theorem dX12_operand_296 : decode cX12_operand 296 = .ok (.ifCond .ne 15, 3) := of_decide_eq_true (List.all_eq_true.mp dsX12_operand_2_ok (296, (.ifCond .ne 15, 3)) (List.mem_of_getElem? (i := 33) rfl))
theorem dX12_operand_299 : decode cX12_operand 299 = .ok (.aload_n 0, 1) := of_decide_eq_true (List.all_eq_true.mp dsX12_operand_2_ok (299, (.aload_n 0, 1)) (List.mem_of_getElem? (i := 34) rfl))
theorem dX12_operand_300 : decode cX12_operand 300 = .ok (.getfield 122, 3) := of_decide_eq_true (List.all_eq_true.mp dsX12_operand_2_ok (300, (.getfield 122, 3)) (List.mem_of_getElem? (i := 35) rfl))
theorem dX12_operand_303 : decode cX12_operand 303 = .ok (.aload_n 0, 1) := of_decide_eq_true (List.all_eq_true.mp dsX12_operand_2_ok (303, (.aload_n 0, 1)) (List.mem_of_getElem? (i := 36) rfl))
theorem dX12_operand_304 : decode cX12_operand 304 = .ok (.getfield 128, 3) := of_decide_eq_true (List.all_eq_true.mp dsX12_operand_2_ok (304, (.getfield 128, 3)) (List.mem_of_getElem? (i := 37) rfl))
theorem dX12_operand_307 : decode cX12_operand 307 = .ok (.iconst 1, 1) := of_decide_eq_true (List.all_eq_true.mp dsX12_operand_2_ok (307, (.iconst 1, 1)) (List.mem_of_getElem? (i := 38) rfl))
theorem dX12_operand_308 : decode cX12_operand 308 = .ok (.isub, 1) := of_decide_eq_true (List.all_eq_true.mp dsX12_operand_2_ok (308, (.isub, 1)) (List.mem_of_getElem? (i := 39) rfl))
theorem dX12_operand_309 : decode cX12_operand 309 = .ok (.iload_n 3, 1) := of_decide_eq_true (List.all_eq_true.mp dsX12_operand_2_ok (309, (.iload_n 3, 1)) (List.mem_of_getElem? (i := 40) rfl))
theorem dX12_operand_310 : decode cX12_operand 310 = .ok (.iastore, 1) := of_decide_eq_true (List.all_eq_true.mp dsX12_operand_2_ok (310, (.iastore, 1)) (List.mem_of_getElem? (i := 41) rfl))
theorem dX12_operand_311 : decode cX12_operand 311 = .ok (.iconst 0, 1) := of_decide_eq_true (List.all_eq_true.mp dsX12_operand_2_ok (311, (.iconst 0, 1)) (List.mem_of_getElem? (i := 42) rfl))
theorem dX12_operand_312 : decode cX12_operand 312 = .ok (.ireturn, 1) := of_decide_eq_true (List.all_eq_true.mp dsX12_operand_2_ok (312, (.ireturn, 1)) (List.mem_of_getElem? (i := 43) rfl))
theorem dX12_operand_313 : decode cX12_operand 313 = .ok (.aload_n 0, 1) := of_decide_eq_true (List.all_eq_true.mp dsX12_operand_2_ok (313, (.aload_n 0, 1)) (List.mem_of_getElem? (i := 44) rfl))
theorem dX12_operand_314 : decode cX12_operand 314 = .ok (.getfield 20, 3) := of_decide_eq_true (List.all_eq_true.mp dsX12_operand_2_ok (314, (.getfield 20, 3)) (List.mem_of_getElem? (i := 45) rfl))
theorem dX12_operand_317 : decode cX12_operand 317 = .ok (.iconst 2, 1) := of_decide_eq_true (List.all_eq_true.mp dsX12_operand_2_ok (317, (.iconst 2, 1)) (List.mem_of_getElem? (i := 46) rfl))
theorem dX12_operand_318 : decode cX12_operand 318 = .ok (.if_icmp .ne 7, 3) := of_decide_eq_true (List.all_eq_true.mp dsX12_operand_2_ok (318, (.if_icmp .ne 7, 3)) (List.mem_of_getElem? (i := 47) rfl))
theorem dX12_operand_321 : decode cX12_operand 321 = .ok (.iconst 0, 1) := of_decide_eq_true (List.all_eq_true.mp dsX12_operand_2_ok (321, (.iconst 0, 1)) (List.mem_of_getElem? (i := 48) rfl))
theorem dX12_operand_322 : decode cX12_operand 322 = .ok (.goto 119, 3) := of_decide_eq_true (List.all_eq_true.mp dsX12_operand_2_ok (322, (.goto 119, 3)) (List.mem_of_getElem? (i := 49) rfl))
theorem dX12_operand_325 : decode cX12_operand 325 = .ok (.aload_n 0, 1) := of_decide_eq_true (List.all_eq_true.mp dsX12_operand_2_ok (325, (.aload_n 0, 1)) (List.mem_of_getElem? (i := 50) rfl))
theorem dX12_operand_326 : decode cX12_operand 326 = .ok (.ldc2_w 279, 3) := of_decide_eq_true (List.all_eq_true.mp dsX12_operand_2_ok (326, (.ldc2_w 279, 3)) (List.mem_of_getElem? (i := 51) rfl))
theorem dX12_operand_329 : decode cX12_operand 329 = .ok (.invokevirtual 317, 3) := of_decide_eq_true (List.all_eq_true.mp dsX12_operand_2_ok (329, (.invokevirtual 317, 3)) (List.mem_of_getElem? (i := 52) rfl))
theorem dX12_operand_332 : decode cX12_operand 332 = .ok (.ifCond .eq 7, 3) := of_decide_eq_true (List.all_eq_true.mp dsX12_operand_2_ok (332, (.ifCond .eq 7, 3)) (List.mem_of_getElem? (i := 53) rfl))
theorem dX12_operand_335 : decode cX12_operand 335 = .ok (.iconst 1, 1) := of_decide_eq_true (List.all_eq_true.mp dsX12_operand_2_ok (335, (.iconst 1, 1)) (List.mem_of_getElem? (i := 54) rfl))
theorem dX12_operand_336 : decode cX12_operand 336 = .ok (.goto 105, 3) := of_decide_eq_true (List.all_eq_true.mp dsX12_operand_2_ok (336, (.goto 105, 3)) (List.mem_of_getElem? (i := 55) rfl))
theorem dX12_operand_339 : decode cX12_operand 339 = .ok (.aload_n 0, 1) := of_decide_eq_true (List.all_eq_true.mp dsX12_operand_2_ok (339, (.aload_n 0, 1)) (List.mem_of_getElem? (i := 56) rfl))
theorem dX12_operand_340 : decode cX12_operand 340 = .ok (.ldc2_w 257, 3) := of_decide_eq_true (List.all_eq_true.mp dsX12_operand_2_ok (340, (.ldc2_w 257, 3)) (List.mem_of_getElem? (i := 57) rfl))
theorem dX12_operand_343 : decode cX12_operand 343 = .ok (.invokevirtual 317, 3) := of_decide_eq_true (List.all_eq_true.mp dsX12_operand_2_ok (343, (.invokevirtual 317, 3)) (List.mem_of_getElem? (i := 58) rfl))
theorem dX12_operand_346 : decode cX12_operand 346 = .ok (.ifCond .eq 7, 3) := of_decide_eq_true (List.all_eq_true.mp dsX12_operand_2_ok (346, (.ifCond .eq 7, 3)) (List.mem_of_getElem? (i := 59) rfl))
def dsX12_operand_3 : List (Nat × Instr × Nat) := [(349, (.iconst 2, 1)), (350, (.goto 91, 3)), (353, (.aload_n 0, 1)), (354, (.ldc2_w 281, 3)), (357, (.invokevirtual 317, 3)), (360, (.ifCond .eq 7, 3)), (363, (.iconst 3, 1)), (364, (.goto 77, 3)), (367, (.aload_n 0, 1)), (368, (.ldc2_w 283, 3)), (371, (.invokevirtual 317, 3)), (374, (.ifCond .eq 7, 3)), (377, (.iconst 4, 1)), (378, (.goto 63, 3)), (381, (.aload_n 0, 1)), (382, (.ldc2_w 265, 3)), (385, (.invokevirtual 317, 3)), (388, (.ifCond .eq 7, 3)), (391, (.iconst 5, 1)), (392, (.goto 49, 3)), (395, (.aload_n 0, 1)), (396, (.ldc2_w 263, 3)), (399, (.invokevirtual 317, 3)), (402, (.ifCond .eq 8, 3)), (405, (.bipush 6, 2)), (407, (.goto 34, 3)), (410, (.aload_n 0, 1)), (411, (.ldc2_w 285, 3)), (414, (.invokevirtual 317, 3)), (417, (.ifCond .eq 8, 3)), (420, (.bipush 7, 2)), (422, (.goto 19, 3)), (425, (.aload_n 0, 1)), (426, (.ldc2_w 271, 3)), (429, (.invokevirtual 317, 3)), (432, (.ifCond .eq 8, 3)), (435, (.bipush 8, 2)), (437, (.goto 4, 3)), (440, (.iconst (-1), 1)), (441, (.istore_n 3, 1)), (442, (.iload_n 3, 1)), (443, (.iconst 3, 1)), (444, (.if_icmp .lt 32, 3)), (447, (.aload_n 0, 1)), (448, (.getfield 109, 3)), (451, (.iload_n 3, 1)), (452, (.iconst 4, 1)), (453, (.if_icmp .gt 7, 3)), (456, (.iconst 0, 1)), (457, (.goto 14, 3)), (460, (.iload_n 3, 1)), (461, (.bipush 7, 2)), (463, (.if_icmp .gt 7, 3)), (466, (.iconst 1, 1)), (467, (.goto 4, 3)), (470, (.iconst 2, 1)), (471, (.if_icmp .eq 5, 3)), (474, (.iconst (-1), 1)), (475, (.istore_n 3, 1)), (476, (.iload_n 3, 1))]
theorem dsX12_operand_3_ok : (dsX12_operand_3.all fun q => decide (decode cX12_operand q.1 = .ok q.2)) = true := by decide +kernel
theorem dX12_operand_349 : decode cX12_operand 349 = .ok (.iconst 2, 1) := of_decide_eq_true (List.all_eq_true.mp dsX12_operand_3_ok (349, (.iconst 2, 1)) (List.mem_of_getElem? (i := 0) rfl))
theorem dX12_operand_350 : decode cX12_operand 350 = .ok (.goto 91, 3) := of_decide_eq_true (List.all_eq_true.mp dsX12_operand_3_ok (350, (.goto 91, 3)) (List.mem_of_getElem? (i := 1) rfl))
theorem dX12_operand_353 : decode cX12_operand 353 = .ok (.aload_n 0, 1) := of_decide_eq_true (List.all_eq_true.mp dsX12_operand_3_ok (353, (.aload_n 0, 1)) (List.mem_of_getElem? (i := 2) rfl))
theorem dX12_operand_354 : decode cX12_operand 354 = .ok (.ldc2_w 281, 3) := of_decide_eq_true (List.all_eq_true.mp dsX12_operand_3_ok (354, (.ldc2_w 281, 3)) (List.mem_of_getElem? (i := 3) rfl))
theorem dX12_operand_357 : decode cX12_operand 357 = .ok (.invokevirtual 317, 3) := of_decide_eq_true (List.all_eq_true.mp dsX12_operand_3_ok (357, (.invokevirtual 317, 3)) (List.mem_of_getElem? (i := 4) rfl))
theorem dX12_operand_360 : decode cX12_operand 360 = .ok (.ifCond .eq 7, 3) := of_decide_eq_true (List.all_eq_true.mp dsX12_operand_3_ok (360, (.ifCond .eq 7, 3)) (List.mem_of_getElem? (i := 5) rfl))
theorem dX12_operand_363 : decode cX12_operand 363 = .ok (.iconst 3, 1) := of_decide_eq_true (List.all_eq_true.mp dsX12_operand_3_ok (363, (.iconst 3, 1)) (List.mem_of_getElem? (i := 6) rfl))
theorem dX12_operand_364 : decode cX12_operand 364 = .ok (.goto 77, 3) := of_decide_eq_true (List.all_eq_true.mp dsX12_operand_3_ok (364, (.goto 77, 3)) (List.mem_of_getElem? (i := 7) rfl))
theorem dX12_operand_367 : decode cX12_operand 367 = .ok (.aload_n 0, 1) := of_decide_eq_true (List.all_eq_true.mp dsX12_operand_3_ok (367, (.aload_n 0, 1)) (List.mem_of_getElem? (i := 8) rfl))
theorem dX12_operand_368 : decode cX12_operand 368 = .ok (.ldc2_w 283, 3) := of_decide_eq_true (List.all_eq_true.mp dsX12_operand_3_ok (368, (.ldc2_w 283, 3)) (List.mem_of_getElem? (i := 9) rfl))
theorem dX12_operand_371 : decode cX12_operand 371 = .ok (.invokevirtual 317, 3) := of_decide_eq_true (List.all_eq_true.mp dsX12_operand_3_ok (371, (.invokevirtual 317, 3)) (List.mem_of_getElem? (i := 10) rfl))
theorem dX12_operand_374 : decode cX12_operand 374 = .ok (.ifCond .eq 7, 3) := of_decide_eq_true (List.all_eq_true.mp dsX12_operand_3_ok (374, (.ifCond .eq 7, 3)) (List.mem_of_getElem? (i := 11) rfl))
theorem dX12_operand_377 : decode cX12_operand 377 = .ok (.iconst 4, 1) := of_decide_eq_true (List.all_eq_true.mp dsX12_operand_3_ok (377, (.iconst 4, 1)) (List.mem_of_getElem? (i := 12) rfl))
theorem dX12_operand_378 : decode cX12_operand 378 = .ok (.goto 63, 3) := of_decide_eq_true (List.all_eq_true.mp dsX12_operand_3_ok (378, (.goto 63, 3)) (List.mem_of_getElem? (i := 13) rfl))
theorem dX12_operand_381 : decode cX12_operand 381 = .ok (.aload_n 0, 1) := of_decide_eq_true (List.all_eq_true.mp dsX12_operand_3_ok (381, (.aload_n 0, 1)) (List.mem_of_getElem? (i := 14) rfl))
theorem dX12_operand_382 : decode cX12_operand 382 = .ok (.ldc2_w 265, 3) := of_decide_eq_true (List.all_eq_true.mp dsX12_operand_3_ok (382, (.ldc2_w 265, 3)) (List.mem_of_getElem? (i := 15) rfl))
theorem dX12_operand_385 : decode cX12_operand 385 = .ok (.invokevirtual 317, 3) := of_decide_eq_true (List.all_eq_true.mp dsX12_operand_3_ok (385, (.invokevirtual 317, 3)) (List.mem_of_getElem? (i := 16) rfl))
theorem dX12_operand_388 : decode cX12_operand 388 = .ok (.ifCond .eq 7, 3) := of_decide_eq_true (List.all_eq_true.mp dsX12_operand_3_ok (388, (.ifCond .eq 7, 3)) (List.mem_of_getElem? (i := 17) rfl))
theorem dX12_operand_391 : decode cX12_operand 391 = .ok (.iconst 5, 1) := of_decide_eq_true (List.all_eq_true.mp dsX12_operand_3_ok (391, (.iconst 5, 1)) (List.mem_of_getElem? (i := 18) rfl))
theorem dX12_operand_392 : decode cX12_operand 392 = .ok (.goto 49, 3) := of_decide_eq_true (List.all_eq_true.mp dsX12_operand_3_ok (392, (.goto 49, 3)) (List.mem_of_getElem? (i := 19) rfl))
theorem dX12_operand_395 : decode cX12_operand 395 = .ok (.aload_n 0, 1) := of_decide_eq_true (List.all_eq_true.mp dsX12_operand_3_ok (395, (.aload_n 0, 1)) (List.mem_of_getElem? (i := 20) rfl))
theorem dX12_operand_396 : decode cX12_operand 396 = .ok (.ldc2_w 263, 3) := of_decide_eq_true (List.all_eq_true.mp dsX12_operand_3_ok (396, (.ldc2_w 263, 3)) (List.mem_of_getElem? (i := 21) rfl))
theorem dX12_operand_399 : decode cX12_operand 399 = .ok (.invokevirtual 317, 3) := of_decide_eq_true (List.all_eq_true.mp dsX12_operand_3_ok (399, (.invokevirtual 317, 3)) (List.mem_of_getElem? (i := 22) rfl))
theorem dX12_operand_402 : decode cX12_operand 402 = .ok (.ifCond .eq 8, 3) := of_decide_eq_true (List.all_eq_true.mp dsX12_operand_3_ok (402, (.ifCond .eq 8, 3)) (List.mem_of_getElem? (i := 23) rfl))
theorem dX12_operand_405 : decode cX12_operand 405 = .ok (.bipush 6, 2) := of_decide_eq_true (List.all_eq_true.mp dsX12_operand_3_ok (405, (.bipush 6, 2)) (List.mem_of_getElem? (i := 24) rfl))
theorem dX12_operand_407 : decode cX12_operand 407 = .ok (.goto 34, 3) := of_decide_eq_true (List.all_eq_true.mp dsX12_operand_3_ok (407, (.goto 34, 3)) (List.mem_of_getElem? (i := 25) rfl))
theorem dX12_operand_410 : decode cX12_operand 410 = .ok (.aload_n 0, 1) := of_decide_eq_true (List.all_eq_true.mp dsX12_operand_3_ok (410, (.aload_n 0, 1)) (List.mem_of_getElem? (i := 26) rfl))
theorem dX12_operand_411 : decode cX12_operand 411 = .ok (.ldc2_w 285, 3) := of_decide_eq_true (List.all_eq_true.mp dsX12_operand_3_ok (411, (.ldc2_w 285, 3)) (List.mem_of_getElem? (i := 27) rfl))
theorem dX12_operand_414 : decode cX12_operand 414 = .ok (.invokevirtual 317, 3) := of_decide_eq_true (List.all_eq_true.mp dsX12_operand_3_ok (414, (.invokevirtual 317, 3)) (List.mem_of_getElem? (i := 28) rfl))
theorem dX12_operand_417 : decode cX12_operand 417 = .ok (.ifCond .eq 8, 3) := of_decide_eq_true (List.all_eq_true.mp dsX12_operand_3_ok (417, (.ifCond .eq 8, 3)) (List.mem_of_getElem? (i := 29) rfl))
theorem dX12_operand_420 : decode cX12_operand 420 = .ok (.bipush 7, 2) := of_decide_eq_true (List.all_eq_true.mp dsX12_operand_3_ok (420, (.bipush 7, 2)) (List.mem_of_getElem? (i := 30) rfl))
theorem dX12_operand_422 : decode cX12_operand 422 = .ok (.goto 19, 3) := of_decide_eq_true (List.all_eq_true.mp dsX12_operand_3_ok (422, (.goto 19, 3)) (List.mem_of_getElem? (i := 31) rfl))
theorem dX12_operand_425 : decode cX12_operand 425 = .ok (.aload_n 0, 1) := of_decide_eq_true (List.all_eq_true.mp dsX12_operand_3_ok (425, (.aload_n 0, 1)) (List.mem_of_getElem? (i := 32) rfl))
theorem dX12_operand_426 : decode cX12_operand 426 = .ok (.ldc2_w 271, 3) := of_decide_eq_true (List.all_eq_true.mp dsX12_operand_3_ok (426, (.ldc2_w 271, 3)) (List.mem_of_getElem? (i := 33) rfl))
theorem dX12_operand_429 : decode cX12_operand 429 = .ok (.invokevirtual 317, 3) := of_decide_eq_true (List.all_eq_true.mp dsX12_operand_3_ok (429, (.invokevirtual 317, 3)) (List.mem_of_getElem? (i := 34) rfl))
theorem dX12_operand_432 : decode cX12_operand 432 = .ok (.ifCond .eq 8, 3) := of_decide_eq_true (List.all_eq_true.mp dsX12_operand_3_ok (432, (.ifCond .eq 8, 3)) (List.mem_of_getElem? (i := 35) rfl))
theorem dX12_operand_435 : decode cX12_operand 435 = .ok (.bipush 8, 2) := of_decide_eq_true (List.all_eq_true.mp dsX12_operand_3_ok (435, (.bipush 8, 2)) (List.mem_of_getElem? (i := 36) rfl))
theorem dX12_operand_437 : decode cX12_operand 437 = .ok (.goto 4, 3) := of_decide_eq_true (List.all_eq_true.mp dsX12_operand_3_ok (437, (.goto 4, 3)) (List.mem_of_getElem? (i := 37) rfl))
theorem dX12_operand_440 : decode cX12_operand 440 = .ok (.iconst (-1), 1) := of_decide_eq_true (List.all_eq_true.mp dsX12_operand_3_ok (440, (.iconst (-1), 1)) (List.mem_of_getElem? (i := 38) rfl))
theorem dX12_operand_441 : decode cX12_operand 441 = .ok (.istore_n 3, 1) := of_decide_eq_true (List.all_eq_true.mp dsX12_operand_3_ok (441, (.istore_n 3, 1)) (List.mem_of_getElem? (i := 39) rfl))
theorem dX12_operand_442 : decode cX12_operand 442 = .ok (.iload_n 3, 1) := of_decide_eq_true (List.all_eq_true.mp dsX12_operand_3_ok (442, (.iload_n 3, 1)) (List.mem_of_getElem? (i := 40) rfl))
theorem dX12_operand_443 : decode cX12_operand 443 = .ok (.iconst 3, 1) := of_decide_eq_true (List.all_eq_true.mp dsX12_operand_3_ok (443, (.iconst 3, 1)) (List.mem_of_getElem? (i := 41) rfl))
theorem dX12_operand_444 : decode cX12_operand 444 = .ok (.if_icmp .lt 32, 3) := of_decide_eq_true (List.all_eq_true.mp dsX12_operand_3_ok (444, (.if_icmp .lt 32, 3)) (List.mem_of_getElem? (i := 42) rfl))
theorem dX12_operand_447 : decode cX12_operand 447 = .ok (.aload_n 0, 1) := of_decide_eq_true (List.all_eq_true.mp dsX12_operand_3_ok (447, (.aload_n 0, 1)) (List.mem_of_getElem? (i := 43) rfl))
theorem dX12_operand_448 : decode cX12_operand 448 = .ok (.getfield 109, 3) := of_decide_eq_true (List.all_eq_true.mp dsX12_operand_3_ok (448, (.getfield 109, 3)) (List.mem_of_getElem? (i := 44) rfl))
theorem dX12_operand_451 : decode cX12_operand 451 = .ok (.iload_n 3, 1) := of_decide_eq_true (List.all_eq_true.mp dsX12_operand_3_ok (451, (.iload_n 3, 1)) (List.mem_of_getElem? (i := 45) rfl))
theorem dX12_operand_452 : decode cX12_operand 452 = .ok (.iconst 4, 1) := of_decide_eq_true (List.all_eq_true.mp dsX12_operand_3_ok (452, (.iconst 4, 1)) (List.mem_of_getElem? (i := 46) rfl))
theorem dX12_operand_453 : decode cX12_operand 453 = .ok (.if_icmp .gt 7, 3) := of_decide_eq_true (List.all_eq_true.mp dsX12_operand_3_ok (453, (.if_icmp .gt 7, 3)) (List.mem_of_getElem? (i := 47) rfl))
theorem dX12_operand_456 : decode cX12_operand 456 = .ok (.iconst 0, 1) := of_decide_eq_true (List.all_eq_true.mp dsX12_operand_3_ok (456, (.iconst 0, 1)) (List.mem_of_getElem? (i := 48) rfl))
theorem dX12_operand_457 : decode cX12_operand 457 = .ok (.goto 14, 3) := of_decide_eq_true (List.all_eq_true.mp dsX12_operand_3_ok (457, (.goto 14, 3)) (List.mem_of_getElem? (i := 49) rfl))
theorem dX12_operand_460 : decode cX12_operand 460 = .ok (.iload_n 3, 1) := of_decide_eq_true (List.all_eq_true.mp dsX12_operand_3_ok (460, (.iload_n 3, 1)) (List.mem_of_getElem? (i := 50) rfl))
theorem dX12_operand_461 : decode cX12_operand 461 = .ok (.bipush 7, 2) := of_decide_eq_true (List.all_eq_true.mp dsX12_operand_3_ok (461, (.bipush 7, 2)) (List.mem_of_getElem? (i := 51) rfl))
theorem dX12_operand_463 : decode cX12_operand 463 = .ok (.if_icmp .gt 7, 3) := of_decide_eq_true (List.all_eq_true.mp dsX12_operand_3_ok (463, (.if_icmp .gt 7, 3)) (List.mem_of_getElem? (i := 52) rfl))
theorem dX12_operand_466 : decode cX12_operand 466 = .ok (.iconst 1, 1) := of_decide_eq_true (List.all_eq_true.mp dsX12_operand_3_ok (466, (.iconst 1, 1)) (List.mem_of_getElem? (i := 53) rfl))
theorem dX12_operand_467 : decode cX12_operand 467 = .ok (.goto 4, 3) := of_decide_eq_true (List.all_eq_true.mp dsX12_operand_3_ok (467, (.goto 4, 3)) (List.mem_of_getElem? (i := 54) rfl))
theorem dX12_operand_470 : decode cX12_operand 470 = .ok (.iconst 2, 1) := of_decide_eq_true (List.all_eq_true.mp dsX12_operand_3_ok (470, (.iconst 2, 1)) (List.mem_of_getElem? (i := 55) rfl))
theorem dX12_operand_471 : decode cX12_operand 471 = .ok (.if_icmp .eq 5, 3) := of_decide_eq_true (List.all_eq_true.mp dsX12_operand_3_ok (471, (.if_icmp .eq 5, 3)) (List.mem_of_getElem? (i := 56) rfl))
theorem dX12_operand_474 : decode cX12_operand 474 = .ok (.iconst (-1), 1) := of_decide_eq_true (List.all_eq_true.mp dsX12_operand_3_ok (474, (.iconst (-1), 1)) (List.mem_of_getElem? (i := 57) rfl))
theorem dX12_operand_475 : decode cX12_operand 475 = .ok (.istore_n 3, 1) := of_decide_eq_true (List.all_eq_true.mp dsX12_operand_3_ok (475, (.istore_n 3, 1)) (List.mem_of_getElem? (i := 58) rfl))
theorem dX12_operand_476 : decode cX12_operand 476 = .ok (.iload_n 3, 1) := of_decide_eq_true (List.all_eq_true.mp dsX12_operand_3_ok (476, (.iload_n 3, 1)) (List.mem_of_getElem? (i := 59) rfl))
def dsX12_operand_4 : List (Nat × Instr × Nat) := [(477, (.iconst (-1), 1)), (478, (.if_icmp .ne 12, 3)), (481, (.aload_n 0, 1)), (482, (.iconst 1, 1)), (483, (.aload_n 0, 1)), (484, (.getfield 23, 3)), (487, (.invokevirtual 233, 3)), (490, (.aload_n 0, 1)), (491, (.getfield 36, 3)), (494, (.ifCond .le 5, 3)), (497, (.iconst 1, 1)), (498, (.ireturn, 1)), (499, (.aload_n 0, 1)), (500, (.iload_n 3, 1)), (501, (.aload_n 0, 1)), (502, (.getfield 29, 3)), (505, (.invokevirtual 308, 3)), (508, (.aload_n 0, 1)), (509, (.invokevirtual 250, 3)), (512, (.iconst 1, 1)), (513, (.ireturn, 1))]
theorem dsX12_operand_4_ok : (dsX12_operand_4.all fun q => decide (decode cX12_operand q.1 = .ok q.2)) = true := by decide +kernel
theorem dX12_operand_477 : decode cX12_operand 477 = .ok (.iconst (-1), 1) := of_decide_eq_true (List.all_eq_true.mp dsX12_operand_4_ok (477, (.iconst (-1), 1)) (List.mem_of_getElem? (i := 0) rfl))
theorem dX12_operand_478 : decode cX12_operand 478 = .ok (.if_icmp .ne 12, 3) := of_decide_eq_true (List.all_eq_true.mp dsX12_operand_4_ok (478, (.if_icmp .ne 12, 3)) (List.mem_of_getElem? (i := 1) rfl))
theorem dX12_operand_481 : decode cX12_operand 481 = .ok (.aload_n 0, 1) := of_decide_eq_true (List.all_eq_true.mp dsX12_operand_4_ok (481, (.aload_n 0, 1)) (List.mem_of_getElem? (i := 2) rfl))
theorem dX12_operand_482 : decode cX12_operand 482 = .ok (.iconst 1, 1) := of_decide_eq_true (List.all_eq_true.mp dsX12_operand_4_ok (482, (.iconst 1, 1)) (List.mem_of_getElem? (i := 3) rfl))
theorem dX12_operand_483 : decode cX12_operand 483 = .ok (.aload_n 0, 1) := of_decide_eq_true (List.all_eq_true.mp dsX12_operand_4_ok (483, (.aload_n 0, 1)) (List.mem_of_getElem? (i := 4) rfl))
theorem dX12_operand_484 : decode cX12_operand 484 = .ok (.getfield 23, 3) := of_decide_eq_true (List.all_eq_true.mp dsX12_operand_4_ok (484, (.getfield 23, 3)) (List.mem_of_getElem? (i := 5) rfl))
theorem dX12_operand_487 : decode cX12_operand 487 = .ok (.invokevirtual 233, 3) := of_decide_eq_true (List.all_eq_true.mp dsX12_operand_4_ok (487, (.invokevirtual 233, 3)) (List.mem_of_getElem? (i := 6) rfl))
theorem dX12_operand_490 : decode cX12_operand 490 = .ok (.aload_n 0, 1) := of_decide_eq_true (List.all_eq_true.mp dsX12_operand_4_ok (490, (.aload_n 0, 1)) (List.mem_of_getElem? (i := 7) rfl))
theorem dX12_operand_491 : decode cX12_operand 491 = .ok (.getfield 36, 3) := of_decide_eq_true (List.all_eq_true.mp dsX12_operand_4_ok (491, (.getfield 36, 3)) (List.mem_of_getElem? (i := 8) rfl))
theorem dX12_operand_494 : decode cX12_operand 494 = .ok (.ifCond .le 5, 3) := of_decide_eq_true (List.all_eq_true.mp dsX12_operand_4_ok (494, (.ifCond .le 5, 3)) (List.mem_of_getElem? (i := 9) rfl))
theorem dX12_operand_497 : decode cX12_operand 497 = .ok (.iconst 1, 1) := of_decide_eq_true (List.all_eq_true.mp dsX12_operand_4_ok (497, (.iconst 1, 1)) (List.mem_of_getElem? (i := 10) rfl))
theorem dX12_operand_498 : decode cX12_operand 498 = .ok (.ireturn, 1) := of_decide_eq_true (List.all_eq_true.mp dsX12_operand_4_ok (498, (.ireturn, 1)) (List.mem_of_getElem? (i := 11) rfl))
theorem dX12_operand_499 : decode cX12_operand 499 = .ok (.aload_n 0, 1) := of_decide_eq_true (List.all_eq_true.mp dsX12_operand_4_ok (499, (.aload_n 0, 1)) (List.mem_of_getElem? (i := 12) rfl))
theorem dX12_operand_500 : decode cX12_operand 500 = .ok (.iload_n 3, 1) := of_decide_eq_true (List.all_eq_true.mp dsX12_operand_4_ok (500, (.iload_n 3, 1)) (List.mem_of_getElem? (i := 13) rfl))
theorem dX12_operand_501 : decode cX12_operand 501 = .ok (.aload_n 0, 1) := of_decide_eq_true (List.all_eq_true.mp dsX12_operand_4_ok (501, (.aload_n 0, 1)) (List.mem_of_getElem? (i := 14) rfl))
theorem dX12_operand_502 : decode cX12_operand 502 = .ok (.getfield 29, 3) := of_decide_eq_true (List.all_eq_true.mp dsX12_operand_4_ok (502, (.getfield 29, 3)) (List.mem_of_getElem? (i := 15) rfl))
theorem dX12_operand_505 : decode cX12_operand 505 = .ok (.invokevirtual 308, 3) := of_decide_eq_true (List.all_eq_true.mp dsX12_operand_4_ok (505, (.invokevirtual 308, 3)) (List.mem_of_getElem? (i := 16) rfl))
theorem dX12_operand_508 : decode cX12_operand 508 = .ok (.aload_n 0, 1) := of_decide_eq_true (List.all_eq_true.mp dsX12_operand_4_ok (508, (.aload_n 0, 1)) (List.mem_of_getElem? (i := 17) rfl))
theorem dX12_operand_509 : decode cX12_operand 509 = .ok (.invokevirtual 250, 3) := of_decide_eq_true (List.all_eq_true.mp dsX12_operand_4_ok (509, (.invokevirtual 250, 3)) (List.mem_of_getElem? (i := 18) rfl))
theorem dX12_operand_512 : decode cX12_operand 512 = .ok (.iconst 1, 1) := of_decide_eq_true (List.all_eq_true.mp dsX12_operand_4_ok (512, (.iconst 1, 1)) (List.mem_of_getElem? (i := 19) rfl))
theorem dX12_operand_513 : decode cX12_operand 513 = .ok (.ireturn, 1) := of_decide_eq_true (List.all_eq_true.mp dsX12_operand_4_ok (513, (.ireturn, 1)) (List.mem_of_getElem? (i := 20) rfl))
def fX12_operand_b490 (N : Nat) (mm_tapeF : Nat → Int32)   : ((Nat → Int32) × (Nat → Int64) × (Nat → Int32) × (Nat → Int32) × (Nat → Int32) × (Nat → Int32) × (Nat → Int32) × (Nat → Int32) × (Nat → Int32) × (Nat → Int32) × Int32) → Option (Int32 × (Nat → Int32) × (Nat → Int64) × (Nat → Int32) × (Nat → Int32) × (Nat → Int32) × (Nat → Int32) × (Nat → Int32) × (Nat → Int32) × (Nat → Int32) × (Nat → Int32)) :=
  fun (mmI_490, mmJ_490, mm_frameF_490, mm_beginsF_490, mm_opsF_490, mm_phaseF_490, mm_baseF_490, mm_codeSortF_490, mm_codeValueF_490, mm_pairF_490, x3_490) => (if (mmI_490 8) ≤ 0 then (xq_bd (fX12_add N mmI_490 mm_codeSortF_490 mm_codeValueF_490 x3_490 (mmI_490 6)) fun (r_1_0, r_1_1, r_1_2) => (xq_bd (fX12_ahead N r_1_0 mmJ_490 mm_tapeF) fun (r_3_0, r_3_1) => some ((1, r_3_0, r_3_1, mm_frameF_490, mm_beginsF_490, mm_opsF_490, mm_phaseF_490, mm_baseF_490, r_1_1, r_1_2, mm_pairF_490)))) else some ((1, mmI_490, mmJ_490, mm_frameF_490, mm_beginsF_490, mm_opsF_490, mm_phaseF_490, mm_baseF_490, mm_codeSortF_490, mm_codeValueF_490, mm_pairF_490)))
def fX12_operand_b476 (N : Nat) (mm_tapeF : Nat → Int32)   : ((Nat → Int32) × (Nat → Int64) × (Nat → Int32) × (Nat → Int32) × (Nat → Int32) × (Nat → Int32) × (Nat → Int32) × (Nat → Int32) × (Nat → Int32) × (Nat → Int32) × Int32) → Option (Int32 × (Nat → Int32) × (Nat → Int64) × (Nat → Int32) × (Nat → Int32) × (Nat → Int32) × (Nat → Int32) × (Nat → Int32) × (Nat → Int32) × (Nat → Int32) × (Nat → Int32)) :=
  fun (mmI_476, mmJ_476, mm_frameF_476, mm_beginsF_476, mm_opsF_476, mm_phaseF_476, mm_baseF_476, mm_codeSortF_476, mm_codeValueF_476, mm_pairF_476, x3_476) => (if x3_476 = ((-1)) then (xq_bd (fX12_blame N mmI_476 1 (mmI_476 4)) fun r_5 => fX12_operand_b490 N mm_tapeF (r_5, mmJ_476, mm_frameF_476, mm_beginsF_476, mm_opsF_476, mm_phaseF_476, mm_baseF_476, mm_codeSortF_476, mm_codeValueF_476, mm_pairF_476, x3_476)) else fX12_operand_b490 N mm_tapeF (mmI_476, mmJ_476, mm_frameF_476, mm_beginsF_476, mm_opsF_476, mm_phaseF_476, mm_baseF_476, mm_codeSortF_476, mm_codeValueF_476, mm_pairF_476, x3_476))
def fX12_operand_b471 (N : Nat) (mm_tapeF : Nat → Int32)   : ((Nat → Int32) × (Nat → Int64) × (Nat → Int32) × (Nat → Int32) × (Nat → Int32) × (Nat → Int32) × (Nat → Int32) × (Nat → Int32) × (Nat → Int32) × (Nat → Int32) × Int32 × Int32 × Int32) → Option (Int32 × (Nat → Int32) × (Nat → Int64) × (Nat → Int32) × (Nat → Int32) × (Nat → Int32) × (Nat → Int32) × (Nat → Int32) × (Nat → Int32) × (Nat → Int32) × (Nat → Int32)) :=
  fun (mmI_471, mmJ_471, mm_frameF_471, mm_beginsF_471, mm_opsF_471, mm_phaseF_471, mm_baseF_471, mm_codeSortF_471, mm_codeValueF_471, mm_pairF_471, x3_471, y0_471, y1_471) => (if y0_471 = y1_471 then fX12_operand_b476 N mm_tapeF (mmI_471, mmJ_471, mm_frameF_471, mm_beginsF_471, mm_opsF_471, mm_phaseF_471, mm_baseF_471, mm_codeSortF_471, mm_codeValueF_471, mm_pairF_471, x3_471) else fX12_operand_b476 N mm_tapeF (mmI_471, mmJ_471, mm_frameF_471, mm_beginsF_471, mm_opsF_471, mm_phaseF_471, mm_baseF_471, mm_codeSortF_471, mm_codeValueF_471, mm_pairF_471, (-1)))
def fX12_operand_b441 (N : Nat) (mm_tapeF : Nat → Int32)   : ((Nat → Int32) × (Nat → Int64) × (Nat → Int32) × (Nat → Int32) × (Nat → Int32) × (Nat → Int32) × (Nat → Int32) × (Nat → Int32) × (Nat → Int32) × (Nat → Int32) × Int32) → Option (Int32 × (Nat → Int32) × (Nat → Int64) × (Nat → Int32) × (Nat → Int32) × (Nat → Int32) × (Nat → Int32) × (Nat → Int32) × (Nat → Int32) × (Nat → Int32) × (Nat → Int32)) :=
  fun (mmI_441, mmJ_441, mm_frameF_441, mm_beginsF_441, mm_opsF_441, mm_phaseF_441, mm_baseF_441, mm_codeSortF_441, mm_codeValueF_441, mm_pairF_441, y0_441) => (if y0_441 < 3 then fX12_operand_b476 N mm_tapeF (mmI_441, mmJ_441, mm_frameF_441, mm_beginsF_441, mm_opsF_441, mm_phaseF_441, mm_baseF_441, mm_codeSortF_441, mm_codeValueF_441, mm_pairF_441, y0_441) else (if 4 < y0_441 then (if 7 < y0_441 then fX12_operand_b471 N mm_tapeF (mmI_441, mmJ_441, mm_frameF_441, mm_beginsF_441, mm_opsF_441, mm_phaseF_441, mm_baseF_441, mm_codeSortF_441, mm_codeValueF_441, mm_pairF_441, y0_441, mmI_441 32, 2) else fX12_operand_b471 N mm_tapeF (mmI_441, mmJ_441, mm_frameF_441, mm_beginsF_441, mm_opsF_441, mm_phaseF_441, mm_baseF_441, mm_codeSortF_441, mm_codeValueF_441, mm_pairF_441, y0_441, mmI_441 32, 1)) else fX12_operand_b471 N mm_tapeF (mmI_441, mmJ_441, mm_frameF_441, mm_beginsF_441, mm_opsF_441, mm_phaseF_441, mm_baseF_441, mm_codeSortF_441, mm_codeValueF_441, mm_pairF_441, y0_441, mmI_441 32, 0)))
def fX12_operand_b289 (N : Nat) (mm_tapeF : Nat → Int32)   : ((Nat → Int32) × (Nat → Int64) × (Nat → Int32) × (Nat → Int32) × (Nat → Int32) × (Nat → Int32) × (Nat → Int32) × (Nat → Int32) × (Nat → Int32) × (Nat → Int32) × Int32 × Int32) → Option (Int32 × (Nat → Int32) × (Nat → Int64) × (Nat → Int32) × (Nat → Int32) × (Nat → Int32) × (Nat → Int32) × (Nat → Int32) × (Nat → Int32) × (Nat → Int32) × (Nat → Int32)) :=
  fun (mmI_289, mmJ_289, mm_frameF_289, mm_beginsF_289, mm_opsF_289, mm_phaseF_289, mm_baseF_289, mm_codeSortF_289, mm_codeValueF_289, mm_pairF_289, x3_289, y1_289) => (xq_bd (fX12_opens N mmI_289 mmJ_289 mm_tapeF mm_frameF_289 mm_phaseF_289 mm_beginsF_289 mm_baseF_289 y1_289) fun (r_7_0, r_7_1, r_7_2, r_7_3, r_7_4, r_7_5) => (if (r_7_0 8) = 0 then (xq_bd (xq_ast 20 mm_pairF_289 ((r_7_0 38) - 1) x3_289) fun g_9 => some ((0, r_7_0, r_7_1, r_7_2, r_7_4, mm_opsF_289, r_7_3, r_7_5, mm_codeSortF_289, mm_codeValueF_289, g_9))) else some ((0, r_7_0, r_7_1, r_7_2, r_7_4, mm_opsF_289, r_7_3, r_7_5, mm_codeSortF_289, mm_codeValueF_289, mm_pairF_289))))
def fX12_operand_b276 (N : Nat) (mm_tapeF : Nat → Int32)   : ((Nat → Int32) × (Nat → Int64) × (Nat → Int32) × (Nat → Int32) × (Nat → Int32) × (Nat → Int32) × (Nat → Int32) × (Nat → Int32) × (Nat → Int32) × (Nat → Int32) × Int32) → Option (Int32 × (Nat → Int32) × (Nat → Int64) × (Nat → Int32) × (Nat → Int32) × (Nat → Int32) × (Nat → Int32) × (Nat → Int32) × (Nat → Int32) × (Nat → Int32) × (Nat → Int32)) :=
  fun (mmI_276, mmJ_276, mm_frameF_276, mm_beginsF_276, mm_opsF_276, mm_phaseF_276, mm_baseF_276, mm_codeSortF_276, mm_codeValueF_276, mm_pairF_276, x3_276) => (if x3_276 = 44 then fX12_operand_b289 N mm_tapeF (mmI_276, mmJ_276, mm_frameF_276, mm_beginsF_276, mm_opsF_276, mm_phaseF_276, mm_baseF_276, mm_codeSortF_276, mm_codeValueF_276, mm_pairF_276, x3_276, 6) else fX12_operand_b289 N mm_tapeF (mmI_276, mmJ_276, mm_frameF_276, mm_beginsF_276, mm_opsF_276, mm_phaseF_276, mm_baseF_276, mm_codeSortF_276, mm_codeValueF_276, mm_pairF_276, x3_276, 3))
def fX12_operand_b249 (N : Nat) (mm_tapeF : Nat → Int32)   : ((Nat → Int32) × (Nat → Int64) × (Nat → Int32) × (Nat → Int32) × (Nat → Int32) × (Nat → Int32) × (Nat → Int32) × (Nat → Int32) × (Nat → Int32) × (Nat → Int32) × Int32) → Option (Int32 × (Nat → Int32) × (Nat → Int64) × (Nat → Int32) × (Nat → Int32) × (Nat → Int32) × (Nat → Int32) × (Nat → Int32) × (Nat → Int32) × (Nat → Int32) × (Nat → Int32)) :=
  fun (mmI_249, mmJ_249, mm_frameF_249, mm_beginsF_249, mm_opsF_249, mm_phaseF_249, mm_baseF_249, mm_codeSortF_249, mm_codeValueF_249, mm_pairF_249, y0_249) => (xq_bd (fX12_ahead N mmI_249 mmJ_249 mm_tapeF) fun (r_10_0, r_10_1) => (xq_bd (fX12_lex N r_10_0) fun r_12 => (xq_bd (fX12_isSign N r_12 40) fun r_14 => (if r_14 = 0 then (xq_bd (fX12_blame N r_12 1 (r_12 4)) fun r_16 => fX12_operand_b276 N mm_tapeF (r_16, r_10_1, mm_frameF_249, mm_beginsF_249, mm_opsF_249, mm_phaseF_249, mm_baseF_249, mm_codeSortF_249, mm_codeValueF_249, mm_pairF_249, y0_249)) else fX12_operand_b276 N mm_tapeF (r_12, r_10_1, mm_frameF_249, mm_beginsF_249, mm_opsF_249, mm_phaseF_249, mm_baseF_249, mm_codeSortF_249, mm_codeValueF_249, mm_pairF_249, y0_249)))))
def fX12_operand_b217 (N : Nat) (mm_tapeF : Nat → Int32)   : ((Nat → Int32) × (Nat → Int64) × (Nat → Int32) × (Nat → Int32) × (Nat → Int32) × (Nat → Int32) × (Nat → Int32) × (Nat → Int32) × (Nat → Int32) × (Nat → Int32)) → Option (Int32 × (Nat → Int32) × (Nat → Int64) × (Nat → Int32) × (Nat → Int32) × (Nat → Int32) × (Nat → Int32) × (Nat → Int32) × (Nat → Int32) × (Nat → Int32) × (Nat → Int32)) :=
  fun (mmI_217, mmJ_217, mm_frameF_217, mm_beginsF_217, mm_opsF_217, mm_phaseF_217, mm_baseF_217, mm_codeSortF_217, mm_codeValueF_217, mm_pairF_217) => (xq_bd (fX12_isWord N mmI_217 mmJ_217 7170414) fun r_18 => (if r_18 = 0 then (xq_bd (fX12_isWord N mmI_217 mmJ_217 7168376) fun r_20 => (if r_20 = 0 then fX12_operand_b249 N mm_tapeF (mmI_217, mmJ_217, mm_frameF_217, mm_beginsF_217, mm_opsF_217, mm_phaseF_217, mm_baseF_217, mm_codeSortF_217, mm_codeValueF_217, mm_pairF_217, 44) else fX12_operand_b249 N mm_tapeF (mmI_217, mmJ_217, mm_frameF_217, mm_beginsF_217, mm_opsF_217, mm_phaseF_217, mm_baseF_217, mm_codeSortF_217, mm_codeValueF_217, mm_pairF_217, 37))) else fX12_operand_b249 N mm_tapeF (mmI_217, mmJ_217, mm_frameF_217, mm_beginsF_217, mm_opsF_217, mm_phaseF_217, mm_baseF_217, mm_codeSortF_217, mm_codeValueF_217, mm_pairF_217, 36)))
def fX12_operand_b171 (N : Nat) (mm_tapeF : Nat → Int32)   : ((Nat → Int32) × (Nat → Int64) × (Nat → Int32) × (Nat → Int32) × (Nat → Int32) × (Nat → Int32) × (Nat → Int32) × (Nat → Int32) × (Nat → Int32) × (Nat → Int32)) → Option (Int32 × (Nat → Int32) × (Nat → Int64) × (Nat → Int32) × (Nat → Int32) × (Nat → Int32) × (Nat → Int32) × (Nat → Int32) × (Nat → Int32) × (Nat → Int32) × (Nat → Int32)) :=
  fun (mmI_171, mmJ_171, mm_frameF_171, mm_beginsF_171, mm_opsF_171, mm_phaseF_171, mm_baseF_171, mm_codeSortF_171, mm_codeValueF_171, mm_pairF_171) => (xq_bd (fX12_isSign N mmI_171 40) fun r_22 => (if r_22 = 0 then (xq_bd (fX12_isWord N mmI_171 mmJ_171 7170414) fun r_24 => (if r_24 = 0 then (xq_bd (fX12_isWord N mmI_171 mmJ_171 7168376) fun r_26 => (if r_26 = 0 then (xq_bd (fX12_isWord N mmI_171 mmJ_171 26982) fun r_28 => (if r_28 = 0 then (if (mmI_171 3) = 2 then fX12_operand_b441 N mm_tapeF (mmI_171, mmJ_171, mm_frameF_171, mm_beginsF_171, mm_opsF_171, mm_phaseF_171, mm_baseF_171, mm_codeSortF_171, mm_codeValueF_171, mm_pairF_171, 0) else (xq_bd (fX12_isWord N mmI_171 mmJ_171 474214787188) fun r_30 => (if r_30 = 0 then (xq_bd (fX12_isWord N mmI_171 mmJ_171 1752527720) fun r_32 => (if r_32 = 0 then (xq_bd (fX12_isWord N mmI_171 mmJ_171 1835625573) fun r_34 => (if r_34 = 0 then (xq_bd (fX12_isWord N mmI_171 mmJ_171 125823037105267) fun r_36 => (if r_36 = 0 then (xq_bd (fX12_isWord N mmI_171 mmJ_171 495672455792) fun r_38 => (if r_38 = 0 then (xq_bd (fX12_isWord N mmI_171 mmJ_171 7499639) fun r_40 => (if r_40 = 0 then (xq_bd (fX12_isWord N mmI_171 mmJ_171 6709618) fun r_42 => (if r_42 = 0 then (xq_bd (fX12_isWord N mmI_171 mmJ_171 1952541803) fun r_44 => (if r_44 = 0 then fX12_operand_b441 N mm_tapeF (mmI_171, mmJ_171, mm_frameF_171, mm_beginsF_171, mm_opsF_171, mm_phaseF_171, mm_baseF_171, mm_codeSortF_171, mm_codeValueF_171, mm_pairF_171, (-1)) else fX12_operand_b441 N mm_tapeF (mmI_171, mmJ_171, mm_frameF_171, mm_beginsF_171, mm_opsF_171, mm_phaseF_171, mm_baseF_171, mm_codeSortF_171, mm_codeValueF_171, mm_pairF_171, 8))) else fX12_operand_b441 N mm_tapeF (mmI_171, mmJ_171, mm_frameF_171, mm_beginsF_171, mm_opsF_171, mm_phaseF_171, mm_baseF_171, mm_codeSortF_171, mm_codeValueF_171, mm_pairF_171, 7))) else fX12_operand_b441 N mm_tapeF (mmI_171, mmJ_171, mm_frameF_171, mm_beginsF_171, mm_opsF_171, mm_phaseF_171, mm_baseF_171, mm_codeSortF_171, mm_codeValueF_171, mm_pairF_171, 6))) else fX12_operand_b441 N mm_tapeF (mmI_171, mmJ_171, mm_frameF_171, mm_beginsF_171, mm_opsF_171, mm_phaseF_171, mm_baseF_171, mm_codeSortF_171, mm_codeValueF_171, mm_pairF_171, 5))) else fX12_operand_b441 N mm_tapeF (mmI_171, mmJ_171, mm_frameF_171, mm_beginsF_171, mm_opsF_171, mm_phaseF_171, mm_baseF_171, mm_codeSortF_171, mm_codeValueF_171, mm_pairF_171, 4))) else fX12_operand_b441 N mm_tapeF (mmI_171, mmJ_171, mm_frameF_171, mm_beginsF_171, mm_opsF_171, mm_phaseF_171, mm_baseF_171, mm_codeSortF_171, mm_codeValueF_171, mm_pairF_171, 3))) else fX12_operand_b441 N mm_tapeF (mmI_171, mmJ_171, mm_frameF_171, mm_beginsF_171, mm_opsF_171, mm_phaseF_171, mm_baseF_171, mm_codeSortF_171, mm_codeValueF_171, mm_pairF_171, 2))) else fX12_operand_b441 N mm_tapeF (mmI_171, mmJ_171, mm_frameF_171, mm_beginsF_171, mm_opsF_171, mm_phaseF_171, mm_baseF_171, mm_codeSortF_171, mm_codeValueF_171, mm_pairF_171, 1)))) else fX12_operand_b217 N mm_tapeF (mmI_171, mmJ_171, mm_frameF_171, mm_beginsF_171, mm_opsF_171, mm_phaseF_171, mm_baseF_171, mm_codeSortF_171, mm_codeValueF_171, mm_pairF_171))) else fX12_operand_b217 N mm_tapeF (mmI_171, mmJ_171, mm_frameF_171, mm_beginsF_171, mm_opsF_171, mm_phaseF_171, mm_baseF_171, mm_codeSortF_171, mm_codeValueF_171, mm_pairF_171))) else fX12_operand_b217 N mm_tapeF (mmI_171, mmJ_171, mm_frameF_171, mm_beginsF_171, mm_opsF_171, mm_phaseF_171, mm_baseF_171, mm_codeSortF_171, mm_codeValueF_171, mm_pairF_171))) else (xq_bd (fX12_opens N mmI_171 mmJ_171 mm_tapeF mm_frameF_171 mm_phaseF_171 mm_beginsF_171 mm_baseF_171 2) fun (r_46_0, r_46_1, r_46_2, r_46_3, r_46_4, r_46_5) => some ((0, r_46_0, r_46_1, r_46_2, r_46_4, mm_opsF_171, r_46_3, r_46_5, mm_codeSortF_171, mm_codeValueF_171, mm_pairF_171)))))
def fX12_operand_b137 (N : Nat) (mm_tapeF : Nat → Int32)   : ((Nat → Int32) × (Nat → Int64) × (Nat → Int32) × (Nat → Int32) × (Nat → Int32) × (Nat → Int32) × (Nat → Int32) × (Nat → Int32) × (Nat → Int32) × (Nat → Int32) × Int32 × Int32) → Option (Int32 × (Nat → Int32) × (Nat → Int64) × (Nat → Int32) × (Nat → Int32) × (Nat → Int32) × (Nat → Int32) × (Nat → Int32) × (Nat → Int32) × (Nat → Int32) × (Nat → Int32)) :=
  fun (mmI_137, mmJ_137, mm_frameF_137, mm_beginsF_137, mm_opsF_137, mm_phaseF_137, mm_baseF_137, mm_codeSortF_137, mm_codeValueF_137, mm_pairF_137, x1_137, x2_137) => (if x2_137 = 0 then fX12_operand_b171 N mm_tapeF (mmI_137, mmJ_137, mm_frameF_137, mm_beginsF_137, mm_opsF_137, mm_phaseF_137, mm_baseF_137, mm_codeSortF_137, mm_codeValueF_137, mm_pairF_137) else (xq_bd (fX12_isWord N mmI_137 mmJ_137 6384748) fun r_48 => (if r_48 = 0 then fX12_operand_b171 N mm_tapeF (mmI_137, mmJ_137, mm_frameF_137, mm_beginsF_137, mm_opsF_137, mm_phaseF_137, mm_baseF_137, mm_codeSortF_137, mm_codeValueF_137, mm_pairF_137) else (xq_bd (fX12_add N mmI_137 mm_codeSortF_137 mm_codeValueF_137 30 0) fun (r_50_0, r_50_1, r_50_2) => (xq_bd (xq_ast 20 mm_phaseF_137 x1_137 2) fun g_52 => (xq_bd (fX12_ahead N r_50_0 mmJ_137 mm_tapeF) fun (r_53_0, r_53_1) => some ((1, r_53_0, r_53_1, mm_frameF_137, mm_beginsF_137, mm_opsF_137, g_52, mm_baseF_137, r_50_1, r_50_2, mm_pairF_137))))))))
def fX12_operand_b110 (N : Nat) (mm_tapeF : Nat → Int32)   : ((Nat → Int32) × (Nat → Int64) × (Nat → Int32) × (Nat → Int32) × (Nat → Int32) × (Nat → Int32) × (Nat → Int32) × (Nat → Int32) × (Nat → Int32) × (Nat → Int32) × Int32 × Int32) → Option (Int32 × (Nat → Int32) × (Nat → Int64) × (Nat → Int32) × (Nat → Int32) × (Nat → Int32) × (Nat → Int32) × (Nat → Int32) × (Nat → Int32) × (Nat → Int32) × (Nat → Int32)) :=
  fun (mmI_110, mmJ_110, mm_frameF_110, mm_beginsF_110, mm_opsF_110, mm_phaseF_110, mm_baseF_110, mm_codeSortF_110, mm_codeValueF_110, mm_pairF_110, x1_110, x2_110) => (xq_bd (xq_ast 20 mm_beginsF_110 x1_110 (vp_nar .boolean 0)) fun g_55 => (if x2_110 = 0 then fX12_operand_b137 N mm_tapeF (mmI_110, mmJ_110, mm_frameF_110, g_55, mm_opsF_110, mm_phaseF_110, mm_baseF_110, mm_codeSortF_110, mm_codeValueF_110, mm_pairF_110, x1_110, x2_110) else (xq_bd (fX12_isSign N mmI_110 91) fun r_56 => (if r_56 = 0 then fX12_operand_b137 N mm_tapeF (mmI_110, mmJ_110, mm_frameF_110, g_55, mm_opsF_110, mm_phaseF_110, mm_baseF_110, mm_codeSortF_110, mm_codeValueF_110, mm_pairF_110, x1_110, x2_110) else (xq_bd (fX12_opens N mmI_110 mmJ_110 mm_tapeF mm_frameF_110 mm_phaseF_110 g_55 mm_baseF_110 5) fun (r_58_0, r_58_1, r_58_2, r_58_3, r_58_4, r_58_5) => some ((0, r_58_0, r_58_1, r_58_2, r_58_4, mm_opsF_110, r_58_3, r_58_5, mm_codeSortF_110, mm_codeValueF_110, mm_pairF_110)))))))
def fX12_operand_b79 (N : Nat) (mm_tapeF : Nat → Int32)   : ((Nat → Int32) × (Nat → Int64) × (Nat → Int32) × (Nat → Int32) × (Nat → Int32) × (Nat → Int32) × (Nat → Int32) × (Nat → Int32) × (Nat → Int32) × (Nat → Int32)) → Option (Int32 × (Nat → Int32) × (Nat → Int64) × (Nat → Int32) × (Nat → Int32) × (Nat → Int32) × (Nat → Int32) × (Nat → Int32) × (Nat → Int32) × (Nat → Int32) × (Nat → Int32)) :=
  fun (mmI_79, mmJ_79, mm_frameF_79, mm_beginsF_79, mm_opsF_79, mm_phaseF_79, mm_baseF_79, mm_codeSortF_79, mm_codeValueF_79, mm_pairF_79) => (if (mmI_79 8) ≤ 0 then (xq_bd (fX12_holdsBack N ((va_up mmI_79 39 ((mmI_79 39) + 1))) mm_opsF_79 43) fun (r_60_0, r_60_1) => (xq_bd (fX12_ahead N r_60_0 mmJ_79 mm_tapeF) fun (r_62_0, r_62_1) => some ((0, r_62_0, r_62_1, mm_frameF_79, mm_beginsF_79, r_60_1, mm_phaseF_79, mm_baseF_79, mm_codeSortF_79, mm_codeValueF_79, mm_pairF_79)))) else some ((1, mmI_79, mmJ_79, mm_frameF_79, mm_beginsF_79, mm_opsF_79, mm_phaseF_79, mm_baseF_79, mm_codeSortF_79, mm_codeValueF_79, mm_pairF_79)))
def fX12_operand_b46 (N : Nat) (mm_tapeF : Nat → Int32)   : ((Nat → Int32) × (Nat → Int64) × (Nat → Int32) × (Nat → Int32) × (Nat → Int32) × (Nat → Int32) × (Nat → Int32) × (Nat → Int32) × (Nat → Int32) × (Nat → Int32) × Int32 × Int32) → Option (Int32 × (Nat → Int32) × (Nat → Int64) × (Nat → Int32) × (Nat → Int32) × (Nat → Int32) × (Nat → Int32) × (Nat → Int32) × (Nat → Int32) × (Nat → Int32) × (Nat → Int32)) :=
  fun (mmI_46, mmJ_46, mm_frameF_46, mm_beginsF_46, mm_opsF_46, mm_phaseF_46, mm_baseF_46, mm_codeSortF_46, mm_codeValueF_46, mm_pairF_46, x1_46, y0_46) => (if y0_46 = 0 then fX12_operand_b110 N mm_tapeF (mmI_46, mmJ_46, mm_frameF_46, mm_beginsF_46, mm_opsF_46, mm_phaseF_46, mm_baseF_46, mm_codeSortF_46, mm_codeValueF_46, mm_pairF_46, x1_46, y0_46) else (xq_bd (fX12_isWord N mmI_46 mmJ_46 7237492) fun r_64 => (if r_64 = 0 then fX12_operand_b110 N mm_tapeF (mmI_46, mmJ_46, mm_frameF_46, mm_beginsF_46, mm_opsF_46, mm_phaseF_46, mm_baseF_46, mm_codeSortF_46, mm_codeValueF_46, mm_pairF_46, x1_46, y0_46) else (if (mmI_46 39) = 7 then (xq_bd (fX12_blame N mmI_46 5 (mmI_46 4)) fun r_66 => fX12_operand_b79 N mm_tapeF (r_66, mmJ_46, mm_frameF_46, mm_beginsF_46, mm_opsF_46, mm_phaseF_46, mm_baseF_46, mm_codeSortF_46, mm_codeValueF_46, mm_pairF_46)) else fX12_operand_b79 N mm_tapeF (mmI_46, mmJ_46, mm_frameF_46, mm_beginsF_46, mm_opsF_46, mm_phaseF_46, mm_baseF_46, mm_codeSortF_46, mm_codeValueF_46, mm_pairF_46)))))
def fX12_operand_b45 (N : Nat) (mm_tapeF : Nat → Int32)   : ((Nat → Int32) × (Nat → Int64) × (Nat → Int32) × (Nat → Int32) × (Nat → Int32) × (Nat → Int32) × (Nat → Int32) × (Nat → Int32) × (Nat → Int32) × (Nat → Int32) × Int32) → Option (Int32 × (Nat → Int32) × (Nat → Int64) × (Nat → Int32) × (Nat → Int32) × (Nat → Int32) × (Nat → Int32) × (Nat → Int32) × (Nat → Int32) × (Nat → Int32) × (Nat → Int32)) :=
  fun (mmI_45, mmJ_45, mm_frameF_45, mm_beginsF_45, mm_opsF_45, mm_phaseF_45, mm_baseF_45, mm_codeSortF_45, mm_codeValueF_45, mm_pairF_45, x1_45) => fX12_operand_b46 N mm_tapeF (mmI_45, mmJ_45, mm_frameF_45, mm_beginsF_45, mm_opsF_45, mm_phaseF_45, mm_baseF_45, mm_codeSortF_45, mm_codeValueF_45, mm_pairF_45, x1_45, 0)
def fX12_operand (N : Nat) (mmI : Nat → Int32) (mmJ : Nat → Int64) (mm_frameF : Nat → Int32) (mm_beginsF : Nat → Int32) (mm_opsF : Nat → Int32) (mm_tapeF : Nat → Int32) (mm_phaseF : Nat → Int32) (mm_baseF : Nat → Int32) (mm_codeSortF : Nat → Int32) (mm_codeValueF : Nat → Int32) (mm_pairF : Nat → Int32)   : Option (Int32 × (Nat → Int32) × (Nat → Int64) × (Nat → Int32) × (Nat → Int32) × (Nat → Int32) × (Nat → Int32) × (Nat → Int32) × (Nat → Int32) × (Nat → Int32) × (Nat → Int32)) :=
  (xq_bd (fX12_lex N mmI) fun r_1 => (if (r_1 8) ≤ 0 then (xq_bd (xq_ald 20 mm_frameF ((r_1 38) - 1)) fun v_3 => (xq_bd (fX12_isTest N v_3) fun r_4 => (if r_4 = 0 then fX12_operand_b45 N mm_tapeF (r_1, mmJ, mm_frameF, mm_beginsF, mm_opsF, mm_phaseF, mm_baseF, mm_codeSortF, mm_codeValueF, mm_pairF, (r_1 38) - 1) else (xq_bd (xq_ald 20 mm_beginsF ((r_1 38) - 1)) fun v_6 => (if v_6 = 0 then fX12_operand_b45 N mm_tapeF (r_1, mmJ, mm_frameF, mm_beginsF, mm_opsF, mm_phaseF, mm_baseF, mm_codeSortF, mm_codeValueF, mm_pairF, (r_1 38) - 1) else fX12_operand_b46 N mm_tapeF (r_1, mmJ, mm_frameF, mm_beginsF, mm_opsF, mm_phaseF, mm_baseF, mm_codeSortF, mm_codeValueF, mm_pairF, (r_1 38) - 1, 1)))))) else some ((1, r_1, mmJ, mm_frameF, mm_beginsF, mm_opsF, mm_phaseF, mm_baseF, mm_codeSortF, mm_codeValueF, mm_pairF))))
set_option maxHeartbeats 4000000 in
set_option maxRecDepth 100000 in
theorem kX12_operand (l : Launch) (dC : Nat → ClassId) (dI : Nat → Nat → Nat) (cI cB cJ cZ cM : ClassId) (z : Nat) (ad : Nat → Nat) (N : Nat) (a_p0 : Nat) (mmI : Nat → Int32) (mmJ : Nat → Int64) (mmR : Nat → Nat) (mm_frameF : Nat → Int32) (mm_beginsF : Nat → Int32) (mm_opsF : Nat → Int32) (mm_tapeF : Nat → Int32) (mm_phaseF : Nat → Int32) (mm_baseF : Nat → Int32) (mm_codeSortF : Nat → Int32) (mm_codeValueF : Nat → Int32) (mm_pairF : Nat → Int32) {r0 : Int32} {r1 : Nat → Int32} {r2 : Nat → Int64} {r3 : Nat → Int32} {r4 : Nat → Int32} {r5 : Nat → Int32} {r6 : Nat → Int32} {r7 : Nat → Int32} {r8 : Nat → Int32} {r9 : Nat → Int32} {r10 : Nat → Int32} (hf : fX12_operand N mmI mmJ mm_frameF mm_beginsF mm_opsF mm_tapeF mm_phaseF mm_baseF mm_codeSortF mm_codeValueF mm_pairF = some (r0, r1, r2, r3, r4, r5, r6, r7, r8, r9, r10)) : xq_Ct l yX12_operand wsX12_operand { frames := 3, cells := 0, slots := 0, locals := 66 } (dC, dI) vwCl (xq_tys cI cB cJ cZ cM) z ad [.ref a_p0] [(a_p0, .inr (12, oX12 mmI mmJ mmR)), ((mmR 33), .inl (cI, 20, .inl mm_frameF)), ((mmR 35), .inl (cZ, 20, .inl mm_beginsF)), ((mmR 40), .inl (cI, 500, .inl mm_opsF)), ((mmR 0), .inl (cI, 1800, .inl mm_tapeF)), ((mmR 34), .inl (cI, 20, .inl mm_phaseF)), ((mmR 37), .inl (cI, 20, .inl mm_baseF)), ((mmR 26), .inl (cI, 3200, .inl mm_codeSortF)), ((mmR 27), .inl (cI, 3200, .inl mm_codeValueF)), ((mmR 36), .inl (cI, 20, .inl mm_pairF))] [(a_p0, .inr (12, oX12 r1 r2 mmR)), ((mmR 33), .inl (cI, 20, .inl r3)), ((mmR 35), .inl (cZ, 20, .inl r4)), ((mmR 40), .inl (cI, 500, .inl r5)), ((mmR 0), .inl (cI, 1800, .inl mm_tapeF)), ((mmR 34), .inl (cI, 20, .inl r6)), ((mmR 37), .inl (cI, 20, .inl r7)), ((mmR 26), .inl (cI, 3200, .inl r8)), ((mmR 27), .inl (cI, 3200, .inl r9)), ((mmR 36), .inl (cI, 20, .inl r10))] (some (.int r0)) := by
  intro sz
  refine Met.ofW (cc := cX12_operand) (maxL := 4) (ret := (some .boolean)) (by decide) rfl ?_
  intro p e s m args below meth c s₁ B hml hv
  obtain ⟨rfl, hsz, hP, hK, hD0, hE, hz⟩ := hv
  have hx := B.exec
  have hb := B.bytes
  have hr := B.returns
  have hts := atoms_spec (ws := wsX12_operand) B.pre
  have hown : s.vm.findClass RX12 = some m.cls := findClass_of_methodNamed B.named
  have hlocks := B.notSynchronized
  subst hsz
  have hD := hD0.self (sz := s.heap.size)
  have hN := xq_Env.of hE hz hD0
  generalize hAe : va_A [(a_p0, .inr (12, oX12 mmI mmJ mmR)), ((mmR 33), .inl (cI, 20, .inl mm_frameF)), ((mmR 35), .inl (cZ, 20, .inl mm_beginsF)), ((mmR 40), .inl (cI, 500, .inl mm_opsF)), ((mmR 0), .inl (cI, 1800, .inl mm_tapeF)), ((mmR 34), .inl (cI, 20, .inl mm_phaseF)), ((mmR 37), .inl (cI, 20, .inl mm_baseF)), ((mmR 26), .inl (cI, 3200, .inl mm_codeSortF)), ((mmR 27), .inl (cI, 3200, .inl mm_codeValueF)), ((mmR 36), .inl (cI, 20, .inl mm_pairF))] s.heap.size = A at hD hN ⊢
  have hA : ∀ q : Nat, s.heap.size ≤ q → A q := fun q h => by rw [← hAe]; exact Or.inr h
  clear hAe hD0
  have hS : va_S A s.heap s.heap [] := va_S.rf
  have hl := lv_entry ([.ref a_p0]) (n := 4) (Nat.le_of_ble_eq_true rfl)
  rw [lg_entry_eq]
  generalize (lg_sl ([.ref a_p0]) ++ List.replicate (4 - (lg_sl ([.ref a_p0])).length) Slot.unset).toArray = ls at hl ⊢
  have hl : lv_has ls 4 [(0, .ref a_p0)] := hl
  have hw0 := hts (.fieldLink RX12 36 "DistantVoiceModel" "faultKind" "I") (by decide +kernel)
  have hinX12 : ∀ w ∈ wsX120, w ∈ wsX12_operand := fun w h => List.mem_cons_of_mem _ (List.mem_append_right _ h)
  have hw2 := hts (.fieldLink RX12 128 "DistantVoiceModel" "deep" "I") (by decide +kernel)
  have hw3 := hts (.fieldLink RX12 112 "DistantVoiceModel" "frame" "[I") (by decide +kernel)
  have hw4 := hts (.fieldLink RX12 118 "DistantVoiceModel" "begins" "[Z") (by decide +kernel)
  have hw5 := hts (.constantLong RX12 293 (7237492)) (by decide +kernel)
  have hw6 := hts (.fieldLink RX12 131 "DistantVoiceModel" "open" "I") (by decide +kernel)
  have hw7 := hts (.fieldLink RX12 23 "DistantVoiceModel" "signAt" "I") (by decide +kernel)
  have hw8 := hts (.constantLong RX12 295 (6384748)) (by decide +kernel)
  have hw9 := hts (.fieldLink RX12 115 "DistantVoiceModel" "phase" "[I") (by decide +kernel)
  have hw10 := hts (.constantLong RX12 297 (7170414)) (by decide +kernel)
  have hw11 := hts (.constantLong RX12 299 (7168376)) (by decide +kernel)
  have hw12 := hts (.constantLong RX12 287 (26982)) (by decide +kernel)
  have hw13 := hts (.fieldLink RX12 20 "DistantVoiceModel" "sign" "I") (by decide +kernel)
  have hw14 := hts (.constantLong RX12 279 (474214787188)) (by decide +kernel)
  have hw15 := hts (.constantLong RX12 257 (1752527720)) (by decide +kernel)
  have hw16 := hts (.constantLong RX12 281 (1835625573)) (by decide +kernel)
  have hw17 := hts (.constantLong RX12 283 (125823037105267)) (by decide +kernel)
  have hw18 := hts (.constantLong RX12 265 (495672455792)) (by decide +kernel)
  have hw19 := hts (.constantLong RX12 263 (7499639)) (by decide +kernel)
  have hw20 := hts (.constantLong RX12 285 (6709618)) (by decide +kernel)
  have hw21 := hts (.constantLong RX12 271 (1952541803)) (by decide +kernel)
  have hw22 := hts (.fieldLink RX12 109 "DistantVoiceModel" "law" "I") (by decide +kernel)
  have hw23 := hts (.fieldLink RX12 29 "DistantVoiceModel" "value" "I") (by decide +kernel)
  have hw24 := hts (.fieldLink RX12 122 "DistantVoiceModel" "pair" "[I") (by decide +kernel)
  have b490 : ∀ (mmI_490 : Nat → Int32) (mmJ_490 : Nat → Int64) (mm_frameF_490 : Nat → Int32) (mm_beginsF_490 : Nat → Int32) (mm_opsF_490 : Nat → Int32) (mm_phaseF_490 : Nat → Int32) (mm_baseF_490 : Nat → Int32) (mm_codeSortF_490 : Nat → Int32) (mm_codeValueF_490 : Nat → Int32) (mm_pairF_490 : Nat → Int32) (x3_490 : Int32) (ls : Array Slot) (H : Heap) (locs : List Loc), fX12_operand_b490 N mm_tapeF (mmI_490, mmJ_490, mm_frameF_490, mm_beginsF_490, mm_opsF_490, mm_phaseF_490, mm_baseF_490, mm_codeSortF_490, mm_codeValueF_490, mm_pairF_490, x3_490) = some (r0, r1, r2, r3, r4, r5, r6, r7, r8, r9, r10) → va_P (dC, dI) vwCl [(a_p0, .inr (12, oX12 mmI_490 mmJ_490 mmR)), ((mmR 33), .inl (cI, 20, .inl mm_frameF_490)), ((mmR 35), .inl (cZ, 20, .inl mm_beginsF_490)), ((mmR 40), .inl (cI, 500, .inl mm_opsF_490)), ((mmR 0), .inl (cI, 1800, .inl mm_tapeF)), ((mmR 34), .inl (cI, 20, .inl mm_phaseF_490)), ((mmR 37), .inl (cI, 20, .inl mm_baseF_490)), ((mmR 26), .inl (cI, 3200, .inl mm_codeSortF_490)), ((mmR 27), .inl (cI, 3200, .inl mm_codeValueF_490)), ((mmR 36), .inl (cI, 20, .inl mm_pairF_490))] H → va_D A [(a_p0, .inr (12, oX12 mmI_490 mmJ_490 mmR)), ((mmR 33), .inl (cI, 20, .inl mm_frameF_490)), ((mmR 35), .inl (cZ, 20, .inl mm_beginsF_490)), ((mmR 40), .inl (cI, 500, .inl mm_opsF_490)), ((mmR 0), .inl (cI, 1800, .inl mm_tapeF)), ((mmR 34), .inl (cI, 20, .inl mm_phaseF_490)), ((mmR 37), .inl (cI, 20, .inl mm_baseF_490)), ((mmR 26), .inl (cI, 3200, .inl mm_codeSortF_490)), ((mmR 27), .inl (cI, 3200, .inl mm_codeValueF_490)), ((mmR 36), .inl (cI, 20, .inl mm_pairF_490))] → va_S A s.heap H locs → lv_has ls 4 [(0, .ref a_p0), (3, .int x3_490)] → W p l e (headSpec wsX12_operand { frames := 3, cells := 0, slots := 0, locals := 66 }).room s m [.ref a_p0].toArray below meth c H locs 0 0 (MQ below (xq_Q (dC, dI) vwCl (xq_tys cI cB cJ cZ cM) A [(a_p0, .inr (12, oX12 r1 r2 mmR)), ((mmR 33), .inl (cI, 20, .inl r3)), ((mmR 35), .inl (cZ, 20, .inl r4)), ((mmR 40), .inl (cI, 500, .inl r5)), ((mmR 0), .inl (cI, 1800, .inl mm_tapeF)), ((mmR 34), .inl (cI, 20, .inl r6)), ((mmR 37), .inl (cI, 20, .inl r7)), ((mmR 26), .inl (cI, 3200, .inl r8)), ((mmR 27), .inl (cI, 3200, .inl r9)), ((mmR 36), .inl (cI, 20, .inl r10))] (some (.int r0))) [.ref a_p0].toArray s 0 0 A) (F0 m 490 ls []) := by
    intro mmI_490 mmJ_490 mm_frameF_490 mm_beginsF_490 mm_opsF_490 mm_phaseF_490 mm_baseF_490 mm_codeSortF_490 mm_codeValueF_490 mm_pairF_490 x3_490 ls H locs hf hP hD hS hl
    unfold fX12_operand_b490 at hf
    refine lv_aload_n hx hb dX12_operand_490 rfl (lv_at hl 0 rfl) ?_
    refine va_get (D := (dC, dI)) (ci := 12) (v := .int (mmI_490 8)) (C := RX12) (T := TX12) (N := 70) hx hb hts hinX12 hown hK hP 0 rfl rfl 8 (by decide) hw0 (fun _ h9 => h9) rfl dX12_operand_491 ?_
    refine lv_if_le (tgt := 499) hx hb dX12_operand_494 (by decide) (fun c_ => ?_) (fun c_ => ?_)
    · have hf := xq_pos hf c_
      refine lv_aload_n hx hb dX12_operand_499 rfl (lv_at hl 0 rfl) ?_
      refine lv_iload_n hx hb dX12_operand_500 rfl (lv_at hl 1 rfl) ?_
      refine lv_aload_n hx hb dX12_operand_501 rfl (lv_at hl 0 rfl) ?_
      refine va_get (D := (dC, dI)) (ci := 12) (v := .int (mmI_490 6)) (C := RX12) (T := TX12) (N := 70) hx hb hts hinX12 hown hK hP 0 rfl rfl 6 (by decide) hw23 (fun _ h9 => h9) rfl dX12_operand_502 ?_
      obtain ⟨⟨r_1_0, r_1_1, r_1_2⟩, h_2, hf⟩ := xq_bd_some hf
      refine xq_callV (As := [.int x3_490, .int (mmI_490 6)]) (rest := []) (ci := 12) (q0 := 0) ⟨hx, hb, hml, hown, hts⟩ (kX12_add l dC dI cI cB cJ cZ cM z ad N a_p0 mmI_490 mmJ_490 mmR mm_codeSortF_490 mm_codeValueF_490 x3_490 (mmI_490 6) h_2) (cwV 2 hts gX12_operand_X12_add rfl rfl rfl (by decide +kernel) ⟨Nat.le_of_ble_eq_true rfl, Nat.le_of_ble_eq_true rfl⟩) hN hK hP hD hS hA [0, 7, 8] (by decide) rfl rfl rfl rfl rfl rfl hl.1 rfl (Nat.le_of_ble_eq_true rfl) dX12_operand_505 ⟨Nat.zero_le _, Nat.zero_le _⟩ (fun H locs hP hD hS => ?_)
      have hP : va_P (dC, dI) vwCl [(a_p0, .inr (12, oX12 r_1_0 mmJ_490 mmR)), ((mmR 33), .inl (cI, 20, .inl mm_frameF_490)), ((mmR 35), .inl (cZ, 20, .inl mm_beginsF_490)), ((mmR 40), .inl (cI, 500, .inl mm_opsF_490)), ((mmR 0), .inl (cI, 1800, .inl mm_tapeF)), ((mmR 34), .inl (cI, 20, .inl mm_phaseF_490)), ((mmR 37), .inl (cI, 20, .inl mm_baseF_490)), ((mmR 26), .inl (cI, 3200, .inl r_1_1)), ((mmR 27), .inl (cI, 3200, .inl r_1_2)), ((mmR 36), .inl (cI, 20, .inl mm_pairF_490))] H := hP
      have hD : va_D A [(a_p0, .inr (12, oX12 r_1_0 mmJ_490 mmR)), ((mmR 33), .inl (cI, 20, .inl mm_frameF_490)), ((mmR 35), .inl (cZ, 20, .inl mm_beginsF_490)), ((mmR 40), .inl (cI, 500, .inl mm_opsF_490)), ((mmR 0), .inl (cI, 1800, .inl mm_tapeF)), ((mmR 34), .inl (cI, 20, .inl mm_phaseF_490)), ((mmR 37), .inl (cI, 20, .inl mm_baseF_490)), ((mmR 26), .inl (cI, 3200, .inl r_1_1)), ((mmR 27), .inl (cI, 3200, .inl r_1_2)), ((mmR 36), .inl (cI, 20, .inl mm_pairF_490))] := hD
      refine W.eq (g2 := F0 m 508 ls []) rfl ?_
      refine lv_aload_n hx hb dX12_operand_508 rfl (lv_at hl 0 rfl) ?_
      obtain ⟨⟨r_3_0, r_3_1⟩, h_4, hf⟩ := xq_bd_some hf
      refine xq_callV (As := []) (rest := []) (ci := 12) (q0 := 0) ⟨hx, hb, hml, hown, hts⟩ (kX12_ahead l dC dI cI cB cJ cZ cM z ad N a_p0 r_1_0 mmJ_490 mmR mm_tapeF h_4) (cwV 0 hts gX12_operand_X12_ahead rfl rfl rfl (by decide +kernel) ⟨Nat.le_of_ble_eq_true rfl, Nat.le_of_ble_eq_true rfl⟩) hN hK hP hD hS hA [0, 4] (by decide) rfl rfl rfl rfl rfl rfl hl.1 rfl (Nat.le_of_ble_eq_true rfl) dX12_operand_509 ⟨Nat.zero_le _, Nat.zero_le _⟩ (fun H locs hP hD hS => ?_)
      have hP : va_P (dC, dI) vwCl [(a_p0, .inr (12, oX12 r_3_0 r_3_1 mmR)), ((mmR 33), .inl (cI, 20, .inl mm_frameF_490)), ((mmR 35), .inl (cZ, 20, .inl mm_beginsF_490)), ((mmR 40), .inl (cI, 500, .inl mm_opsF_490)), ((mmR 0), .inl (cI, 1800, .inl mm_tapeF)), ((mmR 34), .inl (cI, 20, .inl mm_phaseF_490)), ((mmR 37), .inl (cI, 20, .inl mm_baseF_490)), ((mmR 26), .inl (cI, 3200, .inl r_1_1)), ((mmR 27), .inl (cI, 3200, .inl r_1_2)), ((mmR 36), .inl (cI, 20, .inl mm_pairF_490))] H := hP
      have hD : va_D A [(a_p0, .inr (12, oX12 r_3_0 r_3_1 mmR)), ((mmR 33), .inl (cI, 20, .inl mm_frameF_490)), ((mmR 35), .inl (cZ, 20, .inl mm_beginsF_490)), ((mmR 40), .inl (cI, 500, .inl mm_opsF_490)), ((mmR 0), .inl (cI, 1800, .inl mm_tapeF)), ((mmR 34), .inl (cI, 20, .inl mm_phaseF_490)), ((mmR 37), .inl (cI, 20, .inl mm_baseF_490)), ((mmR 26), .inl (cI, 3200, .inl r_1_1)), ((mmR 27), .inl (cI, 3200, .inl r_1_2)), ((mmR 36), .inl (cI, 20, .inl mm_pairF_490))] := hD
      refine W.eq (g2 := F0 m 512 ls []) rfl ?_
      refine lv_iconst (v := 1) hx hb dX12_operand_512 (by decide) ?_
      have e9 := Option.some.inj hf
      have e9_0 : 1 = r0 := congrArg (fun t => t.1) e9
      have e9_1 : r_3_0 = r1 := congrArg (fun t => t.2.1) e9
      have e9_2 : r_3_1 = r2 := congrArg (fun t => t.2.2.1) e9
      have e9_3 : mm_frameF_490 = r3 := congrArg (fun t => t.2.2.2.1) e9
      have e9_4 : mm_beginsF_490 = r4 := congrArg (fun t => t.2.2.2.2.1) e9
      have e9_5 : mm_opsF_490 = r5 := congrArg (fun t => t.2.2.2.2.2.1) e9
      have e9_6 : mm_phaseF_490 = r6 := congrArg (fun t => t.2.2.2.2.2.2.1) e9
      have e9_7 : mm_baseF_490 = r7 := congrArg (fun t => t.2.2.2.2.2.2.2.1) e9
      have e9_8 : r_1_1 = r8 := congrArg (fun t => t.2.2.2.2.2.2.2.2.1) e9
      have e9_9 : r_1_2 = r9 := congrArg (fun t => t.2.2.2.2.2.2.2.2.2.1) e9
      have e9_10 : mm_pairF_490 = r10 := congrArg (fun t => t.2.2.2.2.2.2.2.2.2.2) e9
      clear e9 hf
      try clear b110
      try clear b137
      try clear b171
      try clear b217
      try clear b249
      try clear b276
      try clear b289
      try clear b441
      try clear b45
      try clear b46
      try clear b471
      try clear b476
      try clear b490
      try clear b79
      subst e9_0
      subst e9_1
      subst e9_2
      subst e9_3
      subst e9_4
      subst e9_5
      subst e9_6
      subst e9_7
      subst e9_8
      subst e9_9
      subst e9_10
      exact xq_zret hx hb hr (by decide +kernel) hlocks hK hP hD hS dX12_operand_513
    · have hf := xq_neg hf c_
      refine lv_iconst (v := 1) hx hb dX12_operand_497 (by decide) ?_
      have e9 := Option.some.inj hf
      have e9_0 : 1 = r0 := congrArg (fun t => t.1) e9
      have e9_1 : mmI_490 = r1 := congrArg (fun t => t.2.1) e9
      have e9_2 : mmJ_490 = r2 := congrArg (fun t => t.2.2.1) e9
      have e9_3 : mm_frameF_490 = r3 := congrArg (fun t => t.2.2.2.1) e9
      have e9_4 : mm_beginsF_490 = r4 := congrArg (fun t => t.2.2.2.2.1) e9
      have e9_5 : mm_opsF_490 = r5 := congrArg (fun t => t.2.2.2.2.2.1) e9
      have e9_6 : mm_phaseF_490 = r6 := congrArg (fun t => t.2.2.2.2.2.2.1) e9
      have e9_7 : mm_baseF_490 = r7 := congrArg (fun t => t.2.2.2.2.2.2.2.1) e9
      have e9_8 : mm_codeSortF_490 = r8 := congrArg (fun t => t.2.2.2.2.2.2.2.2.1) e9
      have e9_9 : mm_codeValueF_490 = r9 := congrArg (fun t => t.2.2.2.2.2.2.2.2.2.1) e9
      have e9_10 : mm_pairF_490 = r10 := congrArg (fun t => t.2.2.2.2.2.2.2.2.2.2) e9
      clear e9 hf
      try clear b110
      try clear b137
      try clear b171
      try clear b217
      try clear b249
      try clear b276
      try clear b289
      try clear b441
      try clear b45
      try clear b46
      try clear b471
      try clear b476
      try clear b490
      try clear b79
      subst e9_0
      subst e9_1
      subst e9_2
      subst e9_3
      subst e9_4
      subst e9_5
      subst e9_6
      subst e9_7
      subst e9_8
      subst e9_9
      subst e9_10
      exact xq_zret hx hb hr (by decide +kernel) hlocks hK hP hD hS dX12_operand_498
  have b476 : ∀ (mmI_476 : Nat → Int32) (mmJ_476 : Nat → Int64) (mm_frameF_476 : Nat → Int32) (mm_beginsF_476 : Nat → Int32) (mm_opsF_476 : Nat → Int32) (mm_phaseF_476 : Nat → Int32) (mm_baseF_476 : Nat → Int32) (mm_codeSortF_476 : Nat → Int32) (mm_codeValueF_476 : Nat → Int32) (mm_pairF_476 : Nat → Int32) (x3_476 : Int32) (ls : Array Slot) (H : Heap) (locs : List Loc), fX12_operand_b476 N mm_tapeF (mmI_476, mmJ_476, mm_frameF_476, mm_beginsF_476, mm_opsF_476, mm_phaseF_476, mm_baseF_476, mm_codeSortF_476, mm_codeValueF_476, mm_pairF_476, x3_476) = some (r0, r1, r2, r3, r4, r5, r6, r7, r8, r9, r10) → va_P (dC, dI) vwCl [(a_p0, .inr (12, oX12 mmI_476 mmJ_476 mmR)), ((mmR 33), .inl (cI, 20, .inl mm_frameF_476)), ((mmR 35), .inl (cZ, 20, .inl mm_beginsF_476)), ((mmR 40), .inl (cI, 500, .inl mm_opsF_476)), ((mmR 0), .inl (cI, 1800, .inl mm_tapeF)), ((mmR 34), .inl (cI, 20, .inl mm_phaseF_476)), ((mmR 37), .inl (cI, 20, .inl mm_baseF_476)), ((mmR 26), .inl (cI, 3200, .inl mm_codeSortF_476)), ((mmR 27), .inl (cI, 3200, .inl mm_codeValueF_476)), ((mmR 36), .inl (cI, 20, .inl mm_pairF_476))] H → va_D A [(a_p0, .inr (12, oX12 mmI_476 mmJ_476 mmR)), ((mmR 33), .inl (cI, 20, .inl mm_frameF_476)), ((mmR 35), .inl (cZ, 20, .inl mm_beginsF_476)), ((mmR 40), .inl (cI, 500, .inl mm_opsF_476)), ((mmR 0), .inl (cI, 1800, .inl mm_tapeF)), ((mmR 34), .inl (cI, 20, .inl mm_phaseF_476)), ((mmR 37), .inl (cI, 20, .inl mm_baseF_476)), ((mmR 26), .inl (cI, 3200, .inl mm_codeSortF_476)), ((mmR 27), .inl (cI, 3200, .inl mm_codeValueF_476)), ((mmR 36), .inl (cI, 20, .inl mm_pairF_476))] → va_S A s.heap H locs → lv_has ls 4 [(0, .ref a_p0), (3, .int x3_476)] → W p l e (headSpec wsX12_operand { frames := 3, cells := 0, slots := 0, locals := 66 }).room s m [.ref a_p0].toArray below meth c H locs 0 0 (MQ below (xq_Q (dC, dI) vwCl (xq_tys cI cB cJ cZ cM) A [(a_p0, .inr (12, oX12 r1 r2 mmR)), ((mmR 33), .inl (cI, 20, .inl r3)), ((mmR 35), .inl (cZ, 20, .inl r4)), ((mmR 40), .inl (cI, 500, .inl r5)), ((mmR 0), .inl (cI, 1800, .inl mm_tapeF)), ((mmR 34), .inl (cI, 20, .inl r6)), ((mmR 37), .inl (cI, 20, .inl r7)), ((mmR 26), .inl (cI, 3200, .inl r8)), ((mmR 27), .inl (cI, 3200, .inl r9)), ((mmR 36), .inl (cI, 20, .inl r10))] (some (.int r0))) [.ref a_p0].toArray s 0 0 A) (F0 m 476 ls []) := by
    intro mmI_476 mmJ_476 mm_frameF_476 mm_beginsF_476 mm_opsF_476 mm_phaseF_476 mm_baseF_476 mm_codeSortF_476 mm_codeValueF_476 mm_pairF_476 x3_476 ls H locs hf hP hD hS hl
    unfold fX12_operand_b476 at hf
    refine lv_iload_n hx hb dX12_operand_476 rfl (lv_at hl 1 rfl) ?_
    refine lv_iconst (v := (-1)) hx hb dX12_operand_477 (by decide) ?_
    refine lv_icmp_ne (tgt := 490) hx hb dX12_operand_478 (by decide) (fun c_ => ?_) (fun c_ => ?_)
    · have hf := xq_neg hf c_
      exact b490 mmI_476 mmJ_476 mm_frameF_476 mm_beginsF_476 mm_opsF_476 mm_phaseF_476 mm_baseF_476 mm_codeSortF_476 mm_codeValueF_476 mm_pairF_476 x3_476 _ _ _ hf hP hD hS (lv_sub hl [0, 1] rfl)
    · have hf := xq_pos hf c_
      refine lv_aload_n hx hb dX12_operand_481 rfl (lv_at hl 0 rfl) ?_
      refine lv_iconst (v := 1) hx hb dX12_operand_482 (by decide) ?_
      refine lv_aload_n hx hb dX12_operand_483 rfl (lv_at hl 0 rfl) ?_
      refine va_get (D := (dC, dI)) (ci := 12) (v := .int (mmI_476 4)) (C := RX12) (T := TX12) (N := 70) hx hb hts hinX12 hown hK hP 0 rfl rfl 4 (by decide) hw7 (fun _ h9 => h9) rfl dX12_operand_484 ?_
      obtain ⟨r_1, h_2, hf⟩ := xq_bd_some hf
      refine xq_callV (As := [.int 1, .int (mmI_476 4)]) (rest := []) (ci := 12) (q0 := 0) ⟨hx, hb, hml, hown, hts⟩ (kX12_blame l dC dI cI cB cJ cZ cM z ad N a_p0 mmI_476 mmJ_476 mmR 1 (mmI_476 4) h_2) (cwV 2 hts gX12_operand_X12_blame rfl rfl rfl (by decide +kernel) ⟨Nat.le_of_ble_eq_true rfl, Nat.le_of_ble_eq_true rfl⟩) hN hK hP hD hS hA [0] (by decide) rfl rfl rfl rfl rfl rfl hl.1 rfl (Nat.le_of_ble_eq_true rfl) dX12_operand_487 ⟨Nat.zero_le _, Nat.zero_le _⟩ (fun H locs hP hD hS => ?_)
      have hP : va_P (dC, dI) vwCl [(a_p0, .inr (12, oX12 r_1 mmJ_476 mmR)), ((mmR 33), .inl (cI, 20, .inl mm_frameF_476)), ((mmR 35), .inl (cZ, 20, .inl mm_beginsF_476)), ((mmR 40), .inl (cI, 500, .inl mm_opsF_476)), ((mmR 0), .inl (cI, 1800, .inl mm_tapeF)), ((mmR 34), .inl (cI, 20, .inl mm_phaseF_476)), ((mmR 37), .inl (cI, 20, .inl mm_baseF_476)), ((mmR 26), .inl (cI, 3200, .inl mm_codeSortF_476)), ((mmR 27), .inl (cI, 3200, .inl mm_codeValueF_476)), ((mmR 36), .inl (cI, 20, .inl mm_pairF_476))] H := hP
      have hD : va_D A [(a_p0, .inr (12, oX12 r_1 mmJ_476 mmR)), ((mmR 33), .inl (cI, 20, .inl mm_frameF_476)), ((mmR 35), .inl (cZ, 20, .inl mm_beginsF_476)), ((mmR 40), .inl (cI, 500, .inl mm_opsF_476)), ((mmR 0), .inl (cI, 1800, .inl mm_tapeF)), ((mmR 34), .inl (cI, 20, .inl mm_phaseF_476)), ((mmR 37), .inl (cI, 20, .inl mm_baseF_476)), ((mmR 26), .inl (cI, 3200, .inl mm_codeSortF_476)), ((mmR 27), .inl (cI, 3200, .inl mm_codeValueF_476)), ((mmR 36), .inl (cI, 20, .inl mm_pairF_476))] := hD
      refine W.eq (g2 := F0 m 490 ls []) rfl ?_
      exact b490 r_1 mmJ_476 mm_frameF_476 mm_beginsF_476 mm_opsF_476 mm_phaseF_476 mm_baseF_476 mm_codeSortF_476 mm_codeValueF_476 mm_pairF_476 x3_476 _ _ _ hf hP hD hS (lv_sub hl [0, 1] rfl)
  have b471 : ∀ (mmI_471 : Nat → Int32) (mmJ_471 : Nat → Int64) (mm_frameF_471 : Nat → Int32) (mm_beginsF_471 : Nat → Int32) (mm_opsF_471 : Nat → Int32) (mm_phaseF_471 : Nat → Int32) (mm_baseF_471 : Nat → Int32) (mm_codeSortF_471 : Nat → Int32) (mm_codeValueF_471 : Nat → Int32) (mm_pairF_471 : Nat → Int32) (x3_471 : Int32) (y0_471 : Int32) (y1_471 : Int32) (ls : Array Slot) (H : Heap) (locs : List Loc), fX12_operand_b471 N mm_tapeF (mmI_471, mmJ_471, mm_frameF_471, mm_beginsF_471, mm_opsF_471, mm_phaseF_471, mm_baseF_471, mm_codeSortF_471, mm_codeValueF_471, mm_pairF_471, x3_471, y0_471, y1_471) = some (r0, r1, r2, r3, r4, r5, r6, r7, r8, r9, r10) → va_P (dC, dI) vwCl [(a_p0, .inr (12, oX12 mmI_471 mmJ_471 mmR)), ((mmR 33), .inl (cI, 20, .inl mm_frameF_471)), ((mmR 35), .inl (cZ, 20, .inl mm_beginsF_471)), ((mmR 40), .inl (cI, 500, .inl mm_opsF_471)), ((mmR 0), .inl (cI, 1800, .inl mm_tapeF)), ((mmR 34), .inl (cI, 20, .inl mm_phaseF_471)), ((mmR 37), .inl (cI, 20, .inl mm_baseF_471)), ((mmR 26), .inl (cI, 3200, .inl mm_codeSortF_471)), ((mmR 27), .inl (cI, 3200, .inl mm_codeValueF_471)), ((mmR 36), .inl (cI, 20, .inl mm_pairF_471))] H → va_D A [(a_p0, .inr (12, oX12 mmI_471 mmJ_471 mmR)), ((mmR 33), .inl (cI, 20, .inl mm_frameF_471)), ((mmR 35), .inl (cZ, 20, .inl mm_beginsF_471)), ((mmR 40), .inl (cI, 500, .inl mm_opsF_471)), ((mmR 0), .inl (cI, 1800, .inl mm_tapeF)), ((mmR 34), .inl (cI, 20, .inl mm_phaseF_471)), ((mmR 37), .inl (cI, 20, .inl mm_baseF_471)), ((mmR 26), .inl (cI, 3200, .inl mm_codeSortF_471)), ((mmR 27), .inl (cI, 3200, .inl mm_codeValueF_471)), ((mmR 36), .inl (cI, 20, .inl mm_pairF_471))] → va_S A s.heap H locs → lv_has ls 4 [(0, .ref a_p0), (3, .int x3_471)] → W p l e (headSpec wsX12_operand { frames := 3, cells := 0, slots := 0, locals := 66 }).room s m [.ref a_p0].toArray below meth c H locs 0 0 (MQ below (xq_Q (dC, dI) vwCl (xq_tys cI cB cJ cZ cM) A [(a_p0, .inr (12, oX12 r1 r2 mmR)), ((mmR 33), .inl (cI, 20, .inl r3)), ((mmR 35), .inl (cZ, 20, .inl r4)), ((mmR 40), .inl (cI, 500, .inl r5)), ((mmR 0), .inl (cI, 1800, .inl mm_tapeF)), ((mmR 34), .inl (cI, 20, .inl r6)), ((mmR 37), .inl (cI, 20, .inl r7)), ((mmR 26), .inl (cI, 3200, .inl r8)), ((mmR 27), .inl (cI, 3200, .inl r9)), ((mmR 36), .inl (cI, 20, .inl r10))] (some (.int r0))) [.ref a_p0].toArray s 0 0 A) (F0 m 471 ls [.int y1_471, .int y0_471]) := by
    intro mmI_471 mmJ_471 mm_frameF_471 mm_beginsF_471 mm_opsF_471 mm_phaseF_471 mm_baseF_471 mm_codeSortF_471 mm_codeValueF_471 mm_pairF_471 x3_471 y0_471 y1_471 ls H locs hf hP hD hS hl
    unfold fX12_operand_b471 at hf
    refine lv_icmp_eq (tgt := 476) hx hb dX12_operand_471 (by decide) (fun c_ => ?_) (fun c_ => ?_)
    · have hf := xq_pos hf c_
      exact b476 mmI_471 mmJ_471 mm_frameF_471 mm_beginsF_471 mm_opsF_471 mm_phaseF_471 mm_baseF_471 mm_codeSortF_471 mm_codeValueF_471 mm_pairF_471 x3_471 _ _ _ hf hP hD hS (lv_sub hl [0, 1] rfl)
    · have hf := xq_neg hf c_
      refine lv_iconst (v := (-1)) hx hb dX12_operand_474 (by decide) ?_
      refine lv_istore_n (lv' := [(3, .int ((-1))), (0, .ref a_p0)]) hx hb dX12_operand_475 rfl hl (by decide) rfl (fun ls hl => ?_)
      exact b476 mmI_471 mmJ_471 mm_frameF_471 mm_beginsF_471 mm_opsF_471 mm_phaseF_471 mm_baseF_471 mm_codeSortF_471 mm_codeValueF_471 mm_pairF_471 ((-1)) _ _ _ hf hP hD hS (lv_sub hl [1, 0] rfl)
  have b441 : ∀ (mmI_441 : Nat → Int32) (mmJ_441 : Nat → Int64) (mm_frameF_441 : Nat → Int32) (mm_beginsF_441 : Nat → Int32) (mm_opsF_441 : Nat → Int32) (mm_phaseF_441 : Nat → Int32) (mm_baseF_441 : Nat → Int32) (mm_codeSortF_441 : Nat → Int32) (mm_codeValueF_441 : Nat → Int32) (mm_pairF_441 : Nat → Int32) (y0_441 : Int32) (ls : Array Slot) (H : Heap) (locs : List Loc), fX12_operand_b441 N mm_tapeF (mmI_441, mmJ_441, mm_frameF_441, mm_beginsF_441, mm_opsF_441, mm_phaseF_441, mm_baseF_441, mm_codeSortF_441, mm_codeValueF_441, mm_pairF_441, y0_441) = some (r0, r1, r2, r3, r4, r5, r6, r7, r8, r9, r10) → va_P (dC, dI) vwCl [(a_p0, .inr (12, oX12 mmI_441 mmJ_441 mmR)), ((mmR 33), .inl (cI, 20, .inl mm_frameF_441)), ((mmR 35), .inl (cZ, 20, .inl mm_beginsF_441)), ((mmR 40), .inl (cI, 500, .inl mm_opsF_441)), ((mmR 0), .inl (cI, 1800, .inl mm_tapeF)), ((mmR 34), .inl (cI, 20, .inl mm_phaseF_441)), ((mmR 37), .inl (cI, 20, .inl mm_baseF_441)), ((mmR 26), .inl (cI, 3200, .inl mm_codeSortF_441)), ((mmR 27), .inl (cI, 3200, .inl mm_codeValueF_441)), ((mmR 36), .inl (cI, 20, .inl mm_pairF_441))] H → va_D A [(a_p0, .inr (12, oX12 mmI_441 mmJ_441 mmR)), ((mmR 33), .inl (cI, 20, .inl mm_frameF_441)), ((mmR 35), .inl (cZ, 20, .inl mm_beginsF_441)), ((mmR 40), .inl (cI, 500, .inl mm_opsF_441)), ((mmR 0), .inl (cI, 1800, .inl mm_tapeF)), ((mmR 34), .inl (cI, 20, .inl mm_phaseF_441)), ((mmR 37), .inl (cI, 20, .inl mm_baseF_441)), ((mmR 26), .inl (cI, 3200, .inl mm_codeSortF_441)), ((mmR 27), .inl (cI, 3200, .inl mm_codeValueF_441)), ((mmR 36), .inl (cI, 20, .inl mm_pairF_441))] → va_S A s.heap H locs → lv_has ls 4 [(0, .ref a_p0)] → W p l e (headSpec wsX12_operand { frames := 3, cells := 0, slots := 0, locals := 66 }).room s m [.ref a_p0].toArray below meth c H locs 0 0 (MQ below (xq_Q (dC, dI) vwCl (xq_tys cI cB cJ cZ cM) A [(a_p0, .inr (12, oX12 r1 r2 mmR)), ((mmR 33), .inl (cI, 20, .inl r3)), ((mmR 35), .inl (cZ, 20, .inl r4)), ((mmR 40), .inl (cI, 500, .inl r5)), ((mmR 0), .inl (cI, 1800, .inl mm_tapeF)), ((mmR 34), .inl (cI, 20, .inl r6)), ((mmR 37), .inl (cI, 20, .inl r7)), ((mmR 26), .inl (cI, 3200, .inl r8)), ((mmR 27), .inl (cI, 3200, .inl r9)), ((mmR 36), .inl (cI, 20, .inl r10))] (some (.int r0))) [.ref a_p0].toArray s 0 0 A) (F0 m 441 ls [.int y0_441]) := by
    intro mmI_441 mmJ_441 mm_frameF_441 mm_beginsF_441 mm_opsF_441 mm_phaseF_441 mm_baseF_441 mm_codeSortF_441 mm_codeValueF_441 mm_pairF_441 y0_441 ls H locs hf hP hD hS hl
    unfold fX12_operand_b441 at hf
    refine lv_istore_n (lv' := [(3, .int y0_441), (0, .ref a_p0)]) hx hb dX12_operand_441 rfl hl (by decide) rfl (fun ls hl => ?_)
    refine lv_iload_n hx hb dX12_operand_442 rfl (lv_at hl 0 rfl) ?_
    refine lv_iconst (v := 3) hx hb dX12_operand_443 (by decide) ?_
    refine lv_icmp_lt (tgt := 476) hx hb dX12_operand_444 (by decide) (fun c_ => ?_) (fun c_ => ?_)
    · have hf := xq_pos hf c_
      exact b476 mmI_441 mmJ_441 mm_frameF_441 mm_beginsF_441 mm_opsF_441 mm_phaseF_441 mm_baseF_441 mm_codeSortF_441 mm_codeValueF_441 mm_pairF_441 y0_441 _ _ _ hf hP hD hS (lv_sub hl [1, 0] rfl)
    · have hf := xq_neg hf c_
      refine lv_aload_n hx hb dX12_operand_447 rfl (lv_at hl 1 rfl) ?_
      refine va_get (D := (dC, dI)) (ci := 12) (v := .int (mmI_441 32)) (C := RX12) (T := TX12) (N := 70) hx hb hts hinX12 hown hK hP 0 rfl rfl 32 (by decide) hw22 (fun _ h9 => h9) rfl dX12_operand_448 ?_
      refine lv_iload_n hx hb dX12_operand_451 rfl (lv_at hl 0 rfl) ?_
      refine lv_iconst (v := 4) hx hb dX12_operand_452 (by decide) ?_
      refine lv_icmp_gt (tgt := 460) hx hb dX12_operand_453 (by decide) (fun c_ => ?_) (fun c_ => ?_)
      · have hf := xq_pos hf c_
        refine lv_iload_n hx hb dX12_operand_460 rfl (lv_at hl 0 rfl) ?_
        refine lv_bipush (v := 7) hx hb dX12_operand_461 (by decide) ?_
        refine lv_icmp_gt (tgt := 470) hx hb dX12_operand_463 (by decide) (fun c_ => ?_) (fun c_ => ?_)
        · have hf := xq_pos hf c_
          refine lv_iconst (v := 2) hx hb dX12_operand_470 (by decide) ?_
          exact b471 mmI_441 mmJ_441 mm_frameF_441 mm_beginsF_441 mm_opsF_441 mm_phaseF_441 mm_baseF_441 mm_codeSortF_441 mm_codeValueF_441 mm_pairF_441 y0_441 (mmI_441 32) 2 _ _ _ hf hP hD hS (lv_sub hl [1, 0] rfl)
        · have hf := xq_neg hf c_
          refine lv_iconst (v := 1) hx hb dX12_operand_466 (by decide) ?_
          refine lv_goto (tgt := 471) hx hb dX12_operand_467 (by decide) ?_
          exact b471 mmI_441 mmJ_441 mm_frameF_441 mm_beginsF_441 mm_opsF_441 mm_phaseF_441 mm_baseF_441 mm_codeSortF_441 mm_codeValueF_441 mm_pairF_441 y0_441 (mmI_441 32) 1 _ _ _ hf hP hD hS (lv_sub hl [1, 0] rfl)
      · have hf := xq_neg hf c_
        refine lv_iconst (v := 0) hx hb dX12_operand_456 (by decide) ?_
        refine lv_goto (tgt := 471) hx hb dX12_operand_457 (by decide) ?_
        exact b471 mmI_441 mmJ_441 mm_frameF_441 mm_beginsF_441 mm_opsF_441 mm_phaseF_441 mm_baseF_441 mm_codeSortF_441 mm_codeValueF_441 mm_pairF_441 y0_441 (mmI_441 32) 0 _ _ _ hf hP hD hS (lv_sub hl [1, 0] rfl)
  have b289 : ∀ (mmI_289 : Nat → Int32) (mmJ_289 : Nat → Int64) (mm_frameF_289 : Nat → Int32) (mm_beginsF_289 : Nat → Int32) (mm_opsF_289 : Nat → Int32) (mm_phaseF_289 : Nat → Int32) (mm_baseF_289 : Nat → Int32) (mm_codeSortF_289 : Nat → Int32) (mm_codeValueF_289 : Nat → Int32) (mm_pairF_289 : Nat → Int32) (x3_289 : Int32) (y1_289 : Int32) (ls : Array Slot) (H : Heap) (locs : List Loc), fX12_operand_b289 N mm_tapeF (mmI_289, mmJ_289, mm_frameF_289, mm_beginsF_289, mm_opsF_289, mm_phaseF_289, mm_baseF_289, mm_codeSortF_289, mm_codeValueF_289, mm_pairF_289, x3_289, y1_289) = some (r0, r1, r2, r3, r4, r5, r6, r7, r8, r9, r10) → va_P (dC, dI) vwCl [(a_p0, .inr (12, oX12 mmI_289 mmJ_289 mmR)), ((mmR 33), .inl (cI, 20, .inl mm_frameF_289)), ((mmR 35), .inl (cZ, 20, .inl mm_beginsF_289)), ((mmR 40), .inl (cI, 500, .inl mm_opsF_289)), ((mmR 0), .inl (cI, 1800, .inl mm_tapeF)), ((mmR 34), .inl (cI, 20, .inl mm_phaseF_289)), ((mmR 37), .inl (cI, 20, .inl mm_baseF_289)), ((mmR 26), .inl (cI, 3200, .inl mm_codeSortF_289)), ((mmR 27), .inl (cI, 3200, .inl mm_codeValueF_289)), ((mmR 36), .inl (cI, 20, .inl mm_pairF_289))] H → va_D A [(a_p0, .inr (12, oX12 mmI_289 mmJ_289 mmR)), ((mmR 33), .inl (cI, 20, .inl mm_frameF_289)), ((mmR 35), .inl (cZ, 20, .inl mm_beginsF_289)), ((mmR 40), .inl (cI, 500, .inl mm_opsF_289)), ((mmR 0), .inl (cI, 1800, .inl mm_tapeF)), ((mmR 34), .inl (cI, 20, .inl mm_phaseF_289)), ((mmR 37), .inl (cI, 20, .inl mm_baseF_289)), ((mmR 26), .inl (cI, 3200, .inl mm_codeSortF_289)), ((mmR 27), .inl (cI, 3200, .inl mm_codeValueF_289)), ((mmR 36), .inl (cI, 20, .inl mm_pairF_289))] → va_S A s.heap H locs → lv_has ls 4 [(0, .ref a_p0), (3, .int x3_289)] → W p l e (headSpec wsX12_operand { frames := 3, cells := 0, slots := 0, locals := 66 }).room s m [.ref a_p0].toArray below meth c H locs 0 0 (MQ below (xq_Q (dC, dI) vwCl (xq_tys cI cB cJ cZ cM) A [(a_p0, .inr (12, oX12 r1 r2 mmR)), ((mmR 33), .inl (cI, 20, .inl r3)), ((mmR 35), .inl (cZ, 20, .inl r4)), ((mmR 40), .inl (cI, 500, .inl r5)), ((mmR 0), .inl (cI, 1800, .inl mm_tapeF)), ((mmR 34), .inl (cI, 20, .inl r6)), ((mmR 37), .inl (cI, 20, .inl r7)), ((mmR 26), .inl (cI, 3200, .inl r8)), ((mmR 27), .inl (cI, 3200, .inl r9)), ((mmR 36), .inl (cI, 20, .inl r10))] (some (.int r0))) [.ref a_p0].toArray s 0 0 A) (F0 m 289 ls [.int y1_289, .ref a_p0]) := by
    intro mmI_289 mmJ_289 mm_frameF_289 mm_beginsF_289 mm_opsF_289 mm_phaseF_289 mm_baseF_289 mm_codeSortF_289 mm_codeValueF_289 mm_pairF_289 x3_289 y1_289 ls H locs hf hP hD hS hl
    unfold fX12_operand_b289 at hf
    obtain ⟨⟨r_1_0, r_1_1, r_1_2, r_1_3, r_1_4, r_1_5⟩, h_2, hf⟩ := xq_bd_some hf
    refine xq_callV (As := [.int y1_289]) (rest := []) (ci := 12) (q0 := 0) ⟨hx, hb, hml, hown, hts⟩ (kX12_opens l dC dI cI cB cJ cZ cM z ad N a_p0 mmI_289 mmJ_289 mmR mm_tapeF mm_frameF_289 mm_phaseF_289 mm_beginsF_289 mm_baseF_289 y1_289 h_2) (cwV 1 hts gX12_operand_X12_opens rfl rfl rfl (by decide +kernel) ⟨Nat.le_of_ble_eq_true rfl, Nat.le_of_ble_eq_true rfl⟩) hN hK hP hD hS hA [0, 4, 1, 5, 2, 6] (by decide) rfl rfl rfl rfl rfl rfl hl.1 rfl (Nat.le_of_ble_eq_true rfl) dX12_operand_289 ⟨Nat.zero_le _, Nat.zero_le _⟩ (fun H locs hP hD hS => ?_)
    have hP : va_P (dC, dI) vwCl [(a_p0, .inr (12, oX12 r_1_0 r_1_1 mmR)), ((mmR 33), .inl (cI, 20, .inl r_1_2)), ((mmR 35), .inl (cZ, 20, .inl r_1_4)), ((mmR 40), .inl (cI, 500, .inl mm_opsF_289)), ((mmR 0), .inl (cI, 1800, .inl mm_tapeF)), ((mmR 34), .inl (cI, 20, .inl r_1_3)), ((mmR 37), .inl (cI, 20, .inl r_1_5)), ((mmR 26), .inl (cI, 3200, .inl mm_codeSortF_289)), ((mmR 27), .inl (cI, 3200, .inl mm_codeValueF_289)), ((mmR 36), .inl (cI, 20, .inl mm_pairF_289))] H := hP
    have hD : va_D A [(a_p0, .inr (12, oX12 r_1_0 r_1_1 mmR)), ((mmR 33), .inl (cI, 20, .inl r_1_2)), ((mmR 35), .inl (cZ, 20, .inl r_1_4)), ((mmR 40), .inl (cI, 500, .inl mm_opsF_289)), ((mmR 0), .inl (cI, 1800, .inl mm_tapeF)), ((mmR 34), .inl (cI, 20, .inl r_1_3)), ((mmR 37), .inl (cI, 20, .inl r_1_5)), ((mmR 26), .inl (cI, 3200, .inl mm_codeSortF_289)), ((mmR 27), .inl (cI, 3200, .inl mm_codeValueF_289)), ((mmR 36), .inl (cI, 20, .inl mm_pairF_289))] := hD
    refine W.eq (g2 := F0 m 292 ls []) rfl ?_
    refine lv_aload_n hx hb dX12_operand_292 rfl (lv_at hl 0 rfl) ?_
    refine va_get (D := (dC, dI)) (ci := 12) (v := .int (r_1_0 8)) (C := RX12) (T := TX12) (N := 70) hx hb hts hinX12 hown hK hP 0 rfl rfl 8 (by decide) hw0 (fun _ h9 => h9) rfl dX12_operand_293 ?_
    refine lv_if_ne (tgt := 311) hx hb dX12_operand_296 (by decide) (fun c_ => ?_) (fun c_ => ?_)
    · have hf := xq_neg hf c_
      refine lv_iconst (v := 0) hx hb dX12_operand_311 (by decide) ?_
      have e9 := Option.some.inj hf
      have e9_0 : 0 = r0 := congrArg (fun t => t.1) e9
      have e9_1 : r_1_0 = r1 := congrArg (fun t => t.2.1) e9
      have e9_2 : r_1_1 = r2 := congrArg (fun t => t.2.2.1) e9
      have e9_3 : r_1_2 = r3 := congrArg (fun t => t.2.2.2.1) e9
      have e9_4 : r_1_4 = r4 := congrArg (fun t => t.2.2.2.2.1) e9
      have e9_5 : mm_opsF_289 = r5 := congrArg (fun t => t.2.2.2.2.2.1) e9
      have e9_6 : r_1_3 = r6 := congrArg (fun t => t.2.2.2.2.2.2.1) e9
      have e9_7 : r_1_5 = r7 := congrArg (fun t => t.2.2.2.2.2.2.2.1) e9
      have e9_8 : mm_codeSortF_289 = r8 := congrArg (fun t => t.2.2.2.2.2.2.2.2.1) e9
      have e9_9 : mm_codeValueF_289 = r9 := congrArg (fun t => t.2.2.2.2.2.2.2.2.2.1) e9
      have e9_10 : mm_pairF_289 = r10 := congrArg (fun t => t.2.2.2.2.2.2.2.2.2.2) e9
      clear e9 hf
      try clear b110
      try clear b137
      try clear b171
      try clear b217
      try clear b249
      try clear b276
      try clear b289
      try clear b441
      try clear b45
      try clear b46
      try clear b471
      try clear b476
      try clear b490
      try clear b79
      subst e9_0
      subst e9_1
      subst e9_2
      subst e9_3
      subst e9_4
      subst e9_5
      subst e9_6
      subst e9_7
      subst e9_8
      subst e9_9
      subst e9_10
      exact xq_zret hx hb hr (by decide +kernel) hlocks hK hP hD hS dX12_operand_312
    · have hf := xq_pos hf c_
      refine lv_aload_n hx hb dX12_operand_299 rfl (lv_at hl 0 rfl) ?_
      refine va_get (D := (dC, dI)) (ci := 12) (v := .ref ((mmR 36))) (C := RX12) (T := TX12) (N := 70) hx hb hts hinX12 hown hK hP 0 rfl rfl 36 (by decide) hw24 (fun _ h9 => h9) rfl dX12_operand_300 ?_
      refine lv_aload_n hx hb dX12_operand_303 rfl (lv_at hl 0 rfl) ?_
      refine va_get (D := (dC, dI)) (ci := 12) (v := .int (r_1_0 38)) (C := RX12) (T := TX12) (N := 70) hx hb hts hinX12 hown hK hP 0 rfl rfl 38 (by decide) hw2 (fun _ h9 => h9) rfl dX12_operand_304 ?_
      refine lv_iconst (v := 1) hx hb dX12_operand_307 (by decide) ?_
      refine lv_isub hx hb dX12_operand_308 ?_
      refine lv_iload_n hx hb dX12_operand_309 rfl (lv_at hl 1 rfl) ?_
      refine xq_iast hx hb hK hP hD hS 9 0 rfl rfl hf dX12_operand_310 (fun g_3 H locs hf hP hD hS => ?_)
      have hP : va_P (dC, dI) vwCl [(a_p0, .inr (12, oX12 r_1_0 r_1_1 mmR)), ((mmR 33), .inl (cI, 20, .inl r_1_2)), ((mmR 35), .inl (cZ, 20, .inl r_1_4)), ((mmR 40), .inl (cI, 500, .inl mm_opsF_289)), ((mmR 0), .inl (cI, 1800, .inl mm_tapeF)), ((mmR 34), .inl (cI, 20, .inl r_1_3)), ((mmR 37), .inl (cI, 20, .inl r_1_5)), ((mmR 26), .inl (cI, 3200, .inl mm_codeSortF_289)), ((mmR 27), .inl (cI, 3200, .inl mm_codeValueF_289)), ((mmR 36), .inl (cI, 20, .inl g_3))] H := hP
      have hD : va_D A [(a_p0, .inr (12, oX12 r_1_0 r_1_1 mmR)), ((mmR 33), .inl (cI, 20, .inl r_1_2)), ((mmR 35), .inl (cZ, 20, .inl r_1_4)), ((mmR 40), .inl (cI, 500, .inl mm_opsF_289)), ((mmR 0), .inl (cI, 1800, .inl mm_tapeF)), ((mmR 34), .inl (cI, 20, .inl r_1_3)), ((mmR 37), .inl (cI, 20, .inl r_1_5)), ((mmR 26), .inl (cI, 3200, .inl mm_codeSortF_289)), ((mmR 27), .inl (cI, 3200, .inl mm_codeValueF_289)), ((mmR 36), .inl (cI, 20, .inl g_3))] := hD
      refine lv_iconst (v := 0) hx hb dX12_operand_311 (by decide) ?_
      have e9 := Option.some.inj hf
      have e9_0 : 0 = r0 := congrArg (fun t => t.1) e9
      have e9_1 : r_1_0 = r1 := congrArg (fun t => t.2.1) e9
      have e9_2 : r_1_1 = r2 := congrArg (fun t => t.2.2.1) e9
      have e9_3 : r_1_2 = r3 := congrArg (fun t => t.2.2.2.1) e9
      have e9_4 : r_1_4 = r4 := congrArg (fun t => t.2.2.2.2.1) e9
      have e9_5 : mm_opsF_289 = r5 := congrArg (fun t => t.2.2.2.2.2.1) e9
      have e9_6 : r_1_3 = r6 := congrArg (fun t => t.2.2.2.2.2.2.1) e9
      have e9_7 : r_1_5 = r7 := congrArg (fun t => t.2.2.2.2.2.2.2.1) e9
      have e9_8 : mm_codeSortF_289 = r8 := congrArg (fun t => t.2.2.2.2.2.2.2.2.1) e9
      have e9_9 : mm_codeValueF_289 = r9 := congrArg (fun t => t.2.2.2.2.2.2.2.2.2.1) e9
      have e9_10 : g_3 = r10 := congrArg (fun t => t.2.2.2.2.2.2.2.2.2.2) e9
      clear e9 hf
      try clear b110
      try clear b137
      try clear b171
      try clear b217
      try clear b249
      try clear b276
      try clear b289
      try clear b441
      try clear b45
      try clear b46
      try clear b471
      try clear b476
      try clear b490
      try clear b79
      subst e9_0
      subst e9_1
      subst e9_2
      subst e9_3
      subst e9_4
      subst e9_5
      subst e9_6
      subst e9_7
      subst e9_8
      subst e9_9
      subst e9_10
      exact xq_zret hx hb hr (by decide +kernel) hlocks hK hP hD hS dX12_operand_312
  have b276 : ∀ (mmI_276 : Nat → Int32) (mmJ_276 : Nat → Int64) (mm_frameF_276 : Nat → Int32) (mm_beginsF_276 : Nat → Int32) (mm_opsF_276 : Nat → Int32) (mm_phaseF_276 : Nat → Int32) (mm_baseF_276 : Nat → Int32) (mm_codeSortF_276 : Nat → Int32) (mm_codeValueF_276 : Nat → Int32) (mm_pairF_276 : Nat → Int32) (x3_276 : Int32) (ls : Array Slot) (H : Heap) (locs : List Loc), fX12_operand_b276 N mm_tapeF (mmI_276, mmJ_276, mm_frameF_276, mm_beginsF_276, mm_opsF_276, mm_phaseF_276, mm_baseF_276, mm_codeSortF_276, mm_codeValueF_276, mm_pairF_276, x3_276) = some (r0, r1, r2, r3, r4, r5, r6, r7, r8, r9, r10) → va_P (dC, dI) vwCl [(a_p0, .inr (12, oX12 mmI_276 mmJ_276 mmR)), ((mmR 33), .inl (cI, 20, .inl mm_frameF_276)), ((mmR 35), .inl (cZ, 20, .inl mm_beginsF_276)), ((mmR 40), .inl (cI, 500, .inl mm_opsF_276)), ((mmR 0), .inl (cI, 1800, .inl mm_tapeF)), ((mmR 34), .inl (cI, 20, .inl mm_phaseF_276)), ((mmR 37), .inl (cI, 20, .inl mm_baseF_276)), ((mmR 26), .inl (cI, 3200, .inl mm_codeSortF_276)), ((mmR 27), .inl (cI, 3200, .inl mm_codeValueF_276)), ((mmR 36), .inl (cI, 20, .inl mm_pairF_276))] H → va_D A [(a_p0, .inr (12, oX12 mmI_276 mmJ_276 mmR)), ((mmR 33), .inl (cI, 20, .inl mm_frameF_276)), ((mmR 35), .inl (cZ, 20, .inl mm_beginsF_276)), ((mmR 40), .inl (cI, 500, .inl mm_opsF_276)), ((mmR 0), .inl (cI, 1800, .inl mm_tapeF)), ((mmR 34), .inl (cI, 20, .inl mm_phaseF_276)), ((mmR 37), .inl (cI, 20, .inl mm_baseF_276)), ((mmR 26), .inl (cI, 3200, .inl mm_codeSortF_276)), ((mmR 27), .inl (cI, 3200, .inl mm_codeValueF_276)), ((mmR 36), .inl (cI, 20, .inl mm_pairF_276))] → va_S A s.heap H locs → lv_has ls 4 [(0, .ref a_p0), (3, .int x3_276)] → W p l e (headSpec wsX12_operand { frames := 3, cells := 0, slots := 0, locals := 66 }).room s m [.ref a_p0].toArray below meth c H locs 0 0 (MQ below (xq_Q (dC, dI) vwCl (xq_tys cI cB cJ cZ cM) A [(a_p0, .inr (12, oX12 r1 r2 mmR)), ((mmR 33), .inl (cI, 20, .inl r3)), ((mmR 35), .inl (cZ, 20, .inl r4)), ((mmR 40), .inl (cI, 500, .inl r5)), ((mmR 0), .inl (cI, 1800, .inl mm_tapeF)), ((mmR 34), .inl (cI, 20, .inl r6)), ((mmR 37), .inl (cI, 20, .inl r7)), ((mmR 26), .inl (cI, 3200, .inl r8)), ((mmR 27), .inl (cI, 3200, .inl r9)), ((mmR 36), .inl (cI, 20, .inl r10))] (some (.int r0))) [.ref a_p0].toArray s 0 0 A) (F0 m 276 ls []) := by
    intro mmI_276 mmJ_276 mm_frameF_276 mm_beginsF_276 mm_opsF_276 mm_phaseF_276 mm_baseF_276 mm_codeSortF_276 mm_codeValueF_276 mm_pairF_276 x3_276 ls H locs hf hP hD hS hl
    unfold fX12_operand_b276 at hf
    refine lv_aload_n hx hb dX12_operand_276 rfl (lv_at hl 0 rfl) ?_
    refine lv_iload_n hx hb dX12_operand_277 rfl (lv_at hl 1 rfl) ?_
    refine lv_bipush (v := 44) hx hb dX12_operand_278 (by decide) ?_
    refine lv_icmp_ne (tgt := 288) hx hb dX12_operand_280 (by decide) (fun c_ => ?_) (fun c_ => ?_)
    · have hf := xq_neg hf c_
      refine lv_iconst (v := 3) hx hb dX12_operand_288 (by decide) ?_
      exact b289 mmI_276 mmJ_276 mm_frameF_276 mm_beginsF_276 mm_opsF_276 mm_phaseF_276 mm_baseF_276 mm_codeSortF_276 mm_codeValueF_276 mm_pairF_276 x3_276 3 _ _ _ hf hP hD hS (lv_sub hl [0, 1] rfl)
    · have hf := xq_pos hf c_
      refine lv_bipush (v := 6) hx hb dX12_operand_283 (by decide) ?_
      refine lv_goto (tgt := 289) hx hb dX12_operand_285 (by decide) ?_
      exact b289 mmI_276 mmJ_276 mm_frameF_276 mm_beginsF_276 mm_opsF_276 mm_phaseF_276 mm_baseF_276 mm_codeSortF_276 mm_codeValueF_276 mm_pairF_276 x3_276 6 _ _ _ hf hP hD hS (lv_sub hl [0, 1] rfl)
  have b249 : ∀ (mmI_249 : Nat → Int32) (mmJ_249 : Nat → Int64) (mm_frameF_249 : Nat → Int32) (mm_beginsF_249 : Nat → Int32) (mm_opsF_249 : Nat → Int32) (mm_phaseF_249 : Nat → Int32) (mm_baseF_249 : Nat → Int32) (mm_codeSortF_249 : Nat → Int32) (mm_codeValueF_249 : Nat → Int32) (mm_pairF_249 : Nat → Int32) (y0_249 : Int32) (ls : Array Slot) (H : Heap) (locs : List Loc), fX12_operand_b249 N mm_tapeF (mmI_249, mmJ_249, mm_frameF_249, mm_beginsF_249, mm_opsF_249, mm_phaseF_249, mm_baseF_249, mm_codeSortF_249, mm_codeValueF_249, mm_pairF_249, y0_249) = some (r0, r1, r2, r3, r4, r5, r6, r7, r8, r9, r10) → va_P (dC, dI) vwCl [(a_p0, .inr (12, oX12 mmI_249 mmJ_249 mmR)), ((mmR 33), .inl (cI, 20, .inl mm_frameF_249)), ((mmR 35), .inl (cZ, 20, .inl mm_beginsF_249)), ((mmR 40), .inl (cI, 500, .inl mm_opsF_249)), ((mmR 0), .inl (cI, 1800, .inl mm_tapeF)), ((mmR 34), .inl (cI, 20, .inl mm_phaseF_249)), ((mmR 37), .inl (cI, 20, .inl mm_baseF_249)), ((mmR 26), .inl (cI, 3200, .inl mm_codeSortF_249)), ((mmR 27), .inl (cI, 3200, .inl mm_codeValueF_249)), ((mmR 36), .inl (cI, 20, .inl mm_pairF_249))] H → va_D A [(a_p0, .inr (12, oX12 mmI_249 mmJ_249 mmR)), ((mmR 33), .inl (cI, 20, .inl mm_frameF_249)), ((mmR 35), .inl (cZ, 20, .inl mm_beginsF_249)), ((mmR 40), .inl (cI, 500, .inl mm_opsF_249)), ((mmR 0), .inl (cI, 1800, .inl mm_tapeF)), ((mmR 34), .inl (cI, 20, .inl mm_phaseF_249)), ((mmR 37), .inl (cI, 20, .inl mm_baseF_249)), ((mmR 26), .inl (cI, 3200, .inl mm_codeSortF_249)), ((mmR 27), .inl (cI, 3200, .inl mm_codeValueF_249)), ((mmR 36), .inl (cI, 20, .inl mm_pairF_249))] → va_S A s.heap H locs → lv_has ls 4 [(0, .ref a_p0)] → W p l e (headSpec wsX12_operand { frames := 3, cells := 0, slots := 0, locals := 66 }).room s m [.ref a_p0].toArray below meth c H locs 0 0 (MQ below (xq_Q (dC, dI) vwCl (xq_tys cI cB cJ cZ cM) A [(a_p0, .inr (12, oX12 r1 r2 mmR)), ((mmR 33), .inl (cI, 20, .inl r3)), ((mmR 35), .inl (cZ, 20, .inl r4)), ((mmR 40), .inl (cI, 500, .inl r5)), ((mmR 0), .inl (cI, 1800, .inl mm_tapeF)), ((mmR 34), .inl (cI, 20, .inl r6)), ((mmR 37), .inl (cI, 20, .inl r7)), ((mmR 26), .inl (cI, 3200, .inl r8)), ((mmR 27), .inl (cI, 3200, .inl r9)), ((mmR 36), .inl (cI, 20, .inl r10))] (some (.int r0))) [.ref a_p0].toArray s 0 0 A) (F0 m 249 ls [.int y0_249]) := by
    intro mmI_249 mmJ_249 mm_frameF_249 mm_beginsF_249 mm_opsF_249 mm_phaseF_249 mm_baseF_249 mm_codeSortF_249 mm_codeValueF_249 mm_pairF_249 y0_249 ls H locs hf hP hD hS hl
    unfold fX12_operand_b249 at hf
    refine lv_istore_n (lv' := [(3, .int y0_249), (0, .ref a_p0)]) hx hb dX12_operand_249 rfl hl (by decide) rfl (fun ls hl => ?_)
    refine lv_aload_n hx hb dX12_operand_250 rfl (lv_at hl 1 rfl) ?_
    obtain ⟨⟨r_1_0, r_1_1⟩, h_2, hf⟩ := xq_bd_some hf
    refine xq_callV (As := []) (rest := []) (ci := 12) (q0 := 0) ⟨hx, hb, hml, hown, hts⟩ (kX12_ahead l dC dI cI cB cJ cZ cM z ad N a_p0 mmI_249 mmJ_249 mmR mm_tapeF h_2) (cwV 0 hts gX12_operand_X12_ahead rfl rfl rfl (by decide +kernel) ⟨Nat.le_of_ble_eq_true rfl, Nat.le_of_ble_eq_true rfl⟩) hN hK hP hD hS hA [0, 4] (by decide) rfl rfl rfl rfl rfl rfl hl.1 rfl (Nat.le_of_ble_eq_true rfl) dX12_operand_251 ⟨Nat.zero_le _, Nat.zero_le _⟩ (fun H locs hP hD hS => ?_)
    have hP : va_P (dC, dI) vwCl [(a_p0, .inr (12, oX12 r_1_0 r_1_1 mmR)), ((mmR 33), .inl (cI, 20, .inl mm_frameF_249)), ((mmR 35), .inl (cZ, 20, .inl mm_beginsF_249)), ((mmR 40), .inl (cI, 500, .inl mm_opsF_249)), ((mmR 0), .inl (cI, 1800, .inl mm_tapeF)), ((mmR 34), .inl (cI, 20, .inl mm_phaseF_249)), ((mmR 37), .inl (cI, 20, .inl mm_baseF_249)), ((mmR 26), .inl (cI, 3200, .inl mm_codeSortF_249)), ((mmR 27), .inl (cI, 3200, .inl mm_codeValueF_249)), ((mmR 36), .inl (cI, 20, .inl mm_pairF_249))] H := hP
    have hD : va_D A [(a_p0, .inr (12, oX12 r_1_0 r_1_1 mmR)), ((mmR 33), .inl (cI, 20, .inl mm_frameF_249)), ((mmR 35), .inl (cZ, 20, .inl mm_beginsF_249)), ((mmR 40), .inl (cI, 500, .inl mm_opsF_249)), ((mmR 0), .inl (cI, 1800, .inl mm_tapeF)), ((mmR 34), .inl (cI, 20, .inl mm_phaseF_249)), ((mmR 37), .inl (cI, 20, .inl mm_baseF_249)), ((mmR 26), .inl (cI, 3200, .inl mm_codeSortF_249)), ((mmR 27), .inl (cI, 3200, .inl mm_codeValueF_249)), ((mmR 36), .inl (cI, 20, .inl mm_pairF_249))] := hD
    refine W.eq (g2 := F0 m 254 ls []) rfl ?_
    refine lv_aload_n hx hb dX12_operand_254 rfl (lv_at hl 1 rfl) ?_
    obtain ⟨r_3, h_4, hf⟩ := xq_bd_some hf
    refine xq_callV (As := []) (rest := []) (ci := 12) (q0 := 0) ⟨hx, hb, hml, hown, hts⟩ (kX12_lex l dC dI cI cB cJ cZ cM z ad N a_p0 r_1_0 r_1_1 mmR h_4) (cwV 0 hts gX12_operand_X12_lex rfl rfl rfl (by decide +kernel) ⟨Nat.le_of_ble_eq_true rfl, Nat.le_of_ble_eq_true rfl⟩) hN hK hP hD hS hA [0] (by decide) rfl rfl rfl rfl rfl rfl hl.1 rfl (Nat.le_of_ble_eq_true rfl) dX12_operand_255 ⟨Nat.zero_le _, Nat.zero_le _⟩ (fun H locs hP hD hS => ?_)
    have hP : va_P (dC, dI) vwCl [(a_p0, .inr (12, oX12 r_3 r_1_1 mmR)), ((mmR 33), .inl (cI, 20, .inl mm_frameF_249)), ((mmR 35), .inl (cZ, 20, .inl mm_beginsF_249)), ((mmR 40), .inl (cI, 500, .inl mm_opsF_249)), ((mmR 0), .inl (cI, 1800, .inl mm_tapeF)), ((mmR 34), .inl (cI, 20, .inl mm_phaseF_249)), ((mmR 37), .inl (cI, 20, .inl mm_baseF_249)), ((mmR 26), .inl (cI, 3200, .inl mm_codeSortF_249)), ((mmR 27), .inl (cI, 3200, .inl mm_codeValueF_249)), ((mmR 36), .inl (cI, 20, .inl mm_pairF_249))] H := hP
    have hD : va_D A [(a_p0, .inr (12, oX12 r_3 r_1_1 mmR)), ((mmR 33), .inl (cI, 20, .inl mm_frameF_249)), ((mmR 35), .inl (cZ, 20, .inl mm_beginsF_249)), ((mmR 40), .inl (cI, 500, .inl mm_opsF_249)), ((mmR 0), .inl (cI, 1800, .inl mm_tapeF)), ((mmR 34), .inl (cI, 20, .inl mm_phaseF_249)), ((mmR 37), .inl (cI, 20, .inl mm_baseF_249)), ((mmR 26), .inl (cI, 3200, .inl mm_codeSortF_249)), ((mmR 27), .inl (cI, 3200, .inl mm_codeValueF_249)), ((mmR 36), .inl (cI, 20, .inl mm_pairF_249))] := hD
    refine W.eq (g2 := F0 m 258 ls []) rfl ?_
    refine lv_aload_n hx hb dX12_operand_258 rfl (lv_at hl 1 rfl) ?_
    refine lv_bipush (v := 40) hx hb dX12_operand_259 (by decide) ?_
    obtain ⟨r_5, h_6, hf⟩ := xq_bd_some hf
    refine xq_callV (As := [.int 40]) (rest := []) (ci := 12) (q0 := 0) ⟨hx, hb, hml, hown, hts⟩ (kX12_isSign l dC dI cI cB cJ cZ cM z ad N a_p0 r_3 r_1_1 mmR 40 h_6) (cwV 1 hts gX12_operand_X12_isSign rfl rfl rfl (by decide +kernel) ⟨Nat.le_of_ble_eq_true rfl, Nat.le_of_ble_eq_true rfl⟩) hN hK hP hD hS hA [0] (by decide) rfl rfl rfl rfl rfl rfl hl.1 rfl (Nat.le_of_ble_eq_true rfl) dX12_operand_261 ⟨Nat.zero_le _, Nat.zero_le _⟩ (fun H locs hP hD hS => ?_)
    have hP : va_P (dC, dI) vwCl [(a_p0, .inr (12, oX12 r_3 r_1_1 mmR)), ((mmR 33), .inl (cI, 20, .inl mm_frameF_249)), ((mmR 35), .inl (cZ, 20, .inl mm_beginsF_249)), ((mmR 40), .inl (cI, 500, .inl mm_opsF_249)), ((mmR 0), .inl (cI, 1800, .inl mm_tapeF)), ((mmR 34), .inl (cI, 20, .inl mm_phaseF_249)), ((mmR 37), .inl (cI, 20, .inl mm_baseF_249)), ((mmR 26), .inl (cI, 3200, .inl mm_codeSortF_249)), ((mmR 27), .inl (cI, 3200, .inl mm_codeValueF_249)), ((mmR 36), .inl (cI, 20, .inl mm_pairF_249))] H := hP
    have hD : va_D A [(a_p0, .inr (12, oX12 r_3 r_1_1 mmR)), ((mmR 33), .inl (cI, 20, .inl mm_frameF_249)), ((mmR 35), .inl (cZ, 20, .inl mm_beginsF_249)), ((mmR 40), .inl (cI, 500, .inl mm_opsF_249)), ((mmR 0), .inl (cI, 1800, .inl mm_tapeF)), ((mmR 34), .inl (cI, 20, .inl mm_phaseF_249)), ((mmR 37), .inl (cI, 20, .inl mm_baseF_249)), ((mmR 26), .inl (cI, 3200, .inl mm_codeSortF_249)), ((mmR 27), .inl (cI, 3200, .inl mm_codeValueF_249)), ((mmR 36), .inl (cI, 20, .inl mm_pairF_249))] := hD
    refine W.eq (g2 := F0 m 264 ls [.int r_5]) rfl ?_
    refine lv_if_ne (tgt := 276) hx hb dX12_operand_264 (by decide) (fun c_ => ?_) (fun c_ => ?_)
    · have hf := xq_neg hf c_
      exact b276 r_3 r_1_1 mm_frameF_249 mm_beginsF_249 mm_opsF_249 mm_phaseF_249 mm_baseF_249 mm_codeSortF_249 mm_codeValueF_249 mm_pairF_249 y0_249 _ _ _ hf hP hD hS (lv_sub hl [1, 0] rfl)
    · have hf := xq_pos hf c_
      refine lv_aload_n hx hb dX12_operand_267 rfl (lv_at hl 1 rfl) ?_
      refine lv_iconst (v := 1) hx hb dX12_operand_268 (by decide) ?_
      refine lv_aload_n hx hb dX12_operand_269 rfl (lv_at hl 1 rfl) ?_
      refine va_get (D := (dC, dI)) (ci := 12) (v := .int (r_3 4)) (C := RX12) (T := TX12) (N := 70) hx hb hts hinX12 hown hK hP 0 rfl rfl 4 (by decide) hw7 (fun _ h9 => h9) rfl dX12_operand_270 ?_
      obtain ⟨r_7, h_8, hf⟩ := xq_bd_some hf
      refine xq_callV (As := [.int 1, .int (r_3 4)]) (rest := []) (ci := 12) (q0 := 0) ⟨hx, hb, hml, hown, hts⟩ (kX12_blame l dC dI cI cB cJ cZ cM z ad N a_p0 r_3 r_1_1 mmR 1 (r_3 4) h_8) (cwV 2 hts gX12_operand_X12_blame rfl rfl rfl (by decide +kernel) ⟨Nat.le_of_ble_eq_true rfl, Nat.le_of_ble_eq_true rfl⟩) hN hK hP hD hS hA [0] (by decide) rfl rfl rfl rfl rfl rfl hl.1 rfl (Nat.le_of_ble_eq_true rfl) dX12_operand_273 ⟨Nat.zero_le _, Nat.zero_le _⟩ (fun H locs hP hD hS => ?_)
      have hP : va_P (dC, dI) vwCl [(a_p0, .inr (12, oX12 r_7 r_1_1 mmR)), ((mmR 33), .inl (cI, 20, .inl mm_frameF_249)), ((mmR 35), .inl (cZ, 20, .inl mm_beginsF_249)), ((mmR 40), .inl (cI, 500, .inl mm_opsF_249)), ((mmR 0), .inl (cI, 1800, .inl mm_tapeF)), ((mmR 34), .inl (cI, 20, .inl mm_phaseF_249)), ((mmR 37), .inl (cI, 20, .inl mm_baseF_249)), ((mmR 26), .inl (cI, 3200, .inl mm_codeSortF_249)), ((mmR 27), .inl (cI, 3200, .inl mm_codeValueF_249)), ((mmR 36), .inl (cI, 20, .inl mm_pairF_249))] H := hP
      have hD : va_D A [(a_p0, .inr (12, oX12 r_7 r_1_1 mmR)), ((mmR 33), .inl (cI, 20, .inl mm_frameF_249)), ((mmR 35), .inl (cZ, 20, .inl mm_beginsF_249)), ((mmR 40), .inl (cI, 500, .inl mm_opsF_249)), ((mmR 0), .inl (cI, 1800, .inl mm_tapeF)), ((mmR 34), .inl (cI, 20, .inl mm_phaseF_249)), ((mmR 37), .inl (cI, 20, .inl mm_baseF_249)), ((mmR 26), .inl (cI, 3200, .inl mm_codeSortF_249)), ((mmR 27), .inl (cI, 3200, .inl mm_codeValueF_249)), ((mmR 36), .inl (cI, 20, .inl mm_pairF_249))] := hD
      refine W.eq (g2 := F0 m 276 ls []) rfl ?_
      exact b276 r_7 r_1_1 mm_frameF_249 mm_beginsF_249 mm_opsF_249 mm_phaseF_249 mm_baseF_249 mm_codeSortF_249 mm_codeValueF_249 mm_pairF_249 y0_249 _ _ _ hf hP hD hS (lv_sub hl [1, 0] rfl)
  have b217 : ∀ (mmI_217 : Nat → Int32) (mmJ_217 : Nat → Int64) (mm_frameF_217 : Nat → Int32) (mm_beginsF_217 : Nat → Int32) (mm_opsF_217 : Nat → Int32) (mm_phaseF_217 : Nat → Int32) (mm_baseF_217 : Nat → Int32) (mm_codeSortF_217 : Nat → Int32) (mm_codeValueF_217 : Nat → Int32) (mm_pairF_217 : Nat → Int32) (ls : Array Slot) (H : Heap) (locs : List Loc), fX12_operand_b217 N mm_tapeF (mmI_217, mmJ_217, mm_frameF_217, mm_beginsF_217, mm_opsF_217, mm_phaseF_217, mm_baseF_217, mm_codeSortF_217, mm_codeValueF_217, mm_pairF_217) = some (r0, r1, r2, r3, r4, r5, r6, r7, r8, r9, r10) → va_P (dC, dI) vwCl [(a_p0, .inr (12, oX12 mmI_217 mmJ_217 mmR)), ((mmR 33), .inl (cI, 20, .inl mm_frameF_217)), ((mmR 35), .inl (cZ, 20, .inl mm_beginsF_217)), ((mmR 40), .inl (cI, 500, .inl mm_opsF_217)), ((mmR 0), .inl (cI, 1800, .inl mm_tapeF)), ((mmR 34), .inl (cI, 20, .inl mm_phaseF_217)), ((mmR 37), .inl (cI, 20, .inl mm_baseF_217)), ((mmR 26), .inl (cI, 3200, .inl mm_codeSortF_217)), ((mmR 27), .inl (cI, 3200, .inl mm_codeValueF_217)), ((mmR 36), .inl (cI, 20, .inl mm_pairF_217))] H → va_D A [(a_p0, .inr (12, oX12 mmI_217 mmJ_217 mmR)), ((mmR 33), .inl (cI, 20, .inl mm_frameF_217)), ((mmR 35), .inl (cZ, 20, .inl mm_beginsF_217)), ((mmR 40), .inl (cI, 500, .inl mm_opsF_217)), ((mmR 0), .inl (cI, 1800, .inl mm_tapeF)), ((mmR 34), .inl (cI, 20, .inl mm_phaseF_217)), ((mmR 37), .inl (cI, 20, .inl mm_baseF_217)), ((mmR 26), .inl (cI, 3200, .inl mm_codeSortF_217)), ((mmR 27), .inl (cI, 3200, .inl mm_codeValueF_217)), ((mmR 36), .inl (cI, 20, .inl mm_pairF_217))] → va_S A s.heap H locs → lv_has ls 4 [(0, .ref a_p0)] → W p l e (headSpec wsX12_operand { frames := 3, cells := 0, slots := 0, locals := 66 }).room s m [.ref a_p0].toArray below meth c H locs 0 0 (MQ below (xq_Q (dC, dI) vwCl (xq_tys cI cB cJ cZ cM) A [(a_p0, .inr (12, oX12 r1 r2 mmR)), ((mmR 33), .inl (cI, 20, .inl r3)), ((mmR 35), .inl (cZ, 20, .inl r4)), ((mmR 40), .inl (cI, 500, .inl r5)), ((mmR 0), .inl (cI, 1800, .inl mm_tapeF)), ((mmR 34), .inl (cI, 20, .inl r6)), ((mmR 37), .inl (cI, 20, .inl r7)), ((mmR 26), .inl (cI, 3200, .inl r8)), ((mmR 27), .inl (cI, 3200, .inl r9)), ((mmR 36), .inl (cI, 20, .inl r10))] (some (.int r0))) [.ref a_p0].toArray s 0 0 A) (F0 m 217 ls []) := by
    intro mmI_217 mmJ_217 mm_frameF_217 mm_beginsF_217 mm_opsF_217 mm_phaseF_217 mm_baseF_217 mm_codeSortF_217 mm_codeValueF_217 mm_pairF_217 ls H locs hf hP hD hS hl
    unfold fX12_operand_b217 at hf
    refine lv_aload_n hx hb dX12_operand_217 rfl (lv_at hl 0 rfl) ?_
    refine lv_ldc2 (v := 7170414) hx hb hown hw10 dX12_operand_218 ?_
    obtain ⟨r_1, h_2, hf⟩ := xq_bd_some hf
    refine xq_callV (As := [.long 7170414]) (rest := []) (ci := 12) (q0 := 0) ⟨hx, hb, hml, hown, hts⟩ (kX12_isWord l dC dI cI cB cJ cZ cM z ad N a_p0 mmI_217 mmJ_217 mmR 7170414 h_2) (cwV 1 hts gX12_operand_X12_isWord rfl rfl rfl (by decide +kernel) ⟨Nat.le_of_ble_eq_true rfl, Nat.le_of_ble_eq_true rfl⟩) hN hK hP hD hS hA [0] (by decide) rfl rfl rfl rfl rfl rfl hl.1 rfl (Nat.le_of_ble_eq_true rfl) dX12_operand_221 ⟨Nat.zero_le _, Nat.zero_le _⟩ (fun H locs hP hD hS => ?_)
    have hP : va_P (dC, dI) vwCl [(a_p0, .inr (12, oX12 mmI_217 mmJ_217 mmR)), ((mmR 33), .inl (cI, 20, .inl mm_frameF_217)), ((mmR 35), .inl (cZ, 20, .inl mm_beginsF_217)), ((mmR 40), .inl (cI, 500, .inl mm_opsF_217)), ((mmR 0), .inl (cI, 1800, .inl mm_tapeF)), ((mmR 34), .inl (cI, 20, .inl mm_phaseF_217)), ((mmR 37), .inl (cI, 20, .inl mm_baseF_217)), ((mmR 26), .inl (cI, 3200, .inl mm_codeSortF_217)), ((mmR 27), .inl (cI, 3200, .inl mm_codeValueF_217)), ((mmR 36), .inl (cI, 20, .inl mm_pairF_217))] H := hP
    have hD : va_D A [(a_p0, .inr (12, oX12 mmI_217 mmJ_217 mmR)), ((mmR 33), .inl (cI, 20, .inl mm_frameF_217)), ((mmR 35), .inl (cZ, 20, .inl mm_beginsF_217)), ((mmR 40), .inl (cI, 500, .inl mm_opsF_217)), ((mmR 0), .inl (cI, 1800, .inl mm_tapeF)), ((mmR 34), .inl (cI, 20, .inl mm_phaseF_217)), ((mmR 37), .inl (cI, 20, .inl mm_baseF_217)), ((mmR 26), .inl (cI, 3200, .inl mm_codeSortF_217)), ((mmR 27), .inl (cI, 3200, .inl mm_codeValueF_217)), ((mmR 36), .inl (cI, 20, .inl mm_pairF_217))] := hD
    refine W.eq (g2 := F0 m 224 ls [.int r_1]) rfl ?_
    refine lv_if_eq (tgt := 232) hx hb dX12_operand_224 (by decide) (fun c_ => ?_) (fun c_ => ?_)
    · have hf := xq_pos hf c_
      refine lv_aload_n hx hb dX12_operand_232 rfl (lv_at hl 0 rfl) ?_
      refine lv_ldc2 (v := 7168376) hx hb hown hw11 dX12_operand_233 ?_
      obtain ⟨r_3, h_4, hf⟩ := xq_bd_some hf
      refine xq_callV (As := [.long 7168376]) (rest := []) (ci := 12) (q0 := 0) ⟨hx, hb, hml, hown, hts⟩ (kX12_isWord l dC dI cI cB cJ cZ cM z ad N a_p0 mmI_217 mmJ_217 mmR 7168376 h_4) (cwV 1 hts gX12_operand_X12_isWord rfl rfl rfl (by decide +kernel) ⟨Nat.le_of_ble_eq_true rfl, Nat.le_of_ble_eq_true rfl⟩) hN hK hP hD hS hA [0] (by decide) rfl rfl rfl rfl rfl rfl hl.1 rfl (Nat.le_of_ble_eq_true rfl) dX12_operand_236 ⟨Nat.zero_le _, Nat.zero_le _⟩ (fun H locs hP hD hS => ?_)
      have hP : va_P (dC, dI) vwCl [(a_p0, .inr (12, oX12 mmI_217 mmJ_217 mmR)), ((mmR 33), .inl (cI, 20, .inl mm_frameF_217)), ((mmR 35), .inl (cZ, 20, .inl mm_beginsF_217)), ((mmR 40), .inl (cI, 500, .inl mm_opsF_217)), ((mmR 0), .inl (cI, 1800, .inl mm_tapeF)), ((mmR 34), .inl (cI, 20, .inl mm_phaseF_217)), ((mmR 37), .inl (cI, 20, .inl mm_baseF_217)), ((mmR 26), .inl (cI, 3200, .inl mm_codeSortF_217)), ((mmR 27), .inl (cI, 3200, .inl mm_codeValueF_217)), ((mmR 36), .inl (cI, 20, .inl mm_pairF_217))] H := hP
      have hD : va_D A [(a_p0, .inr (12, oX12 mmI_217 mmJ_217 mmR)), ((mmR 33), .inl (cI, 20, .inl mm_frameF_217)), ((mmR 35), .inl (cZ, 20, .inl mm_beginsF_217)), ((mmR 40), .inl (cI, 500, .inl mm_opsF_217)), ((mmR 0), .inl (cI, 1800, .inl mm_tapeF)), ((mmR 34), .inl (cI, 20, .inl mm_phaseF_217)), ((mmR 37), .inl (cI, 20, .inl mm_baseF_217)), ((mmR 26), .inl (cI, 3200, .inl mm_codeSortF_217)), ((mmR 27), .inl (cI, 3200, .inl mm_codeValueF_217)), ((mmR 36), .inl (cI, 20, .inl mm_pairF_217))] := hD
      refine W.eq (g2 := F0 m 239 ls [.int r_3]) rfl ?_
      refine lv_if_eq (tgt := 247) hx hb dX12_operand_239 (by decide) (fun c_ => ?_) (fun c_ => ?_)
      · have hf := xq_pos hf c_
        refine lv_bipush (v := 44) hx hb dX12_operand_247 (by decide) ?_
        exact b249 mmI_217 mmJ_217 mm_frameF_217 mm_beginsF_217 mm_opsF_217 mm_phaseF_217 mm_baseF_217 mm_codeSortF_217 mm_codeValueF_217 mm_pairF_217 44 _ _ _ hf hP hD hS (lv_sub hl [0] rfl)
      · have hf := xq_neg hf c_
        refine lv_bipush (v := 37) hx hb dX12_operand_242 (by decide) ?_
        refine lv_goto (tgt := 249) hx hb dX12_operand_244 (by decide) ?_
        exact b249 mmI_217 mmJ_217 mm_frameF_217 mm_beginsF_217 mm_opsF_217 mm_phaseF_217 mm_baseF_217 mm_codeSortF_217 mm_codeValueF_217 mm_pairF_217 37 _ _ _ hf hP hD hS (lv_sub hl [0] rfl)
    · have hf := xq_neg hf c_
      refine lv_bipush (v := 36) hx hb dX12_operand_227 (by decide) ?_
      refine lv_goto (tgt := 249) hx hb dX12_operand_229 (by decide) ?_
      exact b249 mmI_217 mmJ_217 mm_frameF_217 mm_beginsF_217 mm_opsF_217 mm_phaseF_217 mm_baseF_217 mm_codeSortF_217 mm_codeValueF_217 mm_pairF_217 36 _ _ _ hf hP hD hS (lv_sub hl [0] rfl)
  have b171 : ∀ (mmI_171 : Nat → Int32) (mmJ_171 : Nat → Int64) (mm_frameF_171 : Nat → Int32) (mm_beginsF_171 : Nat → Int32) (mm_opsF_171 : Nat → Int32) (mm_phaseF_171 : Nat → Int32) (mm_baseF_171 : Nat → Int32) (mm_codeSortF_171 : Nat → Int32) (mm_codeValueF_171 : Nat → Int32) (mm_pairF_171 : Nat → Int32) (ls : Array Slot) (H : Heap) (locs : List Loc), fX12_operand_b171 N mm_tapeF (mmI_171, mmJ_171, mm_frameF_171, mm_beginsF_171, mm_opsF_171, mm_phaseF_171, mm_baseF_171, mm_codeSortF_171, mm_codeValueF_171, mm_pairF_171) = some (r0, r1, r2, r3, r4, r5, r6, r7, r8, r9, r10) → va_P (dC, dI) vwCl [(a_p0, .inr (12, oX12 mmI_171 mmJ_171 mmR)), ((mmR 33), .inl (cI, 20, .inl mm_frameF_171)), ((mmR 35), .inl (cZ, 20, .inl mm_beginsF_171)), ((mmR 40), .inl (cI, 500, .inl mm_opsF_171)), ((mmR 0), .inl (cI, 1800, .inl mm_tapeF)), ((mmR 34), .inl (cI, 20, .inl mm_phaseF_171)), ((mmR 37), .inl (cI, 20, .inl mm_baseF_171)), ((mmR 26), .inl (cI, 3200, .inl mm_codeSortF_171)), ((mmR 27), .inl (cI, 3200, .inl mm_codeValueF_171)), ((mmR 36), .inl (cI, 20, .inl mm_pairF_171))] H → va_D A [(a_p0, .inr (12, oX12 mmI_171 mmJ_171 mmR)), ((mmR 33), .inl (cI, 20, .inl mm_frameF_171)), ((mmR 35), .inl (cZ, 20, .inl mm_beginsF_171)), ((mmR 40), .inl (cI, 500, .inl mm_opsF_171)), ((mmR 0), .inl (cI, 1800, .inl mm_tapeF)), ((mmR 34), .inl (cI, 20, .inl mm_phaseF_171)), ((mmR 37), .inl (cI, 20, .inl mm_baseF_171)), ((mmR 26), .inl (cI, 3200, .inl mm_codeSortF_171)), ((mmR 27), .inl (cI, 3200, .inl mm_codeValueF_171)), ((mmR 36), .inl (cI, 20, .inl mm_pairF_171))] → va_S A s.heap H locs → lv_has ls 4 [(0, .ref a_p0)] → W p l e (headSpec wsX12_operand { frames := 3, cells := 0, slots := 0, locals := 66 }).room s m [.ref a_p0].toArray below meth c H locs 0 0 (MQ below (xq_Q (dC, dI) vwCl (xq_tys cI cB cJ cZ cM) A [(a_p0, .inr (12, oX12 r1 r2 mmR)), ((mmR 33), .inl (cI, 20, .inl r3)), ((mmR 35), .inl (cZ, 20, .inl r4)), ((mmR 40), .inl (cI, 500, .inl r5)), ((mmR 0), .inl (cI, 1800, .inl mm_tapeF)), ((mmR 34), .inl (cI, 20, .inl r6)), ((mmR 37), .inl (cI, 20, .inl r7)), ((mmR 26), .inl (cI, 3200, .inl r8)), ((mmR 27), .inl (cI, 3200, .inl r9)), ((mmR 36), .inl (cI, 20, .inl r10))] (some (.int r0))) [.ref a_p0].toArray s 0 0 A) (F0 m 171 ls []) := by
    intro mmI_171 mmJ_171 mm_frameF_171 mm_beginsF_171 mm_opsF_171 mm_phaseF_171 mm_baseF_171 mm_codeSortF_171 mm_codeValueF_171 mm_pairF_171 ls H locs hf hP hD hS hl
    unfold fX12_operand_b171 at hf
    refine lv_aload_n hx hb dX12_operand_171 rfl (lv_at hl 0 rfl) ?_
    refine lv_bipush (v := 40) hx hb dX12_operand_172 (by decide) ?_
    obtain ⟨r_1, h_2, hf⟩ := xq_bd_some hf
    refine xq_callV (As := [.int 40]) (rest := []) (ci := 12) (q0 := 0) ⟨hx, hb, hml, hown, hts⟩ (kX12_isSign l dC dI cI cB cJ cZ cM z ad N a_p0 mmI_171 mmJ_171 mmR 40 h_2) (cwV 1 hts gX12_operand_X12_isSign rfl rfl rfl (by decide +kernel) ⟨Nat.le_of_ble_eq_true rfl, Nat.le_of_ble_eq_true rfl⟩) hN hK hP hD hS hA [0] (by decide) rfl rfl rfl rfl rfl rfl hl.1 rfl (Nat.le_of_ble_eq_true rfl) dX12_operand_174 ⟨Nat.zero_le _, Nat.zero_le _⟩ (fun H locs hP hD hS => ?_)
    have hP : va_P (dC, dI) vwCl [(a_p0, .inr (12, oX12 mmI_171 mmJ_171 mmR)), ((mmR 33), .inl (cI, 20, .inl mm_frameF_171)), ((mmR 35), .inl (cZ, 20, .inl mm_beginsF_171)), ((mmR 40), .inl (cI, 500, .inl mm_opsF_171)), ((mmR 0), .inl (cI, 1800, .inl mm_tapeF)), ((mmR 34), .inl (cI, 20, .inl mm_phaseF_171)), ((mmR 37), .inl (cI, 20, .inl mm_baseF_171)), ((mmR 26), .inl (cI, 3200, .inl mm_codeSortF_171)), ((mmR 27), .inl (cI, 3200, .inl mm_codeValueF_171)), ((mmR 36), .inl (cI, 20, .inl mm_pairF_171))] H := hP
    have hD : va_D A [(a_p0, .inr (12, oX12 mmI_171 mmJ_171 mmR)), ((mmR 33), .inl (cI, 20, .inl mm_frameF_171)), ((mmR 35), .inl (cZ, 20, .inl mm_beginsF_171)), ((mmR 40), .inl (cI, 500, .inl mm_opsF_171)), ((mmR 0), .inl (cI, 1800, .inl mm_tapeF)), ((mmR 34), .inl (cI, 20, .inl mm_phaseF_171)), ((mmR 37), .inl (cI, 20, .inl mm_baseF_171)), ((mmR 26), .inl (cI, 3200, .inl mm_codeSortF_171)), ((mmR 27), .inl (cI, 3200, .inl mm_codeValueF_171)), ((mmR 36), .inl (cI, 20, .inl mm_pairF_171))] := hD
    refine W.eq (g2 := F0 m 177 ls [.int r_1]) rfl ?_
    refine lv_if_eq (tgt := 187) hx hb dX12_operand_177 (by decide) (fun c_ => ?_) (fun c_ => ?_)
    · have hf := xq_pos hf c_
      refine lv_aload_n hx hb dX12_operand_187 rfl (lv_at hl 0 rfl) ?_
      refine lv_ldc2 (v := 7170414) hx hb hown hw10 dX12_operand_188 ?_
      obtain ⟨r_3, h_4, hf⟩ := xq_bd_some hf
      refine xq_callV (As := [.long 7170414]) (rest := []) (ci := 12) (q0 := 0) ⟨hx, hb, hml, hown, hts⟩ (kX12_isWord l dC dI cI cB cJ cZ cM z ad N a_p0 mmI_171 mmJ_171 mmR 7170414 h_4) (cwV 1 hts gX12_operand_X12_isWord rfl rfl rfl (by decide +kernel) ⟨Nat.le_of_ble_eq_true rfl, Nat.le_of_ble_eq_true rfl⟩) hN hK hP hD hS hA [0] (by decide) rfl rfl rfl rfl rfl rfl hl.1 rfl (Nat.le_of_ble_eq_true rfl) dX12_operand_191 ⟨Nat.zero_le _, Nat.zero_le _⟩ (fun H locs hP hD hS => ?_)
      have hP : va_P (dC, dI) vwCl [(a_p0, .inr (12, oX12 mmI_171 mmJ_171 mmR)), ((mmR 33), .inl (cI, 20, .inl mm_frameF_171)), ((mmR 35), .inl (cZ, 20, .inl mm_beginsF_171)), ((mmR 40), .inl (cI, 500, .inl mm_opsF_171)), ((mmR 0), .inl (cI, 1800, .inl mm_tapeF)), ((mmR 34), .inl (cI, 20, .inl mm_phaseF_171)), ((mmR 37), .inl (cI, 20, .inl mm_baseF_171)), ((mmR 26), .inl (cI, 3200, .inl mm_codeSortF_171)), ((mmR 27), .inl (cI, 3200, .inl mm_codeValueF_171)), ((mmR 36), .inl (cI, 20, .inl mm_pairF_171))] H := hP
      have hD : va_D A [(a_p0, .inr (12, oX12 mmI_171 mmJ_171 mmR)), ((mmR 33), .inl (cI, 20, .inl mm_frameF_171)), ((mmR 35), .inl (cZ, 20, .inl mm_beginsF_171)), ((mmR 40), .inl (cI, 500, .inl mm_opsF_171)), ((mmR 0), .inl (cI, 1800, .inl mm_tapeF)), ((mmR 34), .inl (cI, 20, .inl mm_phaseF_171)), ((mmR 37), .inl (cI, 20, .inl mm_baseF_171)), ((mmR 26), .inl (cI, 3200, .inl mm_codeSortF_171)), ((mmR 27), .inl (cI, 3200, .inl mm_codeValueF_171)), ((mmR 36), .inl (cI, 20, .inl mm_pairF_171))] := hD
      refine W.eq (g2 := F0 m 194 ls [.int r_3]) rfl ?_
      refine lv_if_ne (tgt := 217) hx hb dX12_operand_194 (by decide) (fun c_ => ?_) (fun c_ => ?_)
      · have hf := xq_neg hf c_
        exact b217 mmI_171 mmJ_171 mm_frameF_171 mm_beginsF_171 mm_opsF_171 mm_phaseF_171 mm_baseF_171 mm_codeSortF_171 mm_codeValueF_171 mm_pairF_171 _ _ _ hf hP hD hS (lv_sub hl [0] rfl)
      · have hf := xq_pos hf c_
        refine lv_aload_n hx hb dX12_operand_197 rfl (lv_at hl 0 rfl) ?_
        refine lv_ldc2 (v := 7168376) hx hb hown hw11 dX12_operand_198 ?_
        obtain ⟨r_5, h_6, hf⟩ := xq_bd_some hf
        refine xq_callV (As := [.long 7168376]) (rest := []) (ci := 12) (q0 := 0) ⟨hx, hb, hml, hown, hts⟩ (kX12_isWord l dC dI cI cB cJ cZ cM z ad N a_p0 mmI_171 mmJ_171 mmR 7168376 h_6) (cwV 1 hts gX12_operand_X12_isWord rfl rfl rfl (by decide +kernel) ⟨Nat.le_of_ble_eq_true rfl, Nat.le_of_ble_eq_true rfl⟩) hN hK hP hD hS hA [0] (by decide) rfl rfl rfl rfl rfl rfl hl.1 rfl (Nat.le_of_ble_eq_true rfl) dX12_operand_201 ⟨Nat.zero_le _, Nat.zero_le _⟩ (fun H locs hP hD hS => ?_)
        have hP : va_P (dC, dI) vwCl [(a_p0, .inr (12, oX12 mmI_171 mmJ_171 mmR)), ((mmR 33), .inl (cI, 20, .inl mm_frameF_171)), ((mmR 35), .inl (cZ, 20, .inl mm_beginsF_171)), ((mmR 40), .inl (cI, 500, .inl mm_opsF_171)), ((mmR 0), .inl (cI, 1800, .inl mm_tapeF)), ((mmR 34), .inl (cI, 20, .inl mm_phaseF_171)), ((mmR 37), .inl (cI, 20, .inl mm_baseF_171)), ((mmR 26), .inl (cI, 3200, .inl mm_codeSortF_171)), ((mmR 27), .inl (cI, 3200, .inl mm_codeValueF_171)), ((mmR 36), .inl (cI, 20, .inl mm_pairF_171))] H := hP
        have hD : va_D A [(a_p0, .inr (12, oX12 mmI_171 mmJ_171 mmR)), ((mmR 33), .inl (cI, 20, .inl mm_frameF_171)), ((mmR 35), .inl (cZ, 20, .inl mm_beginsF_171)), ((mmR 40), .inl (cI, 500, .inl mm_opsF_171)), ((mmR 0), .inl (cI, 1800, .inl mm_tapeF)), ((mmR 34), .inl (cI, 20, .inl mm_phaseF_171)), ((mmR 37), .inl (cI, 20, .inl mm_baseF_171)), ((mmR 26), .inl (cI, 3200, .inl mm_codeSortF_171)), ((mmR 27), .inl (cI, 3200, .inl mm_codeValueF_171)), ((mmR 36), .inl (cI, 20, .inl mm_pairF_171))] := hD
        refine W.eq (g2 := F0 m 204 ls [.int r_5]) rfl ?_
        refine lv_if_ne (tgt := 217) hx hb dX12_operand_204 (by decide) (fun c_ => ?_) (fun c_ => ?_)
        · have hf := xq_neg hf c_
          exact b217 mmI_171 mmJ_171 mm_frameF_171 mm_beginsF_171 mm_opsF_171 mm_phaseF_171 mm_baseF_171 mm_codeSortF_171 mm_codeValueF_171 mm_pairF_171 _ _ _ hf hP hD hS (lv_sub hl [0] rfl)
        · have hf := xq_pos hf c_
          refine lv_aload_n hx hb dX12_operand_207 rfl (lv_at hl 0 rfl) ?_
          refine lv_ldc2 (v := 26982) hx hb hown hw12 dX12_operand_208 ?_
          obtain ⟨r_7, h_8, hf⟩ := xq_bd_some hf
          refine xq_callV (As := [.long 26982]) (rest := []) (ci := 12) (q0 := 0) ⟨hx, hb, hml, hown, hts⟩ (kX12_isWord l dC dI cI cB cJ cZ cM z ad N a_p0 mmI_171 mmJ_171 mmR 26982 h_8) (cwV 1 hts gX12_operand_X12_isWord rfl rfl rfl (by decide +kernel) ⟨Nat.le_of_ble_eq_true rfl, Nat.le_of_ble_eq_true rfl⟩) hN hK hP hD hS hA [0] (by decide) rfl rfl rfl rfl rfl rfl hl.1 rfl (Nat.le_of_ble_eq_true rfl) dX12_operand_211 ⟨Nat.zero_le _, Nat.zero_le _⟩ (fun H locs hP hD hS => ?_)
          have hP : va_P (dC, dI) vwCl [(a_p0, .inr (12, oX12 mmI_171 mmJ_171 mmR)), ((mmR 33), .inl (cI, 20, .inl mm_frameF_171)), ((mmR 35), .inl (cZ, 20, .inl mm_beginsF_171)), ((mmR 40), .inl (cI, 500, .inl mm_opsF_171)), ((mmR 0), .inl (cI, 1800, .inl mm_tapeF)), ((mmR 34), .inl (cI, 20, .inl mm_phaseF_171)), ((mmR 37), .inl (cI, 20, .inl mm_baseF_171)), ((mmR 26), .inl (cI, 3200, .inl mm_codeSortF_171)), ((mmR 27), .inl (cI, 3200, .inl mm_codeValueF_171)), ((mmR 36), .inl (cI, 20, .inl mm_pairF_171))] H := hP
          have hD : va_D A [(a_p0, .inr (12, oX12 mmI_171 mmJ_171 mmR)), ((mmR 33), .inl (cI, 20, .inl mm_frameF_171)), ((mmR 35), .inl (cZ, 20, .inl mm_beginsF_171)), ((mmR 40), .inl (cI, 500, .inl mm_opsF_171)), ((mmR 0), .inl (cI, 1800, .inl mm_tapeF)), ((mmR 34), .inl (cI, 20, .inl mm_phaseF_171)), ((mmR 37), .inl (cI, 20, .inl mm_baseF_171)), ((mmR 26), .inl (cI, 3200, .inl mm_codeSortF_171)), ((mmR 27), .inl (cI, 3200, .inl mm_codeValueF_171)), ((mmR 36), .inl (cI, 20, .inl mm_pairF_171))] := hD
          refine W.eq (g2 := F0 m 214 ls [.int r_7]) rfl ?_
          refine lv_if_eq (tgt := 313) hx hb dX12_operand_214 (by decide) (fun c_ => ?_) (fun c_ => ?_)
          · have hf := xq_pos hf c_
            refine lv_aload_n hx hb dX12_operand_313 rfl (lv_at hl 0 rfl) ?_
            refine va_get (D := (dC, dI)) (ci := 12) (v := .int (mmI_171 3)) (C := RX12) (T := TX12) (N := 70) hx hb hts hinX12 hown hK hP 0 rfl rfl 3 (by decide) hw13 (fun _ h9 => h9) rfl dX12_operand_314 ?_
            refine lv_iconst (v := 2) hx hb dX12_operand_317 (by decide) ?_
            refine lv_icmp_ne (tgt := 325) hx hb dX12_operand_318 (by decide) (fun c_ => ?_) (fun c_ => ?_)
            · have hf := xq_neg hf c_
              refine lv_aload_n hx hb dX12_operand_325 rfl (lv_at hl 0 rfl) ?_
              refine lv_ldc2 (v := 474214787188) hx hb hown hw14 dX12_operand_326 ?_
              obtain ⟨r_9, h_10, hf⟩ := xq_bd_some hf
              refine xq_callV (As := [.long 474214787188]) (rest := []) (ci := 12) (q0 := 0) ⟨hx, hb, hml, hown, hts⟩ (kX12_isWord l dC dI cI cB cJ cZ cM z ad N a_p0 mmI_171 mmJ_171 mmR 474214787188 h_10) (cwV 1 hts gX12_operand_X12_isWord rfl rfl rfl (by decide +kernel) ⟨Nat.le_of_ble_eq_true rfl, Nat.le_of_ble_eq_true rfl⟩) hN hK hP hD hS hA [0] (by decide) rfl rfl rfl rfl rfl rfl hl.1 rfl (Nat.le_of_ble_eq_true rfl) dX12_operand_329 ⟨Nat.zero_le _, Nat.zero_le _⟩ (fun H locs hP hD hS => ?_)
              have hP : va_P (dC, dI) vwCl [(a_p0, .inr (12, oX12 mmI_171 mmJ_171 mmR)), ((mmR 33), .inl (cI, 20, .inl mm_frameF_171)), ((mmR 35), .inl (cZ, 20, .inl mm_beginsF_171)), ((mmR 40), .inl (cI, 500, .inl mm_opsF_171)), ((mmR 0), .inl (cI, 1800, .inl mm_tapeF)), ((mmR 34), .inl (cI, 20, .inl mm_phaseF_171)), ((mmR 37), .inl (cI, 20, .inl mm_baseF_171)), ((mmR 26), .inl (cI, 3200, .inl mm_codeSortF_171)), ((mmR 27), .inl (cI, 3200, .inl mm_codeValueF_171)), ((mmR 36), .inl (cI, 20, .inl mm_pairF_171))] H := hP
              have hD : va_D A [(a_p0, .inr (12, oX12 mmI_171 mmJ_171 mmR)), ((mmR 33), .inl (cI, 20, .inl mm_frameF_171)), ((mmR 35), .inl (cZ, 20, .inl mm_beginsF_171)), ((mmR 40), .inl (cI, 500, .inl mm_opsF_171)), ((mmR 0), .inl (cI, 1800, .inl mm_tapeF)), ((mmR 34), .inl (cI, 20, .inl mm_phaseF_171)), ((mmR 37), .inl (cI, 20, .inl mm_baseF_171)), ((mmR 26), .inl (cI, 3200, .inl mm_codeSortF_171)), ((mmR 27), .inl (cI, 3200, .inl mm_codeValueF_171)), ((mmR 36), .inl (cI, 20, .inl mm_pairF_171))] := hD
              refine W.eq (g2 := F0 m 332 ls [.int r_9]) rfl ?_
              refine lv_if_eq (tgt := 339) hx hb dX12_operand_332 (by decide) (fun c_ => ?_) (fun c_ => ?_)
              · have hf := xq_pos hf c_
                refine lv_aload_n hx hb dX12_operand_339 rfl (lv_at hl 0 rfl) ?_
                refine lv_ldc2 (v := 1752527720) hx hb hown hw15 dX12_operand_340 ?_
                obtain ⟨r_11, h_12, hf⟩ := xq_bd_some hf
                refine xq_callV (As := [.long 1752527720]) (rest := []) (ci := 12) (q0 := 0) ⟨hx, hb, hml, hown, hts⟩ (kX12_isWord l dC dI cI cB cJ cZ cM z ad N a_p0 mmI_171 mmJ_171 mmR 1752527720 h_12) (cwV 1 hts gX12_operand_X12_isWord rfl rfl rfl (by decide +kernel) ⟨Nat.le_of_ble_eq_true rfl, Nat.le_of_ble_eq_true rfl⟩) hN hK hP hD hS hA [0] (by decide) rfl rfl rfl rfl rfl rfl hl.1 rfl (Nat.le_of_ble_eq_true rfl) dX12_operand_343 ⟨Nat.zero_le _, Nat.zero_le _⟩ (fun H locs hP hD hS => ?_)
                have hP : va_P (dC, dI) vwCl [(a_p0, .inr (12, oX12 mmI_171 mmJ_171 mmR)), ((mmR 33), .inl (cI, 20, .inl mm_frameF_171)), ((mmR 35), .inl (cZ, 20, .inl mm_beginsF_171)), ((mmR 40), .inl (cI, 500, .inl mm_opsF_171)), ((mmR 0), .inl (cI, 1800, .inl mm_tapeF)), ((mmR 34), .inl (cI, 20, .inl mm_phaseF_171)), ((mmR 37), .inl (cI, 20, .inl mm_baseF_171)), ((mmR 26), .inl (cI, 3200, .inl mm_codeSortF_171)), ((mmR 27), .inl (cI, 3200, .inl mm_codeValueF_171)), ((mmR 36), .inl (cI, 20, .inl mm_pairF_171))] H := hP
                have hD : va_D A [(a_p0, .inr (12, oX12 mmI_171 mmJ_171 mmR)), ((mmR 33), .inl (cI, 20, .inl mm_frameF_171)), ((mmR 35), .inl (cZ, 20, .inl mm_beginsF_171)), ((mmR 40), .inl (cI, 500, .inl mm_opsF_171)), ((mmR 0), .inl (cI, 1800, .inl mm_tapeF)), ((mmR 34), .inl (cI, 20, .inl mm_phaseF_171)), ((mmR 37), .inl (cI, 20, .inl mm_baseF_171)), ((mmR 26), .inl (cI, 3200, .inl mm_codeSortF_171)), ((mmR 27), .inl (cI, 3200, .inl mm_codeValueF_171)), ((mmR 36), .inl (cI, 20, .inl mm_pairF_171))] := hD
                refine W.eq (g2 := F0 m 346 ls [.int r_11]) rfl ?_
                refine lv_if_eq (tgt := 353) hx hb dX12_operand_346 (by decide) (fun c_ => ?_) (fun c_ => ?_)
                · have hf := xq_pos hf c_
                  refine lv_aload_n hx hb dX12_operand_353 rfl (lv_at hl 0 rfl) ?_
                  refine lv_ldc2 (v := 1835625573) hx hb hown hw16 dX12_operand_354 ?_
                  obtain ⟨r_13, h_14, hf⟩ := xq_bd_some hf
                  refine xq_callV (As := [.long 1835625573]) (rest := []) (ci := 12) (q0 := 0) ⟨hx, hb, hml, hown, hts⟩ (kX12_isWord l dC dI cI cB cJ cZ cM z ad N a_p0 mmI_171 mmJ_171 mmR 1835625573 h_14) (cwV 1 hts gX12_operand_X12_isWord rfl rfl rfl (by decide +kernel) ⟨Nat.le_of_ble_eq_true rfl, Nat.le_of_ble_eq_true rfl⟩) hN hK hP hD hS hA [0] (by decide) rfl rfl rfl rfl rfl rfl hl.1 rfl (Nat.le_of_ble_eq_true rfl) dX12_operand_357 ⟨Nat.zero_le _, Nat.zero_le _⟩ (fun H locs hP hD hS => ?_)
                  have hP : va_P (dC, dI) vwCl [(a_p0, .inr (12, oX12 mmI_171 mmJ_171 mmR)), ((mmR 33), .inl (cI, 20, .inl mm_frameF_171)), ((mmR 35), .inl (cZ, 20, .inl mm_beginsF_171)), ((mmR 40), .inl (cI, 500, .inl mm_opsF_171)), ((mmR 0), .inl (cI, 1800, .inl mm_tapeF)), ((mmR 34), .inl (cI, 20, .inl mm_phaseF_171)), ((mmR 37), .inl (cI, 20, .inl mm_baseF_171)), ((mmR 26), .inl (cI, 3200, .inl mm_codeSortF_171)), ((mmR 27), .inl (cI, 3200, .inl mm_codeValueF_171)), ((mmR 36), .inl (cI, 20, .inl mm_pairF_171))] H := hP
                  have hD : va_D A [(a_p0, .inr (12, oX12 mmI_171 mmJ_171 mmR)), ((mmR 33), .inl (cI, 20, .inl mm_frameF_171)), ((mmR 35), .inl (cZ, 20, .inl mm_beginsF_171)), ((mmR 40), .inl (cI, 500, .inl mm_opsF_171)), ((mmR 0), .inl (cI, 1800, .inl mm_tapeF)), ((mmR 34), .inl (cI, 20, .inl mm_phaseF_171)), ((mmR 37), .inl (cI, 20, .inl mm_baseF_171)), ((mmR 26), .inl (cI, 3200, .inl mm_codeSortF_171)), ((mmR 27), .inl (cI, 3200, .inl mm_codeValueF_171)), ((mmR 36), .inl (cI, 20, .inl mm_pairF_171))] := hD
                  refine W.eq (g2 := F0 m 360 ls [.int r_13]) rfl ?_
                  refine lv_if_eq (tgt := 367) hx hb dX12_operand_360 (by decide) (fun c_ => ?_) (fun c_ => ?_)
                  · have hf := xq_pos hf c_
                    refine lv_aload_n hx hb dX12_operand_367 rfl (lv_at hl 0 rfl) ?_
                    refine lv_ldc2 (v := 125823037105267) hx hb hown hw17 dX12_operand_368 ?_
                    obtain ⟨r_15, h_16, hf⟩ := xq_bd_some hf
                    refine xq_callV (As := [.long 125823037105267]) (rest := []) (ci := 12) (q0 := 0) ⟨hx, hb, hml, hown, hts⟩ (kX12_isWord l dC dI cI cB cJ cZ cM z ad N a_p0 mmI_171 mmJ_171 mmR 125823037105267 h_16) (cwV 1 hts gX12_operand_X12_isWord rfl rfl rfl (by decide +kernel) ⟨Nat.le_of_ble_eq_true rfl, Nat.le_of_ble_eq_true rfl⟩) hN hK hP hD hS hA [0] (by decide) rfl rfl rfl rfl rfl rfl hl.1 rfl (Nat.le_of_ble_eq_true rfl) dX12_operand_371 ⟨Nat.zero_le _, Nat.zero_le _⟩ (fun H locs hP hD hS => ?_)
                    have hP : va_P (dC, dI) vwCl [(a_p0, .inr (12, oX12 mmI_171 mmJ_171 mmR)), ((mmR 33), .inl (cI, 20, .inl mm_frameF_171)), ((mmR 35), .inl (cZ, 20, .inl mm_beginsF_171)), ((mmR 40), .inl (cI, 500, .inl mm_opsF_171)), ((mmR 0), .inl (cI, 1800, .inl mm_tapeF)), ((mmR 34), .inl (cI, 20, .inl mm_phaseF_171)), ((mmR 37), .inl (cI, 20, .inl mm_baseF_171)), ((mmR 26), .inl (cI, 3200, .inl mm_codeSortF_171)), ((mmR 27), .inl (cI, 3200, .inl mm_codeValueF_171)), ((mmR 36), .inl (cI, 20, .inl mm_pairF_171))] H := hP
                    have hD : va_D A [(a_p0, .inr (12, oX12 mmI_171 mmJ_171 mmR)), ((mmR 33), .inl (cI, 20, .inl mm_frameF_171)), ((mmR 35), .inl (cZ, 20, .inl mm_beginsF_171)), ((mmR 40), .inl (cI, 500, .inl mm_opsF_171)), ((mmR 0), .inl (cI, 1800, .inl mm_tapeF)), ((mmR 34), .inl (cI, 20, .inl mm_phaseF_171)), ((mmR 37), .inl (cI, 20, .inl mm_baseF_171)), ((mmR 26), .inl (cI, 3200, .inl mm_codeSortF_171)), ((mmR 27), .inl (cI, 3200, .inl mm_codeValueF_171)), ((mmR 36), .inl (cI, 20, .inl mm_pairF_171))] := hD
                    refine W.eq (g2 := F0 m 374 ls [.int r_15]) rfl ?_
                    refine lv_if_eq (tgt := 381) hx hb dX12_operand_374 (by decide) (fun c_ => ?_) (fun c_ => ?_)
                    · have hf := xq_pos hf c_
                      refine lv_aload_n hx hb dX12_operand_381 rfl (lv_at hl 0 rfl) ?_
                      refine lv_ldc2 (v := 495672455792) hx hb hown hw18 dX12_operand_382 ?_
                      obtain ⟨r_17, h_18, hf⟩ := xq_bd_some hf
                      refine xq_callV (As := [.long 495672455792]) (rest := []) (ci := 12) (q0 := 0) ⟨hx, hb, hml, hown, hts⟩ (kX12_isWord l dC dI cI cB cJ cZ cM z ad N a_p0 mmI_171 mmJ_171 mmR 495672455792 h_18) (cwV 1 hts gX12_operand_X12_isWord rfl rfl rfl (by decide +kernel) ⟨Nat.le_of_ble_eq_true rfl, Nat.le_of_ble_eq_true rfl⟩) hN hK hP hD hS hA [0] (by decide) rfl rfl rfl rfl rfl rfl hl.1 rfl (Nat.le_of_ble_eq_true rfl) dX12_operand_385 ⟨Nat.zero_le _, Nat.zero_le _⟩ (fun H locs hP hD hS => ?_)
                      have hP : va_P (dC, dI) vwCl [(a_p0, .inr (12, oX12 mmI_171 mmJ_171 mmR)), ((mmR 33), .inl (cI, 20, .inl mm_frameF_171)), ((mmR 35), .inl (cZ, 20, .inl mm_beginsF_171)), ((mmR 40), .inl (cI, 500, .inl mm_opsF_171)), ((mmR 0), .inl (cI, 1800, .inl mm_tapeF)), ((mmR 34), .inl (cI, 20, .inl mm_phaseF_171)), ((mmR 37), .inl (cI, 20, .inl mm_baseF_171)), ((mmR 26), .inl (cI, 3200, .inl mm_codeSortF_171)), ((mmR 27), .inl (cI, 3200, .inl mm_codeValueF_171)), ((mmR 36), .inl (cI, 20, .inl mm_pairF_171))] H := hP
                      have hD : va_D A [(a_p0, .inr (12, oX12 mmI_171 mmJ_171 mmR)), ((mmR 33), .inl (cI, 20, .inl mm_frameF_171)), ((mmR 35), .inl (cZ, 20, .inl mm_beginsF_171)), ((mmR 40), .inl (cI, 500, .inl mm_opsF_171)), ((mmR 0), .inl (cI, 1800, .inl mm_tapeF)), ((mmR 34), .inl (cI, 20, .inl mm_phaseF_171)), ((mmR 37), .inl (cI, 20, .inl mm_baseF_171)), ((mmR 26), .inl (cI, 3200, .inl mm_codeSortF_171)), ((mmR 27), .inl (cI, 3200, .inl mm_codeValueF_171)), ((mmR 36), .inl (cI, 20, .inl mm_pairF_171))] := hD
                      refine W.eq (g2 := F0 m 388 ls [.int r_17]) rfl ?_
                      refine lv_if_eq (tgt := 395) hx hb dX12_operand_388 (by decide) (fun c_ => ?_) (fun c_ => ?_)
                      · have hf := xq_pos hf c_
                        refine lv_aload_n hx hb dX12_operand_395 rfl (lv_at hl 0 rfl) ?_
                        refine lv_ldc2 (v := 7499639) hx hb hown hw19 dX12_operand_396 ?_
                        obtain ⟨r_19, h_20, hf⟩ := xq_bd_some hf
                        refine xq_callV (As := [.long 7499639]) (rest := []) (ci := 12) (q0 := 0) ⟨hx, hb, hml, hown, hts⟩ (kX12_isWord l dC dI cI cB cJ cZ cM z ad N a_p0 mmI_171 mmJ_171 mmR 7499639 h_20) (cwV 1 hts gX12_operand_X12_isWord rfl rfl rfl (by decide +kernel) ⟨Nat.le_of_ble_eq_true rfl, Nat.le_of_ble_eq_true rfl⟩) hN hK hP hD hS hA [0] (by decide) rfl rfl rfl rfl rfl rfl hl.1 rfl (Nat.le_of_ble_eq_true rfl) dX12_operand_399 ⟨Nat.zero_le _, Nat.zero_le _⟩ (fun H locs hP hD hS => ?_)
                        have hP : va_P (dC, dI) vwCl [(a_p0, .inr (12, oX12 mmI_171 mmJ_171 mmR)), ((mmR 33), .inl (cI, 20, .inl mm_frameF_171)), ((mmR 35), .inl (cZ, 20, .inl mm_beginsF_171)), ((mmR 40), .inl (cI, 500, .inl mm_opsF_171)), ((mmR 0), .inl (cI, 1800, .inl mm_tapeF)), ((mmR 34), .inl (cI, 20, .inl mm_phaseF_171)), ((mmR 37), .inl (cI, 20, .inl mm_baseF_171)), ((mmR 26), .inl (cI, 3200, .inl mm_codeSortF_171)), ((mmR 27), .inl (cI, 3200, .inl mm_codeValueF_171)), ((mmR 36), .inl (cI, 20, .inl mm_pairF_171))] H := hP
                        have hD : va_D A [(a_p0, .inr (12, oX12 mmI_171 mmJ_171 mmR)), ((mmR 33), .inl (cI, 20, .inl mm_frameF_171)), ((mmR 35), .inl (cZ, 20, .inl mm_beginsF_171)), ((mmR 40), .inl (cI, 500, .inl mm_opsF_171)), ((mmR 0), .inl (cI, 1800, .inl mm_tapeF)), ((mmR 34), .inl (cI, 20, .inl mm_phaseF_171)), ((mmR 37), .inl (cI, 20, .inl mm_baseF_171)), ((mmR 26), .inl (cI, 3200, .inl mm_codeSortF_171)), ((mmR 27), .inl (cI, 3200, .inl mm_codeValueF_171)), ((mmR 36), .inl (cI, 20, .inl mm_pairF_171))] := hD
                        refine W.eq (g2 := F0 m 402 ls [.int r_19]) rfl ?_
                        refine lv_if_eq (tgt := 410) hx hb dX12_operand_402 (by decide) (fun c_ => ?_) (fun c_ => ?_)
                        · have hf := xq_pos hf c_
                          refine lv_aload_n hx hb dX12_operand_410 rfl (lv_at hl 0 rfl) ?_
                          refine lv_ldc2 (v := 6709618) hx hb hown hw20 dX12_operand_411 ?_
                          obtain ⟨r_21, h_22, hf⟩ := xq_bd_some hf
                          refine xq_callV (As := [.long 6709618]) (rest := []) (ci := 12) (q0 := 0) ⟨hx, hb, hml, hown, hts⟩ (kX12_isWord l dC dI cI cB cJ cZ cM z ad N a_p0 mmI_171 mmJ_171 mmR 6709618 h_22) (cwV 1 hts gX12_operand_X12_isWord rfl rfl rfl (by decide +kernel) ⟨Nat.le_of_ble_eq_true rfl, Nat.le_of_ble_eq_true rfl⟩) hN hK hP hD hS hA [0] (by decide) rfl rfl rfl rfl rfl rfl hl.1 rfl (Nat.le_of_ble_eq_true rfl) dX12_operand_414 ⟨Nat.zero_le _, Nat.zero_le _⟩ (fun H locs hP hD hS => ?_)
                          have hP : va_P (dC, dI) vwCl [(a_p0, .inr (12, oX12 mmI_171 mmJ_171 mmR)), ((mmR 33), .inl (cI, 20, .inl mm_frameF_171)), ((mmR 35), .inl (cZ, 20, .inl mm_beginsF_171)), ((mmR 40), .inl (cI, 500, .inl mm_opsF_171)), ((mmR 0), .inl (cI, 1800, .inl mm_tapeF)), ((mmR 34), .inl (cI, 20, .inl mm_phaseF_171)), ((mmR 37), .inl (cI, 20, .inl mm_baseF_171)), ((mmR 26), .inl (cI, 3200, .inl mm_codeSortF_171)), ((mmR 27), .inl (cI, 3200, .inl mm_codeValueF_171)), ((mmR 36), .inl (cI, 20, .inl mm_pairF_171))] H := hP
                          have hD : va_D A [(a_p0, .inr (12, oX12 mmI_171 mmJ_171 mmR)), ((mmR 33), .inl (cI, 20, .inl mm_frameF_171)), ((mmR 35), .inl (cZ, 20, .inl mm_beginsF_171)), ((mmR 40), .inl (cI, 500, .inl mm_opsF_171)), ((mmR 0), .inl (cI, 1800, .inl mm_tapeF)), ((mmR 34), .inl (cI, 20, .inl mm_phaseF_171)), ((mmR 37), .inl (cI, 20, .inl mm_baseF_171)), ((mmR 26), .inl (cI, 3200, .inl mm_codeSortF_171)), ((mmR 27), .inl (cI, 3200, .inl mm_codeValueF_171)), ((mmR 36), .inl (cI, 20, .inl mm_pairF_171))] := hD
                          refine W.eq (g2 := F0 m 417 ls [.int r_21]) rfl ?_
                          refine lv_if_eq (tgt := 425) hx hb dX12_operand_417 (by decide) (fun c_ => ?_) (fun c_ => ?_)
                          · have hf := xq_pos hf c_
                            refine lv_aload_n hx hb dX12_operand_425 rfl (lv_at hl 0 rfl) ?_
                            refine lv_ldc2 (v := 1952541803) hx hb hown hw21 dX12_operand_426 ?_
                            obtain ⟨r_23, h_24, hf⟩ := xq_bd_some hf
                            refine xq_callV (As := [.long 1952541803]) (rest := []) (ci := 12) (q0 := 0) ⟨hx, hb, hml, hown, hts⟩ (kX12_isWord l dC dI cI cB cJ cZ cM z ad N a_p0 mmI_171 mmJ_171 mmR 1952541803 h_24) (cwV 1 hts gX12_operand_X12_isWord rfl rfl rfl (by decide +kernel) ⟨Nat.le_of_ble_eq_true rfl, Nat.le_of_ble_eq_true rfl⟩) hN hK hP hD hS hA [0] (by decide) rfl rfl rfl rfl rfl rfl hl.1 rfl (Nat.le_of_ble_eq_true rfl) dX12_operand_429 ⟨Nat.zero_le _, Nat.zero_le _⟩ (fun H locs hP hD hS => ?_)
                            have hP : va_P (dC, dI) vwCl [(a_p0, .inr (12, oX12 mmI_171 mmJ_171 mmR)), ((mmR 33), .inl (cI, 20, .inl mm_frameF_171)), ((mmR 35), .inl (cZ, 20, .inl mm_beginsF_171)), ((mmR 40), .inl (cI, 500, .inl mm_opsF_171)), ((mmR 0), .inl (cI, 1800, .inl mm_tapeF)), ((mmR 34), .inl (cI, 20, .inl mm_phaseF_171)), ((mmR 37), .inl (cI, 20, .inl mm_baseF_171)), ((mmR 26), .inl (cI, 3200, .inl mm_codeSortF_171)), ((mmR 27), .inl (cI, 3200, .inl mm_codeValueF_171)), ((mmR 36), .inl (cI, 20, .inl mm_pairF_171))] H := hP
                            have hD : va_D A [(a_p0, .inr (12, oX12 mmI_171 mmJ_171 mmR)), ((mmR 33), .inl (cI, 20, .inl mm_frameF_171)), ((mmR 35), .inl (cZ, 20, .inl mm_beginsF_171)), ((mmR 40), .inl (cI, 500, .inl mm_opsF_171)), ((mmR 0), .inl (cI, 1800, .inl mm_tapeF)), ((mmR 34), .inl (cI, 20, .inl mm_phaseF_171)), ((mmR 37), .inl (cI, 20, .inl mm_baseF_171)), ((mmR 26), .inl (cI, 3200, .inl mm_codeSortF_171)), ((mmR 27), .inl (cI, 3200, .inl mm_codeValueF_171)), ((mmR 36), .inl (cI, 20, .inl mm_pairF_171))] := hD
                            refine W.eq (g2 := F0 m 432 ls [.int r_23]) rfl ?_
                            refine lv_if_eq (tgt := 440) hx hb dX12_operand_432 (by decide) (fun c_ => ?_) (fun c_ => ?_)
                            · have hf := xq_pos hf c_
                              refine lv_iconst (v := (-1)) hx hb dX12_operand_440 (by decide) ?_
                              exact b441 mmI_171 mmJ_171 mm_frameF_171 mm_beginsF_171 mm_opsF_171 mm_phaseF_171 mm_baseF_171 mm_codeSortF_171 mm_codeValueF_171 mm_pairF_171 ((-1)) _ _ _ hf hP hD hS (lv_sub hl [0] rfl)
                            · have hf := xq_neg hf c_
                              refine lv_bipush (v := 8) hx hb dX12_operand_435 (by decide) ?_
                              refine lv_goto (tgt := 441) hx hb dX12_operand_437 (by decide) ?_
                              exact b441 mmI_171 mmJ_171 mm_frameF_171 mm_beginsF_171 mm_opsF_171 mm_phaseF_171 mm_baseF_171 mm_codeSortF_171 mm_codeValueF_171 mm_pairF_171 8 _ _ _ hf hP hD hS (lv_sub hl [0] rfl)
                          · have hf := xq_neg hf c_
                            refine lv_bipush (v := 7) hx hb dX12_operand_420 (by decide) ?_
                            refine lv_goto (tgt := 441) hx hb dX12_operand_422 (by decide) ?_
                            exact b441 mmI_171 mmJ_171 mm_frameF_171 mm_beginsF_171 mm_opsF_171 mm_phaseF_171 mm_baseF_171 mm_codeSortF_171 mm_codeValueF_171 mm_pairF_171 7 _ _ _ hf hP hD hS (lv_sub hl [0] rfl)
                        · have hf := xq_neg hf c_
                          refine lv_bipush (v := 6) hx hb dX12_operand_405 (by decide) ?_
                          refine lv_goto (tgt := 441) hx hb dX12_operand_407 (by decide) ?_
                          exact b441 mmI_171 mmJ_171 mm_frameF_171 mm_beginsF_171 mm_opsF_171 mm_phaseF_171 mm_baseF_171 mm_codeSortF_171 mm_codeValueF_171 mm_pairF_171 6 _ _ _ hf hP hD hS (lv_sub hl [0] rfl)
                      · have hf := xq_neg hf c_
                        refine lv_iconst (v := 5) hx hb dX12_operand_391 (by decide) ?_
                        refine lv_goto (tgt := 441) hx hb dX12_operand_392 (by decide) ?_
                        exact b441 mmI_171 mmJ_171 mm_frameF_171 mm_beginsF_171 mm_opsF_171 mm_phaseF_171 mm_baseF_171 mm_codeSortF_171 mm_codeValueF_171 mm_pairF_171 5 _ _ _ hf hP hD hS (lv_sub hl [0] rfl)
                    · have hf := xq_neg hf c_
                      refine lv_iconst (v := 4) hx hb dX12_operand_377 (by decide) ?_
                      refine lv_goto (tgt := 441) hx hb dX12_operand_378 (by decide) ?_
                      exact b441 mmI_171 mmJ_171 mm_frameF_171 mm_beginsF_171 mm_opsF_171 mm_phaseF_171 mm_baseF_171 mm_codeSortF_171 mm_codeValueF_171 mm_pairF_171 4 _ _ _ hf hP hD hS (lv_sub hl [0] rfl)
                  · have hf := xq_neg hf c_
                    refine lv_iconst (v := 3) hx hb dX12_operand_363 (by decide) ?_
                    refine lv_goto (tgt := 441) hx hb dX12_operand_364 (by decide) ?_
                    exact b441 mmI_171 mmJ_171 mm_frameF_171 mm_beginsF_171 mm_opsF_171 mm_phaseF_171 mm_baseF_171 mm_codeSortF_171 mm_codeValueF_171 mm_pairF_171 3 _ _ _ hf hP hD hS (lv_sub hl [0] rfl)
                · have hf := xq_neg hf c_
                  refine lv_iconst (v := 2) hx hb dX12_operand_349 (by decide) ?_
                  refine lv_goto (tgt := 441) hx hb dX12_operand_350 (by decide) ?_
                  exact b441 mmI_171 mmJ_171 mm_frameF_171 mm_beginsF_171 mm_opsF_171 mm_phaseF_171 mm_baseF_171 mm_codeSortF_171 mm_codeValueF_171 mm_pairF_171 2 _ _ _ hf hP hD hS (lv_sub hl [0] rfl)
              · have hf := xq_neg hf c_
                refine lv_iconst (v := 1) hx hb dX12_operand_335 (by decide) ?_
                refine lv_goto (tgt := 441) hx hb dX12_operand_336 (by decide) ?_
                exact b441 mmI_171 mmJ_171 mm_frameF_171 mm_beginsF_171 mm_opsF_171 mm_phaseF_171 mm_baseF_171 mm_codeSortF_171 mm_codeValueF_171 mm_pairF_171 1 _ _ _ hf hP hD hS (lv_sub hl [0] rfl)
            · have hf := xq_pos hf c_
              refine lv_iconst (v := 0) hx hb dX12_operand_321 (by decide) ?_
              refine lv_goto (tgt := 441) hx hb dX12_operand_322 (by decide) ?_
              exact b441 mmI_171 mmJ_171 mm_frameF_171 mm_beginsF_171 mm_opsF_171 mm_phaseF_171 mm_baseF_171 mm_codeSortF_171 mm_codeValueF_171 mm_pairF_171 0 _ _ _ hf hP hD hS (lv_sub hl [0] rfl)
          · have hf := xq_neg hf c_
            exact b217 mmI_171 mmJ_171 mm_frameF_171 mm_beginsF_171 mm_opsF_171 mm_phaseF_171 mm_baseF_171 mm_codeSortF_171 mm_codeValueF_171 mm_pairF_171 _ _ _ hf hP hD hS (lv_sub hl [0] rfl)
    · have hf := xq_neg hf c_
      refine lv_aload_n hx hb dX12_operand_180 rfl (lv_at hl 0 rfl) ?_
      refine lv_iconst (v := 2) hx hb dX12_operand_181 (by decide) ?_
      obtain ⟨⟨r_25_0, r_25_1, r_25_2, r_25_3, r_25_4, r_25_5⟩, h_26, hf⟩ := xq_bd_some hf
      refine xq_callV (As := [.int 2]) (rest := []) (ci := 12) (q0 := 0) ⟨hx, hb, hml, hown, hts⟩ (kX12_opens l dC dI cI cB cJ cZ cM z ad N a_p0 mmI_171 mmJ_171 mmR mm_tapeF mm_frameF_171 mm_phaseF_171 mm_beginsF_171 mm_baseF_171 2 h_26) (cwV 1 hts gX12_operand_X12_opens rfl rfl rfl (by decide +kernel) ⟨Nat.le_of_ble_eq_true rfl, Nat.le_of_ble_eq_true rfl⟩) hN hK hP hD hS hA [0, 4, 1, 5, 2, 6] (by decide) rfl rfl rfl rfl rfl rfl hl.1 rfl (Nat.le_of_ble_eq_true rfl) dX12_operand_182 ⟨Nat.zero_le _, Nat.zero_le _⟩ (fun H locs hP hD hS => ?_)
      have hP : va_P (dC, dI) vwCl [(a_p0, .inr (12, oX12 r_25_0 r_25_1 mmR)), ((mmR 33), .inl (cI, 20, .inl r_25_2)), ((mmR 35), .inl (cZ, 20, .inl r_25_4)), ((mmR 40), .inl (cI, 500, .inl mm_opsF_171)), ((mmR 0), .inl (cI, 1800, .inl mm_tapeF)), ((mmR 34), .inl (cI, 20, .inl r_25_3)), ((mmR 37), .inl (cI, 20, .inl r_25_5)), ((mmR 26), .inl (cI, 3200, .inl mm_codeSortF_171)), ((mmR 27), .inl (cI, 3200, .inl mm_codeValueF_171)), ((mmR 36), .inl (cI, 20, .inl mm_pairF_171))] H := hP
      have hD : va_D A [(a_p0, .inr (12, oX12 r_25_0 r_25_1 mmR)), ((mmR 33), .inl (cI, 20, .inl r_25_2)), ((mmR 35), .inl (cZ, 20, .inl r_25_4)), ((mmR 40), .inl (cI, 500, .inl mm_opsF_171)), ((mmR 0), .inl (cI, 1800, .inl mm_tapeF)), ((mmR 34), .inl (cI, 20, .inl r_25_3)), ((mmR 37), .inl (cI, 20, .inl r_25_5)), ((mmR 26), .inl (cI, 3200, .inl mm_codeSortF_171)), ((mmR 27), .inl (cI, 3200, .inl mm_codeValueF_171)), ((mmR 36), .inl (cI, 20, .inl mm_pairF_171))] := hD
      refine W.eq (g2 := F0 m 185 ls []) rfl ?_
      refine lv_iconst (v := 0) hx hb dX12_operand_185 (by decide) ?_
      have e9 := Option.some.inj hf
      have e9_0 : 0 = r0 := congrArg (fun t => t.1) e9
      have e9_1 : r_25_0 = r1 := congrArg (fun t => t.2.1) e9
      have e9_2 : r_25_1 = r2 := congrArg (fun t => t.2.2.1) e9
      have e9_3 : r_25_2 = r3 := congrArg (fun t => t.2.2.2.1) e9
      have e9_4 : r_25_4 = r4 := congrArg (fun t => t.2.2.2.2.1) e9
      have e9_5 : mm_opsF_171 = r5 := congrArg (fun t => t.2.2.2.2.2.1) e9
      have e9_6 : r_25_3 = r6 := congrArg (fun t => t.2.2.2.2.2.2.1) e9
      have e9_7 : r_25_5 = r7 := congrArg (fun t => t.2.2.2.2.2.2.2.1) e9
      have e9_8 : mm_codeSortF_171 = r8 := congrArg (fun t => t.2.2.2.2.2.2.2.2.1) e9
      have e9_9 : mm_codeValueF_171 = r9 := congrArg (fun t => t.2.2.2.2.2.2.2.2.2.1) e9
      have e9_10 : mm_pairF_171 = r10 := congrArg (fun t => t.2.2.2.2.2.2.2.2.2.2) e9
      clear e9 hf
      try clear b110
      try clear b137
      try clear b171
      try clear b217
      try clear b249
      try clear b276
      try clear b289
      try clear b441
      try clear b45
      try clear b46
      try clear b471
      try clear b476
      try clear b490
      try clear b79
      subst e9_0
      subst e9_1
      subst e9_2
      subst e9_3
      subst e9_4
      subst e9_5
      subst e9_6
      subst e9_7
      subst e9_8
      subst e9_9
      subst e9_10
      exact xq_zret hx hb hr (by decide +kernel) hlocks hK hP hD hS dX12_operand_186
  have b137 : ∀ (mmI_137 : Nat → Int32) (mmJ_137 : Nat → Int64) (mm_frameF_137 : Nat → Int32) (mm_beginsF_137 : Nat → Int32) (mm_opsF_137 : Nat → Int32) (mm_phaseF_137 : Nat → Int32) (mm_baseF_137 : Nat → Int32) (mm_codeSortF_137 : Nat → Int32) (mm_codeValueF_137 : Nat → Int32) (mm_pairF_137 : Nat → Int32) (x1_137 : Int32) (x2_137 : Int32) (ls : Array Slot) (H : Heap) (locs : List Loc), fX12_operand_b137 N mm_tapeF (mmI_137, mmJ_137, mm_frameF_137, mm_beginsF_137, mm_opsF_137, mm_phaseF_137, mm_baseF_137, mm_codeSortF_137, mm_codeValueF_137, mm_pairF_137, x1_137, x2_137) = some (r0, r1, r2, r3, r4, r5, r6, r7, r8, r9, r10) → va_P (dC, dI) vwCl [(a_p0, .inr (12, oX12 mmI_137 mmJ_137 mmR)), ((mmR 33), .inl (cI, 20, .inl mm_frameF_137)), ((mmR 35), .inl (cZ, 20, .inl mm_beginsF_137)), ((mmR 40), .inl (cI, 500, .inl mm_opsF_137)), ((mmR 0), .inl (cI, 1800, .inl mm_tapeF)), ((mmR 34), .inl (cI, 20, .inl mm_phaseF_137)), ((mmR 37), .inl (cI, 20, .inl mm_baseF_137)), ((mmR 26), .inl (cI, 3200, .inl mm_codeSortF_137)), ((mmR 27), .inl (cI, 3200, .inl mm_codeValueF_137)), ((mmR 36), .inl (cI, 20, .inl mm_pairF_137))] H → va_D A [(a_p0, .inr (12, oX12 mmI_137 mmJ_137 mmR)), ((mmR 33), .inl (cI, 20, .inl mm_frameF_137)), ((mmR 35), .inl (cZ, 20, .inl mm_beginsF_137)), ((mmR 40), .inl (cI, 500, .inl mm_opsF_137)), ((mmR 0), .inl (cI, 1800, .inl mm_tapeF)), ((mmR 34), .inl (cI, 20, .inl mm_phaseF_137)), ((mmR 37), .inl (cI, 20, .inl mm_baseF_137)), ((mmR 26), .inl (cI, 3200, .inl mm_codeSortF_137)), ((mmR 27), .inl (cI, 3200, .inl mm_codeValueF_137)), ((mmR 36), .inl (cI, 20, .inl mm_pairF_137))] → va_S A s.heap H locs → lv_has ls 4 [(0, .ref a_p0), (1, .int x1_137), (2, .int x2_137)] → W p l e (headSpec wsX12_operand { frames := 3, cells := 0, slots := 0, locals := 66 }).room s m [.ref a_p0].toArray below meth c H locs 0 0 (MQ below (xq_Q (dC, dI) vwCl (xq_tys cI cB cJ cZ cM) A [(a_p0, .inr (12, oX12 r1 r2 mmR)), ((mmR 33), .inl (cI, 20, .inl r3)), ((mmR 35), .inl (cZ, 20, .inl r4)), ((mmR 40), .inl (cI, 500, .inl r5)), ((mmR 0), .inl (cI, 1800, .inl mm_tapeF)), ((mmR 34), .inl (cI, 20, .inl r6)), ((mmR 37), .inl (cI, 20, .inl r7)), ((mmR 26), .inl (cI, 3200, .inl r8)), ((mmR 27), .inl (cI, 3200, .inl r9)), ((mmR 36), .inl (cI, 20, .inl r10))] (some (.int r0))) [.ref a_p0].toArray s 0 0 A) (F0 m 137 ls []) := by
    intro mmI_137 mmJ_137 mm_frameF_137 mm_beginsF_137 mm_opsF_137 mm_phaseF_137 mm_baseF_137 mm_codeSortF_137 mm_codeValueF_137 mm_pairF_137 x1_137 x2_137 ls H locs hf hP hD hS hl
    unfold fX12_operand_b137 at hf
    refine lv_iload_n hx hb dX12_operand_137 rfl (lv_at hl 2 rfl) ?_
    refine lv_if_eq (tgt := 171) hx hb dX12_operand_138 (by decide) (fun c_ => ?_) (fun c_ => ?_)
    · have hf := xq_pos hf c_
      exact b171 mmI_137 mmJ_137 mm_frameF_137 mm_beginsF_137 mm_opsF_137 mm_phaseF_137 mm_baseF_137 mm_codeSortF_137 mm_codeValueF_137 mm_pairF_137 _ _ _ hf hP hD hS (lv_sub hl [0] rfl)
    · have hf := xq_neg hf c_
      refine lv_aload_n hx hb dX12_operand_141 rfl (lv_at hl 0 rfl) ?_
      refine lv_ldc2 (v := 6384748) hx hb hown hw8 dX12_operand_142 ?_
      obtain ⟨r_1, h_2, hf⟩ := xq_bd_some hf
      refine xq_callV (As := [.long 6384748]) (rest := []) (ci := 12) (q0 := 0) ⟨hx, hb, hml, hown, hts⟩ (kX12_isWord l dC dI cI cB cJ cZ cM z ad N a_p0 mmI_137 mmJ_137 mmR 6384748 h_2) (cwV 1 hts gX12_operand_X12_isWord rfl rfl rfl (by decide +kernel) ⟨Nat.le_of_ble_eq_true rfl, Nat.le_of_ble_eq_true rfl⟩) hN hK hP hD hS hA [0] (by decide) rfl rfl rfl rfl rfl rfl hl.1 rfl (Nat.le_of_ble_eq_true rfl) dX12_operand_145 ⟨Nat.zero_le _, Nat.zero_le _⟩ (fun H locs hP hD hS => ?_)
      have hP : va_P (dC, dI) vwCl [(a_p0, .inr (12, oX12 mmI_137 mmJ_137 mmR)), ((mmR 33), .inl (cI, 20, .inl mm_frameF_137)), ((mmR 35), .inl (cZ, 20, .inl mm_beginsF_137)), ((mmR 40), .inl (cI, 500, .inl mm_opsF_137)), ((mmR 0), .inl (cI, 1800, .inl mm_tapeF)), ((mmR 34), .inl (cI, 20, .inl mm_phaseF_137)), ((mmR 37), .inl (cI, 20, .inl mm_baseF_137)), ((mmR 26), .inl (cI, 3200, .inl mm_codeSortF_137)), ((mmR 27), .inl (cI, 3200, .inl mm_codeValueF_137)), ((mmR 36), .inl (cI, 20, .inl mm_pairF_137))] H := hP
      have hD : va_D A [(a_p0, .inr (12, oX12 mmI_137 mmJ_137 mmR)), ((mmR 33), .inl (cI, 20, .inl mm_frameF_137)), ((mmR 35), .inl (cZ, 20, .inl mm_beginsF_137)), ((mmR 40), .inl (cI, 500, .inl mm_opsF_137)), ((mmR 0), .inl (cI, 1800, .inl mm_tapeF)), ((mmR 34), .inl (cI, 20, .inl mm_phaseF_137)), ((mmR 37), .inl (cI, 20, .inl mm_baseF_137)), ((mmR 26), .inl (cI, 3200, .inl mm_codeSortF_137)), ((mmR 27), .inl (cI, 3200, .inl mm_codeValueF_137)), ((mmR 36), .inl (cI, 20, .inl mm_pairF_137))] := hD
      refine W.eq (g2 := F0 m 148 ls [.int r_1]) rfl ?_
      refine lv_if_eq (tgt := 171) hx hb dX12_operand_148 (by decide) (fun c_ => ?_) (fun c_ => ?_)
      · have hf := xq_pos hf c_
        exact b171 mmI_137 mmJ_137 mm_frameF_137 mm_beginsF_137 mm_opsF_137 mm_phaseF_137 mm_baseF_137 mm_codeSortF_137 mm_codeValueF_137 mm_pairF_137 _ _ _ hf hP hD hS (lv_sub hl [0] rfl)
      · have hf := xq_neg hf c_
        refine lv_aload_n hx hb dX12_operand_151 rfl (lv_at hl 0 rfl) ?_
        refine lv_bipush (v := 30) hx hb dX12_operand_152 (by decide) ?_
        refine lv_iconst (v := 0) hx hb dX12_operand_154 (by decide) ?_
        obtain ⟨⟨r_3_0, r_3_1, r_3_2⟩, h_4, hf⟩ := xq_bd_some hf
        refine xq_callV (As := [.int 30, .int 0]) (rest := []) (ci := 12) (q0 := 0) ⟨hx, hb, hml, hown, hts⟩ (kX12_add l dC dI cI cB cJ cZ cM z ad N a_p0 mmI_137 mmJ_137 mmR mm_codeSortF_137 mm_codeValueF_137 30 0 h_4) (cwV 2 hts gX12_operand_X12_add rfl rfl rfl (by decide +kernel) ⟨Nat.le_of_ble_eq_true rfl, Nat.le_of_ble_eq_true rfl⟩) hN hK hP hD hS hA [0, 7, 8] (by decide) rfl rfl rfl rfl rfl rfl hl.1 rfl (Nat.le_of_ble_eq_true rfl) dX12_operand_155 ⟨Nat.zero_le _, Nat.zero_le _⟩ (fun H locs hP hD hS => ?_)
        have hP : va_P (dC, dI) vwCl [(a_p0, .inr (12, oX12 r_3_0 mmJ_137 mmR)), ((mmR 33), .inl (cI, 20, .inl mm_frameF_137)), ((mmR 35), .inl (cZ, 20, .inl mm_beginsF_137)), ((mmR 40), .inl (cI, 500, .inl mm_opsF_137)), ((mmR 0), .inl (cI, 1800, .inl mm_tapeF)), ((mmR 34), .inl (cI, 20, .inl mm_phaseF_137)), ((mmR 37), .inl (cI, 20, .inl mm_baseF_137)), ((mmR 26), .inl (cI, 3200, .inl r_3_1)), ((mmR 27), .inl (cI, 3200, .inl r_3_2)), ((mmR 36), .inl (cI, 20, .inl mm_pairF_137))] H := hP
        have hD : va_D A [(a_p0, .inr (12, oX12 r_3_0 mmJ_137 mmR)), ((mmR 33), .inl (cI, 20, .inl mm_frameF_137)), ((mmR 35), .inl (cZ, 20, .inl mm_beginsF_137)), ((mmR 40), .inl (cI, 500, .inl mm_opsF_137)), ((mmR 0), .inl (cI, 1800, .inl mm_tapeF)), ((mmR 34), .inl (cI, 20, .inl mm_phaseF_137)), ((mmR 37), .inl (cI, 20, .inl mm_baseF_137)), ((mmR 26), .inl (cI, 3200, .inl r_3_1)), ((mmR 27), .inl (cI, 3200, .inl r_3_2)), ((mmR 36), .inl (cI, 20, .inl mm_pairF_137))] := hD
        refine W.eq (g2 := F0 m 158 ls []) rfl ?_
        refine lv_aload_n hx hb dX12_operand_158 rfl (lv_at hl 0 rfl) ?_
        refine va_get (D := (dC, dI)) (ci := 12) (v := .ref ((mmR 34))) (C := RX12) (T := TX12) (N := 70) hx hb hts hinX12 hown hK hP 0 rfl rfl 34 (by decide) hw9 (fun _ h9 => h9) rfl dX12_operand_159 ?_
        refine lv_iload_n hx hb dX12_operand_162 rfl (lv_at hl 1 rfl) ?_
        refine lv_iconst (v := 2) hx hb dX12_operand_163 (by decide) ?_
        refine xq_iast hx hb hK hP hD hS 5 0 rfl rfl hf dX12_operand_164 (fun g_5 H locs hf hP hD hS => ?_)
        have hP : va_P (dC, dI) vwCl [(a_p0, .inr (12, oX12 r_3_0 mmJ_137 mmR)), ((mmR 33), .inl (cI, 20, .inl mm_frameF_137)), ((mmR 35), .inl (cZ, 20, .inl mm_beginsF_137)), ((mmR 40), .inl (cI, 500, .inl mm_opsF_137)), ((mmR 0), .inl (cI, 1800, .inl mm_tapeF)), ((mmR 34), .inl (cI, 20, .inl g_5)), ((mmR 37), .inl (cI, 20, .inl mm_baseF_137)), ((mmR 26), .inl (cI, 3200, .inl r_3_1)), ((mmR 27), .inl (cI, 3200, .inl r_3_2)), ((mmR 36), .inl (cI, 20, .inl mm_pairF_137))] H := hP
        have hD : va_D A [(a_p0, .inr (12, oX12 r_3_0 mmJ_137 mmR)), ((mmR 33), .inl (cI, 20, .inl mm_frameF_137)), ((mmR 35), .inl (cZ, 20, .inl mm_beginsF_137)), ((mmR 40), .inl (cI, 500, .inl mm_opsF_137)), ((mmR 0), .inl (cI, 1800, .inl mm_tapeF)), ((mmR 34), .inl (cI, 20, .inl g_5)), ((mmR 37), .inl (cI, 20, .inl mm_baseF_137)), ((mmR 26), .inl (cI, 3200, .inl r_3_1)), ((mmR 27), .inl (cI, 3200, .inl r_3_2)), ((mmR 36), .inl (cI, 20, .inl mm_pairF_137))] := hD
        refine lv_aload_n hx hb dX12_operand_165 rfl (lv_at hl 0 rfl) ?_
        obtain ⟨⟨r_6_0, r_6_1⟩, h_7, hf⟩ := xq_bd_some hf
        refine xq_callV (As := []) (rest := []) (ci := 12) (q0 := 0) ⟨hx, hb, hml, hown, hts⟩ (kX12_ahead l dC dI cI cB cJ cZ cM z ad N a_p0 r_3_0 mmJ_137 mmR mm_tapeF h_7) (cwV 0 hts gX12_operand_X12_ahead rfl rfl rfl (by decide +kernel) ⟨Nat.le_of_ble_eq_true rfl, Nat.le_of_ble_eq_true rfl⟩) hN hK hP hD hS hA [0, 4] (by decide) rfl rfl rfl rfl rfl rfl hl.1 rfl (Nat.le_of_ble_eq_true rfl) dX12_operand_166 ⟨Nat.zero_le _, Nat.zero_le _⟩ (fun H locs hP hD hS => ?_)
        have hP : va_P (dC, dI) vwCl [(a_p0, .inr (12, oX12 r_6_0 r_6_1 mmR)), ((mmR 33), .inl (cI, 20, .inl mm_frameF_137)), ((mmR 35), .inl (cZ, 20, .inl mm_beginsF_137)), ((mmR 40), .inl (cI, 500, .inl mm_opsF_137)), ((mmR 0), .inl (cI, 1800, .inl mm_tapeF)), ((mmR 34), .inl (cI, 20, .inl g_5)), ((mmR 37), .inl (cI, 20, .inl mm_baseF_137)), ((mmR 26), .inl (cI, 3200, .inl r_3_1)), ((mmR 27), .inl (cI, 3200, .inl r_3_2)), ((mmR 36), .inl (cI, 20, .inl mm_pairF_137))] H := hP
        have hD : va_D A [(a_p0, .inr (12, oX12 r_6_0 r_6_1 mmR)), ((mmR 33), .inl (cI, 20, .inl mm_frameF_137)), ((mmR 35), .inl (cZ, 20, .inl mm_beginsF_137)), ((mmR 40), .inl (cI, 500, .inl mm_opsF_137)), ((mmR 0), .inl (cI, 1800, .inl mm_tapeF)), ((mmR 34), .inl (cI, 20, .inl g_5)), ((mmR 37), .inl (cI, 20, .inl mm_baseF_137)), ((mmR 26), .inl (cI, 3200, .inl r_3_1)), ((mmR 27), .inl (cI, 3200, .inl r_3_2)), ((mmR 36), .inl (cI, 20, .inl mm_pairF_137))] := hD
        refine W.eq (g2 := F0 m 169 ls []) rfl ?_
        refine lv_iconst (v := 1) hx hb dX12_operand_169 (by decide) ?_
        have e9 := Option.some.inj hf
        have e9_0 : 1 = r0 := congrArg (fun t => t.1) e9
        have e9_1 : r_6_0 = r1 := congrArg (fun t => t.2.1) e9
        have e9_2 : r_6_1 = r2 := congrArg (fun t => t.2.2.1) e9
        have e9_3 : mm_frameF_137 = r3 := congrArg (fun t => t.2.2.2.1) e9
        have e9_4 : mm_beginsF_137 = r4 := congrArg (fun t => t.2.2.2.2.1) e9
        have e9_5 : mm_opsF_137 = r5 := congrArg (fun t => t.2.2.2.2.2.1) e9
        have e9_6 : g_5 = r6 := congrArg (fun t => t.2.2.2.2.2.2.1) e9
        have e9_7 : mm_baseF_137 = r7 := congrArg (fun t => t.2.2.2.2.2.2.2.1) e9
        have e9_8 : r_3_1 = r8 := congrArg (fun t => t.2.2.2.2.2.2.2.2.1) e9
        have e9_9 : r_3_2 = r9 := congrArg (fun t => t.2.2.2.2.2.2.2.2.2.1) e9
        have e9_10 : mm_pairF_137 = r10 := congrArg (fun t => t.2.2.2.2.2.2.2.2.2.2) e9
        clear e9 hf
        try clear b110
        try clear b137
        try clear b171
        try clear b217
        try clear b249
        try clear b276
        try clear b289
        try clear b441
        try clear b45
        try clear b46
        try clear b471
        try clear b476
        try clear b490
        try clear b79
        subst e9_0
        subst e9_1
        subst e9_2
        subst e9_3
        subst e9_4
        subst e9_5
        subst e9_6
        subst e9_7
        subst e9_8
        subst e9_9
        subst e9_10
        exact xq_zret hx hb hr (by decide +kernel) hlocks hK hP hD hS dX12_operand_170
  have b110 : ∀ (mmI_110 : Nat → Int32) (mmJ_110 : Nat → Int64) (mm_frameF_110 : Nat → Int32) (mm_beginsF_110 : Nat → Int32) (mm_opsF_110 : Nat → Int32) (mm_phaseF_110 : Nat → Int32) (mm_baseF_110 : Nat → Int32) (mm_codeSortF_110 : Nat → Int32) (mm_codeValueF_110 : Nat → Int32) (mm_pairF_110 : Nat → Int32) (x1_110 : Int32) (x2_110 : Int32) (ls : Array Slot) (H : Heap) (locs : List Loc), fX12_operand_b110 N mm_tapeF (mmI_110, mmJ_110, mm_frameF_110, mm_beginsF_110, mm_opsF_110, mm_phaseF_110, mm_baseF_110, mm_codeSortF_110, mm_codeValueF_110, mm_pairF_110, x1_110, x2_110) = some (r0, r1, r2, r3, r4, r5, r6, r7, r8, r9, r10) → va_P (dC, dI) vwCl [(a_p0, .inr (12, oX12 mmI_110 mmJ_110 mmR)), ((mmR 33), .inl (cI, 20, .inl mm_frameF_110)), ((mmR 35), .inl (cZ, 20, .inl mm_beginsF_110)), ((mmR 40), .inl (cI, 500, .inl mm_opsF_110)), ((mmR 0), .inl (cI, 1800, .inl mm_tapeF)), ((mmR 34), .inl (cI, 20, .inl mm_phaseF_110)), ((mmR 37), .inl (cI, 20, .inl mm_baseF_110)), ((mmR 26), .inl (cI, 3200, .inl mm_codeSortF_110)), ((mmR 27), .inl (cI, 3200, .inl mm_codeValueF_110)), ((mmR 36), .inl (cI, 20, .inl mm_pairF_110))] H → va_D A [(a_p0, .inr (12, oX12 mmI_110 mmJ_110 mmR)), ((mmR 33), .inl (cI, 20, .inl mm_frameF_110)), ((mmR 35), .inl (cZ, 20, .inl mm_beginsF_110)), ((mmR 40), .inl (cI, 500, .inl mm_opsF_110)), ((mmR 0), .inl (cI, 1800, .inl mm_tapeF)), ((mmR 34), .inl (cI, 20, .inl mm_phaseF_110)), ((mmR 37), .inl (cI, 20, .inl mm_baseF_110)), ((mmR 26), .inl (cI, 3200, .inl mm_codeSortF_110)), ((mmR 27), .inl (cI, 3200, .inl mm_codeValueF_110)), ((mmR 36), .inl (cI, 20, .inl mm_pairF_110))] → va_S A s.heap H locs → lv_has ls 4 [(0, .ref a_p0), (1, .int x1_110), (2, .int x2_110)] → W p l e (headSpec wsX12_operand { frames := 3, cells := 0, slots := 0, locals := 66 }).room s m [.ref a_p0].toArray below meth c H locs 0 0 (MQ below (xq_Q (dC, dI) vwCl (xq_tys cI cB cJ cZ cM) A [(a_p0, .inr (12, oX12 r1 r2 mmR)), ((mmR 33), .inl (cI, 20, .inl r3)), ((mmR 35), .inl (cZ, 20, .inl r4)), ((mmR 40), .inl (cI, 500, .inl r5)), ((mmR 0), .inl (cI, 1800, .inl mm_tapeF)), ((mmR 34), .inl (cI, 20, .inl r6)), ((mmR 37), .inl (cI, 20, .inl r7)), ((mmR 26), .inl (cI, 3200, .inl r8)), ((mmR 27), .inl (cI, 3200, .inl r9)), ((mmR 36), .inl (cI, 20, .inl r10))] (some (.int r0))) [.ref a_p0].toArray s 0 0 A) (F0 m 110 ls []) := by
    intro mmI_110 mmJ_110 mm_frameF_110 mm_beginsF_110 mm_opsF_110 mm_phaseF_110 mm_baseF_110 mm_codeSortF_110 mm_codeValueF_110 mm_pairF_110 x1_110 x2_110 ls H locs hf hP hD hS hl
    unfold fX12_operand_b110 at hf
    refine lv_aload_n hx hb dX12_operand_110 rfl (lv_at hl 0 rfl) ?_
    refine va_get (D := (dC, dI)) (ci := 12) (v := .ref ((mmR 35))) (C := RX12) (T := TX12) (N := 70) hx hb hts hinX12 hown hK hP 0 rfl rfl 35 (by decide) hw4 (fun _ h9 => h9) rfl dX12_operand_111 ?_
    refine lv_iload_n hx hb dX12_operand_114 rfl (lv_at hl 1 rfl) ?_
    refine lv_iconst (v := 0) hx hb dX12_operand_115 (by decide) ?_
    refine xq_zast hx hb hK hP hD hS 2 3 rfl rfl hf dX12_operand_116 (fun g_1 H locs hf hP hD hS => ?_)
    have hP : va_P (dC, dI) vwCl [(a_p0, .inr (12, oX12 mmI_110 mmJ_110 mmR)), ((mmR 33), .inl (cI, 20, .inl mm_frameF_110)), ((mmR 35), .inl (cZ, 20, .inl g_1)), ((mmR 40), .inl (cI, 500, .inl mm_opsF_110)), ((mmR 0), .inl (cI, 1800, .inl mm_tapeF)), ((mmR 34), .inl (cI, 20, .inl mm_phaseF_110)), ((mmR 37), .inl (cI, 20, .inl mm_baseF_110)), ((mmR 26), .inl (cI, 3200, .inl mm_codeSortF_110)), ((mmR 27), .inl (cI, 3200, .inl mm_codeValueF_110)), ((mmR 36), .inl (cI, 20, .inl mm_pairF_110))] H := hP
    have hD : va_D A [(a_p0, .inr (12, oX12 mmI_110 mmJ_110 mmR)), ((mmR 33), .inl (cI, 20, .inl mm_frameF_110)), ((mmR 35), .inl (cZ, 20, .inl g_1)), ((mmR 40), .inl (cI, 500, .inl mm_opsF_110)), ((mmR 0), .inl (cI, 1800, .inl mm_tapeF)), ((mmR 34), .inl (cI, 20, .inl mm_phaseF_110)), ((mmR 37), .inl (cI, 20, .inl mm_baseF_110)), ((mmR 26), .inl (cI, 3200, .inl mm_codeSortF_110)), ((mmR 27), .inl (cI, 3200, .inl mm_codeValueF_110)), ((mmR 36), .inl (cI, 20, .inl mm_pairF_110))] := hD
    refine lv_iload_n hx hb dX12_operand_117 rfl (lv_at hl 2 rfl) ?_
    refine lv_if_eq (tgt := 137) hx hb dX12_operand_118 (by decide) (fun c_ => ?_) (fun c_ => ?_)
    · have hf := xq_pos hf c_
      exact b137 mmI_110 mmJ_110 mm_frameF_110 g_1 mm_opsF_110 mm_phaseF_110 mm_baseF_110 mm_codeSortF_110 mm_codeValueF_110 mm_pairF_110 x1_110 x2_110 _ _ _ hf hP hD hS (lv_sub hl [0, 1, 2] rfl)
    · have hf := xq_neg hf c_
      refine lv_aload_n hx hb dX12_operand_121 rfl (lv_at hl 0 rfl) ?_
      refine lv_bipush (v := 91) hx hb dX12_operand_122 (by decide) ?_
      obtain ⟨r_2, h_3, hf⟩ := xq_bd_some hf
      refine xq_callV (As := [.int 91]) (rest := []) (ci := 12) (q0 := 0) ⟨hx, hb, hml, hown, hts⟩ (kX12_isSign l dC dI cI cB cJ cZ cM z ad N a_p0 mmI_110 mmJ_110 mmR 91 h_3) (cwV 1 hts gX12_operand_X12_isSign rfl rfl rfl (by decide +kernel) ⟨Nat.le_of_ble_eq_true rfl, Nat.le_of_ble_eq_true rfl⟩) hN hK hP hD hS hA [0] (by decide) rfl rfl rfl rfl rfl rfl hl.1 rfl (Nat.le_of_ble_eq_true rfl) dX12_operand_124 ⟨Nat.zero_le _, Nat.zero_le _⟩ (fun H locs hP hD hS => ?_)
      have hP : va_P (dC, dI) vwCl [(a_p0, .inr (12, oX12 mmI_110 mmJ_110 mmR)), ((mmR 33), .inl (cI, 20, .inl mm_frameF_110)), ((mmR 35), .inl (cZ, 20, .inl g_1)), ((mmR 40), .inl (cI, 500, .inl mm_opsF_110)), ((mmR 0), .inl (cI, 1800, .inl mm_tapeF)), ((mmR 34), .inl (cI, 20, .inl mm_phaseF_110)), ((mmR 37), .inl (cI, 20, .inl mm_baseF_110)), ((mmR 26), .inl (cI, 3200, .inl mm_codeSortF_110)), ((mmR 27), .inl (cI, 3200, .inl mm_codeValueF_110)), ((mmR 36), .inl (cI, 20, .inl mm_pairF_110))] H := hP
      have hD : va_D A [(a_p0, .inr (12, oX12 mmI_110 mmJ_110 mmR)), ((mmR 33), .inl (cI, 20, .inl mm_frameF_110)), ((mmR 35), .inl (cZ, 20, .inl g_1)), ((mmR 40), .inl (cI, 500, .inl mm_opsF_110)), ((mmR 0), .inl (cI, 1800, .inl mm_tapeF)), ((mmR 34), .inl (cI, 20, .inl mm_phaseF_110)), ((mmR 37), .inl (cI, 20, .inl mm_baseF_110)), ((mmR 26), .inl (cI, 3200, .inl mm_codeSortF_110)), ((mmR 27), .inl (cI, 3200, .inl mm_codeValueF_110)), ((mmR 36), .inl (cI, 20, .inl mm_pairF_110))] := hD
      refine W.eq (g2 := F0 m 127 ls [.int r_2]) rfl ?_
      refine lv_if_eq (tgt := 137) hx hb dX12_operand_127 (by decide) (fun c_ => ?_) (fun c_ => ?_)
      · have hf := xq_pos hf c_
        exact b137 mmI_110 mmJ_110 mm_frameF_110 g_1 mm_opsF_110 mm_phaseF_110 mm_baseF_110 mm_codeSortF_110 mm_codeValueF_110 mm_pairF_110 x1_110 x2_110 _ _ _ hf hP hD hS (lv_sub hl [0, 1, 2] rfl)
      · have hf := xq_neg hf c_
        refine lv_aload_n hx hb dX12_operand_130 rfl (lv_at hl 0 rfl) ?_
        refine lv_iconst (v := 5) hx hb dX12_operand_131 (by decide) ?_
        obtain ⟨⟨r_4_0, r_4_1, r_4_2, r_4_3, r_4_4, r_4_5⟩, h_5, hf⟩ := xq_bd_some hf
        refine xq_callV (As := [.int 5]) (rest := []) (ci := 12) (q0 := 0) ⟨hx, hb, hml, hown, hts⟩ (kX12_opens l dC dI cI cB cJ cZ cM z ad N a_p0 mmI_110 mmJ_110 mmR mm_tapeF mm_frameF_110 mm_phaseF_110 g_1 mm_baseF_110 5 h_5) (cwV 1 hts gX12_operand_X12_opens rfl rfl rfl (by decide +kernel) ⟨Nat.le_of_ble_eq_true rfl, Nat.le_of_ble_eq_true rfl⟩) hN hK hP hD hS hA [0, 4, 1, 5, 2, 6] (by decide) rfl rfl rfl rfl rfl rfl hl.1 rfl (Nat.le_of_ble_eq_true rfl) dX12_operand_132 ⟨Nat.zero_le _, Nat.zero_le _⟩ (fun H locs hP hD hS => ?_)
        have hP : va_P (dC, dI) vwCl [(a_p0, .inr (12, oX12 r_4_0 r_4_1 mmR)), ((mmR 33), .inl (cI, 20, .inl r_4_2)), ((mmR 35), .inl (cZ, 20, .inl r_4_4)), ((mmR 40), .inl (cI, 500, .inl mm_opsF_110)), ((mmR 0), .inl (cI, 1800, .inl mm_tapeF)), ((mmR 34), .inl (cI, 20, .inl r_4_3)), ((mmR 37), .inl (cI, 20, .inl r_4_5)), ((mmR 26), .inl (cI, 3200, .inl mm_codeSortF_110)), ((mmR 27), .inl (cI, 3200, .inl mm_codeValueF_110)), ((mmR 36), .inl (cI, 20, .inl mm_pairF_110))] H := hP
        have hD : va_D A [(a_p0, .inr (12, oX12 r_4_0 r_4_1 mmR)), ((mmR 33), .inl (cI, 20, .inl r_4_2)), ((mmR 35), .inl (cZ, 20, .inl r_4_4)), ((mmR 40), .inl (cI, 500, .inl mm_opsF_110)), ((mmR 0), .inl (cI, 1800, .inl mm_tapeF)), ((mmR 34), .inl (cI, 20, .inl r_4_3)), ((mmR 37), .inl (cI, 20, .inl r_4_5)), ((mmR 26), .inl (cI, 3200, .inl mm_codeSortF_110)), ((mmR 27), .inl (cI, 3200, .inl mm_codeValueF_110)), ((mmR 36), .inl (cI, 20, .inl mm_pairF_110))] := hD
        refine W.eq (g2 := F0 m 135 ls []) rfl ?_
        refine lv_iconst (v := 0) hx hb dX12_operand_135 (by decide) ?_
        have e9 := Option.some.inj hf
        have e9_0 : 0 = r0 := congrArg (fun t => t.1) e9
        have e9_1 : r_4_0 = r1 := congrArg (fun t => t.2.1) e9
        have e9_2 : r_4_1 = r2 := congrArg (fun t => t.2.2.1) e9
        have e9_3 : r_4_2 = r3 := congrArg (fun t => t.2.2.2.1) e9
        have e9_4 : r_4_4 = r4 := congrArg (fun t => t.2.2.2.2.1) e9
        have e9_5 : mm_opsF_110 = r5 := congrArg (fun t => t.2.2.2.2.2.1) e9
        have e9_6 : r_4_3 = r6 := congrArg (fun t => t.2.2.2.2.2.2.1) e9
        have e9_7 : r_4_5 = r7 := congrArg (fun t => t.2.2.2.2.2.2.2.1) e9
        have e9_8 : mm_codeSortF_110 = r8 := congrArg (fun t => t.2.2.2.2.2.2.2.2.1) e9
        have e9_9 : mm_codeValueF_110 = r9 := congrArg (fun t => t.2.2.2.2.2.2.2.2.2.1) e9
        have e9_10 : mm_pairF_110 = r10 := congrArg (fun t => t.2.2.2.2.2.2.2.2.2.2) e9
        clear e9 hf
        try clear b110
        try clear b137
        try clear b171
        try clear b217
        try clear b249
        try clear b276
        try clear b289
        try clear b441
        try clear b45
        try clear b46
        try clear b471
        try clear b476
        try clear b490
        try clear b79
        subst e9_0
        subst e9_1
        subst e9_2
        subst e9_3
        subst e9_4
        subst e9_5
        subst e9_6
        subst e9_7
        subst e9_8
        subst e9_9
        subst e9_10
        exact xq_zret hx hb hr (by decide +kernel) hlocks hK hP hD hS dX12_operand_136
  have b79 : ∀ (mmI_79 : Nat → Int32) (mmJ_79 : Nat → Int64) (mm_frameF_79 : Nat → Int32) (mm_beginsF_79 : Nat → Int32) (mm_opsF_79 : Nat → Int32) (mm_phaseF_79 : Nat → Int32) (mm_baseF_79 : Nat → Int32) (mm_codeSortF_79 : Nat → Int32) (mm_codeValueF_79 : Nat → Int32) (mm_pairF_79 : Nat → Int32) (ls : Array Slot) (H : Heap) (locs : List Loc), fX12_operand_b79 N mm_tapeF (mmI_79, mmJ_79, mm_frameF_79, mm_beginsF_79, mm_opsF_79, mm_phaseF_79, mm_baseF_79, mm_codeSortF_79, mm_codeValueF_79, mm_pairF_79) = some (r0, r1, r2, r3, r4, r5, r6, r7, r8, r9, r10) → va_P (dC, dI) vwCl [(a_p0, .inr (12, oX12 mmI_79 mmJ_79 mmR)), ((mmR 33), .inl (cI, 20, .inl mm_frameF_79)), ((mmR 35), .inl (cZ, 20, .inl mm_beginsF_79)), ((mmR 40), .inl (cI, 500, .inl mm_opsF_79)), ((mmR 0), .inl (cI, 1800, .inl mm_tapeF)), ((mmR 34), .inl (cI, 20, .inl mm_phaseF_79)), ((mmR 37), .inl (cI, 20, .inl mm_baseF_79)), ((mmR 26), .inl (cI, 3200, .inl mm_codeSortF_79)), ((mmR 27), .inl (cI, 3200, .inl mm_codeValueF_79)), ((mmR 36), .inl (cI, 20, .inl mm_pairF_79))] H → va_D A [(a_p0, .inr (12, oX12 mmI_79 mmJ_79 mmR)), ((mmR 33), .inl (cI, 20, .inl mm_frameF_79)), ((mmR 35), .inl (cZ, 20, .inl mm_beginsF_79)), ((mmR 40), .inl (cI, 500, .inl mm_opsF_79)), ((mmR 0), .inl (cI, 1800, .inl mm_tapeF)), ((mmR 34), .inl (cI, 20, .inl mm_phaseF_79)), ((mmR 37), .inl (cI, 20, .inl mm_baseF_79)), ((mmR 26), .inl (cI, 3200, .inl mm_codeSortF_79)), ((mmR 27), .inl (cI, 3200, .inl mm_codeValueF_79)), ((mmR 36), .inl (cI, 20, .inl mm_pairF_79))] → va_S A s.heap H locs → lv_has ls 4 [(0, .ref a_p0)] → W p l e (headSpec wsX12_operand { frames := 3, cells := 0, slots := 0, locals := 66 }).room s m [.ref a_p0].toArray below meth c H locs 0 0 (MQ below (xq_Q (dC, dI) vwCl (xq_tys cI cB cJ cZ cM) A [(a_p0, .inr (12, oX12 r1 r2 mmR)), ((mmR 33), .inl (cI, 20, .inl r3)), ((mmR 35), .inl (cZ, 20, .inl r4)), ((mmR 40), .inl (cI, 500, .inl r5)), ((mmR 0), .inl (cI, 1800, .inl mm_tapeF)), ((mmR 34), .inl (cI, 20, .inl r6)), ((mmR 37), .inl (cI, 20, .inl r7)), ((mmR 26), .inl (cI, 3200, .inl r8)), ((mmR 27), .inl (cI, 3200, .inl r9)), ((mmR 36), .inl (cI, 20, .inl r10))] (some (.int r0))) [.ref a_p0].toArray s 0 0 A) (F0 m 79 ls []) := by
    intro mmI_79 mmJ_79 mm_frameF_79 mm_beginsF_79 mm_opsF_79 mm_phaseF_79 mm_baseF_79 mm_codeSortF_79 mm_codeValueF_79 mm_pairF_79 ls H locs hf hP hD hS hl
    unfold fX12_operand_b79 at hf
    refine lv_aload_n hx hb dX12_operand_79 rfl (lv_at hl 0 rfl) ?_
    refine va_get (D := (dC, dI)) (ci := 12) (v := .int (mmI_79 8)) (C := RX12) (T := TX12) (N := 70) hx hb hts hinX12 hown hK hP 0 rfl rfl 8 (by decide) hw0 (fun _ h9 => h9) rfl dX12_operand_80 ?_
    refine lv_if_le (tgt := 88) hx hb dX12_operand_83 (by decide) (fun c_ => ?_) (fun c_ => ?_)
    · have hf := xq_pos hf c_
      refine lv_aload_n hx hb dX12_operand_88 rfl (lv_at hl 0 rfl) ?_
      refine lv_dup hx hb dX12_operand_89 rfl ?_
      refine va_get (D := (dC, dI)) (ci := 12) (v := .int (mmI_79 39)) (C := RX12) (T := TX12) (N := 70) hx hb hts hinX12 hown hK hP 0 rfl rfl 39 (by decide) hw6 (fun _ h9 => h9) rfl dX12_operand_90 ?_
      refine lv_iconst (v := 1) hx hb dX12_operand_93 (by decide) ?_
      refine lv_iadd hx hb dX12_operand_94 ?_
      refine va_put (D := (dC, dI)) (ci := 12) (v := .int ((mmI_79 39) + 1)) (ty := .int) (C := RX12) (T := TX12) (N := 70) hx hb hts hinX12 tyX12 tyX12_ok nmX12 hown hK hP hD hS 0 rfl rfl 39 (by decide) hw6 (fun _ h9 => h9) rfl (by decide +kernel) rfl rfl (Nat.le_of_ble_eq_true rfl) dX12_operand_95 (fun H locs hP hD hS => ?_)
      have hP : va_P (dC, dI) vwCl [(a_p0, .inr (12, oX12 (va_up mmI_79 39 ((mmI_79 39) + 1)) mmJ_79 mmR)), ((mmR 33), .inl (cI, 20, .inl mm_frameF_79)), ((mmR 35), .inl (cZ, 20, .inl mm_beginsF_79)), ((mmR 40), .inl (cI, 500, .inl mm_opsF_79)), ((mmR 0), .inl (cI, 1800, .inl mm_tapeF)), ((mmR 34), .inl (cI, 20, .inl mm_phaseF_79)), ((mmR 37), .inl (cI, 20, .inl mm_baseF_79)), ((mmR 26), .inl (cI, 3200, .inl mm_codeSortF_79)), ((mmR 27), .inl (cI, 3200, .inl mm_codeValueF_79)), ((mmR 36), .inl (cI, 20, .inl mm_pairF_79))] H := hP
      have hD : va_D A [(a_p0, .inr (12, oX12 (va_up mmI_79 39 ((mmI_79 39) + 1)) mmJ_79 mmR)), ((mmR 33), .inl (cI, 20, .inl mm_frameF_79)), ((mmR 35), .inl (cZ, 20, .inl mm_beginsF_79)), ((mmR 40), .inl (cI, 500, .inl mm_opsF_79)), ((mmR 0), .inl (cI, 1800, .inl mm_tapeF)), ((mmR 34), .inl (cI, 20, .inl mm_phaseF_79)), ((mmR 37), .inl (cI, 20, .inl mm_baseF_79)), ((mmR 26), .inl (cI, 3200, .inl mm_codeSortF_79)), ((mmR 27), .inl (cI, 3200, .inl mm_codeValueF_79)), ((mmR 36), .inl (cI, 20, .inl mm_pairF_79))] := hD
      refine lv_aload_n hx hb dX12_operand_98 rfl (lv_at hl 0 rfl) ?_
      refine lv_bipush (v := 43) hx hb dX12_operand_99 (by decide) ?_
      obtain ⟨⟨r_1_0, r_1_1⟩, h_2, hf⟩ := xq_bd_some hf
      refine xq_callV (As := [.int 43]) (rest := []) (ci := 12) (q0 := 0) ⟨hx, hb, hml, hown, hts⟩ (kX12_holdsBack l dC dI cI cB cJ cZ cM z ad N a_p0 ((va_up mmI_79 39 ((mmI_79 39) + 1))) mmJ_79 mmR mm_opsF_79 43 h_2) (cwV 1 hts gX12_operand_X12_holdsBack rfl rfl rfl (by decide +kernel) ⟨Nat.le_of_ble_eq_true rfl, Nat.le_of_ble_eq_true rfl⟩) hN hK hP hD hS hA [0, 3] (by decide) rfl rfl rfl rfl rfl rfl hl.1 rfl (Nat.le_of_ble_eq_true rfl) dX12_operand_101 ⟨Nat.zero_le _, Nat.zero_le _⟩ (fun H locs hP hD hS => ?_)
      have hP : va_P (dC, dI) vwCl [(a_p0, .inr (12, oX12 r_1_0 mmJ_79 mmR)), ((mmR 33), .inl (cI, 20, .inl mm_frameF_79)), ((mmR 35), .inl (cZ, 20, .inl mm_beginsF_79)), ((mmR 40), .inl (cI, 500, .inl r_1_1)), ((mmR 0), .inl (cI, 1800, .inl mm_tapeF)), ((mmR 34), .inl (cI, 20, .inl mm_phaseF_79)), ((mmR 37), .inl (cI, 20, .inl mm_baseF_79)), ((mmR 26), .inl (cI, 3200, .inl mm_codeSortF_79)), ((mmR 27), .inl (cI, 3200, .inl mm_codeValueF_79)), ((mmR 36), .inl (cI, 20, .inl mm_pairF_79))] H := hP
      have hD : va_D A [(a_p0, .inr (12, oX12 r_1_0 mmJ_79 mmR)), ((mmR 33), .inl (cI, 20, .inl mm_frameF_79)), ((mmR 35), .inl (cZ, 20, .inl mm_beginsF_79)), ((mmR 40), .inl (cI, 500, .inl r_1_1)), ((mmR 0), .inl (cI, 1800, .inl mm_tapeF)), ((mmR 34), .inl (cI, 20, .inl mm_phaseF_79)), ((mmR 37), .inl (cI, 20, .inl mm_baseF_79)), ((mmR 26), .inl (cI, 3200, .inl mm_codeSortF_79)), ((mmR 27), .inl (cI, 3200, .inl mm_codeValueF_79)), ((mmR 36), .inl (cI, 20, .inl mm_pairF_79))] := hD
      refine W.eq (g2 := F0 m 104 ls []) rfl ?_
      refine lv_aload_n hx hb dX12_operand_104 rfl (lv_at hl 0 rfl) ?_
      obtain ⟨⟨r_3_0, r_3_1⟩, h_4, hf⟩ := xq_bd_some hf
      refine xq_callV (As := []) (rest := []) (ci := 12) (q0 := 0) ⟨hx, hb, hml, hown, hts⟩ (kX12_ahead l dC dI cI cB cJ cZ cM z ad N a_p0 r_1_0 mmJ_79 mmR mm_tapeF h_4) (cwV 0 hts gX12_operand_X12_ahead rfl rfl rfl (by decide +kernel) ⟨Nat.le_of_ble_eq_true rfl, Nat.le_of_ble_eq_true rfl⟩) hN hK hP hD hS hA [0, 4] (by decide) rfl rfl rfl rfl rfl rfl hl.1 rfl (Nat.le_of_ble_eq_true rfl) dX12_operand_105 ⟨Nat.zero_le _, Nat.zero_le _⟩ (fun H locs hP hD hS => ?_)
      have hP : va_P (dC, dI) vwCl [(a_p0, .inr (12, oX12 r_3_0 r_3_1 mmR)), ((mmR 33), .inl (cI, 20, .inl mm_frameF_79)), ((mmR 35), .inl (cZ, 20, .inl mm_beginsF_79)), ((mmR 40), .inl (cI, 500, .inl r_1_1)), ((mmR 0), .inl (cI, 1800, .inl mm_tapeF)), ((mmR 34), .inl (cI, 20, .inl mm_phaseF_79)), ((mmR 37), .inl (cI, 20, .inl mm_baseF_79)), ((mmR 26), .inl (cI, 3200, .inl mm_codeSortF_79)), ((mmR 27), .inl (cI, 3200, .inl mm_codeValueF_79)), ((mmR 36), .inl (cI, 20, .inl mm_pairF_79))] H := hP
      have hD : va_D A [(a_p0, .inr (12, oX12 r_3_0 r_3_1 mmR)), ((mmR 33), .inl (cI, 20, .inl mm_frameF_79)), ((mmR 35), .inl (cZ, 20, .inl mm_beginsF_79)), ((mmR 40), .inl (cI, 500, .inl r_1_1)), ((mmR 0), .inl (cI, 1800, .inl mm_tapeF)), ((mmR 34), .inl (cI, 20, .inl mm_phaseF_79)), ((mmR 37), .inl (cI, 20, .inl mm_baseF_79)), ((mmR 26), .inl (cI, 3200, .inl mm_codeSortF_79)), ((mmR 27), .inl (cI, 3200, .inl mm_codeValueF_79)), ((mmR 36), .inl (cI, 20, .inl mm_pairF_79))] := hD
      refine W.eq (g2 := F0 m 108 ls []) rfl ?_
      refine lv_iconst (v := 0) hx hb dX12_operand_108 (by decide) ?_
      have e9 := Option.some.inj hf
      have e9_0 : 0 = r0 := congrArg (fun t => t.1) e9
      have e9_1 : r_3_0 = r1 := congrArg (fun t => t.2.1) e9
      have e9_2 : r_3_1 = r2 := congrArg (fun t => t.2.2.1) e9
      have e9_3 : mm_frameF_79 = r3 := congrArg (fun t => t.2.2.2.1) e9
      have e9_4 : mm_beginsF_79 = r4 := congrArg (fun t => t.2.2.2.2.1) e9
      have e9_5 : r_1_1 = r5 := congrArg (fun t => t.2.2.2.2.2.1) e9
      have e9_6 : mm_phaseF_79 = r6 := congrArg (fun t => t.2.2.2.2.2.2.1) e9
      have e9_7 : mm_baseF_79 = r7 := congrArg (fun t => t.2.2.2.2.2.2.2.1) e9
      have e9_8 : mm_codeSortF_79 = r8 := congrArg (fun t => t.2.2.2.2.2.2.2.2.1) e9
      have e9_9 : mm_codeValueF_79 = r9 := congrArg (fun t => t.2.2.2.2.2.2.2.2.2.1) e9
      have e9_10 : mm_pairF_79 = r10 := congrArg (fun t => t.2.2.2.2.2.2.2.2.2.2) e9
      clear e9 hf
      try clear b110
      try clear b137
      try clear b171
      try clear b217
      try clear b249
      try clear b276
      try clear b289
      try clear b441
      try clear b45
      try clear b46
      try clear b471
      try clear b476
      try clear b490
      try clear b79
      subst e9_0
      subst e9_1
      subst e9_2
      subst e9_3
      subst e9_4
      subst e9_5
      subst e9_6
      subst e9_7
      subst e9_8
      subst e9_9
      subst e9_10
      exact xq_zret hx hb hr (by decide +kernel) hlocks hK hP hD hS dX12_operand_109
    · have hf := xq_neg hf c_
      refine lv_iconst (v := 1) hx hb dX12_operand_86 (by decide) ?_
      have e9 := Option.some.inj hf
      have e9_0 : 1 = r0 := congrArg (fun t => t.1) e9
      have e9_1 : mmI_79 = r1 := congrArg (fun t => t.2.1) e9
      have e9_2 : mmJ_79 = r2 := congrArg (fun t => t.2.2.1) e9
      have e9_3 : mm_frameF_79 = r3 := congrArg (fun t => t.2.2.2.1) e9
      have e9_4 : mm_beginsF_79 = r4 := congrArg (fun t => t.2.2.2.2.1) e9
      have e9_5 : mm_opsF_79 = r5 := congrArg (fun t => t.2.2.2.2.2.1) e9
      have e9_6 : mm_phaseF_79 = r6 := congrArg (fun t => t.2.2.2.2.2.2.1) e9
      have e9_7 : mm_baseF_79 = r7 := congrArg (fun t => t.2.2.2.2.2.2.2.1) e9
      have e9_8 : mm_codeSortF_79 = r8 := congrArg (fun t => t.2.2.2.2.2.2.2.2.1) e9
      have e9_9 : mm_codeValueF_79 = r9 := congrArg (fun t => t.2.2.2.2.2.2.2.2.2.1) e9
      have e9_10 : mm_pairF_79 = r10 := congrArg (fun t => t.2.2.2.2.2.2.2.2.2.2) e9
      clear e9 hf
      try clear b110
      try clear b137
      try clear b171
      try clear b217
      try clear b249
      try clear b276
      try clear b289
      try clear b441
      try clear b45
      try clear b46
      try clear b471
      try clear b476
      try clear b490
      try clear b79
      subst e9_0
      subst e9_1
      subst e9_2
      subst e9_3
      subst e9_4
      subst e9_5
      subst e9_6
      subst e9_7
      subst e9_8
      subst e9_9
      subst e9_10
      exact xq_zret hx hb hr (by decide +kernel) hlocks hK hP hD hS dX12_operand_87
  have b46 : ∀ (mmI_46 : Nat → Int32) (mmJ_46 : Nat → Int64) (mm_frameF_46 : Nat → Int32) (mm_beginsF_46 : Nat → Int32) (mm_opsF_46 : Nat → Int32) (mm_phaseF_46 : Nat → Int32) (mm_baseF_46 : Nat → Int32) (mm_codeSortF_46 : Nat → Int32) (mm_codeValueF_46 : Nat → Int32) (mm_pairF_46 : Nat → Int32) (x1_46 : Int32) (y0_46 : Int32) (ls : Array Slot) (H : Heap) (locs : List Loc), fX12_operand_b46 N mm_tapeF (mmI_46, mmJ_46, mm_frameF_46, mm_beginsF_46, mm_opsF_46, mm_phaseF_46, mm_baseF_46, mm_codeSortF_46, mm_codeValueF_46, mm_pairF_46, x1_46, y0_46) = some (r0, r1, r2, r3, r4, r5, r6, r7, r8, r9, r10) → va_P (dC, dI) vwCl [(a_p0, .inr (12, oX12 mmI_46 mmJ_46 mmR)), ((mmR 33), .inl (cI, 20, .inl mm_frameF_46)), ((mmR 35), .inl (cZ, 20, .inl mm_beginsF_46)), ((mmR 40), .inl (cI, 500, .inl mm_opsF_46)), ((mmR 0), .inl (cI, 1800, .inl mm_tapeF)), ((mmR 34), .inl (cI, 20, .inl mm_phaseF_46)), ((mmR 37), .inl (cI, 20, .inl mm_baseF_46)), ((mmR 26), .inl (cI, 3200, .inl mm_codeSortF_46)), ((mmR 27), .inl (cI, 3200, .inl mm_codeValueF_46)), ((mmR 36), .inl (cI, 20, .inl mm_pairF_46))] H → va_D A [(a_p0, .inr (12, oX12 mmI_46 mmJ_46 mmR)), ((mmR 33), .inl (cI, 20, .inl mm_frameF_46)), ((mmR 35), .inl (cZ, 20, .inl mm_beginsF_46)), ((mmR 40), .inl (cI, 500, .inl mm_opsF_46)), ((mmR 0), .inl (cI, 1800, .inl mm_tapeF)), ((mmR 34), .inl (cI, 20, .inl mm_phaseF_46)), ((mmR 37), .inl (cI, 20, .inl mm_baseF_46)), ((mmR 26), .inl (cI, 3200, .inl mm_codeSortF_46)), ((mmR 27), .inl (cI, 3200, .inl mm_codeValueF_46)), ((mmR 36), .inl (cI, 20, .inl mm_pairF_46))] → va_S A s.heap H locs → lv_has ls 4 [(0, .ref a_p0), (1, .int x1_46)] → W p l e (headSpec wsX12_operand { frames := 3, cells := 0, slots := 0, locals := 66 }).room s m [.ref a_p0].toArray below meth c H locs 0 0 (MQ below (xq_Q (dC, dI) vwCl (xq_tys cI cB cJ cZ cM) A [(a_p0, .inr (12, oX12 r1 r2 mmR)), ((mmR 33), .inl (cI, 20, .inl r3)), ((mmR 35), .inl (cZ, 20, .inl r4)), ((mmR 40), .inl (cI, 500, .inl r5)), ((mmR 0), .inl (cI, 1800, .inl mm_tapeF)), ((mmR 34), .inl (cI, 20, .inl r6)), ((mmR 37), .inl (cI, 20, .inl r7)), ((mmR 26), .inl (cI, 3200, .inl r8)), ((mmR 27), .inl (cI, 3200, .inl r9)), ((mmR 36), .inl (cI, 20, .inl r10))] (some (.int r0))) [.ref a_p0].toArray s 0 0 A) (F0 m 46 ls [.int y0_46]) := by
    intro mmI_46 mmJ_46 mm_frameF_46 mm_beginsF_46 mm_opsF_46 mm_phaseF_46 mm_baseF_46 mm_codeSortF_46 mm_codeValueF_46 mm_pairF_46 x1_46 y0_46 ls H locs hf hP hD hS hl
    unfold fX12_operand_b46 at hf
    refine lv_istore_n (lv' := [(2, .int y0_46), (0, .ref a_p0), (1, .int x1_46)]) hx hb dX12_operand_46 rfl hl (by decide) rfl (fun ls hl => ?_)
    refine lv_iload_n hx hb dX12_operand_47 rfl (lv_at hl 0 rfl) ?_
    refine lv_if_eq (tgt := 110) hx hb dX12_operand_48 (by decide) (fun c_ => ?_) (fun c_ => ?_)
    · have hf := xq_pos hf c_
      exact b110 mmI_46 mmJ_46 mm_frameF_46 mm_beginsF_46 mm_opsF_46 mm_phaseF_46 mm_baseF_46 mm_codeSortF_46 mm_codeValueF_46 mm_pairF_46 x1_46 y0_46 _ _ _ hf hP hD hS (lv_sub hl [1, 2, 0] rfl)
    · have hf := xq_neg hf c_
      refine lv_aload_n hx hb dX12_operand_51 rfl (lv_at hl 1 rfl) ?_
      refine lv_ldc2 (v := 7237492) hx hb hown hw5 dX12_operand_52 ?_
      obtain ⟨r_1, h_2, hf⟩ := xq_bd_some hf
      refine xq_callV (As := [.long 7237492]) (rest := []) (ci := 12) (q0 := 0) ⟨hx, hb, hml, hown, hts⟩ (kX12_isWord l dC dI cI cB cJ cZ cM z ad N a_p0 mmI_46 mmJ_46 mmR 7237492 h_2) (cwV 1 hts gX12_operand_X12_isWord rfl rfl rfl (by decide +kernel) ⟨Nat.le_of_ble_eq_true rfl, Nat.le_of_ble_eq_true rfl⟩) hN hK hP hD hS hA [0] (by decide) rfl rfl rfl rfl rfl rfl hl.1 rfl (Nat.le_of_ble_eq_true rfl) dX12_operand_55 ⟨Nat.zero_le _, Nat.zero_le _⟩ (fun H locs hP hD hS => ?_)
      have hP : va_P (dC, dI) vwCl [(a_p0, .inr (12, oX12 mmI_46 mmJ_46 mmR)), ((mmR 33), .inl (cI, 20, .inl mm_frameF_46)), ((mmR 35), .inl (cZ, 20, .inl mm_beginsF_46)), ((mmR 40), .inl (cI, 500, .inl mm_opsF_46)), ((mmR 0), .inl (cI, 1800, .inl mm_tapeF)), ((mmR 34), .inl (cI, 20, .inl mm_phaseF_46)), ((mmR 37), .inl (cI, 20, .inl mm_baseF_46)), ((mmR 26), .inl (cI, 3200, .inl mm_codeSortF_46)), ((mmR 27), .inl (cI, 3200, .inl mm_codeValueF_46)), ((mmR 36), .inl (cI, 20, .inl mm_pairF_46))] H := hP
      have hD : va_D A [(a_p0, .inr (12, oX12 mmI_46 mmJ_46 mmR)), ((mmR 33), .inl (cI, 20, .inl mm_frameF_46)), ((mmR 35), .inl (cZ, 20, .inl mm_beginsF_46)), ((mmR 40), .inl (cI, 500, .inl mm_opsF_46)), ((mmR 0), .inl (cI, 1800, .inl mm_tapeF)), ((mmR 34), .inl (cI, 20, .inl mm_phaseF_46)), ((mmR 37), .inl (cI, 20, .inl mm_baseF_46)), ((mmR 26), .inl (cI, 3200, .inl mm_codeSortF_46)), ((mmR 27), .inl (cI, 3200, .inl mm_codeValueF_46)), ((mmR 36), .inl (cI, 20, .inl mm_pairF_46))] := hD
      refine W.eq (g2 := F0 m 58 ls [.int r_1]) rfl ?_
      refine lv_if_eq (tgt := 110) hx hb dX12_operand_58 (by decide) (fun c_ => ?_) (fun c_ => ?_)
      · have hf := xq_pos hf c_
        exact b110 mmI_46 mmJ_46 mm_frameF_46 mm_beginsF_46 mm_opsF_46 mm_phaseF_46 mm_baseF_46 mm_codeSortF_46 mm_codeValueF_46 mm_pairF_46 x1_46 y0_46 _ _ _ hf hP hD hS (lv_sub hl [1, 2, 0] rfl)
      · have hf := xq_neg hf c_
        refine lv_aload_n hx hb dX12_operand_61 rfl (lv_at hl 1 rfl) ?_
        refine va_get (D := (dC, dI)) (ci := 12) (v := .int (mmI_46 39)) (C := RX12) (T := TX12) (N := 70) hx hb hts hinX12 hown hK hP 0 rfl rfl 39 (by decide) hw6 (fun _ h9 => h9) rfl dX12_operand_62 ?_
        refine lv_bipush (v := 7) hx hb dX12_operand_65 (by decide) ?_
        refine lv_icmp_ne (tgt := 79) hx hb dX12_operand_67 (by decide) (fun c_ => ?_) (fun c_ => ?_)
        · have hf := xq_neg hf c_
          exact b79 mmI_46 mmJ_46 mm_frameF_46 mm_beginsF_46 mm_opsF_46 mm_phaseF_46 mm_baseF_46 mm_codeSortF_46 mm_codeValueF_46 mm_pairF_46 _ _ _ hf hP hD hS (lv_sub hl [1] rfl)
        · have hf := xq_pos hf c_
          refine lv_aload_n hx hb dX12_operand_70 rfl (lv_at hl 1 rfl) ?_
          refine lv_iconst (v := 5) hx hb dX12_operand_71 (by decide) ?_
          refine lv_aload_n hx hb dX12_operand_72 rfl (lv_at hl 1 rfl) ?_
          refine va_get (D := (dC, dI)) (ci := 12) (v := .int (mmI_46 4)) (C := RX12) (T := TX12) (N := 70) hx hb hts hinX12 hown hK hP 0 rfl rfl 4 (by decide) hw7 (fun _ h9 => h9) rfl dX12_operand_73 ?_
          obtain ⟨r_3, h_4, hf⟩ := xq_bd_some hf
          refine xq_callV (As := [.int 5, .int (mmI_46 4)]) (rest := []) (ci := 12) (q0 := 0) ⟨hx, hb, hml, hown, hts⟩ (kX12_blame l dC dI cI cB cJ cZ cM z ad N a_p0 mmI_46 mmJ_46 mmR 5 (mmI_46 4) h_4) (cwV 2 hts gX12_operand_X12_blame rfl rfl rfl (by decide +kernel) ⟨Nat.le_of_ble_eq_true rfl, Nat.le_of_ble_eq_true rfl⟩) hN hK hP hD hS hA [0] (by decide) rfl rfl rfl rfl rfl rfl hl.1 rfl (Nat.le_of_ble_eq_true rfl) dX12_operand_76 ⟨Nat.zero_le _, Nat.zero_le _⟩ (fun H locs hP hD hS => ?_)
          have hP : va_P (dC, dI) vwCl [(a_p0, .inr (12, oX12 r_3 mmJ_46 mmR)), ((mmR 33), .inl (cI, 20, .inl mm_frameF_46)), ((mmR 35), .inl (cZ, 20, .inl mm_beginsF_46)), ((mmR 40), .inl (cI, 500, .inl mm_opsF_46)), ((mmR 0), .inl (cI, 1800, .inl mm_tapeF)), ((mmR 34), .inl (cI, 20, .inl mm_phaseF_46)), ((mmR 37), .inl (cI, 20, .inl mm_baseF_46)), ((mmR 26), .inl (cI, 3200, .inl mm_codeSortF_46)), ((mmR 27), .inl (cI, 3200, .inl mm_codeValueF_46)), ((mmR 36), .inl (cI, 20, .inl mm_pairF_46))] H := hP
          have hD : va_D A [(a_p0, .inr (12, oX12 r_3 mmJ_46 mmR)), ((mmR 33), .inl (cI, 20, .inl mm_frameF_46)), ((mmR 35), .inl (cZ, 20, .inl mm_beginsF_46)), ((mmR 40), .inl (cI, 500, .inl mm_opsF_46)), ((mmR 0), .inl (cI, 1800, .inl mm_tapeF)), ((mmR 34), .inl (cI, 20, .inl mm_phaseF_46)), ((mmR 37), .inl (cI, 20, .inl mm_baseF_46)), ((mmR 26), .inl (cI, 3200, .inl mm_codeSortF_46)), ((mmR 27), .inl (cI, 3200, .inl mm_codeValueF_46)), ((mmR 36), .inl (cI, 20, .inl mm_pairF_46))] := hD
          refine W.eq (g2 := F0 m 79 ls []) rfl ?_
          exact b79 r_3 mmJ_46 mm_frameF_46 mm_beginsF_46 mm_opsF_46 mm_phaseF_46 mm_baseF_46 mm_codeSortF_46 mm_codeValueF_46 mm_pairF_46 _ _ _ hf hP hD hS (lv_sub hl [1] rfl)
  have b45 : ∀ (mmI_45 : Nat → Int32) (mmJ_45 : Nat → Int64) (mm_frameF_45 : Nat → Int32) (mm_beginsF_45 : Nat → Int32) (mm_opsF_45 : Nat → Int32) (mm_phaseF_45 : Nat → Int32) (mm_baseF_45 : Nat → Int32) (mm_codeSortF_45 : Nat → Int32) (mm_codeValueF_45 : Nat → Int32) (mm_pairF_45 : Nat → Int32) (x1_45 : Int32) (ls : Array Slot) (H : Heap) (locs : List Loc), fX12_operand_b45 N mm_tapeF (mmI_45, mmJ_45, mm_frameF_45, mm_beginsF_45, mm_opsF_45, mm_phaseF_45, mm_baseF_45, mm_codeSortF_45, mm_codeValueF_45, mm_pairF_45, x1_45) = some (r0, r1, r2, r3, r4, r5, r6, r7, r8, r9, r10) → va_P (dC, dI) vwCl [(a_p0, .inr (12, oX12 mmI_45 mmJ_45 mmR)), ((mmR 33), .inl (cI, 20, .inl mm_frameF_45)), ((mmR 35), .inl (cZ, 20, .inl mm_beginsF_45)), ((mmR 40), .inl (cI, 500, .inl mm_opsF_45)), ((mmR 0), .inl (cI, 1800, .inl mm_tapeF)), ((mmR 34), .inl (cI, 20, .inl mm_phaseF_45)), ((mmR 37), .inl (cI, 20, .inl mm_baseF_45)), ((mmR 26), .inl (cI, 3200, .inl mm_codeSortF_45)), ((mmR 27), .inl (cI, 3200, .inl mm_codeValueF_45)), ((mmR 36), .inl (cI, 20, .inl mm_pairF_45))] H → va_D A [(a_p0, .inr (12, oX12 mmI_45 mmJ_45 mmR)), ((mmR 33), .inl (cI, 20, .inl mm_frameF_45)), ((mmR 35), .inl (cZ, 20, .inl mm_beginsF_45)), ((mmR 40), .inl (cI, 500, .inl mm_opsF_45)), ((mmR 0), .inl (cI, 1800, .inl mm_tapeF)), ((mmR 34), .inl (cI, 20, .inl mm_phaseF_45)), ((mmR 37), .inl (cI, 20, .inl mm_baseF_45)), ((mmR 26), .inl (cI, 3200, .inl mm_codeSortF_45)), ((mmR 27), .inl (cI, 3200, .inl mm_codeValueF_45)), ((mmR 36), .inl (cI, 20, .inl mm_pairF_45))] → va_S A s.heap H locs → lv_has ls 4 [(0, .ref a_p0), (1, .int x1_45)] → W p l e (headSpec wsX12_operand { frames := 3, cells := 0, slots := 0, locals := 66 }).room s m [.ref a_p0].toArray below meth c H locs 0 0 (MQ below (xq_Q (dC, dI) vwCl (xq_tys cI cB cJ cZ cM) A [(a_p0, .inr (12, oX12 r1 r2 mmR)), ((mmR 33), .inl (cI, 20, .inl r3)), ((mmR 35), .inl (cZ, 20, .inl r4)), ((mmR 40), .inl (cI, 500, .inl r5)), ((mmR 0), .inl (cI, 1800, .inl mm_tapeF)), ((mmR 34), .inl (cI, 20, .inl r6)), ((mmR 37), .inl (cI, 20, .inl r7)), ((mmR 26), .inl (cI, 3200, .inl r8)), ((mmR 27), .inl (cI, 3200, .inl r9)), ((mmR 36), .inl (cI, 20, .inl r10))] (some (.int r0))) [.ref a_p0].toArray s 0 0 A) (F0 m 45 ls []) := by
    intro mmI_45 mmJ_45 mm_frameF_45 mm_beginsF_45 mm_opsF_45 mm_phaseF_45 mm_baseF_45 mm_codeSortF_45 mm_codeValueF_45 mm_pairF_45 x1_45 ls H locs hf hP hD hS hl
    unfold fX12_operand_b45 at hf
    refine lv_iconst (v := 0) hx hb dX12_operand_45 (by decide) ?_
    exact b46 mmI_45 mmJ_45 mm_frameF_45 mm_beginsF_45 mm_opsF_45 mm_phaseF_45 mm_baseF_45 mm_codeSortF_45 mm_codeValueF_45 mm_pairF_45 x1_45 0 _ _ _ hf hP hD hS (lv_sub hl [0, 1] rfl)
  unfold fX12_operand at hf
  refine lv_aload_n hx hb dX12_operand_0 rfl (lv_at hl 0 rfl) ?_
  obtain ⟨r_1, h_2, hf⟩ := xq_bd_some hf
  refine xq_callV (As := []) (rest := []) (ci := 12) (q0 := 0) ⟨hx, hb, hml, hown, hts⟩ (kX12_lex l dC dI cI cB cJ cZ cM z ad N a_p0 mmI mmJ mmR h_2) (cwV 0 hts gX12_operand_X12_lex rfl rfl rfl (by decide +kernel) ⟨Nat.le_of_ble_eq_true rfl, Nat.le_of_ble_eq_true rfl⟩) hN hK hP hD hS hA [0] (by decide) rfl rfl rfl rfl rfl rfl hl.1 rfl (Nat.le_of_ble_eq_true rfl) dX12_operand_1 ⟨Nat.zero_le _, Nat.zero_le _⟩ (fun H locs hP hD hS => ?_)
  have hP : va_P (dC, dI) vwCl [(a_p0, .inr (12, oX12 r_1 mmJ mmR)), ((mmR 33), .inl (cI, 20, .inl mm_frameF)), ((mmR 35), .inl (cZ, 20, .inl mm_beginsF)), ((mmR 40), .inl (cI, 500, .inl mm_opsF)), ((mmR 0), .inl (cI, 1800, .inl mm_tapeF)), ((mmR 34), .inl (cI, 20, .inl mm_phaseF)), ((mmR 37), .inl (cI, 20, .inl mm_baseF)), ((mmR 26), .inl (cI, 3200, .inl mm_codeSortF)), ((mmR 27), .inl (cI, 3200, .inl mm_codeValueF)), ((mmR 36), .inl (cI, 20, .inl mm_pairF))] H := hP
  have hD : va_D A [(a_p0, .inr (12, oX12 r_1 mmJ mmR)), ((mmR 33), .inl (cI, 20, .inl mm_frameF)), ((mmR 35), .inl (cZ, 20, .inl mm_beginsF)), ((mmR 40), .inl (cI, 500, .inl mm_opsF)), ((mmR 0), .inl (cI, 1800, .inl mm_tapeF)), ((mmR 34), .inl (cI, 20, .inl mm_phaseF)), ((mmR 37), .inl (cI, 20, .inl mm_baseF)), ((mmR 26), .inl (cI, 3200, .inl mm_codeSortF)), ((mmR 27), .inl (cI, 3200, .inl mm_codeValueF)), ((mmR 36), .inl (cI, 20, .inl mm_pairF))] := hD
  refine W.eq (g2 := F0 m 4 ls []) rfl ?_
  refine lv_aload_n hx hb dX12_operand_4 rfl (lv_at hl 0 rfl) ?_
  refine va_get (D := (dC, dI)) (ci := 12) (v := .int (r_1 8)) (C := RX12) (T := TX12) (N := 70) hx hb hts hinX12 hown hK hP 0 rfl rfl 8 (by decide) hw0 (fun _ h9 => h9) rfl dX12_operand_5 ?_
  refine lv_if_le (tgt := 13) hx hb dX12_operand_8 (by decide) (fun c_ => ?_) (fun c_ => ?_)
  · have hf := xq_pos hf c_
    refine lv_aload_n hx hb dX12_operand_13 rfl (lv_at hl 0 rfl) ?_
    refine va_get (D := (dC, dI)) (ci := 12) (v := .int (r_1 38)) (C := RX12) (T := TX12) (N := 70) hx hb hts hinX12 hown hK hP 0 rfl rfl 38 (by decide) hw2 (fun _ h9 => h9) rfl dX12_operand_14 ?_
    refine lv_iconst (v := 1) hx hb dX12_operand_17 (by decide) ?_
    refine lv_isub hx hb dX12_operand_18 ?_
    refine lv_istore_n (lv' := [(1, .int ((r_1 38) - 1)), (0, .ref a_p0)]) hx hb dX12_operand_19 rfl hl (by decide) rfl (fun ls hl => ?_)
    refine lv_aload_n hx hb dX12_operand_20 rfl (lv_at hl 1 rfl) ?_
    refine va_get (D := (dC, dI)) (ci := 12) (v := .ref ((mmR 33))) (C := RX12) (T := TX12) (N := 70) hx hb hts hinX12 hown hK hP 0 rfl rfl 33 (by decide) hw3 (fun _ h9 => h9) rfl dX12_operand_21 ?_
    refine lv_iload_n hx hb dX12_operand_24 rfl (lv_at hl 0 rfl) ?_
    refine xq_iald hx hb hK hP 1 0 rfl rfl hf dX12_operand_25 (fun v_3 hf => ?_)
    obtain ⟨r_4, h_5, hf⟩ := xq_bd_some hf
    refine xq_callS (As := [.int v_3]) (rest := []) ⟨hx, hb, hml, hown, hts⟩ (kX12_isTest l dC dI cI cB cJ cZ cM z ad N v_3 h_5) (va_cwS 1 hts gX12_operand_X12_isTest rfl rfl rfl (by decide +kernel) ⟨Nat.le_of_ble_eq_true rfl, Nat.le_of_ble_eq_true rfl⟩) hN hK hP hD hS hA [] (by decide) rfl rfl rfl hl.1 rfl (Nat.le_of_ble_eq_true rfl) dX12_operand_26 ⟨Nat.zero_le _, Nat.zero_le _⟩ (fun H locs hP hD hS => ?_)
    have hP : va_P (dC, dI) vwCl [(a_p0, .inr (12, oX12 r_1 mmJ mmR)), ((mmR 33), .inl (cI, 20, .inl mm_frameF)), ((mmR 35), .inl (cZ, 20, .inl mm_beginsF)), ((mmR 40), .inl (cI, 500, .inl mm_opsF)), ((mmR 0), .inl (cI, 1800, .inl mm_tapeF)), ((mmR 34), .inl (cI, 20, .inl mm_phaseF)), ((mmR 37), .inl (cI, 20, .inl mm_baseF)), ((mmR 26), .inl (cI, 3200, .inl mm_codeSortF)), ((mmR 27), .inl (cI, 3200, .inl mm_codeValueF)), ((mmR 36), .inl (cI, 20, .inl mm_pairF))] H := hP
    have hD : va_D A [(a_p0, .inr (12, oX12 r_1 mmJ mmR)), ((mmR 33), .inl (cI, 20, .inl mm_frameF)), ((mmR 35), .inl (cZ, 20, .inl mm_beginsF)), ((mmR 40), .inl (cI, 500, .inl mm_opsF)), ((mmR 0), .inl (cI, 1800, .inl mm_tapeF)), ((mmR 34), .inl (cI, 20, .inl mm_phaseF)), ((mmR 37), .inl (cI, 20, .inl mm_baseF)), ((mmR 26), .inl (cI, 3200, .inl mm_codeSortF)), ((mmR 27), .inl (cI, 3200, .inl mm_codeValueF)), ((mmR 36), .inl (cI, 20, .inl mm_pairF))] := hD
    refine W.eq (g2 := F0 m 29 ls [.int r_4]) rfl ?_
    refine lv_if_eq (tgt := 45) hx hb dX12_operand_29 (by decide) (fun c_ => ?_) (fun c_ => ?_)
    · have hf := xq_pos hf c_
      exact b45 r_1 mmJ mm_frameF mm_beginsF mm_opsF mm_phaseF mm_baseF mm_codeSortF mm_codeValueF mm_pairF ((r_1 38) - 1) _ _ _ hf hP hD hS (lv_sub hl [1, 0] rfl)
    · have hf := xq_neg hf c_
      refine lv_aload_n hx hb dX12_operand_32 rfl (lv_at hl 1 rfl) ?_
      refine va_get (D := (dC, dI)) (ci := 12) (v := .ref ((mmR 35))) (C := RX12) (T := TX12) (N := 70) hx hb hts hinX12 hown hK hP 0 rfl rfl 35 (by decide) hw4 (fun _ h9 => h9) rfl dX12_operand_33 ?_
      refine lv_iload_n hx hb dX12_operand_36 rfl (lv_at hl 0 rfl) ?_
      refine xq_zald hx hb hK hP 2 3 rfl rfl hf dX12_operand_37 (fun v_6 hf => ?_)
      refine lv_if_eq (tgt := 45) hx hb dX12_operand_38 (by decide) (fun c_ => ?_) (fun c_ => ?_)
      · have hf := xq_pos hf c_
        exact b45 r_1 mmJ mm_frameF mm_beginsF mm_opsF mm_phaseF mm_baseF mm_codeSortF mm_codeValueF mm_pairF ((r_1 38) - 1) _ _ _ hf hP hD hS (lv_sub hl [1, 0] rfl)
      · have hf := xq_neg hf c_
        refine lv_iconst (v := 1) hx hb dX12_operand_41 (by decide) ?_
        refine lv_goto (tgt := 46) hx hb dX12_operand_42 (by decide) ?_
        exact b46 r_1 mmJ mm_frameF mm_beginsF mm_opsF mm_phaseF mm_baseF mm_codeSortF mm_codeValueF mm_pairF ((r_1 38) - 1) 1 _ _ _ hf hP hD hS (lv_sub hl [1, 0] rfl)
  · have hf := xq_neg hf c_
    refine lv_iconst (v := 1) hx hb dX12_operand_11 (by decide) ?_
    have e9 := Option.some.inj hf
    have e9_0 : 1 = r0 := congrArg (fun t => t.1) e9
    have e9_1 : r_1 = r1 := congrArg (fun t => t.2.1) e9
    have e9_2 : mmJ = r2 := congrArg (fun t => t.2.2.1) e9
    have e9_3 : mm_frameF = r3 := congrArg (fun t => t.2.2.2.1) e9
    have e9_4 : mm_beginsF = r4 := congrArg (fun t => t.2.2.2.2.1) e9
    have e9_5 : mm_opsF = r5 := congrArg (fun t => t.2.2.2.2.2.1) e9
    have e9_6 : mm_phaseF = r6 := congrArg (fun t => t.2.2.2.2.2.2.1) e9
    have e9_7 : mm_baseF = r7 := congrArg (fun t => t.2.2.2.2.2.2.2.1) e9
    have e9_8 : mm_codeSortF = r8 := congrArg (fun t => t.2.2.2.2.2.2.2.2.1) e9
    have e9_9 : mm_codeValueF = r9 := congrArg (fun t => t.2.2.2.2.2.2.2.2.2.1) e9
    have e9_10 : mm_pairF = r10 := congrArg (fun t => t.2.2.2.2.2.2.2.2.2.2) e9
    clear e9 hf
    try clear b110
    try clear b137
    try clear b171
    try clear b217
    try clear b249
    try clear b276
    try clear b289
    try clear b441
    try clear b45
    try clear b46
    try clear b471
    try clear b476
    try clear b490
    try clear b79
    subst e9_0
    subst e9_1
    subst e9_2
    subst e9_3
    subst e9_4
    subst e9_5
    subst e9_6
    subst e9_7
    subst e9_8
    subst e9_9
    subst e9_10
    exact xq_zret hx hb hr (by decide +kernel) hlocks hK hP hD hS dX12_operand_12
