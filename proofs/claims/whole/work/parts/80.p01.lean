set_option maxRecDepth 20000 in
theorem ggX12_goesOn_X12_lex : GoodIn wsX12_goesOn wsX12_lex := goodIn_r _ [16, 17, 18, 19, 20, 15, 21, 1, 22, 72, 73, 74, 75, 76, 77, 78, 79, 80, 81, 82, 83, 84, 85, 86, 87, 88, 89, 90, 91, 92, 93, 94, 95, 96, 97, 98, 99, 100, 101, 102, 103, 104, 105, 106, 107, 108, 109, 110, 111, 112, 113, 114, 115, 116, 117, 118, 119, 120, 121, 122, 123, 124, 125, 126, 127, 128, 129, 130, 131, 132, 133, 134, 135, 136, 137, 138, 139, 140, 141] rfl (by decide +kernel)
set_option maxRecDepth 20000 in
theorem gX12_goesOn_X12_lex : GoodIn wsX12_goesOn (wsV RX12 244 RX12 yX12_lex wsX12_lex) := goodIn_app (goodIn_of _ (by decide +kernel)) ggX12_goesOn_X12_lex
set_option maxRecDepth 20000 in
theorem ggX12_goesOn_X12_isTest : GoodIn wsX12_goesOn wsX12_isTest := goodIn_r _ [25] rfl (by decide +kernel)
set_option maxRecDepth 20000 in
theorem gX12_goesOn_X12_isTest : GoodIn wsX12_goesOn (va_wsS RX12 314 yX12_isTest wsX12_isTest) := goodIn_app (goodIn_of _ (by decide +kernel)) ggX12_goesOn_X12_isTest
set_option maxRecDepth 20000 in
theorem ggX12_goesOn_X12_isSign : GoodIn wsX12_goesOn wsX12_isSign := goodIn_r _ [29, 30, 31, 72, 73, 74, 75, 76, 77, 78, 79, 80, 81, 82, 83, 84, 85, 86, 87, 88, 89, 90, 91, 92, 93, 94, 95, 96, 97, 98, 99, 100, 101, 102, 103, 104, 105, 106, 107, 108, 109, 110, 111, 112, 113, 114, 115, 116, 117, 118, 119, 120, 121, 122, 123, 124, 125, 126, 127, 128, 129, 130, 131, 132, 133, 134, 135, 136, 137, 138, 139, 140, 141] rfl (by decide +kernel)
set_option maxRecDepth 20000 in
theorem gX12_goesOn_X12_isSign : GoodIn wsX12_goesOn (wsV RX12 247 RX12 yX12_isSign wsX12_isSign) := goodIn_app (goodIn_of _ (by decide +kernel)) ggX12_goesOn_X12_isSign
set_option maxRecDepth 20000 in
theorem ggX12_goesOn_X12_joins : GoodIn wsX12_goesOn wsX12_joins := goodIn_r _ [35, 36, 37, 2, 38, 10, 39, 40, 15, 41, 42, 43, 44, 45, 46, 47, 48, 49, 72, 73, 74, 75, 76, 77, 78, 79, 80, 81, 82, 83, 84, 85, 86, 87, 88, 89, 90, 91, 92, 93, 94, 95, 96, 97, 98, 99, 100, 101, 102, 103, 104, 105, 106, 107, 108, 109, 110, 111, 112, 113, 114, 115, 116, 117, 118, 119, 120, 121, 122, 123, 124, 125, 126, 127, 128, 129, 130, 131, 132, 133, 134, 135, 136, 137, 138, 139, 140, 141] rfl (by decide +kernel)
set_option maxRecDepth 20000 in
theorem gX12_goesOn_X12_joins : GoodIn wsX12_goesOn (wsV RX12 327 RX12 yX12_joins wsX12_joins) := goodIn_app (goodIn_of _ (by decide +kernel)) ggX12_goesOn_X12_joins
set_option maxRecDepth 20000 in
theorem ggX12_goesOn_X12_holdsBack : GoodIn wsX12_goesOn wsX12_holdsBack := goodIn_r _ [53, 38, 36, 72, 73, 74, 75, 76, 77, 78, 79, 80, 81, 82, 83, 84, 85, 86, 87, 88, 89, 90, 91, 92, 93, 94, 95, 96, 97, 98, 99, 100, 101, 102, 103, 104, 105, 106, 107, 108, 109, 110, 111, 112, 113, 114, 115, 116, 117, 118, 119, 120, 121, 122, 123, 124, 125, 126, 127, 128, 129, 130, 131, 132, 133, 134, 135, 136, 137, 138, 139, 140, 141] rfl (by decide +kernel)
set_option maxRecDepth 20000 in
theorem gX12_goesOn_X12_holdsBack : GoodIn wsX12_goesOn (wsV RX12 321 RX12 yX12_holdsBack wsX12_holdsBack) := goodIn_app (goodIn_of _ (by decide +kernel)) ggX12_goesOn_X12_holdsBack
set_option maxRecDepth 20000 in
theorem ggX12_goesOn_X12_ahead : GoodIn wsX12_goesOn wsX12_ahead := goodIn_r _ [57, 58, 59, 60, 8, 30, 17, 31, 61, 62, 63, 15, 64, 65, 66, 67, 72, 73, 74, 75, 76, 77, 78, 79, 80, 81, 82, 83, 84, 85, 86, 87, 88, 89, 90, 91, 92, 93, 94, 95, 96, 97, 98, 99, 100, 101, 102, 103, 104, 105, 106, 107, 108, 109, 110, 111, 112, 113, 114, 115, 116, 117, 118, 119, 120, 121, 122, 123, 124, 125, 126, 127, 128, 129, 130, 131, 132, 133, 134, 135, 136, 137, 138, 139, 140, 141] rfl (by decide +kernel)
set_option maxRecDepth 20000 in
theorem gX12_goesOn_X12_ahead : GoodIn wsX12_goesOn (wsV RX12 250 RX12 yX12_ahead wsX12_ahead) := goodIn_app (goodIn_of _ (by decide +kernel)) ggX12_goesOn_X12_ahead
set_option maxRecDepth 20000 in
theorem ggX12_goesOn_X12_isWord : GoodIn wsX12_goesOn wsX12_isWord := goodIn_r _ [71, 30, 61, 72, 73, 74, 75, 76, 77, 78, 79, 80, 81, 82, 83, 84, 85, 86, 87, 88, 89, 90, 91, 92, 93, 94, 95, 96, 97, 98, 99, 100, 101, 102, 103, 104, 105, 106, 107, 108, 109, 110, 111, 112, 113, 114, 115, 116, 117, 118, 119, 120, 121, 122, 123, 124, 125, 126, 127, 128, 129, 130, 131, 132, 133, 134, 135, 136, 137, 138, 139, 140, 141] rfl (by decide +kernel)
set_option maxRecDepth 20000 in
theorem gX12_goesOn_X12_isWord : GoodIn wsX12_goesOn (wsV RX12 317 RX12 yX12_isWord wsX12_isWord) := goodIn_app (goodIn_of _ (by decide +kernel)) ggX12_goesOn_X12_isWord
set_option maxRecDepth 20000 in
theorem ggX12_goesOn_X12_blame : GoodIn wsX12_goesOn wsX12_blame := goodIn_r _ [21, 1, 22, 72, 73, 74, 75, 76, 77, 78, 79, 80, 81, 82, 83, 84, 85, 86, 87, 88, 89, 90, 91, 92, 93, 94, 95, 96, 97, 98, 99, 100, 101, 102, 103, 104, 105, 106, 107, 108, 109, 110, 111, 112, 113, 114, 115, 116, 117, 118, 119, 120, 121, 122, 123, 124, 125, 126, 127, 128, 129, 130, 131, 132, 133, 134, 135, 136, 137, 138, 139, 140, 141] rfl (by decide +kernel)
set_option maxRecDepth 20000 in
theorem gX12_goesOn_X12_blame : GoodIn wsX12_goesOn (wsV RX12 233 RX12 yX12_blame wsX12_blame) := goodIn_app (goodIn_of _ (by decide +kernel)) ggX12_goesOn_X12_blame
set_option maxRecDepth 20000 in
theorem ggX12_goesOn_X12_add : GoodIn wsX12_goesOn wsX12_add := goodIn_r _ [45, 46, 47, 48, 49, 72, 73, 74, 75, 76, 77, 78, 79, 80, 81, 82, 83, 84, 85, 86, 87, 88, 89, 90, 91, 92, 93, 94, 95, 96, 97, 98, 99, 100, 101, 102, 103, 104, 105, 106, 107, 108, 109, 110, 111, 112, 113, 114, 115, 116, 117, 118, 119, 120, 121, 122, 123, 124, 125, 126, 127, 128, 129, 130, 131, 132, 133, 134, 135, 136, 137, 138, 139, 140, 141] rfl (by decide +kernel)
set_option maxRecDepth 20000 in
theorem gX12_goesOn_X12_add : GoodIn wsX12_goesOn (wsV RX12 308 RX12 yX12_add wsX12_add) := goodIn_app (goodIn_of _ (by decide +kernel)) ggX12_goesOn_X12_add
def dsX12_goesOn_0 : List (Nat × Instr × Nat) := [(0, (.aload_n 0, 1)), (1, (.invokevirtual 244, 3)), (4, (.aload_n 0, 1)), (5, (.getfield 36, 3)), (8, (.ifCond .le 5, 3)), (11, (.iconst 0, 1)), (12, (.ireturn, 1)), (13, (.aload_n 0, 1)), (14, (.getfield 128, 3)), (17, (.iconst 1, 1)), (18, (.isub, 1)), (19, (.istore_n 1, 1)), (20, (.aload_n 0, 1)), (21, (.getfield 112, 3)), (24, (.iload_n 1, 1)), (25, (.iaload, 1)), (26, (.istore_n 2, 1)), (27, (.iload_n 2, 1)), (28, (.invokestatic 314, 3)), (31, (.istore_n 3, 1)), (32, (.aload_n 0, 1)), (33, (.getfield 115, 3)), (36, (.iload_n 1, 1)), (37, (.iaload, 1)), (38, (.iconst 2, 1)), (39, (.if_icmp .ge 149, 3)), (42, (.aload_n 0, 1)), (43, (.bipush 43, 2)), (45, (.invokevirtual 247, 3)), (48, (.ifCond .ne 39, 3)), (51, (.aload_n 0, 1)), (52, (.bipush 45, 2)), (54, (.invokevirtual 247, 3)), (57, (.ifCond .ne 30, 3)), (60, (.aload_n 0, 1)), (61, (.bipush 42, 2)), (63, (.invokevirtual 247, 3)), (66, (.ifCond .ne 21, 3)), (69, (.aload_n 0, 1)), (70, (.bipush 47, 2)), (72, (.invokevirtual 247, 3)), (75, (.ifCond .ne 12, 3)), (78, (.aload_n 0, 1)), (79, (.bipush 37, 2)), (81, (.invokevirtual 247, 3)), (84, (.ifCond .eq 104, 3)), (87, (.aload_n 0, 1)), (88, (.aload_n 0, 1)), (89, (.bipush 43, 2)), (91, (.invokevirtual 247, 3)), (94, (.ifCond .ne 12, 3)), (97, (.aload_n 0, 1)), (98, (.bipush 45, 2)), (100, (.invokevirtual 247, 3)), (103, (.ifCond .eq 7, 3)), (106, (.iconst 5, 1)), (107, (.goto 5, 3)), (110, (.bipush 6, 2)), (112, (.invokevirtual 327, 3)), (115, (.aload_n 0, 1))]
theorem dsX12_goesOn_0_ok : (dsX12_goesOn_0.all fun q => decide (decode cX12_goesOn q.1 = .ok q.2)) = true := by decide +kernel
theorem dX12_goesOn_0 : decode cX12_goesOn 0 = .ok (.aload_n 0, 1) := of_decide_eq_true (List.all_eq_true.mp dsX12_goesOn_0_ok (0, (.aload_n 0, 1)) (List.mem_of_getElem? (i := 0) rfl))
theorem dX12_goesOn_1 : decode cX12_goesOn 1 = .ok (.invokevirtual 244, 3) := of_decide_eq_true (List.all_eq_true.mp dsX12_goesOn_0_ok (1, (.invokevirtual 244, 3)) (List.mem_of_getElem? (i := 1) rfl))
theorem dX12_goesOn_4 : decode cX12_goesOn 4 = .ok (.aload_n 0, 1) := of_decide_eq_true (List.all_eq_true.mp dsX12_goesOn_0_ok (4, (.aload_n 0, 1)) (List.mem_of_getElem? (i := 2) rfl))
theorem dX12_goesOn_5 : decode cX12_goesOn 5 = .ok (.getfield 36, 3) := of_decide_eq_true (List.all_eq_true.mp dsX12_goesOn_0_ok (5, (.getfield 36, 3)) (List.mem_of_getElem? (i := 3) rfl))
theorem dX12_goesOn_8 : decode cX12_goesOn 8 = .ok (.ifCond .le 5, 3) := of_decide_eq_true (List.all_eq_true.mp dsX12_goesOn_0_ok (8, (.ifCond .le 5, 3)) (List.mem_of_getElem? (i := 4) rfl))
theorem dX12_goesOn_11 : decode cX12_goesOn 11 = .ok (.iconst 0, 1) := of_decide_eq_true (List.all_eq_true.mp dsX12_goesOn_0_ok (11, (.iconst 0, 1)) (List.mem_of_getElem? (i := 5) rfl))
theorem dX12_goesOn_12 : decode cX12_goesOn 12 = .ok (.ireturn, 1) := of_decide_eq_true (List.all_eq_true.mp dsX12_goesOn_0_ok (12, (.ireturn, 1)) (List.mem_of_getElem? (i := 6) rfl))
theorem dX12_goesOn_13 : decode cX12_goesOn 13 = .ok (.aload_n 0, 1) := of_decide_eq_true (List.all_eq_true.mp dsX12_goesOn_0_ok (13, (.aload_n 0, 1)) (List.mem_of_getElem? (i := 7) rfl))
theorem dX12_goesOn_14 : decode cX12_goesOn 14 = .ok (.getfield 128, 3) := of_decide_eq_true (List.all_eq_true.mp dsX12_goesOn_0_ok (14, (.getfield 128, 3)) (List.mem_of_getElem? (i := 8) rfl))
theorem dX12_goesOn_17 : decode cX12_goesOn 17 = .ok (.iconst 1, 1) := of_decide_eq_true (List.all_eq_true.mp dsX12_goesOn_0_ok (17, (.iconst 1, 1)) (List.mem_of_getElem? (i := 9) rfl))
theorem dX12_goesOn_18 : decode cX12_goesOn 18 = .ok (.isub, 1) := of_decide_eq_true (List.all_eq_true.mp dsX12_goesOn_0_ok (18, (.isub, 1)) (List.mem_of_getElem? (i := 10) rfl))
theorem dX12_goesOn_19 : decode cX12_goesOn 19 = .ok (.istore_n 1, 1) := of_decide_eq_true (List.all_eq_true.mp dsX12_goesOn_0_ok (19, (.istore_n 1, 1)) (List.mem_of_getElem? (i := 11) rfl))
theorem dX12_goesOn_20 : decode cX12_goesOn 20 = .ok (.aload_n 0, 1) := of_decide_eq_true (List.all_eq_true.mp dsX12_goesOn_0_ok (20, (.aload_n 0, 1)) (List.mem_of_getElem? (i := 12) rfl))
theorem dX12_goesOn_21 : decode cX12_goesOn 21 = .ok (.getfield 112, 3) := of_decide_eq_true (List.all_eq_true.mp dsX12_goesOn_0_ok (21, (.getfield 112, 3)) (List.mem_of_getElem? (i := 13) rfl))
theorem dX12_goesOn_24 : decode cX12_goesOn 24 = .ok (.iload_n 1, 1) := of_decide_eq_true (List.all_eq_true.mp dsX12_goesOn_0_ok (24, (.iload_n 1, 1)) (List.mem_of_getElem? (i := 14) rfl))
theorem dX12_goesOn_25 : decode cX12_goesOn 25 = .ok (.iaload, 1) := of_decide_eq_true (List.all_eq_true.mp dsX12_goesOn_0_ok (25, (.iaload, 1)) (List.mem_of_getElem? (i := 15) rfl))
theorem dX12_goesOn_26 : decode cX12_goesOn 26 = .ok (.istore_n 2, 1) := of_decide_eq_true (List.all_eq_true.mp dsX12_goesOn_0_ok (26, (.istore_n 2, 1)) (List.mem_of_getElem? (i := 16) rfl))
theorem dX12_goesOn_27 : decode cX12_goesOn 27 = .ok (.iload_n 2, 1) := of_decide_eq_true (List.all_eq_true.mp dsX12_goesOn_0_ok (27, (.iload_n 2, 1)) (List.mem_of_getElem? (i := 17) rfl))
theorem dX12_goesOn_28 : decode cX12_goesOn 28 = .ok (.invokestatic 314, 3) := of_decide_eq_true (List.all_eq_true.mp dsX12_goesOn_0_ok (28, (.invokestatic 314, 3)) (List.mem_of_getElem? (i := 18) rfl))
theorem dX12_goesOn_31 : decode cX12_goesOn 31 = .ok (.istore_n 3, 1) := of_decide_eq_true (List.all_eq_true.mp dsX12_goesOn_0_ok (31, (.istore_n 3, 1)) (List.mem_of_getElem? (i := 19) rfl))
theorem dX12_goesOn_32 : decode cX12_goesOn 32 = .ok (.aload_n 0, 1) := of_decide_eq_true (List.all_eq_true.mp dsX12_goesOn_0_ok (32, (.aload_n 0, 1)) (List.mem_of_getElem? (i := 20) rfl))
theorem dX12_goesOn_33 : decode cX12_goesOn 33 = .ok (.getfield 115, 3) := of_decide_eq_true (List.all_eq_true.mp dsX12_goesOn_0_ok (33, (.getfield 115, 3)) (List.mem_of_getElem? (i := 21) rfl))
theorem dX12_goesOn_36 : decode cX12_goesOn 36 = .ok (.iload_n 1, 1) := of_decide_eq_true (List.all_eq_true.mp dsX12_goesOn_0_ok (36, (.iload_n 1, 1)) (List.mem_of_getElem? (i := 22) rfl))
theorem dX12_goesOn_37 : decode cX12_goesOn 37 = .ok (.iaload, 1) := of_decide_eq_true (List.all_eq_true.mp dsX12_goesOn_0_ok (37, (.iaload, 1)) (List.mem_of_getElem? (i := 23) rfl))
theorem dX12_goesOn_38 : decode cX12_goesOn 38 = .ok (.iconst 2, 1) := of_decide_eq_true (List.all_eq_true.mp dsX12_goesOn_0_ok (38, (.iconst 2, 1)) (List.mem_of_getElem? (i := 24) rfl))
theorem dX12_goesOn_39 : decode cX12_goesOn 39 = .ok (.if_icmp .ge 149, 3) := of_decide_eq_true (List.all_eq_true.mp dsX12_goesOn_0_ok (39, (.if_icmp .ge 149, 3)) (List.mem_of_getElem? (i := 25) rfl))
theorem dX12_goesOn_42 : decode cX12_goesOn 42 = .ok (.aload_n 0, 1) := of_decide_eq_true (List.all_eq_true.mp dsX12_goesOn_0_ok (42, (.aload_n 0, 1)) (List.mem_of_getElem? (i := 26) rfl))
theorem dX12_goesOn_43 : decode cX12_goesOn 43 = .ok (.bipush 43, 2) := of_decide_eq_true (List.all_eq_true.mp dsX12_goesOn_0_ok (43, (.bipush 43, 2)) (List.mem_of_getElem? (i := 27) rfl))
theorem dX12_goesOn_45 : decode cX12_goesOn 45 = .ok (.invokevirtual 247, 3) := of_decide_eq_true (List.all_eq_true.mp dsX12_goesOn_0_ok (45, (.invokevirtual 247, 3)) (List.mem_of_getElem? (i := 28) rfl))
theorem dX12_goesOn_48 : decode cX12_goesOn 48 = .ok (.ifCond .ne 39, 3) := of_decide_eq_true (List.all_eq_true.mp dsX12_goesOn_0_ok (48, (.ifCond .ne 39, 3)) (List.mem_of_getElem? (i := 29) rfl))
theorem dX12_goesOn_51 : decode cX12_goesOn 51 = .ok (.aload_n 0, 1) := of_decide_eq_true (List.all_eq_true.mp dsX12_goesOn_0_ok (51, (.aload_n 0, 1)) (List.mem_of_getElem? (i := 30) rfl))
theorem dX12_goesOn_52 : decode cX12_goesOn 52 = .ok (.bipush 45, 2) := of_decide_eq_true (List.all_eq_true.mp dsX12_goesOn_0_ok (52, (.bipush 45, 2)) (List.mem_of_getElem? (i := 31) rfl))
theorem dX12_goesOn_54 : decode cX12_goesOn 54 = .ok (.invokevirtual 247, 3) := of_decide_eq_true (List.all_eq_true.mp dsX12_goesOn_0_ok (54, (.invokevirtual 247, 3)) (List.mem_of_getElem? (i := 32) rfl))
theorem dX12_goesOn_57 : decode cX12_goesOn 57 = .ok (.ifCond .ne 30, 3) := of_decide_eq_true (List.all_eq_true.mp dsX12_goesOn_0_ok (57, (.ifCond .ne 30, 3)) (List.mem_of_getElem? (i := 33) rfl))
theorem dX12_goesOn_60 : decode cX12_goesOn 60 = .ok (.aload_n 0, 1) := of_decide_eq_true (List.all_eq_true.mp dsX12_goesOn_0_ok (60, (.aload_n 0, 1)) (List.mem_of_getElem? (i := 34) rfl))
theorem dX12_goesOn_61 : decode cX12_goesOn 61 = .ok (.bipush 42, 2) := of_decide_eq_true (List.all_eq_true.mp dsX12_goesOn_0_ok (61, (.bipush 42, 2)) (List.mem_of_getElem? (i := 35) rfl))
theorem dX12_goesOn_63 : decode cX12_goesOn 63 = .ok (.invokevirtual 247, 3) := of_decide_eq_true (List.all_eq_true.mp dsX12_goesOn_0_ok (63, (.invokevirtual 247, 3)) (List.mem_of_getElem? (i := 36) rfl))
theorem dX12_goesOn_66 : decode cX12_goesOn 66 = .ok (.ifCond .ne 21, 3) := of_decide_eq_true (List.all_eq_true.mp dsX12_goesOn_0_ok (66, (.ifCond .ne 21, 3)) (List.mem_of_getElem? (i := 37) rfl))
theorem dX12_goesOn_69 : decode cX12_goesOn 69 = .ok (.aload_n 0, 1) := of_decide_eq_true (List.all_eq_true.mp dsX12_goesOn_0_ok (69, (.aload_n 0, 1)) (List.mem_of_getElem? (i := 38) rfl))
theorem dX12_goesOn_70 : decode cX12_goesOn 70 = .ok (.bipush 47, 2) := of_decide_eq_true (List.all_eq_true.mp dsX12_goesOn_0_ok (70, (.bipush 47, 2)) (List.mem_of_getElem? (i := 39) rfl))
theorem dX12_goesOn_72 : decode cX12_goesOn 72 = .ok (.invokevirtual 247, 3) := of_decide_eq_true (List.all_eq_true.mp dsX12_goesOn_0_ok (72, (.invokevirtual 247, 3)) (List.mem_of_getElem? (i := 40) rfl))
theorem dX12_goesOn_75 : decode cX12_goesOn 75 = .ok (.ifCond .ne 12, 3) := of_decide_eq_true (List.all_eq_true.mp dsX12_goesOn_0_ok (75, (.ifCond .ne 12, 3)) (List.mem_of_getElem? (i := 41) rfl))
theorem dX12_goesOn_78 : decode cX12_goesOn 78 = .ok (.aload_n 0, 1) := of_decide_eq_true (List.all_eq_true.mp dsX12_goesOn_0_ok (78, (.aload_n 0, 1)) (List.mem_of_getElem? (i := 42) rfl))
theorem dX12_goesOn_79 : decode cX12_goesOn 79 = .ok (.bipush 37, 2) := of_decide_eq_true (List.all_eq_true.mp dsX12_goesOn_0_ok (79, (.bipush 37, 2)) (List.mem_of_getElem? (i := 43) rfl))
theorem dX12_goesOn_81 : decode cX12_goesOn 81 = .ok (.invokevirtual 247, 3) := of_decide_eq_true (List.all_eq_true.mp dsX12_goesOn_0_ok (81, (.invokevirtual 247, 3)) (List.mem_of_getElem? (i := 44) rfl))
theorem dX12_goesOn_84 : decode cX12_goesOn 84 = .ok (.ifCond .eq 104, 3) := of_decide_eq_true (List.all_eq_true.mp dsX12_goesOn_0_ok (84, (.ifCond .eq 104, 3)) (List.mem_of_getElem? (i := 45) rfl))
theorem dX12_goesOn_87 : decode cX12_goesOn 87 = .ok (.aload_n 0, 1) := of_decide_eq_true (List.all_eq_true.mp dsX12_goesOn_0_ok (87, (.aload_n 0, 1)) (List.mem_of_getElem? (i := 46) rfl))
theorem dX12_goesOn_88 : decode cX12_goesOn 88 = .ok (.aload_n 0, 1) := of_decide_eq_true (List.all_eq_true.mp dsX12_goesOn_0_ok (88, (.aload_n 0, 1)) (List.mem_of_getElem? (i := 47) rfl))
theorem dX12_goesOn_89 : decode cX12_goesOn 89 = .ok (.bipush 43, 2) := of_decide_eq_true (List.all_eq_true.mp dsX12_goesOn_0_ok (89, (.bipush 43, 2)) (List.mem_of_getElem? (i := 48) rfl))
theorem dX12_goesOn_91 : decode cX12_goesOn 91 = .ok (.invokevirtual 247, 3) := of_decide_eq_true (List.all_eq_true.mp dsX12_goesOn_0_ok (91, (.invokevirtual 247, 3)) (List.mem_of_getElem? (i := 49) rfl))
theorem dX12_goesOn_94 : decode cX12_goesOn 94 = .ok (.ifCond .ne 12, 3) := of_decide_eq_true (List.all_eq_true.mp dsX12_goesOn_0_ok (94, (.ifCond .ne 12, 3)) (List.mem_of_getElem? (i := 50) rfl))
theorem dX12_goesOn_97 : decode cX12_goesOn 97 = .ok (.aload_n 0, 1) := of_decide_eq_true (List.all_eq_true.mp dsX12_goesOn_0_ok (97, (.aload_n 0, 1)) (List.mem_of_getElem? (i := 51) rfl))
theorem dX12_goesOn_98 : decode cX12_goesOn 98 = .ok (.bipush 45, 2) := of_decide_eq_true (List.all_eq_true.mp dsX12_goesOn_0_ok (98, (.bipush 45, 2)) (List.mem_of_getElem? (i := 52) rfl))
theorem dX12_goesOn_100 : decode cX12_goesOn 100 = .ok (.invokevirtual 247, 3) := of_decide_eq_true (List.all_eq_true.mp dsX12_goesOn_0_ok (100, (.invokevirtual 247, 3)) (List.mem_of_getElem? (i := 53) rfl))
theorem dX12_goesOn_103 : decode cX12_goesOn 103 = .ok (.ifCond .eq 7, 3) := of_decide_eq_true (List.all_eq_true.mp dsX12_goesOn_0_ok (103, (.ifCond .eq 7, 3)) (List.mem_of_getElem? (i := 54) rfl))
theorem dX12_goesOn_106 : decode cX12_goesOn 106 = .ok (.iconst 5, 1) := of_decide_eq_true (List.all_eq_true.mp dsX12_goesOn_0_ok (106, (.iconst 5, 1)) (List.mem_of_getElem? (i := 55) rfl))
theorem dX12_goesOn_107 : decode cX12_goesOn 107 = .ok (.goto 5, 3) := of_decide_eq_true (List.all_eq_true.mp dsX12_goesOn_0_ok (107, (.goto 5, 3)) (List.mem_of_getElem? (i := 56) rfl))
theorem dX12_goesOn_110 : decode cX12_goesOn 110 = .ok (.bipush 6, 2) := of_decide_eq_true (List.all_eq_true.mp dsX12_goesOn_0_ok (110, (.bipush 6, 2)) (List.mem_of_getElem? (i := 57) rfl))
theorem dX12_goesOn_112 : decode cX12_goesOn 112 = .ok (.invokevirtual 327, 3) := of_decide_eq_true (List.all_eq_true.mp dsX12_goesOn_0_ok (112, (.invokevirtual 327, 3)) (List.mem_of_getElem? (i := 58) rfl))
theorem dX12_goesOn_115 : decode cX12_goesOn 115 = .ok (.aload_n 0, 1) := of_decide_eq_true (List.all_eq_true.mp dsX12_goesOn_0_ok (115, (.aload_n 0, 1)) (List.mem_of_getElem? (i := 59) rfl))
def dsX12_goesOn_1 : List (Nat × Instr × Nat) := [(116, (.aload_n 0, 1)), (117, (.bipush 43, 2)), (119, (.invokevirtual 247, 3)), (122, (.ifCond .eq 8, 3)), (125, (.bipush 31, 2)), (127, (.goto 47, 3)), (130, (.aload_n 0, 1)), (131, (.bipush 45, 2)), (133, (.invokevirtual 247, 3)), (136, (.ifCond .eq 8, 3)), (139, (.bipush 32, 2)), (141, (.goto 33, 3)), (144, (.aload_n 0, 1)), (145, (.bipush 42, 2)), (147, (.invokevirtual 247, 3)), (150, (.ifCond .eq 8, 3)), (153, (.bipush 33, 2)), (155, (.goto 19, 3)), (158, (.aload_n 0, 1)), (159, (.bipush 47, 2)), (161, (.invokevirtual 247, 3)), (164, (.ifCond .eq 8, 3)), (167, (.bipush 34, 2)), (169, (.goto 5, 3)), (172, (.bipush 35, 2)), (174, (.invokevirtual 321, 3)), (177, (.aload_n 0, 1)), (178, (.invokevirtual 250, 3)), (181, (.aload_n 0, 1)), (182, (.iconst 0, 1)), (183, (.putfield 140, 3)), (186, (.iconst 1, 1)), (187, (.ireturn, 1)), (188, (.iload_n 3, 1)), (189, (.ifCond .eq 96, 3)), (192, (.aload_n 0, 1)), (193, (.getfield 115, 3)), (196, (.iload_n 1, 1)), (197, (.iaload, 1)), (198, (.ifCond .ne 87, 3)), (201, (.aload_n 0, 1)), (202, (.bipush 60, 2)), (204, (.invokevirtual 247, 3)), (207, (.ifCond .ne 21, 3)), (210, (.aload_n 0, 1)), (211, (.bipush 62, 2)), (213, (.invokevirtual 247, 3)), (216, (.ifCond .ne 12, 3)), (219, (.aload_n 0, 1)), (220, (.bipush 61, 2)), (222, (.invokevirtual 247, 3)), (225, (.ifCond .eq 60, 3)), (228, (.aload_n 0, 1)), (229, (.iconst 5, 1)), (230, (.invokevirtual 327, 3)), (233, (.aload_n 0, 1)), (234, (.aload_n 0, 1)), (235, (.bipush 60, 2)), (237, (.invokevirtual 247, 3)), (240, (.ifCond .eq 8, 3))]
theorem dsX12_goesOn_1_ok : (dsX12_goesOn_1.all fun q => decide (decode cX12_goesOn q.1 = .ok q.2)) = true := by decide +kernel
theorem dX12_goesOn_116 : decode cX12_goesOn 116 = .ok (.aload_n 0, 1) := of_decide_eq_true (List.all_eq_true.mp dsX12_goesOn_1_ok (116, (.aload_n 0, 1)) (List.mem_of_getElem? (i := 0) rfl))
theorem dX12_goesOn_117 : decode cX12_goesOn 117 = .ok (.bipush 43, 2) := of_decide_eq_true (List.all_eq_true.mp dsX12_goesOn_1_ok (117, (.bipush 43, 2)) (List.mem_of_getElem? (i := 1) rfl))
theorem dX12_goesOn_119 : decode cX12_goesOn 119 = .ok (.invokevirtual 247, 3) := of_decide_eq_true (List.all_eq_true.mp dsX12_goesOn_1_ok (119, (.invokevirtual 247, 3)) (List.mem_of_getElem? (i := 2) rfl))
theorem dX12_goesOn_122 : decode cX12_goesOn 122 = .ok (.ifCond .eq 8, 3) := of_decide_eq_true (List.all_eq_true.mp dsX12_goesOn_1_ok (122, (.ifCond .eq 8, 3)) (List.mem_of_getElem? (i := 3) rfl))
theorem dX12_goesOn_125 : decode cX12_goesOn 125 = .ok (.bipush 31, 2) := of_decide_eq_true (List.all_eq_true.mp dsX12_goesOn_1_ok (125, (.bipush 31, 2)) (List.mem_of_getElem? (i := 4) rfl))
theorem dX12_goesOn_127 : decode cX12_goesOn 127 = .ok (.goto 47, 3) := of_decide_eq_true (List.all_eq_true.mp dsX12_goesOn_1_ok (127, (.goto 47, 3)) (List.mem_of_getElem? (i := 5) rfl))
theorem dX12_goesOn_130 : decode cX12_goesOn 130 = .ok (.aload_n 0, 1) := of_decide_eq_true (List.all_eq_true.mp dsX12_goesOn_1_ok (130, (.aload_n 0, 1)) (List.mem_of_getElem? (i := 6) rfl))
theorem dX12_goesOn_131 : decode cX12_goesOn 131 = .ok (.bipush 45, 2) := of_decide_eq_true (List.all_eq_true.mp dsX12_goesOn_1_ok (131, (.bipush 45, 2)) (List.mem_of_getElem? (i := 7) rfl))
theorem dX12_goesOn_133 : decode cX12_goesOn 133 = .ok (.invokevirtual 247, 3) := of_decide_eq_true (List.all_eq_true.mp dsX12_goesOn_1_ok (133, (.invokevirtual 247, 3)) (List.mem_of_getElem? (i := 8) rfl))
theorem dX12_goesOn_136 : decode cX12_goesOn 136 = .ok (.ifCond .eq 8, 3) := of_decide_eq_true (List.all_eq_true.mp dsX12_goesOn_1_ok (136, (.ifCond .eq 8, 3)) (List.mem_of_getElem? (i := 9) rfl))
theorem dX12_goesOn_139 : decode cX12_goesOn 139 = .ok (.bipush 32, 2) := of_decide_eq_true (List.all_eq_true.mp dsX12_goesOn_1_ok (139, (.bipush 32, 2)) (List.mem_of_getElem? (i := 10) rfl))
theorem dX12_goesOn_141 : decode cX12_goesOn 141 = .ok (.goto 33, 3) := of_decide_eq_true (List.all_eq_true.mp dsX12_goesOn_1_ok (141, (.goto 33, 3)) (List.mem_of_getElem? (i := 11) rfl))
theorem dX12_goesOn_144 : decode cX12_goesOn 144 = .ok (.aload_n 0, 1) := of_decide_eq_true (List.all_eq_true.mp dsX12_goesOn_1_ok (144, (.aload_n 0, 1)) (List.mem_of_getElem? (i := 12) rfl))
theorem dX12_goesOn_145 : decode cX12_goesOn 145 = .ok (.bipush 42, 2) := of_decide_eq_true (List.all_eq_true.mp dsX12_goesOn_1_ok (145, (.bipush 42, 2)) (List.mem_of_getElem? (i := 13) rfl))
theorem dX12_goesOn_147 : decode cX12_goesOn 147 = .ok (.invokevirtual 247, 3) := of_decide_eq_true (List.all_eq_true.mp dsX12_goesOn_1_ok (147, (.invokevirtual 247, 3)) (List.mem_of_getElem? (i := 14) rfl))
theorem dX12_goesOn_150 : decode cX12_goesOn 150 = .ok (.ifCond .eq 8, 3) := of_decide_eq_true (List.all_eq_true.mp dsX12_goesOn_1_ok (150, (.ifCond .eq 8, 3)) (List.mem_of_getElem? (i := 15) rfl))
theorem dX12_goesOn_153 : decode cX12_goesOn 153 = .ok (.bipush 33, 2) := of_decide_eq_true (List.all_eq_true.mp dsX12_goesOn_1_ok (153, (.bipush 33, 2)) (List.mem_of_getElem? (i := 16) rfl))
theorem dX12_goesOn_155 : decode cX12_goesOn 155 = .ok (.goto 19, 3) := of_decide_eq_true (List.all_eq_true.mp dsX12_goesOn_1_ok (155, (.goto 19, 3)) (List.mem_of_getElem? (i := 17) rfl))
theorem dX12_goesOn_158 : decode cX12_goesOn 158 = .ok (.aload_n 0, 1) := of_decide_eq_true (List.all_eq_true.mp dsX12_goesOn_1_ok (158, (.aload_n 0, 1)) (List.mem_of_getElem? (i := 18) rfl))
theorem dX12_goesOn_159 : decode cX12_goesOn 159 = .ok (.bipush 47, 2) := of_decide_eq_true (List.all_eq_true.mp dsX12_goesOn_1_ok (159, (.bipush 47, 2)) (List.mem_of_getElem? (i := 19) rfl))
theorem dX12_goesOn_161 : decode cX12_goesOn 161 = .ok (.invokevirtual 247, 3) := of_decide_eq_true (List.all_eq_true.mp dsX12_goesOn_1_ok (161, (.invokevirtual 247, 3)) (List.mem_of_getElem? (i := 20) rfl))
theorem dX12_goesOn_164 : decode cX12_goesOn 164 = .ok (.ifCond .eq 8, 3) := of_decide_eq_true (List.all_eq_true.mp dsX12_goesOn_1_ok (164, (.ifCond .eq 8, 3)) (List.mem_of_getElem? (i := 21) rfl))
theorem dX12_goesOn_167 : decode cX12_goesOn 167 = .ok (.bipush 34, 2) := of_decide_eq_true (List.all_eq_true.mp dsX12_goesOn_1_ok (167, (.bipush 34, 2)) (List.mem_of_getElem? (i := 22) rfl))
theorem dX12_goesOn_169 : decode cX12_goesOn 169 = .ok (.goto 5, 3) := of_decide_eq_true (List.all_eq_true.mp dsX12_goesOn_1_ok (169, (.goto 5, 3)) (List.mem_of_getElem? (i := 23) rfl))
theorem dX12_goesOn_172 : decode cX12_goesOn 172 = .ok (.bipush 35, 2) := of_decide_eq_true (List.all_eq_true.mp dsX12_goesOn_1_ok (172, (.bipush 35, 2)) (List.mem_of_getElem? (i := 24) rfl))
theorem dX12_goesOn_174 : decode cX12_goesOn 174 = .ok (.invokevirtual 321, 3) := of_decide_eq_true (List.all_eq_true.mp dsX12_goesOn_1_ok (174, (.invokevirtual 321, 3)) (List.mem_of_getElem? (i := 25) rfl))
theorem dX12_goesOn_177 : decode cX12_goesOn 177 = .ok (.aload_n 0, 1) := of_decide_eq_true (List.all_eq_true.mp dsX12_goesOn_1_ok (177, (.aload_n 0, 1)) (List.mem_of_getElem? (i := 26) rfl))
theorem dX12_goesOn_178 : decode cX12_goesOn 178 = .ok (.invokevirtual 250, 3) := of_decide_eq_true (List.all_eq_true.mp dsX12_goesOn_1_ok (178, (.invokevirtual 250, 3)) (List.mem_of_getElem? (i := 27) rfl))
theorem dX12_goesOn_181 : decode cX12_goesOn 181 = .ok (.aload_n 0, 1) := of_decide_eq_true (List.all_eq_true.mp dsX12_goesOn_1_ok (181, (.aload_n 0, 1)) (List.mem_of_getElem? (i := 28) rfl))
theorem dX12_goesOn_182 : decode cX12_goesOn 182 = .ok (.iconst 0, 1) := of_decide_eq_true (List.all_eq_true.mp dsX12_goesOn_1_ok (182, (.iconst 0, 1)) (List.mem_of_getElem? (i := 29) rfl))
theorem dX12_goesOn_183 : decode cX12_goesOn 183 = .ok (.putfield 140, 3) := of_decide_eq_true (List.all_eq_true.mp dsX12_goesOn_1_ok (183, (.putfield 140, 3)) (List.mem_of_getElem? (i := 30) rfl))
theorem dX12_goesOn_186 : decode cX12_goesOn 186 = .ok (.iconst 1, 1) := of_decide_eq_true (List.all_eq_true.mp dsX12_goesOn_1_ok (186, (.iconst 1, 1)) (List.mem_of_getElem? (i := 31) rfl))
theorem dX12_goesOn_187 : decode cX12_goesOn 187 = .ok (.ireturn, 1) := of_decide_eq_true (List.all_eq_true.mp dsX12_goesOn_1_ok (187, (.ireturn, 1)) (List.mem_of_getElem? (i := 32) rfl))
theorem dX12_goesOn_188 : decode cX12_goesOn 188 = .ok (.iload_n 3, 1) := of_decide_eq_true (List.all_eq_true.mp dsX12_goesOn_1_ok (188, (.iload_n 3, 1)) (List.mem_of_getElem? (i := 33) rfl))
theorem dX12_goesOn_189 : decode cX12_goesOn 189 = .ok (.ifCond .eq 96, 3) := of_decide_eq_true (List.all_eq_true.mp dsX12_goesOn_1_ok (189, (.ifCond .eq 96, 3)) (List.mem_of_getElem? (i := 34) rfl))
theorem dX12_goesOn_192 : decode cX12_goesOn 192 = .ok (.aload_n 0, 1) := of_decide_eq_true (List.all_eq_true.mp dsX12_goesOn_1_ok (192, (.aload_n 0, 1)) (List.mem_of_getElem? (i := 35) rfl))
theorem dX12_goesOn_193 : decode cX12_goesOn 193 = .ok (.getfield 115, 3) := of_decide_eq_true (List.all_eq_true.mp dsX12_goesOn_1_ok (193, (.getfield 115, 3)) (List.mem_of_getElem? (i := 36) rfl))
theorem dX12_goesOn_196 : decode cX12_goesOn 196 = .ok (.iload_n 1, 1) := of_decide_eq_true (List.all_eq_true.mp dsX12_goesOn_1_ok (196, (.iload_n 1, 1)) (List.mem_of_getElem? (i := 37) rfl))
theorem dX12_goesOn_197 : decode cX12_goesOn 197 = .ok (.iaload, 1) := of_decide_eq_true (List.all_eq_true.mp dsX12_goesOn_1_ok (197, (.iaload, 1)) (List.mem_of_getElem? (i := 38) rfl))
theorem dX12_goesOn_198 : decode cX12_goesOn 198 = .ok (.ifCond .ne 87, 3) := of_decide_eq_true (List.all_eq_true.mp dsX12_goesOn_1_ok (198, (.ifCond .ne 87, 3)) (List.mem_of_getElem? (i := 39) rfl))
theorem dX12_goesOn_201 : decode cX12_goesOn 201 = .ok (.aload_n 0, 1) := of_decide_eq_true (List.all_eq_true.mp dsX12_goesOn_1_ok (201, (.aload_n 0, 1)) (List.mem_of_getElem? (i := 40) rfl))
theorem dX12_goesOn_202 : decode cX12_goesOn 202 = .ok (.bipush 60, 2) := of_decide_eq_true (List.all_eq_true.mp dsX12_goesOn_1_ok (202, (.bipush 60, 2)) (List.mem_of_getElem? (i := 41) rfl))
theorem dX12_goesOn_204 : decode cX12_goesOn 204 = .ok (.invokevirtual 247, 3) := of_decide_eq_true (List.all_eq_true.mp dsX12_goesOn_1_ok (204, (.invokevirtual 247, 3)) (List.mem_of_getElem? (i := 42) rfl))
theorem dX12_goesOn_207 : decode cX12_goesOn 207 = .ok (.ifCond .ne 21, 3) := of_decide_eq_true (List.all_eq_true.mp dsX12_goesOn_1_ok (207, (.ifCond .ne 21, 3)) (List.mem_of_getElem? (i := 43) rfl))
theorem dX12_goesOn_210 : decode cX12_goesOn 210 = .ok (.aload_n 0, 1) := of_decide_eq_true (List.all_eq_true.mp dsX12_goesOn_1_ok (210, (.aload_n 0, 1)) (List.mem_of_getElem? (i := 44) rfl))
theorem dX12_goesOn_211 : decode cX12_goesOn 211 = .ok (.bipush 62, 2) := of_decide_eq_true (List.all_eq_true.mp dsX12_goesOn_1_ok (211, (.bipush 62, 2)) (List.mem_of_getElem? (i := 45) rfl))
theorem dX12_goesOn_213 : decode cX12_goesOn 213 = .ok (.invokevirtual 247, 3) := of_decide_eq_true (List.all_eq_true.mp dsX12_goesOn_1_ok (213, (.invokevirtual 247, 3)) (List.mem_of_getElem? (i := 46) rfl))
theorem dX12_goesOn_216 : decode cX12_goesOn 216 = .ok (.ifCond .ne 12, 3) := of_decide_eq_true (List.all_eq_true.mp dsX12_goesOn_1_ok (216, (.ifCond .ne 12, 3)) (List.mem_of_getElem? (i := 47) rfl))
theorem dX12_goesOn_219 : decode cX12_goesOn 219 = .ok (.aload_n 0, 1) := of_decide_eq_true (List.all_eq_true.mp dsX12_goesOn_1_ok (219, (.aload_n 0, 1)) (List.mem_of_getElem? (i := 48) rfl))
theorem dX12_goesOn_220 : decode cX12_goesOn 220 = .ok (.bipush 61, 2) := of_decide_eq_true (List.all_eq_true.mp dsX12_goesOn_1_ok (220, (.bipush 61, 2)) (List.mem_of_getElem? (i := 49) rfl))
theorem dX12_goesOn_222 : decode cX12_goesOn 222 = .ok (.invokevirtual 247, 3) := of_decide_eq_true (List.all_eq_true.mp dsX12_goesOn_1_ok (222, (.invokevirtual 247, 3)) (List.mem_of_getElem? (i := 50) rfl))
theorem dX12_goesOn_225 : decode cX12_goesOn 225 = .ok (.ifCond .eq 60, 3) := of_decide_eq_true (List.all_eq_true.mp dsX12_goesOn_1_ok (225, (.ifCond .eq 60, 3)) (List.mem_of_getElem? (i := 51) rfl))
theorem dX12_goesOn_228 : decode cX12_goesOn 228 = .ok (.aload_n 0, 1) := of_decide_eq_true (List.all_eq_true.mp dsX12_goesOn_1_ok (228, (.aload_n 0, 1)) (List.mem_of_getElem? (i := 52) rfl))
theorem dX12_goesOn_229 : decode cX12_goesOn 229 = .ok (.iconst 5, 1) := of_decide_eq_true (List.all_eq_true.mp dsX12_goesOn_1_ok (229, (.iconst 5, 1)) (List.mem_of_getElem? (i := 53) rfl))
theorem dX12_goesOn_230 : decode cX12_goesOn 230 = .ok (.invokevirtual 327, 3) := of_decide_eq_true (List.all_eq_true.mp dsX12_goesOn_1_ok (230, (.invokevirtual 327, 3)) (List.mem_of_getElem? (i := 54) rfl))
theorem dX12_goesOn_233 : decode cX12_goesOn 233 = .ok (.aload_n 0, 1) := of_decide_eq_true (List.all_eq_true.mp dsX12_goesOn_1_ok (233, (.aload_n 0, 1)) (List.mem_of_getElem? (i := 55) rfl))
theorem dX12_goesOn_234 : decode cX12_goesOn 234 = .ok (.aload_n 0, 1) := of_decide_eq_true (List.all_eq_true.mp dsX12_goesOn_1_ok (234, (.aload_n 0, 1)) (List.mem_of_getElem? (i := 56) rfl))
theorem dX12_goesOn_235 : decode cX12_goesOn 235 = .ok (.bipush 60, 2) := of_decide_eq_true (List.all_eq_true.mp dsX12_goesOn_1_ok (235, (.bipush 60, 2)) (List.mem_of_getElem? (i := 57) rfl))
theorem dX12_goesOn_237 : decode cX12_goesOn 237 = .ok (.invokevirtual 247, 3) := of_decide_eq_true (List.all_eq_true.mp dsX12_goesOn_1_ok (237, (.invokevirtual 247, 3)) (List.mem_of_getElem? (i := 58) rfl))
theorem dX12_goesOn_240 : decode cX12_goesOn 240 = .ok (.ifCond .eq 8, 3) := of_decide_eq_true (List.all_eq_true.mp dsX12_goesOn_1_ok (240, (.ifCond .eq 8, 3)) (List.mem_of_getElem? (i := 59) rfl))
def dsX12_goesOn_2 : List (Nat × Instr × Nat) := [(243, (.bipush 38, 2)), (245, (.goto 19, 3)), (248, (.aload_n 0, 1)), (249, (.bipush 62, 2)), (251, (.invokevirtual 247, 3)), (254, (.ifCond .eq 8, 3)), (257, (.bipush 39, 2)), (259, (.goto 5, 3)), (262, (.bipush 40, 2)), (264, (.invokevirtual 321, 3)), (267, (.aload_n 0, 1)), (268, (.getfield 115, 3)), (271, (.iload_n 1, 1)), (272, (.iconst 1, 1)), (273, (.iastore, 1)), (274, (.aload_n 0, 1)), (275, (.invokevirtual 250, 3)), (278, (.aload_n 0, 1)), (279, (.iconst 0, 1)), (280, (.putfield 140, 3)), (283, (.iconst 1, 1)), (284, (.ireturn, 1)), (285, (.iload_n 3, 1)), (286, (.ifCond .eq 114, 3)), (289, (.aload_n 0, 1)), (290, (.ldc2_w 291, 3)), (293, (.invokevirtual 317, 3)), (296, (.ifCond .ne 13, 3)), (299, (.aload_n 0, 1)), (300, (.ldc2_w 289, 3)), (303, (.invokevirtual 317, 3)), (306, (.ifCond .eq 94, 3)), (309, (.aload_n 0, 1)), (310, (.getfield 115, 3)), (313, (.iload_n 1, 1)), (314, (.iaload, 1)), (315, (.ifCond .ne 12, 3)), (318, (.aload_n 0, 1)), (319, (.iconst 1, 1)), (320, (.aload_n 0, 1)), (321, (.getfield 23, 3)), (324, (.invokevirtual 233, 3)), (327, (.aload_n 0, 1)), (328, (.getfield 36, 3)), (331, (.ifCond .le 5, 3)), (334, (.iconst 0, 1)), (335, (.ireturn, 1)), (336, (.aload_n 0, 1)), (337, (.ldc2_w 291, 3)), (340, (.invokevirtual 317, 3)), (343, (.istore 4, 2)), (345, (.aload_n 0, 1)), (346, (.iload 4, 2)), (348, (.ifCond .eq 7, 3)), (351, (.iconst 2, 1)), (352, (.goto 4, 3)), (355, (.iconst 1, 1)), (356, (.invokevirtual 327, 3)), (359, (.aload_n 0, 1)), (360, (.iload 4, 2))]
theorem dsX12_goesOn_2_ok : (dsX12_goesOn_2.all fun q => decide (decode cX12_goesOn q.1 = .ok q.2)) = true := by decide +kernel
theorem dX12_goesOn_243 : decode cX12_goesOn 243 = .ok (.bipush 38, 2) := of_decide_eq_true (List.all_eq_true.mp dsX12_goesOn_2_ok (243, (.bipush 38, 2)) (List.mem_of_getElem? (i := 0) rfl))
theorem dX12_goesOn_245 : decode cX12_goesOn 245 = .ok (.goto 19, 3) := of_decide_eq_true (List.all_eq_true.mp dsX12_goesOn_2_ok (245, (.goto 19, 3)) (List.mem_of_getElem? (i := 1) rfl))
theorem dX12_goesOn_248 : decode cX12_goesOn 248 = .ok (.aload_n 0, 1) := of_decide_eq_true (List.all_eq_true.mp dsX12_goesOn_2_ok (248, (.aload_n 0, 1)) (List.mem_of_getElem? (i := 2) rfl))
theorem dX12_goesOn_249 : decode cX12_goesOn 249 = .ok (.bipush 62, 2) := of_decide_eq_true (List.all_eq_true.mp dsX12_goesOn_2_ok (249, (.bipush 62, 2)) (List.mem_of_getElem? (i := 3) rfl))
theorem dX12_goesOn_251 : decode cX12_goesOn 251 = .ok (.invokevirtual 247, 3) := of_decide_eq_true (List.all_eq_true.mp dsX12_goesOn_2_ok (251, (.invokevirtual 247, 3)) (List.mem_of_getElem? (i := 4) rfl))
theorem dX12_goesOn_254 : decode cX12_goesOn 254 = .ok (.ifCond .eq 8, 3) := of_decide_eq_true (List.all_eq_true.mp dsX12_goesOn_2_ok (254, (.ifCond .eq 8, 3)) (List.mem_of_getElem? (i := 5) rfl))
theorem dX12_goesOn_257 : decode cX12_goesOn 257 = .ok (.bipush 39, 2) := of_decide_eq_true (List.all_eq_true.mp dsX12_goesOn_2_ok (257, (.bipush 39, 2)) (List.mem_of_getElem? (i := 6) rfl))
theorem dX12_goesOn_259 : decode cX12_goesOn 259 = .ok (.goto 5, 3) := of_decide_eq_true (List.all_eq_true.mp dsX12_goesOn_2_ok (259, (.goto 5, 3)) (List.mem_of_getElem? (i := 7) rfl))
theorem dX12_goesOn_262 : decode cX12_goesOn 262 = .ok (.bipush 40, 2) := of_decide_eq_true (List.all_eq_true.mp dsX12_goesOn_2_ok (262, (.bipush 40, 2)) (List.mem_of_getElem? (i := 8) rfl))
theorem dX12_goesOn_264 : decode cX12_goesOn 264 = .ok (.invokevirtual 321, 3) := of_decide_eq_true (List.all_eq_true.mp dsX12_goesOn_2_ok (264, (.invokevirtual 321, 3)) (List.mem_of_getElem? (i := 9) rfl))
theorem dX12_goesOn_267 : decode cX12_goesOn 267 = .ok (.aload_n 0, 1) := of_decide_eq_true (List.all_eq_true.mp dsX12_goesOn_2_ok (267, (.aload_n 0, 1)) (List.mem_of_getElem? (i := 10) rfl))
theorem dX12_goesOn_268 : decode cX12_goesOn 268 = .ok (.getfield 115, 3) := of_decide_eq_true (List.all_eq_true.mp dsX12_goesOn_2_ok (268, (.getfield 115, 3)) (List.mem_of_getElem? (i := 11) rfl))
theorem dX12_goesOn_271 : decode cX12_goesOn 271 = .ok (.iload_n 1, 1) := of_decide_eq_true (List.all_eq_true.mp dsX12_goesOn_2_ok (271, (.iload_n 1, 1)) (List.mem_of_getElem? (i := 12) rfl))
theorem dX12_goesOn_272 : decode cX12_goesOn 272 = .ok (.iconst 1, 1) := of_decide_eq_true (List.all_eq_true.mp dsX12_goesOn_2_ok (272, (.iconst 1, 1)) (List.mem_of_getElem? (i := 13) rfl))
theorem dX12_goesOn_273 : decode cX12_goesOn 273 = .ok (.iastore, 1) := of_decide_eq_true (List.all_eq_true.mp dsX12_goesOn_2_ok (273, (.iastore, 1)) (List.mem_of_getElem? (i := 14) rfl))
theorem dX12_goesOn_274 : decode cX12_goesOn 274 = .ok (.aload_n 0, 1) := of_decide_eq_true (List.all_eq_true.mp dsX12_goesOn_2_ok (274, (.aload_n 0, 1)) (List.mem_of_getElem? (i := 15) rfl))
theorem dX12_goesOn_275 : decode cX12_goesOn 275 = .ok (.invokevirtual 250, 3) := of_decide_eq_true (List.all_eq_true.mp dsX12_goesOn_2_ok (275, (.invokevirtual 250, 3)) (List.mem_of_getElem? (i := 16) rfl))
theorem dX12_goesOn_278 : decode cX12_goesOn 278 = .ok (.aload_n 0, 1) := of_decide_eq_true (List.all_eq_true.mp dsX12_goesOn_2_ok (278, (.aload_n 0, 1)) (List.mem_of_getElem? (i := 17) rfl))
theorem dX12_goesOn_279 : decode cX12_goesOn 279 = .ok (.iconst 0, 1) := of_decide_eq_true (List.all_eq_true.mp dsX12_goesOn_2_ok (279, (.iconst 0, 1)) (List.mem_of_getElem? (i := 18) rfl))
theorem dX12_goesOn_280 : decode cX12_goesOn 280 = .ok (.putfield 140, 3) := of_decide_eq_true (List.all_eq_true.mp dsX12_goesOn_2_ok (280, (.putfield 140, 3)) (List.mem_of_getElem? (i := 19) rfl))
theorem dX12_goesOn_283 : decode cX12_goesOn 283 = .ok (.iconst 1, 1) := of_decide_eq_true (List.all_eq_true.mp dsX12_goesOn_2_ok (283, (.iconst 1, 1)) (List.mem_of_getElem? (i := 20) rfl))
theorem dX12_goesOn_284 : decode cX12_goesOn 284 = .ok (.ireturn, 1) := of_decide_eq_true (List.all_eq_true.mp dsX12_goesOn_2_ok (284, (.ireturn, 1)) (List.mem_of_getElem? (i := 21) rfl))
theorem dX12_goesOn_285 : decode cX12_goesOn 285 = .ok (.iload_n 3, 1) := of_decide_eq_true (List.all_eq_true.mp dsX12_goesOn_2_ok (285, (.iload_n 3, 1)) (List.mem_of_getElem? (i := 22) rfl))
theorem dX12_goesOn_286 : decode cX12_goesOn 286 = .ok (.ifCond .eq 114, 3) := of_decide_eq_true (List.all_eq_true.mp dsX12_goesOn_2_ok (286, (.ifCond .eq 114, 3)) (List.mem_of_getElem? (i := 23) rfl))
theorem dX12_goesOn_289 : decode cX12_goesOn 289 = .ok (.aload_n 0, 1) := of_decide_eq_true (List.all_eq_true.mp dsX12_goesOn_2_ok (289, (.aload_n 0, 1)) (List.mem_of_getElem? (i := 24) rfl))
theorem dX12_goesOn_290 : decode cX12_goesOn 290 = .ok (.ldc2_w 291, 3) := of_decide_eq_true (List.all_eq_true.mp dsX12_goesOn_2_ok (290, (.ldc2_w 291, 3)) (List.mem_of_getElem? (i := 25) rfl))
theorem dX12_goesOn_293 : decode cX12_goesOn 293 = .ok (.invokevirtual 317, 3) := of_decide_eq_true (List.all_eq_true.mp dsX12_goesOn_2_ok (293, (.invokevirtual 317, 3)) (List.mem_of_getElem? (i := 26) rfl))
theorem dX12_goesOn_296 : decode cX12_goesOn 296 = .ok (.ifCond .ne 13, 3) := of_decide_eq_true (List.all_eq_true.mp dsX12_goesOn_2_ok (296, (.ifCond .ne 13, 3)) (List.mem_of_getElem? (i := 27) rfl))
theorem dX12_goesOn_299 : decode cX12_goesOn 299 = .ok (.aload_n 0, 1) := of_decide_eq_true (List.all_eq_true.mp dsX12_goesOn_2_ok (299, (.aload_n 0, 1)) (List.mem_of_getElem? (i := 28) rfl))
theorem dX12_goesOn_300 : decode cX12_goesOn 300 = .ok (.ldc2_w 289, 3) := of_decide_eq_true (List.all_eq_true.mp dsX12_goesOn_2_ok (300, (.ldc2_w 289, 3)) (List.mem_of_getElem? (i := 29) rfl))
theorem dX12_goesOn_303 : decode cX12_goesOn 303 = .ok (.invokevirtual 317, 3) := of_decide_eq_true (List.all_eq_true.mp dsX12_goesOn_2_ok (303, (.invokevirtual 317, 3)) (List.mem_of_getElem? (i := 30) rfl))
theorem dX12_goesOn_306 : decode cX12_goesOn 306 = .ok (.ifCond .eq 94, 3) := of_decide_eq_true (List.all_eq_true.mp dsX12_goesOn_2_ok (306, (.ifCond .eq 94, 3)) (List.mem_of_getElem? (i := 31) rfl))
theorem dX12_goesOn_309 : decode cX12_goesOn 309 = .ok (.aload_n 0, 1) := of_decide_eq_true (List.all_eq_true.mp dsX12_goesOn_2_ok (309, (.aload_n 0, 1)) (List.mem_of_getElem? (i := 32) rfl))
theorem dX12_goesOn_310 : decode cX12_goesOn 310 = .ok (.getfield 115, 3) := of_decide_eq_true (List.all_eq_true.mp dsX12_goesOn_2_ok (310, (.getfield 115, 3)) (List.mem_of_getElem? (i := 33) rfl))
theorem dX12_goesOn_313 : decode cX12_goesOn 313 = .ok (.iload_n 1, 1) := of_decide_eq_true (List.all_eq_true.mp dsX12_goesOn_2_ok (313, (.iload_n 1, 1)) (List.mem_of_getElem? (i := 34) rfl))
theorem dX12_goesOn_314 : decode cX12_goesOn 314 = .ok (.iaload, 1) := of_decide_eq_true (List.all_eq_true.mp dsX12_goesOn_2_ok (314, (.iaload, 1)) (List.mem_of_getElem? (i := 35) rfl))
theorem dX12_goesOn_315 : decode cX12_goesOn 315 = .ok (.ifCond .ne 12, 3) := of_decide_eq_true (List.all_eq_true.mp dsX12_goesOn_2_ok (315, (.ifCond .ne 12, 3)) (List.mem_of_getElem? (i := 36) rfl))
theorem dX12_goesOn_318 : decode cX12_goesOn 318 = .ok (.aload_n 0, 1) := of_decide_eq_true (List.all_eq_true.mp dsX12_goesOn_2_ok (318, (.aload_n 0, 1)) (List.mem_of_getElem? (i := 37) rfl))
theorem dX12_goesOn_319 : decode cX12_goesOn 319 = .ok (.iconst 1, 1) := of_decide_eq_true (List.all_eq_true.mp dsX12_goesOn_2_ok (319, (.iconst 1, 1)) (List.mem_of_getElem? (i := 38) rfl))
theorem dX12_goesOn_320 : decode cX12_goesOn 320 = .ok (.aload_n 0, 1) := of_decide_eq_true (List.all_eq_true.mp dsX12_goesOn_2_ok (320, (.aload_n 0, 1)) (List.mem_of_getElem? (i := 39) rfl))
theorem dX12_goesOn_321 : decode cX12_goesOn 321 = .ok (.getfield 23, 3) := of_decide_eq_true (List.all_eq_true.mp dsX12_goesOn_2_ok (321, (.getfield 23, 3)) (List.mem_of_getElem? (i := 40) rfl))
theorem dX12_goesOn_324 : decode cX12_goesOn 324 = .ok (.invokevirtual 233, 3) := of_decide_eq_true (List.all_eq_true.mp dsX12_goesOn_2_ok (324, (.invokevirtual 233, 3)) (List.mem_of_getElem? (i := 41) rfl))
theorem dX12_goesOn_327 : decode cX12_goesOn 327 = .ok (.aload_n 0, 1) := of_decide_eq_true (List.all_eq_true.mp dsX12_goesOn_2_ok (327, (.aload_n 0, 1)) (List.mem_of_getElem? (i := 42) rfl))
theorem dX12_goesOn_328 : decode cX12_goesOn 328 = .ok (.getfield 36, 3) := of_decide_eq_true (List.all_eq_true.mp dsX12_goesOn_2_ok (328, (.getfield 36, 3)) (List.mem_of_getElem? (i := 43) rfl))
theorem dX12_goesOn_331 : decode cX12_goesOn 331 = .ok (.ifCond .le 5, 3) := of_decide_eq_true (List.all_eq_true.mp dsX12_goesOn_2_ok (331, (.ifCond .le 5, 3)) (List.mem_of_getElem? (i := 44) rfl))
theorem dX12_goesOn_334 : decode cX12_goesOn 334 = .ok (.iconst 0, 1) := of_decide_eq_true (List.all_eq_true.mp dsX12_goesOn_2_ok (334, (.iconst 0, 1)) (List.mem_of_getElem? (i := 45) rfl))
theorem dX12_goesOn_335 : decode cX12_goesOn 335 = .ok (.ireturn, 1) := of_decide_eq_true (List.all_eq_true.mp dsX12_goesOn_2_ok (335, (.ireturn, 1)) (List.mem_of_getElem? (i := 46) rfl))
theorem dX12_goesOn_336 : decode cX12_goesOn 336 = .ok (.aload_n 0, 1) := of_decide_eq_true (List.all_eq_true.mp dsX12_goesOn_2_ok (336, (.aload_n 0, 1)) (List.mem_of_getElem? (i := 47) rfl))
theorem dX12_goesOn_337 : decode cX12_goesOn 337 = .ok (.ldc2_w 291, 3) := of_decide_eq_true (List.all_eq_true.mp dsX12_goesOn_2_ok (337, (.ldc2_w 291, 3)) (List.mem_of_getElem? (i := 48) rfl))
theorem dX12_goesOn_340 : decode cX12_goesOn 340 = .ok (.invokevirtual 317, 3) := of_decide_eq_true (List.all_eq_true.mp dsX12_goesOn_2_ok (340, (.invokevirtual 317, 3)) (List.mem_of_getElem? (i := 49) rfl))
theorem dX12_goesOn_343 : decode cX12_goesOn 343 = .ok (.istore 4, 2) := of_decide_eq_true (List.all_eq_true.mp dsX12_goesOn_2_ok (343, (.istore 4, 2)) (List.mem_of_getElem? (i := 50) rfl))
theorem dX12_goesOn_345 : decode cX12_goesOn 345 = .ok (.aload_n 0, 1) := of_decide_eq_true (List.all_eq_true.mp dsX12_goesOn_2_ok (345, (.aload_n 0, 1)) (List.mem_of_getElem? (i := 51) rfl))
theorem dX12_goesOn_346 : decode cX12_goesOn 346 = .ok (.iload 4, 2) := of_decide_eq_true (List.all_eq_true.mp dsX12_goesOn_2_ok (346, (.iload 4, 2)) (List.mem_of_getElem? (i := 52) rfl))
theorem dX12_goesOn_348 : decode cX12_goesOn 348 = .ok (.ifCond .eq 7, 3) := of_decide_eq_true (List.all_eq_true.mp dsX12_goesOn_2_ok (348, (.ifCond .eq 7, 3)) (List.mem_of_getElem? (i := 53) rfl))
theorem dX12_goesOn_351 : decode cX12_goesOn 351 = .ok (.iconst 2, 1) := of_decide_eq_true (List.all_eq_true.mp dsX12_goesOn_2_ok (351, (.iconst 2, 1)) (List.mem_of_getElem? (i := 54) rfl))
theorem dX12_goesOn_352 : decode cX12_goesOn 352 = .ok (.goto 4, 3) := of_decide_eq_true (List.all_eq_true.mp dsX12_goesOn_2_ok (352, (.goto 4, 3)) (List.mem_of_getElem? (i := 55) rfl))
theorem dX12_goesOn_355 : decode cX12_goesOn 355 = .ok (.iconst 1, 1) := of_decide_eq_true (List.all_eq_true.mp dsX12_goesOn_2_ok (355, (.iconst 1, 1)) (List.mem_of_getElem? (i := 56) rfl))
theorem dX12_goesOn_356 : decode cX12_goesOn 356 = .ok (.invokevirtual 327, 3) := of_decide_eq_true (List.all_eq_true.mp dsX12_goesOn_2_ok (356, (.invokevirtual 327, 3)) (List.mem_of_getElem? (i := 57) rfl))
theorem dX12_goesOn_359 : decode cX12_goesOn 359 = .ok (.aload_n 0, 1) := of_decide_eq_true (List.all_eq_true.mp dsX12_goesOn_2_ok (359, (.aload_n 0, 1)) (List.mem_of_getElem? (i := 58) rfl))
theorem dX12_goesOn_360 : decode cX12_goesOn 360 = .ok (.iload 4, 2) := of_decide_eq_true (List.all_eq_true.mp dsX12_goesOn_2_ok (360, (.iload 4, 2)) (List.mem_of_getElem? (i := 59) rfl))
def dsX12_goesOn_3 : List (Nat × Instr × Nat) := [(362, (.ifCond .eq 8, 3)), (365, (.bipush 41, 2)), (367, (.goto 5, 3)), (370, (.bipush 42, 2)), (372, (.invokevirtual 321, 3)), (375, (.aload_n 0, 1)), (376, (.getfield 115, 3)), (379, (.iload_n 1, 1)), (380, (.iconst 0, 1)), (381, (.iastore, 1)), (382, (.aload_n 0, 1)), (383, (.getfield 118, 3)), (386, (.iload_n 1, 1)), (387, (.iconst 1, 1)), (388, (.bastore, 1)), (389, (.aload_n 0, 1)), (390, (.invokevirtual 250, 3)), (393, (.aload_n 0, 1)), (394, (.iconst 0, 1)), (395, (.putfield 140, 3)), (398, (.iconst 1, 1)), (399, (.ireturn, 1)), (400, (.iload_n 3, 1)), (401, (.ifCond .eq 21, 3)), (404, (.aload_n 0, 1)), (405, (.getfield 115, 3)), (408, (.iload_n 1, 1)), (409, (.iaload, 1)), (410, (.ifCond .ne 12, 3)), (413, (.aload_n 0, 1)), (414, (.iconst 1, 1)), (415, (.aload_n 0, 1)), (416, (.getfield 23, 3)), (419, (.invokevirtual 233, 3)), (422, (.iload_n 2, 1)), (423, (.iconst 2, 1)), (424, (.if_icmp .ge 17, 3)), (427, (.aload_n 0, 1)), (428, (.getfield 36, 3)), (431, (.ifCond .ne 8, 3)), (434, (.aload_n 0, 1)), (435, (.iconst 1, 1)), (436, (.invokevirtual 327, 3)), (439, (.iconst 0, 1)), (440, (.ireturn, 1)), (441, (.iload_n 2, 1)), (442, (.iconst 3, 1)), (443, (.if_icmp .eq 9, 3)), (446, (.iload_n 2, 1)), (447, (.bipush 6, 2)), (449, (.if_icmp .ne 69, 3)), (452, (.aload_n 0, 1)), (453, (.bipush 44, 2)), (455, (.invokevirtual 247, 3)), (458, (.ifCond .ne 12, 3)), (461, (.aload_n 0, 1)), (462, (.iconst 1, 1)), (463, (.aload_n 0, 1)), (464, (.getfield 23, 3)), (467, (.invokevirtual 233, 3))]
theorem dsX12_goesOn_3_ok : (dsX12_goesOn_3.all fun q => decide (decode cX12_goesOn q.1 = .ok q.2)) = true := by decide +kernel
theorem dX12_goesOn_362 : decode cX12_goesOn 362 = .ok (.ifCond .eq 8, 3) := of_decide_eq_true (List.all_eq_true.mp dsX12_goesOn_3_ok (362, (.ifCond .eq 8, 3)) (List.mem_of_getElem? (i := 0) rfl))
theorem dX12_goesOn_365 : decode cX12_goesOn 365 = .ok (.bipush 41, 2) := of_decide_eq_true (List.all_eq_true.mp dsX12_goesOn_3_ok (365, (.bipush 41, 2)) (List.mem_of_getElem? (i := 1) rfl))
theorem dX12_goesOn_367 : decode cX12_goesOn 367 = .ok (.goto 5, 3) := of_decide_eq_true (List.all_eq_true.mp dsX12_goesOn_3_ok (367, (.goto 5, 3)) (List.mem_of_getElem? (i := 2) rfl))
theorem dX12_goesOn_370 : decode cX12_goesOn 370 = .ok (.bipush 42, 2) := of_decide_eq_true (List.all_eq_true.mp dsX12_goesOn_3_ok (370, (.bipush 42, 2)) (List.mem_of_getElem? (i := 3) rfl))
theorem dX12_goesOn_372 : decode cX12_goesOn 372 = .ok (.invokevirtual 321, 3) := of_decide_eq_true (List.all_eq_true.mp dsX12_goesOn_3_ok (372, (.invokevirtual 321, 3)) (List.mem_of_getElem? (i := 4) rfl))
theorem dX12_goesOn_375 : decode cX12_goesOn 375 = .ok (.aload_n 0, 1) := of_decide_eq_true (List.all_eq_true.mp dsX12_goesOn_3_ok (375, (.aload_n 0, 1)) (List.mem_of_getElem? (i := 5) rfl))
theorem dX12_goesOn_376 : decode cX12_goesOn 376 = .ok (.getfield 115, 3) := of_decide_eq_true (List.all_eq_true.mp dsX12_goesOn_3_ok (376, (.getfield 115, 3)) (List.mem_of_getElem? (i := 6) rfl))
theorem dX12_goesOn_379 : decode cX12_goesOn 379 = .ok (.iload_n 1, 1) := of_decide_eq_true (List.all_eq_true.mp dsX12_goesOn_3_ok (379, (.iload_n 1, 1)) (List.mem_of_getElem? (i := 7) rfl))
theorem dX12_goesOn_380 : decode cX12_goesOn 380 = .ok (.iconst 0, 1) := of_decide_eq_true (List.all_eq_true.mp dsX12_goesOn_3_ok (380, (.iconst 0, 1)) (List.mem_of_getElem? (i := 8) rfl))
theorem dX12_goesOn_381 : decode cX12_goesOn 381 = .ok (.iastore, 1) := of_decide_eq_true (List.all_eq_true.mp dsX12_goesOn_3_ok (381, (.iastore, 1)) (List.mem_of_getElem? (i := 9) rfl))
theorem dX12_goesOn_382 : decode cX12_goesOn 382 = .ok (.aload_n 0, 1) := of_decide_eq_true (List.all_eq_true.mp dsX12_goesOn_3_ok (382, (.aload_n 0, 1)) (List.mem_of_getElem? (i := 10) rfl))
theorem dX12_goesOn_383 : decode cX12_goesOn 383 = .ok (.getfield 118, 3) := of_decide_eq_true (List.all_eq_true.mp dsX12_goesOn_3_ok (383, (.getfield 118, 3)) (List.mem_of_getElem? (i := 11) rfl))
theorem dX12_goesOn_386 : decode cX12_goesOn 386 = .ok (.iload_n 1, 1) := of_decide_eq_true (List.all_eq_true.mp dsX12_goesOn_3_ok (386, (.iload_n 1, 1)) (List.mem_of_getElem? (i := 12) rfl))
theorem dX12_goesOn_387 : decode cX12_goesOn 387 = .ok (.iconst 1, 1) := of_decide_eq_true (List.all_eq_true.mp dsX12_goesOn_3_ok (387, (.iconst 1, 1)) (List.mem_of_getElem? (i := 13) rfl))
theorem dX12_goesOn_388 : decode cX12_goesOn 388 = .ok (.bastore, 1) := of_decide_eq_true (List.all_eq_true.mp dsX12_goesOn_3_ok (388, (.bastore, 1)) (List.mem_of_getElem? (i := 14) rfl))
theorem dX12_goesOn_389 : decode cX12_goesOn 389 = .ok (.aload_n 0, 1) := of_decide_eq_true (List.all_eq_true.mp dsX12_goesOn_3_ok (389, (.aload_n 0, 1)) (List.mem_of_getElem? (i := 15) rfl))
theorem dX12_goesOn_390 : decode cX12_goesOn 390 = .ok (.invokevirtual 250, 3) := of_decide_eq_true (List.all_eq_true.mp dsX12_goesOn_3_ok (390, (.invokevirtual 250, 3)) (List.mem_of_getElem? (i := 16) rfl))
theorem dX12_goesOn_393 : decode cX12_goesOn 393 = .ok (.aload_n 0, 1) := of_decide_eq_true (List.all_eq_true.mp dsX12_goesOn_3_ok (393, (.aload_n 0, 1)) (List.mem_of_getElem? (i := 17) rfl))
theorem dX12_goesOn_394 : decode cX12_goesOn 394 = .ok (.iconst 0, 1) := of_decide_eq_true (List.all_eq_true.mp dsX12_goesOn_3_ok (394, (.iconst 0, 1)) (List.mem_of_getElem? (i := 18) rfl))
theorem dX12_goesOn_395 : decode cX12_goesOn 395 = .ok (.putfield 140, 3) := of_decide_eq_true (List.all_eq_true.mp dsX12_goesOn_3_ok (395, (.putfield 140, 3)) (List.mem_of_getElem? (i := 19) rfl))
theorem dX12_goesOn_398 : decode cX12_goesOn 398 = .ok (.iconst 1, 1) := of_decide_eq_true (List.all_eq_true.mp dsX12_goesOn_3_ok (398, (.iconst 1, 1)) (List.mem_of_getElem? (i := 20) rfl))
theorem dX12_goesOn_399 : decode cX12_goesOn 399 = .ok (.ireturn, 1) := of_decide_eq_true (List.all_eq_true.mp dsX12_goesOn_3_ok (399, (.ireturn, 1)) (List.mem_of_getElem? (i := 21) rfl))
theorem dX12_goesOn_400 : decode cX12_goesOn 400 = .ok (.iload_n 3, 1) := of_decide_eq_true (List.all_eq_true.mp dsX12_goesOn_3_ok (400, (.iload_n 3, 1)) (List.mem_of_getElem? (i := 22) rfl))
theorem dX12_goesOn_401 : decode cX12_goesOn 401 = .ok (.ifCond .eq 21, 3) := of_decide_eq_true (List.all_eq_true.mp dsX12_goesOn_3_ok (401, (.ifCond .eq 21, 3)) (List.mem_of_getElem? (i := 23) rfl))
theorem dX12_goesOn_404 : decode cX12_goesOn 404 = .ok (.aload_n 0, 1) := of_decide_eq_true (List.all_eq_true.mp dsX12_goesOn_3_ok (404, (.aload_n 0, 1)) (List.mem_of_getElem? (i := 24) rfl))
theorem dX12_goesOn_405 : decode cX12_goesOn 405 = .ok (.getfield 115, 3) := of_decide_eq_true (List.all_eq_true.mp dsX12_goesOn_3_ok (405, (.getfield 115, 3)) (List.mem_of_getElem? (i := 25) rfl))
theorem dX12_goesOn_408 : decode cX12_goesOn 408 = .ok (.iload_n 1, 1) := of_decide_eq_true (List.all_eq_true.mp dsX12_goesOn_3_ok (408, (.iload_n 1, 1)) (List.mem_of_getElem? (i := 26) rfl))
theorem dX12_goesOn_409 : decode cX12_goesOn 409 = .ok (.iaload, 1) := of_decide_eq_true (List.all_eq_true.mp dsX12_goesOn_3_ok (409, (.iaload, 1)) (List.mem_of_getElem? (i := 27) rfl))
theorem dX12_goesOn_410 : decode cX12_goesOn 410 = .ok (.ifCond .ne 12, 3) := of_decide_eq_true (List.all_eq_true.mp dsX12_goesOn_3_ok (410, (.ifCond .ne 12, 3)) (List.mem_of_getElem? (i := 28) rfl))
theorem dX12_goesOn_413 : decode cX12_goesOn 413 = .ok (.aload_n 0, 1) := of_decide_eq_true (List.all_eq_true.mp dsX12_goesOn_3_ok (413, (.aload_n 0, 1)) (List.mem_of_getElem? (i := 29) rfl))
theorem dX12_goesOn_414 : decode cX12_goesOn 414 = .ok (.iconst 1, 1) := of_decide_eq_true (List.all_eq_true.mp dsX12_goesOn_3_ok (414, (.iconst 1, 1)) (List.mem_of_getElem? (i := 30) rfl))
theorem dX12_goesOn_415 : decode cX12_goesOn 415 = .ok (.aload_n 0, 1) := of_decide_eq_true (List.all_eq_true.mp dsX12_goesOn_3_ok (415, (.aload_n 0, 1)) (List.mem_of_getElem? (i := 31) rfl))
theorem dX12_goesOn_416 : decode cX12_goesOn 416 = .ok (.getfield 23, 3) := of_decide_eq_true (List.all_eq_true.mp dsX12_goesOn_3_ok (416, (.getfield 23, 3)) (List.mem_of_getElem? (i := 32) rfl))
theorem dX12_goesOn_419 : decode cX12_goesOn 419 = .ok (.invokevirtual 233, 3) := of_decide_eq_true (List.all_eq_true.mp dsX12_goesOn_3_ok (419, (.invokevirtual 233, 3)) (List.mem_of_getElem? (i := 33) rfl))
theorem dX12_goesOn_422 : decode cX12_goesOn 422 = .ok (.iload_n 2, 1) := of_decide_eq_true (List.all_eq_true.mp dsX12_goesOn_3_ok (422, (.iload_n 2, 1)) (List.mem_of_getElem? (i := 34) rfl))
theorem dX12_goesOn_423 : decode cX12_goesOn 423 = .ok (.iconst 2, 1) := of_decide_eq_true (List.all_eq_true.mp dsX12_goesOn_3_ok (423, (.iconst 2, 1)) (List.mem_of_getElem? (i := 35) rfl))
theorem dX12_goesOn_424 : decode cX12_goesOn 424 = .ok (.if_icmp .ge 17, 3) := of_decide_eq_true (List.all_eq_true.mp dsX12_goesOn_3_ok (424, (.if_icmp .ge 17, 3)) (List.mem_of_getElem? (i := 36) rfl))
theorem dX12_goesOn_427 : decode cX12_goesOn 427 = .ok (.aload_n 0, 1) := of_decide_eq_true (List.all_eq_true.mp dsX12_goesOn_3_ok (427, (.aload_n 0, 1)) (List.mem_of_getElem? (i := 37) rfl))
theorem dX12_goesOn_428 : decode cX12_goesOn 428 = .ok (.getfield 36, 3) := of_decide_eq_true (List.all_eq_true.mp dsX12_goesOn_3_ok (428, (.getfield 36, 3)) (List.mem_of_getElem? (i := 38) rfl))
theorem dX12_goesOn_431 : decode cX12_goesOn 431 = .ok (.ifCond .ne 8, 3) := of_decide_eq_true (List.all_eq_true.mp dsX12_goesOn_3_ok (431, (.ifCond .ne 8, 3)) (List.mem_of_getElem? (i := 39) rfl))
theorem dX12_goesOn_434 : decode cX12_goesOn 434 = .ok (.aload_n 0, 1) := of_decide_eq_true (List.all_eq_true.mp dsX12_goesOn_3_ok (434, (.aload_n 0, 1)) (List.mem_of_getElem? (i := 40) rfl))
theorem dX12_goesOn_435 : decode cX12_goesOn 435 = .ok (.iconst 1, 1) := of_decide_eq_true (List.all_eq_true.mp dsX12_goesOn_3_ok (435, (.iconst 1, 1)) (List.mem_of_getElem? (i := 41) rfl))
theorem dX12_goesOn_436 : decode cX12_goesOn 436 = .ok (.invokevirtual 327, 3) := of_decide_eq_true (List.all_eq_true.mp dsX12_goesOn_3_ok (436, (.invokevirtual 327, 3)) (List.mem_of_getElem? (i := 42) rfl))
theorem dX12_goesOn_439 : decode cX12_goesOn 439 = .ok (.iconst 0, 1) := of_decide_eq_true (List.all_eq_true.mp dsX12_goesOn_3_ok (439, (.iconst 0, 1)) (List.mem_of_getElem? (i := 43) rfl))
theorem dX12_goesOn_440 : decode cX12_goesOn 440 = .ok (.ireturn, 1) := of_decide_eq_true (List.all_eq_true.mp dsX12_goesOn_3_ok (440, (.ireturn, 1)) (List.mem_of_getElem? (i := 44) rfl))
theorem dX12_goesOn_441 : decode cX12_goesOn 441 = .ok (.iload_n 2, 1) := of_decide_eq_true (List.all_eq_true.mp dsX12_goesOn_3_ok (441, (.iload_n 2, 1)) (List.mem_of_getElem? (i := 45) rfl))
theorem dX12_goesOn_442 : decode cX12_goesOn 442 = .ok (.iconst 3, 1) := of_decide_eq_true (List.all_eq_true.mp dsX12_goesOn_3_ok (442, (.iconst 3, 1)) (List.mem_of_getElem? (i := 46) rfl))
theorem dX12_goesOn_443 : decode cX12_goesOn 443 = .ok (.if_icmp .eq 9, 3) := of_decide_eq_true (List.all_eq_true.mp dsX12_goesOn_3_ok (443, (.if_icmp .eq 9, 3)) (List.mem_of_getElem? (i := 47) rfl))
theorem dX12_goesOn_446 : decode cX12_goesOn 446 = .ok (.iload_n 2, 1) := of_decide_eq_true (List.all_eq_true.mp dsX12_goesOn_3_ok (446, (.iload_n 2, 1)) (List.mem_of_getElem? (i := 48) rfl))
theorem dX12_goesOn_447 : decode cX12_goesOn 447 = .ok (.bipush 6, 2) := of_decide_eq_true (List.all_eq_true.mp dsX12_goesOn_3_ok (447, (.bipush 6, 2)) (List.mem_of_getElem? (i := 49) rfl))
theorem dX12_goesOn_449 : decode cX12_goesOn 449 = .ok (.if_icmp .ne 69, 3) := of_decide_eq_true (List.all_eq_true.mp dsX12_goesOn_3_ok (449, (.if_icmp .ne 69, 3)) (List.mem_of_getElem? (i := 50) rfl))
theorem dX12_goesOn_452 : decode cX12_goesOn 452 = .ok (.aload_n 0, 1) := of_decide_eq_true (List.all_eq_true.mp dsX12_goesOn_3_ok (452, (.aload_n 0, 1)) (List.mem_of_getElem? (i := 51) rfl))
theorem dX12_goesOn_453 : decode cX12_goesOn 453 = .ok (.bipush 44, 2) := of_decide_eq_true (List.all_eq_true.mp dsX12_goesOn_3_ok (453, (.bipush 44, 2)) (List.mem_of_getElem? (i := 52) rfl))
theorem dX12_goesOn_455 : decode cX12_goesOn 455 = .ok (.invokevirtual 247, 3) := of_decide_eq_true (List.all_eq_true.mp dsX12_goesOn_3_ok (455, (.invokevirtual 247, 3)) (List.mem_of_getElem? (i := 53) rfl))
theorem dX12_goesOn_458 : decode cX12_goesOn 458 = .ok (.ifCond .ne 12, 3) := of_decide_eq_true (List.all_eq_true.mp dsX12_goesOn_3_ok (458, (.ifCond .ne 12, 3)) (List.mem_of_getElem? (i := 54) rfl))
theorem dX12_goesOn_461 : decode cX12_goesOn 461 = .ok (.aload_n 0, 1) := of_decide_eq_true (List.all_eq_true.mp dsX12_goesOn_3_ok (461, (.aload_n 0, 1)) (List.mem_of_getElem? (i := 55) rfl))
theorem dX12_goesOn_462 : decode cX12_goesOn 462 = .ok (.iconst 1, 1) := of_decide_eq_true (List.all_eq_true.mp dsX12_goesOn_3_ok (462, (.iconst 1, 1)) (List.mem_of_getElem? (i := 56) rfl))
theorem dX12_goesOn_463 : decode cX12_goesOn 463 = .ok (.aload_n 0, 1) := of_decide_eq_true (List.all_eq_true.mp dsX12_goesOn_3_ok (463, (.aload_n 0, 1)) (List.mem_of_getElem? (i := 57) rfl))
theorem dX12_goesOn_464 : decode cX12_goesOn 464 = .ok (.getfield 23, 3) := of_decide_eq_true (List.all_eq_true.mp dsX12_goesOn_3_ok (464, (.getfield 23, 3)) (List.mem_of_getElem? (i := 58) rfl))
theorem dX12_goesOn_467 : decode cX12_goesOn 467 = .ok (.invokevirtual 233, 3) := of_decide_eq_true (List.all_eq_true.mp dsX12_goesOn_3_ok (467, (.invokevirtual 233, 3)) (List.mem_of_getElem? (i := 59) rfl))
def dsX12_goesOn_4 : List (Nat × Instr × Nat) := [(470, (.aload_n 0, 1)), (471, (.getfield 36, 3)), (474, (.ifCond .le 5, 3)), (477, (.iconst 0, 1)), (478, (.ireturn, 1)), (479, (.aload_n 0, 1)), (480, (.iconst 1, 1)), (481, (.invokevirtual 327, 3)), (484, (.aload_n 0, 1)), (485, (.getfield 112, 3)), (488, (.iload_n 1, 1)), (489, (.iload_n 2, 1)), (490, (.iconst 3, 1)), (491, (.if_icmp .ne 7, 3)), (494, (.iconst 4, 1)), (495, (.goto 4, 3)), (498, (.iconst 3, 1)), (499, (.iastore, 1)), (500, (.aload_n 0, 1)), (501, (.getfield 115, 3)), (504, (.iload_n 1, 1)), (505, (.iconst 0, 1)), (506, (.iastore, 1)), (507, (.aload_n 0, 1)), (508, (.invokevirtual 250, 3)), (511, (.aload_n 0, 1)), (512, (.iconst 0, 1)), (513, (.putfield 140, 3)), (516, (.iconst 1, 1)), (517, (.ireturn, 1)), (518, (.aload_n 0, 1)), (519, (.iload_n 2, 1)), (520, (.iconst 5, 1)), (521, (.if_icmp .ne 8, 3)), (524, (.bipush 93, 2)), (526, (.goto 5, 3)), (529, (.bipush 41, 2)), (531, (.invokevirtual 247, 3)), (534, (.ifCond .ne 12, 3)), (537, (.aload_n 0, 1)), (538, (.iconst 1, 1)), (539, (.aload_n 0, 1)), (540, (.getfield 23, 3)), (543, (.invokevirtual 233, 3)), (546, (.aload_n 0, 1)), (547, (.getfield 36, 3)), (550, (.ifCond .le 5, 3)), (553, (.iconst 0, 1)), (554, (.ireturn, 1)), (555, (.aload_n 0, 1)), (556, (.iconst 1, 1)), (557, (.invokevirtual 327, 3)), (560, (.aload_n 0, 1)), (561, (.dup, 1)), (562, (.getfield 128, 3)), (565, (.iconst 1, 1)), (566, (.isub, 1)), (567, (.putfield 128, 3)), (570, (.aload_n 0, 1)), (571, (.dup, 1))]
theorem dsX12_goesOn_4_ok : (dsX12_goesOn_4.all fun q => decide (decode cX12_goesOn q.1 = .ok q.2)) = true := by decide +kernel
theorem dX12_goesOn_470 : decode cX12_goesOn 470 = .ok (.aload_n 0, 1) := of_decide_eq_true (List.all_eq_true.mp dsX12_goesOn_4_ok (470, (.aload_n 0, 1)) (List.mem_of_getElem? (i := 0) rfl))
theorem dX12_goesOn_471 : decode cX12_goesOn 471 = .ok (.getfield 36, 3) := of_decide_eq_true (List.all_eq_true.mp dsX12_goesOn_4_ok (471, (.getfield 36, 3)) (List.mem_of_getElem? (i := 1) rfl))
theorem dX12_goesOn_474 : decode cX12_goesOn 474 = .ok (.ifCond .le 5, 3) := of_decide_eq_true (List.all_eq_true.mp dsX12_goesOn_4_ok (474, (.ifCond .le 5, 3)) (List.mem_of_getElem? (i := 2) rfl))
theorem dX12_goesOn_477 : decode cX12_goesOn 477 = .ok (.iconst 0, 1) := of_decide_eq_true (List.all_eq_true.mp dsX12_goesOn_4_ok (477, (.iconst 0, 1)) (List.mem_of_getElem? (i := 3) rfl))
theorem dX12_goesOn_478 : decode cX12_goesOn 478 = .ok (.ireturn, 1) := of_decide_eq_true (List.all_eq_true.mp dsX12_goesOn_4_ok (478, (.ireturn, 1)) (List.mem_of_getElem? (i := 4) rfl))
theorem dX12_goesOn_479 : decode cX12_goesOn 479 = .ok (.aload_n 0, 1) := of_decide_eq_true (List.all_eq_true.mp dsX12_goesOn_4_ok (479, (.aload_n 0, 1)) (List.mem_of_getElem? (i := 5) rfl))
theorem dX12_goesOn_480 : decode cX12_goesOn 480 = .ok (.iconst 1, 1) := of_decide_eq_true (List.all_eq_true.mp dsX12_goesOn_4_ok (480, (.iconst 1, 1)) (List.mem_of_getElem? (i := 6) rfl))
theorem dX12_goesOn_481 : decode cX12_goesOn 481 = .ok (.invokevirtual 327, 3) := of_decide_eq_true (List.all_eq_true.mp dsX12_goesOn_4_ok (481, (.invokevirtual 327, 3)) (List.mem_of_getElem? (i := 7) rfl))
theorem dX12_goesOn_484 : decode cX12_goesOn 484 = .ok (.aload_n 0, 1) := of_decide_eq_true (List.all_eq_true.mp dsX12_goesOn_4_ok (484, (.aload_n 0, 1)) (List.mem_of_getElem? (i := 8) rfl))
theorem dX12_goesOn_485 : decode cX12_goesOn 485 = .ok (.getfield 112, 3) := of_decide_eq_true (List.all_eq_true.mp dsX12_goesOn_4_ok (485, (.getfield 112, 3)) (List.mem_of_getElem? (i := 9) rfl))
theorem dX12_goesOn_488 : decode cX12_goesOn 488 = .ok (.iload_n 1, 1) := of_decide_eq_true (List.all_eq_true.mp dsX12_goesOn_4_ok (488, (.iload_n 1, 1)) (List.mem_of_getElem? (i := 10) rfl))
theorem dX12_goesOn_489 : decode cX12_goesOn 489 = .ok (.iload_n 2, 1) := of_decide_eq_true (List.all_eq_true.mp dsX12_goesOn_4_ok (489, (.iload_n 2, 1)) (List.mem_of_getElem? (i := 11) rfl))
theorem dX12_goesOn_490 : decode cX12_goesOn 490 = .ok (.iconst 3, 1) := of_decide_eq_true (List.all_eq_true.mp dsX12_goesOn_4_ok (490, (.iconst 3, 1)) (List.mem_of_getElem? (i := 12) rfl))
theorem dX12_goesOn_491 : decode cX12_goesOn 491 = .ok (.if_icmp .ne 7, 3) := of_decide_eq_true (List.all_eq_true.mp dsX12_goesOn_4_ok (491, (.if_icmp .ne 7, 3)) (List.mem_of_getElem? (i := 13) rfl))
theorem dX12_goesOn_494 : decode cX12_goesOn 494 = .ok (.iconst 4, 1) := of_decide_eq_true (List.all_eq_true.mp dsX12_goesOn_4_ok (494, (.iconst 4, 1)) (List.mem_of_getElem? (i := 14) rfl))
theorem dX12_goesOn_495 : decode cX12_goesOn 495 = .ok (.goto 4, 3) := of_decide_eq_true (List.all_eq_true.mp dsX12_goesOn_4_ok (495, (.goto 4, 3)) (List.mem_of_getElem? (i := 15) rfl))
theorem dX12_goesOn_498 : decode cX12_goesOn 498 = .ok (.iconst 3, 1) := of_decide_eq_true (List.all_eq_true.mp dsX12_goesOn_4_ok (498, (.iconst 3, 1)) (List.mem_of_getElem? (i := 16) rfl))
theorem dX12_goesOn_499 : decode cX12_goesOn 499 = .ok (.iastore, 1) := of_decide_eq_true (List.all_eq_true.mp dsX12_goesOn_4_ok (499, (.iastore, 1)) (List.mem_of_getElem? (i := 17) rfl))
theorem dX12_goesOn_500 : decode cX12_goesOn 500 = .ok (.aload_n 0, 1) := of_decide_eq_true (List.all_eq_true.mp dsX12_goesOn_4_ok (500, (.aload_n 0, 1)) (List.mem_of_getElem? (i := 18) rfl))
theorem dX12_goesOn_501 : decode cX12_goesOn 501 = .ok (.getfield 115, 3) := of_decide_eq_true (List.all_eq_true.mp dsX12_goesOn_4_ok (501, (.getfield 115, 3)) (List.mem_of_getElem? (i := 19) rfl))
theorem dX12_goesOn_504 : decode cX12_goesOn 504 = .ok (.iload_n 1, 1) := of_decide_eq_true (List.all_eq_true.mp dsX12_goesOn_4_ok (504, (.iload_n 1, 1)) (List.mem_of_getElem? (i := 20) rfl))
theorem dX12_goesOn_505 : decode cX12_goesOn 505 = .ok (.iconst 0, 1) := of_decide_eq_true (List.all_eq_true.mp dsX12_goesOn_4_ok (505, (.iconst 0, 1)) (List.mem_of_getElem? (i := 21) rfl))
theorem dX12_goesOn_506 : decode cX12_goesOn 506 = .ok (.iastore, 1) := of_decide_eq_true (List.all_eq_true.mp dsX12_goesOn_4_ok (506, (.iastore, 1)) (List.mem_of_getElem? (i := 22) rfl))
theorem dX12_goesOn_507 : decode cX12_goesOn 507 = .ok (.aload_n 0, 1) := of_decide_eq_true (List.all_eq_true.mp dsX12_goesOn_4_ok (507, (.aload_n 0, 1)) (List.mem_of_getElem? (i := 23) rfl))
theorem dX12_goesOn_508 : decode cX12_goesOn 508 = .ok (.invokevirtual 250, 3) := of_decide_eq_true (List.all_eq_true.mp dsX12_goesOn_4_ok (508, (.invokevirtual 250, 3)) (List.mem_of_getElem? (i := 24) rfl))
theorem dX12_goesOn_511 : decode cX12_goesOn 511 = .ok (.aload_n 0, 1) := of_decide_eq_true (List.all_eq_true.mp dsX12_goesOn_4_ok (511, (.aload_n 0, 1)) (List.mem_of_getElem? (i := 25) rfl))
theorem dX12_goesOn_512 : decode cX12_goesOn 512 = .ok (.iconst 0, 1) := of_decide_eq_true (List.all_eq_true.mp dsX12_goesOn_4_ok (512, (.iconst 0, 1)) (List.mem_of_getElem? (i := 26) rfl))
theorem dX12_goesOn_513 : decode cX12_goesOn 513 = .ok (.putfield 140, 3) := of_decide_eq_true (List.all_eq_true.mp dsX12_goesOn_4_ok (513, (.putfield 140, 3)) (List.mem_of_getElem? (i := 27) rfl))
theorem dX12_goesOn_516 : decode cX12_goesOn 516 = .ok (.iconst 1, 1) := of_decide_eq_true (List.all_eq_true.mp dsX12_goesOn_4_ok (516, (.iconst 1, 1)) (List.mem_of_getElem? (i := 28) rfl))
theorem dX12_goesOn_517 : decode cX12_goesOn 517 = .ok (.ireturn, 1) := of_decide_eq_true (List.all_eq_true.mp dsX12_goesOn_4_ok (517, (.ireturn, 1)) (List.mem_of_getElem? (i := 29) rfl))
theorem dX12_goesOn_518 : decode cX12_goesOn 518 = .ok (.aload_n 0, 1) := of_decide_eq_true (List.all_eq_true.mp dsX12_goesOn_4_ok (518, (.aload_n 0, 1)) (List.mem_of_getElem? (i := 30) rfl))
theorem dX12_goesOn_519 : decode cX12_goesOn 519 = .ok (.iload_n 2, 1) := of_decide_eq_true (List.all_eq_true.mp dsX12_goesOn_4_ok (519, (.iload_n 2, 1)) (List.mem_of_getElem? (i := 31) rfl))
theorem dX12_goesOn_520 : decode cX12_goesOn 520 = .ok (.iconst 5, 1) := of_decide_eq_true (List.all_eq_true.mp dsX12_goesOn_4_ok (520, (.iconst 5, 1)) (List.mem_of_getElem? (i := 32) rfl))
theorem dX12_goesOn_521 : decode cX12_goesOn 521 = .ok (.if_icmp .ne 8, 3) := of_decide_eq_true (List.all_eq_true.mp dsX12_goesOn_4_ok (521, (.if_icmp .ne 8, 3)) (List.mem_of_getElem? (i := 33) rfl))
theorem dX12_goesOn_524 : decode cX12_goesOn 524 = .ok (.bipush 93, 2) := of_decide_eq_true (List.all_eq_true.mp dsX12_goesOn_4_ok (524, (.bipush 93, 2)) (List.mem_of_getElem? (i := 34) rfl))
theorem dX12_goesOn_526 : decode cX12_goesOn 526 = .ok (.goto 5, 3) := of_decide_eq_true (List.all_eq_true.mp dsX12_goesOn_4_ok (526, (.goto 5, 3)) (List.mem_of_getElem? (i := 35) rfl))
theorem dX12_goesOn_529 : decode cX12_goesOn 529 = .ok (.bipush 41, 2) := of_decide_eq_true (List.all_eq_true.mp dsX12_goesOn_4_ok (529, (.bipush 41, 2)) (List.mem_of_getElem? (i := 36) rfl))
theorem dX12_goesOn_531 : decode cX12_goesOn 531 = .ok (.invokevirtual 247, 3) := of_decide_eq_true (List.all_eq_true.mp dsX12_goesOn_4_ok (531, (.invokevirtual 247, 3)) (List.mem_of_getElem? (i := 37) rfl))
theorem dX12_goesOn_534 : decode cX12_goesOn 534 = .ok (.ifCond .ne 12, 3) := of_decide_eq_true (List.all_eq_true.mp dsX12_goesOn_4_ok (534, (.ifCond .ne 12, 3)) (List.mem_of_getElem? (i := 38) rfl))
theorem dX12_goesOn_537 : decode cX12_goesOn 537 = .ok (.aload_n 0, 1) := of_decide_eq_true (List.all_eq_true.mp dsX12_goesOn_4_ok (537, (.aload_n 0, 1)) (List.mem_of_getElem? (i := 39) rfl))
theorem dX12_goesOn_538 : decode cX12_goesOn 538 = .ok (.iconst 1, 1) := of_decide_eq_true (List.all_eq_true.mp dsX12_goesOn_4_ok (538, (.iconst 1, 1)) (List.mem_of_getElem? (i := 40) rfl))
theorem dX12_goesOn_539 : decode cX12_goesOn 539 = .ok (.aload_n 0, 1) := of_decide_eq_true (List.all_eq_true.mp dsX12_goesOn_4_ok (539, (.aload_n 0, 1)) (List.mem_of_getElem? (i := 41) rfl))
theorem dX12_goesOn_540 : decode cX12_goesOn 540 = .ok (.getfield 23, 3) := of_decide_eq_true (List.all_eq_true.mp dsX12_goesOn_4_ok (540, (.getfield 23, 3)) (List.mem_of_getElem? (i := 42) rfl))
theorem dX12_goesOn_543 : decode cX12_goesOn 543 = .ok (.invokevirtual 233, 3) := of_decide_eq_true (List.all_eq_true.mp dsX12_goesOn_4_ok (543, (.invokevirtual 233, 3)) (List.mem_of_getElem? (i := 43) rfl))
theorem dX12_goesOn_546 : decode cX12_goesOn 546 = .ok (.aload_n 0, 1) := of_decide_eq_true (List.all_eq_true.mp dsX12_goesOn_4_ok (546, (.aload_n 0, 1)) (List.mem_of_getElem? (i := 44) rfl))
theorem dX12_goesOn_547 : decode cX12_goesOn 547 = .ok (.getfield 36, 3) := of_decide_eq_true (List.all_eq_true.mp dsX12_goesOn_4_ok (547, (.getfield 36, 3)) (List.mem_of_getElem? (i := 45) rfl))
theorem dX12_goesOn_550 : decode cX12_goesOn 550 = .ok (.ifCond .le 5, 3) := of_decide_eq_true (List.all_eq_true.mp dsX12_goesOn_4_ok (550, (.ifCond .le 5, 3)) (List.mem_of_getElem? (i := 46) rfl))
theorem dX12_goesOn_553 : decode cX12_goesOn 553 = .ok (.iconst 0, 1) := of_decide_eq_true (List.all_eq_true.mp dsX12_goesOn_4_ok (553, (.iconst 0, 1)) (List.mem_of_getElem? (i := 47) rfl))
theorem dX12_goesOn_554 : decode cX12_goesOn 554 = .ok (.ireturn, 1) := of_decide_eq_true (List.all_eq_true.mp dsX12_goesOn_4_ok (554, (.ireturn, 1)) (List.mem_of_getElem? (i := 48) rfl))
theorem dX12_goesOn_555 : decode cX12_goesOn 555 = .ok (.aload_n 0, 1) := of_decide_eq_true (List.all_eq_true.mp dsX12_goesOn_4_ok (555, (.aload_n 0, 1)) (List.mem_of_getElem? (i := 49) rfl))
theorem dX12_goesOn_556 : decode cX12_goesOn 556 = .ok (.iconst 1, 1) := of_decide_eq_true (List.all_eq_true.mp dsX12_goesOn_4_ok (556, (.iconst 1, 1)) (List.mem_of_getElem? (i := 50) rfl))
theorem dX12_goesOn_557 : decode cX12_goesOn 557 = .ok (.invokevirtual 327, 3) := of_decide_eq_true (List.all_eq_true.mp dsX12_goesOn_4_ok (557, (.invokevirtual 327, 3)) (List.mem_of_getElem? (i := 51) rfl))
theorem dX12_goesOn_560 : decode cX12_goesOn 560 = .ok (.aload_n 0, 1) := of_decide_eq_true (List.all_eq_true.mp dsX12_goesOn_4_ok (560, (.aload_n 0, 1)) (List.mem_of_getElem? (i := 52) rfl))
theorem dX12_goesOn_561 : decode cX12_goesOn 561 = .ok (.dup, 1) := of_decide_eq_true (List.all_eq_true.mp dsX12_goesOn_4_ok (561, (.dup, 1)) (List.mem_of_getElem? (i := 53) rfl))
theorem dX12_goesOn_562 : decode cX12_goesOn 562 = .ok (.getfield 128, 3) := of_decide_eq_true (List.all_eq_true.mp dsX12_goesOn_4_ok (562, (.getfield 128, 3)) (List.mem_of_getElem? (i := 54) rfl))
theorem dX12_goesOn_565 : decode cX12_goesOn 565 = .ok (.iconst 1, 1) := of_decide_eq_true (List.all_eq_true.mp dsX12_goesOn_4_ok (565, (.iconst 1, 1)) (List.mem_of_getElem? (i := 55) rfl))
theorem dX12_goesOn_566 : decode cX12_goesOn 566 = .ok (.isub, 1) := of_decide_eq_true (List.all_eq_true.mp dsX12_goesOn_4_ok (566, (.isub, 1)) (List.mem_of_getElem? (i := 56) rfl))
theorem dX12_goesOn_567 : decode cX12_goesOn 567 = .ok (.putfield 128, 3) := of_decide_eq_true (List.all_eq_true.mp dsX12_goesOn_4_ok (567, (.putfield 128, 3)) (List.mem_of_getElem? (i := 57) rfl))
theorem dX12_goesOn_570 : decode cX12_goesOn 570 = .ok (.aload_n 0, 1) := of_decide_eq_true (List.all_eq_true.mp dsX12_goesOn_4_ok (570, (.aload_n 0, 1)) (List.mem_of_getElem? (i := 58) rfl))
theorem dX12_goesOn_571 : decode cX12_goesOn 571 = .ok (.dup, 1) := of_decide_eq_true (List.all_eq_true.mp dsX12_goesOn_4_ok (571, (.dup, 1)) (List.mem_of_getElem? (i := 59) rfl))
def dsX12_goesOn_5 : List (Nat × Instr × Nat) := [(572, (.getfield 131, 3)), (575, (.iconst 1, 1)), (576, (.isub, 1)), (577, (.putfield 131, 3)), (580, (.iload_n 2, 1)), (581, (.iconst 4, 1)), (582, (.if_icmp .ne 14, 3)), (585, (.aload_n 0, 1)), (586, (.aload_n 0, 1)), (587, (.getfield 122, 3)), (590, (.iload_n 1, 1)), (591, (.iaload, 1)), (592, (.iconst 0, 1)), (593, (.invokevirtual 308, 3)), (596, (.iload_n 2, 1)), (597, (.iconst 5, 1)), (598, (.if_icmp .ne 15, 3)), (601, (.aload_n 0, 1)), (602, (.getfield 115, 3)), (605, (.aload_n 0, 1)), (606, (.getfield 128, 3)), (609, (.iconst 1, 1)), (610, (.isub, 1)), (611, (.iconst 2, 1)), (612, (.iastore, 1)), (613, (.aload_n 0, 1)), (614, (.invokevirtual 250, 3)), (617, (.iconst 1, 1)), (618, (.ireturn, 1))]
theorem dsX12_goesOn_5_ok : (dsX12_goesOn_5.all fun q => decide (decode cX12_goesOn q.1 = .ok q.2)) = true := by decide +kernel
theorem dX12_goesOn_572 : decode cX12_goesOn 572 = .ok (.getfield 131, 3) := of_decide_eq_true (List.all_eq_true.mp dsX12_goesOn_5_ok (572, (.getfield 131, 3)) (List.mem_of_getElem? (i := 0) rfl))
theorem dX12_goesOn_575 : decode cX12_goesOn 575 = .ok (.iconst 1, 1) := of_decide_eq_true (List.all_eq_true.mp dsX12_goesOn_5_ok (575, (.iconst 1, 1)) (List.mem_of_getElem? (i := 1) rfl))
theorem dX12_goesOn_576 : decode cX12_goesOn 576 = .ok (.isub, 1) := of_decide_eq_true (List.all_eq_true.mp dsX12_goesOn_5_ok (576, (.isub, 1)) (List.mem_of_getElem? (i := 2) rfl))
theorem dX12_goesOn_577 : decode cX12_goesOn 577 = .ok (.putfield 131, 3) := of_decide_eq_true (List.all_eq_true.mp dsX12_goesOn_5_ok (577, (.putfield 131, 3)) (List.mem_of_getElem? (i := 3) rfl))
theorem dX12_goesOn_580 : decode cX12_goesOn 580 = .ok (.iload_n 2, 1) := of_decide_eq_true (List.all_eq_true.mp dsX12_goesOn_5_ok (580, (.iload_n 2, 1)) (List.mem_of_getElem? (i := 4) rfl))
theorem dX12_goesOn_581 : decode cX12_goesOn 581 = .ok (.iconst 4, 1) := of_decide_eq_true (List.all_eq_true.mp dsX12_goesOn_5_ok (581, (.iconst 4, 1)) (List.mem_of_getElem? (i := 5) rfl))
theorem dX12_goesOn_582 : decode cX12_goesOn 582 = .ok (.if_icmp .ne 14, 3) := of_decide_eq_true (List.all_eq_true.mp dsX12_goesOn_5_ok (582, (.if_icmp .ne 14, 3)) (List.mem_of_getElem? (i := 6) rfl))
theorem dX12_goesOn_585 : decode cX12_goesOn 585 = .ok (.aload_n 0, 1) := of_decide_eq_true (List.all_eq_true.mp dsX12_goesOn_5_ok (585, (.aload_n 0, 1)) (List.mem_of_getElem? (i := 7) rfl))
theorem dX12_goesOn_586 : decode cX12_goesOn 586 = .ok (.aload_n 0, 1) := of_decide_eq_true (List.all_eq_true.mp dsX12_goesOn_5_ok (586, (.aload_n 0, 1)) (List.mem_of_getElem? (i := 8) rfl))
theorem dX12_goesOn_587 : decode cX12_goesOn 587 = .ok (.getfield 122, 3) := of_decide_eq_true (List.all_eq_true.mp dsX12_goesOn_5_ok (587, (.getfield 122, 3)) (List.mem_of_getElem? (i := 9) rfl))
theorem dX12_goesOn_590 : decode cX12_goesOn 590 = .ok (.iload_n 1, 1) := of_decide_eq_true (List.all_eq_true.mp dsX12_goesOn_5_ok (590, (.iload_n 1, 1)) (List.mem_of_getElem? (i := 10) rfl))
theorem dX12_goesOn_591 : decode cX12_goesOn 591 = .ok (.iaload, 1) := of_decide_eq_true (List.all_eq_true.mp dsX12_goesOn_5_ok (591, (.iaload, 1)) (List.mem_of_getElem? (i := 11) rfl))
theorem dX12_goesOn_592 : decode cX12_goesOn 592 = .ok (.iconst 0, 1) := of_decide_eq_true (List.all_eq_true.mp dsX12_goesOn_5_ok (592, (.iconst 0, 1)) (List.mem_of_getElem? (i := 12) rfl))
theorem dX12_goesOn_593 : decode cX12_goesOn 593 = .ok (.invokevirtual 308, 3) := of_decide_eq_true (List.all_eq_true.mp dsX12_goesOn_5_ok (593, (.invokevirtual 308, 3)) (List.mem_of_getElem? (i := 13) rfl))
theorem dX12_goesOn_596 : decode cX12_goesOn 596 = .ok (.iload_n 2, 1) := of_decide_eq_true (List.all_eq_true.mp dsX12_goesOn_5_ok (596, (.iload_n 2, 1)) (List.mem_of_getElem? (i := 14) rfl))
theorem dX12_goesOn_597 : decode cX12_goesOn 597 = .ok (.iconst 5, 1) := of_decide_eq_true (List.all_eq_true.mp dsX12_goesOn_5_ok (597, (.iconst 5, 1)) (List.mem_of_getElem? (i := 15) rfl))
theorem dX12_goesOn_598 : decode cX12_goesOn 598 = .ok (.if_icmp .ne 15, 3) := of_decide_eq_true (List.all_eq_true.mp dsX12_goesOn_5_ok (598, (.if_icmp .ne 15, 3)) (List.mem_of_getElem? (i := 16) rfl))
theorem dX12_goesOn_601 : decode cX12_goesOn 601 = .ok (.aload_n 0, 1) := of_decide_eq_true (List.all_eq_true.mp dsX12_goesOn_5_ok (601, (.aload_n 0, 1)) (List.mem_of_getElem? (i := 17) rfl))
theorem dX12_goesOn_602 : decode cX12_goesOn 602 = .ok (.getfield 115, 3) := of_decide_eq_true (List.all_eq_true.mp dsX12_goesOn_5_ok (602, (.getfield 115, 3)) (List.mem_of_getElem? (i := 18) rfl))
theorem dX12_goesOn_605 : decode cX12_goesOn 605 = .ok (.aload_n 0, 1) := of_decide_eq_true (List.all_eq_true.mp dsX12_goesOn_5_ok (605, (.aload_n 0, 1)) (List.mem_of_getElem? (i := 19) rfl))
theorem dX12_goesOn_606 : decode cX12_goesOn 606 = .ok (.getfield 128, 3) := of_decide_eq_true (List.all_eq_true.mp dsX12_goesOn_5_ok (606, (.getfield 128, 3)) (List.mem_of_getElem? (i := 20) rfl))
theorem dX12_goesOn_609 : decode cX12_goesOn 609 = .ok (.iconst 1, 1) := of_decide_eq_true (List.all_eq_true.mp dsX12_goesOn_5_ok (609, (.iconst 1, 1)) (List.mem_of_getElem? (i := 21) rfl))
theorem dX12_goesOn_610 : decode cX12_goesOn 610 = .ok (.isub, 1) := of_decide_eq_true (List.all_eq_true.mp dsX12_goesOn_5_ok (610, (.isub, 1)) (List.mem_of_getElem? (i := 22) rfl))
theorem dX12_goesOn_611 : decode cX12_goesOn 611 = .ok (.iconst 2, 1) := of_decide_eq_true (List.all_eq_true.mp dsX12_goesOn_5_ok (611, (.iconst 2, 1)) (List.mem_of_getElem? (i := 23) rfl))
theorem dX12_goesOn_612 : decode cX12_goesOn 612 = .ok (.iastore, 1) := of_decide_eq_true (List.all_eq_true.mp dsX12_goesOn_5_ok (612, (.iastore, 1)) (List.mem_of_getElem? (i := 24) rfl))
theorem dX12_goesOn_613 : decode cX12_goesOn 613 = .ok (.aload_n 0, 1) := of_decide_eq_true (List.all_eq_true.mp dsX12_goesOn_5_ok (613, (.aload_n 0, 1)) (List.mem_of_getElem? (i := 25) rfl))
theorem dX12_goesOn_614 : decode cX12_goesOn 614 = .ok (.invokevirtual 250, 3) := of_decide_eq_true (List.all_eq_true.mp dsX12_goesOn_5_ok (614, (.invokevirtual 250, 3)) (List.mem_of_getElem? (i := 26) rfl))
theorem dX12_goesOn_617 : decode cX12_goesOn 617 = .ok (.iconst 1, 1) := of_decide_eq_true (List.all_eq_true.mp dsX12_goesOn_5_ok (617, (.iconst 1, 1)) (List.mem_of_getElem? (i := 27) rfl))
theorem dX12_goesOn_618 : decode cX12_goesOn 618 = .ok (.ireturn, 1) := of_decide_eq_true (List.all_eq_true.mp dsX12_goesOn_5_ok (618, (.ireturn, 1)) (List.mem_of_getElem? (i := 28) rfl))
def fX12_goesOn_b613 (N : Nat) (mm_baseF : Nat → Int32) (mm_tapeF : Nat → Int32) (mm_pairF : Nat → Int32)   : ((Nat → Int32) × (Nat → Int64) × (Nat → Int32) × (Nat → Int32) × (Nat → Int32) × (Nat → Int32) × (Nat → Int32) × (Nat → Int32)) → Option (Int32 × (Nat → Int32) × (Nat → Int64) × (Nat → Int32) × (Nat → Int32) × (Nat → Int32) × (Nat → Int32) × (Nat → Int32) × (Nat → Int32)) :=
  fun (mmI_613, mmJ_613, mm_frameF_613, mm_phaseF_613, mm_opsF_613, mm_codeSortF_613, mm_codeValueF_613, mm_beginsF_613) => (xq_bd (fX12_ahead N mmI_613 mmJ_613 mm_tapeF) fun (r_1_0, r_1_1) => some ((1, r_1_0, r_1_1, mm_frameF_613, mm_phaseF_613, mm_opsF_613, mm_codeSortF_613, mm_codeValueF_613, mm_beginsF_613)))
def fX12_goesOn_b596 (N : Nat) (mm_baseF : Nat → Int32) (mm_tapeF : Nat → Int32) (mm_pairF : Nat → Int32)   : ((Nat → Int32) × (Nat → Int64) × (Nat → Int32) × (Nat → Int32) × (Nat → Int32) × (Nat → Int32) × (Nat → Int32) × (Nat → Int32) × Int32) → Option (Int32 × (Nat → Int32) × (Nat → Int64) × (Nat → Int32) × (Nat → Int32) × (Nat → Int32) × (Nat → Int32) × (Nat → Int32) × (Nat → Int32)) :=
  fun (mmI_596, mmJ_596, mm_frameF_596, mm_phaseF_596, mm_opsF_596, mm_codeSortF_596, mm_codeValueF_596, mm_beginsF_596, x2_596) => (if x2_596 = 5 then (xq_bd (xq_ast 20 mm_phaseF_596 ((mmI_596 38) - 1) 2) fun g_3 => fX12_goesOn_b613 N mm_baseF mm_tapeF mm_pairF (mmI_596, mmJ_596, mm_frameF_596, g_3, mm_opsF_596, mm_codeSortF_596, mm_codeValueF_596, mm_beginsF_596)) else fX12_goesOn_b613 N mm_baseF mm_tapeF mm_pairF (mmI_596, mmJ_596, mm_frameF_596, mm_phaseF_596, mm_opsF_596, mm_codeSortF_596, mm_codeValueF_596, mm_beginsF_596))
def fX12_goesOn_b546 (N : Nat) (mm_baseF : Nat → Int32) (mm_tapeF : Nat → Int32) (mm_pairF : Nat → Int32)   : ((Nat → Int32) × (Nat → Int64) × (Nat → Int32) × (Nat → Int32) × (Nat → Int32) × (Nat → Int32) × (Nat → Int32) × (Nat → Int32) × Int32 × Int32) → Option (Int32 × (Nat → Int32) × (Nat → Int64) × (Nat → Int32) × (Nat → Int32) × (Nat → Int32) × (Nat → Int32) × (Nat → Int32) × (Nat → Int32)) :=
  fun (mmI_546, mmJ_546, mm_frameF_546, mm_phaseF_546, mm_opsF_546, mm_codeSortF_546, mm_codeValueF_546, mm_beginsF_546, x1_546, x2_546) => (if (mmI_546 8) ≤ 0 then (xq_bd (fX12_joins N mmI_546 mm_baseF mm_opsF_546 mm_codeSortF_546 mm_codeValueF_546 1) fun (r_4_0, r_4_1, r_4_2) => (if x2_546 = 4 then (xq_bd (xq_ald 20 mm_pairF x1_546) fun v_6 => (xq_bd (fX12_add N ((va_up (va_up r_4_0 38 ((r_4_0 38) - 1)) 39 ((r_4_0 39) - 1))) r_4_1 r_4_2 v_6 0) fun (r_7_0, r_7_1, r_7_2) => fX12_goesOn_b596 N mm_baseF mm_tapeF mm_pairF (r_7_0, mmJ_546, mm_frameF_546, mm_phaseF_546, mm_opsF_546, r_7_1, r_7_2, mm_beginsF_546, x2_546))) else fX12_goesOn_b596 N mm_baseF mm_tapeF mm_pairF ((va_up (va_up r_4_0 38 ((r_4_0 38) - 1)) 39 ((r_4_0 39) - 1)), mmJ_546, mm_frameF_546, mm_phaseF_546, mm_opsF_546, r_4_1, r_4_2, mm_beginsF_546, x2_546))) else some ((0, mmI_546, mmJ_546, mm_frameF_546, mm_phaseF_546, mm_opsF_546, mm_codeSortF_546, mm_codeValueF_546, mm_beginsF_546)))
def fX12_goesOn_b531 (N : Nat) (mm_baseF : Nat → Int32) (mm_tapeF : Nat → Int32) (mm_pairF : Nat → Int32)   : ((Nat → Int32) × (Nat → Int64) × (Nat → Int32) × (Nat → Int32) × (Nat → Int32) × (Nat → Int32) × (Nat → Int32) × (Nat → Int32) × Int32 × Int32 × Int32) → Option (Int32 × (Nat → Int32) × (Nat → Int64) × (Nat → Int32) × (Nat → Int32) × (Nat → Int32) × (Nat → Int32) × (Nat → Int32) × (Nat → Int32)) :=
  fun (mmI_531, mmJ_531, mm_frameF_531, mm_phaseF_531, mm_opsF_531, mm_codeSortF_531, mm_codeValueF_531, mm_beginsF_531, x1_531, x2_531, y1_531) => (xq_bd (fX12_isSign N mmI_531 y1_531) fun r_9 => (if r_9 = 0 then (xq_bd (fX12_blame N mmI_531 1 (mmI_531 4)) fun r_11 => fX12_goesOn_b546 N mm_baseF mm_tapeF mm_pairF (r_11, mmJ_531, mm_frameF_531, mm_phaseF_531, mm_opsF_531, mm_codeSortF_531, mm_codeValueF_531, mm_beginsF_531, x1_531, x2_531)) else fX12_goesOn_b546 N mm_baseF mm_tapeF mm_pairF (mmI_531, mmJ_531, mm_frameF_531, mm_phaseF_531, mm_opsF_531, mm_codeSortF_531, mm_codeValueF_531, mm_beginsF_531, x1_531, x2_531)))
def fX12_goesOn_b499 (N : Nat) (mm_baseF : Nat → Int32) (mm_tapeF : Nat → Int32) (mm_pairF : Nat → Int32)   : ((Nat → Int32) × (Nat → Int64) × (Nat → Int32) × (Nat → Int32) × (Nat → Int32) × (Nat → Int32) × (Nat → Int32) × (Nat → Int32) × Int32 × Int32 × Int32) → Option (Int32 × (Nat → Int32) × (Nat → Int64) × (Nat → Int32) × (Nat → Int32) × (Nat → Int32) × (Nat → Int32) × (Nat → Int32) × (Nat → Int32)) :=
  fun (mmI_499, mmJ_499, mm_frameF_499, mm_phaseF_499, mm_opsF_499, mm_codeSortF_499, mm_codeValueF_499, mm_beginsF_499, x1_499, y1_499, y2_499) => (xq_bd (xq_ast 20 mm_frameF_499 y1_499 y2_499) fun g_13 => (xq_bd (xq_ast 20 mm_phaseF_499 x1_499 0) fun g_14 => (xq_bd (fX12_ahead N mmI_499 mmJ_499 mm_tapeF) fun (r_15_0, r_15_1) => some ((1, (va_up r_15_0 42 0), r_15_1, g_13, g_14, mm_opsF_499, mm_codeSortF_499, mm_codeValueF_499, mm_beginsF_499)))))
def fX12_goesOn_b470 (N : Nat) (mm_baseF : Nat → Int32) (mm_tapeF : Nat → Int32) (mm_pairF : Nat → Int32)   : ((Nat → Int32) × (Nat → Int64) × (Nat → Int32) × (Nat → Int32) × (Nat → Int32) × (Nat → Int32) × (Nat → Int32) × (Nat → Int32) × Int32 × Int32) → Option (Int32 × (Nat → Int32) × (Nat → Int64) × (Nat → Int32) × (Nat → Int32) × (Nat → Int32) × (Nat → Int32) × (Nat → Int32) × (Nat → Int32)) :=
  fun (mmI_470, mmJ_470, mm_frameF_470, mm_phaseF_470, mm_opsF_470, mm_codeSortF_470, mm_codeValueF_470, mm_beginsF_470, x1_470, x2_470) => (if (mmI_470 8) ≤ 0 then (xq_bd (fX12_joins N mmI_470 mm_baseF mm_opsF_470 mm_codeSortF_470 mm_codeValueF_470 1) fun (r_17_0, r_17_1, r_17_2) => (if x2_470 = 3 then fX12_goesOn_b499 N mm_baseF mm_tapeF mm_pairF (r_17_0, mmJ_470, mm_frameF_470, mm_phaseF_470, mm_opsF_470, r_17_1, r_17_2, mm_beginsF_470, x1_470, x1_470, 4) else fX12_goesOn_b499 N mm_baseF mm_tapeF mm_pairF (r_17_0, mmJ_470, mm_frameF_470, mm_phaseF_470, mm_opsF_470, r_17_1, r_17_2, mm_beginsF_470, x1_470, x1_470, 3))) else some ((0, mmI_470, mmJ_470, mm_frameF_470, mm_phaseF_470, mm_opsF_470, mm_codeSortF_470, mm_codeValueF_470, mm_beginsF_470)))
def fX12_goesOn_b452 (N : Nat) (mm_baseF : Nat → Int32) (mm_tapeF : Nat → Int32) (mm_pairF : Nat → Int32)   : ((Nat → Int32) × (Nat → Int64) × (Nat → Int32) × (Nat → Int32) × (Nat → Int32) × (Nat → Int32) × (Nat → Int32) × (Nat → Int32) × Int32 × Int32) → Option (Int32 × (Nat → Int32) × (Nat → Int64) × (Nat → Int32) × (Nat → Int32) × (Nat → Int32) × (Nat → Int32) × (Nat → Int32) × (Nat → Int32)) :=
  fun (mmI_452, mmJ_452, mm_frameF_452, mm_phaseF_452, mm_opsF_452, mm_codeSortF_452, mm_codeValueF_452, mm_beginsF_452, x1_452, x2_452) => (xq_bd (fX12_isSign N mmI_452 44) fun r_19 => (if r_19 = 0 then (xq_bd (fX12_blame N mmI_452 1 (mmI_452 4)) fun r_21 => fX12_goesOn_b470 N mm_baseF mm_tapeF mm_pairF (r_21, mmJ_452, mm_frameF_452, mm_phaseF_452, mm_opsF_452, mm_codeSortF_452, mm_codeValueF_452, mm_beginsF_452, x1_452, x2_452)) else fX12_goesOn_b470 N mm_baseF mm_tapeF mm_pairF (mmI_452, mmJ_452, mm_frameF_452, mm_phaseF_452, mm_opsF_452, mm_codeSortF_452, mm_codeValueF_452, mm_beginsF_452, x1_452, x2_452)))
def fX12_goesOn_b422 (N : Nat) (mm_baseF : Nat → Int32) (mm_tapeF : Nat → Int32) (mm_pairF : Nat → Int32)   : ((Nat → Int32) × (Nat → Int64) × (Nat → Int32) × (Nat → Int32) × (Nat → Int32) × (Nat → Int32) × (Nat → Int32) × (Nat → Int32) × Int32 × Int32) → Option (Int32 × (Nat → Int32) × (Nat → Int64) × (Nat → Int32) × (Nat → Int32) × (Nat → Int32) × (Nat → Int32) × (Nat → Int32) × (Nat → Int32)) :=
  fun (mmI_422, mmJ_422, mm_frameF_422, mm_phaseF_422, mm_opsF_422, mm_codeSortF_422, mm_codeValueF_422, mm_beginsF_422, x1_422, x2_422) => (if 2 ≤ x2_422 then (if x2_422 = 3 then fX12_goesOn_b452 N mm_baseF mm_tapeF mm_pairF (mmI_422, mmJ_422, mm_frameF_422, mm_phaseF_422, mm_opsF_422, mm_codeSortF_422, mm_codeValueF_422, mm_beginsF_422, x1_422, x2_422) else (if x2_422 = 6 then fX12_goesOn_b452 N mm_baseF mm_tapeF mm_pairF (mmI_422, mmJ_422, mm_frameF_422, mm_phaseF_422, mm_opsF_422, mm_codeSortF_422, mm_codeValueF_422, mm_beginsF_422, x1_422, x2_422) else (if x2_422 = 5 then fX12_goesOn_b531 N mm_baseF mm_tapeF mm_pairF (mmI_422, mmJ_422, mm_frameF_422, mm_phaseF_422, mm_opsF_422, mm_codeSortF_422, mm_codeValueF_422, mm_beginsF_422, x1_422, x2_422, 93) else fX12_goesOn_b531 N mm_baseF mm_tapeF mm_pairF (mmI_422, mmJ_422, mm_frameF_422, mm_phaseF_422, mm_opsF_422, mm_codeSortF_422, mm_codeValueF_422, mm_beginsF_422, x1_422, x2_422, 41)))) else (if (mmI_422 8) = 0 then (xq_bd (fX12_joins N mmI_422 mm_baseF mm_opsF_422 mm_codeSortF_422 mm_codeValueF_422 1) fun (r_23_0, r_23_1, r_23_2) => some ((0, r_23_0, mmJ_422, mm_frameF_422, mm_phaseF_422, mm_opsF_422, r_23_1, r_23_2, mm_beginsF_422))) else some ((0, mmI_422, mmJ_422, mm_frameF_422, mm_phaseF_422, mm_opsF_422, mm_codeSortF_422, mm_codeValueF_422, mm_beginsF_422))))
def fX12_goesOn_b400 (N : Nat) (mm_baseF : Nat → Int32) (mm_tapeF : Nat → Int32) (mm_pairF : Nat → Int32)   : ((Nat → Int32) × (Nat → Int64) × (Nat → Int32) × (Nat → Int32) × (Nat → Int32) × (Nat → Int32) × (Nat → Int32) × (Nat → Int32) × Int32 × Int32 × Int32) → Option (Int32 × (Nat → Int32) × (Nat → Int64) × (Nat → Int32) × (Nat → Int32) × (Nat → Int32) × (Nat → Int32) × (Nat → Int32) × (Nat → Int32)) :=
  fun (mmI_400, mmJ_400, mm_frameF_400, mm_phaseF_400, mm_opsF_400, mm_codeSortF_400, mm_codeValueF_400, mm_beginsF_400, x1_400, x2_400, x3_400) => (if x3_400 = 0 then fX12_goesOn_b422 N mm_baseF mm_tapeF mm_pairF (mmI_400, mmJ_400, mm_frameF_400, mm_phaseF_400, mm_opsF_400, mm_codeSortF_400, mm_codeValueF_400, mm_beginsF_400, x1_400, x2_400) else (xq_bd (xq_ald 20 mm_phaseF_400 x1_400) fun v_25 => (if v_25 = 0 then (xq_bd (fX12_blame N mmI_400 1 (mmI_400 4)) fun r_26 => fX12_goesOn_b422 N mm_baseF mm_tapeF mm_pairF (r_26, mmJ_400, mm_frameF_400, mm_phaseF_400, mm_opsF_400, mm_codeSortF_400, mm_codeValueF_400, mm_beginsF_400, x1_400, x2_400)) else fX12_goesOn_b422 N mm_baseF mm_tapeF mm_pairF (mmI_400, mmJ_400, mm_frameF_400, mm_phaseF_400, mm_opsF_400, mm_codeSortF_400, mm_codeValueF_400, mm_beginsF_400, x1_400, x2_400))))
def fX12_goesOn_b372 (N : Nat) (mm_baseF : Nat → Int32) (mm_tapeF : Nat → Int32) (mm_pairF : Nat → Int32)   : ((Nat → Int32) × (Nat → Int64) × (Nat → Int32) × (Nat → Int32) × (Nat → Int32) × (Nat → Int32) × (Nat → Int32) × (Nat → Int32) × Int32 × Int32) → Option (Int32 × (Nat → Int32) × (Nat → Int64) × (Nat → Int32) × (Nat → Int32) × (Nat → Int32) × (Nat → Int32) × (Nat → Int32) × (Nat → Int32)) :=
  fun (mmI_372, mmJ_372, mm_frameF_372, mm_phaseF_372, mm_opsF_372, mm_codeSortF_372, mm_codeValueF_372, mm_beginsF_372, x1_372, y1_372) => (xq_bd (fX12_holdsBack N mmI_372 mm_opsF_372 y1_372) fun (r_28_0, r_28_1) => (xq_bd (xq_ast 20 mm_phaseF_372 x1_372 0) fun g_30 => (xq_bd (xq_ast 20 mm_beginsF_372 x1_372 (vp_nar .boolean 1)) fun g_31 => (xq_bd (fX12_ahead N r_28_0 mmJ_372 mm_tapeF) fun (r_32_0, r_32_1) => some ((1, (va_up r_32_0 42 0), r_32_1, mm_frameF_372, g_30, r_28_1, mm_codeSortF_372, mm_codeValueF_372, g_31))))))
def fX12_goesOn_b356 (N : Nat) (mm_baseF : Nat → Int32) (mm_tapeF : Nat → Int32) (mm_pairF : Nat → Int32)   : ((Nat → Int32) × (Nat → Int64) × (Nat → Int32) × (Nat → Int32) × (Nat → Int32) × (Nat → Int32) × (Nat → Int32) × (Nat → Int32) × Int32 × Int32 × Int32) → Option (Int32 × (Nat → Int32) × (Nat → Int64) × (Nat → Int32) × (Nat → Int32) × (Nat → Int32) × (Nat → Int32) × (Nat → Int32) × (Nat → Int32)) :=
  fun (mmI_356, mmJ_356, mm_frameF_356, mm_phaseF_356, mm_opsF_356, mm_codeSortF_356, mm_codeValueF_356, mm_beginsF_356, x1_356, x4_356, y1_356) => (xq_bd (fX12_joins N mmI_356 mm_baseF mm_opsF_356 mm_codeSortF_356 mm_codeValueF_356 y1_356) fun (r_34_0, r_34_1, r_34_2) => (if x4_356 = 0 then fX12_goesOn_b372 N mm_baseF mm_tapeF mm_pairF (r_34_0, mmJ_356, mm_frameF_356, mm_phaseF_356, mm_opsF_356, r_34_1, r_34_2, mm_beginsF_356, x1_356, 42) else fX12_goesOn_b372 N mm_baseF mm_tapeF mm_pairF (r_34_0, mmJ_356, mm_frameF_356, mm_phaseF_356, mm_opsF_356, r_34_1, r_34_2, mm_beginsF_356, x1_356, 41)))
def fX12_goesOn_b327 (N : Nat) (mm_baseF : Nat → Int32) (mm_tapeF : Nat → Int32) (mm_pairF : Nat → Int32)   : ((Nat → Int32) × (Nat → Int64) × (Nat → Int32) × (Nat → Int32) × (Nat → Int32) × (Nat → Int32) × (Nat → Int32) × (Nat → Int32) × Int32) → Option (Int32 × (Nat → Int32) × (Nat → Int64) × (Nat → Int32) × (Nat → Int32) × (Nat → Int32) × (Nat → Int32) × (Nat → Int32) × (Nat → Int32)) :=
  fun (mmI_327, mmJ_327, mm_frameF_327, mm_phaseF_327, mm_opsF_327, mm_codeSortF_327, mm_codeValueF_327, mm_beginsF_327, x1_327) => (if (mmI_327 8) ≤ 0 then (xq_bd (fX12_isWord N mmI_327 mmJ_327 6385252) fun r_36 => (if r_36 = 0 then fX12_goesOn_b356 N mm_baseF mm_tapeF mm_pairF (mmI_327, mmJ_327, mm_frameF_327, mm_phaseF_327, mm_opsF_327, mm_codeSortF_327, mm_codeValueF_327, mm_beginsF_327, x1_327, r_36, 1) else fX12_goesOn_b356 N mm_baseF mm_tapeF mm_pairF (mmI_327, mmJ_327, mm_frameF_327, mm_phaseF_327, mm_opsF_327, mm_codeSortF_327, mm_codeValueF_327, mm_beginsF_327, x1_327, r_36, 2))) else some ((0, mmI_327, mmJ_327, mm_frameF_327, mm_phaseF_327, mm_opsF_327, mm_codeSortF_327, mm_codeValueF_327, mm_beginsF_327)))
def fX12_goesOn_b309 (N : Nat) (mm_baseF : Nat → Int32) (mm_tapeF : Nat → Int32) (mm_pairF : Nat → Int32)   : ((Nat → Int32) × (Nat → Int64) × (Nat → Int32) × (Nat → Int32) × (Nat → Int32) × (Nat → Int32) × (Nat → Int32) × (Nat → Int32) × Int32) → Option (Int32 × (Nat → Int32) × (Nat → Int64) × (Nat → Int32) × (Nat → Int32) × (Nat → Int32) × (Nat → Int32) × (Nat → Int32) × (Nat → Int32)) :=
  fun (mmI_309, mmJ_309, mm_frameF_309, mm_phaseF_309, mm_opsF_309, mm_codeSortF_309, mm_codeValueF_309, mm_beginsF_309, x1_309) => (xq_bd (xq_ald 20 mm_phaseF_309 x1_309) fun v_38 => (if v_38 = 0 then (xq_bd (fX12_blame N mmI_309 1 (mmI_309 4)) fun r_39 => fX12_goesOn_b327 N mm_baseF mm_tapeF mm_pairF (r_39, mmJ_309, mm_frameF_309, mm_phaseF_309, mm_opsF_309, mm_codeSortF_309, mm_codeValueF_309, mm_beginsF_309, x1_309)) else fX12_goesOn_b327 N mm_baseF mm_tapeF mm_pairF (mmI_309, mmJ_309, mm_frameF_309, mm_phaseF_309, mm_opsF_309, mm_codeSortF_309, mm_codeValueF_309, mm_beginsF_309, x1_309)))
def fX12_goesOn_b285 (N : Nat) (mm_baseF : Nat → Int32) (mm_tapeF : Nat → Int32) (mm_pairF : Nat → Int32)   : ((Nat → Int32) × (Nat → Int64) × (Nat → Int32) × (Nat → Int32) × (Nat → Int32) × (Nat → Int32) × (Nat → Int32) × (Nat → Int32) × Int32 × Int32 × Int32) → Option (Int32 × (Nat → Int32) × (Nat → Int64) × (Nat → Int32) × (Nat → Int32) × (Nat → Int32) × (Nat → Int32) × (Nat → Int32) × (Nat → Int32)) :=
  fun (mmI_285, mmJ_285, mm_frameF_285, mm_phaseF_285, mm_opsF_285, mm_codeSortF_285, mm_codeValueF_285, mm_beginsF_285, x1_285, x2_285, x3_285) => (if x3_285 = 0 then fX12_goesOn_b400 N mm_baseF mm_tapeF mm_pairF (mmI_285, mmJ_285, mm_frameF_285, mm_phaseF_285, mm_opsF_285, mm_codeSortF_285, mm_codeValueF_285, mm_beginsF_285, x1_285, x2_285, x3_285) else (xq_bd (fX12_isWord N mmI_285 mmJ_285 6385252) fun r_41 => (if r_41 = 0 then (xq_bd (fX12_isWord N mmI_285 mmJ_285 28530) fun r_43 => (if r_43 = 0 then fX12_goesOn_b400 N mm_baseF mm_tapeF mm_pairF (mmI_285, mmJ_285, mm_frameF_285, mm_phaseF_285, mm_opsF_285, mm_codeSortF_285, mm_codeValueF_285, mm_beginsF_285, x1_285, x2_285, x3_285) else fX12_goesOn_b309 N mm_baseF mm_tapeF mm_pairF (mmI_285, mmJ_285, mm_frameF_285, mm_phaseF_285, mm_opsF_285, mm_codeSortF_285, mm_codeValueF_285, mm_beginsF_285, x1_285))) else fX12_goesOn_b309 N mm_baseF mm_tapeF mm_pairF (mmI_285, mmJ_285, mm_frameF_285, mm_phaseF_285, mm_opsF_285, mm_codeSortF_285, mm_codeValueF_285, mm_beginsF_285, x1_285))))
def fX12_goesOn_b264 (N : Nat) (mm_baseF : Nat → Int32) (mm_tapeF : Nat → Int32) (mm_pairF : Nat → Int32)   : ((Nat → Int32) × (Nat → Int64) × (Nat → Int32) × (Nat → Int32) × (Nat → Int32) × (Nat → Int32) × (Nat → Int32) × (Nat → Int32) × Int32 × Int32) → Option (Int32 × (Nat → Int32) × (Nat → Int64) × (Nat → Int32) × (Nat → Int32) × (Nat → Int32) × (Nat → Int32) × (Nat → Int32) × (Nat → Int32)) :=
  fun (mmI_264, mmJ_264, mm_frameF_264, mm_phaseF_264, mm_opsF_264, mm_codeSortF_264, mm_codeValueF_264, mm_beginsF_264, x1_264, y1_264) => (xq_bd (fX12_holdsBack N mmI_264 mm_opsF_264 y1_264) fun (r_45_0, r_45_1) => (xq_bd (xq_ast 20 mm_phaseF_264 x1_264 1) fun g_47 => (xq_bd (fX12_ahead N r_45_0 mmJ_264 mm_tapeF) fun (r_48_0, r_48_1) => some ((1, (va_up r_48_0 42 0), r_48_1, mm_frameF_264, g_47, r_45_1, mm_codeSortF_264, mm_codeValueF_264, mm_beginsF_264)))))
def fX12_goesOn_b228 (N : Nat) (mm_baseF : Nat → Int32) (mm_tapeF : Nat → Int32) (mm_pairF : Nat → Int32)   : ((Nat → Int32) × (Nat → Int64) × (Nat → Int32) × (Nat → Int32) × (Nat → Int32) × (Nat → Int32) × (Nat → Int32) × (Nat → Int32) × Int32) → Option (Int32 × (Nat → Int32) × (Nat → Int64) × (Nat → Int32) × (Nat → Int32) × (Nat → Int32) × (Nat → Int32) × (Nat → Int32) × (Nat → Int32)) :=
  fun (mmI_228, mmJ_228, mm_frameF_228, mm_phaseF_228, mm_opsF_228, mm_codeSortF_228, mm_codeValueF_228, mm_beginsF_228, x1_228) => (xq_bd (fX12_joins N mmI_228 mm_baseF mm_opsF_228 mm_codeSortF_228 mm_codeValueF_228 5) fun (r_50_0, r_50_1, r_50_2) => (xq_bd (fX12_isSign N r_50_0 60) fun r_52 => (if r_52 = 0 then (xq_bd (fX12_isSign N r_50_0 62) fun r_54 => (if r_54 = 0 then fX12_goesOn_b264 N mm_baseF mm_tapeF mm_pairF (r_50_0, mmJ_228, mm_frameF_228, mm_phaseF_228, mm_opsF_228, r_50_1, r_50_2, mm_beginsF_228, x1_228, 40) else fX12_goesOn_b264 N mm_baseF mm_tapeF mm_pairF (r_50_0, mmJ_228, mm_frameF_228, mm_phaseF_228, mm_opsF_228, r_50_1, r_50_2, mm_beginsF_228, x1_228, 39))) else fX12_goesOn_b264 N mm_baseF mm_tapeF mm_pairF (r_50_0, mmJ_228, mm_frameF_228, mm_phaseF_228, mm_opsF_228, r_50_1, r_50_2, mm_beginsF_228, x1_228, 38))))
def fX12_goesOn_b188 (N : Nat) (mm_baseF : Nat → Int32) (mm_tapeF : Nat → Int32) (mm_pairF : Nat → Int32)   : ((Nat → Int32) × (Nat → Int64) × (Nat → Int32) × (Nat → Int32) × (Nat → Int32) × (Nat → Int32) × (Nat → Int32) × (Nat → Int32) × Int32 × Int32 × Int32) → Option (Int32 × (Nat → Int32) × (Nat → Int64) × (Nat → Int32) × (Nat → Int32) × (Nat → Int32) × (Nat → Int32) × (Nat → Int32) × (Nat → Int32)) :=
  fun (mmI_188, mmJ_188, mm_frameF_188, mm_phaseF_188, mm_opsF_188, mm_codeSortF_188, mm_codeValueF_188, mm_beginsF_188, x1_188, x2_188, x3_188) => (if x3_188 = 0 then fX12_goesOn_b285 N mm_baseF mm_tapeF mm_pairF (mmI_188, mmJ_188, mm_frameF_188, mm_phaseF_188, mm_opsF_188, mm_codeSortF_188, mm_codeValueF_188, mm_beginsF_188, x1_188, x2_188, x3_188) else (xq_bd (xq_ald 20 mm_phaseF_188 x1_188) fun v_56 => (if v_56 = 0 then (xq_bd (fX12_isSign N mmI_188 60) fun r_57 => (if r_57 = 0 then (xq_bd (fX12_isSign N mmI_188 62) fun r_59 => (if r_59 = 0 then (xq_bd (fX12_isSign N mmI_188 61) fun r_61 => (if r_61 = 0 then fX12_goesOn_b285 N mm_baseF mm_tapeF mm_pairF (mmI_188, mmJ_188, mm_frameF_188, mm_phaseF_188, mm_opsF_188, mm_codeSortF_188, mm_codeValueF_188, mm_beginsF_188, x1_188, x2_188, x3_188) else fX12_goesOn_b228 N mm_baseF mm_tapeF mm_pairF (mmI_188, mmJ_188, mm_frameF_188, mm_phaseF_188, mm_opsF_188, mm_codeSortF_188, mm_codeValueF_188, mm_beginsF_188, x1_188))) else fX12_goesOn_b228 N mm_baseF mm_tapeF mm_pairF (mmI_188, mmJ_188, mm_frameF_188, mm_phaseF_188, mm_opsF_188, mm_codeSortF_188, mm_codeValueF_188, mm_beginsF_188, x1_188))) else fX12_goesOn_b228 N mm_baseF mm_tapeF mm_pairF (mmI_188, mmJ_188, mm_frameF_188, mm_phaseF_188, mm_opsF_188, mm_codeSortF_188, mm_codeValueF_188, mm_beginsF_188, x1_188))) else fX12_goesOn_b285 N mm_baseF mm_tapeF mm_pairF (mmI_188, mmJ_188, mm_frameF_188, mm_phaseF_188, mm_opsF_188, mm_codeSortF_188, mm_codeValueF_188, mm_beginsF_188, x1_188, x2_188, x3_188))))
def fX12_goesOn_b174 (N : Nat) (mm_baseF : Nat → Int32) (mm_tapeF : Nat → Int32) (mm_pairF : Nat → Int32)   : ((Nat → Int32) × (Nat → Int64) × (Nat → Int32) × (Nat → Int32) × (Nat → Int32) × (Nat → Int32) × (Nat → Int32) × (Nat → Int32) × Int32) → Option (Int32 × (Nat → Int32) × (Nat → Int64) × (Nat → Int32) × (Nat → Int32) × (Nat → Int32) × (Nat → Int32) × (Nat → Int32) × (Nat → Int32)) :=
  fun (mmI_174, mmJ_174, mm_frameF_174, mm_phaseF_174, mm_opsF_174, mm_codeSortF_174, mm_codeValueF_174, mm_beginsF_174, y1_174) => (xq_bd (fX12_holdsBack N mmI_174 mm_opsF_174 y1_174) fun (r_63_0, r_63_1) => (xq_bd (fX12_ahead N r_63_0 mmJ_174 mm_tapeF) fun (r_65_0, r_65_1) => some ((1, (va_up r_65_0 42 0), r_65_1, mm_frameF_174, mm_phaseF_174, r_63_1, mm_codeSortF_174, mm_codeValueF_174, mm_beginsF_174))))
def fX12_goesOn_b112 (N : Nat) (mm_baseF : Nat → Int32) (mm_tapeF : Nat → Int32) (mm_pairF : Nat → Int32)   : ((Nat → Int32) × (Nat → Int64) × (Nat → Int32) × (Nat → Int32) × (Nat → Int32) × (Nat → Int32) × (Nat → Int32) × (Nat → Int32) × Int32) → Option (Int32 × (Nat → Int32) × (Nat → Int64) × (Nat → Int32) × (Nat → Int32) × (Nat → Int32) × (Nat → Int32) × (Nat → Int32) × (Nat → Int32)) :=
  fun (mmI_112, mmJ_112, mm_frameF_112, mm_phaseF_112, mm_opsF_112, mm_codeSortF_112, mm_codeValueF_112, mm_beginsF_112, y1_112) => (xq_bd (fX12_joins N mmI_112 mm_baseF mm_opsF_112 mm_codeSortF_112 mm_codeValueF_112 y1_112) fun (r_67_0, r_67_1, r_67_2) => (xq_bd (fX12_isSign N r_67_0 43) fun r_69 => (if r_69 = 0 then (xq_bd (fX12_isSign N r_67_0 45) fun r_71 => (if r_71 = 0 then (xq_bd (fX12_isSign N r_67_0 42) fun r_73 => (if r_73 = 0 then (xq_bd (fX12_isSign N r_67_0 47) fun r_75 => (if r_75 = 0 then fX12_goesOn_b174 N mm_baseF mm_tapeF mm_pairF (r_67_0, mmJ_112, mm_frameF_112, mm_phaseF_112, mm_opsF_112, r_67_1, r_67_2, mm_beginsF_112, 35) else fX12_goesOn_b174 N mm_baseF mm_tapeF mm_pairF (r_67_0, mmJ_112, mm_frameF_112, mm_phaseF_112, mm_opsF_112, r_67_1, r_67_2, mm_beginsF_112, 34))) else fX12_goesOn_b174 N mm_baseF mm_tapeF mm_pairF (r_67_0, mmJ_112, mm_frameF_112, mm_phaseF_112, mm_opsF_112, r_67_1, r_67_2, mm_beginsF_112, 33))) else fX12_goesOn_b174 N mm_baseF mm_tapeF mm_pairF (r_67_0, mmJ_112, mm_frameF_112, mm_phaseF_112, mm_opsF_112, r_67_1, r_67_2, mm_beginsF_112, 32))) else fX12_goesOn_b174 N mm_baseF mm_tapeF mm_pairF (r_67_0, mmJ_112, mm_frameF_112, mm_phaseF_112, mm_opsF_112, r_67_1, r_67_2, mm_beginsF_112, 31))))
def fX12_goesOn_b106 (N : Nat) (mm_baseF : Nat → Int32) (mm_tapeF : Nat → Int32) (mm_pairF : Nat → Int32)   : ((Nat → Int32) × (Nat → Int64) × (Nat → Int32) × (Nat → Int32) × (Nat → Int32) × (Nat → Int32) × (Nat → Int32) × (Nat → Int32)) → Option (Int32 × (Nat → Int32) × (Nat → Int64) × (Nat → Int32) × (Nat → Int32) × (Nat → Int32) × (Nat → Int32) × (Nat → Int32) × (Nat → Int32)) :=
  fun (mmI_106, mmJ_106, mm_frameF_106, mm_phaseF_106, mm_opsF_106, mm_codeSortF_106, mm_codeValueF_106, mm_beginsF_106) => fX12_goesOn_b112 N mm_baseF mm_tapeF mm_pairF (mmI_106, mmJ_106, mm_frameF_106, mm_phaseF_106, mm_opsF_106, mm_codeSortF_106, mm_codeValueF_106, mm_beginsF_106, 5)
def fX12_goesOn_b87 (N : Nat) (mm_baseF : Nat → Int32) (mm_tapeF : Nat → Int32) (mm_pairF : Nat → Int32)   : ((Nat → Int32) × (Nat → Int64) × (Nat → Int32) × (Nat → Int32) × (Nat → Int32) × (Nat → Int32) × (Nat → Int32) × (Nat → Int32)) → Option (Int32 × (Nat → Int32) × (Nat → Int64) × (Nat → Int32) × (Nat → Int32) × (Nat → Int32) × (Nat → Int32) × (Nat → Int32) × (Nat → Int32)) :=
  fun (mmI_87, mmJ_87, mm_frameF_87, mm_phaseF_87, mm_opsF_87, mm_codeSortF_87, mm_codeValueF_87, mm_beginsF_87) => (xq_bd (fX12_isSign N mmI_87 43) fun r_77 => (if r_77 = 0 then (xq_bd (fX12_isSign N mmI_87 45) fun r_79 => (if r_79 = 0 then fX12_goesOn_b112 N mm_baseF mm_tapeF mm_pairF (mmI_87, mmJ_87, mm_frameF_87, mm_phaseF_87, mm_opsF_87, mm_codeSortF_87, mm_codeValueF_87, mm_beginsF_87, 6) else fX12_goesOn_b106 N mm_baseF mm_tapeF mm_pairF (mmI_87, mmJ_87, mm_frameF_87, mm_phaseF_87, mm_opsF_87, mm_codeSortF_87, mm_codeValueF_87, mm_beginsF_87))) else fX12_goesOn_b106 N mm_baseF mm_tapeF mm_pairF (mmI_87, mmJ_87, mm_frameF_87, mm_phaseF_87, mm_opsF_87, mm_codeSortF_87, mm_codeValueF_87, mm_beginsF_87)))
def fX12_goesOn (N : Nat) (mmI : Nat → Int32) (mmJ : Nat → Int64) (mm_frameF : Nat → Int32) (mm_phaseF : Nat → Int32) (mm_baseF : Nat → Int32) (mm_opsF : Nat → Int32) (mm_codeSortF : Nat → Int32) (mm_codeValueF : Nat → Int32) (mm_tapeF : Nat → Int32) (mm_beginsF : Nat → Int32) (mm_pairF : Nat → Int32)   : Option (Int32 × (Nat → Int32) × (Nat → Int64) × (Nat → Int32) × (Nat → Int32) × (Nat → Int32) × (Nat → Int32) × (Nat → Int32) × (Nat → Int32)) :=
  (xq_bd (fX12_lex N mmI) fun r_1 => (if (r_1 8) ≤ 0 then (xq_bd (xq_ald 20 mm_frameF ((r_1 38) - 1)) fun v_3 => (xq_bd (fX12_isTest N v_3) fun r_4 => (xq_bd (xq_ald 20 mm_phaseF ((r_1 38) - 1)) fun v_6 => (if 2 ≤ v_6 then fX12_goesOn_b188 N mm_baseF mm_tapeF mm_pairF (r_1, mmJ, mm_frameF, mm_phaseF, mm_opsF, mm_codeSortF, mm_codeValueF, mm_beginsF, (r_1 38) - 1, v_3, r_4) else (xq_bd (fX12_isSign N r_1 43) fun r_7 => (if r_7 = 0 then (xq_bd (fX12_isSign N r_1 45) fun r_9 => (if r_9 = 0 then (xq_bd (fX12_isSign N r_1 42) fun r_11 => (if r_11 = 0 then (xq_bd (fX12_isSign N r_1 47) fun r_13 => (if r_13 = 0 then (xq_bd (fX12_isSign N r_1 37) fun r_15 => (if r_15 = 0 then fX12_goesOn_b188 N mm_baseF mm_tapeF mm_pairF (r_1, mmJ, mm_frameF, mm_phaseF, mm_opsF, mm_codeSortF, mm_codeValueF, mm_beginsF, (r_1 38) - 1, v_3, r_4) else fX12_goesOn_b87 N mm_baseF mm_tapeF mm_pairF (r_1, mmJ, mm_frameF, mm_phaseF, mm_opsF, mm_codeSortF, mm_codeValueF, mm_beginsF))) else fX12_goesOn_b87 N mm_baseF mm_tapeF mm_pairF (r_1, mmJ, mm_frameF, mm_phaseF, mm_opsF, mm_codeSortF, mm_codeValueF, mm_beginsF))) else fX12_goesOn_b87 N mm_baseF mm_tapeF mm_pairF (r_1, mmJ, mm_frameF, mm_phaseF, mm_opsF, mm_codeSortF, mm_codeValueF, mm_beginsF))) else fX12_goesOn_b87 N mm_baseF mm_tapeF mm_pairF (r_1, mmJ, mm_frameF, mm_phaseF, mm_opsF, mm_codeSortF, mm_codeValueF, mm_beginsF))) else fX12_goesOn_b87 N mm_baseF mm_tapeF mm_pairF (r_1, mmJ, mm_frameF, mm_phaseF, mm_opsF, mm_codeSortF, mm_codeValueF, mm_beginsF))))))) else some ((0, r_1, mmJ, mm_frameF, mm_phaseF, mm_opsF, mm_codeSortF, mm_codeValueF, mm_beginsF))))
set_option maxHeartbeats 4000000 in
set_option maxRecDepth 100000 in
theorem kX12_goesOn (l : Launch) (dC : Nat → ClassId) (dI : Nat → Nat → Nat) (cI cB cJ cZ cM : ClassId) (z : Nat) (ad : Nat → Nat) (N : Nat) (a_p0 : Nat) (mmI : Nat → Int32) (mmJ : Nat → Int64) (mmR : Nat → Nat) (mm_frameF : Nat → Int32) (mm_phaseF : Nat → Int32) (mm_baseF : Nat → Int32) (mm_opsF : Nat → Int32) (mm_codeSortF : Nat → Int32) (mm_codeValueF : Nat → Int32) (mm_tapeF : Nat → Int32) (mm_beginsF : Nat → Int32) (mm_pairF : Nat → Int32) {r0 : Int32} {r1 : Nat → Int32} {r2 : Nat → Int64} {r3 : Nat → Int32} {r4 : Nat → Int32} {r5 : Nat → Int32} {r6 : Nat → Int32} {r7 : Nat → Int32} {r8 : Nat → Int32} (hf : fX12_goesOn N mmI mmJ mm_frameF mm_phaseF mm_baseF mm_opsF mm_codeSortF mm_codeValueF mm_tapeF mm_beginsF mm_pairF = some (r0, r1, r2, r3, r4, r5, r6, r7, r8)) : xq_Ct l yX12_goesOn wsX12_goesOn { frames := 2, cells := 0, slots := 0, locals := 45 } (dC, dI) vwCl (xq_tys cI cB cJ cZ cM) z ad [.ref a_p0] [(a_p0, .inr (12, oX12 mmI mmJ mmR)), ((mmR 33), .inl (cI, 20, .inl mm_frameF)), ((mmR 34), .inl (cI, 20, .inl mm_phaseF)), ((mmR 37), .inl (cI, 20, .inl mm_baseF)), ((mmR 40), .inl (cI, 500, .inl mm_opsF)), ((mmR 26), .inl (cI, 3200, .inl mm_codeSortF)), ((mmR 27), .inl (cI, 3200, .inl mm_codeValueF)), ((mmR 0), .inl (cI, 1800, .inl mm_tapeF)), ((mmR 35), .inl (cZ, 20, .inl mm_beginsF)), ((mmR 36), .inl (cI, 20, .inl mm_pairF))] [(a_p0, .inr (12, oX12 r1 r2 mmR)), ((mmR 33), .inl (cI, 20, .inl r3)), ((mmR 34), .inl (cI, 20, .inl r4)), ((mmR 37), .inl (cI, 20, .inl mm_baseF)), ((mmR 40), .inl (cI, 500, .inl r5)), ((mmR 26), .inl (cI, 3200, .inl r6)), ((mmR 27), .inl (cI, 3200, .inl r7)), ((mmR 0), .inl (cI, 1800, .inl mm_tapeF)), ((mmR 35), .inl (cZ, 20, .inl r8)), ((mmR 36), .inl (cI, 20, .inl mm_pairF))] (some (.int r0)) := by
  intro sz
  refine Met.ofW (cc := cX12_goesOn) (maxL := 5) (ret := (some .boolean)) (by decide) rfl ?_
  intro p e s m args below meth c s₁ B hml hv
  obtain ⟨rfl, hsz, hP, hK, hD0, hE, hz⟩ := hv
  have hx := B.exec
  have hb := B.bytes
  have hr := B.returns
  have hts := atoms_spec (ws := wsX12_goesOn) B.pre
  have hown : s.vm.findClass RX12 = some m.cls := findClass_of_methodNamed B.named
  have hlocks := B.notSynchronized
  subst hsz
  have hD := hD0.self (sz := s.heap.size)
  have hN := xq_Env.of hE hz hD0
  generalize hAe : va_A [(a_p0, .inr (12, oX12 mmI mmJ mmR)), ((mmR 33), .inl (cI, 20, .inl mm_frameF)), ((mmR 34), .inl (cI, 20, .inl mm_phaseF)), ((mmR 37), .inl (cI, 20, .inl mm_baseF)), ((mmR 40), .inl (cI, 500, .inl mm_opsF)), ((mmR 26), .inl (cI, 3200, .inl mm_codeSortF)), ((mmR 27), .inl (cI, 3200, .inl mm_codeValueF)), ((mmR 0), .inl (cI, 1800, .inl mm_tapeF)), ((mmR 35), .inl (cZ, 20, .inl mm_beginsF)), ((mmR 36), .inl (cI, 20, .inl mm_pairF))] s.heap.size = A at hD hN ⊢
  have hA : ∀ q : Nat, s.heap.size ≤ q → A q := fun q h => by rw [← hAe]; exact Or.inr h
  clear hAe hD0
  have hS : va_S A s.heap s.heap [] := va_S.rf
  have hl := lv_entry ([.ref a_p0]) (n := 5) (Nat.le_of_ble_eq_true rfl)
  rw [lg_entry_eq]
  generalize (lg_sl ([.ref a_p0]) ++ List.replicate (5 - (lg_sl ([.ref a_p0])).length) Slot.unset).toArray = ls at hl ⊢
  have hl : lv_has ls 5 [(0, .ref a_p0)] := hl
  have hw0 := hts (.fieldLink RX12 36 "DistantVoiceModel" "faultKind" "I") (by decide +kernel)
  have hinX12 : ∀ w ∈ wsX120, w ∈ wsX12_goesOn := fun w h => List.mem_cons_of_mem _ (List.mem_append_right _ h)
  have hw2 := hts (.fieldLink RX12 128 "DistantVoiceModel" "deep" "I") (by decide +kernel)
  have hw3 := hts (.fieldLink RX12 112 "DistantVoiceModel" "frame" "[I") (by decide +kernel)
  have hw4 := hts (.fieldLink RX12 115 "DistantVoiceModel" "phase" "[I") (by decide +kernel)
  have hw5 := hts (.fieldLink RX12 140 "DistantVoiceModel" "operand" "Z") (by decide +kernel)
  have hw6 := hts (.constantLong RX12 291 (6385252)) (by decide +kernel)
  have hw7 := hts (.constantLong RX12 289 (28530)) (by decide +kernel)
  have hw8 := hts (.fieldLink RX12 23 "DistantVoiceModel" "signAt" "I") (by decide +kernel)
  have hw9 := hts (.fieldLink RX12 118 "DistantVoiceModel" "begins" "[Z") (by decide +kernel)
  have hw10 := hts (.fieldLink RX12 131 "DistantVoiceModel" "open" "I") (by decide +kernel)
  have hw11 := hts (.fieldLink RX12 122 "DistantVoiceModel" "pair" "[I") (by decide +kernel)
  have b613 : ∀ (mmI_613 : Nat → Int32) (mmJ_613 : Nat → Int64) (mm_frameF_613 : Nat → Int32) (mm_phaseF_613 : Nat → Int32) (mm_opsF_613 : Nat → Int32) (mm_codeSortF_613 : Nat → Int32) (mm_codeValueF_613 : Nat → Int32) (mm_beginsF_613 : Nat → Int32) (ls : Array Slot) (H : Heap) (locs : List Loc), fX12_goesOn_b613 N mm_baseF mm_tapeF mm_pairF (mmI_613, mmJ_613, mm_frameF_613, mm_phaseF_613, mm_opsF_613, mm_codeSortF_613, mm_codeValueF_613, mm_beginsF_613) = some (r0, r1, r2, r3, r4, r5, r6, r7, r8) → va_P (dC, dI) vwCl [(a_p0, .inr (12, oX12 mmI_613 mmJ_613 mmR)), ((mmR 33), .inl (cI, 20, .inl mm_frameF_613)), ((mmR 34), .inl (cI, 20, .inl mm_phaseF_613)), ((mmR 37), .inl (cI, 20, .inl mm_baseF)), ((mmR 40), .inl (cI, 500, .inl mm_opsF_613)), ((mmR 26), .inl (cI, 3200, .inl mm_codeSortF_613)), ((mmR 27), .inl (cI, 3200, .inl mm_codeValueF_613)), ((mmR 0), .inl (cI, 1800, .inl mm_tapeF)), ((mmR 35), .inl (cZ, 20, .inl mm_beginsF_613)), ((mmR 36), .inl (cI, 20, .inl mm_pairF))] H → va_D A [(a_p0, .inr (12, oX12 mmI_613 mmJ_613 mmR)), ((mmR 33), .inl (cI, 20, .inl mm_frameF_613)), ((mmR 34), .inl (cI, 20, .inl mm_phaseF_613)), ((mmR 37), .inl (cI, 20, .inl mm_baseF)), ((mmR 40), .inl (cI, 500, .inl mm_opsF_613)), ((mmR 26), .inl (cI, 3200, .inl mm_codeSortF_613)), ((mmR 27), .inl (cI, 3200, .inl mm_codeValueF_613)), ((mmR 0), .inl (cI, 1800, .inl mm_tapeF)), ((mmR 35), .inl (cZ, 20, .inl mm_beginsF_613)), ((mmR 36), .inl (cI, 20, .inl mm_pairF))] → va_S A s.heap H locs → lv_has ls 5 [(0, .ref a_p0)] → W p l e (headSpec wsX12_goesOn { frames := 2, cells := 0, slots := 0, locals := 45 }).room s m [.ref a_p0].toArray below meth c H locs 0 0 (MQ below (xq_Q (dC, dI) vwCl (xq_tys cI cB cJ cZ cM) A [(a_p0, .inr (12, oX12 r1 r2 mmR)), ((mmR 33), .inl (cI, 20, .inl r3)), ((mmR 34), .inl (cI, 20, .inl r4)), ((mmR 37), .inl (cI, 20, .inl mm_baseF)), ((mmR 40), .inl (cI, 500, .inl r5)), ((mmR 26), .inl (cI, 3200, .inl r6)), ((mmR 27), .inl (cI, 3200, .inl r7)), ((mmR 0), .inl (cI, 1800, .inl mm_tapeF)), ((mmR 35), .inl (cZ, 20, .inl r8)), ((mmR 36), .inl (cI, 20, .inl mm_pairF))] (some (.int r0))) [.ref a_p0].toArray s 0 0 A) (F0 m 613 ls []) := by
    intro mmI_613 mmJ_613 mm_frameF_613 mm_phaseF_613 mm_opsF_613 mm_codeSortF_613 mm_codeValueF_613 mm_beginsF_613 ls H locs hf hP hD hS hl
    unfold fX12_goesOn_b613 at hf
    refine lv_aload_n hx hb dX12_goesOn_613 rfl (lv_at hl 0 rfl) ?_
    obtain ⟨⟨r_1_0, r_1_1⟩, h_2, hf⟩ := xq_bd_some hf
    refine xq_callV (As := []) (rest := []) (ci := 12) (q0 := 0) ⟨hx, hb, hml, hown, hts⟩ (kX12_ahead l dC dI cI cB cJ cZ cM z ad N a_p0 mmI_613 mmJ_613 mmR mm_tapeF h_2) (cwV 0 hts gX12_goesOn_X12_ahead rfl rfl rfl (by decide +kernel) ⟨Nat.le_of_ble_eq_true rfl, Nat.le_of_ble_eq_true rfl⟩) hN hK hP hD hS hA [0, 7] (by decide) rfl rfl rfl rfl rfl rfl hl.1 rfl (Nat.le_of_ble_eq_true rfl) dX12_goesOn_614 ⟨Nat.zero_le _, Nat.zero_le _⟩ (fun H locs hP hD hS => ?_)
    have hP : va_P (dC, dI) vwCl [(a_p0, .inr (12, oX12 r_1_0 r_1_1 mmR)), ((mmR 33), .inl (cI, 20, .inl mm_frameF_613)), ((mmR 34), .inl (cI, 20, .inl mm_phaseF_613)), ((mmR 37), .inl (cI, 20, .inl mm_baseF)), ((mmR 40), .inl (cI, 500, .inl mm_opsF_613)), ((mmR 26), .inl (cI, 3200, .inl mm_codeSortF_613)), ((mmR 27), .inl (cI, 3200, .inl mm_codeValueF_613)), ((mmR 0), .inl (cI, 1800, .inl mm_tapeF)), ((mmR 35), .inl (cZ, 20, .inl mm_beginsF_613)), ((mmR 36), .inl (cI, 20, .inl mm_pairF))] H := hP
    have hD : va_D A [(a_p0, .inr (12, oX12 r_1_0 r_1_1 mmR)), ((mmR 33), .inl (cI, 20, .inl mm_frameF_613)), ((mmR 34), .inl (cI, 20, .inl mm_phaseF_613)), ((mmR 37), .inl (cI, 20, .inl mm_baseF)), ((mmR 40), .inl (cI, 500, .inl mm_opsF_613)), ((mmR 26), .inl (cI, 3200, .inl mm_codeSortF_613)), ((mmR 27), .inl (cI, 3200, .inl mm_codeValueF_613)), ((mmR 0), .inl (cI, 1800, .inl mm_tapeF)), ((mmR 35), .inl (cZ, 20, .inl mm_beginsF_613)), ((mmR 36), .inl (cI, 20, .inl mm_pairF))] := hD
    refine W.eq (g2 := F0 m 617 ls []) rfl ?_
    refine lv_iconst (v := 1) hx hb dX12_goesOn_617 (by decide) ?_
    have e9 := Option.some.inj hf
    have e9_0 : 1 = r0 := congrArg (fun t => t.1) e9
    have e9_1 : r_1_0 = r1 := congrArg (fun t => t.2.1) e9
    have e9_2 : r_1_1 = r2 := congrArg (fun t => t.2.2.1) e9
    have e9_3 : mm_frameF_613 = r3 := congrArg (fun t => t.2.2.2.1) e9
    have e9_4 : mm_phaseF_613 = r4 := congrArg (fun t => t.2.2.2.2.1) e9
    have e9_5 : mm_opsF_613 = r5 := congrArg (fun t => t.2.2.2.2.2.1) e9
    have e9_6 : mm_codeSortF_613 = r6 := congrArg (fun t => t.2.2.2.2.2.2.1) e9
    have e9_7 : mm_codeValueF_613 = r7 := congrArg (fun t => t.2.2.2.2.2.2.2.1) e9
    have e9_8 : mm_beginsF_613 = r8 := congrArg (fun t => t.2.2.2.2.2.2.2.2) e9
    clear e9 hf
    try clear b106
    try clear b112
    try clear b174
    try clear b188
    try clear b228
    try clear b264
    try clear b285
    try clear b309
    try clear b327
    try clear b356
    try clear b372
    try clear b400
    try clear b422
    try clear b452
    try clear b470
    try clear b499
    try clear b531
    try clear b546
    try clear b596
    try clear b613
    try clear b87
    subst e9_0
    subst e9_1
    subst e9_2
    subst e9_3
    subst e9_4
    subst e9_5
    subst e9_6
    subst e9_7
    subst e9_8
    exact xq_zret hx hb hr (by decide +kernel) hlocks hK hP hD hS dX12_goesOn_618
  have b596 : ∀ (mmI_596 : Nat → Int32) (mmJ_596 : Nat → Int64) (mm_frameF_596 : Nat → Int32) (mm_phaseF_596 : Nat → Int32) (mm_opsF_596 : Nat → Int32) (mm_codeSortF_596 : Nat → Int32) (mm_codeValueF_596 : Nat → Int32) (mm_beginsF_596 : Nat → Int32) (x2_596 : Int32) (ls : Array Slot) (H : Heap) (locs : List Loc), fX12_goesOn_b596 N mm_baseF mm_tapeF mm_pairF (mmI_596, mmJ_596, mm_frameF_596, mm_phaseF_596, mm_opsF_596, mm_codeSortF_596, mm_codeValueF_596, mm_beginsF_596, x2_596) = some (r0, r1, r2, r3, r4, r5, r6, r7, r8) → va_P (dC, dI) vwCl [(a_p0, .inr (12, oX12 mmI_596 mmJ_596 mmR)), ((mmR 33), .inl (cI, 20, .inl mm_frameF_596)), ((mmR 34), .inl (cI, 20, .inl mm_phaseF_596)), ((mmR 37), .inl (cI, 20, .inl mm_baseF)), ((mmR 40), .inl (cI, 500, .inl mm_opsF_596)), ((mmR 26), .inl (cI, 3200, .inl mm_codeSortF_596)), ((mmR 27), .inl (cI, 3200, .inl mm_codeValueF_596)), ((mmR 0), .inl (cI, 1800, .inl mm_tapeF)), ((mmR 35), .inl (cZ, 20, .inl mm_beginsF_596)), ((mmR 36), .inl (cI, 20, .inl mm_pairF))] H → va_D A [(a_p0, .inr (12, oX12 mmI_596 mmJ_596 mmR)), ((mmR 33), .inl (cI, 20, .inl mm_frameF_596)), ((mmR 34), .inl (cI, 20, .inl mm_phaseF_596)), ((mmR 37), .inl (cI, 20, .inl mm_baseF)), ((mmR 40), .inl (cI, 500, .inl mm_opsF_596)), ((mmR 26), .inl (cI, 3200, .inl mm_codeSortF_596)), ((mmR 27), .inl (cI, 3200, .inl mm_codeValueF_596)), ((mmR 0), .inl (cI, 1800, .inl mm_tapeF)), ((mmR 35), .inl (cZ, 20, .inl mm_beginsF_596)), ((mmR 36), .inl (cI, 20, .inl mm_pairF))] → va_S A s.heap H locs → lv_has ls 5 [(0, .ref a_p0), (2, .int x2_596)] → W p l e (headSpec wsX12_goesOn { frames := 2, cells := 0, slots := 0, locals := 45 }).room s m [.ref a_p0].toArray below meth c H locs 0 0 (MQ below (xq_Q (dC, dI) vwCl (xq_tys cI cB cJ cZ cM) A [(a_p0, .inr (12, oX12 r1 r2 mmR)), ((mmR 33), .inl (cI, 20, .inl r3)), ((mmR 34), .inl (cI, 20, .inl r4)), ((mmR 37), .inl (cI, 20, .inl mm_baseF)), ((mmR 40), .inl (cI, 500, .inl r5)), ((mmR 26), .inl (cI, 3200, .inl r6)), ((mmR 27), .inl (cI, 3200, .inl r7)), ((mmR 0), .inl (cI, 1800, .inl mm_tapeF)), ((mmR 35), .inl (cZ, 20, .inl r8)), ((mmR 36), .inl (cI, 20, .inl mm_pairF))] (some (.int r0))) [.ref a_p0].toArray s 0 0 A) (F0 m 596 ls []) := by
    intro mmI_596 mmJ_596 mm_frameF_596 mm_phaseF_596 mm_opsF_596 mm_codeSortF_596 mm_codeValueF_596 mm_beginsF_596 x2_596 ls H locs hf hP hD hS hl
    unfold fX12_goesOn_b596 at hf
    refine lv_iload_n hx hb dX12_goesOn_596 rfl (lv_at hl 1 rfl) ?_
    refine lv_iconst (v := 5) hx hb dX12_goesOn_597 (by decide) ?_
    refine lv_icmp_ne (tgt := 613) hx hb dX12_goesOn_598 (by decide) (fun c_ => ?_) (fun c_ => ?_)
    · have hf := xq_neg hf c_
      exact b613 mmI_596 mmJ_596 mm_frameF_596 mm_phaseF_596 mm_opsF_596 mm_codeSortF_596 mm_codeValueF_596 mm_beginsF_596 _ _ _ hf hP hD hS (lv_sub hl [0] rfl)
    · have hf := xq_pos hf c_
      refine lv_aload_n hx hb dX12_goesOn_601 rfl (lv_at hl 0 rfl) ?_
      refine va_get (D := (dC, dI)) (ci := 12) (v := .ref ((mmR 34))) (C := RX12) (T := TX12) (N := 70) hx hb hts hinX12 hown hK hP 0 rfl rfl 34 (by decide) hw4 (fun _ h9 => h9) rfl dX12_goesOn_602 ?_
      refine lv_aload_n hx hb dX12_goesOn_605 rfl (lv_at hl 0 rfl) ?_
      refine va_get (D := (dC, dI)) (ci := 12) (v := .int (mmI_596 38)) (C := RX12) (T := TX12) (N := 70) hx hb hts hinX12 hown hK hP 0 rfl rfl 38 (by decide) hw2 (fun _ h9 => h9) rfl dX12_goesOn_606 ?_
      refine lv_iconst (v := 1) hx hb dX12_goesOn_609 (by decide) ?_
      refine lv_isub hx hb dX12_goesOn_610 ?_
      refine lv_iconst (v := 2) hx hb dX12_goesOn_611 (by decide) ?_
      refine xq_iast hx hb hK hP hD hS 2 0 rfl rfl hf dX12_goesOn_612 (fun g_1 H locs hf hP hD hS => ?_)
      have hP : va_P (dC, dI) vwCl [(a_p0, .inr (12, oX12 mmI_596 mmJ_596 mmR)), ((mmR 33), .inl (cI, 20, .inl mm_frameF_596)), ((mmR 34), .inl (cI, 20, .inl g_1)), ((mmR 37), .inl (cI, 20, .inl mm_baseF)), ((mmR 40), .inl (cI, 500, .inl mm_opsF_596)), ((mmR 26), .inl (cI, 3200, .inl mm_codeSortF_596)), ((mmR 27), .inl (cI, 3200, .inl mm_codeValueF_596)), ((mmR 0), .inl (cI, 1800, .inl mm_tapeF)), ((mmR 35), .inl (cZ, 20, .inl mm_beginsF_596)), ((mmR 36), .inl (cI, 20, .inl mm_pairF))] H := hP
      have hD : va_D A [(a_p0, .inr (12, oX12 mmI_596 mmJ_596 mmR)), ((mmR 33), .inl (cI, 20, .inl mm_frameF_596)), ((mmR 34), .inl (cI, 20, .inl g_1)), ((mmR 37), .inl (cI, 20, .inl mm_baseF)), ((mmR 40), .inl (cI, 500, .inl mm_opsF_596)), ((mmR 26), .inl (cI, 3200, .inl mm_codeSortF_596)), ((mmR 27), .inl (cI, 3200, .inl mm_codeValueF_596)), ((mmR 0), .inl (cI, 1800, .inl mm_tapeF)), ((mmR 35), .inl (cZ, 20, .inl mm_beginsF_596)), ((mmR 36), .inl (cI, 20, .inl mm_pairF))] := hD
      exact b613 mmI_596 mmJ_596 mm_frameF_596 g_1 mm_opsF_596 mm_codeSortF_596 mm_codeValueF_596 mm_beginsF_596 _ _ _ hf hP hD hS (lv_sub hl [0] rfl)
  have b546 : ∀ (mmI_546 : Nat → Int32) (mmJ_546 : Nat → Int64) (mm_frameF_546 : Nat → Int32) (mm_phaseF_546 : Nat → Int32) (mm_opsF_546 : Nat → Int32) (mm_codeSortF_546 : Nat → Int32) (mm_codeValueF_546 : Nat → Int32) (mm_beginsF_546 : Nat → Int32) (x1_546 : Int32) (x2_546 : Int32) (ls : Array Slot) (H : Heap) (locs : List Loc), fX12_goesOn_b546 N mm_baseF mm_tapeF mm_pairF (mmI_546, mmJ_546, mm_frameF_546, mm_phaseF_546, mm_opsF_546, mm_codeSortF_546, mm_codeValueF_546, mm_beginsF_546, x1_546, x2_546) = some (r0, r1, r2, r3, r4, r5, r6, r7, r8) → va_P (dC, dI) vwCl [(a_p0, .inr (12, oX12 mmI_546 mmJ_546 mmR)), ((mmR 33), .inl (cI, 20, .inl mm_frameF_546)), ((mmR 34), .inl (cI, 20, .inl mm_phaseF_546)), ((mmR 37), .inl (cI, 20, .inl mm_baseF)), ((mmR 40), .inl (cI, 500, .inl mm_opsF_546)), ((mmR 26), .inl (cI, 3200, .inl mm_codeSortF_546)), ((mmR 27), .inl (cI, 3200, .inl mm_codeValueF_546)), ((mmR 0), .inl (cI, 1800, .inl mm_tapeF)), ((mmR 35), .inl (cZ, 20, .inl mm_beginsF_546)), ((mmR 36), .inl (cI, 20, .inl mm_pairF))] H → va_D A [(a_p0, .inr (12, oX12 mmI_546 mmJ_546 mmR)), ((mmR 33), .inl (cI, 20, .inl mm_frameF_546)), ((mmR 34), .inl (cI, 20, .inl mm_phaseF_546)), ((mmR 37), .inl (cI, 20, .inl mm_baseF)), ((mmR 40), .inl (cI, 500, .inl mm_opsF_546)), ((mmR 26), .inl (cI, 3200, .inl mm_codeSortF_546)), ((mmR 27), .inl (cI, 3200, .inl mm_codeValueF_546)), ((mmR 0), .inl (cI, 1800, .inl mm_tapeF)), ((mmR 35), .inl (cZ, 20, .inl mm_beginsF_546)), ((mmR 36), .inl (cI, 20, .inl mm_pairF))] → va_S A s.heap H locs → lv_has ls 5 [(0, .ref a_p0), (1, .int x1_546), (2, .int x2_546)] → W p l e (headSpec wsX12_goesOn { frames := 2, cells := 0, slots := 0, locals := 45 }).room s m [.ref a_p0].toArray below meth c H locs 0 0 (MQ below (xq_Q (dC, dI) vwCl (xq_tys cI cB cJ cZ cM) A [(a_p0, .inr (12, oX12 r1 r2 mmR)), ((mmR 33), .inl (cI, 20, .inl r3)), ((mmR 34), .inl (cI, 20, .inl r4)), ((mmR 37), .inl (cI, 20, .inl mm_baseF)), ((mmR 40), .inl (cI, 500, .inl r5)), ((mmR 26), .inl (cI, 3200, .inl r6)), ((mmR 27), .inl (cI, 3200, .inl r7)), ((mmR 0), .inl (cI, 1800, .inl mm_tapeF)), ((mmR 35), .inl (cZ, 20, .inl r8)), ((mmR 36), .inl (cI, 20, .inl mm_pairF))] (some (.int r0))) [.ref a_p0].toArray s 0 0 A) (F0 m 546 ls []) := by
    intro mmI_546 mmJ_546 mm_frameF_546 mm_phaseF_546 mm_opsF_546 mm_codeSortF_546 mm_codeValueF_546 mm_beginsF_546 x1_546 x2_546 ls H locs hf hP hD hS hl
    unfold fX12_goesOn_b546 at hf
    refine lv_aload_n hx hb dX12_goesOn_546 rfl (lv_at hl 0 rfl) ?_
    refine va_get (D := (dC, dI)) (ci := 12) (v := .int (mmI_546 8)) (C := RX12) (T := TX12) (N := 70) hx hb hts hinX12 hown hK hP 0 rfl rfl 8 (by decide) hw0 (fun _ h9 => h9) rfl dX12_goesOn_547 ?_
    refine lv_if_le (tgt := 555) hx hb dX12_goesOn_550 (by decide) (fun c_ => ?_) (fun c_ => ?_)
    · have hf := xq_pos hf c_
      refine lv_aload_n hx hb dX12_goesOn_555 rfl (lv_at hl 0 rfl) ?_
      refine lv_iconst (v := 1) hx hb dX12_goesOn_556 (by decide) ?_
      obtain ⟨⟨r_1_0, r_1_1, r_1_2⟩, h_2, hf⟩ := xq_bd_some hf
      refine xq_callV (As := [.int 1]) (rest := []) (ci := 12) (q0 := 0) ⟨hx, hb, hml, hown, hts⟩ (kX12_joins l dC dI cI cB cJ cZ cM z ad N a_p0 mmI_546 mmJ_546 mmR mm_baseF mm_opsF_546 mm_codeSortF_546 mm_codeValueF_546 1 h_2) (cwV 1 hts gX12_goesOn_X12_joins rfl rfl rfl (by decide +kernel) ⟨Nat.le_of_ble_eq_true rfl, Nat.le_of_ble_eq_true rfl⟩) hN hK hP hD hS hA [0, 3, 4, 5, 6] (by decide) rfl rfl rfl rfl rfl rfl hl.1 rfl (Nat.le_of_ble_eq_true rfl) dX12_goesOn_557 ⟨Nat.zero_le _, Nat.zero_le _⟩ (fun H locs hP hD hS => ?_)
      have hP : va_P (dC, dI) vwCl [(a_p0, .inr (12, oX12 r_1_0 mmJ_546 mmR)), ((mmR 33), .inl (cI, 20, .inl mm_frameF_546)), ((mmR 34), .inl (cI, 20, .inl mm_phaseF_546)), ((mmR 37), .inl (cI, 20, .inl mm_baseF)), ((mmR 40), .inl (cI, 500, .inl mm_opsF_546)), ((mmR 26), .inl (cI, 3200, .inl r_1_1)), ((mmR 27), .inl (cI, 3200, .inl r_1_2)), ((mmR 0), .inl (cI, 1800, .inl mm_tapeF)), ((mmR 35), .inl (cZ, 20, .inl mm_beginsF_546)), ((mmR 36), .inl (cI, 20, .inl mm_pairF))] H := hP
      have hD : va_D A [(a_p0, .inr (12, oX12 r_1_0 mmJ_546 mmR)), ((mmR 33), .inl (cI, 20, .inl mm_frameF_546)), ((mmR 34), .inl (cI, 20, .inl mm_phaseF_546)), ((mmR 37), .inl (cI, 20, .inl mm_baseF)), ((mmR 40), .inl (cI, 500, .inl mm_opsF_546)), ((mmR 26), .inl (cI, 3200, .inl r_1_1)), ((mmR 27), .inl (cI, 3200, .inl r_1_2)), ((mmR 0), .inl (cI, 1800, .inl mm_tapeF)), ((mmR 35), .inl (cZ, 20, .inl mm_beginsF_546)), ((mmR 36), .inl (cI, 20, .inl mm_pairF))] := hD
      refine W.eq (g2 := F0 m 560 ls []) rfl ?_
      refine lv_aload_n hx hb dX12_goesOn_560 rfl (lv_at hl 0 rfl) ?_
      refine lv_dup hx hb dX12_goesOn_561 rfl ?_
      refine va_get (D := (dC, dI)) (ci := 12) (v := .int (r_1_0 38)) (C := RX12) (T := TX12) (N := 70) hx hb hts hinX12 hown hK hP 0 rfl rfl 38 (by decide) hw2 (fun _ h9 => h9) rfl dX12_goesOn_562 ?_
      refine lv_iconst (v := 1) hx hb dX12_goesOn_565 (by decide) ?_
      refine lv_isub hx hb dX12_goesOn_566 ?_
      refine va_put (D := (dC, dI)) (ci := 12) (v := .int ((r_1_0 38) - 1)) (ty := .int) (C := RX12) (T := TX12) (N := 70) hx hb hts hinX12 tyX12 tyX12_ok nmX12 hown hK hP hD hS 0 rfl rfl 38 (by decide) hw2 (fun _ h9 => h9) rfl (by decide +kernel) rfl rfl (Nat.le_of_ble_eq_true rfl) dX12_goesOn_567 (fun H locs hP hD hS => ?_)
      have hP : va_P (dC, dI) vwCl [(a_p0, .inr (12, oX12 (va_up r_1_0 38 ((r_1_0 38) - 1)) mmJ_546 mmR)), ((mmR 33), .inl (cI, 20, .inl mm_frameF_546)), ((mmR 34), .inl (cI, 20, .inl mm_phaseF_546)), ((mmR 37), .inl (cI, 20, .inl mm_baseF)), ((mmR 40), .inl (cI, 500, .inl mm_opsF_546)), ((mmR 26), .inl (cI, 3200, .inl r_1_1)), ((mmR 27), .inl (cI, 3200, .inl r_1_2)), ((mmR 0), .inl (cI, 1800, .inl mm_tapeF)), ((mmR 35), .inl (cZ, 20, .inl mm_beginsF_546)), ((mmR 36), .inl (cI, 20, .inl mm_pairF))] H := hP
      have hD : va_D A [(a_p0, .inr (12, oX12 (va_up r_1_0 38 ((r_1_0 38) - 1)) mmJ_546 mmR)), ((mmR 33), .inl (cI, 20, .inl mm_frameF_546)), ((mmR 34), .inl (cI, 20, .inl mm_phaseF_546)), ((mmR 37), .inl (cI, 20, .inl mm_baseF)), ((mmR 40), .inl (cI, 500, .inl mm_opsF_546)), ((mmR 26), .inl (cI, 3200, .inl r_1_1)), ((mmR 27), .inl (cI, 3200, .inl r_1_2)), ((mmR 0), .inl (cI, 1800, .inl mm_tapeF)), ((mmR 35), .inl (cZ, 20, .inl mm_beginsF_546)), ((mmR 36), .inl (cI, 20, .inl mm_pairF))] := hD
      refine lv_aload_n hx hb dX12_goesOn_570 rfl (lv_at hl 0 rfl) ?_
      refine lv_dup hx hb dX12_goesOn_571 rfl ?_
      refine va_get (D := (dC, dI)) (ci := 12) (v := .int (r_1_0 39)) (C := RX12) (T := TX12) (N := 70) hx hb hts hinX12 hown hK hP 0 rfl rfl 39 (by decide) hw10 (fun _ h9 => h9) rfl dX12_goesOn_572 ?_
      refine lv_iconst (v := 1) hx hb dX12_goesOn_575 (by decide) ?_
      refine lv_isub hx hb dX12_goesOn_576 ?_
      refine va_put (D := (dC, dI)) (ci := 12) (v := .int ((r_1_0 39) - 1)) (ty := .int) (C := RX12) (T := TX12) (N := 70) hx hb hts hinX12 tyX12 tyX12_ok nmX12 hown hK hP hD hS 0 rfl rfl 39 (by decide) hw10 (fun _ h9 => h9) rfl (by decide +kernel) rfl rfl (Nat.le_of_ble_eq_true rfl) dX12_goesOn_577 (fun H locs hP hD hS => ?_)
      have hP : va_P (dC, dI) vwCl [(a_p0, .inr (12, oX12 (va_up (va_up r_1_0 38 ((r_1_0 38) - 1)) 39 ((r_1_0 39) - 1)) mmJ_546 mmR)), ((mmR 33), .inl (cI, 20, .inl mm_frameF_546)), ((mmR 34), .inl (cI, 20, .inl mm_phaseF_546)), ((mmR 37), .inl (cI, 20, .inl mm_baseF)), ((mmR 40), .inl (cI, 500, .inl mm_opsF_546)), ((mmR 26), .inl (cI, 3200, .inl r_1_1)), ((mmR 27), .inl (cI, 3200, .inl r_1_2)), ((mmR 0), .inl (cI, 1800, .inl mm_tapeF)), ((mmR 35), .inl (cZ, 20, .inl mm_beginsF_546)), ((mmR 36), .inl (cI, 20, .inl mm_pairF))] H := hP
      have hD : va_D A [(a_p0, .inr (12, oX12 (va_up (va_up r_1_0 38 ((r_1_0 38) - 1)) 39 ((r_1_0 39) - 1)) mmJ_546 mmR)), ((mmR 33), .inl (cI, 20, .inl mm_frameF_546)), ((mmR 34), .inl (cI, 20, .inl mm_phaseF_546)), ((mmR 37), .inl (cI, 20, .inl mm_baseF)), ((mmR 40), .inl (cI, 500, .inl mm_opsF_546)), ((mmR 26), .inl (cI, 3200, .inl r_1_1)), ((mmR 27), .inl (cI, 3200, .inl r_1_2)), ((mmR 0), .inl (cI, 1800, .inl mm_tapeF)), ((mmR 35), .inl (cZ, 20, .inl mm_beginsF_546)), ((mmR 36), .inl (cI, 20, .inl mm_pairF))] := hD
      refine lv_iload_n hx hb dX12_goesOn_580 rfl (lv_at hl 2 rfl) ?_
      refine lv_iconst (v := 4) hx hb dX12_goesOn_581 (by decide) ?_
      refine lv_icmp_ne (tgt := 596) hx hb dX12_goesOn_582 (by decide) (fun c_ => ?_) (fun c_ => ?_)
      · have hf := xq_neg hf c_
        exact b596 ((va_up (va_up r_1_0 38 ((r_1_0 38) - 1)) 39 ((r_1_0 39) - 1))) mmJ_546 mm_frameF_546 mm_phaseF_546 mm_opsF_546 r_1_1 r_1_2 mm_beginsF_546 x2_546 _ _ _ hf hP hD hS (lv_sub hl [0, 2] rfl)
      · have hf := xq_pos hf c_
        refine lv_aload_n hx hb dX12_goesOn_585 rfl (lv_at hl 0 rfl) ?_
        refine lv_aload_n hx hb dX12_goesOn_586 rfl (lv_at hl 0 rfl) ?_
        refine va_get (D := (dC, dI)) (ci := 12) (v := .ref ((mmR 36))) (C := RX12) (T := TX12) (N := 70) hx hb hts hinX12 hown hK hP 0 rfl rfl 36 (by decide) hw11 (fun _ h9 => h9) rfl dX12_goesOn_587 ?_
        refine lv_iload_n hx hb dX12_goesOn_590 rfl (lv_at hl 1 rfl) ?_
        refine xq_iald hx hb hK hP 9 0 rfl rfl hf dX12_goesOn_591 (fun v_3 hf => ?_)
        refine lv_iconst (v := 0) hx hb dX12_goesOn_592 (by decide) ?_
        obtain ⟨⟨r_4_0, r_4_1, r_4_2⟩, h_5, hf⟩ := xq_bd_some hf
        refine xq_callV (As := [.int v_3, .int 0]) (rest := []) (ci := 12) (q0 := 0) ⟨hx, hb, hml, hown, hts⟩ (kX12_add l dC dI cI cB cJ cZ cM z ad N a_p0 ((va_up (va_up r_1_0 38 ((r_1_0 38) - 1)) 39 ((r_1_0 39) - 1))) mmJ_546 mmR r_1_1 r_1_2 v_3 0 h_5) (cwV 2 hts gX12_goesOn_X12_add rfl rfl rfl (by decide +kernel) ⟨Nat.le_of_ble_eq_true rfl, Nat.le_of_ble_eq_true rfl⟩) hN hK hP hD hS hA [0, 5, 6] (by decide) rfl rfl rfl rfl rfl rfl hl.1 rfl (Nat.le_of_ble_eq_true rfl) dX12_goesOn_593 ⟨Nat.zero_le _, Nat.zero_le _⟩ (fun H locs hP hD hS => ?_)
        have hP : va_P (dC, dI) vwCl [(a_p0, .inr (12, oX12 r_4_0 mmJ_546 mmR)), ((mmR 33), .inl (cI, 20, .inl mm_frameF_546)), ((mmR 34), .inl (cI, 20, .inl mm_phaseF_546)), ((mmR 37), .inl (cI, 20, .inl mm_baseF)), ((mmR 40), .inl (cI, 500, .inl mm_opsF_546)), ((mmR 26), .inl (cI, 3200, .inl r_4_1)), ((mmR 27), .inl (cI, 3200, .inl r_4_2)), ((mmR 0), .inl (cI, 1800, .inl mm_tapeF)), ((mmR 35), .inl (cZ, 20, .inl mm_beginsF_546)), ((mmR 36), .inl (cI, 20, .inl mm_pairF))] H := hP
        have hD : va_D A [(a_p0, .inr (12, oX12 r_4_0 mmJ_546 mmR)), ((mmR 33), .inl (cI, 20, .inl mm_frameF_546)), ((mmR 34), .inl (cI, 20, .inl mm_phaseF_546)), ((mmR 37), .inl (cI, 20, .inl mm_baseF)), ((mmR 40), .inl (cI, 500, .inl mm_opsF_546)), ((mmR 26), .inl (cI, 3200, .inl r_4_1)), ((mmR 27), .inl (cI, 3200, .inl r_4_2)), ((mmR 0), .inl (cI, 1800, .inl mm_tapeF)), ((mmR 35), .inl (cZ, 20, .inl mm_beginsF_546)), ((mmR 36), .inl (cI, 20, .inl mm_pairF))] := hD
        refine W.eq (g2 := F0 m 596 ls []) rfl ?_
        exact b596 r_4_0 mmJ_546 mm_frameF_546 mm_phaseF_546 mm_opsF_546 r_4_1 r_4_2 mm_beginsF_546 x2_546 _ _ _ hf hP hD hS (lv_sub hl [0, 2] rfl)
    · have hf := xq_neg hf c_
      refine lv_iconst (v := 0) hx hb dX12_goesOn_553 (by decide) ?_
      have e9 := Option.some.inj hf
      have e9_0 : 0 = r0 := congrArg (fun t => t.1) e9
      have e9_1 : mmI_546 = r1 := congrArg (fun t => t.2.1) e9
      have e9_2 : mmJ_546 = r2 := congrArg (fun t => t.2.2.1) e9
      have e9_3 : mm_frameF_546 = r3 := congrArg (fun t => t.2.2.2.1) e9
      have e9_4 : mm_phaseF_546 = r4 := congrArg (fun t => t.2.2.2.2.1) e9
      have e9_5 : mm_opsF_546 = r5 := congrArg (fun t => t.2.2.2.2.2.1) e9
      have e9_6 : mm_codeSortF_546 = r6 := congrArg (fun t => t.2.2.2.2.2.2.1) e9
      have e9_7 : mm_codeValueF_546 = r7 := congrArg (fun t => t.2.2.2.2.2.2.2.1) e9
      have e9_8 : mm_beginsF_546 = r8 := congrArg (fun t => t.2.2.2.2.2.2.2.2) e9
      clear e9 hf
      try clear b106
      try clear b112
      try clear b174
      try clear b188
      try clear b228
      try clear b264
      try clear b285
      try clear b309
      try clear b327
      try clear b356
      try clear b372
      try clear b400
      try clear b422
      try clear b452
      try clear b470
      try clear b499
      try clear b531
      try clear b546
      try clear b596
      try clear b613
      try clear b87
      subst e9_0
      subst e9_1
      subst e9_2
      subst e9_3
      subst e9_4
      subst e9_5
      subst e9_6
      subst e9_7
      subst e9_8
      exact xq_zret hx hb hr (by decide +kernel) hlocks hK hP hD hS dX12_goesOn_554
  have b531 : ∀ (mmI_531 : Nat → Int32) (mmJ_531 : Nat → Int64) (mm_frameF_531 : Nat → Int32) (mm_phaseF_531 : Nat → Int32) (mm_opsF_531 : Nat → Int32) (mm_codeSortF_531 : Nat → Int32) (mm_codeValueF_531 : Nat → Int32) (mm_beginsF_531 : Nat → Int32) (x1_531 : Int32) (x2_531 : Int32) (y1_531 : Int32) (ls : Array Slot) (H : Heap) (locs : List Loc), fX12_goesOn_b531 N mm_baseF mm_tapeF mm_pairF (mmI_531, mmJ_531, mm_frameF_531, mm_phaseF_531, mm_opsF_531, mm_codeSortF_531, mm_codeValueF_531, mm_beginsF_531, x1_531, x2_531, y1_531) = some (r0, r1, r2, r3, r4, r5, r6, r7, r8) → va_P (dC, dI) vwCl [(a_p0, .inr (12, oX12 mmI_531 mmJ_531 mmR)), ((mmR 33), .inl (cI, 20, .inl mm_frameF_531)), ((mmR 34), .inl (cI, 20, .inl mm_phaseF_531)), ((mmR 37), .inl (cI, 20, .inl mm_baseF)), ((mmR 40), .inl (cI, 500, .inl mm_opsF_531)), ((mmR 26), .inl (cI, 3200, .inl mm_codeSortF_531)), ((mmR 27), .inl (cI, 3200, .inl mm_codeValueF_531)), ((mmR 0), .inl (cI, 1800, .inl mm_tapeF)), ((mmR 35), .inl (cZ, 20, .inl mm_beginsF_531)), ((mmR 36), .inl (cI, 20, .inl mm_pairF))] H → va_D A [(a_p0, .inr (12, oX12 mmI_531 mmJ_531 mmR)), ((mmR 33), .inl (cI, 20, .inl mm_frameF_531)), ((mmR 34), .inl (cI, 20, .inl mm_phaseF_531)), ((mmR 37), .inl (cI, 20, .inl mm_baseF)), ((mmR 40), .inl (cI, 500, .inl mm_opsF_531)), ((mmR 26), .inl (cI, 3200, .inl mm_codeSortF_531)), ((mmR 27), .inl (cI, 3200, .inl mm_codeValueF_531)), ((mmR 0), .inl (cI, 1800, .inl mm_tapeF)), ((mmR 35), .inl (cZ, 20, .inl mm_beginsF_531)), ((mmR 36), .inl (cI, 20, .inl mm_pairF))] → va_S A s.heap H locs → lv_has ls 5 [(0, .ref a_p0), (1, .int x1_531), (2, .int x2_531)] → W p l e (headSpec wsX12_goesOn { frames := 2, cells := 0, slots := 0, locals := 45 }).room s m [.ref a_p0].toArray below meth c H locs 0 0 (MQ below (xq_Q (dC, dI) vwCl (xq_tys cI cB cJ cZ cM) A [(a_p0, .inr (12, oX12 r1 r2 mmR)), ((mmR 33), .inl (cI, 20, .inl r3)), ((mmR 34), .inl (cI, 20, .inl r4)), ((mmR 37), .inl (cI, 20, .inl mm_baseF)), ((mmR 40), .inl (cI, 500, .inl r5)), ((mmR 26), .inl (cI, 3200, .inl r6)), ((mmR 27), .inl (cI, 3200, .inl r7)), ((mmR 0), .inl (cI, 1800, .inl mm_tapeF)), ((mmR 35), .inl (cZ, 20, .inl r8)), ((mmR 36), .inl (cI, 20, .inl mm_pairF))] (some (.int r0))) [.ref a_p0].toArray s 0 0 A) (F0 m 531 ls [.int y1_531, .ref a_p0]) := by
    intro mmI_531 mmJ_531 mm_frameF_531 mm_phaseF_531 mm_opsF_531 mm_codeSortF_531 mm_codeValueF_531 mm_beginsF_531 x1_531 x2_531 y1_531 ls H locs hf hP hD hS hl
    unfold fX12_goesOn_b531 at hf
    obtain ⟨r_1, h_2, hf⟩ := xq_bd_some hf
    refine xq_callV (As := [.int y1_531]) (rest := []) (ci := 12) (q0 := 0) ⟨hx, hb, hml, hown, hts⟩ (kX12_isSign l dC dI cI cB cJ cZ cM z ad N a_p0 mmI_531 mmJ_531 mmR y1_531 h_2) (cwV 1 hts gX12_goesOn_X12_isSign rfl rfl rfl (by decide +kernel) ⟨Nat.le_of_ble_eq_true rfl, Nat.le_of_ble_eq_true rfl⟩) hN hK hP hD hS hA [0] (by decide) rfl rfl rfl rfl rfl rfl hl.1 rfl (Nat.le_of_ble_eq_true rfl) dX12_goesOn_531 ⟨Nat.zero_le _, Nat.zero_le _⟩ (fun H locs hP hD hS => ?_)
    have hP : va_P (dC, dI) vwCl [(a_p0, .inr (12, oX12 mmI_531 mmJ_531 mmR)), ((mmR 33), .inl (cI, 20, .inl mm_frameF_531)), ((mmR 34), .inl (cI, 20, .inl mm_phaseF_531)), ((mmR 37), .inl (cI, 20, .inl mm_baseF)), ((mmR 40), .inl (cI, 500, .inl mm_opsF_531)), ((mmR 26), .inl (cI, 3200, .inl mm_codeSortF_531)), ((mmR 27), .inl (cI, 3200, .inl mm_codeValueF_531)), ((mmR 0), .inl (cI, 1800, .inl mm_tapeF)), ((mmR 35), .inl (cZ, 20, .inl mm_beginsF_531)), ((mmR 36), .inl (cI, 20, .inl mm_pairF))] H := hP
    have hD : va_D A [(a_p0, .inr (12, oX12 mmI_531 mmJ_531 mmR)), ((mmR 33), .inl (cI, 20, .inl mm_frameF_531)), ((mmR 34), .inl (cI, 20, .inl mm_phaseF_531)), ((mmR 37), .inl (cI, 20, .inl mm_baseF)), ((mmR 40), .inl (cI, 500, .inl mm_opsF_531)), ((mmR 26), .inl (cI, 3200, .inl mm_codeSortF_531)), ((mmR 27), .inl (cI, 3200, .inl mm_codeValueF_531)), ((mmR 0), .inl (cI, 1800, .inl mm_tapeF)), ((mmR 35), .inl (cZ, 20, .inl mm_beginsF_531)), ((mmR 36), .inl (cI, 20, .inl mm_pairF))] := hD
    refine W.eq (g2 := F0 m 534 ls [.int r_1]) rfl ?_
    refine lv_if_ne (tgt := 546) hx hb dX12_goesOn_534 (by decide) (fun c_ => ?_) (fun c_ => ?_)
    · have hf := xq_neg hf c_
      exact b546 mmI_531 mmJ_531 mm_frameF_531 mm_phaseF_531 mm_opsF_531 mm_codeSortF_531 mm_codeValueF_531 mm_beginsF_531 x1_531 x2_531 _ _ _ hf hP hD hS (lv_sub hl [0, 1, 2] rfl)
    · have hf := xq_pos hf c_
      refine lv_aload_n hx hb dX12_goesOn_537 rfl (lv_at hl 0 rfl) ?_
      refine lv_iconst (v := 1) hx hb dX12_goesOn_538 (by decide) ?_
      refine lv_aload_n hx hb dX12_goesOn_539 rfl (lv_at hl 0 rfl) ?_
      refine va_get (D := (dC, dI)) (ci := 12) (v := .int (mmI_531 4)) (C := RX12) (T := TX12) (N := 70) hx hb hts hinX12 hown hK hP 0 rfl rfl 4 (by decide) hw8 (fun _ h9 => h9) rfl dX12_goesOn_540 ?_
      obtain ⟨r_3, h_4, hf⟩ := xq_bd_some hf
      refine xq_callV (As := [.int 1, .int (mmI_531 4)]) (rest := []) (ci := 12) (q0 := 0) ⟨hx, hb, hml, hown, hts⟩ (kX12_blame l dC dI cI cB cJ cZ cM z ad N a_p0 mmI_531 mmJ_531 mmR 1 (mmI_531 4) h_4) (cwV 2 hts gX12_goesOn_X12_blame rfl rfl rfl (by decide +kernel) ⟨Nat.le_of_ble_eq_true rfl, Nat.le_of_ble_eq_true rfl⟩) hN hK hP hD hS hA [0] (by decide) rfl rfl rfl rfl rfl rfl hl.1 rfl (Nat.le_of_ble_eq_true rfl) dX12_goesOn_543 ⟨Nat.zero_le _, Nat.zero_le _⟩ (fun H locs hP hD hS => ?_)
      have hP : va_P (dC, dI) vwCl [(a_p0, .inr (12, oX12 r_3 mmJ_531 mmR)), ((mmR 33), .inl (cI, 20, .inl mm_frameF_531)), ((mmR 34), .inl (cI, 20, .inl mm_phaseF_531)), ((mmR 37), .inl (cI, 20, .inl mm_baseF)), ((mmR 40), .inl (cI, 500, .inl mm_opsF_531)), ((mmR 26), .inl (cI, 3200, .inl mm_codeSortF_531)), ((mmR 27), .inl (cI, 3200, .inl mm_codeValueF_531)), ((mmR 0), .inl (cI, 1800, .inl mm_tapeF)), ((mmR 35), .inl (cZ, 20, .inl mm_beginsF_531)), ((mmR 36), .inl (cI, 20, .inl mm_pairF))] H := hP
      have hD : va_D A [(a_p0, .inr (12, oX12 r_3 mmJ_531 mmR)), ((mmR 33), .inl (cI, 20, .inl mm_frameF_531)), ((mmR 34), .inl (cI, 20, .inl mm_phaseF_531)), ((mmR 37), .inl (cI, 20, .inl mm_baseF)), ((mmR 40), .inl (cI, 500, .inl mm_opsF_531)), ((mmR 26), .inl (cI, 3200, .inl mm_codeSortF_531)), ((mmR 27), .inl (cI, 3200, .inl mm_codeValueF_531)), ((mmR 0), .inl (cI, 1800, .inl mm_tapeF)), ((mmR 35), .inl (cZ, 20, .inl mm_beginsF_531)), ((mmR 36), .inl (cI, 20, .inl mm_pairF))] := hD
      refine W.eq (g2 := F0 m 546 ls []) rfl ?_
      exact b546 r_3 mmJ_531 mm_frameF_531 mm_phaseF_531 mm_opsF_531 mm_codeSortF_531 mm_codeValueF_531 mm_beginsF_531 x1_531 x2_531 _ _ _ hf hP hD hS (lv_sub hl [0, 1, 2] rfl)
  have b499 : ∀ (mmI_499 : Nat → Int32) (mmJ_499 : Nat → Int64) (mm_frameF_499 : Nat → Int32) (mm_phaseF_499 : Nat → Int32) (mm_opsF_499 : Nat → Int32) (mm_codeSortF_499 : Nat → Int32) (mm_codeValueF_499 : Nat → Int32) (mm_beginsF_499 : Nat → Int32) (x1_499 : Int32) (y1_499 : Int32) (y2_499 : Int32) (ls : Array Slot) (H : Heap) (locs : List Loc), fX12_goesOn_b499 N mm_baseF mm_tapeF mm_pairF (mmI_499, mmJ_499, mm_frameF_499, mm_phaseF_499, mm_opsF_499, mm_codeSortF_499, mm_codeValueF_499, mm_beginsF_499, x1_499, y1_499, y2_499) = some (r0, r1, r2, r3, r4, r5, r6, r7, r8) → va_P (dC, dI) vwCl [(a_p0, .inr (12, oX12 mmI_499 mmJ_499 mmR)), ((mmR 33), .inl (cI, 20, .inl mm_frameF_499)), ((mmR 34), .inl (cI, 20, .inl mm_phaseF_499)), ((mmR 37), .inl (cI, 20, .inl mm_baseF)), ((mmR 40), .inl (cI, 500, .inl mm_opsF_499)), ((mmR 26), .inl (cI, 3200, .inl mm_codeSortF_499)), ((mmR 27), .inl (cI, 3200, .inl mm_codeValueF_499)), ((mmR 0), .inl (cI, 1800, .inl mm_tapeF)), ((mmR 35), .inl (cZ, 20, .inl mm_beginsF_499)), ((mmR 36), .inl (cI, 20, .inl mm_pairF))] H → va_D A [(a_p0, .inr (12, oX12 mmI_499 mmJ_499 mmR)), ((mmR 33), .inl (cI, 20, .inl mm_frameF_499)), ((mmR 34), .inl (cI, 20, .inl mm_phaseF_499)), ((mmR 37), .inl (cI, 20, .inl mm_baseF)), ((mmR 40), .inl (cI, 500, .inl mm_opsF_499)), ((mmR 26), .inl (cI, 3200, .inl mm_codeSortF_499)), ((mmR 27), .inl (cI, 3200, .inl mm_codeValueF_499)), ((mmR 0), .inl (cI, 1800, .inl mm_tapeF)), ((mmR 35), .inl (cZ, 20, .inl mm_beginsF_499)), ((mmR 36), .inl (cI, 20, .inl mm_pairF))] → va_S A s.heap H locs → lv_has ls 5 [(0, .ref a_p0), (1, .int x1_499)] → W p l e (headSpec wsX12_goesOn { frames := 2, cells := 0, slots := 0, locals := 45 }).room s m [.ref a_p0].toArray below meth c H locs 0 0 (MQ below (xq_Q (dC, dI) vwCl (xq_tys cI cB cJ cZ cM) A [(a_p0, .inr (12, oX12 r1 r2 mmR)), ((mmR 33), .inl (cI, 20, .inl r3)), ((mmR 34), .inl (cI, 20, .inl r4)), ((mmR 37), .inl (cI, 20, .inl mm_baseF)), ((mmR 40), .inl (cI, 500, .inl r5)), ((mmR 26), .inl (cI, 3200, .inl r6)), ((mmR 27), .inl (cI, 3200, .inl r7)), ((mmR 0), .inl (cI, 1800, .inl mm_tapeF)), ((mmR 35), .inl (cZ, 20, .inl r8)), ((mmR 36), .inl (cI, 20, .inl mm_pairF))] (some (.int r0))) [.ref a_p0].toArray s 0 0 A) (F0 m 499 ls [.int y2_499, .int y1_499, .ref ((mmR 33))]) := by
    intro mmI_499 mmJ_499 mm_frameF_499 mm_phaseF_499 mm_opsF_499 mm_codeSortF_499 mm_codeValueF_499 mm_beginsF_499 x1_499 y1_499 y2_499 ls H locs hf hP hD hS hl
    unfold fX12_goesOn_b499 at hf
    refine xq_iast hx hb hK hP hD hS 1 0 rfl rfl hf dX12_goesOn_499 (fun g_1 H locs hf hP hD hS => ?_)
    have hP : va_P (dC, dI) vwCl [(a_p0, .inr (12, oX12 mmI_499 mmJ_499 mmR)), ((mmR 33), .inl (cI, 20, .inl g_1)), ((mmR 34), .inl (cI, 20, .inl mm_phaseF_499)), ((mmR 37), .inl (cI, 20, .inl mm_baseF)), ((mmR 40), .inl (cI, 500, .inl mm_opsF_499)), ((mmR 26), .inl (cI, 3200, .inl mm_codeSortF_499)), ((mmR 27), .inl (cI, 3200, .inl mm_codeValueF_499)), ((mmR 0), .inl (cI, 1800, .inl mm_tapeF)), ((mmR 35), .inl (cZ, 20, .inl mm_beginsF_499)), ((mmR 36), .inl (cI, 20, .inl mm_pairF))] H := hP
    have hD : va_D A [(a_p0, .inr (12, oX12 mmI_499 mmJ_499 mmR)), ((mmR 33), .inl (cI, 20, .inl g_1)), ((mmR 34), .inl (cI, 20, .inl mm_phaseF_499)), ((mmR 37), .inl (cI, 20, .inl mm_baseF)), ((mmR 40), .inl (cI, 500, .inl mm_opsF_499)), ((mmR 26), .inl (cI, 3200, .inl mm_codeSortF_499)), ((mmR 27), .inl (cI, 3200, .inl mm_codeValueF_499)), ((mmR 0), .inl (cI, 1800, .inl mm_tapeF)), ((mmR 35), .inl (cZ, 20, .inl mm_beginsF_499)), ((mmR 36), .inl (cI, 20, .inl mm_pairF))] := hD
    refine lv_aload_n hx hb dX12_goesOn_500 rfl (lv_at hl 0 rfl) ?_
    refine va_get (D := (dC, dI)) (ci := 12) (v := .ref ((mmR 34))) (C := RX12) (T := TX12) (N := 70) hx hb hts hinX12 hown hK hP 0 rfl rfl 34 (by decide) hw4 (fun _ h9 => h9) rfl dX12_goesOn_501 ?_
    refine lv_iload_n hx hb dX12_goesOn_504 rfl (lv_at hl 1 rfl) ?_
    refine lv_iconst (v := 0) hx hb dX12_goesOn_505 (by decide) ?_
    refine xq_iast hx hb hK hP hD hS 2 0 rfl rfl hf dX12_goesOn_506 (fun g_2 H locs hf hP hD hS => ?_)
    have hP : va_P (dC, dI) vwCl [(a_p0, .inr (12, oX12 mmI_499 mmJ_499 mmR)), ((mmR 33), .inl (cI, 20, .inl g_1)), ((mmR 34), .inl (cI, 20, .inl g_2)), ((mmR 37), .inl (cI, 20, .inl mm_baseF)), ((mmR 40), .inl (cI, 500, .inl mm_opsF_499)), ((mmR 26), .inl (cI, 3200, .inl mm_codeSortF_499)), ((mmR 27), .inl (cI, 3200, .inl mm_codeValueF_499)), ((mmR 0), .inl (cI, 1800, .inl mm_tapeF)), ((mmR 35), .inl (cZ, 20, .inl mm_beginsF_499)), ((mmR 36), .inl (cI, 20, .inl mm_pairF))] H := hP
    have hD : va_D A [(a_p0, .inr (12, oX12 mmI_499 mmJ_499 mmR)), ((mmR 33), .inl (cI, 20, .inl g_1)), ((mmR 34), .inl (cI, 20, .inl g_2)), ((mmR 37), .inl (cI, 20, .inl mm_baseF)), ((mmR 40), .inl (cI, 500, .inl mm_opsF_499)), ((mmR 26), .inl (cI, 3200, .inl mm_codeSortF_499)), ((mmR 27), .inl (cI, 3200, .inl mm_codeValueF_499)), ((mmR 0), .inl (cI, 1800, .inl mm_tapeF)), ((mmR 35), .inl (cZ, 20, .inl mm_beginsF_499)), ((mmR 36), .inl (cI, 20, .inl mm_pairF))] := hD
    refine lv_aload_n hx hb dX12_goesOn_507 rfl (lv_at hl 0 rfl) ?_
    obtain ⟨⟨r_3_0, r_3_1⟩, h_4, hf⟩ := xq_bd_some hf
    refine xq_callV (As := []) (rest := []) (ci := 12) (q0 := 0) ⟨hx, hb, hml, hown, hts⟩ (kX12_ahead l dC dI cI cB cJ cZ cM z ad N a_p0 mmI_499 mmJ_499 mmR mm_tapeF h_4) (cwV 0 hts gX12_goesOn_X12_ahead rfl rfl rfl (by decide +kernel) ⟨Nat.le_of_ble_eq_true rfl, Nat.le_of_ble_eq_true rfl⟩) hN hK hP hD hS hA [0, 7] (by decide) rfl rfl rfl rfl rfl rfl hl.1 rfl (Nat.le_of_ble_eq_true rfl) dX12_goesOn_508 ⟨Nat.zero_le _, Nat.zero_le _⟩ (fun H locs hP hD hS => ?_)
    have hP : va_P (dC, dI) vwCl [(a_p0, .inr (12, oX12 r_3_0 r_3_1 mmR)), ((mmR 33), .inl (cI, 20, .inl g_1)), ((mmR 34), .inl (cI, 20, .inl g_2)), ((mmR 37), .inl (cI, 20, .inl mm_baseF)), ((mmR 40), .inl (cI, 500, .inl mm_opsF_499)), ((mmR 26), .inl (cI, 3200, .inl mm_codeSortF_499)), ((mmR 27), .inl (cI, 3200, .inl mm_codeValueF_499)), ((mmR 0), .inl (cI, 1800, .inl mm_tapeF)), ((mmR 35), .inl (cZ, 20, .inl mm_beginsF_499)), ((mmR 36), .inl (cI, 20, .inl mm_pairF))] H := hP
    have hD : va_D A [(a_p0, .inr (12, oX12 r_3_0 r_3_1 mmR)), ((mmR 33), .inl (cI, 20, .inl g_1)), ((mmR 34), .inl (cI, 20, .inl g_2)), ((mmR 37), .inl (cI, 20, .inl mm_baseF)), ((mmR 40), .inl (cI, 500, .inl mm_opsF_499)), ((mmR 26), .inl (cI, 3200, .inl mm_codeSortF_499)), ((mmR 27), .inl (cI, 3200, .inl mm_codeValueF_499)), ((mmR 0), .inl (cI, 1800, .inl mm_tapeF)), ((mmR 35), .inl (cZ, 20, .inl mm_beginsF_499)), ((mmR 36), .inl (cI, 20, .inl mm_pairF))] := hD
    refine W.eq (g2 := F0 m 511 ls []) rfl ?_
    refine lv_aload_n hx hb dX12_goesOn_511 rfl (lv_at hl 0 rfl) ?_
    refine lv_iconst (v := 0) hx hb dX12_goesOn_512 (by decide) ?_
    refine va_put (D := (dC, dI)) (ci := 12) (v := .int 0) (ty := .boolean) (C := RX12) (T := TX12) (N := 70) hx hb hts hinX12 tyX12 tyX12_ok nmX12 hown hK hP hD hS 0 rfl rfl 42 (by decide) hw5 (fun _ h9 => h9) rfl (by decide +kernel) (by decide +kernel) (by decide +kernel) (Nat.le_of_ble_eq_true rfl) dX12_goesOn_513 (fun H locs hP hD hS => ?_)
    have hP : va_P (dC, dI) vwCl [(a_p0, .inr (12, oX12 (va_up r_3_0 42 0) r_3_1 mmR)), ((mmR 33), .inl (cI, 20, .inl g_1)), ((mmR 34), .inl (cI, 20, .inl g_2)), ((mmR 37), .inl (cI, 20, .inl mm_baseF)), ((mmR 40), .inl (cI, 500, .inl mm_opsF_499)), ((mmR 26), .inl (cI, 3200, .inl mm_codeSortF_499)), ((mmR 27), .inl (cI, 3200, .inl mm_codeValueF_499)), ((mmR 0), .inl (cI, 1800, .inl mm_tapeF)), ((mmR 35), .inl (cZ, 20, .inl mm_beginsF_499)), ((mmR 36), .inl (cI, 20, .inl mm_pairF))] H := hP
    have hD : va_D A [(a_p0, .inr (12, oX12 (va_up r_3_0 42 0) r_3_1 mmR)), ((mmR 33), .inl (cI, 20, .inl g_1)), ((mmR 34), .inl (cI, 20, .inl g_2)), ((mmR 37), .inl (cI, 20, .inl mm_baseF)), ((mmR 40), .inl (cI, 500, .inl mm_opsF_499)), ((mmR 26), .inl (cI, 3200, .inl mm_codeSortF_499)), ((mmR 27), .inl (cI, 3200, .inl mm_codeValueF_499)), ((mmR 0), .inl (cI, 1800, .inl mm_tapeF)), ((mmR 35), .inl (cZ, 20, .inl mm_beginsF_499)), ((mmR 36), .inl (cI, 20, .inl mm_pairF))] := hD
    refine lv_iconst (v := 1) hx hb dX12_goesOn_516 (by decide) ?_
    have e9 := Option.some.inj hf
    have e9_0 : 1 = r0 := congrArg (fun t => t.1) e9
    have e9_1 : (va_up r_3_0 42 0) = r1 := congrArg (fun t => t.2.1) e9
    have e9_2 : r_3_1 = r2 := congrArg (fun t => t.2.2.1) e9
    have e9_3 : g_1 = r3 := congrArg (fun t => t.2.2.2.1) e9
    have e9_4 : g_2 = r4 := congrArg (fun t => t.2.2.2.2.1) e9
    have e9_5 : mm_opsF_499 = r5 := congrArg (fun t => t.2.2.2.2.2.1) e9
    have e9_6 : mm_codeSortF_499 = r6 := congrArg (fun t => t.2.2.2.2.2.2.1) e9
    have e9_7 : mm_codeValueF_499 = r7 := congrArg (fun t => t.2.2.2.2.2.2.2.1) e9
    have e9_8 : mm_beginsF_499 = r8 := congrArg (fun t => t.2.2.2.2.2.2.2.2) e9
    clear e9 hf
    try clear b106
    try clear b112
    try clear b174
    try clear b188
    try clear b228
    try clear b264
    try clear b285
    try clear b309
    try clear b327
    try clear b356
    try clear b372
    try clear b400
    try clear b422
    try clear b452
    try clear b470
    try clear b499
    try clear b531
    try clear b546
    try clear b596
    try clear b613
    try clear b87
    subst e9_0
    subst e9_1
    subst e9_2
    subst e9_3
    subst e9_4
    subst e9_5
    subst e9_6
    subst e9_7
    subst e9_8
    exact xq_zret hx hb hr (by decide +kernel) hlocks hK hP hD hS dX12_goesOn_517
  have b470 : ∀ (mmI_470 : Nat → Int32) (mmJ_470 : Nat → Int64) (mm_frameF_470 : Nat → Int32) (mm_phaseF_470 : Nat → Int32) (mm_opsF_470 : Nat → Int32) (mm_codeSortF_470 : Nat → Int32) (mm_codeValueF_470 : Nat → Int32) (mm_beginsF_470 : Nat → Int32) (x1_470 : Int32) (x2_470 : Int32) (ls : Array Slot) (H : Heap) (locs : List Loc), fX12_goesOn_b470 N mm_baseF mm_tapeF mm_pairF (mmI_470, mmJ_470, mm_frameF_470, mm_phaseF_470, mm_opsF_470, mm_codeSortF_470, mm_codeValueF_470, mm_beginsF_470, x1_470, x2_470) = some (r0, r1, r2, r3, r4, r5, r6, r7, r8) → va_P (dC, dI) vwCl [(a_p0, .inr (12, oX12 mmI_470 mmJ_470 mmR)), ((mmR 33), .inl (cI, 20, .inl mm_frameF_470)), ((mmR 34), .inl (cI, 20, .inl mm_phaseF_470)), ((mmR 37), .inl (cI, 20, .inl mm_baseF)), ((mmR 40), .inl (cI, 500, .inl mm_opsF_470)), ((mmR 26), .inl (cI, 3200, .inl mm_codeSortF_470)), ((mmR 27), .inl (cI, 3200, .inl mm_codeValueF_470)), ((mmR 0), .inl (cI, 1800, .inl mm_tapeF)), ((mmR 35), .inl (cZ, 20, .inl mm_beginsF_470)), ((mmR 36), .inl (cI, 20, .inl mm_pairF))] H → va_D A [(a_p0, .inr (12, oX12 mmI_470 mmJ_470 mmR)), ((mmR 33), .inl (cI, 20, .inl mm_frameF_470)), ((mmR 34), .inl (cI, 20, .inl mm_phaseF_470)), ((mmR 37), .inl (cI, 20, .inl mm_baseF)), ((mmR 40), .inl (cI, 500, .inl mm_opsF_470)), ((mmR 26), .inl (cI, 3200, .inl mm_codeSortF_470)), ((mmR 27), .inl (cI, 3200, .inl mm_codeValueF_470)), ((mmR 0), .inl (cI, 1800, .inl mm_tapeF)), ((mmR 35), .inl (cZ, 20, .inl mm_beginsF_470)), ((mmR 36), .inl (cI, 20, .inl mm_pairF))] → va_S A s.heap H locs → lv_has ls 5 [(0, .ref a_p0), (1, .int x1_470), (2, .int x2_470)] → W p l e (headSpec wsX12_goesOn { frames := 2, cells := 0, slots := 0, locals := 45 }).room s m [.ref a_p0].toArray below meth c H locs 0 0 (MQ below (xq_Q (dC, dI) vwCl (xq_tys cI cB cJ cZ cM) A [(a_p0, .inr (12, oX12 r1 r2 mmR)), ((mmR 33), .inl (cI, 20, .inl r3)), ((mmR 34), .inl (cI, 20, .inl r4)), ((mmR 37), .inl (cI, 20, .inl mm_baseF)), ((mmR 40), .inl (cI, 500, .inl r5)), ((mmR 26), .inl (cI, 3200, .inl r6)), ((mmR 27), .inl (cI, 3200, .inl r7)), ((mmR 0), .inl (cI, 1800, .inl mm_tapeF)), ((mmR 35), .inl (cZ, 20, .inl r8)), ((mmR 36), .inl (cI, 20, .inl mm_pairF))] (some (.int r0))) [.ref a_p0].toArray s 0 0 A) (F0 m 470 ls []) := by
    intro mmI_470 mmJ_470 mm_frameF_470 mm_phaseF_470 mm_opsF_470 mm_codeSortF_470 mm_codeValueF_470 mm_beginsF_470 x1_470 x2_470 ls H locs hf hP hD hS hl
    unfold fX12_goesOn_b470 at hf
    refine lv_aload_n hx hb dX12_goesOn_470 rfl (lv_at hl 0 rfl) ?_
    refine va_get (D := (dC, dI)) (ci := 12) (v := .int (mmI_470 8)) (C := RX12) (T := TX12) (N := 70) hx hb hts hinX12 hown hK hP 0 rfl rfl 8 (by decide) hw0 (fun _ h9 => h9) rfl dX12_goesOn_471 ?_
    refine lv_if_le (tgt := 479) hx hb dX12_goesOn_474 (by decide) (fun c_ => ?_) (fun c_ => ?_)
    · have hf := xq_pos hf c_
      refine lv_aload_n hx hb dX12_goesOn_479 rfl (lv_at hl 0 rfl) ?_
      refine lv_iconst (v := 1) hx hb dX12_goesOn_480 (by decide) ?_
      obtain ⟨⟨r_1_0, r_1_1, r_1_2⟩, h_2, hf⟩ := xq_bd_some hf
      refine xq_callV (As := [.int 1]) (rest := []) (ci := 12) (q0 := 0) ⟨hx, hb, hml, hown, hts⟩ (kX12_joins l dC dI cI cB cJ cZ cM z ad N a_p0 mmI_470 mmJ_470 mmR mm_baseF mm_opsF_470 mm_codeSortF_470 mm_codeValueF_470 1 h_2) (cwV 1 hts gX12_goesOn_X12_joins rfl rfl rfl (by decide +kernel) ⟨Nat.le_of_ble_eq_true rfl, Nat.le_of_ble_eq_true rfl⟩) hN hK hP hD hS hA [0, 3, 4, 5, 6] (by decide) rfl rfl rfl rfl rfl rfl hl.1 rfl (Nat.le_of_ble_eq_true rfl) dX12_goesOn_481 ⟨Nat.zero_le _, Nat.zero_le _⟩ (fun H locs hP hD hS => ?_)
      have hP : va_P (dC, dI) vwCl [(a_p0, .inr (12, oX12 r_1_0 mmJ_470 mmR)), ((mmR 33), .inl (cI, 20, .inl mm_frameF_470)), ((mmR 34), .inl (cI, 20, .inl mm_phaseF_470)), ((mmR 37), .inl (cI, 20, .inl mm_baseF)), ((mmR 40), .inl (cI, 500, .inl mm_opsF_470)), ((mmR 26), .inl (cI, 3200, .inl r_1_1)), ((mmR 27), .inl (cI, 3200, .inl r_1_2)), ((mmR 0), .inl (cI, 1800, .inl mm_tapeF)), ((mmR 35), .inl (cZ, 20, .inl mm_beginsF_470)), ((mmR 36), .inl (cI, 20, .inl mm_pairF))] H := hP
      have hD : va_D A [(a_p0, .inr (12, oX12 r_1_0 mmJ_470 mmR)), ((mmR 33), .inl (cI, 20, .inl mm_frameF_470)), ((mmR 34), .inl (cI, 20, .inl mm_phaseF_470)), ((mmR 37), .inl (cI, 20, .inl mm_baseF)), ((mmR 40), .inl (cI, 500, .inl mm_opsF_470)), ((mmR 26), .inl (cI, 3200, .inl r_1_1)), ((mmR 27), .inl (cI, 3200, .inl r_1_2)), ((mmR 0), .inl (cI, 1800, .inl mm_tapeF)), ((mmR 35), .inl (cZ, 20, .inl mm_beginsF_470)), ((mmR 36), .inl (cI, 20, .inl mm_pairF))] := hD
      refine W.eq (g2 := F0 m 484 ls []) rfl ?_
      refine lv_aload_n hx hb dX12_goesOn_484 rfl (lv_at hl 0 rfl) ?_
      refine va_get (D := (dC, dI)) (ci := 12) (v := .ref ((mmR 33))) (C := RX12) (T := TX12) (N := 70) hx hb hts hinX12 hown hK hP 0 rfl rfl 33 (by decide) hw3 (fun _ h9 => h9) rfl dX12_goesOn_485 ?_
      refine lv_iload_n hx hb dX12_goesOn_488 rfl (lv_at hl 1 rfl) ?_
      refine lv_iload_n hx hb dX12_goesOn_489 rfl (lv_at hl 2 rfl) ?_
      refine lv_iconst (v := 3) hx hb dX12_goesOn_490 (by decide) ?_
      refine lv_icmp_ne (tgt := 498) hx hb dX12_goesOn_491 (by decide) (fun c_ => ?_) (fun c_ => ?_)
      · have hf := xq_neg hf c_
        refine lv_iconst (v := 3) hx hb dX12_goesOn_498 (by decide) ?_
        exact b499 r_1_0 mmJ_470 mm_frameF_470 mm_phaseF_470 mm_opsF_470 r_1_1 r_1_2 mm_beginsF_470 x1_470 x1_470 3 _ _ _ hf hP hD hS (lv_sub hl [0, 1] rfl)
      · have hf := xq_pos hf c_
        refine lv_iconst (v := 4) hx hb dX12_goesOn_494 (by decide) ?_
        refine lv_goto (tgt := 499) hx hb dX12_goesOn_495 (by decide) ?_
        exact b499 r_1_0 mmJ_470 mm_frameF_470 mm_phaseF_470 mm_opsF_470 r_1_1 r_1_2 mm_beginsF_470 x1_470 x1_470 4 _ _ _ hf hP hD hS (lv_sub hl [0, 1] rfl)
    · have hf := xq_neg hf c_
      refine lv_iconst (v := 0) hx hb dX12_goesOn_477 (by decide) ?_
      have e9 := Option.some.inj hf
      have e9_0 : 0 = r0 := congrArg (fun t => t.1) e9
      have e9_1 : mmI_470 = r1 := congrArg (fun t => t.2.1) e9
      have e9_2 : mmJ_470 = r2 := congrArg (fun t => t.2.2.1) e9
      have e9_3 : mm_frameF_470 = r3 := congrArg (fun t => t.2.2.2.1) e9
      have e9_4 : mm_phaseF_470 = r4 := congrArg (fun t => t.2.2.2.2.1) e9
      have e9_5 : mm_opsF_470 = r5 := congrArg (fun t => t.2.2.2.2.2.1) e9
      have e9_6 : mm_codeSortF_470 = r6 := congrArg (fun t => t.2.2.2.2.2.2.1) e9
      have e9_7 : mm_codeValueF_470 = r7 := congrArg (fun t => t.2.2.2.2.2.2.2.1) e9
      have e9_8 : mm_beginsF_470 = r8 := congrArg (fun t => t.2.2.2.2.2.2.2.2) e9
      clear e9 hf
      try clear b106
      try clear b112
      try clear b174
      try clear b188
      try clear b228
      try clear b264
      try clear b285
      try clear b309
      try clear b327
      try clear b356
      try clear b372
      try clear b400
      try clear b422
      try clear b452
      try clear b470
      try clear b499
      try clear b531
      try clear b546
      try clear b596
      try clear b613
      try clear b87
      subst e9_0
      subst e9_1
      subst e9_2
      subst e9_3
      subst e9_4
      subst e9_5
      subst e9_6
      subst e9_7
      subst e9_8
      exact xq_zret hx hb hr (by decide +kernel) hlocks hK hP hD hS dX12_goesOn_478
  have b452 : ∀ (mmI_452 : Nat → Int32) (mmJ_452 : Nat → Int64) (mm_frameF_452 : Nat → Int32) (mm_phaseF_452 : Nat → Int32) (mm_opsF_452 : Nat → Int32) (mm_codeSortF_452 : Nat → Int32) (mm_codeValueF_452 : Nat → Int32) (mm_beginsF_452 : Nat → Int32) (x1_452 : Int32) (x2_452 : Int32) (ls : Array Slot) (H : Heap) (locs : List Loc), fX12_goesOn_b452 N mm_baseF mm_tapeF mm_pairF (mmI_452, mmJ_452, mm_frameF_452, mm_phaseF_452, mm_opsF_452, mm_codeSortF_452, mm_codeValueF_452, mm_beginsF_452, x1_452, x2_452) = some (r0, r1, r2, r3, r4, r5, r6, r7, r8) → va_P (dC, dI) vwCl [(a_p0, .inr (12, oX12 mmI_452 mmJ_452 mmR)), ((mmR 33), .inl (cI, 20, .inl mm_frameF_452)), ((mmR 34), .inl (cI, 20, .inl mm_phaseF_452)), ((mmR 37), .inl (cI, 20, .inl mm_baseF)), ((mmR 40), .inl (cI, 500, .inl mm_opsF_452)), ((mmR 26), .inl (cI, 3200, .inl mm_codeSortF_452)), ((mmR 27), .inl (cI, 3200, .inl mm_codeValueF_452)), ((mmR 0), .inl (cI, 1800, .inl mm_tapeF)), ((mmR 35), .inl (cZ, 20, .inl mm_beginsF_452)), ((mmR 36), .inl (cI, 20, .inl mm_pairF))] H → va_D A [(a_p0, .inr (12, oX12 mmI_452 mmJ_452 mmR)), ((mmR 33), .inl (cI, 20, .inl mm_frameF_452)), ((mmR 34), .inl (cI, 20, .inl mm_phaseF_452)), ((mmR 37), .inl (cI, 20, .inl mm_baseF)), ((mmR 40), .inl (cI, 500, .inl mm_opsF_452)), ((mmR 26), .inl (cI, 3200, .inl mm_codeSortF_452)), ((mmR 27), .inl (cI, 3200, .inl mm_codeValueF_452)), ((mmR 0), .inl (cI, 1800, .inl mm_tapeF)), ((mmR 35), .inl (cZ, 20, .inl mm_beginsF_452)), ((mmR 36), .inl (cI, 20, .inl mm_pairF))] → va_S A s.heap H locs → lv_has ls 5 [(0, .ref a_p0), (1, .int x1_452), (2, .int x2_452)] → W p l e (headSpec wsX12_goesOn { frames := 2, cells := 0, slots := 0, locals := 45 }).room s m [.ref a_p0].toArray below meth c H locs 0 0 (MQ below (xq_Q (dC, dI) vwCl (xq_tys cI cB cJ cZ cM) A [(a_p0, .inr (12, oX12 r1 r2 mmR)), ((mmR 33), .inl (cI, 20, .inl r3)), ((mmR 34), .inl (cI, 20, .inl r4)), ((mmR 37), .inl (cI, 20, .inl mm_baseF)), ((mmR 40), .inl (cI, 500, .inl r5)), ((mmR 26), .inl (cI, 3200, .inl r6)), ((mmR 27), .inl (cI, 3200, .inl r7)), ((mmR 0), .inl (cI, 1800, .inl mm_tapeF)), ((mmR 35), .inl (cZ, 20, .inl r8)), ((mmR 36), .inl (cI, 20, .inl mm_pairF))] (some (.int r0))) [.ref a_p0].toArray s 0 0 A) (F0 m 452 ls []) := by
    intro mmI_452 mmJ_452 mm_frameF_452 mm_phaseF_452 mm_opsF_452 mm_codeSortF_452 mm_codeValueF_452 mm_beginsF_452 x1_452 x2_452 ls H locs hf hP hD hS hl
    unfold fX12_goesOn_b452 at hf
    refine lv_aload_n hx hb dX12_goesOn_452 rfl (lv_at hl 0 rfl) ?_
    refine lv_bipush (v := 44) hx hb dX12_goesOn_453 (by decide) ?_
    obtain ⟨r_1, h_2, hf⟩ := xq_bd_some hf
    refine xq_callV (As := [.int 44]) (rest := []) (ci := 12) (q0 := 0) ⟨hx, hb, hml, hown, hts⟩ (kX12_isSign l dC dI cI cB cJ cZ cM z ad N a_p0 mmI_452 mmJ_452 mmR 44 h_2) (cwV 1 hts gX12_goesOn_X12_isSign rfl rfl rfl (by decide +kernel) ⟨Nat.le_of_ble_eq_true rfl, Nat.le_of_ble_eq_true rfl⟩) hN hK hP hD hS hA [0] (by decide) rfl rfl rfl rfl rfl rfl hl.1 rfl (Nat.le_of_ble_eq_true rfl) dX12_goesOn_455 ⟨Nat.zero_le _, Nat.zero_le _⟩ (fun H locs hP hD hS => ?_)
    have hP : va_P (dC, dI) vwCl [(a_p0, .inr (12, oX12 mmI_452 mmJ_452 mmR)), ((mmR 33), .inl (cI, 20, .inl mm_frameF_452)), ((mmR 34), .inl (cI, 20, .inl mm_phaseF_452)), ((mmR 37), .inl (cI, 20, .inl mm_baseF)), ((mmR 40), .inl (cI, 500, .inl mm_opsF_452)), ((mmR 26), .inl (cI, 3200, .inl mm_codeSortF_452)), ((mmR 27), .inl (cI, 3200, .inl mm_codeValueF_452)), ((mmR 0), .inl (cI, 1800, .inl mm_tapeF)), ((mmR 35), .inl (cZ, 20, .inl mm_beginsF_452)), ((mmR 36), .inl (cI, 20, .inl mm_pairF))] H := hP
    have hD : va_D A [(a_p0, .inr (12, oX12 mmI_452 mmJ_452 mmR)), ((mmR 33), .inl (cI, 20, .inl mm_frameF_452)), ((mmR 34), .inl (cI, 20, .inl mm_phaseF_452)), ((mmR 37), .inl (cI, 20, .inl mm_baseF)), ((mmR 40), .inl (cI, 500, .inl mm_opsF_452)), ((mmR 26), .inl (cI, 3200, .inl mm_codeSortF_452)), ((mmR 27), .inl (cI, 3200, .inl mm_codeValueF_452)), ((mmR 0), .inl (cI, 1800, .inl mm_tapeF)), ((mmR 35), .inl (cZ, 20, .inl mm_beginsF_452)), ((mmR 36), .inl (cI, 20, .inl mm_pairF))] := hD
    refine W.eq (g2 := F0 m 458 ls [.int r_1]) rfl ?_
    refine lv_if_ne (tgt := 470) hx hb dX12_goesOn_458 (by decide) (fun c_ => ?_) (fun c_ => ?_)
    · have hf := xq_neg hf c_
      exact b470 mmI_452 mmJ_452 mm_frameF_452 mm_phaseF_452 mm_opsF_452 mm_codeSortF_452 mm_codeValueF_452 mm_beginsF_452 x1_452 x2_452 _ _ _ hf hP hD hS (lv_sub hl [0, 1, 2] rfl)
    · have hf := xq_pos hf c_
      refine lv_aload_n hx hb dX12_goesOn_461 rfl (lv_at hl 0 rfl) ?_
      refine lv_iconst (v := 1) hx hb dX12_goesOn_462 (by decide) ?_
      refine lv_aload_n hx hb dX12_goesOn_463 rfl (lv_at hl 0 rfl) ?_
      refine va_get (D := (dC, dI)) (ci := 12) (v := .int (mmI_452 4)) (C := RX12) (T := TX12) (N := 70) hx hb hts hinX12 hown hK hP 0 rfl rfl 4 (by decide) hw8 (fun _ h9 => h9) rfl dX12_goesOn_464 ?_
      obtain ⟨r_3, h_4, hf⟩ := xq_bd_some hf
      refine xq_callV (As := [.int 1, .int (mmI_452 4)]) (rest := []) (ci := 12) (q0 := 0) ⟨hx, hb, hml, hown, hts⟩ (kX12_blame l dC dI cI cB cJ cZ cM z ad N a_p0 mmI_452 mmJ_452 mmR 1 (mmI_452 4) h_4) (cwV 2 hts gX12_goesOn_X12_blame rfl rfl rfl (by decide +kernel) ⟨Nat.le_of_ble_eq_true rfl, Nat.le_of_ble_eq_true rfl⟩) hN hK hP hD hS hA [0] (by decide) rfl rfl rfl rfl rfl rfl hl.1 rfl (Nat.le_of_ble_eq_true rfl) dX12_goesOn_467 ⟨Nat.zero_le _, Nat.zero_le _⟩ (fun H locs hP hD hS => ?_)
      have hP : va_P (dC, dI) vwCl [(a_p0, .inr (12, oX12 r_3 mmJ_452 mmR)), ((mmR 33), .inl (cI, 20, .inl mm_frameF_452)), ((mmR 34), .inl (cI, 20, .inl mm_phaseF_452)), ((mmR 37), .inl (cI, 20, .inl mm_baseF)), ((mmR 40), .inl (cI, 500, .inl mm_opsF_452)), ((mmR 26), .inl (cI, 3200, .inl mm_codeSortF_452)), ((mmR 27), .inl (cI, 3200, .inl mm_codeValueF_452)), ((mmR 0), .inl (cI, 1800, .inl mm_tapeF)), ((mmR 35), .inl (cZ, 20, .inl mm_beginsF_452)), ((mmR 36), .inl (cI, 20, .inl mm_pairF))] H := hP
      have hD : va_D A [(a_p0, .inr (12, oX12 r_3 mmJ_452 mmR)), ((mmR 33), .inl (cI, 20, .inl mm_frameF_452)), ((mmR 34), .inl (cI, 20, .inl mm_phaseF_452)), ((mmR 37), .inl (cI, 20, .inl mm_baseF)), ((mmR 40), .inl (cI, 500, .inl mm_opsF_452)), ((mmR 26), .inl (cI, 3200, .inl mm_codeSortF_452)), ((mmR 27), .inl (cI, 3200, .inl mm_codeValueF_452)), ((mmR 0), .inl (cI, 1800, .inl mm_tapeF)), ((mmR 35), .inl (cZ, 20, .inl mm_beginsF_452)), ((mmR 36), .inl (cI, 20, .inl mm_pairF))] := hD
      refine W.eq (g2 := F0 m 470 ls []) rfl ?_
      exact b470 r_3 mmJ_452 mm_frameF_452 mm_phaseF_452 mm_opsF_452 mm_codeSortF_452 mm_codeValueF_452 mm_beginsF_452 x1_452 x2_452 _ _ _ hf hP hD hS (lv_sub hl [0, 1, 2] rfl)
  have b422 : ∀ (mmI_422 : Nat → Int32) (mmJ_422 : Nat → Int64) (mm_frameF_422 : Nat → Int32) (mm_phaseF_422 : Nat → Int32) (mm_opsF_422 : Nat → Int32) (mm_codeSortF_422 : Nat → Int32) (mm_codeValueF_422 : Nat → Int32) (mm_beginsF_422 : Nat → Int32) (x1_422 : Int32) (x2_422 : Int32) (ls : Array Slot) (H : Heap) (locs : List Loc), fX12_goesOn_b422 N mm_baseF mm_tapeF mm_pairF (mmI_422, mmJ_422, mm_frameF_422, mm_phaseF_422, mm_opsF_422, mm_codeSortF_422, mm_codeValueF_422, mm_beginsF_422, x1_422, x2_422) = some (r0, r1, r2, r3, r4, r5, r6, r7, r8) → va_P (dC, dI) vwCl [(a_p0, .inr (12, oX12 mmI_422 mmJ_422 mmR)), ((mmR 33), .inl (cI, 20, .inl mm_frameF_422)), ((mmR 34), .inl (cI, 20, .inl mm_phaseF_422)), ((mmR 37), .inl (cI, 20, .inl mm_baseF)), ((mmR 40), .inl (cI, 500, .inl mm_opsF_422)), ((mmR 26), .inl (cI, 3200, .inl mm_codeSortF_422)), ((mmR 27), .inl (cI, 3200, .inl mm_codeValueF_422)), ((mmR 0), .inl (cI, 1800, .inl mm_tapeF)), ((mmR 35), .inl (cZ, 20, .inl mm_beginsF_422)), ((mmR 36), .inl (cI, 20, .inl mm_pairF))] H → va_D A [(a_p0, .inr (12, oX12 mmI_422 mmJ_422 mmR)), ((mmR 33), .inl (cI, 20, .inl mm_frameF_422)), ((mmR 34), .inl (cI, 20, .inl mm_phaseF_422)), ((mmR 37), .inl (cI, 20, .inl mm_baseF)), ((mmR 40), .inl (cI, 500, .inl mm_opsF_422)), ((mmR 26), .inl (cI, 3200, .inl mm_codeSortF_422)), ((mmR 27), .inl (cI, 3200, .inl mm_codeValueF_422)), ((mmR 0), .inl (cI, 1800, .inl mm_tapeF)), ((mmR 35), .inl (cZ, 20, .inl mm_beginsF_422)), ((mmR 36), .inl (cI, 20, .inl mm_pairF))] → va_S A s.heap H locs → lv_has ls 5 [(0, .ref a_p0), (1, .int x1_422), (2, .int x2_422)] → W p l e (headSpec wsX12_goesOn { frames := 2, cells := 0, slots := 0, locals := 45 }).room s m [.ref a_p0].toArray below meth c H locs 0 0 (MQ below (xq_Q (dC, dI) vwCl (xq_tys cI cB cJ cZ cM) A [(a_p0, .inr (12, oX12 r1 r2 mmR)), ((mmR 33), .inl (cI, 20, .inl r3)), ((mmR 34), .inl (cI, 20, .inl r4)), ((mmR 37), .inl (cI, 20, .inl mm_baseF)), ((mmR 40), .inl (cI, 500, .inl r5)), ((mmR 26), .inl (cI, 3200, .inl r6)), ((mmR 27), .inl (cI, 3200, .inl r7)), ((mmR 0), .inl (cI, 1800, .inl mm_tapeF)), ((mmR 35), .inl (cZ, 20, .inl r8)), ((mmR 36), .inl (cI, 20, .inl mm_pairF))] (some (.int r0))) [.ref a_p0].toArray s 0 0 A) (F0 m 422 ls []) := by
    intro mmI_422 mmJ_422 mm_frameF_422 mm_phaseF_422 mm_opsF_422 mm_codeSortF_422 mm_codeValueF_422 mm_beginsF_422 x1_422 x2_422 ls H locs hf hP hD hS hl
    unfold fX12_goesOn_b422 at hf
    refine lv_iload_n hx hb dX12_goesOn_422 rfl (lv_at hl 2 rfl) ?_
    refine lv_iconst (v := 2) hx hb dX12_goesOn_423 (by decide) ?_
    refine lv_icmp_ge (tgt := 441) hx hb dX12_goesOn_424 (by decide) (fun c_ => ?_) (fun c_ => ?_)
    · have hf := xq_pos hf c_
      refine lv_iload_n hx hb dX12_goesOn_441 rfl (lv_at hl 2 rfl) ?_
      refine lv_iconst (v := 3) hx hb dX12_goesOn_442 (by decide) ?_
      refine lv_icmp_eq (tgt := 452) hx hb dX12_goesOn_443 (by decide) (fun c_ => ?_) (fun c_ => ?_)
      · have hf := xq_pos hf c_
        exact b452 mmI_422 mmJ_422 mm_frameF_422 mm_phaseF_422 mm_opsF_422 mm_codeSortF_422 mm_codeValueF_422 mm_beginsF_422 x1_422 x2_422 _ _ _ hf hP hD hS (lv_sub hl [0, 1, 2] rfl)
      · have hf := xq_neg hf c_
        refine lv_iload_n hx hb dX12_goesOn_446 rfl (lv_at hl 2 rfl) ?_
        refine lv_bipush (v := 6) hx hb dX12_goesOn_447 (by decide) ?_
        refine lv_icmp_ne (tgt := 518) hx hb dX12_goesOn_449 (by decide) (fun c_ => ?_) (fun c_ => ?_)
        · have hf := xq_neg hf c_
          refine lv_aload_n hx hb dX12_goesOn_518 rfl (lv_at hl 0 rfl) ?_
          refine lv_iload_n hx hb dX12_goesOn_519 rfl (lv_at hl 2 rfl) ?_
          refine lv_iconst (v := 5) hx hb dX12_goesOn_520 (by decide) ?_
          refine lv_icmp_ne (tgt := 529) hx hb dX12_goesOn_521 (by decide) (fun c_ => ?_) (fun c_ => ?_)
          · have hf := xq_neg hf c_
            refine lv_bipush (v := 41) hx hb dX12_goesOn_529 (by decide) ?_
            exact b531 mmI_422 mmJ_422 mm_frameF_422 mm_phaseF_422 mm_opsF_422 mm_codeSortF_422 mm_codeValueF_422 mm_beginsF_422 x1_422 x2_422 41 _ _ _ hf hP hD hS (lv_sub hl [0, 1, 2] rfl)
          · have hf := xq_pos hf c_
            refine lv_bipush (v := 93) hx hb dX12_goesOn_524 (by decide) ?_
            refine lv_goto (tgt := 531) hx hb dX12_goesOn_526 (by decide) ?_
            exact b531 mmI_422 mmJ_422 mm_frameF_422 mm_phaseF_422 mm_opsF_422 mm_codeSortF_422 mm_codeValueF_422 mm_beginsF_422 x1_422 x2_422 93 _ _ _ hf hP hD hS (lv_sub hl [0, 1, 2] rfl)
        · have hf := xq_pos hf c_
          exact b452 mmI_422 mmJ_422 mm_frameF_422 mm_phaseF_422 mm_opsF_422 mm_codeSortF_422 mm_codeValueF_422 mm_beginsF_422 x1_422 x2_422 _ _ _ hf hP hD hS (lv_sub hl [0, 1, 2] rfl)
    · have hf := xq_neg hf c_
      refine lv_aload_n hx hb dX12_goesOn_427 rfl (lv_at hl 0 rfl) ?_
      refine va_get (D := (dC, dI)) (ci := 12) (v := .int (mmI_422 8)) (C := RX12) (T := TX12) (N := 70) hx hb hts hinX12 hown hK hP 0 rfl rfl 8 (by decide) hw0 (fun _ h9 => h9) rfl dX12_goesOn_428 ?_
      refine lv_if_ne (tgt := 439) hx hb dX12_goesOn_431 (by decide) (fun c_ => ?_) (fun c_ => ?_)
      · have hf := xq_neg hf c_
        refine lv_iconst (v := 0) hx hb dX12_goesOn_439 (by decide) ?_
        have e9 := Option.some.inj hf
        have e9_0 : 0 = r0 := congrArg (fun t => t.1) e9
        have e9_1 : mmI_422 = r1 := congrArg (fun t => t.2.1) e9
        have e9_2 : mmJ_422 = r2 := congrArg (fun t => t.2.2.1) e9
        have e9_3 : mm_frameF_422 = r3 := congrArg (fun t => t.2.2.2.1) e9
        have e9_4 : mm_phaseF_422 = r4 := congrArg (fun t => t.2.2.2.2.1) e9
        have e9_5 : mm_opsF_422 = r5 := congrArg (fun t => t.2.2.2.2.2.1) e9
        have e9_6 : mm_codeSortF_422 = r6 := congrArg (fun t => t.2.2.2.2.2.2.1) e9
        have e9_7 : mm_codeValueF_422 = r7 := congrArg (fun t => t.2.2.2.2.2.2.2.1) e9
        have e9_8 : mm_beginsF_422 = r8 := congrArg (fun t => t.2.2.2.2.2.2.2.2) e9
        clear e9 hf
        try clear b106
        try clear b112
        try clear b174
        try clear b188
        try clear b228
        try clear b264
        try clear b285
        try clear b309
        try clear b327
        try clear b356
        try clear b372
        try clear b400
        try clear b422
        try clear b452
        try clear b470
        try clear b499
        try clear b531
        try clear b546
        try clear b596
        try clear b613
        try clear b87
        subst e9_0
        subst e9_1
        subst e9_2
        subst e9_3
        subst e9_4
        subst e9_5
        subst e9_6
        subst e9_7
        subst e9_8
        exact xq_zret hx hb hr (by decide +kernel) hlocks hK hP hD hS dX12_goesOn_440
      · have hf := xq_pos hf c_
        refine lv_aload_n hx hb dX12_goesOn_434 rfl (lv_at hl 0 rfl) ?_
        refine lv_iconst (v := 1) hx hb dX12_goesOn_435 (by decide) ?_
        obtain ⟨⟨r_1_0, r_1_1, r_1_2⟩, h_2, hf⟩ := xq_bd_some hf
        refine xq_callV (As := [.int 1]) (rest := []) (ci := 12) (q0 := 0) ⟨hx, hb, hml, hown, hts⟩ (kX12_joins l dC dI cI cB cJ cZ cM z ad N a_p0 mmI_422 mmJ_422 mmR mm_baseF mm_opsF_422 mm_codeSortF_422 mm_codeValueF_422 1 h_2) (cwV 1 hts gX12_goesOn_X12_joins rfl rfl rfl (by decide +kernel) ⟨Nat.le_of_ble_eq_true rfl, Nat.le_of_ble_eq_true rfl⟩) hN hK hP hD hS hA [0, 3, 4, 5, 6] (by decide) rfl rfl rfl rfl rfl rfl hl.1 rfl (Nat.le_of_ble_eq_true rfl) dX12_goesOn_436 ⟨Nat.zero_le _, Nat.zero_le _⟩ (fun H locs hP hD hS => ?_)
        have hP : va_P (dC, dI) vwCl [(a_p0, .inr (12, oX12 r_1_0 mmJ_422 mmR)), ((mmR 33), .inl (cI, 20, .inl mm_frameF_422)), ((mmR 34), .inl (cI, 20, .inl mm_phaseF_422)), ((mmR 37), .inl (cI, 20, .inl mm_baseF)), ((mmR 40), .inl (cI, 500, .inl mm_opsF_422)), ((mmR 26), .inl (cI, 3200, .inl r_1_1)), ((mmR 27), .inl (cI, 3200, .inl r_1_2)), ((mmR 0), .inl (cI, 1800, .inl mm_tapeF)), ((mmR 35), .inl (cZ, 20, .inl mm_beginsF_422)), ((mmR 36), .inl (cI, 20, .inl mm_pairF))] H := hP
        have hD : va_D A [(a_p0, .inr (12, oX12 r_1_0 mmJ_422 mmR)), ((mmR 33), .inl (cI, 20, .inl mm_frameF_422)), ((mmR 34), .inl (cI, 20, .inl mm_phaseF_422)), ((mmR 37), .inl (cI, 20, .inl mm_baseF)), ((mmR 40), .inl (cI, 500, .inl mm_opsF_422)), ((mmR 26), .inl (cI, 3200, .inl r_1_1)), ((mmR 27), .inl (cI, 3200, .inl r_1_2)), ((mmR 0), .inl (cI, 1800, .inl mm_tapeF)), ((mmR 35), .inl (cZ, 20, .inl mm_beginsF_422)), ((mmR 36), .inl (cI, 20, .inl mm_pairF))] := hD
        refine W.eq (g2 := F0 m 439 ls []) rfl ?_
        refine lv_iconst (v := 0) hx hb dX12_goesOn_439 (by decide) ?_
        have e9 := Option.some.inj hf
        have e9_0 : 0 = r0 := congrArg (fun t => t.1) e9
        have e9_1 : r_1_0 = r1 := congrArg (fun t => t.2.1) e9
        have e9_2 : mmJ_422 = r2 := congrArg (fun t => t.2.2.1) e9
        have e9_3 : mm_frameF_422 = r3 := congrArg (fun t => t.2.2.2.1) e9
        have e9_4 : mm_phaseF_422 = r4 := congrArg (fun t => t.2.2.2.2.1) e9
        have e9_5 : mm_opsF_422 = r5 := congrArg (fun t => t.2.2.2.2.2.1) e9
        have e9_6 : r_1_1 = r6 := congrArg (fun t => t.2.2.2.2.2.2.1) e9
        have e9_7 : r_1_2 = r7 := congrArg (fun t => t.2.2.2.2.2.2.2.1) e9
        have e9_8 : mm_beginsF_422 = r8 := congrArg (fun t => t.2.2.2.2.2.2.2.2) e9
        clear e9 hf
        try clear b106
        try clear b112
        try clear b174
        try clear b188
        try clear b228
        try clear b264
        try clear b285
        try clear b309
        try clear b327
        try clear b356
        try clear b372
        try clear b400
        try clear b422
        try clear b452
        try clear b470
        try clear b499
        try clear b531
        try clear b546
        try clear b596
        try clear b613
        try clear b87
        subst e9_0
        subst e9_1
        subst e9_2
        subst e9_3
        subst e9_4
        subst e9_5
        subst e9_6
        subst e9_7
        subst e9_8
        exact xq_zret hx hb hr (by decide +kernel) hlocks hK hP hD hS dX12_goesOn_440
  have b400 : ∀ (mmI_400 : Nat → Int32) (mmJ_400 : Nat → Int64) (mm_frameF_400 : Nat → Int32) (mm_phaseF_400 : Nat → Int32) (mm_opsF_400 : Nat → Int32) (mm_codeSortF_400 : Nat → Int32) (mm_codeValueF_400 : Nat → Int32) (mm_beginsF_400 : Nat → Int32) (x1_400 : Int32) (x2_400 : Int32) (x3_400 : Int32) (ls : Array Slot) (H : Heap) (locs : List Loc), fX12_goesOn_b400 N mm_baseF mm_tapeF mm_pairF (mmI_400, mmJ_400, mm_frameF_400, mm_phaseF_400, mm_opsF_400, mm_codeSortF_400, mm_codeValueF_400, mm_beginsF_400, x1_400, x2_400, x3_400) = some (r0, r1, r2, r3, r4, r5, r6, r7, r8) → va_P (dC, dI) vwCl [(a_p0, .inr (12, oX12 mmI_400 mmJ_400 mmR)), ((mmR 33), .inl (cI, 20, .inl mm_frameF_400)), ((mmR 34), .inl (cI, 20, .inl mm_phaseF_400)), ((mmR 37), .inl (cI, 20, .inl mm_baseF)), ((mmR 40), .inl (cI, 500, .inl mm_opsF_400)), ((mmR 26), .inl (cI, 3200, .inl mm_codeSortF_400)), ((mmR 27), .inl (cI, 3200, .inl mm_codeValueF_400)), ((mmR 0), .inl (cI, 1800, .inl mm_tapeF)), ((mmR 35), .inl (cZ, 20, .inl mm_beginsF_400)), ((mmR 36), .inl (cI, 20, .inl mm_pairF))] H → va_D A [(a_p0, .inr (12, oX12 mmI_400 mmJ_400 mmR)), ((mmR 33), .inl (cI, 20, .inl mm_frameF_400)), ((mmR 34), .inl (cI, 20, .inl mm_phaseF_400)), ((mmR 37), .inl (cI, 20, .inl mm_baseF)), ((mmR 40), .inl (cI, 500, .inl mm_opsF_400)), ((mmR 26), .inl (cI, 3200, .inl mm_codeSortF_400)), ((mmR 27), .inl (cI, 3200, .inl mm_codeValueF_400)), ((mmR 0), .inl (cI, 1800, .inl mm_tapeF)), ((mmR 35), .inl (cZ, 20, .inl mm_beginsF_400)), ((mmR 36), .inl (cI, 20, .inl mm_pairF))] → va_S A s.heap H locs → lv_has ls 5 [(0, .ref a_p0), (1, .int x1_400), (2, .int x2_400), (3, .int x3_400)] → W p l e (headSpec wsX12_goesOn { frames := 2, cells := 0, slots := 0, locals := 45 }).room s m [.ref a_p0].toArray below meth c H locs 0 0 (MQ below (xq_Q (dC, dI) vwCl (xq_tys cI cB cJ cZ cM) A [(a_p0, .inr (12, oX12 r1 r2 mmR)), ((mmR 33), .inl (cI, 20, .inl r3)), ((mmR 34), .inl (cI, 20, .inl r4)), ((mmR 37), .inl (cI, 20, .inl mm_baseF)), ((mmR 40), .inl (cI, 500, .inl r5)), ((mmR 26), .inl (cI, 3200, .inl r6)), ((mmR 27), .inl (cI, 3200, .inl r7)), ((mmR 0), .inl (cI, 1800, .inl mm_tapeF)), ((mmR 35), .inl (cZ, 20, .inl r8)), ((mmR 36), .inl (cI, 20, .inl mm_pairF))] (some (.int r0))) [.ref a_p0].toArray s 0 0 A) (F0 m 400 ls []) := by
    intro mmI_400 mmJ_400 mm_frameF_400 mm_phaseF_400 mm_opsF_400 mm_codeSortF_400 mm_codeValueF_400 mm_beginsF_400 x1_400 x2_400 x3_400 ls H locs hf hP hD hS hl
    unfold fX12_goesOn_b400 at hf
    refine lv_iload_n hx hb dX12_goesOn_400 rfl (lv_at hl 3 rfl) ?_
    refine lv_if_eq (tgt := 422) hx hb dX12_goesOn_401 (by decide) (fun c_ => ?_) (fun c_ => ?_)
    · have hf := xq_pos hf c_
      exact b422 mmI_400 mmJ_400 mm_frameF_400 mm_phaseF_400 mm_opsF_400 mm_codeSortF_400 mm_codeValueF_400 mm_beginsF_400 x1_400 x2_400 _ _ _ hf hP hD hS (lv_sub hl [0, 1, 2] rfl)
    · have hf := xq_neg hf c_
      refine lv_aload_n hx hb dX12_goesOn_404 rfl (lv_at hl 0 rfl) ?_
      refine va_get (D := (dC, dI)) (ci := 12) (v := .ref ((mmR 34))) (C := RX12) (T := TX12) (N := 70) hx hb hts hinX12 hown hK hP 0 rfl rfl 34 (by decide) hw4 (fun _ h9 => h9) rfl dX12_goesOn_405 ?_
      refine lv_iload_n hx hb dX12_goesOn_408 rfl (lv_at hl 1 rfl) ?_
      refine xq_iald hx hb hK hP 2 0 rfl rfl hf dX12_goesOn_409 (fun v_1 hf => ?_)
      refine lv_if_ne (tgt := 422) hx hb dX12_goesOn_410 (by decide) (fun c_ => ?_) (fun c_ => ?_)
      · have hf := xq_neg hf c_
        exact b422 mmI_400 mmJ_400 mm_frameF_400 mm_phaseF_400 mm_opsF_400 mm_codeSortF_400 mm_codeValueF_400 mm_beginsF_400 x1_400 x2_400 _ _ _ hf hP hD hS (lv_sub hl [0, 1, 2] rfl)
      · have hf := xq_pos hf c_
        refine lv_aload_n hx hb dX12_goesOn_413 rfl (lv_at hl 0 rfl) ?_
        refine lv_iconst (v := 1) hx hb dX12_goesOn_414 (by decide) ?_
        refine lv_aload_n hx hb dX12_goesOn_415 rfl (lv_at hl 0 rfl) ?_
        refine va_get (D := (dC, dI)) (ci := 12) (v := .int (mmI_400 4)) (C := RX12) (T := TX12) (N := 70) hx hb hts hinX12 hown hK hP 0 rfl rfl 4 (by decide) hw8 (fun _ h9 => h9) rfl dX12_goesOn_416 ?_
        obtain ⟨r_2, h_3, hf⟩ := xq_bd_some hf
        refine xq_callV (As := [.int 1, .int (mmI_400 4)]) (rest := []) (ci := 12) (q0 := 0) ⟨hx, hb, hml, hown, hts⟩ (kX12_blame l dC dI cI cB cJ cZ cM z ad N a_p0 mmI_400 mmJ_400 mmR 1 (mmI_400 4) h_3) (cwV 2 hts gX12_goesOn_X12_blame rfl rfl rfl (by decide +kernel) ⟨Nat.le_of_ble_eq_true rfl, Nat.le_of_ble_eq_true rfl⟩) hN hK hP hD hS hA [0] (by decide) rfl rfl rfl rfl rfl rfl hl.1 rfl (Nat.le_of_ble_eq_true rfl) dX12_goesOn_419 ⟨Nat.zero_le _, Nat.zero_le _⟩ (fun H locs hP hD hS => ?_)
        have hP : va_P (dC, dI) vwCl [(a_p0, .inr (12, oX12 r_2 mmJ_400 mmR)), ((mmR 33), .inl (cI, 20, .inl mm_frameF_400)), ((mmR 34), .inl (cI, 20, .inl mm_phaseF_400)), ((mmR 37), .inl (cI, 20, .inl mm_baseF)), ((mmR 40), .inl (cI, 500, .inl mm_opsF_400)), ((mmR 26), .inl (cI, 3200, .inl mm_codeSortF_400)), ((mmR 27), .inl (cI, 3200, .inl mm_codeValueF_400)), ((mmR 0), .inl (cI, 1800, .inl mm_tapeF)), ((mmR 35), .inl (cZ, 20, .inl mm_beginsF_400)), ((mmR 36), .inl (cI, 20, .inl mm_pairF))] H := hP
        have hD : va_D A [(a_p0, .inr (12, oX12 r_2 mmJ_400 mmR)), ((mmR 33), .inl (cI, 20, .inl mm_frameF_400)), ((mmR 34), .inl (cI, 20, .inl mm_phaseF_400)), ((mmR 37), .inl (cI, 20, .inl mm_baseF)), ((mmR 40), .inl (cI, 500, .inl mm_opsF_400)), ((mmR 26), .inl (cI, 3200, .inl mm_codeSortF_400)), ((mmR 27), .inl (cI, 3200, .inl mm_codeValueF_400)), ((mmR 0), .inl (cI, 1800, .inl mm_tapeF)), ((mmR 35), .inl (cZ, 20, .inl mm_beginsF_400)), ((mmR 36), .inl (cI, 20, .inl mm_pairF))] := hD
        refine W.eq (g2 := F0 m 422 ls []) rfl ?_
        exact b422 r_2 mmJ_400 mm_frameF_400 mm_phaseF_400 mm_opsF_400 mm_codeSortF_400 mm_codeValueF_400 mm_beginsF_400 x1_400 x2_400 _ _ _ hf hP hD hS (lv_sub hl [0, 1, 2] rfl)
  have b372 : ∀ (mmI_372 : Nat → Int32) (mmJ_372 : Nat → Int64) (mm_frameF_372 : Nat → Int32) (mm_phaseF_372 : Nat → Int32) (mm_opsF_372 : Nat → Int32) (mm_codeSortF_372 : Nat → Int32) (mm_codeValueF_372 : Nat → Int32) (mm_beginsF_372 : Nat → Int32) (x1_372 : Int32) (y1_372 : Int32) (ls : Array Slot) (H : Heap) (locs : List Loc), fX12_goesOn_b372 N mm_baseF mm_tapeF mm_pairF (mmI_372, mmJ_372, mm_frameF_372, mm_phaseF_372, mm_opsF_372, mm_codeSortF_372, mm_codeValueF_372, mm_beginsF_372, x1_372, y1_372) = some (r0, r1, r2, r3, r4, r5, r6, r7, r8) → va_P (dC, dI) vwCl [(a_p0, .inr (12, oX12 mmI_372 mmJ_372 mmR)), ((mmR 33), .inl (cI, 20, .inl mm_frameF_372)), ((mmR 34), .inl (cI, 20, .inl mm_phaseF_372)), ((mmR 37), .inl (cI, 20, .inl mm_baseF)), ((mmR 40), .inl (cI, 500, .inl mm_opsF_372)), ((mmR 26), .inl (cI, 3200, .inl mm_codeSortF_372)), ((mmR 27), .inl (cI, 3200, .inl mm_codeValueF_372)), ((mmR 0), .inl (cI, 1800, .inl mm_tapeF)), ((mmR 35), .inl (cZ, 20, .inl mm_beginsF_372)), ((mmR 36), .inl (cI, 20, .inl mm_pairF))] H → va_D A [(a_p0, .inr (12, oX12 mmI_372 mmJ_372 mmR)), ((mmR 33), .inl (cI, 20, .inl mm_frameF_372)), ((mmR 34), .inl (cI, 20, .inl mm_phaseF_372)), ((mmR 37), .inl (cI, 20, .inl mm_baseF)), ((mmR 40), .inl (cI, 500, .inl mm_opsF_372)), ((mmR 26), .inl (cI, 3200, .inl mm_codeSortF_372)), ((mmR 27), .inl (cI, 3200, .inl mm_codeValueF_372)), ((mmR 0), .inl (cI, 1800, .inl mm_tapeF)), ((mmR 35), .inl (cZ, 20, .inl mm_beginsF_372)), ((mmR 36), .inl (cI, 20, .inl mm_pairF))] → va_S A s.heap H locs → lv_has ls 5 [(0, .ref a_p0), (1, .int x1_372)] → W p l e (headSpec wsX12_goesOn { frames := 2, cells := 0, slots := 0, locals := 45 }).room s m [.ref a_p0].toArray below meth c H locs 0 0 (MQ below (xq_Q (dC, dI) vwCl (xq_tys cI cB cJ cZ cM) A [(a_p0, .inr (12, oX12 r1 r2 mmR)), ((mmR 33), .inl (cI, 20, .inl r3)), ((mmR 34), .inl (cI, 20, .inl r4)), ((mmR 37), .inl (cI, 20, .inl mm_baseF)), ((mmR 40), .inl (cI, 500, .inl r5)), ((mmR 26), .inl (cI, 3200, .inl r6)), ((mmR 27), .inl (cI, 3200, .inl r7)), ((mmR 0), .inl (cI, 1800, .inl mm_tapeF)), ((mmR 35), .inl (cZ, 20, .inl r8)), ((mmR 36), .inl (cI, 20, .inl mm_pairF))] (some (.int r0))) [.ref a_p0].toArray s 0 0 A) (F0 m 372 ls [.int y1_372, .ref a_p0]) := by
    intro mmI_372 mmJ_372 mm_frameF_372 mm_phaseF_372 mm_opsF_372 mm_codeSortF_372 mm_codeValueF_372 mm_beginsF_372 x1_372 y1_372 ls H locs hf hP hD hS hl
    unfold fX12_goesOn_b372 at hf
    obtain ⟨⟨r_1_0, r_1_1⟩, h_2, hf⟩ := xq_bd_some hf
    refine xq_callV (As := [.int y1_372]) (rest := []) (ci := 12) (q0 := 0) ⟨hx, hb, hml, hown, hts⟩ (kX12_holdsBack l dC dI cI cB cJ cZ cM z ad N a_p0 mmI_372 mmJ_372 mmR mm_opsF_372 y1_372 h_2) (cwV 1 hts gX12_goesOn_X12_holdsBack rfl rfl rfl (by decide +kernel) ⟨Nat.le_of_ble_eq_true rfl, Nat.le_of_ble_eq_true rfl⟩) hN hK hP hD hS hA [0, 4] (by decide) rfl rfl rfl rfl rfl rfl hl.1 rfl (Nat.le_of_ble_eq_true rfl) dX12_goesOn_372 ⟨Nat.zero_le _, Nat.zero_le _⟩ (fun H locs hP hD hS => ?_)
    have hP : va_P (dC, dI) vwCl [(a_p0, .inr (12, oX12 r_1_0 mmJ_372 mmR)), ((mmR 33), .inl (cI, 20, .inl mm_frameF_372)), ((mmR 34), .inl (cI, 20, .inl mm_phaseF_372)), ((mmR 37), .inl (cI, 20, .inl mm_baseF)), ((mmR 40), .inl (cI, 500, .inl r_1_1)), ((mmR 26), .inl (cI, 3200, .inl mm_codeSortF_372)), ((mmR 27), .inl (cI, 3200, .inl mm_codeValueF_372)), ((mmR 0), .inl (cI, 1800, .inl mm_tapeF)), ((mmR 35), .inl (cZ, 20, .inl mm_beginsF_372)), ((mmR 36), .inl (cI, 20, .inl mm_pairF))] H := hP
    have hD : va_D A [(a_p0, .inr (12, oX12 r_1_0 mmJ_372 mmR)), ((mmR 33), .inl (cI, 20, .inl mm_frameF_372)), ((mmR 34), .inl (cI, 20, .inl mm_phaseF_372)), ((mmR 37), .inl (cI, 20, .inl mm_baseF)), ((mmR 40), .inl (cI, 500, .inl r_1_1)), ((mmR 26), .inl (cI, 3200, .inl mm_codeSortF_372)), ((mmR 27), .inl (cI, 3200, .inl mm_codeValueF_372)), ((mmR 0), .inl (cI, 1800, .inl mm_tapeF)), ((mmR 35), .inl (cZ, 20, .inl mm_beginsF_372)), ((mmR 36), .inl (cI, 20, .inl mm_pairF))] := hD
    refine W.eq (g2 := F0 m 375 ls []) rfl ?_
    refine lv_aload_n hx hb dX12_goesOn_375 rfl (lv_at hl 0 rfl) ?_
    refine va_get (D := (dC, dI)) (ci := 12) (v := .ref ((mmR 34))) (C := RX12) (T := TX12) (N := 70) hx hb hts hinX12 hown hK hP 0 rfl rfl 34 (by decide) hw4 (fun _ h9 => h9) rfl dX12_goesOn_376 ?_
    refine lv_iload_n hx hb dX12_goesOn_379 rfl (lv_at hl 1 rfl) ?_
    refine lv_iconst (v := 0) hx hb dX12_goesOn_380 (by decide) ?_
    refine xq_iast hx hb hK hP hD hS 2 0 rfl rfl hf dX12_goesOn_381 (fun g_3 H locs hf hP hD hS => ?_)
    have hP : va_P (dC, dI) vwCl [(a_p0, .inr (12, oX12 r_1_0 mmJ_372 mmR)), ((mmR 33), .inl (cI, 20, .inl mm_frameF_372)), ((mmR 34), .inl (cI, 20, .inl g_3)), ((mmR 37), .inl (cI, 20, .inl mm_baseF)), ((mmR 40), .inl (cI, 500, .inl r_1_1)), ((mmR 26), .inl (cI, 3200, .inl mm_codeSortF_372)), ((mmR 27), .inl (cI, 3200, .inl mm_codeValueF_372)), ((mmR 0), .inl (cI, 1800, .inl mm_tapeF)), ((mmR 35), .inl (cZ, 20, .inl mm_beginsF_372)), ((mmR 36), .inl (cI, 20, .inl mm_pairF))] H := hP
    have hD : va_D A [(a_p0, .inr (12, oX12 r_1_0 mmJ_372 mmR)), ((mmR 33), .inl (cI, 20, .inl mm_frameF_372)), ((mmR 34), .inl (cI, 20, .inl g_3)), ((mmR 37), .inl (cI, 20, .inl mm_baseF)), ((mmR 40), .inl (cI, 500, .inl r_1_1)), ((mmR 26), .inl (cI, 3200, .inl mm_codeSortF_372)), ((mmR 27), .inl (cI, 3200, .inl mm_codeValueF_372)), ((mmR 0), .inl (cI, 1800, .inl mm_tapeF)), ((mmR 35), .inl (cZ, 20, .inl mm_beginsF_372)), ((mmR 36), .inl (cI, 20, .inl mm_pairF))] := hD
    refine lv_aload_n hx hb dX12_goesOn_382 rfl (lv_at hl 0 rfl) ?_
    refine va_get (D := (dC, dI)) (ci := 12) (v := .ref ((mmR 35))) (C := RX12) (T := TX12) (N := 70) hx hb hts hinX12 hown hK hP 0 rfl rfl 35 (by decide) hw9 (fun _ h9 => h9) rfl dX12_goesOn_383 ?_
    refine lv_iload_n hx hb dX12_goesOn_386 rfl (lv_at hl 1 rfl) ?_
    refine lv_iconst (v := 1) hx hb dX12_goesOn_387 (by decide) ?_
    refine xq_zast hx hb hK hP hD hS 8 3 rfl rfl hf dX12_goesOn_388 (fun g_4 H locs hf hP hD hS => ?_)
    have hP : va_P (dC, dI) vwCl [(a_p0, .inr (12, oX12 r_1_0 mmJ_372 mmR)), ((mmR 33), .inl (cI, 20, .inl mm_frameF_372)), ((mmR 34), .inl (cI, 20, .inl g_3)), ((mmR 37), .inl (cI, 20, .inl mm_baseF)), ((mmR 40), .inl (cI, 500, .inl r_1_1)), ((mmR 26), .inl (cI, 3200, .inl mm_codeSortF_372)), ((mmR 27), .inl (cI, 3200, .inl mm_codeValueF_372)), ((mmR 0), .inl (cI, 1800, .inl mm_tapeF)), ((mmR 35), .inl (cZ, 20, .inl g_4)), ((mmR 36), .inl (cI, 20, .inl mm_pairF))] H := hP
    have hD : va_D A [(a_p0, .inr (12, oX12 r_1_0 mmJ_372 mmR)), ((mmR 33), .inl (cI, 20, .inl mm_frameF_372)), ((mmR 34), .inl (cI, 20, .inl g_3)), ((mmR 37), .inl (cI, 20, .inl mm_baseF)), ((mmR 40), .inl (cI, 500, .inl r_1_1)), ((mmR 26), .inl (cI, 3200, .inl mm_codeSortF_372)), ((mmR 27), .inl (cI, 3200, .inl mm_codeValueF_372)), ((mmR 0), .inl (cI, 1800, .inl mm_tapeF)), ((mmR 35), .inl (cZ, 20, .inl g_4)), ((mmR 36), .inl (cI, 20, .inl mm_pairF))] := hD
    refine lv_aload_n hx hb dX12_goesOn_389 rfl (lv_at hl 0 rfl) ?_
    obtain ⟨⟨r_5_0, r_5_1⟩, h_6, hf⟩ := xq_bd_some hf
    refine xq_callV (As := []) (rest := []) (ci := 12) (q0 := 0) ⟨hx, hb, hml, hown, hts⟩ (kX12_ahead l dC dI cI cB cJ cZ cM z ad N a_p0 r_1_0 mmJ_372 mmR mm_tapeF h_6) (cwV 0 hts gX12_goesOn_X12_ahead rfl rfl rfl (by decide +kernel) ⟨Nat.le_of_ble_eq_true rfl, Nat.le_of_ble_eq_true rfl⟩) hN hK hP hD hS hA [0, 7] (by decide) rfl rfl rfl rfl rfl rfl hl.1 rfl (Nat.le_of_ble_eq_true rfl) dX12_goesOn_390 ⟨Nat.zero_le _, Nat.zero_le _⟩ (fun H locs hP hD hS => ?_)
    have hP : va_P (dC, dI) vwCl [(a_p0, .inr (12, oX12 r_5_0 r_5_1 mmR)), ((mmR 33), .inl (cI, 20, .inl mm_frameF_372)), ((mmR 34), .inl (cI, 20, .inl g_3)), ((mmR 37), .inl (cI, 20, .inl mm_baseF)), ((mmR 40), .inl (cI, 500, .inl r_1_1)), ((mmR 26), .inl (cI, 3200, .inl mm_codeSortF_372)), ((mmR 27), .inl (cI, 3200, .inl mm_codeValueF_372)), ((mmR 0), .inl (cI, 1800, .inl mm_tapeF)), ((mmR 35), .inl (cZ, 20, .inl g_4)), ((mmR 36), .inl (cI, 20, .inl mm_pairF))] H := hP
    have hD : va_D A [(a_p0, .inr (12, oX12 r_5_0 r_5_1 mmR)), ((mmR 33), .inl (cI, 20, .inl mm_frameF_372)), ((mmR 34), .inl (cI, 20, .inl g_3)), ((mmR 37), .inl (cI, 20, .inl mm_baseF)), ((mmR 40), .inl (cI, 500, .inl r_1_1)), ((mmR 26), .inl (cI, 3200, .inl mm_codeSortF_372)), ((mmR 27), .inl (cI, 3200, .inl mm_codeValueF_372)), ((mmR 0), .inl (cI, 1800, .inl mm_tapeF)), ((mmR 35), .inl (cZ, 20, .inl g_4)), ((mmR 36), .inl (cI, 20, .inl mm_pairF))] := hD
    refine W.eq (g2 := F0 m 393 ls []) rfl ?_
    refine lv_aload_n hx hb dX12_goesOn_393 rfl (lv_at hl 0 rfl) ?_
    refine lv_iconst (v := 0) hx hb dX12_goesOn_394 (by decide) ?_
    refine va_put (D := (dC, dI)) (ci := 12) (v := .int 0) (ty := .boolean) (C := RX12) (T := TX12) (N := 70) hx hb hts hinX12 tyX12 tyX12_ok nmX12 hown hK hP hD hS 0 rfl rfl 42 (by decide) hw5 (fun _ h9 => h9) rfl (by decide +kernel) (by decide +kernel) (by decide +kernel) (Nat.le_of_ble_eq_true rfl) dX12_goesOn_395 (fun H locs hP hD hS => ?_)
    have hP : va_P (dC, dI) vwCl [(a_p0, .inr (12, oX12 (va_up r_5_0 42 0) r_5_1 mmR)), ((mmR 33), .inl (cI, 20, .inl mm_frameF_372)), ((mmR 34), .inl (cI, 20, .inl g_3)), ((mmR 37), .inl (cI, 20, .inl mm_baseF)), ((mmR 40), .inl (cI, 500, .inl r_1_1)), ((mmR 26), .inl (cI, 3200, .inl mm_codeSortF_372)), ((mmR 27), .inl (cI, 3200, .inl mm_codeValueF_372)), ((mmR 0), .inl (cI, 1800, .inl mm_tapeF)), ((mmR 35), .inl (cZ, 20, .inl g_4)), ((mmR 36), .inl (cI, 20, .inl mm_pairF))] H := hP
    have hD : va_D A [(a_p0, .inr (12, oX12 (va_up r_5_0 42 0) r_5_1 mmR)), ((mmR 33), .inl (cI, 20, .inl mm_frameF_372)), ((mmR 34), .inl (cI, 20, .inl g_3)), ((mmR 37), .inl (cI, 20, .inl mm_baseF)), ((mmR 40), .inl (cI, 500, .inl r_1_1)), ((mmR 26), .inl (cI, 3200, .inl mm_codeSortF_372)), ((mmR 27), .inl (cI, 3200, .inl mm_codeValueF_372)), ((mmR 0), .inl (cI, 1800, .inl mm_tapeF)), ((mmR 35), .inl (cZ, 20, .inl g_4)), ((mmR 36), .inl (cI, 20, .inl mm_pairF))] := hD
    refine lv_iconst (v := 1) hx hb dX12_goesOn_398 (by decide) ?_
    have e9 := Option.some.inj hf
    have e9_0 : 1 = r0 := congrArg (fun t => t.1) e9
    have e9_1 : (va_up r_5_0 42 0) = r1 := congrArg (fun t => t.2.1) e9
    have e9_2 : r_5_1 = r2 := congrArg (fun t => t.2.2.1) e9
    have e9_3 : mm_frameF_372 = r3 := congrArg (fun t => t.2.2.2.1) e9
    have e9_4 : g_3 = r4 := congrArg (fun t => t.2.2.2.2.1) e9
    have e9_5 : r_1_1 = r5 := congrArg (fun t => t.2.2.2.2.2.1) e9
    have e9_6 : mm_codeSortF_372 = r6 := congrArg (fun t => t.2.2.2.2.2.2.1) e9
    have e9_7 : mm_codeValueF_372 = r7 := congrArg (fun t => t.2.2.2.2.2.2.2.1) e9
    have e9_8 : g_4 = r8 := congrArg (fun t => t.2.2.2.2.2.2.2.2) e9
    clear e9 hf
    try clear b106
    try clear b112
    try clear b174
    try clear b188
    try clear b228
    try clear b264
    try clear b285
    try clear b309
    try clear b327
    try clear b356
    try clear b372
    try clear b400
    try clear b422
    try clear b452
    try clear b470
    try clear b499
    try clear b531
    try clear b546
    try clear b596
    try clear b613
    try clear b87
    subst e9_0
    subst e9_1
    subst e9_2
    subst e9_3
    subst e9_4
    subst e9_5
    subst e9_6
    subst e9_7
    subst e9_8
    exact xq_zret hx hb hr (by decide +kernel) hlocks hK hP hD hS dX12_goesOn_399
  have b356 : ∀ (mmI_356 : Nat → Int32) (mmJ_356 : Nat → Int64) (mm_frameF_356 : Nat → Int32) (mm_phaseF_356 : Nat → Int32) (mm_opsF_356 : Nat → Int32) (mm_codeSortF_356 : Nat → Int32) (mm_codeValueF_356 : Nat → Int32) (mm_beginsF_356 : Nat → Int32) (x1_356 : Int32) (x4_356 : Int32) (y1_356 : Int32) (ls : Array Slot) (H : Heap) (locs : List Loc), fX12_goesOn_b356 N mm_baseF mm_tapeF mm_pairF (mmI_356, mmJ_356, mm_frameF_356, mm_phaseF_356, mm_opsF_356, mm_codeSortF_356, mm_codeValueF_356, mm_beginsF_356, x1_356, x4_356, y1_356) = some (r0, r1, r2, r3, r4, r5, r6, r7, r8) → va_P (dC, dI) vwCl [(a_p0, .inr (12, oX12 mmI_356 mmJ_356 mmR)), ((mmR 33), .inl (cI, 20, .inl mm_frameF_356)), ((mmR 34), .inl (cI, 20, .inl mm_phaseF_356)), ((mmR 37), .inl (cI, 20, .inl mm_baseF)), ((mmR 40), .inl (cI, 500, .inl mm_opsF_356)), ((mmR 26), .inl (cI, 3200, .inl mm_codeSortF_356)), ((mmR 27), .inl (cI, 3200, .inl mm_codeValueF_356)), ((mmR 0), .inl (cI, 1800, .inl mm_tapeF)), ((mmR 35), .inl (cZ, 20, .inl mm_beginsF_356)), ((mmR 36), .inl (cI, 20, .inl mm_pairF))] H → va_D A [(a_p0, .inr (12, oX12 mmI_356 mmJ_356 mmR)), ((mmR 33), .inl (cI, 20, .inl mm_frameF_356)), ((mmR 34), .inl (cI, 20, .inl mm_phaseF_356)), ((mmR 37), .inl (cI, 20, .inl mm_baseF)), ((mmR 40), .inl (cI, 500, .inl mm_opsF_356)), ((mmR 26), .inl (cI, 3200, .inl mm_codeSortF_356)), ((mmR 27), .inl (cI, 3200, .inl mm_codeValueF_356)), ((mmR 0), .inl (cI, 1800, .inl mm_tapeF)), ((mmR 35), .inl (cZ, 20, .inl mm_beginsF_356)), ((mmR 36), .inl (cI, 20, .inl mm_pairF))] → va_S A s.heap H locs → lv_has ls 5 [(0, .ref a_p0), (1, .int x1_356), (4, .int x4_356)] → W p l e (headSpec wsX12_goesOn { frames := 2, cells := 0, slots := 0, locals := 45 }).room s m [.ref a_p0].toArray below meth c H locs 0 0 (MQ below (xq_Q (dC, dI) vwCl (xq_tys cI cB cJ cZ cM) A [(a_p0, .inr (12, oX12 r1 r2 mmR)), ((mmR 33), .inl (cI, 20, .inl r3)), ((mmR 34), .inl (cI, 20, .inl r4)), ((mmR 37), .inl (cI, 20, .inl mm_baseF)), ((mmR 40), .inl (cI, 500, .inl r5)), ((mmR 26), .inl (cI, 3200, .inl r6)), ((mmR 27), .inl (cI, 3200, .inl r7)), ((mmR 0), .inl (cI, 1800, .inl mm_tapeF)), ((mmR 35), .inl (cZ, 20, .inl r8)), ((mmR 36), .inl (cI, 20, .inl mm_pairF))] (some (.int r0))) [.ref a_p0].toArray s 0 0 A) (F0 m 356 ls [.int y1_356, .ref a_p0]) := by
    intro mmI_356 mmJ_356 mm_frameF_356 mm_phaseF_356 mm_opsF_356 mm_codeSortF_356 mm_codeValueF_356 mm_beginsF_356 x1_356 x4_356 y1_356 ls H locs hf hP hD hS hl
    unfold fX12_goesOn_b356 at hf
    obtain ⟨⟨r_1_0, r_1_1, r_1_2⟩, h_2, hf⟩ := xq_bd_some hf
    refine xq_callV (As := [.int y1_356]) (rest := []) (ci := 12) (q0 := 0) ⟨hx, hb, hml, hown, hts⟩ (kX12_joins l dC dI cI cB cJ cZ cM z ad N a_p0 mmI_356 mmJ_356 mmR mm_baseF mm_opsF_356 mm_codeSortF_356 mm_codeValueF_356 y1_356 h_2) (cwV 1 hts gX12_goesOn_X12_joins rfl rfl rfl (by decide +kernel) ⟨Nat.le_of_ble_eq_true rfl, Nat.le_of_ble_eq_true rfl⟩) hN hK hP hD hS hA [0, 3, 4, 5, 6] (by decide) rfl rfl rfl rfl rfl rfl hl.1 rfl (Nat.le_of_ble_eq_true rfl) dX12_goesOn_356 ⟨Nat.zero_le _, Nat.zero_le _⟩ (fun H locs hP hD hS => ?_)
    have hP : va_P (dC, dI) vwCl [(a_p0, .inr (12, oX12 r_1_0 mmJ_356 mmR)), ((mmR 33), .inl (cI, 20, .inl mm_frameF_356)), ((mmR 34), .inl (cI, 20, .inl mm_phaseF_356)), ((mmR 37), .inl (cI, 20, .inl mm_baseF)), ((mmR 40), .inl (cI, 500, .inl mm_opsF_356)), ((mmR 26), .inl (cI, 3200, .inl r_1_1)), ((mmR 27), .inl (cI, 3200, .inl r_1_2)), ((mmR 0), .inl (cI, 1800, .inl mm_tapeF)), ((mmR 35), .inl (cZ, 20, .inl mm_beginsF_356)), ((mmR 36), .inl (cI, 20, .inl mm_pairF))] H := hP
    have hD : va_D A [(a_p0, .inr (12, oX12 r_1_0 mmJ_356 mmR)), ((mmR 33), .inl (cI, 20, .inl mm_frameF_356)), ((mmR 34), .inl (cI, 20, .inl mm_phaseF_356)), ((mmR 37), .inl (cI, 20, .inl mm_baseF)), ((mmR 40), .inl (cI, 500, .inl mm_opsF_356)), ((mmR 26), .inl (cI, 3200, .inl r_1_1)), ((mmR 27), .inl (cI, 3200, .inl r_1_2)), ((mmR 0), .inl (cI, 1800, .inl mm_tapeF)), ((mmR 35), .inl (cZ, 20, .inl mm_beginsF_356)), ((mmR 36), .inl (cI, 20, .inl mm_pairF))] := hD
    refine W.eq (g2 := F0 m 359 ls []) rfl ?_
    refine lv_aload_n hx hb dX12_goesOn_359 rfl (lv_at hl 0 rfl) ?_
    refine lv_iload hx hb dX12_goesOn_360 (lv_at hl 2 rfl) ?_
    refine lv_if_eq (tgt := 370) hx hb dX12_goesOn_362 (by decide) (fun c_ => ?_) (fun c_ => ?_)
    · have hf := xq_pos hf c_
      refine lv_bipush (v := 42) hx hb dX12_goesOn_370 (by decide) ?_
      exact b372 r_1_0 mmJ_356 mm_frameF_356 mm_phaseF_356 mm_opsF_356 r_1_1 r_1_2 mm_beginsF_356 x1_356 42 _ _ _ hf hP hD hS (lv_sub hl [0, 1] rfl)
    · have hf := xq_neg hf c_
      refine lv_bipush (v := 41) hx hb dX12_goesOn_365 (by decide) ?_
      refine lv_goto (tgt := 372) hx hb dX12_goesOn_367 (by decide) ?_
      exact b372 r_1_0 mmJ_356 mm_frameF_356 mm_phaseF_356 mm_opsF_356 r_1_1 r_1_2 mm_beginsF_356 x1_356 41 _ _ _ hf hP hD hS (lv_sub hl [0, 1] rfl)
  have b327 : ∀ (mmI_327 : Nat → Int32) (mmJ_327 : Nat → Int64) (mm_frameF_327 : Nat → Int32) (mm_phaseF_327 : Nat → Int32) (mm_opsF_327 : Nat → Int32) (mm_codeSortF_327 : Nat → Int32) (mm_codeValueF_327 : Nat → Int32) (mm_beginsF_327 : Nat → Int32) (x1_327 : Int32) (ls : Array Slot) (H : Heap) (locs : List Loc), fX12_goesOn_b327 N mm_baseF mm_tapeF mm_pairF (mmI_327, mmJ_327, mm_frameF_327, mm_phaseF_327, mm_opsF_327, mm_codeSortF_327, mm_codeValueF_327, mm_beginsF_327, x1_327) = some (r0, r1, r2, r3, r4, r5, r6, r7, r8) → va_P (dC, dI) vwCl [(a_p0, .inr (12, oX12 mmI_327 mmJ_327 mmR)), ((mmR 33), .inl (cI, 20, .inl mm_frameF_327)), ((mmR 34), .inl (cI, 20, .inl mm_phaseF_327)), ((mmR 37), .inl (cI, 20, .inl mm_baseF)), ((mmR 40), .inl (cI, 500, .inl mm_opsF_327)), ((mmR 26), .inl (cI, 3200, .inl mm_codeSortF_327)), ((mmR 27), .inl (cI, 3200, .inl mm_codeValueF_327)), ((mmR 0), .inl (cI, 1800, .inl mm_tapeF)), ((mmR 35), .inl (cZ, 20, .inl mm_beginsF_327)), ((mmR 36), .inl (cI, 20, .inl mm_pairF))] H → va_D A [(a_p0, .inr (12, oX12 mmI_327 mmJ_327 mmR)), ((mmR 33), .inl (cI, 20, .inl mm_frameF_327)), ((mmR 34), .inl (cI, 20, .inl mm_phaseF_327)), ((mmR 37), .inl (cI, 20, .inl mm_baseF)), ((mmR 40), .inl (cI, 500, .inl mm_opsF_327)), ((mmR 26), .inl (cI, 3200, .inl mm_codeSortF_327)), ((mmR 27), .inl (cI, 3200, .inl mm_codeValueF_327)), ((mmR 0), .inl (cI, 1800, .inl mm_tapeF)), ((mmR 35), .inl (cZ, 20, .inl mm_beginsF_327)), ((mmR 36), .inl (cI, 20, .inl mm_pairF))] → va_S A s.heap H locs → lv_has ls 5 [(0, .ref a_p0), (1, .int x1_327)] → W p l e (headSpec wsX12_goesOn { frames := 2, cells := 0, slots := 0, locals := 45 }).room s m [.ref a_p0].toArray below meth c H locs 0 0 (MQ below (xq_Q (dC, dI) vwCl (xq_tys cI cB cJ cZ cM) A [(a_p0, .inr (12, oX12 r1 r2 mmR)), ((mmR 33), .inl (cI, 20, .inl r3)), ((mmR 34), .inl (cI, 20, .inl r4)), ((mmR 37), .inl (cI, 20, .inl mm_baseF)), ((mmR 40), .inl (cI, 500, .inl r5)), ((mmR 26), .inl (cI, 3200, .inl r6)), ((mmR 27), .inl (cI, 3200, .inl r7)), ((mmR 0), .inl (cI, 1800, .inl mm_tapeF)), ((mmR 35), .inl (cZ, 20, .inl r8)), ((mmR 36), .inl (cI, 20, .inl mm_pairF))] (some (.int r0))) [.ref a_p0].toArray s 0 0 A) (F0 m 327 ls []) := by
    intro mmI_327 mmJ_327 mm_frameF_327 mm_phaseF_327 mm_opsF_327 mm_codeSortF_327 mm_codeValueF_327 mm_beginsF_327 x1_327 ls H locs hf hP hD hS hl
    unfold fX12_goesOn_b327 at hf
    refine lv_aload_n hx hb dX12_goesOn_327 rfl (lv_at hl 0 rfl) ?_
    refine va_get (D := (dC, dI)) (ci := 12) (v := .int (mmI_327 8)) (C := RX12) (T := TX12) (N := 70) hx hb hts hinX12 hown hK hP 0 rfl rfl 8 (by decide) hw0 (fun _ h9 => h9) rfl dX12_goesOn_328 ?_
    refine lv_if_le (tgt := 336) hx hb dX12_goesOn_331 (by decide) (fun c_ => ?_) (fun c_ => ?_)
    · have hf := xq_pos hf c_
      refine lv_aload_n hx hb dX12_goesOn_336 rfl (lv_at hl 0 rfl) ?_
      refine lv_ldc2 (v := 6385252) hx hb hown hw6 dX12_goesOn_337 ?_
      obtain ⟨r_1, h_2, hf⟩ := xq_bd_some hf
      refine xq_callV (As := [.long 6385252]) (rest := []) (ci := 12) (q0 := 0) ⟨hx, hb, hml, hown, hts⟩ (kX12_isWord l dC dI cI cB cJ cZ cM z ad N a_p0 mmI_327 mmJ_327 mmR 6385252 h_2) (cwV 1 hts gX12_goesOn_X12_isWord rfl rfl rfl (by decide +kernel) ⟨Nat.le_of_ble_eq_true rfl, Nat.le_of_ble_eq_true rfl⟩) hN hK hP hD hS hA [0] (by decide) rfl rfl rfl rfl rfl rfl hl.1 rfl (Nat.le_of_ble_eq_true rfl) dX12_goesOn_340 ⟨Nat.zero_le _, Nat.zero_le _⟩ (fun H locs hP hD hS => ?_)
      have hP : va_P (dC, dI) vwCl [(a_p0, .inr (12, oX12 mmI_327 mmJ_327 mmR)), ((mmR 33), .inl (cI, 20, .inl mm_frameF_327)), ((mmR 34), .inl (cI, 20, .inl mm_phaseF_327)), ((mmR 37), .inl (cI, 20, .inl mm_baseF)), ((mmR 40), .inl (cI, 500, .inl mm_opsF_327)), ((mmR 26), .inl (cI, 3200, .inl mm_codeSortF_327)), ((mmR 27), .inl (cI, 3200, .inl mm_codeValueF_327)), ((mmR 0), .inl (cI, 1800, .inl mm_tapeF)), ((mmR 35), .inl (cZ, 20, .inl mm_beginsF_327)), ((mmR 36), .inl (cI, 20, .inl mm_pairF))] H := hP
      have hD : va_D A [(a_p0, .inr (12, oX12 mmI_327 mmJ_327 mmR)), ((mmR 33), .inl (cI, 20, .inl mm_frameF_327)), ((mmR 34), .inl (cI, 20, .inl mm_phaseF_327)), ((mmR 37), .inl (cI, 20, .inl mm_baseF)), ((mmR 40), .inl (cI, 500, .inl mm_opsF_327)), ((mmR 26), .inl (cI, 3200, .inl mm_codeSortF_327)), ((mmR 27), .inl (cI, 3200, .inl mm_codeValueF_327)), ((mmR 0), .inl (cI, 1800, .inl mm_tapeF)), ((mmR 35), .inl (cZ, 20, .inl mm_beginsF_327)), ((mmR 36), .inl (cI, 20, .inl mm_pairF))] := hD
      refine W.eq (g2 := F0 m 343 ls [.int r_1]) rfl ?_
      refine lv_istore (lv' := [(4, .int r_1), (0, .ref a_p0), (1, .int x1_327)]) hx hb dX12_goesOn_343 hl (by decide) rfl (fun ls hl => ?_)
      refine lv_aload_n hx hb dX12_goesOn_345 rfl (lv_at hl 1 rfl) ?_
      refine lv_iload hx hb dX12_goesOn_346 (lv_at hl 0 rfl) ?_
      refine lv_if_eq (tgt := 355) hx hb dX12_goesOn_348 (by decide) (fun c_ => ?_) (fun c_ => ?_)
      · have hf := xq_pos hf c_
        refine lv_iconst (v := 1) hx hb dX12_goesOn_355 (by decide) ?_
        exact b356 mmI_327 mmJ_327 mm_frameF_327 mm_phaseF_327 mm_opsF_327 mm_codeSortF_327 mm_codeValueF_327 mm_beginsF_327 x1_327 r_1 1 _ _ _ hf hP hD hS (lv_sub hl [1, 2, 0] rfl)
      · have hf := xq_neg hf c_
        refine lv_iconst (v := 2) hx hb dX12_goesOn_351 (by decide) ?_
        refine lv_goto (tgt := 356) hx hb dX12_goesOn_352 (by decide) ?_
        exact b356 mmI_327 mmJ_327 mm_frameF_327 mm_phaseF_327 mm_opsF_327 mm_codeSortF_327 mm_codeValueF_327 mm_beginsF_327 x1_327 r_1 2 _ _ _ hf hP hD hS (lv_sub hl [1, 2, 0] rfl)
    · have hf := xq_neg hf c_
      refine lv_iconst (v := 0) hx hb dX12_goesOn_334 (by decide) ?_
      have e9 := Option.some.inj hf
      have e9_0 : 0 = r0 := congrArg (fun t => t.1) e9
      have e9_1 : mmI_327 = r1 := congrArg (fun t => t.2.1) e9
      have e9_2 : mmJ_327 = r2 := congrArg (fun t => t.2.2.1) e9
      have e9_3 : mm_frameF_327 = r3 := congrArg (fun t => t.2.2.2.1) e9
      have e9_4 : mm_phaseF_327 = r4 := congrArg (fun t => t.2.2.2.2.1) e9
      have e9_5 : mm_opsF_327 = r5 := congrArg (fun t => t.2.2.2.2.2.1) e9
      have e9_6 : mm_codeSortF_327 = r6 := congrArg (fun t => t.2.2.2.2.2.2.1) e9
      have e9_7 : mm_codeValueF_327 = r7 := congrArg (fun t => t.2.2.2.2.2.2.2.1) e9
      have e9_8 : mm_beginsF_327 = r8 := congrArg (fun t => t.2.2.2.2.2.2.2.2) e9
      clear e9 hf
      try clear b106
      try clear b112
      try clear b174
      try clear b188
      try clear b228
      try clear b264
      try clear b285
      try clear b309
      try clear b327
      try clear b356
      try clear b372
      try clear b400
      try clear b422
      try clear b452
      try clear b470
      try clear b499
      try clear b531
      try clear b546
      try clear b596
      try clear b613
      try clear b87
      subst e9_0
      subst e9_1
      subst e9_2
      subst e9_3
      subst e9_4
      subst e9_5
      subst e9_6
      subst e9_7
      subst e9_8
      exact xq_zret hx hb hr (by decide +kernel) hlocks hK hP hD hS dX12_goesOn_335
  have b309 : ∀ (mmI_309 : Nat → Int32) (mmJ_309 : Nat → Int64) (mm_frameF_309 : Nat → Int32) (mm_phaseF_309 : Nat → Int32) (mm_opsF_309 : Nat → Int32) (mm_codeSortF_309 : Nat → Int32) (mm_codeValueF_309 : Nat → Int32) (mm_beginsF_309 : Nat → Int32) (x1_309 : Int32) (ls : Array Slot) (H : Heap) (locs : List Loc), fX12_goesOn_b309 N mm_baseF mm_tapeF mm_pairF (mmI_309, mmJ_309, mm_frameF_309, mm_phaseF_309, mm_opsF_309, mm_codeSortF_309, mm_codeValueF_309, mm_beginsF_309, x1_309) = some (r0, r1, r2, r3, r4, r5, r6, r7, r8) → va_P (dC, dI) vwCl [(a_p0, .inr (12, oX12 mmI_309 mmJ_309 mmR)), ((mmR 33), .inl (cI, 20, .inl mm_frameF_309)), ((mmR 34), .inl (cI, 20, .inl mm_phaseF_309)), ((mmR 37), .inl (cI, 20, .inl mm_baseF)), ((mmR 40), .inl (cI, 500, .inl mm_opsF_309)), ((mmR 26), .inl (cI, 3200, .inl mm_codeSortF_309)), ((mmR 27), .inl (cI, 3200, .inl mm_codeValueF_309)), ((mmR 0), .inl (cI, 1800, .inl mm_tapeF)), ((mmR 35), .inl (cZ, 20, .inl mm_beginsF_309)), ((mmR 36), .inl (cI, 20, .inl mm_pairF))] H → va_D A [(a_p0, .inr (12, oX12 mmI_309 mmJ_309 mmR)), ((mmR 33), .inl (cI, 20, .inl mm_frameF_309)), ((mmR 34), .inl (cI, 20, .inl mm_phaseF_309)), ((mmR 37), .inl (cI, 20, .inl mm_baseF)), ((mmR 40), .inl (cI, 500, .inl mm_opsF_309)), ((mmR 26), .inl (cI, 3200, .inl mm_codeSortF_309)), ((mmR 27), .inl (cI, 3200, .inl mm_codeValueF_309)), ((mmR 0), .inl (cI, 1800, .inl mm_tapeF)), ((mmR 35), .inl (cZ, 20, .inl mm_beginsF_309)), ((mmR 36), .inl (cI, 20, .inl mm_pairF))] → va_S A s.heap H locs → lv_has ls 5 [(0, .ref a_p0), (1, .int x1_309)] → W p l e (headSpec wsX12_goesOn { frames := 2, cells := 0, slots := 0, locals := 45 }).room s m [.ref a_p0].toArray below meth c H locs 0 0 (MQ below (xq_Q (dC, dI) vwCl (xq_tys cI cB cJ cZ cM) A [(a_p0, .inr (12, oX12 r1 r2 mmR)), ((mmR 33), .inl (cI, 20, .inl r3)), ((mmR 34), .inl (cI, 20, .inl r4)), ((mmR 37), .inl (cI, 20, .inl mm_baseF)), ((mmR 40), .inl (cI, 500, .inl r5)), ((mmR 26), .inl (cI, 3200, .inl r6)), ((mmR 27), .inl (cI, 3200, .inl r7)), ((mmR 0), .inl (cI, 1800, .inl mm_tapeF)), ((mmR 35), .inl (cZ, 20, .inl r8)), ((mmR 36), .inl (cI, 20, .inl mm_pairF))] (some (.int r0))) [.ref a_p0].toArray s 0 0 A) (F0 m 309 ls []) := by
    intro mmI_309 mmJ_309 mm_frameF_309 mm_phaseF_309 mm_opsF_309 mm_codeSortF_309 mm_codeValueF_309 mm_beginsF_309 x1_309 ls H locs hf hP hD hS hl
    unfold fX12_goesOn_b309 at hf
    refine lv_aload_n hx hb dX12_goesOn_309 rfl (lv_at hl 0 rfl) ?_
    refine va_get (D := (dC, dI)) (ci := 12) (v := .ref ((mmR 34))) (C := RX12) (T := TX12) (N := 70) hx hb hts hinX12 hown hK hP 0 rfl rfl 34 (by decide) hw4 (fun _ h9 => h9) rfl dX12_goesOn_310 ?_
    refine lv_iload_n hx hb dX12_goesOn_313 rfl (lv_at hl 1 rfl) ?_
    refine xq_iald hx hb hK hP 2 0 rfl rfl hf dX12_goesOn_314 (fun v_1 hf => ?_)
    refine lv_if_ne (tgt := 327) hx hb dX12_goesOn_315 (by decide) (fun c_ => ?_) (fun c_ => ?_)
    · have hf := xq_neg hf c_
      exact b327 mmI_309 mmJ_309 mm_frameF_309 mm_phaseF_309 mm_opsF_309 mm_codeSortF_309 mm_codeValueF_309 mm_beginsF_309 x1_309 _ _ _ hf hP hD hS (lv_sub hl [0, 1] rfl)
    · have hf := xq_pos hf c_
      refine lv_aload_n hx hb dX12_goesOn_318 rfl (lv_at hl 0 rfl) ?_
      refine lv_iconst (v := 1) hx hb dX12_goesOn_319 (by decide) ?_
      refine lv_aload_n hx hb dX12_goesOn_320 rfl (lv_at hl 0 rfl) ?_
      refine va_get (D := (dC, dI)) (ci := 12) (v := .int (mmI_309 4)) (C := RX12) (T := TX12) (N := 70) hx hb hts hinX12 hown hK hP 0 rfl rfl 4 (by decide) hw8 (fun _ h9 => h9) rfl dX12_goesOn_321 ?_
      obtain ⟨r_2, h_3, hf⟩ := xq_bd_some hf
      refine xq_callV (As := [.int 1, .int (mmI_309 4)]) (rest := []) (ci := 12) (q0 := 0) ⟨hx, hb, hml, hown, hts⟩ (kX12_blame l dC dI cI cB cJ cZ cM z ad N a_p0 mmI_309 mmJ_309 mmR 1 (mmI_309 4) h_3) (cwV 2 hts gX12_goesOn_X12_blame rfl rfl rfl (by decide +kernel) ⟨Nat.le_of_ble_eq_true rfl, Nat.le_of_ble_eq_true rfl⟩) hN hK hP hD hS hA [0] (by decide) rfl rfl rfl rfl rfl rfl hl.1 rfl (Nat.le_of_ble_eq_true rfl) dX12_goesOn_324 ⟨Nat.zero_le _, Nat.zero_le _⟩ (fun H locs hP hD hS => ?_)
      have hP : va_P (dC, dI) vwCl [(a_p0, .inr (12, oX12 r_2 mmJ_309 mmR)), ((mmR 33), .inl (cI, 20, .inl mm_frameF_309)), ((mmR 34), .inl (cI, 20, .inl mm_phaseF_309)), ((mmR 37), .inl (cI, 20, .inl mm_baseF)), ((mmR 40), .inl (cI, 500, .inl mm_opsF_309)), ((mmR 26), .inl (cI, 3200, .inl mm_codeSortF_309)), ((mmR 27), .inl (cI, 3200, .inl mm_codeValueF_309)), ((mmR 0), .inl (cI, 1800, .inl mm_tapeF)), ((mmR 35), .inl (cZ, 20, .inl mm_beginsF_309)), ((mmR 36), .inl (cI, 20, .inl mm_pairF))] H := hP
      have hD : va_D A [(a_p0, .inr (12, oX12 r_2 mmJ_309 mmR)), ((mmR 33), .inl (cI, 20, .inl mm_frameF_309)), ((mmR 34), .inl (cI, 20, .inl mm_phaseF_309)), ((mmR 37), .inl (cI, 20, .inl mm_baseF)), ((mmR 40), .inl (cI, 500, .inl mm_opsF_309)), ((mmR 26), .inl (cI, 3200, .inl mm_codeSortF_309)), ((mmR 27), .inl (cI, 3200, .inl mm_codeValueF_309)), ((mmR 0), .inl (cI, 1800, .inl mm_tapeF)), ((mmR 35), .inl (cZ, 20, .inl mm_beginsF_309)), ((mmR 36), .inl (cI, 20, .inl mm_pairF))] := hD
      refine W.eq (g2 := F0 m 327 ls []) rfl ?_
      exact b327 r_2 mmJ_309 mm_frameF_309 mm_phaseF_309 mm_opsF_309 mm_codeSortF_309 mm_codeValueF_309 mm_beginsF_309 x1_309 _ _ _ hf hP hD hS (lv_sub hl [0, 1] rfl)
  have b285 : ∀ (mmI_285 : Nat → Int32) (mmJ_285 : Nat → Int64) (mm_frameF_285 : Nat → Int32) (mm_phaseF_285 : Nat → Int32) (mm_opsF_285 : Nat → Int32) (mm_codeSortF_285 : Nat → Int32) (mm_codeValueF_285 : Nat → Int32) (mm_beginsF_285 : Nat → Int32) (x1_285 : Int32) (x2_285 : Int32) (x3_285 : Int32) (ls : Array Slot) (H : Heap) (locs : List Loc), fX12_goesOn_b285 N mm_baseF mm_tapeF mm_pairF (mmI_285, mmJ_285, mm_frameF_285, mm_phaseF_285, mm_opsF_285, mm_codeSortF_285, mm_codeValueF_285, mm_beginsF_285, x1_285, x2_285, x3_285) = some (r0, r1, r2, r3, r4, r5, r6, r7, r8) → va_P (dC, dI) vwCl [(a_p0, .inr (12, oX12 mmI_285 mmJ_285 mmR)), ((mmR 33), .inl (cI, 20, .inl mm_frameF_285)), ((mmR 34), .inl (cI, 20, .inl mm_phaseF_285)), ((mmR 37), .inl (cI, 20, .inl mm_baseF)), ((mmR 40), .inl (cI, 500, .inl mm_opsF_285)), ((mmR 26), .inl (cI, 3200, .inl mm_codeSortF_285)), ((mmR 27), .inl (cI, 3200, .inl mm_codeValueF_285)), ((mmR 0), .inl (cI, 1800, .inl mm_tapeF)), ((mmR 35), .inl (cZ, 20, .inl mm_beginsF_285)), ((mmR 36), .inl (cI, 20, .inl mm_pairF))] H → va_D A [(a_p0, .inr (12, oX12 mmI_285 mmJ_285 mmR)), ((mmR 33), .inl (cI, 20, .inl mm_frameF_285)), ((mmR 34), .inl (cI, 20, .inl mm_phaseF_285)), ((mmR 37), .inl (cI, 20, .inl mm_baseF)), ((mmR 40), .inl (cI, 500, .inl mm_opsF_285)), ((mmR 26), .inl (cI, 3200, .inl mm_codeSortF_285)), ((mmR 27), .inl (cI, 3200, .inl mm_codeValueF_285)), ((mmR 0), .inl (cI, 1800, .inl mm_tapeF)), ((mmR 35), .inl (cZ, 20, .inl mm_beginsF_285)), ((mmR 36), .inl (cI, 20, .inl mm_pairF))] → va_S A s.heap H locs → lv_has ls 5 [(0, .ref a_p0), (1, .int x1_285), (2, .int x2_285), (3, .int x3_285)] → W p l e (headSpec wsX12_goesOn { frames := 2, cells := 0, slots := 0, locals := 45 }).room s m [.ref a_p0].toArray below meth c H locs 0 0 (MQ below (xq_Q (dC, dI) vwCl (xq_tys cI cB cJ cZ cM) A [(a_p0, .inr (12, oX12 r1 r2 mmR)), ((mmR 33), .inl (cI, 20, .inl r3)), ((mmR 34), .inl (cI, 20, .inl r4)), ((mmR 37), .inl (cI, 20, .inl mm_baseF)), ((mmR 40), .inl (cI, 500, .inl r5)), ((mmR 26), .inl (cI, 3200, .inl r6)), ((mmR 27), .inl (cI, 3200, .inl r7)), ((mmR 0), .inl (cI, 1800, .inl mm_tapeF)), ((mmR 35), .inl (cZ, 20, .inl r8)), ((mmR 36), .inl (cI, 20, .inl mm_pairF))] (some (.int r0))) [.ref a_p0].toArray s 0 0 A) (F0 m 285 ls []) := by
    intro mmI_285 mmJ_285 mm_frameF_285 mm_phaseF_285 mm_opsF_285 mm_codeSortF_285 mm_codeValueF_285 mm_beginsF_285 x1_285 x2_285 x3_285 ls H locs hf hP hD hS hl
    unfold fX12_goesOn_b285 at hf
    refine lv_iload_n hx hb dX12_goesOn_285 rfl (lv_at hl 3 rfl) ?_
    refine lv_if_eq (tgt := 400) hx hb dX12_goesOn_286 (by decide) (fun c_ => ?_) (fun c_ => ?_)
    · have hf := xq_pos hf c_
      exact b400 mmI_285 mmJ_285 mm_frameF_285 mm_phaseF_285 mm_opsF_285 mm_codeSortF_285 mm_codeValueF_285 mm_beginsF_285 x1_285 x2_285 x3_285 _ _ _ hf hP hD hS (lv_sub hl [0, 1, 2, 3] rfl)
    · have hf := xq_neg hf c_
      refine lv_aload_n hx hb dX12_goesOn_289 rfl (lv_at hl 0 rfl) ?_
      refine lv_ldc2 (v := 6385252) hx hb hown hw6 dX12_goesOn_290 ?_
      obtain ⟨r_1, h_2, hf⟩ := xq_bd_some hf
      refine xq_callV (As := [.long 6385252]) (rest := []) (ci := 12) (q0 := 0) ⟨hx, hb, hml, hown, hts⟩ (kX12_isWord l dC dI cI cB cJ cZ cM z ad N a_p0 mmI_285 mmJ_285 mmR 6385252 h_2) (cwV 1 hts gX12_goesOn_X12_isWord rfl rfl rfl (by decide +kernel) ⟨Nat.le_of_ble_eq_true rfl, Nat.le_of_ble_eq_true rfl⟩) hN hK hP hD hS hA [0] (by decide) rfl rfl rfl rfl rfl rfl hl.1 rfl (Nat.le_of_ble_eq_true rfl) dX12_goesOn_293 ⟨Nat.zero_le _, Nat.zero_le _⟩ (fun H locs hP hD hS => ?_)
      have hP : va_P (dC, dI) vwCl [(a_p0, .inr (12, oX12 mmI_285 mmJ_285 mmR)), ((mmR 33), .inl (cI, 20, .inl mm_frameF_285)), ((mmR 34), .inl (cI, 20, .inl mm_phaseF_285)), ((mmR 37), .inl (cI, 20, .inl mm_baseF)), ((mmR 40), .inl (cI, 500, .inl mm_opsF_285)), ((mmR 26), .inl (cI, 3200, .inl mm_codeSortF_285)), ((mmR 27), .inl (cI, 3200, .inl mm_codeValueF_285)), ((mmR 0), .inl (cI, 1800, .inl mm_tapeF)), ((mmR 35), .inl (cZ, 20, .inl mm_beginsF_285)), ((mmR 36), .inl (cI, 20, .inl mm_pairF))] H := hP
      have hD : va_D A [(a_p0, .inr (12, oX12 mmI_285 mmJ_285 mmR)), ((mmR 33), .inl (cI, 20, .inl mm_frameF_285)), ((mmR 34), .inl (cI, 20, .inl mm_phaseF_285)), ((mmR 37), .inl (cI, 20, .inl mm_baseF)), ((mmR 40), .inl (cI, 500, .inl mm_opsF_285)), ((mmR 26), .inl (cI, 3200, .inl mm_codeSortF_285)), ((mmR 27), .inl (cI, 3200, .inl mm_codeValueF_285)), ((mmR 0), .inl (cI, 1800, .inl mm_tapeF)), ((mmR 35), .inl (cZ, 20, .inl mm_beginsF_285)), ((mmR 36), .inl (cI, 20, .inl mm_pairF))] := hD
      refine W.eq (g2 := F0 m 296 ls [.int r_1]) rfl ?_
      refine lv_if_ne (tgt := 309) hx hb dX12_goesOn_296 (by decide) (fun c_ => ?_) (fun c_ => ?_)
      · have hf := xq_neg hf c_
        exact b309 mmI_285 mmJ_285 mm_frameF_285 mm_phaseF_285 mm_opsF_285 mm_codeSortF_285 mm_codeValueF_285 mm_beginsF_285 x1_285 _ _ _ hf hP hD hS (lv_sub hl [0, 1] rfl)
      · have hf := xq_pos hf c_
        refine lv_aload_n hx hb dX12_goesOn_299 rfl (lv_at hl 0 rfl) ?_
        refine lv_ldc2 (v := 28530) hx hb hown hw7 dX12_goesOn_300 ?_
        obtain ⟨r_3, h_4, hf⟩ := xq_bd_some hf
        refine xq_callV (As := [.long 28530]) (rest := []) (ci := 12) (q0 := 0) ⟨hx, hb, hml, hown, hts⟩ (kX12_isWord l dC dI cI cB cJ cZ cM z ad N a_p0 mmI_285 mmJ_285 mmR 28530 h_4) (cwV 1 hts gX12_goesOn_X12_isWord rfl rfl rfl (by decide +kernel) ⟨Nat.le_of_ble_eq_true rfl, Nat.le_of_ble_eq_true rfl⟩) hN hK hP hD hS hA [0] (by decide) rfl rfl rfl rfl rfl rfl hl.1 rfl (Nat.le_of_ble_eq_true rfl) dX12_goesOn_303 ⟨Nat.zero_le _, Nat.zero_le _⟩ (fun H locs hP hD hS => ?_)
        have hP : va_P (dC, dI) vwCl [(a_p0, .inr (12, oX12 mmI_285 mmJ_285 mmR)), ((mmR 33), .inl (cI, 20, .inl mm_frameF_285)), ((mmR 34), .inl (cI, 20, .inl mm_phaseF_285)), ((mmR 37), .inl (cI, 20, .inl mm_baseF)), ((mmR 40), .inl (cI, 500, .inl mm_opsF_285)), ((mmR 26), .inl (cI, 3200, .inl mm_codeSortF_285)), ((mmR 27), .inl (cI, 3200, .inl mm_codeValueF_285)), ((mmR 0), .inl (cI, 1800, .inl mm_tapeF)), ((mmR 35), .inl (cZ, 20, .inl mm_beginsF_285)), ((mmR 36), .inl (cI, 20, .inl mm_pairF))] H := hP
        have hD : va_D A [(a_p0, .inr (12, oX12 mmI_285 mmJ_285 mmR)), ((mmR 33), .inl (cI, 20, .inl mm_frameF_285)), ((mmR 34), .inl (cI, 20, .inl mm_phaseF_285)), ((mmR 37), .inl (cI, 20, .inl mm_baseF)), ((mmR 40), .inl (cI, 500, .inl mm_opsF_285)), ((mmR 26), .inl (cI, 3200, .inl mm_codeSortF_285)), ((mmR 27), .inl (cI, 3200, .inl mm_codeValueF_285)), ((mmR 0), .inl (cI, 1800, .inl mm_tapeF)), ((mmR 35), .inl (cZ, 20, .inl mm_beginsF_285)), ((mmR 36), .inl (cI, 20, .inl mm_pairF))] := hD
        refine W.eq (g2 := F0 m 306 ls [.int r_3]) rfl ?_
        refine lv_if_eq (tgt := 400) hx hb dX12_goesOn_306 (by decide) (fun c_ => ?_) (fun c_ => ?_)
        · have hf := xq_pos hf c_
          exact b400 mmI_285 mmJ_285 mm_frameF_285 mm_phaseF_285 mm_opsF_285 mm_codeSortF_285 mm_codeValueF_285 mm_beginsF_285 x1_285 x2_285 x3_285 _ _ _ hf hP hD hS (lv_sub hl [0, 1, 2, 3] rfl)
        · have hf := xq_neg hf c_
          exact b309 mmI_285 mmJ_285 mm_frameF_285 mm_phaseF_285 mm_opsF_285 mm_codeSortF_285 mm_codeValueF_285 mm_beginsF_285 x1_285 _ _ _ hf hP hD hS (lv_sub hl [0, 1] rfl)
  have b264 : ∀ (mmI_264 : Nat → Int32) (mmJ_264 : Nat → Int64) (mm_frameF_264 : Nat → Int32) (mm_phaseF_264 : Nat → Int32) (mm_opsF_264 : Nat → Int32) (mm_codeSortF_264 : Nat → Int32) (mm_codeValueF_264 : Nat → Int32) (mm_beginsF_264 : Nat → Int32) (x1_264 : Int32) (y1_264 : Int32) (ls : Array Slot) (H : Heap) (locs : List Loc), fX12_goesOn_b264 N mm_baseF mm_tapeF mm_pairF (mmI_264, mmJ_264, mm_frameF_264, mm_phaseF_264, mm_opsF_264, mm_codeSortF_264, mm_codeValueF_264, mm_beginsF_264, x1_264, y1_264) = some (r0, r1, r2, r3, r4, r5, r6, r7, r8) → va_P (dC, dI) vwCl [(a_p0, .inr (12, oX12 mmI_264 mmJ_264 mmR)), ((mmR 33), .inl (cI, 20, .inl mm_frameF_264)), ((mmR 34), .inl (cI, 20, .inl mm_phaseF_264)), ((mmR 37), .inl (cI, 20, .inl mm_baseF)), ((mmR 40), .inl (cI, 500, .inl mm_opsF_264)), ((mmR 26), .inl (cI, 3200, .inl mm_codeSortF_264)), ((mmR 27), .inl (cI, 3200, .inl mm_codeValueF_264)), ((mmR 0), .inl (cI, 1800, .inl mm_tapeF)), ((mmR 35), .inl (cZ, 20, .inl mm_beginsF_264)), ((mmR 36), .inl (cI, 20, .inl mm_pairF))] H → va_D A [(a_p0, .inr (12, oX12 mmI_264 mmJ_264 mmR)), ((mmR 33), .inl (cI, 20, .inl mm_frameF_264)), ((mmR 34), .inl (cI, 20, .inl mm_phaseF_264)), ((mmR 37), .inl (cI, 20, .inl mm_baseF)), ((mmR 40), .inl (cI, 500, .inl mm_opsF_264)), ((mmR 26), .inl (cI, 3200, .inl mm_codeSortF_264)), ((mmR 27), .inl (cI, 3200, .inl mm_codeValueF_264)), ((mmR 0), .inl (cI, 1800, .inl mm_tapeF)), ((mmR 35), .inl (cZ, 20, .inl mm_beginsF_264)), ((mmR 36), .inl (cI, 20, .inl mm_pairF))] → va_S A s.heap H locs → lv_has ls 5 [(0, .ref a_p0), (1, .int x1_264)] → W p l e (headSpec wsX12_goesOn { frames := 2, cells := 0, slots := 0, locals := 45 }).room s m [.ref a_p0].toArray below meth c H locs 0 0 (MQ below (xq_Q (dC, dI) vwCl (xq_tys cI cB cJ cZ cM) A [(a_p0, .inr (12, oX12 r1 r2 mmR)), ((mmR 33), .inl (cI, 20, .inl r3)), ((mmR 34), .inl (cI, 20, .inl r4)), ((mmR 37), .inl (cI, 20, .inl mm_baseF)), ((mmR 40), .inl (cI, 500, .inl r5)), ((mmR 26), .inl (cI, 3200, .inl r6)), ((mmR 27), .inl (cI, 3200, .inl r7)), ((mmR 0), .inl (cI, 1800, .inl mm_tapeF)), ((mmR 35), .inl (cZ, 20, .inl r8)), ((mmR 36), .inl (cI, 20, .inl mm_pairF))] (some (.int r0))) [.ref a_p0].toArray s 0 0 A) (F0 m 264 ls [.int y1_264, .ref a_p0]) := by
    intro mmI_264 mmJ_264 mm_frameF_264 mm_phaseF_264 mm_opsF_264 mm_codeSortF_264 mm_codeValueF_264 mm_beginsF_264 x1_264 y1_264 ls H locs hf hP hD hS hl
    unfold fX12_goesOn_b264 at hf
    obtain ⟨⟨r_1_0, r_1_1⟩, h_2, hf⟩ := xq_bd_some hf
    refine xq_callV (As := [.int y1_264]) (rest := []) (ci := 12) (q0 := 0) ⟨hx, hb, hml, hown, hts⟩ (kX12_holdsBack l dC dI cI cB cJ cZ cM z ad N a_p0 mmI_264 mmJ_264 mmR mm_opsF_264 y1_264 h_2) (cwV 1 hts gX12_goesOn_X12_holdsBack rfl rfl rfl (by decide +kernel) ⟨Nat.le_of_ble_eq_true rfl, Nat.le_of_ble_eq_true rfl⟩) hN hK hP hD hS hA [0, 4] (by decide) rfl rfl rfl rfl rfl rfl hl.1 rfl (Nat.le_of_ble_eq_true rfl) dX12_goesOn_264 ⟨Nat.zero_le _, Nat.zero_le _⟩ (fun H locs hP hD hS => ?_)
    have hP : va_P (dC, dI) vwCl [(a_p0, .inr (12, oX12 r_1_0 mmJ_264 mmR)), ((mmR 33), .inl (cI, 20, .inl mm_frameF_264)), ((mmR 34), .inl (cI, 20, .inl mm_phaseF_264)), ((mmR 37), .inl (cI, 20, .inl mm_baseF)), ((mmR 40), .inl (cI, 500, .inl r_1_1)), ((mmR 26), .inl (cI, 3200, .inl mm_codeSortF_264)), ((mmR 27), .inl (cI, 3200, .inl mm_codeValueF_264)), ((mmR 0), .inl (cI, 1800, .inl mm_tapeF)), ((mmR 35), .inl (cZ, 20, .inl mm_beginsF_264)), ((mmR 36), .inl (cI, 20, .inl mm_pairF))] H := hP
    have hD : va_D A [(a_p0, .inr (12, oX12 r_1_0 mmJ_264 mmR)), ((mmR 33), .inl (cI, 20, .inl mm_frameF_264)), ((mmR 34), .inl (cI, 20, .inl mm_phaseF_264)), ((mmR 37), .inl (cI, 20, .inl mm_baseF)), ((mmR 40), .inl (cI, 500, .inl r_1_1)), ((mmR 26), .inl (cI, 3200, .inl mm_codeSortF_264)), ((mmR 27), .inl (cI, 3200, .inl mm_codeValueF_264)), ((mmR 0), .inl (cI, 1800, .inl mm_tapeF)), ((mmR 35), .inl (cZ, 20, .inl mm_beginsF_264)), ((mmR 36), .inl (cI, 20, .inl mm_pairF))] := hD
    refine W.eq (g2 := F0 m 267 ls []) rfl ?_
    refine lv_aload_n hx hb dX12_goesOn_267 rfl (lv_at hl 0 rfl) ?_
    refine va_get (D := (dC, dI)) (ci := 12) (v := .ref ((mmR 34))) (C := RX12) (T := TX12) (N := 70) hx hb hts hinX12 hown hK hP 0 rfl rfl 34 (by decide) hw4 (fun _ h9 => h9) rfl dX12_goesOn_268 ?_
    refine lv_iload_n hx hb dX12_goesOn_271 rfl (lv_at hl 1 rfl) ?_
    refine lv_iconst (v := 1) hx hb dX12_goesOn_272 (by decide) ?_
    refine xq_iast hx hb hK hP hD hS 2 0 rfl rfl hf dX12_goesOn_273 (fun g_3 H locs hf hP hD hS => ?_)
    have hP : va_P (dC, dI) vwCl [(a_p0, .inr (12, oX12 r_1_0 mmJ_264 mmR)), ((mmR 33), .inl (cI, 20, .inl mm_frameF_264)), ((mmR 34), .inl (cI, 20, .inl g_3)), ((mmR 37), .inl (cI, 20, .inl mm_baseF)), ((mmR 40), .inl (cI, 500, .inl r_1_1)), ((mmR 26), .inl (cI, 3200, .inl mm_codeSortF_264)), ((mmR 27), .inl (cI, 3200, .inl mm_codeValueF_264)), ((mmR 0), .inl (cI, 1800, .inl mm_tapeF)), ((mmR 35), .inl (cZ, 20, .inl mm_beginsF_264)), ((mmR 36), .inl (cI, 20, .inl mm_pairF))] H := hP
    have hD : va_D A [(a_p0, .inr (12, oX12 r_1_0 mmJ_264 mmR)), ((mmR 33), .inl (cI, 20, .inl mm_frameF_264)), ((mmR 34), .inl (cI, 20, .inl g_3)), ((mmR 37), .inl (cI, 20, .inl mm_baseF)), ((mmR 40), .inl (cI, 500, .inl r_1_1)), ((mmR 26), .inl (cI, 3200, .inl mm_codeSortF_264)), ((mmR 27), .inl (cI, 3200, .inl mm_codeValueF_264)), ((mmR 0), .inl (cI, 1800, .inl mm_tapeF)), ((mmR 35), .inl (cZ, 20, .inl mm_beginsF_264)), ((mmR 36), .inl (cI, 20, .inl mm_pairF))] := hD
    refine lv_aload_n hx hb dX12_goesOn_274 rfl (lv_at hl 0 rfl) ?_
    obtain ⟨⟨r_4_0, r_4_1⟩, h_5, hf⟩ := xq_bd_some hf
    refine xq_callV (As := []) (rest := []) (ci := 12) (q0 := 0) ⟨hx, hb, hml, hown, hts⟩ (kX12_ahead l dC dI cI cB cJ cZ cM z ad N a_p0 r_1_0 mmJ_264 mmR mm_tapeF h_5) (cwV 0 hts gX12_goesOn_X12_ahead rfl rfl rfl (by decide +kernel) ⟨Nat.le_of_ble_eq_true rfl, Nat.le_of_ble_eq_true rfl⟩) hN hK hP hD hS hA [0, 7] (by decide) rfl rfl rfl rfl rfl rfl hl.1 rfl (Nat.le_of_ble_eq_true rfl) dX12_goesOn_275 ⟨Nat.zero_le _, Nat.zero_le _⟩ (fun H locs hP hD hS => ?_)
    have hP : va_P (dC, dI) vwCl [(a_p0, .inr (12, oX12 r_4_0 r_4_1 mmR)), ((mmR 33), .inl (cI, 20, .inl mm_frameF_264)), ((mmR 34), .inl (cI, 20, .inl g_3)), ((mmR 37), .inl (cI, 20, .inl mm_baseF)), ((mmR 40), .inl (cI, 500, .inl r_1_1)), ((mmR 26), .inl (cI, 3200, .inl mm_codeSortF_264)), ((mmR 27), .inl (cI, 3200, .inl mm_codeValueF_264)), ((mmR 0), .inl (cI, 1800, .inl mm_tapeF)), ((mmR 35), .inl (cZ, 20, .inl mm_beginsF_264)), ((mmR 36), .inl (cI, 20, .inl mm_pairF))] H := hP
    have hD : va_D A [(a_p0, .inr (12, oX12 r_4_0 r_4_1 mmR)), ((mmR 33), .inl (cI, 20, .inl mm_frameF_264)), ((mmR 34), .inl (cI, 20, .inl g_3)), ((mmR 37), .inl (cI, 20, .inl mm_baseF)), ((mmR 40), .inl (cI, 500, .inl r_1_1)), ((mmR 26), .inl (cI, 3200, .inl mm_codeSortF_264)), ((mmR 27), .inl (cI, 3200, .inl mm_codeValueF_264)), ((mmR 0), .inl (cI, 1800, .inl mm_tapeF)), ((mmR 35), .inl (cZ, 20, .inl mm_beginsF_264)), ((mmR 36), .inl (cI, 20, .inl mm_pairF))] := hD
    refine W.eq (g2 := F0 m 278 ls []) rfl ?_
    refine lv_aload_n hx hb dX12_goesOn_278 rfl (lv_at hl 0 rfl) ?_
    refine lv_iconst (v := 0) hx hb dX12_goesOn_279 (by decide) ?_
    refine va_put (D := (dC, dI)) (ci := 12) (v := .int 0) (ty := .boolean) (C := RX12) (T := TX12) (N := 70) hx hb hts hinX12 tyX12 tyX12_ok nmX12 hown hK hP hD hS 0 rfl rfl 42 (by decide) hw5 (fun _ h9 => h9) rfl (by decide +kernel) (by decide +kernel) (by decide +kernel) (Nat.le_of_ble_eq_true rfl) dX12_goesOn_280 (fun H locs hP hD hS => ?_)
    have hP : va_P (dC, dI) vwCl [(a_p0, .inr (12, oX12 (va_up r_4_0 42 0) r_4_1 mmR)), ((mmR 33), .inl (cI, 20, .inl mm_frameF_264)), ((mmR 34), .inl (cI, 20, .inl g_3)), ((mmR 37), .inl (cI, 20, .inl mm_baseF)), ((mmR 40), .inl (cI, 500, .inl r_1_1)), ((mmR 26), .inl (cI, 3200, .inl mm_codeSortF_264)), ((mmR 27), .inl (cI, 3200, .inl mm_codeValueF_264)), ((mmR 0), .inl (cI, 1800, .inl mm_tapeF)), ((mmR 35), .inl (cZ, 20, .inl mm_beginsF_264)), ((mmR 36), .inl (cI, 20, .inl mm_pairF))] H := hP
    have hD : va_D A [(a_p0, .inr (12, oX12 (va_up r_4_0 42 0) r_4_1 mmR)), ((mmR 33), .inl (cI, 20, .inl mm_frameF_264)), ((mmR 34), .inl (cI, 20, .inl g_3)), ((mmR 37), .inl (cI, 20, .inl mm_baseF)), ((mmR 40), .inl (cI, 500, .inl r_1_1)), ((mmR 26), .inl (cI, 3200, .inl mm_codeSortF_264)), ((mmR 27), .inl (cI, 3200, .inl mm_codeValueF_264)), ((mmR 0), .inl (cI, 1800, .inl mm_tapeF)), ((mmR 35), .inl (cZ, 20, .inl mm_beginsF_264)), ((mmR 36), .inl (cI, 20, .inl mm_pairF))] := hD
    refine lv_iconst (v := 1) hx hb dX12_goesOn_283 (by decide) ?_
    have e9 := Option.some.inj hf
    have e9_0 : 1 = r0 := congrArg (fun t => t.1) e9
    have e9_1 : (va_up r_4_0 42 0) = r1 := congrArg (fun t => t.2.1) e9
    have e9_2 : r_4_1 = r2 := congrArg (fun t => t.2.2.1) e9
    have e9_3 : mm_frameF_264 = r3 := congrArg (fun t => t.2.2.2.1) e9
    have e9_4 : g_3 = r4 := congrArg (fun t => t.2.2.2.2.1) e9
    have e9_5 : r_1_1 = r5 := congrArg (fun t => t.2.2.2.2.2.1) e9
    have e9_6 : mm_codeSortF_264 = r6 := congrArg (fun t => t.2.2.2.2.2.2.1) e9
    have e9_7 : mm_codeValueF_264 = r7 := congrArg (fun t => t.2.2.2.2.2.2.2.1) e9
    have e9_8 : mm_beginsF_264 = r8 := congrArg (fun t => t.2.2.2.2.2.2.2.2) e9
    clear e9 hf
    try clear b106
    try clear b112
    try clear b174
    try clear b188
    try clear b228
    try clear b264
    try clear b285
    try clear b309
    try clear b327
    try clear b356
    try clear b372
    try clear b400
    try clear b422
    try clear b452
    try clear b470
    try clear b499
    try clear b531
    try clear b546
    try clear b596
    try clear b613
    try clear b87
    subst e9_0
    subst e9_1
    subst e9_2
    subst e9_3
    subst e9_4
    subst e9_5
    subst e9_6
    subst e9_7
    subst e9_8
    exact xq_zret hx hb hr (by decide +kernel) hlocks hK hP hD hS dX12_goesOn_284
  have b228 : ∀ (mmI_228 : Nat → Int32) (mmJ_228 : Nat → Int64) (mm_frameF_228 : Nat → Int32) (mm_phaseF_228 : Nat → Int32) (mm_opsF_228 : Nat → Int32) (mm_codeSortF_228 : Nat → Int32) (mm_codeValueF_228 : Nat → Int32) (mm_beginsF_228 : Nat → Int32) (x1_228 : Int32) (ls : Array Slot) (H : Heap) (locs : List Loc), fX12_goesOn_b228 N mm_baseF mm_tapeF mm_pairF (mmI_228, mmJ_228, mm_frameF_228, mm_phaseF_228, mm_opsF_228, mm_codeSortF_228, mm_codeValueF_228, mm_beginsF_228, x1_228) = some (r0, r1, r2, r3, r4, r5, r6, r7, r8) → va_P (dC, dI) vwCl [(a_p0, .inr (12, oX12 mmI_228 mmJ_228 mmR)), ((mmR 33), .inl (cI, 20, .inl mm_frameF_228)), ((mmR 34), .inl (cI, 20, .inl mm_phaseF_228)), ((mmR 37), .inl (cI, 20, .inl mm_baseF)), ((mmR 40), .inl (cI, 500, .inl mm_opsF_228)), ((mmR 26), .inl (cI, 3200, .inl mm_codeSortF_228)), ((mmR 27), .inl (cI, 3200, .inl mm_codeValueF_228)), ((mmR 0), .inl (cI, 1800, .inl mm_tapeF)), ((mmR 35), .inl (cZ, 20, .inl mm_beginsF_228)), ((mmR 36), .inl (cI, 20, .inl mm_pairF))] H → va_D A [(a_p0, .inr (12, oX12 mmI_228 mmJ_228 mmR)), ((mmR 33), .inl (cI, 20, .inl mm_frameF_228)), ((mmR 34), .inl (cI, 20, .inl mm_phaseF_228)), ((mmR 37), .inl (cI, 20, .inl mm_baseF)), ((mmR 40), .inl (cI, 500, .inl mm_opsF_228)), ((mmR 26), .inl (cI, 3200, .inl mm_codeSortF_228)), ((mmR 27), .inl (cI, 3200, .inl mm_codeValueF_228)), ((mmR 0), .inl (cI, 1800, .inl mm_tapeF)), ((mmR 35), .inl (cZ, 20, .inl mm_beginsF_228)), ((mmR 36), .inl (cI, 20, .inl mm_pairF))] → va_S A s.heap H locs → lv_has ls 5 [(0, .ref a_p0), (1, .int x1_228)] → W p l e (headSpec wsX12_goesOn { frames := 2, cells := 0, slots := 0, locals := 45 }).room s m [.ref a_p0].toArray below meth c H locs 0 0 (MQ below (xq_Q (dC, dI) vwCl (xq_tys cI cB cJ cZ cM) A [(a_p0, .inr (12, oX12 r1 r2 mmR)), ((mmR 33), .inl (cI, 20, .inl r3)), ((mmR 34), .inl (cI, 20, .inl r4)), ((mmR 37), .inl (cI, 20, .inl mm_baseF)), ((mmR 40), .inl (cI, 500, .inl r5)), ((mmR 26), .inl (cI, 3200, .inl r6)), ((mmR 27), .inl (cI, 3200, .inl r7)), ((mmR 0), .inl (cI, 1800, .inl mm_tapeF)), ((mmR 35), .inl (cZ, 20, .inl r8)), ((mmR 36), .inl (cI, 20, .inl mm_pairF))] (some (.int r0))) [.ref a_p0].toArray s 0 0 A) (F0 m 228 ls []) := by
    intro mmI_228 mmJ_228 mm_frameF_228 mm_phaseF_228 mm_opsF_228 mm_codeSortF_228 mm_codeValueF_228 mm_beginsF_228 x1_228 ls H locs hf hP hD hS hl
    unfold fX12_goesOn_b228 at hf
    refine lv_aload_n hx hb dX12_goesOn_228 rfl (lv_at hl 0 rfl) ?_
    refine lv_iconst (v := 5) hx hb dX12_goesOn_229 (by decide) ?_
    obtain ⟨⟨r_1_0, r_1_1, r_1_2⟩, h_2, hf⟩ := xq_bd_some hf
    refine xq_callV (As := [.int 5]) (rest := []) (ci := 12) (q0 := 0) ⟨hx, hb, hml, hown, hts⟩ (kX12_joins l dC dI cI cB cJ cZ cM z ad N a_p0 mmI_228 mmJ_228 mmR mm_baseF mm_opsF_228 mm_codeSortF_228 mm_codeValueF_228 5 h_2) (cwV 1 hts gX12_goesOn_X12_joins rfl rfl rfl (by decide +kernel) ⟨Nat.le_of_ble_eq_true rfl, Nat.le_of_ble_eq_true rfl⟩) hN hK hP hD hS hA [0, 3, 4, 5, 6] (by decide) rfl rfl rfl rfl rfl rfl hl.1 rfl (Nat.le_of_ble_eq_true rfl) dX12_goesOn_230 ⟨Nat.zero_le _, Nat.zero_le _⟩ (fun H locs hP hD hS => ?_)
    have hP : va_P (dC, dI) vwCl [(a_p0, .inr (12, oX12 r_1_0 mmJ_228 mmR)), ((mmR 33), .inl (cI, 20, .inl mm_frameF_228)), ((mmR 34), .inl (cI, 20, .inl mm_phaseF_228)), ((mmR 37), .inl (cI, 20, .inl mm_baseF)), ((mmR 40), .inl (cI, 500, .inl mm_opsF_228)), ((mmR 26), .inl (cI, 3200, .inl r_1_1)), ((mmR 27), .inl (cI, 3200, .inl r_1_2)), ((mmR 0), .inl (cI, 1800, .inl mm_tapeF)), ((mmR 35), .inl (cZ, 20, .inl mm_beginsF_228)), ((mmR 36), .inl (cI, 20, .inl mm_pairF))] H := hP
    have hD : va_D A [(a_p0, .inr (12, oX12 r_1_0 mmJ_228 mmR)), ((mmR 33), .inl (cI, 20, .inl mm_frameF_228)), ((mmR 34), .inl (cI, 20, .inl mm_phaseF_228)), ((mmR 37), .inl (cI, 20, .inl mm_baseF)), ((mmR 40), .inl (cI, 500, .inl mm_opsF_228)), ((mmR 26), .inl (cI, 3200, .inl r_1_1)), ((mmR 27), .inl (cI, 3200, .inl r_1_2)), ((mmR 0), .inl (cI, 1800, .inl mm_tapeF)), ((mmR 35), .inl (cZ, 20, .inl mm_beginsF_228)), ((mmR 36), .inl (cI, 20, .inl mm_pairF))] := hD
    refine W.eq (g2 := F0 m 233 ls []) rfl ?_
    refine lv_aload_n hx hb dX12_goesOn_233 rfl (lv_at hl 0 rfl) ?_
    refine lv_aload_n hx hb dX12_goesOn_234 rfl (lv_at hl 0 rfl) ?_
    refine lv_bipush (v := 60) hx hb dX12_goesOn_235 (by decide) ?_
    obtain ⟨r_3, h_4, hf⟩ := xq_bd_some hf
    refine xq_callV (As := [.int 60]) (rest := [.ref a_p0]) (ci := 12) (q0 := 0) ⟨hx, hb, hml, hown, hts⟩ (kX12_isSign l dC dI cI cB cJ cZ cM z ad N a_p0 r_1_0 mmJ_228 mmR 60 h_4) (cwV 1 hts gX12_goesOn_X12_isSign rfl rfl rfl (by decide +kernel) ⟨Nat.le_of_ble_eq_true rfl, Nat.le_of_ble_eq_true rfl⟩) hN hK hP hD hS hA [0] (by decide) rfl rfl rfl rfl rfl rfl hl.1 rfl (Nat.le_of_ble_eq_true rfl) dX12_goesOn_237 ⟨Nat.zero_le _, Nat.zero_le _⟩ (fun H locs hP hD hS => ?_)
    have hP : va_P (dC, dI) vwCl [(a_p0, .inr (12, oX12 r_1_0 mmJ_228 mmR)), ((mmR 33), .inl (cI, 20, .inl mm_frameF_228)), ((mmR 34), .inl (cI, 20, .inl mm_phaseF_228)), ((mmR 37), .inl (cI, 20, .inl mm_baseF)), ((mmR 40), .inl (cI, 500, .inl mm_opsF_228)), ((mmR 26), .inl (cI, 3200, .inl r_1_1)), ((mmR 27), .inl (cI, 3200, .inl r_1_2)), ((mmR 0), .inl (cI, 1800, .inl mm_tapeF)), ((mmR 35), .inl (cZ, 20, .inl mm_beginsF_228)), ((mmR 36), .inl (cI, 20, .inl mm_pairF))] H := hP
    have hD : va_D A [(a_p0, .inr (12, oX12 r_1_0 mmJ_228 mmR)), ((mmR 33), .inl (cI, 20, .inl mm_frameF_228)), ((mmR 34), .inl (cI, 20, .inl mm_phaseF_228)), ((mmR 37), .inl (cI, 20, .inl mm_baseF)), ((mmR 40), .inl (cI, 500, .inl mm_opsF_228)), ((mmR 26), .inl (cI, 3200, .inl r_1_1)), ((mmR 27), .inl (cI, 3200, .inl r_1_2)), ((mmR 0), .inl (cI, 1800, .inl mm_tapeF)), ((mmR 35), .inl (cZ, 20, .inl mm_beginsF_228)), ((mmR 36), .inl (cI, 20, .inl mm_pairF))] := hD
    refine W.eq (g2 := F0 m 240 ls [.int r_3, .ref a_p0]) rfl ?_
    refine lv_if_eq (tgt := 248) hx hb dX12_goesOn_240 (by decide) (fun c_ => ?_) (fun c_ => ?_)
    · have hf := xq_pos hf c_
      refine lv_aload_n hx hb dX12_goesOn_248 rfl (lv_at hl 0 rfl) ?_
      refine lv_bipush (v := 62) hx hb dX12_goesOn_249 (by decide) ?_
      obtain ⟨r_5, h_6, hf⟩ := xq_bd_some hf
      refine xq_callV (As := [.int 62]) (rest := [.ref a_p0]) (ci := 12) (q0 := 0) ⟨hx, hb, hml, hown, hts⟩ (kX12_isSign l dC dI cI cB cJ cZ cM z ad N a_p0 r_1_0 mmJ_228 mmR 62 h_6) (cwV 1 hts gX12_goesOn_X12_isSign rfl rfl rfl (by decide +kernel) ⟨Nat.le_of_ble_eq_true rfl, Nat.le_of_ble_eq_true rfl⟩) hN hK hP hD hS hA [0] (by decide) rfl rfl rfl rfl rfl rfl hl.1 rfl (Nat.le_of_ble_eq_true rfl) dX12_goesOn_251 ⟨Nat.zero_le _, Nat.zero_le _⟩ (fun H locs hP hD hS => ?_)
      have hP : va_P (dC, dI) vwCl [(a_p0, .inr (12, oX12 r_1_0 mmJ_228 mmR)), ((mmR 33), .inl (cI, 20, .inl mm_frameF_228)), ((mmR 34), .inl (cI, 20, .inl mm_phaseF_228)), ((mmR 37), .inl (cI, 20, .inl mm_baseF)), ((mmR 40), .inl (cI, 500, .inl mm_opsF_228)), ((mmR 26), .inl (cI, 3200, .inl r_1_1)), ((mmR 27), .inl (cI, 3200, .inl r_1_2)), ((mmR 0), .inl (cI, 1800, .inl mm_tapeF)), ((mmR 35), .inl (cZ, 20, .inl mm_beginsF_228)), ((mmR 36), .inl (cI, 20, .inl mm_pairF))] H := hP
      have hD : va_D A [(a_p0, .inr (12, oX12 r_1_0 mmJ_228 mmR)), ((mmR 33), .inl (cI, 20, .inl mm_frameF_228)), ((mmR 34), .inl (cI, 20, .inl mm_phaseF_228)), ((mmR 37), .inl (cI, 20, .inl mm_baseF)), ((mmR 40), .inl (cI, 500, .inl mm_opsF_228)), ((mmR 26), .inl (cI, 3200, .inl r_1_1)), ((mmR 27), .inl (cI, 3200, .inl r_1_2)), ((mmR 0), .inl (cI, 1800, .inl mm_tapeF)), ((mmR 35), .inl (cZ, 20, .inl mm_beginsF_228)), ((mmR 36), .inl (cI, 20, .inl mm_pairF))] := hD
      refine W.eq (g2 := F0 m 254 ls [.int r_5, .ref a_p0]) rfl ?_
      refine lv_if_eq (tgt := 262) hx hb dX12_goesOn_254 (by decide) (fun c_ => ?_) (fun c_ => ?_)
      · have hf := xq_pos hf c_
        refine lv_bipush (v := 40) hx hb dX12_goesOn_262 (by decide) ?_
        exact b264 r_1_0 mmJ_228 mm_frameF_228 mm_phaseF_228 mm_opsF_228 r_1_1 r_1_2 mm_beginsF_228 x1_228 40 _ _ _ hf hP hD hS (lv_sub hl [0, 1] rfl)
      · have hf := xq_neg hf c_
        refine lv_bipush (v := 39) hx hb dX12_goesOn_257 (by decide) ?_
        refine lv_goto (tgt := 264) hx hb dX12_goesOn_259 (by decide) ?_
        exact b264 r_1_0 mmJ_228 mm_frameF_228 mm_phaseF_228 mm_opsF_228 r_1_1 r_1_2 mm_beginsF_228 x1_228 39 _ _ _ hf hP hD hS (lv_sub hl [0, 1] rfl)
    · have hf := xq_neg hf c_
      refine lv_bipush (v := 38) hx hb dX12_goesOn_243 (by decide) ?_
      refine lv_goto (tgt := 264) hx hb dX12_goesOn_245 (by decide) ?_
      exact b264 r_1_0 mmJ_228 mm_frameF_228 mm_phaseF_228 mm_opsF_228 r_1_1 r_1_2 mm_beginsF_228 x1_228 38 _ _ _ hf hP hD hS (lv_sub hl [0, 1] rfl)
  have b188 : ∀ (mmI_188 : Nat → Int32) (mmJ_188 : Nat → Int64) (mm_frameF_188 : Nat → Int32) (mm_phaseF_188 : Nat → Int32) (mm_opsF_188 : Nat → Int32) (mm_codeSortF_188 : Nat → Int32) (mm_codeValueF_188 : Nat → Int32) (mm_beginsF_188 : Nat → Int32) (x1_188 : Int32) (x2_188 : Int32) (x3_188 : Int32) (ls : Array Slot) (H : Heap) (locs : List Loc), fX12_goesOn_b188 N mm_baseF mm_tapeF mm_pairF (mmI_188, mmJ_188, mm_frameF_188, mm_phaseF_188, mm_opsF_188, mm_codeSortF_188, mm_codeValueF_188, mm_beginsF_188, x1_188, x2_188, x3_188) = some (r0, r1, r2, r3, r4, r5, r6, r7, r8) → va_P (dC, dI) vwCl [(a_p0, .inr (12, oX12 mmI_188 mmJ_188 mmR)), ((mmR 33), .inl (cI, 20, .inl mm_frameF_188)), ((mmR 34), .inl (cI, 20, .inl mm_phaseF_188)), ((mmR 37), .inl (cI, 20, .inl mm_baseF)), ((mmR 40), .inl (cI, 500, .inl mm_opsF_188)), ((mmR 26), .inl (cI, 3200, .inl mm_codeSortF_188)), ((mmR 27), .inl (cI, 3200, .inl mm_codeValueF_188)), ((mmR 0), .inl (cI, 1800, .inl mm_tapeF)), ((mmR 35), .inl (cZ, 20, .inl mm_beginsF_188)), ((mmR 36), .inl (cI, 20, .inl mm_pairF))] H → va_D A [(a_p0, .inr (12, oX12 mmI_188 mmJ_188 mmR)), ((mmR 33), .inl (cI, 20, .inl mm_frameF_188)), ((mmR 34), .inl (cI, 20, .inl mm_phaseF_188)), ((mmR 37), .inl (cI, 20, .inl mm_baseF)), ((mmR 40), .inl (cI, 500, .inl mm_opsF_188)), ((mmR 26), .inl (cI, 3200, .inl mm_codeSortF_188)), ((mmR 27), .inl (cI, 3200, .inl mm_codeValueF_188)), ((mmR 0), .inl (cI, 1800, .inl mm_tapeF)), ((mmR 35), .inl (cZ, 20, .inl mm_beginsF_188)), ((mmR 36), .inl (cI, 20, .inl mm_pairF))] → va_S A s.heap H locs → lv_has ls 5 [(0, .ref a_p0), (1, .int x1_188), (2, .int x2_188), (3, .int x3_188)] → W p l e (headSpec wsX12_goesOn { frames := 2, cells := 0, slots := 0, locals := 45 }).room s m [.ref a_p0].toArray below meth c H locs 0 0 (MQ below (xq_Q (dC, dI) vwCl (xq_tys cI cB cJ cZ cM) A [(a_p0, .inr (12, oX12 r1 r2 mmR)), ((mmR 33), .inl (cI, 20, .inl r3)), ((mmR 34), .inl (cI, 20, .inl r4)), ((mmR 37), .inl (cI, 20, .inl mm_baseF)), ((mmR 40), .inl (cI, 500, .inl r5)), ((mmR 26), .inl (cI, 3200, .inl r6)), ((mmR 27), .inl (cI, 3200, .inl r7)), ((mmR 0), .inl (cI, 1800, .inl mm_tapeF)), ((mmR 35), .inl (cZ, 20, .inl r8)), ((mmR 36), .inl (cI, 20, .inl mm_pairF))] (some (.int r0))) [.ref a_p0].toArray s 0 0 A) (F0 m 188 ls []) := by
    intro mmI_188 mmJ_188 mm_frameF_188 mm_phaseF_188 mm_opsF_188 mm_codeSortF_188 mm_codeValueF_188 mm_beginsF_188 x1_188 x2_188 x3_188 ls H locs hf hP hD hS hl
    unfold fX12_goesOn_b188 at hf
    refine lv_iload_n hx hb dX12_goesOn_188 rfl (lv_at hl 3 rfl) ?_
    refine lv_if_eq (tgt := 285) hx hb dX12_goesOn_189 (by decide) (fun c_ => ?_) (fun c_ => ?_)
    · have hf := xq_pos hf c_
      exact b285 mmI_188 mmJ_188 mm_frameF_188 mm_phaseF_188 mm_opsF_188 mm_codeSortF_188 mm_codeValueF_188 mm_beginsF_188 x1_188 x2_188 x3_188 _ _ _ hf hP hD hS (lv_sub hl [0, 1, 2, 3] rfl)
    · have hf := xq_neg hf c_
      refine lv_aload_n hx hb dX12_goesOn_192 rfl (lv_at hl 0 rfl) ?_
      refine va_get (D := (dC, dI)) (ci := 12) (v := .ref ((mmR 34))) (C := RX12) (T := TX12) (N := 70) hx hb hts hinX12 hown hK hP 0 rfl rfl 34 (by decide) hw4 (fun _ h9 => h9) rfl dX12_goesOn_193 ?_
      refine lv_iload_n hx hb dX12_goesOn_196 rfl (lv_at hl 1 rfl) ?_
      refine xq_iald hx hb hK hP 2 0 rfl rfl hf dX12_goesOn_197 (fun v_1 hf => ?_)
      refine lv_if_ne (tgt := 285) hx hb dX12_goesOn_198 (by decide) (fun c_ => ?_) (fun c_ => ?_)
      · have hf := xq_neg hf c_
        exact b285 mmI_188 mmJ_188 mm_frameF_188 mm_phaseF_188 mm_opsF_188 mm_codeSortF_188 mm_codeValueF_188 mm_beginsF_188 x1_188 x2_188 x3_188 _ _ _ hf hP hD hS (lv_sub hl [0, 1, 2, 3] rfl)
      · have hf := xq_pos hf c_
        refine lv_aload_n hx hb dX12_goesOn_201 rfl (lv_at hl 0 rfl) ?_
        refine lv_bipush (v := 60) hx hb dX12_goesOn_202 (by decide) ?_
        obtain ⟨r_2, h_3, hf⟩ := xq_bd_some hf
        refine xq_callV (As := [.int 60]) (rest := []) (ci := 12) (q0 := 0) ⟨hx, hb, hml, hown, hts⟩ (kX12_isSign l dC dI cI cB cJ cZ cM z ad N a_p0 mmI_188 mmJ_188 mmR 60 h_3) (cwV 1 hts gX12_goesOn_X12_isSign rfl rfl rfl (by decide +kernel) ⟨Nat.le_of_ble_eq_true rfl, Nat.le_of_ble_eq_true rfl⟩) hN hK hP hD hS hA [0] (by decide) rfl rfl rfl rfl rfl rfl hl.1 rfl (Nat.le_of_ble_eq_true rfl) dX12_goesOn_204 ⟨Nat.zero_le _, Nat.zero_le _⟩ (fun H locs hP hD hS => ?_)
        have hP : va_P (dC, dI) vwCl [(a_p0, .inr (12, oX12 mmI_188 mmJ_188 mmR)), ((mmR 33), .inl (cI, 20, .inl mm_frameF_188)), ((mmR 34), .inl (cI, 20, .inl mm_phaseF_188)), ((mmR 37), .inl (cI, 20, .inl mm_baseF)), ((mmR 40), .inl (cI, 500, .inl mm_opsF_188)), ((mmR 26), .inl (cI, 3200, .inl mm_codeSortF_188)), ((mmR 27), .inl (cI, 3200, .inl mm_codeValueF_188)), ((mmR 0), .inl (cI, 1800, .inl mm_tapeF)), ((mmR 35), .inl (cZ, 20, .inl mm_beginsF_188)), ((mmR 36), .inl (cI, 20, .inl mm_pairF))] H := hP
        have hD : va_D A [(a_p0, .inr (12, oX12 mmI_188 mmJ_188 mmR)), ((mmR 33), .inl (cI, 20, .inl mm_frameF_188)), ((mmR 34), .inl (cI, 20, .inl mm_phaseF_188)), ((mmR 37), .inl (cI, 20, .inl mm_baseF)), ((mmR 40), .inl (cI, 500, .inl mm_opsF_188)), ((mmR 26), .inl (cI, 3200, .inl mm_codeSortF_188)), ((mmR 27), .inl (cI, 3200, .inl mm_codeValueF_188)), ((mmR 0), .inl (cI, 1800, .inl mm_tapeF)), ((mmR 35), .inl (cZ, 20, .inl mm_beginsF_188)), ((mmR 36), .inl (cI, 20, .inl mm_pairF))] := hD
        refine W.eq (g2 := F0 m 207 ls [.int r_2]) rfl ?_
        refine lv_if_ne (tgt := 228) hx hb dX12_goesOn_207 (by decide) (fun c_ => ?_) (fun c_ => ?_)
        · have hf := xq_neg hf c_
          exact b228 mmI_188 mmJ_188 mm_frameF_188 mm_phaseF_188 mm_opsF_188 mm_codeSortF_188 mm_codeValueF_188 mm_beginsF_188 x1_188 _ _ _ hf hP hD hS (lv_sub hl [0, 1] rfl)
        · have hf := xq_pos hf c_
          refine lv_aload_n hx hb dX12_goesOn_210 rfl (lv_at hl 0 rfl) ?_
          refine lv_bipush (v := 62) hx hb dX12_goesOn_211 (by decide) ?_
          obtain ⟨r_4, h_5, hf⟩ := xq_bd_some hf
          refine xq_callV (As := [.int 62]) (rest := []) (ci := 12) (q0 := 0) ⟨hx, hb, hml, hown, hts⟩ (kX12_isSign l dC dI cI cB cJ cZ cM z ad N a_p0 mmI_188 mmJ_188 mmR 62 h_5) (cwV 1 hts gX12_goesOn_X12_isSign rfl rfl rfl (by decide +kernel) ⟨Nat.le_of_ble_eq_true rfl, Nat.le_of_ble_eq_true rfl⟩) hN hK hP hD hS hA [0] (by decide) rfl rfl rfl rfl rfl rfl hl.1 rfl (Nat.le_of_ble_eq_true rfl) dX12_goesOn_213 ⟨Nat.zero_le _, Nat.zero_le _⟩ (fun H locs hP hD hS => ?_)
          have hP : va_P (dC, dI) vwCl [(a_p0, .inr (12, oX12 mmI_188 mmJ_188 mmR)), ((mmR 33), .inl (cI, 20, .inl mm_frameF_188)), ((mmR 34), .inl (cI, 20, .inl mm_phaseF_188)), ((mmR 37), .inl (cI, 20, .inl mm_baseF)), ((mmR 40), .inl (cI, 500, .inl mm_opsF_188)), ((mmR 26), .inl (cI, 3200, .inl mm_codeSortF_188)), ((mmR 27), .inl (cI, 3200, .inl mm_codeValueF_188)), ((mmR 0), .inl (cI, 1800, .inl mm_tapeF)), ((mmR 35), .inl (cZ, 20, .inl mm_beginsF_188)), ((mmR 36), .inl (cI, 20, .inl mm_pairF))] H := hP
          have hD : va_D A [(a_p0, .inr (12, oX12 mmI_188 mmJ_188 mmR)), ((mmR 33), .inl (cI, 20, .inl mm_frameF_188)), ((mmR 34), .inl (cI, 20, .inl mm_phaseF_188)), ((mmR 37), .inl (cI, 20, .inl mm_baseF)), ((mmR 40), .inl (cI, 500, .inl mm_opsF_188)), ((mmR 26), .inl (cI, 3200, .inl mm_codeSortF_188)), ((mmR 27), .inl (cI, 3200, .inl mm_codeValueF_188)), ((mmR 0), .inl (cI, 1800, .inl mm_tapeF)), ((mmR 35), .inl (cZ, 20, .inl mm_beginsF_188)), ((mmR 36), .inl (cI, 20, .inl mm_pairF))] := hD
          refine W.eq (g2 := F0 m 216 ls [.int r_4]) rfl ?_
          refine lv_if_ne (tgt := 228) hx hb dX12_goesOn_216 (by decide) (fun c_ => ?_) (fun c_ => ?_)
          · have hf := xq_neg hf c_
            exact b228 mmI_188 mmJ_188 mm_frameF_188 mm_phaseF_188 mm_opsF_188 mm_codeSortF_188 mm_codeValueF_188 mm_beginsF_188 x1_188 _ _ _ hf hP hD hS (lv_sub hl [0, 1] rfl)
          · have hf := xq_pos hf c_
            refine lv_aload_n hx hb dX12_goesOn_219 rfl (lv_at hl 0 rfl) ?_
            refine lv_bipush (v := 61) hx hb dX12_goesOn_220 (by decide) ?_
            obtain ⟨r_6, h_7, hf⟩ := xq_bd_some hf
            refine xq_callV (As := [.int 61]) (rest := []) (ci := 12) (q0 := 0) ⟨hx, hb, hml, hown, hts⟩ (kX12_isSign l dC dI cI cB cJ cZ cM z ad N a_p0 mmI_188 mmJ_188 mmR 61 h_7) (cwV 1 hts gX12_goesOn_X12_isSign rfl rfl rfl (by decide +kernel) ⟨Nat.le_of_ble_eq_true rfl, Nat.le_of_ble_eq_true rfl⟩) hN hK hP hD hS hA [0] (by decide) rfl rfl rfl rfl rfl rfl hl.1 rfl (Nat.le_of_ble_eq_true rfl) dX12_goesOn_222 ⟨Nat.zero_le _, Nat.zero_le _⟩ (fun H locs hP hD hS => ?_)
            have hP : va_P (dC, dI) vwCl [(a_p0, .inr (12, oX12 mmI_188 mmJ_188 mmR)), ((mmR 33), .inl (cI, 20, .inl mm_frameF_188)), ((mmR 34), .inl (cI, 20, .inl mm_phaseF_188)), ((mmR 37), .inl (cI, 20, .inl mm_baseF)), ((mmR 40), .inl (cI, 500, .inl mm_opsF_188)), ((mmR 26), .inl (cI, 3200, .inl mm_codeSortF_188)), ((mmR 27), .inl (cI, 3200, .inl mm_codeValueF_188)), ((mmR 0), .inl (cI, 1800, .inl mm_tapeF)), ((mmR 35), .inl (cZ, 20, .inl mm_beginsF_188)), ((mmR 36), .inl (cI, 20, .inl mm_pairF))] H := hP
            have hD : va_D A [(a_p0, .inr (12, oX12 mmI_188 mmJ_188 mmR)), ((mmR 33), .inl (cI, 20, .inl mm_frameF_188)), ((mmR 34), .inl (cI, 20, .inl mm_phaseF_188)), ((mmR 37), .inl (cI, 20, .inl mm_baseF)), ((mmR 40), .inl (cI, 500, .inl mm_opsF_188)), ((mmR 26), .inl (cI, 3200, .inl mm_codeSortF_188)), ((mmR 27), .inl (cI, 3200, .inl mm_codeValueF_188)), ((mmR 0), .inl (cI, 1800, .inl mm_tapeF)), ((mmR 35), .inl (cZ, 20, .inl mm_beginsF_188)), ((mmR 36), .inl (cI, 20, .inl mm_pairF))] := hD
            refine W.eq (g2 := F0 m 225 ls [.int r_6]) rfl ?_
            refine lv_if_eq (tgt := 285) hx hb dX12_goesOn_225 (by decide) (fun c_ => ?_) (fun c_ => ?_)
            · have hf := xq_pos hf c_
              exact b285 mmI_188 mmJ_188 mm_frameF_188 mm_phaseF_188 mm_opsF_188 mm_codeSortF_188 mm_codeValueF_188 mm_beginsF_188 x1_188 x2_188 x3_188 _ _ _ hf hP hD hS (lv_sub hl [0, 1, 2, 3] rfl)
            · have hf := xq_neg hf c_
              exact b228 mmI_188 mmJ_188 mm_frameF_188 mm_phaseF_188 mm_opsF_188 mm_codeSortF_188 mm_codeValueF_188 mm_beginsF_188 x1_188 _ _ _ hf hP hD hS (lv_sub hl [0, 1] rfl)
  have b174 : ∀ (mmI_174 : Nat → Int32) (mmJ_174 : Nat → Int64) (mm_frameF_174 : Nat → Int32) (mm_phaseF_174 : Nat → Int32) (mm_opsF_174 : Nat → Int32) (mm_codeSortF_174 : Nat → Int32) (mm_codeValueF_174 : Nat → Int32) (mm_beginsF_174 : Nat → Int32) (y1_174 : Int32) (ls : Array Slot) (H : Heap) (locs : List Loc), fX12_goesOn_b174 N mm_baseF mm_tapeF mm_pairF (mmI_174, mmJ_174, mm_frameF_174, mm_phaseF_174, mm_opsF_174, mm_codeSortF_174, mm_codeValueF_174, mm_beginsF_174, y1_174) = some (r0, r1, r2, r3, r4, r5, r6, r7, r8) → va_P (dC, dI) vwCl [(a_p0, .inr (12, oX12 mmI_174 mmJ_174 mmR)), ((mmR 33), .inl (cI, 20, .inl mm_frameF_174)), ((mmR 34), .inl (cI, 20, .inl mm_phaseF_174)), ((mmR 37), .inl (cI, 20, .inl mm_baseF)), ((mmR 40), .inl (cI, 500, .inl mm_opsF_174)), ((mmR 26), .inl (cI, 3200, .inl mm_codeSortF_174)), ((mmR 27), .inl (cI, 3200, .inl mm_codeValueF_174)), ((mmR 0), .inl (cI, 1800, .inl mm_tapeF)), ((mmR 35), .inl (cZ, 20, .inl mm_beginsF_174)), ((mmR 36), .inl (cI, 20, .inl mm_pairF))] H → va_D A [(a_p0, .inr (12, oX12 mmI_174 mmJ_174 mmR)), ((mmR 33), .inl (cI, 20, .inl mm_frameF_174)), ((mmR 34), .inl (cI, 20, .inl mm_phaseF_174)), ((mmR 37), .inl (cI, 20, .inl mm_baseF)), ((mmR 40), .inl (cI, 500, .inl mm_opsF_174)), ((mmR 26), .inl (cI, 3200, .inl mm_codeSortF_174)), ((mmR 27), .inl (cI, 3200, .inl mm_codeValueF_174)), ((mmR 0), .inl (cI, 1800, .inl mm_tapeF)), ((mmR 35), .inl (cZ, 20, .inl mm_beginsF_174)), ((mmR 36), .inl (cI, 20, .inl mm_pairF))] → va_S A s.heap H locs → lv_has ls 5 [(0, .ref a_p0)] → W p l e (headSpec wsX12_goesOn { frames := 2, cells := 0, slots := 0, locals := 45 }).room s m [.ref a_p0].toArray below meth c H locs 0 0 (MQ below (xq_Q (dC, dI) vwCl (xq_tys cI cB cJ cZ cM) A [(a_p0, .inr (12, oX12 r1 r2 mmR)), ((mmR 33), .inl (cI, 20, .inl r3)), ((mmR 34), .inl (cI, 20, .inl r4)), ((mmR 37), .inl (cI, 20, .inl mm_baseF)), ((mmR 40), .inl (cI, 500, .inl r5)), ((mmR 26), .inl (cI, 3200, .inl r6)), ((mmR 27), .inl (cI, 3200, .inl r7)), ((mmR 0), .inl (cI, 1800, .inl mm_tapeF)), ((mmR 35), .inl (cZ, 20, .inl r8)), ((mmR 36), .inl (cI, 20, .inl mm_pairF))] (some (.int r0))) [.ref a_p0].toArray s 0 0 A) (F0 m 174 ls [.int y1_174, .ref a_p0]) := by
    intro mmI_174 mmJ_174 mm_frameF_174 mm_phaseF_174 mm_opsF_174 mm_codeSortF_174 mm_codeValueF_174 mm_beginsF_174 y1_174 ls H locs hf hP hD hS hl
    unfold fX12_goesOn_b174 at hf
    obtain ⟨⟨r_1_0, r_1_1⟩, h_2, hf⟩ := xq_bd_some hf
    refine xq_callV (As := [.int y1_174]) (rest := []) (ci := 12) (q0 := 0) ⟨hx, hb, hml, hown, hts⟩ (kX12_holdsBack l dC dI cI cB cJ cZ cM z ad N a_p0 mmI_174 mmJ_174 mmR mm_opsF_174 y1_174 h_2) (cwV 1 hts gX12_goesOn_X12_holdsBack rfl rfl rfl (by decide +kernel) ⟨Nat.le_of_ble_eq_true rfl, Nat.le_of_ble_eq_true rfl⟩) hN hK hP hD hS hA [0, 4] (by decide) rfl rfl rfl rfl rfl rfl hl.1 rfl (Nat.le_of_ble_eq_true rfl) dX12_goesOn_174 ⟨Nat.zero_le _, Nat.zero_le _⟩ (fun H locs hP hD hS => ?_)
    have hP : va_P (dC, dI) vwCl [(a_p0, .inr (12, oX12 r_1_0 mmJ_174 mmR)), ((mmR 33), .inl (cI, 20, .inl mm_frameF_174)), ((mmR 34), .inl (cI, 20, .inl mm_phaseF_174)), ((mmR 37), .inl (cI, 20, .inl mm_baseF)), ((mmR 40), .inl (cI, 500, .inl r_1_1)), ((mmR 26), .inl (cI, 3200, .inl mm_codeSortF_174)), ((mmR 27), .inl (cI, 3200, .inl mm_codeValueF_174)), ((mmR 0), .inl (cI, 1800, .inl mm_tapeF)), ((mmR 35), .inl (cZ, 20, .inl mm_beginsF_174)), ((mmR 36), .inl (cI, 20, .inl mm_pairF))] H := hP
    have hD : va_D A [(a_p0, .inr (12, oX12 r_1_0 mmJ_174 mmR)), ((mmR 33), .inl (cI, 20, .inl mm_frameF_174)), ((mmR 34), .inl (cI, 20, .inl mm_phaseF_174)), ((mmR 37), .inl (cI, 20, .inl mm_baseF)), ((mmR 40), .inl (cI, 500, .inl r_1_1)), ((mmR 26), .inl (cI, 3200, .inl mm_codeSortF_174)), ((mmR 27), .inl (cI, 3200, .inl mm_codeValueF_174)), ((mmR 0), .inl (cI, 1800, .inl mm_tapeF)), ((mmR 35), .inl (cZ, 20, .inl mm_beginsF_174)), ((mmR 36), .inl (cI, 20, .inl mm_pairF))] := hD
    refine W.eq (g2 := F0 m 177 ls []) rfl ?_
    refine lv_aload_n hx hb dX12_goesOn_177 rfl (lv_at hl 0 rfl) ?_
    obtain ⟨⟨r_3_0, r_3_1⟩, h_4, hf⟩ := xq_bd_some hf
    refine xq_callV (As := []) (rest := []) (ci := 12) (q0 := 0) ⟨hx, hb, hml, hown, hts⟩ (kX12_ahead l dC dI cI cB cJ cZ cM z ad N a_p0 r_1_0 mmJ_174 mmR mm_tapeF h_4) (cwV 0 hts gX12_goesOn_X12_ahead rfl rfl rfl (by decide +kernel) ⟨Nat.le_of_ble_eq_true rfl, Nat.le_of_ble_eq_true rfl⟩) hN hK hP hD hS hA [0, 7] (by decide) rfl rfl rfl rfl rfl rfl hl.1 rfl (Nat.le_of_ble_eq_true rfl) dX12_goesOn_178 ⟨Nat.zero_le _, Nat.zero_le _⟩ (fun H locs hP hD hS => ?_)
    have hP : va_P (dC, dI) vwCl [(a_p0, .inr (12, oX12 r_3_0 r_3_1 mmR)), ((mmR 33), .inl (cI, 20, .inl mm_frameF_174)), ((mmR 34), .inl (cI, 20, .inl mm_phaseF_174)), ((mmR 37), .inl (cI, 20, .inl mm_baseF)), ((mmR 40), .inl (cI, 500, .inl r_1_1)), ((mmR 26), .inl (cI, 3200, .inl mm_codeSortF_174)), ((mmR 27), .inl (cI, 3200, .inl mm_codeValueF_174)), ((mmR 0), .inl (cI, 1800, .inl mm_tapeF)), ((mmR 35), .inl (cZ, 20, .inl mm_beginsF_174)), ((mmR 36), .inl (cI, 20, .inl mm_pairF))] H := hP
    have hD : va_D A [(a_p0, .inr (12, oX12 r_3_0 r_3_1 mmR)), ((mmR 33), .inl (cI, 20, .inl mm_frameF_174)), ((mmR 34), .inl (cI, 20, .inl mm_phaseF_174)), ((mmR 37), .inl (cI, 20, .inl mm_baseF)), ((mmR 40), .inl (cI, 500, .inl r_1_1)), ((mmR 26), .inl (cI, 3200, .inl mm_codeSortF_174)), ((mmR 27), .inl (cI, 3200, .inl mm_codeValueF_174)), ((mmR 0), .inl (cI, 1800, .inl mm_tapeF)), ((mmR 35), .inl (cZ, 20, .inl mm_beginsF_174)), ((mmR 36), .inl (cI, 20, .inl mm_pairF))] := hD
    refine W.eq (g2 := F0 m 181 ls []) rfl ?_
    refine lv_aload_n hx hb dX12_goesOn_181 rfl (lv_at hl 0 rfl) ?_
    refine lv_iconst (v := 0) hx hb dX12_goesOn_182 (by decide) ?_
    refine va_put (D := (dC, dI)) (ci := 12) (v := .int 0) (ty := .boolean) (C := RX12) (T := TX12) (N := 70) hx hb hts hinX12 tyX12 tyX12_ok nmX12 hown hK hP hD hS 0 rfl rfl 42 (by decide) hw5 (fun _ h9 => h9) rfl (by decide +kernel) (by decide +kernel) (by decide +kernel) (Nat.le_of_ble_eq_true rfl) dX12_goesOn_183 (fun H locs hP hD hS => ?_)
    have hP : va_P (dC, dI) vwCl [(a_p0, .inr (12, oX12 (va_up r_3_0 42 0) r_3_1 mmR)), ((mmR 33), .inl (cI, 20, .inl mm_frameF_174)), ((mmR 34), .inl (cI, 20, .inl mm_phaseF_174)), ((mmR 37), .inl (cI, 20, .inl mm_baseF)), ((mmR 40), .inl (cI, 500, .inl r_1_1)), ((mmR 26), .inl (cI, 3200, .inl mm_codeSortF_174)), ((mmR 27), .inl (cI, 3200, .inl mm_codeValueF_174)), ((mmR 0), .inl (cI, 1800, .inl mm_tapeF)), ((mmR 35), .inl (cZ, 20, .inl mm_beginsF_174)), ((mmR 36), .inl (cI, 20, .inl mm_pairF))] H := hP
    have hD : va_D A [(a_p0, .inr (12, oX12 (va_up r_3_0 42 0) r_3_1 mmR)), ((mmR 33), .inl (cI, 20, .inl mm_frameF_174)), ((mmR 34), .inl (cI, 20, .inl mm_phaseF_174)), ((mmR 37), .inl (cI, 20, .inl mm_baseF)), ((mmR 40), .inl (cI, 500, .inl r_1_1)), ((mmR 26), .inl (cI, 3200, .inl mm_codeSortF_174)), ((mmR 27), .inl (cI, 3200, .inl mm_codeValueF_174)), ((mmR 0), .inl (cI, 1800, .inl mm_tapeF)), ((mmR 35), .inl (cZ, 20, .inl mm_beginsF_174)), ((mmR 36), .inl (cI, 20, .inl mm_pairF))] := hD
    refine lv_iconst (v := 1) hx hb dX12_goesOn_186 (by decide) ?_
    have e9 := Option.some.inj hf
    have e9_0 : 1 = r0 := congrArg (fun t => t.1) e9
    have e9_1 : (va_up r_3_0 42 0) = r1 := congrArg (fun t => t.2.1) e9
    have e9_2 : r_3_1 = r2 := congrArg (fun t => t.2.2.1) e9
    have e9_3 : mm_frameF_174 = r3 := congrArg (fun t => t.2.2.2.1) e9
    have e9_4 : mm_phaseF_174 = r4 := congrArg (fun t => t.2.2.2.2.1) e9
    have e9_5 : r_1_1 = r5 := congrArg (fun t => t.2.2.2.2.2.1) e9
    have e9_6 : mm_codeSortF_174 = r6 := congrArg (fun t => t.2.2.2.2.2.2.1) e9
    have e9_7 : mm_codeValueF_174 = r7 := congrArg (fun t => t.2.2.2.2.2.2.2.1) e9
    have e9_8 : mm_beginsF_174 = r8 := congrArg (fun t => t.2.2.2.2.2.2.2.2) e9
    clear e9 hf
    try clear b106
    try clear b112
    try clear b174
    try clear b188
    try clear b228
    try clear b264
    try clear b285
    try clear b309
    try clear b327
    try clear b356
    try clear b372
    try clear b400
    try clear b422
    try clear b452
    try clear b470
    try clear b499
    try clear b531
    try clear b546
    try clear b596
    try clear b613
    try clear b87
    subst e9_0
    subst e9_1
    subst e9_2
    subst e9_3
    subst e9_4
    subst e9_5
    subst e9_6
    subst e9_7
    subst e9_8
    exact xq_zret hx hb hr (by decide +kernel) hlocks hK hP hD hS dX12_goesOn_187
  have b112 : ∀ (mmI_112 : Nat → Int32) (mmJ_112 : Nat → Int64) (mm_frameF_112 : Nat → Int32) (mm_phaseF_112 : Nat → Int32) (mm_opsF_112 : Nat → Int32) (mm_codeSortF_112 : Nat → Int32) (mm_codeValueF_112 : Nat → Int32) (mm_beginsF_112 : Nat → Int32) (y1_112 : Int32) (ls : Array Slot) (H : Heap) (locs : List Loc), fX12_goesOn_b112 N mm_baseF mm_tapeF mm_pairF (mmI_112, mmJ_112, mm_frameF_112, mm_phaseF_112, mm_opsF_112, mm_codeSortF_112, mm_codeValueF_112, mm_beginsF_112, y1_112) = some (r0, r1, r2, r3, r4, r5, r6, r7, r8) → va_P (dC, dI) vwCl [(a_p0, .inr (12, oX12 mmI_112 mmJ_112 mmR)), ((mmR 33), .inl (cI, 20, .inl mm_frameF_112)), ((mmR 34), .inl (cI, 20, .inl mm_phaseF_112)), ((mmR 37), .inl (cI, 20, .inl mm_baseF)), ((mmR 40), .inl (cI, 500, .inl mm_opsF_112)), ((mmR 26), .inl (cI, 3200, .inl mm_codeSortF_112)), ((mmR 27), .inl (cI, 3200, .inl mm_codeValueF_112)), ((mmR 0), .inl (cI, 1800, .inl mm_tapeF)), ((mmR 35), .inl (cZ, 20, .inl mm_beginsF_112)), ((mmR 36), .inl (cI, 20, .inl mm_pairF))] H → va_D A [(a_p0, .inr (12, oX12 mmI_112 mmJ_112 mmR)), ((mmR 33), .inl (cI, 20, .inl mm_frameF_112)), ((mmR 34), .inl (cI, 20, .inl mm_phaseF_112)), ((mmR 37), .inl (cI, 20, .inl mm_baseF)), ((mmR 40), .inl (cI, 500, .inl mm_opsF_112)), ((mmR 26), .inl (cI, 3200, .inl mm_codeSortF_112)), ((mmR 27), .inl (cI, 3200, .inl mm_codeValueF_112)), ((mmR 0), .inl (cI, 1800, .inl mm_tapeF)), ((mmR 35), .inl (cZ, 20, .inl mm_beginsF_112)), ((mmR 36), .inl (cI, 20, .inl mm_pairF))] → va_S A s.heap H locs → lv_has ls 5 [(0, .ref a_p0)] → W p l e (headSpec wsX12_goesOn { frames := 2, cells := 0, slots := 0, locals := 45 }).room s m [.ref a_p0].toArray below meth c H locs 0 0 (MQ below (xq_Q (dC, dI) vwCl (xq_tys cI cB cJ cZ cM) A [(a_p0, .inr (12, oX12 r1 r2 mmR)), ((mmR 33), .inl (cI, 20, .inl r3)), ((mmR 34), .inl (cI, 20, .inl r4)), ((mmR 37), .inl (cI, 20, .inl mm_baseF)), ((mmR 40), .inl (cI, 500, .inl r5)), ((mmR 26), .inl (cI, 3200, .inl r6)), ((mmR 27), .inl (cI, 3200, .inl r7)), ((mmR 0), .inl (cI, 1800, .inl mm_tapeF)), ((mmR 35), .inl (cZ, 20, .inl r8)), ((mmR 36), .inl (cI, 20, .inl mm_pairF))] (some (.int r0))) [.ref a_p0].toArray s 0 0 A) (F0 m 112 ls [.int y1_112, .ref a_p0]) := by
    intro mmI_112 mmJ_112 mm_frameF_112 mm_phaseF_112 mm_opsF_112 mm_codeSortF_112 mm_codeValueF_112 mm_beginsF_112 y1_112 ls H locs hf hP hD hS hl
    unfold fX12_goesOn_b112 at hf
    obtain ⟨⟨r_1_0, r_1_1, r_1_2⟩, h_2, hf⟩ := xq_bd_some hf
    refine xq_callV (As := [.int y1_112]) (rest := []) (ci := 12) (q0 := 0) ⟨hx, hb, hml, hown, hts⟩ (kX12_joins l dC dI cI cB cJ cZ cM z ad N a_p0 mmI_112 mmJ_112 mmR mm_baseF mm_opsF_112 mm_codeSortF_112 mm_codeValueF_112 y1_112 h_2) (cwV 1 hts gX12_goesOn_X12_joins rfl rfl rfl (by decide +kernel) ⟨Nat.le_of_ble_eq_true rfl, Nat.le_of_ble_eq_true rfl⟩) hN hK hP hD hS hA [0, 3, 4, 5, 6] (by decide) rfl rfl rfl rfl rfl rfl hl.1 rfl (Nat.le_of_ble_eq_true rfl) dX12_goesOn_112 ⟨Nat.zero_le _, Nat.zero_le _⟩ (fun H locs hP hD hS => ?_)
    have hP : va_P (dC, dI) vwCl [(a_p0, .inr (12, oX12 r_1_0 mmJ_112 mmR)), ((mmR 33), .inl (cI, 20, .inl mm_frameF_112)), ((mmR 34), .inl (cI, 20, .inl mm_phaseF_112)), ((mmR 37), .inl (cI, 20, .inl mm_baseF)), ((mmR 40), .inl (cI, 500, .inl mm_opsF_112)), ((mmR 26), .inl (cI, 3200, .inl r_1_1)), ((mmR 27), .inl (cI, 3200, .inl r_1_2)), ((mmR 0), .inl (cI, 1800, .inl mm_tapeF)), ((mmR 35), .inl (cZ, 20, .inl mm_beginsF_112)), ((mmR 36), .inl (cI, 20, .inl mm_pairF))] H := hP
    have hD : va_D A [(a_p0, .inr (12, oX12 r_1_0 mmJ_112 mmR)), ((mmR 33), .inl (cI, 20, .inl mm_frameF_112)), ((mmR 34), .inl (cI, 20, .inl mm_phaseF_112)), ((mmR 37), .inl (cI, 20, .inl mm_baseF)), ((mmR 40), .inl (cI, 500, .inl mm_opsF_112)), ((mmR 26), .inl (cI, 3200, .inl r_1_1)), ((mmR 27), .inl (cI, 3200, .inl r_1_2)), ((mmR 0), .inl (cI, 1800, .inl mm_tapeF)), ((mmR 35), .inl (cZ, 20, .inl mm_beginsF_112)), ((mmR 36), .inl (cI, 20, .inl mm_pairF))] := hD
    refine W.eq (g2 := F0 m 115 ls []) rfl ?_
    refine lv_aload_n hx hb dX12_goesOn_115 rfl (lv_at hl 0 rfl) ?_
    refine lv_aload_n hx hb dX12_goesOn_116 rfl (lv_at hl 0 rfl) ?_
    refine lv_bipush (v := 43) hx hb dX12_goesOn_117 (by decide) ?_
    obtain ⟨r_3, h_4, hf⟩ := xq_bd_some hf
    refine xq_callV (As := [.int 43]) (rest := [.ref a_p0]) (ci := 12) (q0 := 0) ⟨hx, hb, hml, hown, hts⟩ (kX12_isSign l dC dI cI cB cJ cZ cM z ad N a_p0 r_1_0 mmJ_112 mmR 43 h_4) (cwV 1 hts gX12_goesOn_X12_isSign rfl rfl rfl (by decide +kernel) ⟨Nat.le_of_ble_eq_true rfl, Nat.le_of_ble_eq_true rfl⟩) hN hK hP hD hS hA [0] (by decide) rfl rfl rfl rfl rfl rfl hl.1 rfl (Nat.le_of_ble_eq_true rfl) dX12_goesOn_119 ⟨Nat.zero_le _, Nat.zero_le _⟩ (fun H locs hP hD hS => ?_)
    have hP : va_P (dC, dI) vwCl [(a_p0, .inr (12, oX12 r_1_0 mmJ_112 mmR)), ((mmR 33), .inl (cI, 20, .inl mm_frameF_112)), ((mmR 34), .inl (cI, 20, .inl mm_phaseF_112)), ((mmR 37), .inl (cI, 20, .inl mm_baseF)), ((mmR 40), .inl (cI, 500, .inl mm_opsF_112)), ((mmR 26), .inl (cI, 3200, .inl r_1_1)), ((mmR 27), .inl (cI, 3200, .inl r_1_2)), ((mmR 0), .inl (cI, 1800, .inl mm_tapeF)), ((mmR 35), .inl (cZ, 20, .inl mm_beginsF_112)), ((mmR 36), .inl (cI, 20, .inl mm_pairF))] H := hP
    have hD : va_D A [(a_p0, .inr (12, oX12 r_1_0 mmJ_112 mmR)), ((mmR 33), .inl (cI, 20, .inl mm_frameF_112)), ((mmR 34), .inl (cI, 20, .inl mm_phaseF_112)), ((mmR 37), .inl (cI, 20, .inl mm_baseF)), ((mmR 40), .inl (cI, 500, .inl mm_opsF_112)), ((mmR 26), .inl (cI, 3200, .inl r_1_1)), ((mmR 27), .inl (cI, 3200, .inl r_1_2)), ((mmR 0), .inl (cI, 1800, .inl mm_tapeF)), ((mmR 35), .inl (cZ, 20, .inl mm_beginsF_112)), ((mmR 36), .inl (cI, 20, .inl mm_pairF))] := hD
    refine W.eq (g2 := F0 m 122 ls [.int r_3, .ref a_p0]) rfl ?_
    refine lv_if_eq (tgt := 130) hx hb dX12_goesOn_122 (by decide) (fun c_ => ?_) (fun c_ => ?_)
    · have hf := xq_pos hf c_
      refine lv_aload_n hx hb dX12_goesOn_130 rfl (lv_at hl 0 rfl) ?_
      refine lv_bipush (v := 45) hx hb dX12_goesOn_131 (by decide) ?_
      obtain ⟨r_5, h_6, hf⟩ := xq_bd_some hf
      refine xq_callV (As := [.int 45]) (rest := [.ref a_p0]) (ci := 12) (q0 := 0) ⟨hx, hb, hml, hown, hts⟩ (kX12_isSign l dC dI cI cB cJ cZ cM z ad N a_p0 r_1_0 mmJ_112 mmR 45 h_6) (cwV 1 hts gX12_goesOn_X12_isSign rfl rfl rfl (by decide +kernel) ⟨Nat.le_of_ble_eq_true rfl, Nat.le_of_ble_eq_true rfl⟩) hN hK hP hD hS hA [0] (by decide) rfl rfl rfl rfl rfl rfl hl.1 rfl (Nat.le_of_ble_eq_true rfl) dX12_goesOn_133 ⟨Nat.zero_le _, Nat.zero_le _⟩ (fun H locs hP hD hS => ?_)
      have hP : va_P (dC, dI) vwCl [(a_p0, .inr (12, oX12 r_1_0 mmJ_112 mmR)), ((mmR 33), .inl (cI, 20, .inl mm_frameF_112)), ((mmR 34), .inl (cI, 20, .inl mm_phaseF_112)), ((mmR 37), .inl (cI, 20, .inl mm_baseF)), ((mmR 40), .inl (cI, 500, .inl mm_opsF_112)), ((mmR 26), .inl (cI, 3200, .inl r_1_1)), ((mmR 27), .inl (cI, 3200, .inl r_1_2)), ((mmR 0), .inl (cI, 1800, .inl mm_tapeF)), ((mmR 35), .inl (cZ, 20, .inl mm_beginsF_112)), ((mmR 36), .inl (cI, 20, .inl mm_pairF))] H := hP
      have hD : va_D A [(a_p0, .inr (12, oX12 r_1_0 mmJ_112 mmR)), ((mmR 33), .inl (cI, 20, .inl mm_frameF_112)), ((mmR 34), .inl (cI, 20, .inl mm_phaseF_112)), ((mmR 37), .inl (cI, 20, .inl mm_baseF)), ((mmR 40), .inl (cI, 500, .inl mm_opsF_112)), ((mmR 26), .inl (cI, 3200, .inl r_1_1)), ((mmR 27), .inl (cI, 3200, .inl r_1_2)), ((mmR 0), .inl (cI, 1800, .inl mm_tapeF)), ((mmR 35), .inl (cZ, 20, .inl mm_beginsF_112)), ((mmR 36), .inl (cI, 20, .inl mm_pairF))] := hD
      refine W.eq (g2 := F0 m 136 ls [.int r_5, .ref a_p0]) rfl ?_
      refine lv_if_eq (tgt := 144) hx hb dX12_goesOn_136 (by decide) (fun c_ => ?_) (fun c_ => ?_)
      · have hf := xq_pos hf c_
        refine lv_aload_n hx hb dX12_goesOn_144 rfl (lv_at hl 0 rfl) ?_
        refine lv_bipush (v := 42) hx hb dX12_goesOn_145 (by decide) ?_
        obtain ⟨r_7, h_8, hf⟩ := xq_bd_some hf
        refine xq_callV (As := [.int 42]) (rest := [.ref a_p0]) (ci := 12) (q0 := 0) ⟨hx, hb, hml, hown, hts⟩ (kX12_isSign l dC dI cI cB cJ cZ cM z ad N a_p0 r_1_0 mmJ_112 mmR 42 h_8) (cwV 1 hts gX12_goesOn_X12_isSign rfl rfl rfl (by decide +kernel) ⟨Nat.le_of_ble_eq_true rfl, Nat.le_of_ble_eq_true rfl⟩) hN hK hP hD hS hA [0] (by decide) rfl rfl rfl rfl rfl rfl hl.1 rfl (Nat.le_of_ble_eq_true rfl) dX12_goesOn_147 ⟨Nat.zero_le _, Nat.zero_le _⟩ (fun H locs hP hD hS => ?_)
        have hP : va_P (dC, dI) vwCl [(a_p0, .inr (12, oX12 r_1_0 mmJ_112 mmR)), ((mmR 33), .inl (cI, 20, .inl mm_frameF_112)), ((mmR 34), .inl (cI, 20, .inl mm_phaseF_112)), ((mmR 37), .inl (cI, 20, .inl mm_baseF)), ((mmR 40), .inl (cI, 500, .inl mm_opsF_112)), ((mmR 26), .inl (cI, 3200, .inl r_1_1)), ((mmR 27), .inl (cI, 3200, .inl r_1_2)), ((mmR 0), .inl (cI, 1800, .inl mm_tapeF)), ((mmR 35), .inl (cZ, 20, .inl mm_beginsF_112)), ((mmR 36), .inl (cI, 20, .inl mm_pairF))] H := hP
        have hD : va_D A [(a_p0, .inr (12, oX12 r_1_0 mmJ_112 mmR)), ((mmR 33), .inl (cI, 20, .inl mm_frameF_112)), ((mmR 34), .inl (cI, 20, .inl mm_phaseF_112)), ((mmR 37), .inl (cI, 20, .inl mm_baseF)), ((mmR 40), .inl (cI, 500, .inl mm_opsF_112)), ((mmR 26), .inl (cI, 3200, .inl r_1_1)), ((mmR 27), .inl (cI, 3200, .inl r_1_2)), ((mmR 0), .inl (cI, 1800, .inl mm_tapeF)), ((mmR 35), .inl (cZ, 20, .inl mm_beginsF_112)), ((mmR 36), .inl (cI, 20, .inl mm_pairF))] := hD
        refine W.eq (g2 := F0 m 150 ls [.int r_7, .ref a_p0]) rfl ?_
        refine lv_if_eq (tgt := 158) hx hb dX12_goesOn_150 (by decide) (fun c_ => ?_) (fun c_ => ?_)
        · have hf := xq_pos hf c_
          refine lv_aload_n hx hb dX12_goesOn_158 rfl (lv_at hl 0 rfl) ?_
          refine lv_bipush (v := 47) hx hb dX12_goesOn_159 (by decide) ?_
          obtain ⟨r_9, h_10, hf⟩ := xq_bd_some hf
          refine xq_callV (As := [.int 47]) (rest := [.ref a_p0]) (ci := 12) (q0 := 0) ⟨hx, hb, hml, hown, hts⟩ (kX12_isSign l dC dI cI cB cJ cZ cM z ad N a_p0 r_1_0 mmJ_112 mmR 47 h_10) (cwV 1 hts gX12_goesOn_X12_isSign rfl rfl rfl (by decide +kernel) ⟨Nat.le_of_ble_eq_true rfl, Nat.le_of_ble_eq_true rfl⟩) hN hK hP hD hS hA [0] (by decide) rfl rfl rfl rfl rfl rfl hl.1 rfl (Nat.le_of_ble_eq_true rfl) dX12_goesOn_161 ⟨Nat.zero_le _, Nat.zero_le _⟩ (fun H locs hP hD hS => ?_)
          have hP : va_P (dC, dI) vwCl [(a_p0, .inr (12, oX12 r_1_0 mmJ_112 mmR)), ((mmR 33), .inl (cI, 20, .inl mm_frameF_112)), ((mmR 34), .inl (cI, 20, .inl mm_phaseF_112)), ((mmR 37), .inl (cI, 20, .inl mm_baseF)), ((mmR 40), .inl (cI, 500, .inl mm_opsF_112)), ((mmR 26), .inl (cI, 3200, .inl r_1_1)), ((mmR 27), .inl (cI, 3200, .inl r_1_2)), ((mmR 0), .inl (cI, 1800, .inl mm_tapeF)), ((mmR 35), .inl (cZ, 20, .inl mm_beginsF_112)), ((mmR 36), .inl (cI, 20, .inl mm_pairF))] H := hP
          have hD : va_D A [(a_p0, .inr (12, oX12 r_1_0 mmJ_112 mmR)), ((mmR 33), .inl (cI, 20, .inl mm_frameF_112)), ((mmR 34), .inl (cI, 20, .inl mm_phaseF_112)), ((mmR 37), .inl (cI, 20, .inl mm_baseF)), ((mmR 40), .inl (cI, 500, .inl mm_opsF_112)), ((mmR 26), .inl (cI, 3200, .inl r_1_1)), ((mmR 27), .inl (cI, 3200, .inl r_1_2)), ((mmR 0), .inl (cI, 1800, .inl mm_tapeF)), ((mmR 35), .inl (cZ, 20, .inl mm_beginsF_112)), ((mmR 36), .inl (cI, 20, .inl mm_pairF))] := hD
          refine W.eq (g2 := F0 m 164 ls [.int r_9, .ref a_p0]) rfl ?_
          refine lv_if_eq (tgt := 172) hx hb dX12_goesOn_164 (by decide) (fun c_ => ?_) (fun c_ => ?_)
          · have hf := xq_pos hf c_
            refine lv_bipush (v := 35) hx hb dX12_goesOn_172 (by decide) ?_
            exact b174 r_1_0 mmJ_112 mm_frameF_112 mm_phaseF_112 mm_opsF_112 r_1_1 r_1_2 mm_beginsF_112 35 _ _ _ hf hP hD hS (lv_sub hl [0] rfl)
          · have hf := xq_neg hf c_
            refine lv_bipush (v := 34) hx hb dX12_goesOn_167 (by decide) ?_
            refine lv_goto (tgt := 174) hx hb dX12_goesOn_169 (by decide) ?_
            exact b174 r_1_0 mmJ_112 mm_frameF_112 mm_phaseF_112 mm_opsF_112 r_1_1 r_1_2 mm_beginsF_112 34 _ _ _ hf hP hD hS (lv_sub hl [0] rfl)
        · have hf := xq_neg hf c_
          refine lv_bipush (v := 33) hx hb dX12_goesOn_153 (by decide) ?_
          refine lv_goto (tgt := 174) hx hb dX12_goesOn_155 (by decide) ?_
          exact b174 r_1_0 mmJ_112 mm_frameF_112 mm_phaseF_112 mm_opsF_112 r_1_1 r_1_2 mm_beginsF_112 33 _ _ _ hf hP hD hS (lv_sub hl [0] rfl)
      · have hf := xq_neg hf c_
        refine lv_bipush (v := 32) hx hb dX12_goesOn_139 (by decide) ?_
        refine lv_goto (tgt := 174) hx hb dX12_goesOn_141 (by decide) ?_
        exact b174 r_1_0 mmJ_112 mm_frameF_112 mm_phaseF_112 mm_opsF_112 r_1_1 r_1_2 mm_beginsF_112 32 _ _ _ hf hP hD hS (lv_sub hl [0] rfl)
    · have hf := xq_neg hf c_
      refine lv_bipush (v := 31) hx hb dX12_goesOn_125 (by decide) ?_
      refine lv_goto (tgt := 174) hx hb dX12_goesOn_127 (by decide) ?_
      exact b174 r_1_0 mmJ_112 mm_frameF_112 mm_phaseF_112 mm_opsF_112 r_1_1 r_1_2 mm_beginsF_112 31 _ _ _ hf hP hD hS (lv_sub hl [0] rfl)
  have b106 : ∀ (mmI_106 : Nat → Int32) (mmJ_106 : Nat → Int64) (mm_frameF_106 : Nat → Int32) (mm_phaseF_106 : Nat → Int32) (mm_opsF_106 : Nat → Int32) (mm_codeSortF_106 : Nat → Int32) (mm_codeValueF_106 : Nat → Int32) (mm_beginsF_106 : Nat → Int32) (ls : Array Slot) (H : Heap) (locs : List Loc), fX12_goesOn_b106 N mm_baseF mm_tapeF mm_pairF (mmI_106, mmJ_106, mm_frameF_106, mm_phaseF_106, mm_opsF_106, mm_codeSortF_106, mm_codeValueF_106, mm_beginsF_106) = some (r0, r1, r2, r3, r4, r5, r6, r7, r8) → va_P (dC, dI) vwCl [(a_p0, .inr (12, oX12 mmI_106 mmJ_106 mmR)), ((mmR 33), .inl (cI, 20, .inl mm_frameF_106)), ((mmR 34), .inl (cI, 20, .inl mm_phaseF_106)), ((mmR 37), .inl (cI, 20, .inl mm_baseF)), ((mmR 40), .inl (cI, 500, .inl mm_opsF_106)), ((mmR 26), .inl (cI, 3200, .inl mm_codeSortF_106)), ((mmR 27), .inl (cI, 3200, .inl mm_codeValueF_106)), ((mmR 0), .inl (cI, 1800, .inl mm_tapeF)), ((mmR 35), .inl (cZ, 20, .inl mm_beginsF_106)), ((mmR 36), .inl (cI, 20, .inl mm_pairF))] H → va_D A [(a_p0, .inr (12, oX12 mmI_106 mmJ_106 mmR)), ((mmR 33), .inl (cI, 20, .inl mm_frameF_106)), ((mmR 34), .inl (cI, 20, .inl mm_phaseF_106)), ((mmR 37), .inl (cI, 20, .inl mm_baseF)), ((mmR 40), .inl (cI, 500, .inl mm_opsF_106)), ((mmR 26), .inl (cI, 3200, .inl mm_codeSortF_106)), ((mmR 27), .inl (cI, 3200, .inl mm_codeValueF_106)), ((mmR 0), .inl (cI, 1800, .inl mm_tapeF)), ((mmR 35), .inl (cZ, 20, .inl mm_beginsF_106)), ((mmR 36), .inl (cI, 20, .inl mm_pairF))] → va_S A s.heap H locs → lv_has ls 5 [(0, .ref a_p0)] → W p l e (headSpec wsX12_goesOn { frames := 2, cells := 0, slots := 0, locals := 45 }).room s m [.ref a_p0].toArray below meth c H locs 0 0 (MQ below (xq_Q (dC, dI) vwCl (xq_tys cI cB cJ cZ cM) A [(a_p0, .inr (12, oX12 r1 r2 mmR)), ((mmR 33), .inl (cI, 20, .inl r3)), ((mmR 34), .inl (cI, 20, .inl r4)), ((mmR 37), .inl (cI, 20, .inl mm_baseF)), ((mmR 40), .inl (cI, 500, .inl r5)), ((mmR 26), .inl (cI, 3200, .inl r6)), ((mmR 27), .inl (cI, 3200, .inl r7)), ((mmR 0), .inl (cI, 1800, .inl mm_tapeF)), ((mmR 35), .inl (cZ, 20, .inl r8)), ((mmR 36), .inl (cI, 20, .inl mm_pairF))] (some (.int r0))) [.ref a_p0].toArray s 0 0 A) (F0 m 106 ls [.ref a_p0]) := by
    intro mmI_106 mmJ_106 mm_frameF_106 mm_phaseF_106 mm_opsF_106 mm_codeSortF_106 mm_codeValueF_106 mm_beginsF_106 ls H locs hf hP hD hS hl
    unfold fX12_goesOn_b106 at hf
    refine lv_iconst (v := 5) hx hb dX12_goesOn_106 (by decide) ?_
    refine lv_goto (tgt := 112) hx hb dX12_goesOn_107 (by decide) ?_
    exact b112 mmI_106 mmJ_106 mm_frameF_106 mm_phaseF_106 mm_opsF_106 mm_codeSortF_106 mm_codeValueF_106 mm_beginsF_106 5 _ _ _ hf hP hD hS (lv_sub hl [0] rfl)
  have b87 : ∀ (mmI_87 : Nat → Int32) (mmJ_87 : Nat → Int64) (mm_frameF_87 : Nat → Int32) (mm_phaseF_87 : Nat → Int32) (mm_opsF_87 : Nat → Int32) (mm_codeSortF_87 : Nat → Int32) (mm_codeValueF_87 : Nat → Int32) (mm_beginsF_87 : Nat → Int32) (ls : Array Slot) (H : Heap) (locs : List Loc), fX12_goesOn_b87 N mm_baseF mm_tapeF mm_pairF (mmI_87, mmJ_87, mm_frameF_87, mm_phaseF_87, mm_opsF_87, mm_codeSortF_87, mm_codeValueF_87, mm_beginsF_87) = some (r0, r1, r2, r3, r4, r5, r6, r7, r8) → va_P (dC, dI) vwCl [(a_p0, .inr (12, oX12 mmI_87 mmJ_87 mmR)), ((mmR 33), .inl (cI, 20, .inl mm_frameF_87)), ((mmR 34), .inl (cI, 20, .inl mm_phaseF_87)), ((mmR 37), .inl (cI, 20, .inl mm_baseF)), ((mmR 40), .inl (cI, 500, .inl mm_opsF_87)), ((mmR 26), .inl (cI, 3200, .inl mm_codeSortF_87)), ((mmR 27), .inl (cI, 3200, .inl mm_codeValueF_87)), ((mmR 0), .inl (cI, 1800, .inl mm_tapeF)), ((mmR 35), .inl (cZ, 20, .inl mm_beginsF_87)), ((mmR 36), .inl (cI, 20, .inl mm_pairF))] H → va_D A [(a_p0, .inr (12, oX12 mmI_87 mmJ_87 mmR)), ((mmR 33), .inl (cI, 20, .inl mm_frameF_87)), ((mmR 34), .inl (cI, 20, .inl mm_phaseF_87)), ((mmR 37), .inl (cI, 20, .inl mm_baseF)), ((mmR 40), .inl (cI, 500, .inl mm_opsF_87)), ((mmR 26), .inl (cI, 3200, .inl mm_codeSortF_87)), ((mmR 27), .inl (cI, 3200, .inl mm_codeValueF_87)), ((mmR 0), .inl (cI, 1800, .inl mm_tapeF)), ((mmR 35), .inl (cZ, 20, .inl mm_beginsF_87)), ((mmR 36), .inl (cI, 20, .inl mm_pairF))] → va_S A s.heap H locs → lv_has ls 5 [(0, .ref a_p0)] → W p l e (headSpec wsX12_goesOn { frames := 2, cells := 0, slots := 0, locals := 45 }).room s m [.ref a_p0].toArray below meth c H locs 0 0 (MQ below (xq_Q (dC, dI) vwCl (xq_tys cI cB cJ cZ cM) A [(a_p0, .inr (12, oX12 r1 r2 mmR)), ((mmR 33), .inl (cI, 20, .inl r3)), ((mmR 34), .inl (cI, 20, .inl r4)), ((mmR 37), .inl (cI, 20, .inl mm_baseF)), ((mmR 40), .inl (cI, 500, .inl r5)), ((mmR 26), .inl (cI, 3200, .inl r6)), ((mmR 27), .inl (cI, 3200, .inl r7)), ((mmR 0), .inl (cI, 1800, .inl mm_tapeF)), ((mmR 35), .inl (cZ, 20, .inl r8)), ((mmR 36), .inl (cI, 20, .inl mm_pairF))] (some (.int r0))) [.ref a_p0].toArray s 0 0 A) (F0 m 87 ls []) := by
    intro mmI_87 mmJ_87 mm_frameF_87 mm_phaseF_87 mm_opsF_87 mm_codeSortF_87 mm_codeValueF_87 mm_beginsF_87 ls H locs hf hP hD hS hl
    unfold fX12_goesOn_b87 at hf
    refine lv_aload_n hx hb dX12_goesOn_87 rfl (lv_at hl 0 rfl) ?_
    refine lv_aload_n hx hb dX12_goesOn_88 rfl (lv_at hl 0 rfl) ?_
    refine lv_bipush (v := 43) hx hb dX12_goesOn_89 (by decide) ?_
    obtain ⟨r_1, h_2, hf⟩ := xq_bd_some hf
    refine xq_callV (As := [.int 43]) (rest := [.ref a_p0]) (ci := 12) (q0 := 0) ⟨hx, hb, hml, hown, hts⟩ (kX12_isSign l dC dI cI cB cJ cZ cM z ad N a_p0 mmI_87 mmJ_87 mmR 43 h_2) (cwV 1 hts gX12_goesOn_X12_isSign rfl rfl rfl (by decide +kernel) ⟨Nat.le_of_ble_eq_true rfl, Nat.le_of_ble_eq_true rfl⟩) hN hK hP hD hS hA [0] (by decide) rfl rfl rfl rfl rfl rfl hl.1 rfl (Nat.le_of_ble_eq_true rfl) dX12_goesOn_91 ⟨Nat.zero_le _, Nat.zero_le _⟩ (fun H locs hP hD hS => ?_)
    have hP : va_P (dC, dI) vwCl [(a_p0, .inr (12, oX12 mmI_87 mmJ_87 mmR)), ((mmR 33), .inl (cI, 20, .inl mm_frameF_87)), ((mmR 34), .inl (cI, 20, .inl mm_phaseF_87)), ((mmR 37), .inl (cI, 20, .inl mm_baseF)), ((mmR 40), .inl (cI, 500, .inl mm_opsF_87)), ((mmR 26), .inl (cI, 3200, .inl mm_codeSortF_87)), ((mmR 27), .inl (cI, 3200, .inl mm_codeValueF_87)), ((mmR 0), .inl (cI, 1800, .inl mm_tapeF)), ((mmR 35), .inl (cZ, 20, .inl mm_beginsF_87)), ((mmR 36), .inl (cI, 20, .inl mm_pairF))] H := hP
    have hD : va_D A [(a_p0, .inr (12, oX12 mmI_87 mmJ_87 mmR)), ((mmR 33), .inl (cI, 20, .inl mm_frameF_87)), ((mmR 34), .inl (cI, 20, .inl mm_phaseF_87)), ((mmR 37), .inl (cI, 20, .inl mm_baseF)), ((mmR 40), .inl (cI, 500, .inl mm_opsF_87)), ((mmR 26), .inl (cI, 3200, .inl mm_codeSortF_87)), ((mmR 27), .inl (cI, 3200, .inl mm_codeValueF_87)), ((mmR 0), .inl (cI, 1800, .inl mm_tapeF)), ((mmR 35), .inl (cZ, 20, .inl mm_beginsF_87)), ((mmR 36), .inl (cI, 20, .inl mm_pairF))] := hD
    refine W.eq (g2 := F0 m 94 ls [.int r_1, .ref a_p0]) rfl ?_
    refine lv_if_ne (tgt := 106) hx hb dX12_goesOn_94 (by decide) (fun c_ => ?_) (fun c_ => ?_)
    · have hf := xq_neg hf c_
      exact b106 mmI_87 mmJ_87 mm_frameF_87 mm_phaseF_87 mm_opsF_87 mm_codeSortF_87 mm_codeValueF_87 mm_beginsF_87 _ _ _ hf hP hD hS (lv_sub hl [0] rfl)
    · have hf := xq_pos hf c_
      refine lv_aload_n hx hb dX12_goesOn_97 rfl (lv_at hl 0 rfl) ?_
      refine lv_bipush (v := 45) hx hb dX12_goesOn_98 (by decide) ?_
      obtain ⟨r_3, h_4, hf⟩ := xq_bd_some hf
      refine xq_callV (As := [.int 45]) (rest := [.ref a_p0]) (ci := 12) (q0 := 0) ⟨hx, hb, hml, hown, hts⟩ (kX12_isSign l dC dI cI cB cJ cZ cM z ad N a_p0 mmI_87 mmJ_87 mmR 45 h_4) (cwV 1 hts gX12_goesOn_X12_isSign rfl rfl rfl (by decide +kernel) ⟨Nat.le_of_ble_eq_true rfl, Nat.le_of_ble_eq_true rfl⟩) hN hK hP hD hS hA [0] (by decide) rfl rfl rfl rfl rfl rfl hl.1 rfl (Nat.le_of_ble_eq_true rfl) dX12_goesOn_100 ⟨Nat.zero_le _, Nat.zero_le _⟩ (fun H locs hP hD hS => ?_)
      have hP : va_P (dC, dI) vwCl [(a_p0, .inr (12, oX12 mmI_87 mmJ_87 mmR)), ((mmR 33), .inl (cI, 20, .inl mm_frameF_87)), ((mmR 34), .inl (cI, 20, .inl mm_phaseF_87)), ((mmR 37), .inl (cI, 20, .inl mm_baseF)), ((mmR 40), .inl (cI, 500, .inl mm_opsF_87)), ((mmR 26), .inl (cI, 3200, .inl mm_codeSortF_87)), ((mmR 27), .inl (cI, 3200, .inl mm_codeValueF_87)), ((mmR 0), .inl (cI, 1800, .inl mm_tapeF)), ((mmR 35), .inl (cZ, 20, .inl mm_beginsF_87)), ((mmR 36), .inl (cI, 20, .inl mm_pairF))] H := hP
      have hD : va_D A [(a_p0, .inr (12, oX12 mmI_87 mmJ_87 mmR)), ((mmR 33), .inl (cI, 20, .inl mm_frameF_87)), ((mmR 34), .inl (cI, 20, .inl mm_phaseF_87)), ((mmR 37), .inl (cI, 20, .inl mm_baseF)), ((mmR 40), .inl (cI, 500, .inl mm_opsF_87)), ((mmR 26), .inl (cI, 3200, .inl mm_codeSortF_87)), ((mmR 27), .inl (cI, 3200, .inl mm_codeValueF_87)), ((mmR 0), .inl (cI, 1800, .inl mm_tapeF)), ((mmR 35), .inl (cZ, 20, .inl mm_beginsF_87)), ((mmR 36), .inl (cI, 20, .inl mm_pairF))] := hD
      refine W.eq (g2 := F0 m 103 ls [.int r_3, .ref a_p0]) rfl ?_
      refine lv_if_eq (tgt := 110) hx hb dX12_goesOn_103 (by decide) (fun c_ => ?_) (fun c_ => ?_)
      · have hf := xq_pos hf c_
        refine lv_bipush (v := 6) hx hb dX12_goesOn_110 (by decide) ?_
        exact b112 mmI_87 mmJ_87 mm_frameF_87 mm_phaseF_87 mm_opsF_87 mm_codeSortF_87 mm_codeValueF_87 mm_beginsF_87 6 _ _ _ hf hP hD hS (lv_sub hl [0] rfl)
      · have hf := xq_neg hf c_
        exact b106 mmI_87 mmJ_87 mm_frameF_87 mm_phaseF_87 mm_opsF_87 mm_codeSortF_87 mm_codeValueF_87 mm_beginsF_87 _ _ _ hf hP hD hS (lv_sub hl [0] rfl)
  unfold fX12_goesOn at hf
  refine lv_aload_n hx hb dX12_goesOn_0 rfl (lv_at hl 0 rfl) ?_
  obtain ⟨r_1, h_2, hf⟩ := xq_bd_some hf
  refine xq_callV (As := []) (rest := []) (ci := 12) (q0 := 0) ⟨hx, hb, hml, hown, hts⟩ (kX12_lex l dC dI cI cB cJ cZ cM z ad N a_p0 mmI mmJ mmR h_2) (cwV 0 hts gX12_goesOn_X12_lex rfl rfl rfl (by decide +kernel) ⟨Nat.le_of_ble_eq_true rfl, Nat.le_of_ble_eq_true rfl⟩) hN hK hP hD hS hA [0] (by decide) rfl rfl rfl rfl rfl rfl hl.1 rfl (Nat.le_of_ble_eq_true rfl) dX12_goesOn_1 ⟨Nat.zero_le _, Nat.zero_le _⟩ (fun H locs hP hD hS => ?_)
  have hP : va_P (dC, dI) vwCl [(a_p0, .inr (12, oX12 r_1 mmJ mmR)), ((mmR 33), .inl (cI, 20, .inl mm_frameF)), ((mmR 34), .inl (cI, 20, .inl mm_phaseF)), ((mmR 37), .inl (cI, 20, .inl mm_baseF)), ((mmR 40), .inl (cI, 500, .inl mm_opsF)), ((mmR 26), .inl (cI, 3200, .inl mm_codeSortF)), ((mmR 27), .inl (cI, 3200, .inl mm_codeValueF)), ((mmR 0), .inl (cI, 1800, .inl mm_tapeF)), ((mmR 35), .inl (cZ, 20, .inl mm_beginsF)), ((mmR 36), .inl (cI, 20, .inl mm_pairF))] H := hP
  have hD : va_D A [(a_p0, .inr (12, oX12 r_1 mmJ mmR)), ((mmR 33), .inl (cI, 20, .inl mm_frameF)), ((mmR 34), .inl (cI, 20, .inl mm_phaseF)), ((mmR 37), .inl (cI, 20, .inl mm_baseF)), ((mmR 40), .inl (cI, 500, .inl mm_opsF)), ((mmR 26), .inl (cI, 3200, .inl mm_codeSortF)), ((mmR 27), .inl (cI, 3200, .inl mm_codeValueF)), ((mmR 0), .inl (cI, 1800, .inl mm_tapeF)), ((mmR 35), .inl (cZ, 20, .inl mm_beginsF)), ((mmR 36), .inl (cI, 20, .inl mm_pairF))] := hD
  refine W.eq (g2 := F0 m 4 ls []) rfl ?_
  refine lv_aload_n hx hb dX12_goesOn_4 rfl (lv_at hl 0 rfl) ?_
  refine va_get (D := (dC, dI)) (ci := 12) (v := .int (r_1 8)) (C := RX12) (T := TX12) (N := 70) hx hb hts hinX12 hown hK hP 0 rfl rfl 8 (by decide) hw0 (fun _ h9 => h9) rfl dX12_goesOn_5 ?_
  refine lv_if_le (tgt := 13) hx hb dX12_goesOn_8 (by decide) (fun c_ => ?_) (fun c_ => ?_)
  · have hf := xq_pos hf c_
    refine lv_aload_n hx hb dX12_goesOn_13 rfl (lv_at hl 0 rfl) ?_
    refine va_get (D := (dC, dI)) (ci := 12) (v := .int (r_1 38)) (C := RX12) (T := TX12) (N := 70) hx hb hts hinX12 hown hK hP 0 rfl rfl 38 (by decide) hw2 (fun _ h9 => h9) rfl dX12_goesOn_14 ?_
    refine lv_iconst (v := 1) hx hb dX12_goesOn_17 (by decide) ?_
    refine lv_isub hx hb dX12_goesOn_18 ?_
    refine lv_istore_n (lv' := [(1, .int ((r_1 38) - 1)), (0, .ref a_p0)]) hx hb dX12_goesOn_19 rfl hl (by decide) rfl (fun ls hl => ?_)
    refine lv_aload_n hx hb dX12_goesOn_20 rfl (lv_at hl 1 rfl) ?_
    refine va_get (D := (dC, dI)) (ci := 12) (v := .ref ((mmR 33))) (C := RX12) (T := TX12) (N := 70) hx hb hts hinX12 hown hK hP 0 rfl rfl 33 (by decide) hw3 (fun _ h9 => h9) rfl dX12_goesOn_21 ?_
    refine lv_iload_n hx hb dX12_goesOn_24 rfl (lv_at hl 0 rfl) ?_
    refine xq_iald hx hb hK hP 1 0 rfl rfl hf dX12_goesOn_25 (fun v_3 hf => ?_)
    refine lv_istore_n (lv' := [(2, .int v_3), (1, .int ((r_1 38) - 1)), (0, .ref a_p0)]) hx hb dX12_goesOn_26 rfl hl (by decide) rfl (fun ls hl => ?_)
    refine lv_iload_n hx hb dX12_goesOn_27 rfl (lv_at hl 0 rfl) ?_
    obtain ⟨r_4, h_5, hf⟩ := xq_bd_some hf
    refine xq_callS (As := [.int v_3]) (rest := []) ⟨hx, hb, hml, hown, hts⟩ (kX12_isTest l dC dI cI cB cJ cZ cM z ad N v_3 h_5) (va_cwS 1 hts gX12_goesOn_X12_isTest rfl rfl rfl (by decide +kernel) ⟨Nat.le_of_ble_eq_true rfl, Nat.le_of_ble_eq_true rfl⟩) hN hK hP hD hS hA [] (by decide) rfl rfl rfl hl.1 rfl (Nat.le_of_ble_eq_true rfl) dX12_goesOn_28 ⟨Nat.zero_le _, Nat.zero_le _⟩ (fun H locs hP hD hS => ?_)
    have hP : va_P (dC, dI) vwCl [(a_p0, .inr (12, oX12 r_1 mmJ mmR)), ((mmR 33), .inl (cI, 20, .inl mm_frameF)), ((mmR 34), .inl (cI, 20, .inl mm_phaseF)), ((mmR 37), .inl (cI, 20, .inl mm_baseF)), ((mmR 40), .inl (cI, 500, .inl mm_opsF)), ((mmR 26), .inl (cI, 3200, .inl mm_codeSortF)), ((mmR 27), .inl (cI, 3200, .inl mm_codeValueF)), ((mmR 0), .inl (cI, 1800, .inl mm_tapeF)), ((mmR 35), .inl (cZ, 20, .inl mm_beginsF)), ((mmR 36), .inl (cI, 20, .inl mm_pairF))] H := hP
    have hD : va_D A [(a_p0, .inr (12, oX12 r_1 mmJ mmR)), ((mmR 33), .inl (cI, 20, .inl mm_frameF)), ((mmR 34), .inl (cI, 20, .inl mm_phaseF)), ((mmR 37), .inl (cI, 20, .inl mm_baseF)), ((mmR 40), .inl (cI, 500, .inl mm_opsF)), ((mmR 26), .inl (cI, 3200, .inl mm_codeSortF)), ((mmR 27), .inl (cI, 3200, .inl mm_codeValueF)), ((mmR 0), .inl (cI, 1800, .inl mm_tapeF)), ((mmR 35), .inl (cZ, 20, .inl mm_beginsF)), ((mmR 36), .inl (cI, 20, .inl mm_pairF))] := hD
    refine W.eq (g2 := F0 m 31 ls [.int r_4]) rfl ?_
    refine lv_istore_n (lv' := [(3, .int r_4), (2, .int v_3), (1, .int ((r_1 38) - 1)), (0, .ref a_p0)]) hx hb dX12_goesOn_31 rfl hl (by decide) rfl (fun ls hl => ?_)
    refine lv_aload_n hx hb dX12_goesOn_32 rfl (lv_at hl 3 rfl) ?_
    refine va_get (D := (dC, dI)) (ci := 12) (v := .ref ((mmR 34))) (C := RX12) (T := TX12) (N := 70) hx hb hts hinX12 hown hK hP 0 rfl rfl 34 (by decide) hw4 (fun _ h9 => h9) rfl dX12_goesOn_33 ?_
    refine lv_iload_n hx hb dX12_goesOn_36 rfl (lv_at hl 2 rfl) ?_
    refine xq_iald hx hb hK hP 2 0 rfl rfl hf dX12_goesOn_37 (fun v_6 hf => ?_)
    refine lv_iconst (v := 2) hx hb dX12_goesOn_38 (by decide) ?_
    refine lv_icmp_ge (tgt := 188) hx hb dX12_goesOn_39 (by decide) (fun c_ => ?_) (fun c_ => ?_)
    · have hf := xq_pos hf c_
      exact b188 r_1 mmJ mm_frameF mm_phaseF mm_opsF mm_codeSortF mm_codeValueF mm_beginsF ((r_1 38) - 1) v_3 r_4 _ _ _ hf hP hD hS (lv_sub hl [3, 2, 1, 0] rfl)
    · have hf := xq_neg hf c_
      refine lv_aload_n hx hb dX12_goesOn_42 rfl (lv_at hl 3 rfl) ?_
      refine lv_bipush (v := 43) hx hb dX12_goesOn_43 (by decide) ?_
      obtain ⟨r_7, h_8, hf⟩ := xq_bd_some hf
      refine xq_callV (As := [.int 43]) (rest := []) (ci := 12) (q0 := 0) ⟨hx, hb, hml, hown, hts⟩ (kX12_isSign l dC dI cI cB cJ cZ cM z ad N a_p0 r_1 mmJ mmR 43 h_8) (cwV 1 hts gX12_goesOn_X12_isSign rfl rfl rfl (by decide +kernel) ⟨Nat.le_of_ble_eq_true rfl, Nat.le_of_ble_eq_true rfl⟩) hN hK hP hD hS hA [0] (by decide) rfl rfl rfl rfl rfl rfl hl.1 rfl (Nat.le_of_ble_eq_true rfl) dX12_goesOn_45 ⟨Nat.zero_le _, Nat.zero_le _⟩ (fun H locs hP hD hS => ?_)
      have hP : va_P (dC, dI) vwCl [(a_p0, .inr (12, oX12 r_1 mmJ mmR)), ((mmR 33), .inl (cI, 20, .inl mm_frameF)), ((mmR 34), .inl (cI, 20, .inl mm_phaseF)), ((mmR 37), .inl (cI, 20, .inl mm_baseF)), ((mmR 40), .inl (cI, 500, .inl mm_opsF)), ((mmR 26), .inl (cI, 3200, .inl mm_codeSortF)), ((mmR 27), .inl (cI, 3200, .inl mm_codeValueF)), ((mmR 0), .inl (cI, 1800, .inl mm_tapeF)), ((mmR 35), .inl (cZ, 20, .inl mm_beginsF)), ((mmR 36), .inl (cI, 20, .inl mm_pairF))] H := hP
      have hD : va_D A [(a_p0, .inr (12, oX12 r_1 mmJ mmR)), ((mmR 33), .inl (cI, 20, .inl mm_frameF)), ((mmR 34), .inl (cI, 20, .inl mm_phaseF)), ((mmR 37), .inl (cI, 20, .inl mm_baseF)), ((mmR 40), .inl (cI, 500, .inl mm_opsF)), ((mmR 26), .inl (cI, 3200, .inl mm_codeSortF)), ((mmR 27), .inl (cI, 3200, .inl mm_codeValueF)), ((mmR 0), .inl (cI, 1800, .inl mm_tapeF)), ((mmR 35), .inl (cZ, 20, .inl mm_beginsF)), ((mmR 36), .inl (cI, 20, .inl mm_pairF))] := hD
      refine W.eq (g2 := F0 m 48 ls [.int r_7]) rfl ?_
      refine lv_if_ne (tgt := 87) hx hb dX12_goesOn_48 (by decide) (fun c_ => ?_) (fun c_ => ?_)
      · have hf := xq_neg hf c_
        exact b87 r_1 mmJ mm_frameF mm_phaseF mm_opsF mm_codeSortF mm_codeValueF mm_beginsF _ _ _ hf hP hD hS (lv_sub hl [3] rfl)
      · have hf := xq_pos hf c_
        refine lv_aload_n hx hb dX12_goesOn_51 rfl (lv_at hl 3 rfl) ?_
        refine lv_bipush (v := 45) hx hb dX12_goesOn_52 (by decide) ?_
        obtain ⟨r_9, h_10, hf⟩ := xq_bd_some hf
        refine xq_callV (As := [.int 45]) (rest := []) (ci := 12) (q0 := 0) ⟨hx, hb, hml, hown, hts⟩ (kX12_isSign l dC dI cI cB cJ cZ cM z ad N a_p0 r_1 mmJ mmR 45 h_10) (cwV 1 hts gX12_goesOn_X12_isSign rfl rfl rfl (by decide +kernel) ⟨Nat.le_of_ble_eq_true rfl, Nat.le_of_ble_eq_true rfl⟩) hN hK hP hD hS hA [0] (by decide) rfl rfl rfl rfl rfl rfl hl.1 rfl (Nat.le_of_ble_eq_true rfl) dX12_goesOn_54 ⟨Nat.zero_le _, Nat.zero_le _⟩ (fun H locs hP hD hS => ?_)
        have hP : va_P (dC, dI) vwCl [(a_p0, .inr (12, oX12 r_1 mmJ mmR)), ((mmR 33), .inl (cI, 20, .inl mm_frameF)), ((mmR 34), .inl (cI, 20, .inl mm_phaseF)), ((mmR 37), .inl (cI, 20, .inl mm_baseF)), ((mmR 40), .inl (cI, 500, .inl mm_opsF)), ((mmR 26), .inl (cI, 3200, .inl mm_codeSortF)), ((mmR 27), .inl (cI, 3200, .inl mm_codeValueF)), ((mmR 0), .inl (cI, 1800, .inl mm_tapeF)), ((mmR 35), .inl (cZ, 20, .inl mm_beginsF)), ((mmR 36), .inl (cI, 20, .inl mm_pairF))] H := hP
        have hD : va_D A [(a_p0, .inr (12, oX12 r_1 mmJ mmR)), ((mmR 33), .inl (cI, 20, .inl mm_frameF)), ((mmR 34), .inl (cI, 20, .inl mm_phaseF)), ((mmR 37), .inl (cI, 20, .inl mm_baseF)), ((mmR 40), .inl (cI, 500, .inl mm_opsF)), ((mmR 26), .inl (cI, 3200, .inl mm_codeSortF)), ((mmR 27), .inl (cI, 3200, .inl mm_codeValueF)), ((mmR 0), .inl (cI, 1800, .inl mm_tapeF)), ((mmR 35), .inl (cZ, 20, .inl mm_beginsF)), ((mmR 36), .inl (cI, 20, .inl mm_pairF))] := hD
        refine W.eq (g2 := F0 m 57 ls [.int r_9]) rfl ?_
        refine lv_if_ne (tgt := 87) hx hb dX12_goesOn_57 (by decide) (fun c_ => ?_) (fun c_ => ?_)
        · have hf := xq_neg hf c_
          exact b87 r_1 mmJ mm_frameF mm_phaseF mm_opsF mm_codeSortF mm_codeValueF mm_beginsF _ _ _ hf hP hD hS (lv_sub hl [3] rfl)
        · have hf := xq_pos hf c_
          refine lv_aload_n hx hb dX12_goesOn_60 rfl (lv_at hl 3 rfl) ?_
          refine lv_bipush (v := 42) hx hb dX12_goesOn_61 (by decide) ?_
          obtain ⟨r_11, h_12, hf⟩ := xq_bd_some hf
          refine xq_callV (As := [.int 42]) (rest := []) (ci := 12) (q0 := 0) ⟨hx, hb, hml, hown, hts⟩ (kX12_isSign l dC dI cI cB cJ cZ cM z ad N a_p0 r_1 mmJ mmR 42 h_12) (cwV 1 hts gX12_goesOn_X12_isSign rfl rfl rfl (by decide +kernel) ⟨Nat.le_of_ble_eq_true rfl, Nat.le_of_ble_eq_true rfl⟩) hN hK hP hD hS hA [0] (by decide) rfl rfl rfl rfl rfl rfl hl.1 rfl (Nat.le_of_ble_eq_true rfl) dX12_goesOn_63 ⟨Nat.zero_le _, Nat.zero_le _⟩ (fun H locs hP hD hS => ?_)
          have hP : va_P (dC, dI) vwCl [(a_p0, .inr (12, oX12 r_1 mmJ mmR)), ((mmR 33), .inl (cI, 20, .inl mm_frameF)), ((mmR 34), .inl (cI, 20, .inl mm_phaseF)), ((mmR 37), .inl (cI, 20, .inl mm_baseF)), ((mmR 40), .inl (cI, 500, .inl mm_opsF)), ((mmR 26), .inl (cI, 3200, .inl mm_codeSortF)), ((mmR 27), .inl (cI, 3200, .inl mm_codeValueF)), ((mmR 0), .inl (cI, 1800, .inl mm_tapeF)), ((mmR 35), .inl (cZ, 20, .inl mm_beginsF)), ((mmR 36), .inl (cI, 20, .inl mm_pairF))] H := hP
          have hD : va_D A [(a_p0, .inr (12, oX12 r_1 mmJ mmR)), ((mmR 33), .inl (cI, 20, .inl mm_frameF)), ((mmR 34), .inl (cI, 20, .inl mm_phaseF)), ((mmR 37), .inl (cI, 20, .inl mm_baseF)), ((mmR 40), .inl (cI, 500, .inl mm_opsF)), ((mmR 26), .inl (cI, 3200, .inl mm_codeSortF)), ((mmR 27), .inl (cI, 3200, .inl mm_codeValueF)), ((mmR 0), .inl (cI, 1800, .inl mm_tapeF)), ((mmR 35), .inl (cZ, 20, .inl mm_beginsF)), ((mmR 36), .inl (cI, 20, .inl mm_pairF))] := hD
          refine W.eq (g2 := F0 m 66 ls [.int r_11]) rfl ?_
          refine lv_if_ne (tgt := 87) hx hb dX12_goesOn_66 (by decide) (fun c_ => ?_) (fun c_ => ?_)
          · have hf := xq_neg hf c_
            exact b87 r_1 mmJ mm_frameF mm_phaseF mm_opsF mm_codeSortF mm_codeValueF mm_beginsF _ _ _ hf hP hD hS (lv_sub hl [3] rfl)
          · have hf := xq_pos hf c_
            refine lv_aload_n hx hb dX12_goesOn_69 rfl (lv_at hl 3 rfl) ?_
            refine lv_bipush (v := 47) hx hb dX12_goesOn_70 (by decide) ?_
            obtain ⟨r_13, h_14, hf⟩ := xq_bd_some hf
            refine xq_callV (As := [.int 47]) (rest := []) (ci := 12) (q0 := 0) ⟨hx, hb, hml, hown, hts⟩ (kX12_isSign l dC dI cI cB cJ cZ cM z ad N a_p0 r_1 mmJ mmR 47 h_14) (cwV 1 hts gX12_goesOn_X12_isSign rfl rfl rfl (by decide +kernel) ⟨Nat.le_of_ble_eq_true rfl, Nat.le_of_ble_eq_true rfl⟩) hN hK hP hD hS hA [0] (by decide) rfl rfl rfl rfl rfl rfl hl.1 rfl (Nat.le_of_ble_eq_true rfl) dX12_goesOn_72 ⟨Nat.zero_le _, Nat.zero_le _⟩ (fun H locs hP hD hS => ?_)
            have hP : va_P (dC, dI) vwCl [(a_p0, .inr (12, oX12 r_1 mmJ mmR)), ((mmR 33), .inl (cI, 20, .inl mm_frameF)), ((mmR 34), .inl (cI, 20, .inl mm_phaseF)), ((mmR 37), .inl (cI, 20, .inl mm_baseF)), ((mmR 40), .inl (cI, 500, .inl mm_opsF)), ((mmR 26), .inl (cI, 3200, .inl mm_codeSortF)), ((mmR 27), .inl (cI, 3200, .inl mm_codeValueF)), ((mmR 0), .inl (cI, 1800, .inl mm_tapeF)), ((mmR 35), .inl (cZ, 20, .inl mm_beginsF)), ((mmR 36), .inl (cI, 20, .inl mm_pairF))] H := hP
            have hD : va_D A [(a_p0, .inr (12, oX12 r_1 mmJ mmR)), ((mmR 33), .inl (cI, 20, .inl mm_frameF)), ((mmR 34), .inl (cI, 20, .inl mm_phaseF)), ((mmR 37), .inl (cI, 20, .inl mm_baseF)), ((mmR 40), .inl (cI, 500, .inl mm_opsF)), ((mmR 26), .inl (cI, 3200, .inl mm_codeSortF)), ((mmR 27), .inl (cI, 3200, .inl mm_codeValueF)), ((mmR 0), .inl (cI, 1800, .inl mm_tapeF)), ((mmR 35), .inl (cZ, 20, .inl mm_beginsF)), ((mmR 36), .inl (cI, 20, .inl mm_pairF))] := hD
            refine W.eq (g2 := F0 m 75 ls [.int r_13]) rfl ?_
            refine lv_if_ne (tgt := 87) hx hb dX12_goesOn_75 (by decide) (fun c_ => ?_) (fun c_ => ?_)
            · have hf := xq_neg hf c_
              exact b87 r_1 mmJ mm_frameF mm_phaseF mm_opsF mm_codeSortF mm_codeValueF mm_beginsF _ _ _ hf hP hD hS (lv_sub hl [3] rfl)
            · have hf := xq_pos hf c_
              refine lv_aload_n hx hb dX12_goesOn_78 rfl (lv_at hl 3 rfl) ?_
              refine lv_bipush (v := 37) hx hb dX12_goesOn_79 (by decide) ?_
              obtain ⟨r_15, h_16, hf⟩ := xq_bd_some hf
              refine xq_callV (As := [.int 37]) (rest := []) (ci := 12) (q0 := 0) ⟨hx, hb, hml, hown, hts⟩ (kX12_isSign l dC dI cI cB cJ cZ cM z ad N a_p0 r_1 mmJ mmR 37 h_16) (cwV 1 hts gX12_goesOn_X12_isSign rfl rfl rfl (by decide +kernel) ⟨Nat.le_of_ble_eq_true rfl, Nat.le_of_ble_eq_true rfl⟩) hN hK hP hD hS hA [0] (by decide) rfl rfl rfl rfl rfl rfl hl.1 rfl (Nat.le_of_ble_eq_true rfl) dX12_goesOn_81 ⟨Nat.zero_le _, Nat.zero_le _⟩ (fun H locs hP hD hS => ?_)
              have hP : va_P (dC, dI) vwCl [(a_p0, .inr (12, oX12 r_1 mmJ mmR)), ((mmR 33), .inl (cI, 20, .inl mm_frameF)), ((mmR 34), .inl (cI, 20, .inl mm_phaseF)), ((mmR 37), .inl (cI, 20, .inl mm_baseF)), ((mmR 40), .inl (cI, 500, .inl mm_opsF)), ((mmR 26), .inl (cI, 3200, .inl mm_codeSortF)), ((mmR 27), .inl (cI, 3200, .inl mm_codeValueF)), ((mmR 0), .inl (cI, 1800, .inl mm_tapeF)), ((mmR 35), .inl (cZ, 20, .inl mm_beginsF)), ((mmR 36), .inl (cI, 20, .inl mm_pairF))] H := hP
              have hD : va_D A [(a_p0, .inr (12, oX12 r_1 mmJ mmR)), ((mmR 33), .inl (cI, 20, .inl mm_frameF)), ((mmR 34), .inl (cI, 20, .inl mm_phaseF)), ((mmR 37), .inl (cI, 20, .inl mm_baseF)), ((mmR 40), .inl (cI, 500, .inl mm_opsF)), ((mmR 26), .inl (cI, 3200, .inl mm_codeSortF)), ((mmR 27), .inl (cI, 3200, .inl mm_codeValueF)), ((mmR 0), .inl (cI, 1800, .inl mm_tapeF)), ((mmR 35), .inl (cZ, 20, .inl mm_beginsF)), ((mmR 36), .inl (cI, 20, .inl mm_pairF))] := hD
              refine W.eq (g2 := F0 m 84 ls [.int r_15]) rfl ?_
              refine lv_if_eq (tgt := 188) hx hb dX12_goesOn_84 (by decide) (fun c_ => ?_) (fun c_ => ?_)
              · have hf := xq_pos hf c_
                exact b188 r_1 mmJ mm_frameF mm_phaseF mm_opsF mm_codeSortF mm_codeValueF mm_beginsF ((r_1 38) - 1) v_3 r_4 _ _ _ hf hP hD hS (lv_sub hl [3, 2, 1, 0] rfl)
              · have hf := xq_neg hf c_
                exact b87 r_1 mmJ mm_frameF mm_phaseF mm_opsF mm_codeSortF mm_codeValueF mm_beginsF _ _ _ hf hP hD hS (lv_sub hl [3] rfl)
  · have hf := xq_neg hf c_
    refine lv_iconst (v := 0) hx hb dX12_goesOn_11 (by decide) ?_
    have e9 := Option.some.inj hf
    have e9_0 : 0 = r0 := congrArg (fun t => t.1) e9
    have e9_1 : r_1 = r1 := congrArg (fun t => t.2.1) e9
    have e9_2 : mmJ = r2 := congrArg (fun t => t.2.2.1) e9
    have e9_3 : mm_frameF = r3 := congrArg (fun t => t.2.2.2.1) e9
    have e9_4 : mm_phaseF = r4 := congrArg (fun t => t.2.2.2.2.1) e9
    have e9_5 : mm_opsF = r5 := congrArg (fun t => t.2.2.2.2.2.1) e9
    have e9_6 : mm_codeSortF = r6 := congrArg (fun t => t.2.2.2.2.2.2.1) e9
    have e9_7 : mm_codeValueF = r7 := congrArg (fun t => t.2.2.2.2.2.2.2.1) e9
    have e9_8 : mm_beginsF = r8 := congrArg (fun t => t.2.2.2.2.2.2.2.2) e9
    clear e9 hf
    try clear b106
    try clear b112
    try clear b174
    try clear b188
    try clear b228
    try clear b264
    try clear b285
    try clear b309
    try clear b327
    try clear b356
    try clear b372
    try clear b400
    try clear b422
    try clear b452
    try clear b470
    try clear b499
    try clear b531
    try clear b546
    try clear b596
    try clear b613
    try clear b87
    subst e9_0
    subst e9_1
    subst e9_2
    subst e9_3
    subst e9_4
    subst e9_5
    subst e9_6
    subst e9_7
    subst e9_8
    exact xq_zret hx hb hr (by decide +kernel) hlocks hK hP hD hS dX12_goesOn_12
set_option maxRecDepth 20000 in
theorem ggX12_reads_X12_pushes : GoodIn wsX12_reads wsX12_pushes := goodIn_r _ [10, 11, 2, 12, 13, 14, 4, 102, 103, 104, 105, 106, 107, 108, 109, 110, 111, 112, 113, 114, 115, 116, 117, 118, 119, 120, 121, 122, 123, 124, 125, 126, 127, 128, 129, 130, 131, 132, 133, 134, 135, 136, 137, 138, 139, 140, 141, 142, 143, 144, 145, 146, 147, 148, 149, 150, 151, 152, 153, 154, 155, 156, 157, 158, 159, 160, 161, 162, 163, 164, 165, 166, 167, 168, 169, 170, 171] rfl (by decide +kernel)
set_option maxRecDepth 20000 in
theorem gX12_reads_X12_pushes : GoodIn wsX12_reads (wsV RX12 311 RX12 yX12_pushes wsX12_pushes) := goodIn_app (goodIn_of _ (by decide +kernel)) ggX12_reads_X12_pushes
set_option maxRecDepth 20000 in
theorem ggX12_reads_X12_operand : GoodIn wsX12_reads wsX12_operand := goodIn_r _ [18, 1, 2, 11, 13, 19, 3, 20, 21, 12, 22, 23, 24, 25, 26, 27, 28, 29, 30, 31, 32, 33, 34, 35, 36, 37, 38, 39, 9, 40, 41, 42, 43, 44, 45, 46, 47, 48, 49, 50, 51, 52, 53, 54, 55, 56, 57, 58, 59, 4, 60, 61, 62, 63, 64, 65, 66, 67, 68, 69, 70, 71, 72, 73, 74, 75, 76, 77, 78, 79, 80, 6, 7, 8, 10, 14, 81, 82, 83, 84, 85, 86, 87, 88, 102, 103, 104, 105, 106, 107, 108, 109, 110, 111, 112, 113, 114, 115, 116, 117, 118, 119, 120, 121, 122, 123, 124, 125, 126, 127, 128, 129, 130, 131, 132, 133, 134, 135, 136, 137, 138, 139, 140, 141, 142, 143, 144, 145, 146, 147, 148, 149, 150, 151, 152, 153, 154, 155, 156, 157, 158, 159, 160, 161, 162, 163, 164, 165, 166, 167, 168, 169, 170, 171] rfl (by decide +kernel)
set_option maxRecDepth 20000 in
theorem gX12_reads_X12_operand : GoodIn wsX12_reads (wsV RX12 330 RX12 yX12_operand wsX12_operand) := goodIn_app (goodIn_of _ (by decide +kernel)) ggX12_reads_X12_operand
set_option maxRecDepth 20000 in
theorem ggX12_reads_X12_goesOn : GoodIn wsX12_reads wsX12_goesOn := goodIn_r _ [92, 1, 2, 11, 12, 5, 93, 94, 20, 13, 3, 25, 37, 38, 39, 9, 40, 41, 42, 43, 44, 45, 46, 47, 48, 49, 73, 74, 75, 76, 26, 36, 95, 96, 97, 98, 4, 14, 59, 99, 100, 101, 81, 82, 83, 84, 85, 86, 87, 88, 55, 56, 57, 58, 60, 61, 62, 63, 64, 65, 66, 54, 67, 68, 69, 70, 71, 72, 50, 51, 52, 53, 102, 103, 104, 105, 106, 107, 108, 109, 110, 111, 112, 113, 114, 115, 116, 117, 118, 119, 120, 121, 122, 123, 124, 125, 126, 127, 128, 129, 130, 131, 132, 133, 134, 135, 136, 137, 138, 139, 140, 141, 142, 143, 144, 145, 146, 147, 148, 149, 150, 151, 152, 153, 154, 155, 156, 157, 158, 159, 160, 161, 162, 163, 164, 165, 166, 167, 168, 169, 170, 171] rfl (by decide +kernel)
set_option maxRecDepth 20000 in
theorem gX12_reads_X12_goesOn : GoodIn wsX12_reads (wsV RX12 333 RX12 yX12_goesOn wsX12_goesOn) := goodIn_app (goodIn_of _ (by decide +kernel)) ggX12_reads_X12_goesOn
def dsX12_reads_0 : List (Nat × Instr × Nat) := [(0, (.aload_n 0, 1)), (1, (.getfield 36, 3)), (4, (.ifCond .le 4, 3)), (7, (.return_, 1)), (8, (.aload_n 0, 1)), (9, (.iconst 0, 1)), (10, (.putfield 128, 3)), (13, (.aload_n 0, 1)), (14, (.iconst 0, 1)), (15, (.putfield 131, 3)), (18, (.aload_n 0, 1)), (19, (.iconst 0, 1)), (20, (.putfield 137, 3)), (23, (.aload_n 0, 1)), (24, (.iconst 0, 1)), (25, (.putfield 140, 3)), (28, (.aload_n 0, 1)), (29, (.iload_n 1, 1)), (30, (.ifCond .eq 7, 3)), (33, (.iconst 1, 1)), (34, (.goto 4, 3)), (37, (.iconst 0, 1)), (38, (.invokevirtual 311, 3)), (41, (.iconst 1, 1)), (42, (.istore_n 2, 1)), (43, (.iload_n 2, 1)), (44, (.ifCond .eq 46, 3)), (47, (.aload_n 0, 1)), (48, (.getfield 140, 3)), (51, (.ifCond .ne 14, 3)), (54, (.aload_n 0, 1)), (55, (.aload_n 0, 1)), (56, (.invokevirtual 330, 3)), (59, (.putfield 140, 3)), (62, (.goto 8, 3)), (65, (.aload_n 0, 1)), (66, (.invokevirtual 333, 3)), (69, (.istore_n 2, 1)), (70, (.iload_n 2, 1)), (71, (.ifCond .eq 14, 3)), (74, (.aload_n 0, 1)), (75, (.getfield 36, 3)), (78, (.ifCond .ne 7, 3)), (81, (.iconst 1, 1)), (82, (.goto 4, 3)), (85, (.iconst 0, 1)), (86, (.istore_n 2, 1)), (87, (.goto (-44), 3)), (90, (.return_, 1))]
theorem dsX12_reads_0_ok : (dsX12_reads_0.all fun q => decide (decode cX12_reads q.1 = .ok q.2)) = true := by decide +kernel
theorem dX12_reads_0 : decode cX12_reads 0 = .ok (.aload_n 0, 1) := of_decide_eq_true (List.all_eq_true.mp dsX12_reads_0_ok (0, (.aload_n 0, 1)) (List.mem_of_getElem? (i := 0) rfl))
theorem dX12_reads_1 : decode cX12_reads 1 = .ok (.getfield 36, 3) := of_decide_eq_true (List.all_eq_true.mp dsX12_reads_0_ok (1, (.getfield 36, 3)) (List.mem_of_getElem? (i := 1) rfl))
theorem dX12_reads_4 : decode cX12_reads 4 = .ok (.ifCond .le 4, 3) := of_decide_eq_true (List.all_eq_true.mp dsX12_reads_0_ok (4, (.ifCond .le 4, 3)) (List.mem_of_getElem? (i := 2) rfl))
theorem dX12_reads_7 : decode cX12_reads 7 = .ok (.return_, 1) := of_decide_eq_true (List.all_eq_true.mp dsX12_reads_0_ok (7, (.return_, 1)) (List.mem_of_getElem? (i := 3) rfl))
theorem dX12_reads_8 : decode cX12_reads 8 = .ok (.aload_n 0, 1) := of_decide_eq_true (List.all_eq_true.mp dsX12_reads_0_ok (8, (.aload_n 0, 1)) (List.mem_of_getElem? (i := 4) rfl))
theorem dX12_reads_9 : decode cX12_reads 9 = .ok (.iconst 0, 1) := of_decide_eq_true (List.all_eq_true.mp dsX12_reads_0_ok (9, (.iconst 0, 1)) (List.mem_of_getElem? (i := 5) rfl))
theorem dX12_reads_10 : decode cX12_reads 10 = .ok (.putfield 128, 3) := of_decide_eq_true (List.all_eq_true.mp dsX12_reads_0_ok (10, (.putfield 128, 3)) (List.mem_of_getElem? (i := 6) rfl))
theorem dX12_reads_13 : decode cX12_reads 13 = .ok (.aload_n 0, 1) := of_decide_eq_true (List.all_eq_true.mp dsX12_reads_0_ok (13, (.aload_n 0, 1)) (List.mem_of_getElem? (i := 7) rfl))
theorem dX12_reads_14 : decode cX12_reads 14 = .ok (.iconst 0, 1) := of_decide_eq_true (List.all_eq_true.mp dsX12_reads_0_ok (14, (.iconst 0, 1)) (List.mem_of_getElem? (i := 8) rfl))
theorem dX12_reads_15 : decode cX12_reads 15 = .ok (.putfield 131, 3) := of_decide_eq_true (List.all_eq_true.mp dsX12_reads_0_ok (15, (.putfield 131, 3)) (List.mem_of_getElem? (i := 9) rfl))
theorem dX12_reads_18 : decode cX12_reads 18 = .ok (.aload_n 0, 1) := of_decide_eq_true (List.all_eq_true.mp dsX12_reads_0_ok (18, (.aload_n 0, 1)) (List.mem_of_getElem? (i := 10) rfl))
theorem dX12_reads_19 : decode cX12_reads 19 = .ok (.iconst 0, 1) := of_decide_eq_true (List.all_eq_true.mp dsX12_reads_0_ok (19, (.iconst 0, 1)) (List.mem_of_getElem? (i := 11) rfl))
theorem dX12_reads_20 : decode cX12_reads 20 = .ok (.putfield 137, 3) := of_decide_eq_true (List.all_eq_true.mp dsX12_reads_0_ok (20, (.putfield 137, 3)) (List.mem_of_getElem? (i := 12) rfl))
theorem dX12_reads_23 : decode cX12_reads 23 = .ok (.aload_n 0, 1) := of_decide_eq_true (List.all_eq_true.mp dsX12_reads_0_ok (23, (.aload_n 0, 1)) (List.mem_of_getElem? (i := 13) rfl))
theorem dX12_reads_24 : decode cX12_reads 24 = .ok (.iconst 0, 1) := of_decide_eq_true (List.all_eq_true.mp dsX12_reads_0_ok (24, (.iconst 0, 1)) (List.mem_of_getElem? (i := 14) rfl))
theorem dX12_reads_25 : decode cX12_reads 25 = .ok (.putfield 140, 3) := of_decide_eq_true (List.all_eq_true.mp dsX12_reads_0_ok (25, (.putfield 140, 3)) (List.mem_of_getElem? (i := 15) rfl))
theorem dX12_reads_28 : decode cX12_reads 28 = .ok (.aload_n 0, 1) := of_decide_eq_true (List.all_eq_true.mp dsX12_reads_0_ok (28, (.aload_n 0, 1)) (List.mem_of_getElem? (i := 16) rfl))
theorem dX12_reads_29 : decode cX12_reads 29 = .ok (.iload_n 1, 1) := of_decide_eq_true (List.all_eq_true.mp dsX12_reads_0_ok (29, (.iload_n 1, 1)) (List.mem_of_getElem? (i := 17) rfl))
theorem dX12_reads_30 : decode cX12_reads 30 = .ok (.ifCond .eq 7, 3) := of_decide_eq_true (List.all_eq_true.mp dsX12_reads_0_ok (30, (.ifCond .eq 7, 3)) (List.mem_of_getElem? (i := 18) rfl))
theorem dX12_reads_33 : decode cX12_reads 33 = .ok (.iconst 1, 1) := of_decide_eq_true (List.all_eq_true.mp dsX12_reads_0_ok (33, (.iconst 1, 1)) (List.mem_of_getElem? (i := 19) rfl))
theorem dX12_reads_34 : decode cX12_reads 34 = .ok (.goto 4, 3) := of_decide_eq_true (List.all_eq_true.mp dsX12_reads_0_ok (34, (.goto 4, 3)) (List.mem_of_getElem? (i := 20) rfl))
theorem dX12_reads_37 : decode cX12_reads 37 = .ok (.iconst 0, 1) := of_decide_eq_true (List.all_eq_true.mp dsX12_reads_0_ok (37, (.iconst 0, 1)) (List.mem_of_getElem? (i := 21) rfl))
theorem dX12_reads_38 : decode cX12_reads 38 = .ok (.invokevirtual 311, 3) := of_decide_eq_true (List.all_eq_true.mp dsX12_reads_0_ok (38, (.invokevirtual 311, 3)) (List.mem_of_getElem? (i := 22) rfl))
theorem dX12_reads_41 : decode cX12_reads 41 = .ok (.iconst 1, 1) := of_decide_eq_true (List.all_eq_true.mp dsX12_reads_0_ok (41, (.iconst 1, 1)) (List.mem_of_getElem? (i := 23) rfl))
theorem dX12_reads_42 : decode cX12_reads 42 = .ok (.istore_n 2, 1) := of_decide_eq_true (List.all_eq_true.mp dsX12_reads_0_ok (42, (.istore_n 2, 1)) (List.mem_of_getElem? (i := 24) rfl))
theorem dX12_reads_43 : decode cX12_reads 43 = .ok (.iload_n 2, 1) := of_decide_eq_true (List.all_eq_true.mp dsX12_reads_0_ok (43, (.iload_n 2, 1)) (List.mem_of_getElem? (i := 25) rfl))
theorem dX12_reads_44 : decode cX12_reads 44 = .ok (.ifCond .eq 46, 3) := of_decide_eq_true (List.all_eq_true.mp dsX12_reads_0_ok (44, (.ifCond .eq 46, 3)) (List.mem_of_getElem? (i := 26) rfl))
theorem dX12_reads_47 : decode cX12_reads 47 = .ok (.aload_n 0, 1) := of_decide_eq_true (List.all_eq_true.mp dsX12_reads_0_ok (47, (.aload_n 0, 1)) (List.mem_of_getElem? (i := 27) rfl))
theorem dX12_reads_48 : decode cX12_reads 48 = .ok (.getfield 140, 3) := of_decide_eq_true (List.all_eq_true.mp dsX12_reads_0_ok (48, (.getfield 140, 3)) (List.mem_of_getElem? (i := 28) rfl))
theorem dX12_reads_51 : decode cX12_reads 51 = .ok (.ifCond .ne 14, 3) := of_decide_eq_true (List.all_eq_true.mp dsX12_reads_0_ok (51, (.ifCond .ne 14, 3)) (List.mem_of_getElem? (i := 29) rfl))
theorem dX12_reads_54 : decode cX12_reads 54 = .ok (.aload_n 0, 1) := of_decide_eq_true (List.all_eq_true.mp dsX12_reads_0_ok (54, (.aload_n 0, 1)) (List.mem_of_getElem? (i := 30) rfl))
theorem dX12_reads_55 : decode cX12_reads 55 = .ok (.aload_n 0, 1) := of_decide_eq_true (List.all_eq_true.mp dsX12_reads_0_ok (55, (.aload_n 0, 1)) (List.mem_of_getElem? (i := 31) rfl))
theorem dX12_reads_56 : decode cX12_reads 56 = .ok (.invokevirtual 330, 3) := of_decide_eq_true (List.all_eq_true.mp dsX12_reads_0_ok (56, (.invokevirtual 330, 3)) (List.mem_of_getElem? (i := 32) rfl))
theorem dX12_reads_59 : decode cX12_reads 59 = .ok (.putfield 140, 3) := of_decide_eq_true (List.all_eq_true.mp dsX12_reads_0_ok (59, (.putfield 140, 3)) (List.mem_of_getElem? (i := 33) rfl))
theorem dX12_reads_62 : decode cX12_reads 62 = .ok (.goto 8, 3) := of_decide_eq_true (List.all_eq_true.mp dsX12_reads_0_ok (62, (.goto 8, 3)) (List.mem_of_getElem? (i := 34) rfl))
theorem dX12_reads_65 : decode cX12_reads 65 = .ok (.aload_n 0, 1) := of_decide_eq_true (List.all_eq_true.mp dsX12_reads_0_ok (65, (.aload_n 0, 1)) (List.mem_of_getElem? (i := 35) rfl))
theorem dX12_reads_66 : decode cX12_reads 66 = .ok (.invokevirtual 333, 3) := of_decide_eq_true (List.all_eq_true.mp dsX12_reads_0_ok (66, (.invokevirtual 333, 3)) (List.mem_of_getElem? (i := 36) rfl))
theorem dX12_reads_69 : decode cX12_reads 69 = .ok (.istore_n 2, 1) := of_decide_eq_true (List.all_eq_true.mp dsX12_reads_0_ok (69, (.istore_n 2, 1)) (List.mem_of_getElem? (i := 37) rfl))
theorem dX12_reads_70 : decode cX12_reads 70 = .ok (.iload_n 2, 1) := of_decide_eq_true (List.all_eq_true.mp dsX12_reads_0_ok (70, (.iload_n 2, 1)) (List.mem_of_getElem? (i := 38) rfl))
theorem dX12_reads_71 : decode cX12_reads 71 = .ok (.ifCond .eq 14, 3) := of_decide_eq_true (List.all_eq_true.mp dsX12_reads_0_ok (71, (.ifCond .eq 14, 3)) (List.mem_of_getElem? (i := 39) rfl))
theorem dX12_reads_74 : decode cX12_reads 74 = .ok (.aload_n 0, 1) := of_decide_eq_true (List.all_eq_true.mp dsX12_reads_0_ok (74, (.aload_n 0, 1)) (List.mem_of_getElem? (i := 40) rfl))
theorem dX12_reads_75 : decode cX12_reads 75 = .ok (.getfield 36, 3) := of_decide_eq_true (List.all_eq_true.mp dsX12_reads_0_ok (75, (.getfield 36, 3)) (List.mem_of_getElem? (i := 41) rfl))
theorem dX12_reads_78 : decode cX12_reads 78 = .ok (.ifCond .ne 7, 3) := of_decide_eq_true (List.all_eq_true.mp dsX12_reads_0_ok (78, (.ifCond .ne 7, 3)) (List.mem_of_getElem? (i := 42) rfl))
theorem dX12_reads_81 : decode cX12_reads 81 = .ok (.iconst 1, 1) := of_decide_eq_true (List.all_eq_true.mp dsX12_reads_0_ok (81, (.iconst 1, 1)) (List.mem_of_getElem? (i := 43) rfl))
theorem dX12_reads_82 : decode cX12_reads 82 = .ok (.goto 4, 3) := of_decide_eq_true (List.all_eq_true.mp dsX12_reads_0_ok (82, (.goto 4, 3)) (List.mem_of_getElem? (i := 44) rfl))
theorem dX12_reads_85 : decode cX12_reads 85 = .ok (.iconst 0, 1) := of_decide_eq_true (List.all_eq_true.mp dsX12_reads_0_ok (85, (.iconst 0, 1)) (List.mem_of_getElem? (i := 45) rfl))
theorem dX12_reads_86 : decode cX12_reads 86 = .ok (.istore_n 2, 1) := of_decide_eq_true (List.all_eq_true.mp dsX12_reads_0_ok (86, (.istore_n 2, 1)) (List.mem_of_getElem? (i := 46) rfl))
theorem dX12_reads_87 : decode cX12_reads 87 = .ok (.goto (-44), 3) := of_decide_eq_true (List.all_eq_true.mp dsX12_reads_0_ok (87, (.goto (-44), 3)) (List.mem_of_getElem? (i := 47) rfl))
theorem dX12_reads_90 : decode cX12_reads 90 = .ok (.return_, 1) := of_decide_eq_true (List.all_eq_true.mp dsX12_reads_0_ok (90, (.return_, 1)) (List.mem_of_getElem? (i := 48) rfl))
def fX12_reads_b86 (N : Nat) (mm_tapeF : Nat → Int32)  (k43 : ((Nat → Int32) × (Nat → Int64) × (Nat → Int32) × (Nat → Int32) × (Nat → Int32) × (Nat → Int32) × (Nat → Int32) × (Nat → Int32) × (Nat → Int32) × (Nat → Int32) × Int32) → Option ((Nat → Int32) × (Nat → Int64) × (Nat → Int32) × (Nat → Int32) × (Nat → Int32) × (Nat → Int32) × (Nat → Int32) × (Nat → Int32) × (Nat → Int32) × (Nat → Int32))) : ((Nat → Int32) × (Nat → Int64) × (Nat → Int32) × (Nat → Int32) × (Nat → Int32) × (Nat → Int32) × (Nat → Int32) × (Nat → Int32) × (Nat → Int32) × (Nat → Int32) × Int32) → Option ((Nat → Int32) × (Nat → Int64) × (Nat → Int32) × (Nat → Int32) × (Nat → Int32) × (Nat → Int32) × (Nat → Int32) × (Nat → Int32) × (Nat → Int32) × (Nat → Int32)) :=
  fun (mmI_86, mmJ_86, mm_frameF_86, mm_phaseF_86, mm_beginsF_86, mm_baseF_86, mm_opsF_86, mm_codeSortF_86, mm_codeValueF_86, mm_pairF_86, y0_86) => k43 (mmI_86, mmJ_86, mm_frameF_86, mm_phaseF_86, mm_beginsF_86, mm_baseF_86, mm_opsF_86, mm_codeSortF_86, mm_codeValueF_86, mm_pairF_86, y0_86)
def fX12_reads_b85 (N : Nat) (mm_tapeF : Nat → Int32)  (k43 : ((Nat → Int32) × (Nat → Int64) × (Nat → Int32) × (Nat → Int32) × (Nat → Int32) × (Nat → Int32) × (Nat → Int32) × (Nat → Int32) × (Nat → Int32) × (Nat → Int32) × Int32) → Option ((Nat → Int32) × (Nat → Int64) × (Nat → Int32) × (Nat → Int32) × (Nat → Int32) × (Nat → Int32) × (Nat → Int32) × (Nat → Int32) × (Nat → Int32) × (Nat → Int32))) : ((Nat → Int32) × (Nat → Int64) × (Nat → Int32) × (Nat → Int32) × (Nat → Int32) × (Nat → Int32) × (Nat → Int32) × (Nat → Int32) × (Nat → Int32) × (Nat → Int32)) → Option ((Nat → Int32) × (Nat → Int64) × (Nat → Int32) × (Nat → Int32) × (Nat → Int32) × (Nat → Int32) × (Nat → Int32) × (Nat → Int32) × (Nat → Int32) × (Nat → Int32)) :=
  fun (mmI_85, mmJ_85, mm_frameF_85, mm_phaseF_85, mm_beginsF_85, mm_baseF_85, mm_opsF_85, mm_codeSortF_85, mm_codeValueF_85, mm_pairF_85) => fX12_reads_b86 N mm_tapeF k43 (mmI_85, mmJ_85, mm_frameF_85, mm_phaseF_85, mm_beginsF_85, mm_baseF_85, mm_opsF_85, mm_codeSortF_85, mm_codeValueF_85, mm_pairF_85, 0)
def fX12_reads_b70 (N : Nat) (mm_tapeF : Nat → Int32)  (k43 : ((Nat → Int32) × (Nat → Int64) × (Nat → Int32) × (Nat → Int32) × (Nat → Int32) × (Nat → Int32) × (Nat → Int32) × (Nat → Int32) × (Nat → Int32) × (Nat → Int32) × Int32) → Option ((Nat → Int32) × (Nat → Int64) × (Nat → Int32) × (Nat → Int32) × (Nat → Int32) × (Nat → Int32) × (Nat → Int32) × (Nat → Int32) × (Nat → Int32) × (Nat → Int32))) : ((Nat → Int32) × (Nat → Int64) × (Nat → Int32) × (Nat → Int32) × (Nat → Int32) × (Nat → Int32) × (Nat → Int32) × (Nat → Int32) × (Nat → Int32) × (Nat → Int32) × Int32) → Option ((Nat → Int32) × (Nat → Int64) × (Nat → Int32) × (Nat → Int32) × (Nat → Int32) × (Nat → Int32) × (Nat → Int32) × (Nat → Int32) × (Nat → Int32) × (Nat → Int32)) :=
  fun (mmI_70, mmJ_70, mm_frameF_70, mm_phaseF_70, mm_beginsF_70, mm_baseF_70, mm_opsF_70, mm_codeSortF_70, mm_codeValueF_70, mm_pairF_70, x2_70) => (if x2_70 = 0 then fX12_reads_b85 N mm_tapeF k43 (mmI_70, mmJ_70, mm_frameF_70, mm_phaseF_70, mm_beginsF_70, mm_baseF_70, mm_opsF_70, mm_codeSortF_70, mm_codeValueF_70, mm_pairF_70) else (if (mmI_70 8) = 0 then fX12_reads_b86 N mm_tapeF k43 (mmI_70, mmJ_70, mm_frameF_70, mm_phaseF_70, mm_beginsF_70, mm_baseF_70, mm_opsF_70, mm_codeSortF_70, mm_codeValueF_70, mm_pairF_70, 1) else fX12_reads_b85 N mm_tapeF k43 (mmI_70, mmJ_70, mm_frameF_70, mm_phaseF_70, mm_beginsF_70, mm_baseF_70, mm_opsF_70, mm_codeSortF_70, mm_codeValueF_70, mm_pairF_70)))
def fX12_reads_l43 (N : Nat) (mm_tapeF : Nat → Int32)  (k43 : ((Nat → Int32) × (Nat → Int64) × (Nat → Int32) × (Nat → Int32) × (Nat → Int32) × (Nat → Int32) × (Nat → Int32) × (Nat → Int32) × (Nat → Int32) × (Nat → Int32) × Int32) → Option ((Nat → Int32) × (Nat → Int64) × (Nat → Int32) × (Nat → Int32) × (Nat → Int32) × (Nat → Int32) × (Nat → Int32) × (Nat → Int32) × (Nat → Int32) × (Nat → Int32))) : ((Nat → Int32) × (Nat → Int64) × (Nat → Int32) × (Nat → Int32) × (Nat → Int32) × (Nat → Int32) × (Nat → Int32) × (Nat → Int32) × (Nat → Int32) × (Nat → Int32) × Int32) → Option ((Nat → Int32) × (Nat → Int64) × (Nat → Int32) × (Nat → Int32) × (Nat → Int32) × (Nat → Int32) × (Nat → Int32) × (Nat → Int32) × (Nat → Int32) × (Nat → Int32)) :=
  fun (mmI_43, mmJ_43, mm_frameF_43, mm_phaseF_43, mm_beginsF_43, mm_baseF_43, mm_opsF_43, mm_codeSortF_43, mm_codeValueF_43, mm_pairF_43, x2_43) => (if x2_43 = 0 then some ((mmI_43, mmJ_43, mm_frameF_43, mm_phaseF_43, mm_beginsF_43, mm_baseF_43, mm_opsF_43, mm_codeSortF_43, mm_codeValueF_43, mm_pairF_43)) else (if (mmI_43 42) = 0 then (xq_bd (fX12_operand N mmI_43 mmJ_43 mm_frameF_43 mm_beginsF_43 mm_opsF_43 mm_tapeF mm_phaseF_43 mm_baseF_43 mm_codeSortF_43 mm_codeValueF_43 mm_pairF_43) fun (r_3_0, r_3_1, r_3_2, r_3_3, r_3_4, r_3_5, r_3_6, r_3_7, r_3_8, r_3_9, r_3_10) => (xq_bd (xq_zb r_3_0) fun v_5 => fX12_reads_b70 N mm_tapeF k43 ((va_up r_3_1 42 r_3_0), r_3_2, r_3_3, r_3_6, r_3_4, r_3_7, r_3_5, r_3_8, r_3_9, r_3_10, x2_43))) else (xq_bd (fX12_goesOn N mmI_43 mmJ_43 mm_frameF_43 mm_phaseF_43 mm_baseF_43 mm_opsF_43 mm_codeSortF_43 mm_codeValueF_43 mm_tapeF mm_beginsF_43 mm_pairF_43) fun (r_1_0, r_1_1, r_1_2, r_1_3, r_1_4, r_1_5, r_1_6, r_1_7, r_1_8) => fX12_reads_b70 N mm_tapeF k43 (r_1_1, r_1_2, r_1_3, r_1_4, r_1_8, mm_baseF_43, r_1_5, r_1_6, r_1_7, mm_pairF_43, r_1_0))))
def fX12_reads_b38 (N : Nat) (mm_tapeF : Nat → Int32)   : ((Nat → Int32) × (Nat → Int64) × (Nat → Int32) × (Nat → Int32) × (Nat → Int32) × (Nat → Int32) × (Nat → Int32) × (Nat → Int32) × (Nat → Int32) × (Nat → Int32) × Int32) → Option ((Nat → Int32) × (Nat → Int64) × (Nat → Int32) × (Nat → Int32) × (Nat → Int32) × (Nat → Int32) × (Nat → Int32) × (Nat → Int32) × (Nat → Int32) × (Nat → Int32)) :=
  fun (mmI_38, mmJ_38, mm_frameF_38, mm_phaseF_38, mm_beginsF_38, mm_baseF_38, mm_opsF_38, mm_codeSortF_38, mm_codeValueF_38, mm_pairF_38, y1_38) => (xq_bd (fX12_pushes N mmI_38 mm_frameF_38 mm_phaseF_38 mm_beginsF_38 mm_baseF_38 y1_38) fun (r_6_0, r_6_1, r_6_2, r_6_3, r_6_4) => xq_loop (fX12_reads_l43 N mm_tapeF) N (r_6_0, mmJ_38, r_6_1, r_6_2, r_6_3, r_6_4, mm_opsF_38, mm_codeSortF_38, mm_codeValueF_38, mm_pairF_38, 1))
def fX12_reads (N : Nat) (mmI : Nat → Int32) (mmJ : Nat → Int64) (mm_frameF : Nat → Int32) (mm_phaseF : Nat → Int32) (mm_beginsF : Nat → Int32) (mm_baseF : Nat → Int32) (mm_opsF : Nat → Int32) (mm_codeSortF : Nat → Int32) (mm_codeValueF : Nat → Int32) (mm_tapeF : Nat → Int32) (mm_pairF : Nat → Int32)  (p1 : Int32) : Option ((Nat → Int32) × (Nat → Int64) × (Nat → Int32) × (Nat → Int32) × (Nat → Int32) × (Nat → Int32) × (Nat → Int32) × (Nat → Int32) × (Nat → Int32) × (Nat → Int32)) :=
  (if (mmI 8) ≤ 0 then (if p1 = 0 then fX12_reads_b38 N mm_tapeF ((va_up (va_up (va_up (va_up mmI 38 0) 39 0) 41 0) 42 0), mmJ, mm_frameF, mm_phaseF, mm_beginsF, mm_baseF, mm_opsF, mm_codeSortF, mm_codeValueF, mm_pairF, 0) else fX12_reads_b38 N mm_tapeF ((va_up (va_up (va_up (va_up mmI 38 0) 39 0) 41 0) 42 0), mmJ, mm_frameF, mm_phaseF, mm_beginsF, mm_baseF, mm_opsF, mm_codeSortF, mm_codeValueF, mm_pairF, 1)) else some ((mmI, mmJ, mm_frameF, mm_phaseF, mm_beginsF, mm_baseF, mm_opsF, mm_codeSortF, mm_codeValueF, mm_pairF)))
set_option maxHeartbeats 4000000 in
set_option maxRecDepth 100000 in
theorem kX12_reads (l : Launch) (dC : Nat → ClassId) (dI : Nat → Nat → Nat) (cI cB cJ cZ cM : ClassId) (z : Nat) (ad : Nat → Nat) (N : Nat) (a_p0 : Nat) (mmI : Nat → Int32) (mmJ : Nat → Int64) (mmR : Nat → Nat) (mm_frameF : Nat → Int32) (mm_phaseF : Nat → Int32) (mm_beginsF : Nat → Int32) (mm_baseF : Nat → Int32) (mm_opsF : Nat → Int32) (mm_codeSortF : Nat → Int32) (mm_codeValueF : Nat → Int32) (mm_tapeF : Nat → Int32) (mm_pairF : Nat → Int32) (p1 : Int32) {r0 : Nat → Int32} {r1 : Nat → Int64} {r2 : Nat → Int32} {r3 : Nat → Int32} {r4 : Nat → Int32} {r5 : Nat → Int32} {r6 : Nat → Int32} {r7 : Nat → Int32} {r8 : Nat → Int32} {r9 : Nat → Int32} (hf : fX12_reads N mmI mmJ mm_frameF mm_phaseF mm_beginsF mm_baseF mm_opsF mm_codeSortF mm_codeValueF mm_tapeF mm_pairF p1 = some (r0, r1, r2, r3, r4, r5, r6, r7, r8, r9)) : xq_Ct l yX12_reads wsX12_reads { frames := 4, cells := 0, slots := 0, locals := 89 } (dC, dI) vwCl (xq_tys cI cB cJ cZ cM) z ad [.ref a_p0, .int p1] [(a_p0, .inr (12, oX12 mmI mmJ mmR)), ((mmR 33), .inl (cI, 20, .inl mm_frameF)), ((mmR 34), .inl (cI, 20, .inl mm_phaseF)), ((mmR 35), .inl (cZ, 20, .inl mm_beginsF)), ((mmR 37), .inl (cI, 20, .inl mm_baseF)), ((mmR 40), .inl (cI, 500, .inl mm_opsF)), ((mmR 26), .inl (cI, 3200, .inl mm_codeSortF)), ((mmR 27), .inl (cI, 3200, .inl mm_codeValueF)), ((mmR 0), .inl (cI, 1800, .inl mm_tapeF)), ((mmR 36), .inl (cI, 20, .inl mm_pairF))] [(a_p0, .inr (12, oX12 r0 r1 mmR)), ((mmR 33), .inl (cI, 20, .inl r2)), ((mmR 34), .inl (cI, 20, .inl r3)), ((mmR 35), .inl (cZ, 20, .inl r4)), ((mmR 37), .inl (cI, 20, .inl r5)), ((mmR 40), .inl (cI, 500, .inl r6)), ((mmR 26), .inl (cI, 3200, .inl r7)), ((mmR 27), .inl (cI, 3200, .inl r8)), ((mmR 0), .inl (cI, 1800, .inl mm_tapeF)), ((mmR 36), .inl (cI, 20, .inl r9))] none := by
  intro sz
  refine Met.ofW (cc := cX12_reads) (maxL := 3) (ret := none) (by decide) rfl ?_
  intro p e s m args below meth c s₁ B hml hv
  obtain ⟨rfl, hsz, hP, hK, hD0, hE, hz⟩ := hv
  have hx := B.exec
  have hb := B.bytes
  have hr := B.returns
  have hts := atoms_spec (ws := wsX12_reads) B.pre
  have hown : s.vm.findClass RX12 = some m.cls := findClass_of_methodNamed B.named
  have hlocks := B.notSynchronized
  subst hsz
  have hD := hD0.self (sz := s.heap.size)
  have hN := xq_Env.of hE hz hD0
  generalize hAe : va_A [(a_p0, .inr (12, oX12 mmI mmJ mmR)), ((mmR 33), .inl (cI, 20, .inl mm_frameF)), ((mmR 34), .inl (cI, 20, .inl mm_phaseF)), ((mmR 35), .inl (cZ, 20, .inl mm_beginsF)), ((mmR 37), .inl (cI, 20, .inl mm_baseF)), ((mmR 40), .inl (cI, 500, .inl mm_opsF)), ((mmR 26), .inl (cI, 3200, .inl mm_codeSortF)), ((mmR 27), .inl (cI, 3200, .inl mm_codeValueF)), ((mmR 0), .inl (cI, 1800, .inl mm_tapeF)), ((mmR 36), .inl (cI, 20, .inl mm_pairF))] s.heap.size = A at hD hN ⊢
  have hA : ∀ q : Nat, s.heap.size ≤ q → A q := fun q h => by rw [← hAe]; exact Or.inr h
  clear hAe hD0
  have hS : va_S A s.heap s.heap [] := va_S.rf
  have hl := lv_entry ([.ref a_p0, .int p1]) (n := 3) (Nat.le_of_ble_eq_true rfl)
  rw [lg_entry_eq]
  generalize (lg_sl ([.ref a_p0, .int p1]) ++ List.replicate (3 - (lg_sl ([.ref a_p0, .int p1])).length) Slot.unset).toArray = ls at hl ⊢
  have hl : lv_has ls 3 [(0, .ref a_p0), (1, .int p1)] := hl
  have hw0 := hts (.fieldLink RX12 36 "DistantVoiceModel" "faultKind" "I") (by decide +kernel)
  have hinX12 : ∀ w ∈ wsX120, w ∈ wsX12_reads := fun w h => List.mem_cons_of_mem _ (List.mem_append_right _ h)
  have hw2 := hts (.fieldLink RX12 128 "DistantVoiceModel" "deep" "I") (by decide +kernel)
  have hw3 := hts (.fieldLink RX12 131 "DistantVoiceModel" "open" "I") (by decide +kernel)
  have hw4 := hts (.fieldLink RX12 137 "DistantVoiceModel" "opMany" "I") (by decide +kernel)
  have hw5 := hts (.fieldLink RX12 140 "DistantVoiceModel" "operand" "Z") (by decide +kernel)
  have l43 : ∀ n43 : Nat, ∀ (mmI_43 : Nat → Int32) (mmJ_43 : Nat → Int64) (mm_frameF_43 : Nat → Int32) (mm_phaseF_43 : Nat → Int32) (mm_beginsF_43 : Nat → Int32) (mm_baseF_43 : Nat → Int32) (mm_opsF_43 : Nat → Int32) (mm_codeSortF_43 : Nat → Int32) (mm_codeValueF_43 : Nat → Int32) (mm_pairF_43 : Nat → Int32) (x2_43 : Int32) (ls : Array Slot) (H : Heap) (locs : List Loc), xq_loop (fX12_reads_l43 N mm_tapeF) n43 (mmI_43, mmJ_43, mm_frameF_43, mm_phaseF_43, mm_beginsF_43, mm_baseF_43, mm_opsF_43, mm_codeSortF_43, mm_codeValueF_43, mm_pairF_43, x2_43) = some (r0, r1, r2, r3, r4, r5, r6, r7, r8, r9) → va_P (dC, dI) vwCl [(a_p0, .inr (12, oX12 mmI_43 mmJ_43 mmR)), ((mmR 33), .inl (cI, 20, .inl mm_frameF_43)), ((mmR 34), .inl (cI, 20, .inl mm_phaseF_43)), ((mmR 35), .inl (cZ, 20, .inl mm_beginsF_43)), ((mmR 37), .inl (cI, 20, .inl mm_baseF_43)), ((mmR 40), .inl (cI, 500, .inl mm_opsF_43)), ((mmR 26), .inl (cI, 3200, .inl mm_codeSortF_43)), ((mmR 27), .inl (cI, 3200, .inl mm_codeValueF_43)), ((mmR 0), .inl (cI, 1800, .inl mm_tapeF)), ((mmR 36), .inl (cI, 20, .inl mm_pairF_43))] H → va_D A [(a_p0, .inr (12, oX12 mmI_43 mmJ_43 mmR)), ((mmR 33), .inl (cI, 20, .inl mm_frameF_43)), ((mmR 34), .inl (cI, 20, .inl mm_phaseF_43)), ((mmR 35), .inl (cZ, 20, .inl mm_beginsF_43)), ((mmR 37), .inl (cI, 20, .inl mm_baseF_43)), ((mmR 40), .inl (cI, 500, .inl mm_opsF_43)), ((mmR 26), .inl (cI, 3200, .inl mm_codeSortF_43)), ((mmR 27), .inl (cI, 3200, .inl mm_codeValueF_43)), ((mmR 0), .inl (cI, 1800, .inl mm_tapeF)), ((mmR 36), .inl (cI, 20, .inl mm_pairF_43))] → va_S A s.heap H locs → lv_has ls 3 [(0, .ref a_p0), (2, .int x2_43)] → W p l e (headSpec wsX12_reads { frames := 4, cells := 0, slots := 0, locals := 89 }).room s m [.ref a_p0, .int p1].toArray below meth c H locs 0 0 (MQ below (xq_Q (dC, dI) vwCl (xq_tys cI cB cJ cZ cM) A [(a_p0, .inr (12, oX12 r0 r1 mmR)), ((mmR 33), .inl (cI, 20, .inl r2)), ((mmR 34), .inl (cI, 20, .inl r3)), ((mmR 35), .inl (cZ, 20, .inl r4)), ((mmR 37), .inl (cI, 20, .inl r5)), ((mmR 40), .inl (cI, 500, .inl r6)), ((mmR 26), .inl (cI, 3200, .inl r7)), ((mmR 27), .inl (cI, 3200, .inl r8)), ((mmR 0), .inl (cI, 1800, .inl mm_tapeF)), ((mmR 36), .inl (cI, 20, .inl r9))] none) [.ref a_p0, .int p1].toArray s 0 0 A) (F0 m 43 ls []) := by
    intro n43
    induction n43 with
    | zero => intro mmI_43 mmJ_43 mm_frameF_43 mm_phaseF_43 mm_beginsF_43 mm_baseF_43 mm_opsF_43 mm_codeSortF_43 mm_codeValueF_43 mm_pairF_43 x2_43 ls H locs hf; cases (show none = some (r0, r1, r2, r3, r4, r5, r6, r7, r8, r9) from hf)
    | succ n43 ih43 =>
      have b86 : ∀ (mmI_86 : Nat → Int32) (mmJ_86 : Nat → Int64) (mm_frameF_86 : Nat → Int32) (mm_phaseF_86 : Nat → Int32) (mm_beginsF_86 : Nat → Int32) (mm_baseF_86 : Nat → Int32) (mm_opsF_86 : Nat → Int32) (mm_codeSortF_86 : Nat → Int32) (mm_codeValueF_86 : Nat → Int32) (mm_pairF_86 : Nat → Int32) (y0_86 : Int32) (ls : Array Slot) (H : Heap) (locs : List Loc), fX12_reads_b86 N mm_tapeF (xq_loop (fX12_reads_l43 N mm_tapeF) n43) (mmI_86, mmJ_86, mm_frameF_86, mm_phaseF_86, mm_beginsF_86, mm_baseF_86, mm_opsF_86, mm_codeSortF_86, mm_codeValueF_86, mm_pairF_86, y0_86) = some (r0, r1, r2, r3, r4, r5, r6, r7, r8, r9) → va_P (dC, dI) vwCl [(a_p0, .inr (12, oX12 mmI_86 mmJ_86 mmR)), ((mmR 33), .inl (cI, 20, .inl mm_frameF_86)), ((mmR 34), .inl (cI, 20, .inl mm_phaseF_86)), ((mmR 35), .inl (cZ, 20, .inl mm_beginsF_86)), ((mmR 37), .inl (cI, 20, .inl mm_baseF_86)), ((mmR 40), .inl (cI, 500, .inl mm_opsF_86)), ((mmR 26), .inl (cI, 3200, .inl mm_codeSortF_86)), ((mmR 27), .inl (cI, 3200, .inl mm_codeValueF_86)), ((mmR 0), .inl (cI, 1800, .inl mm_tapeF)), ((mmR 36), .inl (cI, 20, .inl mm_pairF_86))] H → va_D A [(a_p0, .inr (12, oX12 mmI_86 mmJ_86 mmR)), ((mmR 33), .inl (cI, 20, .inl mm_frameF_86)), ((mmR 34), .inl (cI, 20, .inl mm_phaseF_86)), ((mmR 35), .inl (cZ, 20, .inl mm_beginsF_86)), ((mmR 37), .inl (cI, 20, .inl mm_baseF_86)), ((mmR 40), .inl (cI, 500, .inl mm_opsF_86)), ((mmR 26), .inl (cI, 3200, .inl mm_codeSortF_86)), ((mmR 27), .inl (cI, 3200, .inl mm_codeValueF_86)), ((mmR 0), .inl (cI, 1800, .inl mm_tapeF)), ((mmR 36), .inl (cI, 20, .inl mm_pairF_86))] → va_S A s.heap H locs → lv_has ls 3 [(0, .ref a_p0)] → W p l e (headSpec wsX12_reads { frames := 4, cells := 0, slots := 0, locals := 89 }).room s m [.ref a_p0, .int p1].toArray below meth c H locs 0 0 (MQ below (xq_Q (dC, dI) vwCl (xq_tys cI cB cJ cZ cM) A [(a_p0, .inr (12, oX12 r0 r1 mmR)), ((mmR 33), .inl (cI, 20, .inl r2)), ((mmR 34), .inl (cI, 20, .inl r3)), ((mmR 35), .inl (cZ, 20, .inl r4)), ((mmR 37), .inl (cI, 20, .inl r5)), ((mmR 40), .inl (cI, 500, .inl r6)), ((mmR 26), .inl (cI, 3200, .inl r7)), ((mmR 27), .inl (cI, 3200, .inl r8)), ((mmR 0), .inl (cI, 1800, .inl mm_tapeF)), ((mmR 36), .inl (cI, 20, .inl r9))] none) [.ref a_p0, .int p1].toArray s 0 0 A) (F0 m 86 ls [.int y0_86]) := by
        intro mmI_86 mmJ_86 mm_frameF_86 mm_phaseF_86 mm_beginsF_86 mm_baseF_86 mm_opsF_86 mm_codeSortF_86 mm_codeValueF_86 mm_pairF_86 y0_86 ls H locs hf hP hD hS hl
        unfold fX12_reads_b86 at hf
        refine lv_istore_n (lv' := [(2, .int y0_86), (0, .ref a_p0)]) hx hb dX12_reads_86 rfl hl (by decide) rfl (fun ls hl => ?_)
        refine lv_goto (tgt := 43) hx hb dX12_reads_87 (by decide) ?_
        exact ih43 mmI_86 mmJ_86 mm_frameF_86 mm_phaseF_86 mm_beginsF_86 mm_baseF_86 mm_opsF_86 mm_codeSortF_86 mm_codeValueF_86 mm_pairF_86 y0_86 _ _ _ hf hP hD hS (lv_sub hl [1, 0] rfl)
      have b85 : ∀ (mmI_85 : Nat → Int32) (mmJ_85 : Nat → Int64) (mm_frameF_85 : Nat → Int32) (mm_phaseF_85 : Nat → Int32) (mm_beginsF_85 : Nat → Int32) (mm_baseF_85 : Nat → Int32) (mm_opsF_85 : Nat → Int32) (mm_codeSortF_85 : Nat → Int32) (mm_codeValueF_85 : Nat → Int32) (mm_pairF_85 : Nat → Int32) (ls : Array Slot) (H : Heap) (locs : List Loc), fX12_reads_b85 N mm_tapeF (xq_loop (fX12_reads_l43 N mm_tapeF) n43) (mmI_85, mmJ_85, mm_frameF_85, mm_phaseF_85, mm_beginsF_85, mm_baseF_85, mm_opsF_85, mm_codeSortF_85, mm_codeValueF_85, mm_pairF_85) = some (r0, r1, r2, r3, r4, r5, r6, r7, r8, r9) → va_P (dC, dI) vwCl [(a_p0, .inr (12, oX12 mmI_85 mmJ_85 mmR)), ((mmR 33), .inl (cI, 20, .inl mm_frameF_85)), ((mmR 34), .inl (cI, 20, .inl mm_phaseF_85)), ((mmR 35), .inl (cZ, 20, .inl mm_beginsF_85)), ((mmR 37), .inl (cI, 20, .inl mm_baseF_85)), ((mmR 40), .inl (cI, 500, .inl mm_opsF_85)), ((mmR 26), .inl (cI, 3200, .inl mm_codeSortF_85)), ((mmR 27), .inl (cI, 3200, .inl mm_codeValueF_85)), ((mmR 0), .inl (cI, 1800, .inl mm_tapeF)), ((mmR 36), .inl (cI, 20, .inl mm_pairF_85))] H → va_D A [(a_p0, .inr (12, oX12 mmI_85 mmJ_85 mmR)), ((mmR 33), .inl (cI, 20, .inl mm_frameF_85)), ((mmR 34), .inl (cI, 20, .inl mm_phaseF_85)), ((mmR 35), .inl (cZ, 20, .inl mm_beginsF_85)), ((mmR 37), .inl (cI, 20, .inl mm_baseF_85)), ((mmR 40), .inl (cI, 500, .inl mm_opsF_85)), ((mmR 26), .inl (cI, 3200, .inl mm_codeSortF_85)), ((mmR 27), .inl (cI, 3200, .inl mm_codeValueF_85)), ((mmR 0), .inl (cI, 1800, .inl mm_tapeF)), ((mmR 36), .inl (cI, 20, .inl mm_pairF_85))] → va_S A s.heap H locs → lv_has ls 3 [(0, .ref a_p0)] → W p l e (headSpec wsX12_reads { frames := 4, cells := 0, slots := 0, locals := 89 }).room s m [.ref a_p0, .int p1].toArray below meth c H locs 0 0 (MQ below (xq_Q (dC, dI) vwCl (xq_tys cI cB cJ cZ cM) A [(a_p0, .inr (12, oX12 r0 r1 mmR)), ((mmR 33), .inl (cI, 20, .inl r2)), ((mmR 34), .inl (cI, 20, .inl r3)), ((mmR 35), .inl (cZ, 20, .inl r4)), ((mmR 37), .inl (cI, 20, .inl r5)), ((mmR 40), .inl (cI, 500, .inl r6)), ((mmR 26), .inl (cI, 3200, .inl r7)), ((mmR 27), .inl (cI, 3200, .inl r8)), ((mmR 0), .inl (cI, 1800, .inl mm_tapeF)), ((mmR 36), .inl (cI, 20, .inl r9))] none) [.ref a_p0, .int p1].toArray s 0 0 A) (F0 m 85 ls []) := by
        intro mmI_85 mmJ_85 mm_frameF_85 mm_phaseF_85 mm_beginsF_85 mm_baseF_85 mm_opsF_85 mm_codeSortF_85 mm_codeValueF_85 mm_pairF_85 ls H locs hf hP hD hS hl
        unfold fX12_reads_b85 at hf
        refine lv_iconst (v := 0) hx hb dX12_reads_85 (by decide) ?_
        exact b86 mmI_85 mmJ_85 mm_frameF_85 mm_phaseF_85 mm_beginsF_85 mm_baseF_85 mm_opsF_85 mm_codeSortF_85 mm_codeValueF_85 mm_pairF_85 0 _ _ _ hf hP hD hS (lv_sub hl [0] rfl)
      have b70 : ∀ (mmI_70 : Nat → Int32) (mmJ_70 : Nat → Int64) (mm_frameF_70 : Nat → Int32) (mm_phaseF_70 : Nat → Int32) (mm_beginsF_70 : Nat → Int32) (mm_baseF_70 : Nat → Int32) (mm_opsF_70 : Nat → Int32) (mm_codeSortF_70 : Nat → Int32) (mm_codeValueF_70 : Nat → Int32) (mm_pairF_70 : Nat → Int32) (x2_70 : Int32) (ls : Array Slot) (H : Heap) (locs : List Loc), fX12_reads_b70 N mm_tapeF (xq_loop (fX12_reads_l43 N mm_tapeF) n43) (mmI_70, mmJ_70, mm_frameF_70, mm_phaseF_70, mm_beginsF_70, mm_baseF_70, mm_opsF_70, mm_codeSortF_70, mm_codeValueF_70, mm_pairF_70, x2_70) = some (r0, r1, r2, r3, r4, r5, r6, r7, r8, r9) → va_P (dC, dI) vwCl [(a_p0, .inr (12, oX12 mmI_70 mmJ_70 mmR)), ((mmR 33), .inl (cI, 20, .inl mm_frameF_70)), ((mmR 34), .inl (cI, 20, .inl mm_phaseF_70)), ((mmR 35), .inl (cZ, 20, .inl mm_beginsF_70)), ((mmR 37), .inl (cI, 20, .inl mm_baseF_70)), ((mmR 40), .inl (cI, 500, .inl mm_opsF_70)), ((mmR 26), .inl (cI, 3200, .inl mm_codeSortF_70)), ((mmR 27), .inl (cI, 3200, .inl mm_codeValueF_70)), ((mmR 0), .inl (cI, 1800, .inl mm_tapeF)), ((mmR 36), .inl (cI, 20, .inl mm_pairF_70))] H → va_D A [(a_p0, .inr (12, oX12 mmI_70 mmJ_70 mmR)), ((mmR 33), .inl (cI, 20, .inl mm_frameF_70)), ((mmR 34), .inl (cI, 20, .inl mm_phaseF_70)), ((mmR 35), .inl (cZ, 20, .inl mm_beginsF_70)), ((mmR 37), .inl (cI, 20, .inl mm_baseF_70)), ((mmR 40), .inl (cI, 500, .inl mm_opsF_70)), ((mmR 26), .inl (cI, 3200, .inl mm_codeSortF_70)), ((mmR 27), .inl (cI, 3200, .inl mm_codeValueF_70)), ((mmR 0), .inl (cI, 1800, .inl mm_tapeF)), ((mmR 36), .inl (cI, 20, .inl mm_pairF_70))] → va_S A s.heap H locs → lv_has ls 3 [(0, .ref a_p0), (2, .int x2_70)] → W p l e (headSpec wsX12_reads { frames := 4, cells := 0, slots := 0, locals := 89 }).room s m [.ref a_p0, .int p1].toArray below meth c H locs 0 0 (MQ below (xq_Q (dC, dI) vwCl (xq_tys cI cB cJ cZ cM) A [(a_p0, .inr (12, oX12 r0 r1 mmR)), ((mmR 33), .inl (cI, 20, .inl r2)), ((mmR 34), .inl (cI, 20, .inl r3)), ((mmR 35), .inl (cZ, 20, .inl r4)), ((mmR 37), .inl (cI, 20, .inl r5)), ((mmR 40), .inl (cI, 500, .inl r6)), ((mmR 26), .inl (cI, 3200, .inl r7)), ((mmR 27), .inl (cI, 3200, .inl r8)), ((mmR 0), .inl (cI, 1800, .inl mm_tapeF)), ((mmR 36), .inl (cI, 20, .inl r9))] none) [.ref a_p0, .int p1].toArray s 0 0 A) (F0 m 70 ls []) := by
        intro mmI_70 mmJ_70 mm_frameF_70 mm_phaseF_70 mm_beginsF_70 mm_baseF_70 mm_opsF_70 mm_codeSortF_70 mm_codeValueF_70 mm_pairF_70 x2_70 ls H locs hf hP hD hS hl
        unfold fX12_reads_b70 at hf
        refine lv_iload_n hx hb dX12_reads_70 rfl (lv_at hl 1 rfl) ?_
        refine lv_if_eq (tgt := 85) hx hb dX12_reads_71 (by decide) (fun c_ => ?_) (fun c_ => ?_)
        · have hf := xq_pos hf c_
          exact b85 mmI_70 mmJ_70 mm_frameF_70 mm_phaseF_70 mm_beginsF_70 mm_baseF_70 mm_opsF_70 mm_codeSortF_70 mm_codeValueF_70 mm_pairF_70 _ _ _ hf hP hD hS (lv_sub hl [0] rfl)
        · have hf := xq_neg hf c_
          refine lv_aload_n hx hb dX12_reads_74 rfl (lv_at hl 0 rfl) ?_
          refine va_get (D := (dC, dI)) (ci := 12) (v := .int (mmI_70 8)) (C := RX12) (T := TX12) (N := 70) hx hb hts hinX12 hown hK hP 0 rfl rfl 8 (by decide) hw0 (fun _ h9 => h9) rfl dX12_reads_75 ?_
          refine lv_if_ne (tgt := 85) hx hb dX12_reads_78 (by decide) (fun c_ => ?_) (fun c_ => ?_)
          · have hf := xq_neg hf c_
            exact b85 mmI_70 mmJ_70 mm_frameF_70 mm_phaseF_70 mm_beginsF_70 mm_baseF_70 mm_opsF_70 mm_codeSortF_70 mm_codeValueF_70 mm_pairF_70 _ _ _ hf hP hD hS (lv_sub hl [0] rfl)
          · have hf := xq_pos hf c_
            refine lv_iconst (v := 1) hx hb dX12_reads_81 (by decide) ?_
            refine lv_goto (tgt := 86) hx hb dX12_reads_82 (by decide) ?_
            exact b86 mmI_70 mmJ_70 mm_frameF_70 mm_phaseF_70 mm_beginsF_70 mm_baseF_70 mm_opsF_70 mm_codeSortF_70 mm_codeValueF_70 mm_pairF_70 1 _ _ _ hf hP hD hS (lv_sub hl [0] rfl)
      intro mmI_43 mmJ_43 mm_frameF_43 mm_phaseF_43 mm_beginsF_43 mm_baseF_43 mm_opsF_43 mm_codeSortF_43 mm_codeValueF_43 mm_pairF_43 x2_43 ls H locs hf hP hD hS hl
      have hf : fX12_reads_l43 N mm_tapeF (xq_loop (fX12_reads_l43 N mm_tapeF) n43) (mmI_43, mmJ_43, mm_frameF_43, mm_phaseF_43, mm_beginsF_43, mm_baseF_43, mm_opsF_43, mm_codeSortF_43, mm_codeValueF_43, mm_pairF_43, x2_43) = some (r0, r1, r2, r3, r4, r5, r6, r7, r8, r9) := hf
      unfold fX12_reads_l43 at hf
      refine lv_iload_n hx hb dX12_reads_43 rfl (lv_at hl 1 rfl) ?_
      refine lv_if_eq (tgt := 90) hx hb dX12_reads_44 (by decide) (fun c_ => ?_) (fun c_ => ?_)
      · have hf := xq_pos hf c_
        have e9 := Option.some.inj hf
        have e9_0 : mmI_43 = r0 := congrArg (fun t => t.1) e9
        have e9_1 : mmJ_43 = r1 := congrArg (fun t => t.2.1) e9
        have e9_2 : mm_frameF_43 = r2 := congrArg (fun t => t.2.2.1) e9
        have e9_3 : mm_phaseF_43 = r3 := congrArg (fun t => t.2.2.2.1) e9
        have e9_4 : mm_beginsF_43 = r4 := congrArg (fun t => t.2.2.2.2.1) e9
        have e9_5 : mm_baseF_43 = r5 := congrArg (fun t => t.2.2.2.2.2.1) e9
        have e9_6 : mm_opsF_43 = r6 := congrArg (fun t => t.2.2.2.2.2.2.1) e9
        have e9_7 : mm_codeSortF_43 = r7 := congrArg (fun t => t.2.2.2.2.2.2.2.1) e9
        have e9_8 : mm_codeValueF_43 = r8 := congrArg (fun t => t.2.2.2.2.2.2.2.2.1) e9
        have e9_9 : mm_pairF_43 = r9 := congrArg (fun t => t.2.2.2.2.2.2.2.2.2) e9
        clear e9 hf
        try clear b38
        try clear b70
        try clear b85
        try clear b86
        try clear l43
        try clear ih43
        subst e9_0
        subst e9_1
        subst e9_2
        subst e9_3
        subst e9_4
        subst e9_5
        subst e9_6
        subst e9_7
        subst e9_8
        subst e9_9
        exact xq_vret hx hb hr hlocks hK hP hD hS dX12_reads_90
      · have hf := xq_neg hf c_
        refine lv_aload_n hx hb dX12_reads_47 rfl (lv_at hl 0 rfl) ?_
        refine va_get (D := (dC, dI)) (ci := 12) (v := .int (mmI_43 42)) (C := RX12) (T := TX12) (N := 70) hx hb hts hinX12 hown hK hP 0 rfl rfl 42 (by decide) hw5 (fun _ h9 => h9) rfl dX12_reads_48 ?_
        refine lv_if_ne (tgt := 65) hx hb dX12_reads_51 (by decide) (fun c_ => ?_) (fun c_ => ?_)
        · have hf := xq_neg hf c_
          refine lv_aload_n hx hb dX12_reads_65 rfl (lv_at hl 0 rfl) ?_
          obtain ⟨⟨r_1_0, r_1_1, r_1_2, r_1_3, r_1_4, r_1_5, r_1_6, r_1_7, r_1_8⟩, h_2, hf⟩ := xq_bd_some hf
          refine xq_callV (As := []) (rest := []) (ci := 12) (q0 := 0) ⟨hx, hb, hml, hown, hts⟩ (kX12_goesOn l dC dI cI cB cJ cZ cM z ad N a_p0 mmI_43 mmJ_43 mmR mm_frameF_43 mm_phaseF_43 mm_baseF_43 mm_opsF_43 mm_codeSortF_43 mm_codeValueF_43 mm_tapeF mm_beginsF_43 mm_pairF_43 h_2) (cwV 0 hts gX12_reads_X12_goesOn rfl rfl rfl (by decide +kernel) ⟨Nat.le_of_ble_eq_true rfl, Nat.le_of_ble_eq_true rfl⟩) hN hK hP hD hS hA [0, 1, 2, 4, 5, 6, 7, 8, 3, 9] (by decide) rfl rfl rfl rfl rfl rfl hl.1 rfl (Nat.le_of_ble_eq_true rfl) dX12_reads_66 ⟨Nat.zero_le _, Nat.zero_le _⟩ (fun H locs hP hD hS => ?_)
          have hP : va_P (dC, dI) vwCl [(a_p0, .inr (12, oX12 r_1_1 r_1_2 mmR)), ((mmR 33), .inl (cI, 20, .inl r_1_3)), ((mmR 34), .inl (cI, 20, .inl r_1_4)), ((mmR 35), .inl (cZ, 20, .inl r_1_8)), ((mmR 37), .inl (cI, 20, .inl mm_baseF_43)), ((mmR 40), .inl (cI, 500, .inl r_1_5)), ((mmR 26), .inl (cI, 3200, .inl r_1_6)), ((mmR 27), .inl (cI, 3200, .inl r_1_7)), ((mmR 0), .inl (cI, 1800, .inl mm_tapeF)), ((mmR 36), .inl (cI, 20, .inl mm_pairF_43))] H := hP
          have hD : va_D A [(a_p0, .inr (12, oX12 r_1_1 r_1_2 mmR)), ((mmR 33), .inl (cI, 20, .inl r_1_3)), ((mmR 34), .inl (cI, 20, .inl r_1_4)), ((mmR 35), .inl (cZ, 20, .inl r_1_8)), ((mmR 37), .inl (cI, 20, .inl mm_baseF_43)), ((mmR 40), .inl (cI, 500, .inl r_1_5)), ((mmR 26), .inl (cI, 3200, .inl r_1_6)), ((mmR 27), .inl (cI, 3200, .inl r_1_7)), ((mmR 0), .inl (cI, 1800, .inl mm_tapeF)), ((mmR 36), .inl (cI, 20, .inl mm_pairF_43))] := hD
          refine W.eq (g2 := F0 m 69 ls [.int r_1_0]) rfl ?_
          refine lv_istore_n (lv' := [(2, .int r_1_0), (0, .ref a_p0)]) hx hb dX12_reads_69 rfl hl (by decide) rfl (fun ls hl => ?_)
          exact b70 r_1_1 r_1_2 r_1_3 r_1_4 r_1_8 mm_baseF_43 r_1_5 r_1_6 r_1_7 mm_pairF_43 r_1_0 _ _ _ hf hP hD hS (lv_sub hl [1, 0] rfl)
        · have hf := xq_pos hf c_
          refine lv_aload_n hx hb dX12_reads_54 rfl (lv_at hl 0 rfl) ?_
          refine lv_aload_n hx hb dX12_reads_55 rfl (lv_at hl 0 rfl) ?_
          obtain ⟨⟨r_3_0, r_3_1, r_3_2, r_3_3, r_3_4, r_3_5, r_3_6, r_3_7, r_3_8, r_3_9, r_3_10⟩, h_4, hf⟩ := xq_bd_some hf
          refine xq_callV (As := []) (rest := [.ref a_p0]) (ci := 12) (q0 := 0) ⟨hx, hb, hml, hown, hts⟩ (kX12_operand l dC dI cI cB cJ cZ cM z ad N a_p0 mmI_43 mmJ_43 mmR mm_frameF_43 mm_beginsF_43 mm_opsF_43 mm_tapeF mm_phaseF_43 mm_baseF_43 mm_codeSortF_43 mm_codeValueF_43 mm_pairF_43 h_4) (cwV 0 hts gX12_reads_X12_operand rfl rfl rfl (by decide +kernel) ⟨Nat.le_of_ble_eq_true rfl, Nat.le_of_ble_eq_true rfl⟩) hN hK hP hD hS hA [0, 1, 3, 5, 8, 2, 4, 6, 7, 9] (by decide) rfl rfl rfl rfl rfl rfl hl.1 rfl (Nat.le_of_ble_eq_true rfl) dX12_reads_56 ⟨Nat.zero_le _, Nat.zero_le _⟩ (fun H locs hP hD hS => ?_)
          have hP : va_P (dC, dI) vwCl [(a_p0, .inr (12, oX12 r_3_1 r_3_2 mmR)), ((mmR 33), .inl (cI, 20, .inl r_3_3)), ((mmR 34), .inl (cI, 20, .inl r_3_6)), ((mmR 35), .inl (cZ, 20, .inl r_3_4)), ((mmR 37), .inl (cI, 20, .inl r_3_7)), ((mmR 40), .inl (cI, 500, .inl r_3_5)), ((mmR 26), .inl (cI, 3200, .inl r_3_8)), ((mmR 27), .inl (cI, 3200, .inl r_3_9)), ((mmR 0), .inl (cI, 1800, .inl mm_tapeF)), ((mmR 36), .inl (cI, 20, .inl r_3_10))] H := hP
          have hD : va_D A [(a_p0, .inr (12, oX12 r_3_1 r_3_2 mmR)), ((mmR 33), .inl (cI, 20, .inl r_3_3)), ((mmR 34), .inl (cI, 20, .inl r_3_6)), ((mmR 35), .inl (cZ, 20, .inl r_3_4)), ((mmR 37), .inl (cI, 20, .inl r_3_7)), ((mmR 40), .inl (cI, 500, .inl r_3_5)), ((mmR 26), .inl (cI, 3200, .inl r_3_8)), ((mmR 27), .inl (cI, 3200, .inl r_3_9)), ((mmR 0), .inl (cI, 1800, .inl mm_tapeF)), ((mmR 36), .inl (cI, 20, .inl r_3_10))] := hD
          refine W.eq (g2 := F0 m 59 ls [.int r_3_0, .ref a_p0]) rfl ?_
          obtain ⟨v_5, hz, hf⟩ := xq_bd_some hf
          obtain ⟨hn9, hf9⟩ := xq_zb_n hz
          obtain rfl := (xq_zb_some hz).2
          refine va_put (D := (dC, dI)) (ci := 12) (v := .int r_3_0) (ty := .boolean) (C := RX12) (T := TX12) (N := 70) hx hb hts hinX12 tyX12 tyX12_ok nmX12 hown hK hP hD hS 0 rfl rfl 42 (by decide) hw5 (fun _ h9 => h9) rfl (by decide +kernel) hn9 hf9 (Nat.le_of_ble_eq_true rfl) dX12_reads_59 (fun H locs hP hD hS => ?_)
          have hP : va_P (dC, dI) vwCl [(a_p0, .inr (12, oX12 (va_up r_3_1 42 r_3_0) r_3_2 mmR)), ((mmR 33), .inl (cI, 20, .inl r_3_3)), ((mmR 34), .inl (cI, 20, .inl r_3_6)), ((mmR 35), .inl (cZ, 20, .inl r_3_4)), ((mmR 37), .inl (cI, 20, .inl r_3_7)), ((mmR 40), .inl (cI, 500, .inl r_3_5)), ((mmR 26), .inl (cI, 3200, .inl r_3_8)), ((mmR 27), .inl (cI, 3200, .inl r_3_9)), ((mmR 0), .inl (cI, 1800, .inl mm_tapeF)), ((mmR 36), .inl (cI, 20, .inl r_3_10))] H := hP
          have hD : va_D A [(a_p0, .inr (12, oX12 (va_up r_3_1 42 r_3_0) r_3_2 mmR)), ((mmR 33), .inl (cI, 20, .inl r_3_3)), ((mmR 34), .inl (cI, 20, .inl r_3_6)), ((mmR 35), .inl (cZ, 20, .inl r_3_4)), ((mmR 37), .inl (cI, 20, .inl r_3_7)), ((mmR 40), .inl (cI, 500, .inl r_3_5)), ((mmR 26), .inl (cI, 3200, .inl r_3_8)), ((mmR 27), .inl (cI, 3200, .inl r_3_9)), ((mmR 0), .inl (cI, 1800, .inl mm_tapeF)), ((mmR 36), .inl (cI, 20, .inl r_3_10))] := hD
          refine lv_goto (tgt := 70) hx hb dX12_reads_62 (by decide) ?_
          exact b70 ((va_up r_3_1 42 r_3_0)) r_3_2 r_3_3 r_3_6 r_3_4 r_3_7 r_3_5 r_3_8 r_3_9 r_3_10 x2_43 _ _ _ hf hP hD hS (lv_sub hl [0, 1] rfl)
  have b38 : ∀ (mmI_38 : Nat → Int32) (mmJ_38 : Nat → Int64) (mm_frameF_38 : Nat → Int32) (mm_phaseF_38 : Nat → Int32) (mm_beginsF_38 : Nat → Int32) (mm_baseF_38 : Nat → Int32) (mm_opsF_38 : Nat → Int32) (mm_codeSortF_38 : Nat → Int32) (mm_codeValueF_38 : Nat → Int32) (mm_pairF_38 : Nat → Int32) (y1_38 : Int32) (ls : Array Slot) (H : Heap) (locs : List Loc), fX12_reads_b38 N mm_tapeF (mmI_38, mmJ_38, mm_frameF_38, mm_phaseF_38, mm_beginsF_38, mm_baseF_38, mm_opsF_38, mm_codeSortF_38, mm_codeValueF_38, mm_pairF_38, y1_38) = some (r0, r1, r2, r3, r4, r5, r6, r7, r8, r9) → va_P (dC, dI) vwCl [(a_p0, .inr (12, oX12 mmI_38 mmJ_38 mmR)), ((mmR 33), .inl (cI, 20, .inl mm_frameF_38)), ((mmR 34), .inl (cI, 20, .inl mm_phaseF_38)), ((mmR 35), .inl (cZ, 20, .inl mm_beginsF_38)), ((mmR 37), .inl (cI, 20, .inl mm_baseF_38)), ((mmR 40), .inl (cI, 500, .inl mm_opsF_38)), ((mmR 26), .inl (cI, 3200, .inl mm_codeSortF_38)), ((mmR 27), .inl (cI, 3200, .inl mm_codeValueF_38)), ((mmR 0), .inl (cI, 1800, .inl mm_tapeF)), ((mmR 36), .inl (cI, 20, .inl mm_pairF_38))] H → va_D A [(a_p0, .inr (12, oX12 mmI_38 mmJ_38 mmR)), ((mmR 33), .inl (cI, 20, .inl mm_frameF_38)), ((mmR 34), .inl (cI, 20, .inl mm_phaseF_38)), ((mmR 35), .inl (cZ, 20, .inl mm_beginsF_38)), ((mmR 37), .inl (cI, 20, .inl mm_baseF_38)), ((mmR 40), .inl (cI, 500, .inl mm_opsF_38)), ((mmR 26), .inl (cI, 3200, .inl mm_codeSortF_38)), ((mmR 27), .inl (cI, 3200, .inl mm_codeValueF_38)), ((mmR 0), .inl (cI, 1800, .inl mm_tapeF)), ((mmR 36), .inl (cI, 20, .inl mm_pairF_38))] → va_S A s.heap H locs → lv_has ls 3 [(0, .ref a_p0)] → W p l e (headSpec wsX12_reads { frames := 4, cells := 0, slots := 0, locals := 89 }).room s m [.ref a_p0, .int p1].toArray below meth c H locs 0 0 (MQ below (xq_Q (dC, dI) vwCl (xq_tys cI cB cJ cZ cM) A [(a_p0, .inr (12, oX12 r0 r1 mmR)), ((mmR 33), .inl (cI, 20, .inl r2)), ((mmR 34), .inl (cI, 20, .inl r3)), ((mmR 35), .inl (cZ, 20, .inl r4)), ((mmR 37), .inl (cI, 20, .inl r5)), ((mmR 40), .inl (cI, 500, .inl r6)), ((mmR 26), .inl (cI, 3200, .inl r7)), ((mmR 27), .inl (cI, 3200, .inl r8)), ((mmR 0), .inl (cI, 1800, .inl mm_tapeF)), ((mmR 36), .inl (cI, 20, .inl r9))] none) [.ref a_p0, .int p1].toArray s 0 0 A) (F0 m 38 ls [.int y1_38, .ref a_p0]) := by
    intro mmI_38 mmJ_38 mm_frameF_38 mm_phaseF_38 mm_beginsF_38 mm_baseF_38 mm_opsF_38 mm_codeSortF_38 mm_codeValueF_38 mm_pairF_38 y1_38 ls H locs hf hP hD hS hl
    unfold fX12_reads_b38 at hf
    obtain ⟨⟨r_1_0, r_1_1, r_1_2, r_1_3, r_1_4⟩, h_2, hf⟩ := xq_bd_some hf
    refine xq_callV (As := [.int y1_38]) (rest := []) (ci := 12) (q0 := 0) ⟨hx, hb, hml, hown, hts⟩ (kX12_pushes l dC dI cI cB cJ cZ cM z ad N a_p0 mmI_38 mmJ_38 mmR mm_frameF_38 mm_phaseF_38 mm_beginsF_38 mm_baseF_38 y1_38 h_2) (cwV 1 hts gX12_reads_X12_pushes rfl rfl rfl (by decide +kernel) ⟨Nat.le_of_ble_eq_true rfl, Nat.le_of_ble_eq_true rfl⟩) hN hK hP hD hS hA [0, 1, 2, 3, 4] (by decide) rfl rfl rfl rfl rfl rfl hl.1 rfl (Nat.le_of_ble_eq_true rfl) dX12_reads_38 ⟨Nat.zero_le _, Nat.zero_le _⟩ (fun H locs hP hD hS => ?_)
    have hP : va_P (dC, dI) vwCl [(a_p0, .inr (12, oX12 r_1_0 mmJ_38 mmR)), ((mmR 33), .inl (cI, 20, .inl r_1_1)), ((mmR 34), .inl (cI, 20, .inl r_1_2)), ((mmR 35), .inl (cZ, 20, .inl r_1_3)), ((mmR 37), .inl (cI, 20, .inl r_1_4)), ((mmR 40), .inl (cI, 500, .inl mm_opsF_38)), ((mmR 26), .inl (cI, 3200, .inl mm_codeSortF_38)), ((mmR 27), .inl (cI, 3200, .inl mm_codeValueF_38)), ((mmR 0), .inl (cI, 1800, .inl mm_tapeF)), ((mmR 36), .inl (cI, 20, .inl mm_pairF_38))] H := hP
    have hD : va_D A [(a_p0, .inr (12, oX12 r_1_0 mmJ_38 mmR)), ((mmR 33), .inl (cI, 20, .inl r_1_1)), ((mmR 34), .inl (cI, 20, .inl r_1_2)), ((mmR 35), .inl (cZ, 20, .inl r_1_3)), ((mmR 37), .inl (cI, 20, .inl r_1_4)), ((mmR 40), .inl (cI, 500, .inl mm_opsF_38)), ((mmR 26), .inl (cI, 3200, .inl mm_codeSortF_38)), ((mmR 27), .inl (cI, 3200, .inl mm_codeValueF_38)), ((mmR 0), .inl (cI, 1800, .inl mm_tapeF)), ((mmR 36), .inl (cI, 20, .inl mm_pairF_38))] := hD
    refine W.eq (g2 := F0 m 41 ls []) rfl ?_
    refine lv_iconst (v := 1) hx hb dX12_reads_41 (by decide) ?_
    refine lv_istore_n (lv' := [(2, .int 1), (0, .ref a_p0)]) hx hb dX12_reads_42 rfl hl (by decide) rfl (fun ls hl => ?_)
    exact l43 N r_1_0 mmJ_38 r_1_1 r_1_2 r_1_3 r_1_4 mm_opsF_38 mm_codeSortF_38 mm_codeValueF_38 mm_pairF_38 1 _ _ _ hf hP hD hS (lv_sub hl [1, 0] rfl)
  unfold fX12_reads at hf
  refine lv_aload_n hx hb dX12_reads_0 rfl (lv_at hl 0 rfl) ?_
  refine va_get (D := (dC, dI)) (ci := 12) (v := .int (mmI 8)) (C := RX12) (T := TX12) (N := 70) hx hb hts hinX12 hown hK hP 0 rfl rfl 8 (by decide) hw0 (fun _ h9 => h9) rfl dX12_reads_1 ?_
  refine lv_if_le (tgt := 8) hx hb dX12_reads_4 (by decide) (fun c_ => ?_) (fun c_ => ?_)
  · have hf := xq_pos hf c_
    refine lv_aload_n hx hb dX12_reads_8 rfl (lv_at hl 0 rfl) ?_
    refine lv_iconst (v := 0) hx hb dX12_reads_9 (by decide) ?_
    refine va_put (D := (dC, dI)) (ci := 12) (v := .int 0) (ty := .int) (C := RX12) (T := TX12) (N := 70) hx hb hts hinX12 tyX12 tyX12_ok nmX12 hown hK hP hD hS 0 rfl rfl 38 (by decide) hw2 (fun _ h9 => h9) rfl (by decide +kernel) rfl rfl (Nat.le_of_ble_eq_true rfl) dX12_reads_10 (fun H locs hP hD hS => ?_)
    have hP : va_P (dC, dI) vwCl [(a_p0, .inr (12, oX12 (va_up mmI 38 0) mmJ mmR)), ((mmR 33), .inl (cI, 20, .inl mm_frameF)), ((mmR 34), .inl (cI, 20, .inl mm_phaseF)), ((mmR 35), .inl (cZ, 20, .inl mm_beginsF)), ((mmR 37), .inl (cI, 20, .inl mm_baseF)), ((mmR 40), .inl (cI, 500, .inl mm_opsF)), ((mmR 26), .inl (cI, 3200, .inl mm_codeSortF)), ((mmR 27), .inl (cI, 3200, .inl mm_codeValueF)), ((mmR 0), .inl (cI, 1800, .inl mm_tapeF)), ((mmR 36), .inl (cI, 20, .inl mm_pairF))] H := hP
    have hD : va_D A [(a_p0, .inr (12, oX12 (va_up mmI 38 0) mmJ mmR)), ((mmR 33), .inl (cI, 20, .inl mm_frameF)), ((mmR 34), .inl (cI, 20, .inl mm_phaseF)), ((mmR 35), .inl (cZ, 20, .inl mm_beginsF)), ((mmR 37), .inl (cI, 20, .inl mm_baseF)), ((mmR 40), .inl (cI, 500, .inl mm_opsF)), ((mmR 26), .inl (cI, 3200, .inl mm_codeSortF)), ((mmR 27), .inl (cI, 3200, .inl mm_codeValueF)), ((mmR 0), .inl (cI, 1800, .inl mm_tapeF)), ((mmR 36), .inl (cI, 20, .inl mm_pairF))] := hD
    refine lv_aload_n hx hb dX12_reads_13 rfl (lv_at hl 0 rfl) ?_
    refine lv_iconst (v := 0) hx hb dX12_reads_14 (by decide) ?_
    refine va_put (D := (dC, dI)) (ci := 12) (v := .int 0) (ty := .int) (C := RX12) (T := TX12) (N := 70) hx hb hts hinX12 tyX12 tyX12_ok nmX12 hown hK hP hD hS 0 rfl rfl 39 (by decide) hw3 (fun _ h9 => h9) rfl (by decide +kernel) rfl rfl (Nat.le_of_ble_eq_true rfl) dX12_reads_15 (fun H locs hP hD hS => ?_)
    have hP : va_P (dC, dI) vwCl [(a_p0, .inr (12, oX12 (va_up (va_up mmI 38 0) 39 0) mmJ mmR)), ((mmR 33), .inl (cI, 20, .inl mm_frameF)), ((mmR 34), .inl (cI, 20, .inl mm_phaseF)), ((mmR 35), .inl (cZ, 20, .inl mm_beginsF)), ((mmR 37), .inl (cI, 20, .inl mm_baseF)), ((mmR 40), .inl (cI, 500, .inl mm_opsF)), ((mmR 26), .inl (cI, 3200, .inl mm_codeSortF)), ((mmR 27), .inl (cI, 3200, .inl mm_codeValueF)), ((mmR 0), .inl (cI, 1800, .inl mm_tapeF)), ((mmR 36), .inl (cI, 20, .inl mm_pairF))] H := hP
    have hD : va_D A [(a_p0, .inr (12, oX12 (va_up (va_up mmI 38 0) 39 0) mmJ mmR)), ((mmR 33), .inl (cI, 20, .inl mm_frameF)), ((mmR 34), .inl (cI, 20, .inl mm_phaseF)), ((mmR 35), .inl (cZ, 20, .inl mm_beginsF)), ((mmR 37), .inl (cI, 20, .inl mm_baseF)), ((mmR 40), .inl (cI, 500, .inl mm_opsF)), ((mmR 26), .inl (cI, 3200, .inl mm_codeSortF)), ((mmR 27), .inl (cI, 3200, .inl mm_codeValueF)), ((mmR 0), .inl (cI, 1800, .inl mm_tapeF)), ((mmR 36), .inl (cI, 20, .inl mm_pairF))] := hD
    refine lv_aload_n hx hb dX12_reads_18 rfl (lv_at hl 0 rfl) ?_
    refine lv_iconst (v := 0) hx hb dX12_reads_19 (by decide) ?_
    refine va_put (D := (dC, dI)) (ci := 12) (v := .int 0) (ty := .int) (C := RX12) (T := TX12) (N := 70) hx hb hts hinX12 tyX12 tyX12_ok nmX12 hown hK hP hD hS 0 rfl rfl 41 (by decide) hw4 (fun _ h9 => h9) rfl (by decide +kernel) rfl rfl (Nat.le_of_ble_eq_true rfl) dX12_reads_20 (fun H locs hP hD hS => ?_)
    have hP : va_P (dC, dI) vwCl [(a_p0, .inr (12, oX12 (va_up (va_up (va_up mmI 38 0) 39 0) 41 0) mmJ mmR)), ((mmR 33), .inl (cI, 20, .inl mm_frameF)), ((mmR 34), .inl (cI, 20, .inl mm_phaseF)), ((mmR 35), .inl (cZ, 20, .inl mm_beginsF)), ((mmR 37), .inl (cI, 20, .inl mm_baseF)), ((mmR 40), .inl (cI, 500, .inl mm_opsF)), ((mmR 26), .inl (cI, 3200, .inl mm_codeSortF)), ((mmR 27), .inl (cI, 3200, .inl mm_codeValueF)), ((mmR 0), .inl (cI, 1800, .inl mm_tapeF)), ((mmR 36), .inl (cI, 20, .inl mm_pairF))] H := hP
    have hD : va_D A [(a_p0, .inr (12, oX12 (va_up (va_up (va_up mmI 38 0) 39 0) 41 0) mmJ mmR)), ((mmR 33), .inl (cI, 20, .inl mm_frameF)), ((mmR 34), .inl (cI, 20, .inl mm_phaseF)), ((mmR 35), .inl (cZ, 20, .inl mm_beginsF)), ((mmR 37), .inl (cI, 20, .inl mm_baseF)), ((mmR 40), .inl (cI, 500, .inl mm_opsF)), ((mmR 26), .inl (cI, 3200, .inl mm_codeSortF)), ((mmR 27), .inl (cI, 3200, .inl mm_codeValueF)), ((mmR 0), .inl (cI, 1800, .inl mm_tapeF)), ((mmR 36), .inl (cI, 20, .inl mm_pairF))] := hD
    refine lv_aload_n hx hb dX12_reads_23 rfl (lv_at hl 0 rfl) ?_
    refine lv_iconst (v := 0) hx hb dX12_reads_24 (by decide) ?_
    refine va_put (D := (dC, dI)) (ci := 12) (v := .int 0) (ty := .boolean) (C := RX12) (T := TX12) (N := 70) hx hb hts hinX12 tyX12 tyX12_ok nmX12 hown hK hP hD hS 0 rfl rfl 42 (by decide) hw5 (fun _ h9 => h9) rfl (by decide +kernel) (by decide +kernel) (by decide +kernel) (Nat.le_of_ble_eq_true rfl) dX12_reads_25 (fun H locs hP hD hS => ?_)
    have hP : va_P (dC, dI) vwCl [(a_p0, .inr (12, oX12 (va_up (va_up (va_up (va_up mmI 38 0) 39 0) 41 0) 42 0) mmJ mmR)), ((mmR 33), .inl (cI, 20, .inl mm_frameF)), ((mmR 34), .inl (cI, 20, .inl mm_phaseF)), ((mmR 35), .inl (cZ, 20, .inl mm_beginsF)), ((mmR 37), .inl (cI, 20, .inl mm_baseF)), ((mmR 40), .inl (cI, 500, .inl mm_opsF)), ((mmR 26), .inl (cI, 3200, .inl mm_codeSortF)), ((mmR 27), .inl (cI, 3200, .inl mm_codeValueF)), ((mmR 0), .inl (cI, 1800, .inl mm_tapeF)), ((mmR 36), .inl (cI, 20, .inl mm_pairF))] H := hP
    have hD : va_D A [(a_p0, .inr (12, oX12 (va_up (va_up (va_up (va_up mmI 38 0) 39 0) 41 0) 42 0) mmJ mmR)), ((mmR 33), .inl (cI, 20, .inl mm_frameF)), ((mmR 34), .inl (cI, 20, .inl mm_phaseF)), ((mmR 35), .inl (cZ, 20, .inl mm_beginsF)), ((mmR 37), .inl (cI, 20, .inl mm_baseF)), ((mmR 40), .inl (cI, 500, .inl mm_opsF)), ((mmR 26), .inl (cI, 3200, .inl mm_codeSortF)), ((mmR 27), .inl (cI, 3200, .inl mm_codeValueF)), ((mmR 0), .inl (cI, 1800, .inl mm_tapeF)), ((mmR 36), .inl (cI, 20, .inl mm_pairF))] := hD
    refine lv_aload_n hx hb dX12_reads_28 rfl (lv_at hl 0 rfl) ?_
    refine lv_iload_n hx hb dX12_reads_29 rfl (lv_at hl 1 rfl) ?_
    refine lv_if_eq (tgt := 37) hx hb dX12_reads_30 (by decide) (fun c_ => ?_) (fun c_ => ?_)
    · have hf := xq_pos hf c_
      refine lv_iconst (v := 0) hx hb dX12_reads_37 (by decide) ?_
      exact b38 ((va_up (va_up (va_up (va_up mmI 38 0) 39 0) 41 0) 42 0)) mmJ mm_frameF mm_phaseF mm_beginsF mm_baseF mm_opsF mm_codeSortF mm_codeValueF mm_pairF 0 _ _ _ hf hP hD hS (lv_sub hl [0] rfl)
    · have hf := xq_neg hf c_
      refine lv_iconst (v := 1) hx hb dX12_reads_33 (by decide) ?_
      refine lv_goto (tgt := 38) hx hb dX12_reads_34 (by decide) ?_
      exact b38 ((va_up (va_up (va_up (va_up mmI 38 0) 39 0) 41 0) 42 0)) mmJ mm_frameF mm_phaseF mm_beginsF mm_baseF mm_opsF mm_codeSortF mm_codeValueF mm_pairF 1 _ _ _ hf hP hD hS (lv_sub hl [0] rfl)
  · have hf := xq_neg hf c_
    have e9 := Option.some.inj hf
    have e9_0 : mmI = r0 := congrArg (fun t => t.1) e9
    have e9_1 : mmJ = r1 := congrArg (fun t => t.2.1) e9
    have e9_2 : mm_frameF = r2 := congrArg (fun t => t.2.2.1) e9
    have e9_3 : mm_phaseF = r3 := congrArg (fun t => t.2.2.2.1) e9
    have e9_4 : mm_beginsF = r4 := congrArg (fun t => t.2.2.2.2.1) e9
    have e9_5 : mm_baseF = r5 := congrArg (fun t => t.2.2.2.2.2.1) e9
    have e9_6 : mm_opsF = r6 := congrArg (fun t => t.2.2.2.2.2.2.1) e9
    have e9_7 : mm_codeSortF = r7 := congrArg (fun t => t.2.2.2.2.2.2.2.1) e9
    have e9_8 : mm_codeValueF = r8 := congrArg (fun t => t.2.2.2.2.2.2.2.2.1) e9
    have e9_9 : mm_pairF = r9 := congrArg (fun t => t.2.2.2.2.2.2.2.2.2) e9
    clear e9 hf
    try clear b38
    try clear b70
    try clear b85
    try clear b86
    try clear l43
    try clear ih43
    subst e9_0
    subst e9_1
    subst e9_2
    subst e9_3
    subst e9_4
    subst e9_5
    subst e9_6
    subst e9_7
    subst e9_8
    subst e9_9
    exact xq_vret hx hb hr hlocks hK hP hD hS dX12_reads_7
set_option maxRecDepth 20000 in
theorem ggX12_isCounted_X12_blame : GoodIn wsX12_isCounted wsX12_blame := goodIn_r _ [7, 1, 8, 26, 27, 28, 29, 30, 31, 32, 33, 34, 35, 36, 37, 38, 39, 40, 41, 42, 43, 44, 45, 46, 47, 48, 49, 50, 51, 52, 53, 54, 55, 56, 57, 58, 59, 60, 61, 62, 63, 64, 65, 66, 67, 68, 69, 70, 71, 72, 73, 74, 75, 76, 77, 78, 79, 80, 81, 82, 83, 84, 85, 86, 87, 88, 89, 90, 91, 92, 93, 94, 95] rfl (by decide +kernel)
set_option maxRecDepth 20000 in
theorem gX12_isCounted_X12_blame : GoodIn wsX12_isCounted (wsV RX12 233 RX12 yX12_blame wsX12_blame) := goodIn_app (goodIn_of _ (by decide +kernel)) ggX12_isCounted_X12_blame
set_option maxRecDepth 20000 in
theorem ggX12_isCounted_X12_ahead : GoodIn wsX12_isCounted wsX12_ahead := goodIn_r _ [12, 13, 14, 15, 2, 16, 17, 18, 19, 20, 21, 6, 22, 23, 24, 25, 26, 27, 28, 29, 30, 31, 32, 33, 34, 35, 36, 37, 38, 39, 40, 41, 42, 43, 44, 45, 46, 47, 48, 49, 50, 51, 52, 53, 54, 55, 56, 57, 58, 59, 60, 61, 62, 63, 64, 65, 66, 67, 68, 69, 70, 71, 72, 73, 74, 75, 76, 77, 78, 79, 80, 81, 82, 83, 84, 85, 86, 87, 88, 89, 90, 91, 92, 93, 94, 95] rfl (by decide +kernel)
set_option maxRecDepth 20000 in
theorem gX12_isCounted_X12_ahead : GoodIn wsX12_isCounted (wsV RX12 250 RX12 yX12_ahead wsX12_ahead) := goodIn_app (goodIn_of _ (by decide +kernel)) ggX12_isCounted_X12_ahead
def dsX12_isCounted_0 : List (Nat × Instr × Nat) := [(0, (.aload_n 0, 1)), (1, (.getfield 36, 3)), (4, (.ifCond .ne 17, 3)), (7, (.iload_n 1, 1)), (8, (.ifCond .eq 13, 3)), (11, (.aload_n 0, 1)), (12, (.bipush 6, 2)), (14, (.aload_n 0, 1)), (15, (.getfield 23, 3)), (18, (.invokevirtual 233, 3)), (21, (.aload_n 0, 1)), (22, (.getfield 36, 3)), (25, (.ifCond .ne 7, 3)), (28, (.aload_n 0, 1)), (29, (.invokevirtual 250, 3)), (32, (.aload_n 0, 1)), (33, (.getfield 36, 3)), (36, (.ifCond .ne 7, 3)), (39, (.iconst 1, 1)), (40, (.goto 4, 3)), (43, (.iconst 0, 1)), (44, (.ireturn, 1))]
theorem dsX12_isCounted_0_ok : (dsX12_isCounted_0.all fun q => decide (decode cX12_isCounted q.1 = .ok q.2)) = true := by decide +kernel
theorem dX12_isCounted_0 : decode cX12_isCounted 0 = .ok (.aload_n 0, 1) := of_decide_eq_true (List.all_eq_true.mp dsX12_isCounted_0_ok (0, (.aload_n 0, 1)) (List.mem_of_getElem? (i := 0) rfl))
theorem dX12_isCounted_1 : decode cX12_isCounted 1 = .ok (.getfield 36, 3) := of_decide_eq_true (List.all_eq_true.mp dsX12_isCounted_0_ok (1, (.getfield 36, 3)) (List.mem_of_getElem? (i := 1) rfl))
theorem dX12_isCounted_4 : decode cX12_isCounted 4 = .ok (.ifCond .ne 17, 3) := of_decide_eq_true (List.all_eq_true.mp dsX12_isCounted_0_ok (4, (.ifCond .ne 17, 3)) (List.mem_of_getElem? (i := 2) rfl))
theorem dX12_isCounted_7 : decode cX12_isCounted 7 = .ok (.iload_n 1, 1) := of_decide_eq_true (List.all_eq_true.mp dsX12_isCounted_0_ok (7, (.iload_n 1, 1)) (List.mem_of_getElem? (i := 3) rfl))
theorem dX12_isCounted_8 : decode cX12_isCounted 8 = .ok (.ifCond .eq 13, 3) := of_decide_eq_true (List.all_eq_true.mp dsX12_isCounted_0_ok (8, (.ifCond .eq 13, 3)) (List.mem_of_getElem? (i := 4) rfl))
theorem dX12_isCounted_11 : decode cX12_isCounted 11 = .ok (.aload_n 0, 1) := of_decide_eq_true (List.all_eq_true.mp dsX12_isCounted_0_ok (11, (.aload_n 0, 1)) (List.mem_of_getElem? (i := 5) rfl))
theorem dX12_isCounted_12 : decode cX12_isCounted 12 = .ok (.bipush 6, 2) := of_decide_eq_true (List.all_eq_true.mp dsX12_isCounted_0_ok (12, (.bipush 6, 2)) (List.mem_of_getElem? (i := 6) rfl))
theorem dX12_isCounted_14 : decode cX12_isCounted 14 = .ok (.aload_n 0, 1) := of_decide_eq_true (List.all_eq_true.mp dsX12_isCounted_0_ok (14, (.aload_n 0, 1)) (List.mem_of_getElem? (i := 7) rfl))
theorem dX12_isCounted_15 : decode cX12_isCounted 15 = .ok (.getfield 23, 3) := of_decide_eq_true (List.all_eq_true.mp dsX12_isCounted_0_ok (15, (.getfield 23, 3)) (List.mem_of_getElem? (i := 8) rfl))
theorem dX12_isCounted_18 : decode cX12_isCounted 18 = .ok (.invokevirtual 233, 3) := of_decide_eq_true (List.all_eq_true.mp dsX12_isCounted_0_ok (18, (.invokevirtual 233, 3)) (List.mem_of_getElem? (i := 9) rfl))
theorem dX12_isCounted_21 : decode cX12_isCounted 21 = .ok (.aload_n 0, 1) := of_decide_eq_true (List.all_eq_true.mp dsX12_isCounted_0_ok (21, (.aload_n 0, 1)) (List.mem_of_getElem? (i := 10) rfl))
theorem dX12_isCounted_22 : decode cX12_isCounted 22 = .ok (.getfield 36, 3) := of_decide_eq_true (List.all_eq_true.mp dsX12_isCounted_0_ok (22, (.getfield 36, 3)) (List.mem_of_getElem? (i := 11) rfl))
theorem dX12_isCounted_25 : decode cX12_isCounted 25 = .ok (.ifCond .ne 7, 3) := of_decide_eq_true (List.all_eq_true.mp dsX12_isCounted_0_ok (25, (.ifCond .ne 7, 3)) (List.mem_of_getElem? (i := 12) rfl))
theorem dX12_isCounted_28 : decode cX12_isCounted 28 = .ok (.aload_n 0, 1) := of_decide_eq_true (List.all_eq_true.mp dsX12_isCounted_0_ok (28, (.aload_n 0, 1)) (List.mem_of_getElem? (i := 13) rfl))
theorem dX12_isCounted_29 : decode cX12_isCounted 29 = .ok (.invokevirtual 250, 3) := of_decide_eq_true (List.all_eq_true.mp dsX12_isCounted_0_ok (29, (.invokevirtual 250, 3)) (List.mem_of_getElem? (i := 14) rfl))
theorem dX12_isCounted_32 : decode cX12_isCounted 32 = .ok (.aload_n 0, 1) := of_decide_eq_true (List.all_eq_true.mp dsX12_isCounted_0_ok (32, (.aload_n 0, 1)) (List.mem_of_getElem? (i := 15) rfl))
theorem dX12_isCounted_33 : decode cX12_isCounted 33 = .ok (.getfield 36, 3) := of_decide_eq_true (List.all_eq_true.mp dsX12_isCounted_0_ok (33, (.getfield 36, 3)) (List.mem_of_getElem? (i := 16) rfl))
theorem dX12_isCounted_36 : decode cX12_isCounted 36 = .ok (.ifCond .ne 7, 3) := of_decide_eq_true (List.all_eq_true.mp dsX12_isCounted_0_ok (36, (.ifCond .ne 7, 3)) (List.mem_of_getElem? (i := 17) rfl))
theorem dX12_isCounted_39 : decode cX12_isCounted 39 = .ok (.iconst 1, 1) := of_decide_eq_true (List.all_eq_true.mp dsX12_isCounted_0_ok (39, (.iconst 1, 1)) (List.mem_of_getElem? (i := 18) rfl))
theorem dX12_isCounted_40 : decode cX12_isCounted 40 = .ok (.goto 4, 3) := of_decide_eq_true (List.all_eq_true.mp dsX12_isCounted_0_ok (40, (.goto 4, 3)) (List.mem_of_getElem? (i := 19) rfl))
theorem dX12_isCounted_43 : decode cX12_isCounted 43 = .ok (.iconst 0, 1) := of_decide_eq_true (List.all_eq_true.mp dsX12_isCounted_0_ok (43, (.iconst 0, 1)) (List.mem_of_getElem? (i := 20) rfl))
theorem dX12_isCounted_44 : decode cX12_isCounted 44 = .ok (.ireturn, 1) := of_decide_eq_true (List.all_eq_true.mp dsX12_isCounted_0_ok (44, (.ireturn, 1)) (List.mem_of_getElem? (i := 21) rfl))
def fX12_isCounted_b32 (N : Nat) (mm_tapeF : Nat → Int32)   : ((Nat → Int32) × (Nat → Int64)) → Option (Int32 × (Nat → Int32) × (Nat → Int64)) :=
  fun (mmI_32, mmJ_32) => (if (mmI_32 8) = 0 then some ((1, mmI_32, mmJ_32)) else some ((0, mmI_32, mmJ_32)))
def fX12_isCounted_b21 (N : Nat) (mm_tapeF : Nat → Int32)   : ((Nat → Int32) × (Nat → Int64)) → Option (Int32 × (Nat → Int32) × (Nat → Int64)) :=
  fun (mmI_21, mmJ_21) => (if (mmI_21 8) = 0 then (xq_bd (fX12_ahead N mmI_21 mmJ_21 mm_tapeF) fun (r_1_0, r_1_1) => fX12_isCounted_b32 N mm_tapeF (r_1_0, r_1_1)) else fX12_isCounted_b32 N mm_tapeF (mmI_21, mmJ_21))
def fX12_isCounted (N : Nat) (mmI : Nat → Int32) (mmJ : Nat → Int64) (mm_tapeF : Nat → Int32)  (p1 : Int32) : Option (Int32 × (Nat → Int32) × (Nat → Int64)) :=
  (if (mmI 8) = 0 then (if p1 = 0 then fX12_isCounted_b21 N mm_tapeF (mmI, mmJ) else (xq_bd (fX12_blame N mmI 6 (mmI 4)) fun r_1 => fX12_isCounted_b21 N mm_tapeF (r_1, mmJ))) else fX12_isCounted_b21 N mm_tapeF (mmI, mmJ))
set_option maxHeartbeats 4000000 in
set_option maxRecDepth 100000 in
theorem kX12_isCounted (l : Launch) (dC : Nat → ClassId) (dI : Nat → Nat → Nat) (cI cB cJ cZ cM : ClassId) (z : Nat) (ad : Nat → Nat) (N : Nat) (a_p0 : Nat) (mmI : Nat → Int32) (mmJ : Nat → Int64) (mmR : Nat → Nat) (mm_tapeF : Nat → Int32) (p1 : Int32) {r0 : Int32} {r1 : Nat → Int32} {r2 : Nat → Int64} (hf : fX12_isCounted N mmI mmJ mm_tapeF p1 = some (r0, r1, r2)) : xq_Ct l yX12_isCounted wsX12_isCounted { frames := 2, cells := 0, slots := 0, locals := 45 } (dC, dI) vwCl (xq_tys cI cB cJ cZ cM) z ad [.ref a_p0, .int p1] [(a_p0, .inr (12, oX12 mmI mmJ mmR)), ((mmR 0), .inl (cI, 1800, .inl mm_tapeF))] [(a_p0, .inr (12, oX12 r1 r2 mmR)), ((mmR 0), .inl (cI, 1800, .inl mm_tapeF))] (some (.int r0)) := by
  intro sz
  refine Met.ofW (cc := cX12_isCounted) (maxL := 2) (ret := (some .boolean)) (by decide) rfl ?_
  intro p e s m args below meth c s₁ B hml hv
  obtain ⟨rfl, hsz, hP, hK, hD0, hE, hz⟩ := hv
  have hx := B.exec
  have hb := B.bytes
  have hr := B.returns
  have hts := atoms_spec (ws := wsX12_isCounted) B.pre
  have hown : s.vm.findClass RX12 = some m.cls := findClass_of_methodNamed B.named
  have hlocks := B.notSynchronized
  subst hsz
  have hD := hD0.self (sz := s.heap.size)
  have hN := xq_Env.of hE hz hD0
  generalize hAe : va_A [(a_p0, .inr (12, oX12 mmI mmJ mmR)), ((mmR 0), .inl (cI, 1800, .inl mm_tapeF))] s.heap.size = A at hD hN ⊢
  have hA : ∀ q : Nat, s.heap.size ≤ q → A q := fun q h => by rw [← hAe]; exact Or.inr h
  clear hAe hD0
  have hS : va_S A s.heap s.heap [] := va_S.rf
  have hl := lv_entry ([.ref a_p0, .int p1]) (n := 2) (Nat.le_of_ble_eq_true rfl)
  rw [lg_entry_eq]
  generalize (lg_sl ([.ref a_p0, .int p1]) ++ List.replicate (2 - (lg_sl ([.ref a_p0, .int p1])).length) Slot.unset).toArray = ls at hl ⊢
  have hl : lv_has ls 2 [(0, .ref a_p0), (1, .int p1)] := hl
  have hw0 := hts (.fieldLink RX12 36 "DistantVoiceModel" "faultKind" "I") (by decide +kernel)
  have hinX12 : ∀ w ∈ wsX120, w ∈ wsX12_isCounted := fun w h => List.mem_cons_of_mem _ (List.mem_append_right _ h)
  have hw2 := hts (.fieldLink RX12 23 "DistantVoiceModel" "signAt" "I") (by decide +kernel)
  have b32 : ∀ (mmI_32 : Nat → Int32) (mmJ_32 : Nat → Int64) (ls : Array Slot) (H : Heap) (locs : List Loc), fX12_isCounted_b32 N mm_tapeF (mmI_32, mmJ_32) = some (r0, r1, r2) → va_P (dC, dI) vwCl [(a_p0, .inr (12, oX12 mmI_32 mmJ_32 mmR)), ((mmR 0), .inl (cI, 1800, .inl mm_tapeF))] H → va_D A [(a_p0, .inr (12, oX12 mmI_32 mmJ_32 mmR)), ((mmR 0), .inl (cI, 1800, .inl mm_tapeF))] → va_S A s.heap H locs → lv_has ls 2 [(0, .ref a_p0)] → W p l e (headSpec wsX12_isCounted { frames := 2, cells := 0, slots := 0, locals := 45 }).room s m [.ref a_p0, .int p1].toArray below meth c H locs 0 0 (MQ below (xq_Q (dC, dI) vwCl (xq_tys cI cB cJ cZ cM) A [(a_p0, .inr (12, oX12 r1 r2 mmR)), ((mmR 0), .inl (cI, 1800, .inl mm_tapeF))] (some (.int r0))) [.ref a_p0, .int p1].toArray s 0 0 A) (F0 m 32 ls []) := by
    intro mmI_32 mmJ_32 ls H locs hf hP hD hS hl
    unfold fX12_isCounted_b32 at hf
    refine lv_aload_n hx hb dX12_isCounted_32 rfl (lv_at hl 0 rfl) ?_
    refine va_get (D := (dC, dI)) (ci := 12) (v := .int (mmI_32 8)) (C := RX12) (T := TX12) (N := 70) hx hb hts hinX12 hown hK hP 0 rfl rfl 8 (by decide) hw0 (fun _ h9 => h9) rfl dX12_isCounted_33 ?_
    refine lv_if_ne (tgt := 43) hx hb dX12_isCounted_36 (by decide) (fun c_ => ?_) (fun c_ => ?_)
    · have hf := xq_neg hf c_
      refine lv_iconst (v := 0) hx hb dX12_isCounted_43 (by decide) ?_
      have e9 := Option.some.inj hf
      have e9_0 : 0 = r0 := congrArg (fun t => t.1) e9
      have e9_1 : mmI_32 = r1 := congrArg (fun t => t.2.1) e9
      have e9_2 : mmJ_32 = r2 := congrArg (fun t => t.2.2) e9
      clear e9 hf
      try clear b21
      try clear b32
      subst e9_0
      subst e9_1
      subst e9_2
      exact xq_zret hx hb hr (by decide +kernel) hlocks hK hP hD hS dX12_isCounted_44
    · have hf := xq_pos hf c_
      refine lv_iconst (v := 1) hx hb dX12_isCounted_39 (by decide) ?_
      refine lv_goto (tgt := 44) hx hb dX12_isCounted_40 (by decide) ?_
      have e9 := Option.some.inj hf
      have e9_0 : 1 = r0 := congrArg (fun t => t.1) e9
      have e9_1 : mmI_32 = r1 := congrArg (fun t => t.2.1) e9
      have e9_2 : mmJ_32 = r2 := congrArg (fun t => t.2.2) e9
      clear e9 hf
      try clear b21
      try clear b32
      subst e9_0
      subst e9_1
      subst e9_2
      exact xq_zret hx hb hr (by decide +kernel) hlocks hK hP hD hS dX12_isCounted_44
  have b21 : ∀ (mmI_21 : Nat → Int32) (mmJ_21 : Nat → Int64) (ls : Array Slot) (H : Heap) (locs : List Loc), fX12_isCounted_b21 N mm_tapeF (mmI_21, mmJ_21) = some (r0, r1, r2) → va_P (dC, dI) vwCl [(a_p0, .inr (12, oX12 mmI_21 mmJ_21 mmR)), ((mmR 0), .inl (cI, 1800, .inl mm_tapeF))] H → va_D A [(a_p0, .inr (12, oX12 mmI_21 mmJ_21 mmR)), ((mmR 0), .inl (cI, 1800, .inl mm_tapeF))] → va_S A s.heap H locs → lv_has ls 2 [(0, .ref a_p0)] → W p l e (headSpec wsX12_isCounted { frames := 2, cells := 0, slots := 0, locals := 45 }).room s m [.ref a_p0, .int p1].toArray below meth c H locs 0 0 (MQ below (xq_Q (dC, dI) vwCl (xq_tys cI cB cJ cZ cM) A [(a_p0, .inr (12, oX12 r1 r2 mmR)), ((mmR 0), .inl (cI, 1800, .inl mm_tapeF))] (some (.int r0))) [.ref a_p0, .int p1].toArray s 0 0 A) (F0 m 21 ls []) := by
    intro mmI_21 mmJ_21 ls H locs hf hP hD hS hl
    unfold fX12_isCounted_b21 at hf
    refine lv_aload_n hx hb dX12_isCounted_21 rfl (lv_at hl 0 rfl) ?_
    refine va_get (D := (dC, dI)) (ci := 12) (v := .int (mmI_21 8)) (C := RX12) (T := TX12) (N := 70) hx hb hts hinX12 hown hK hP 0 rfl rfl 8 (by decide) hw0 (fun _ h9 => h9) rfl dX12_isCounted_22 ?_
    refine lv_if_ne (tgt := 32) hx hb dX12_isCounted_25 (by decide) (fun c_ => ?_) (fun c_ => ?_)
    · have hf := xq_neg hf c_
      exact b32 mmI_21 mmJ_21 _ _ _ hf hP hD hS (lv_sub hl [0] rfl)
    · have hf := xq_pos hf c_
      refine lv_aload_n hx hb dX12_isCounted_28 rfl (lv_at hl 0 rfl) ?_
      obtain ⟨⟨r_1_0, r_1_1⟩, h_2, hf⟩ := xq_bd_some hf
      refine xq_callV (As := []) (rest := []) (ci := 12) (q0 := 0) ⟨hx, hb, hml, hown, hts⟩ (kX12_ahead l dC dI cI cB cJ cZ cM z ad N a_p0 mmI_21 mmJ_21 mmR mm_tapeF h_2) (cwV 0 hts gX12_isCounted_X12_ahead rfl rfl rfl (by decide +kernel) ⟨Nat.le_of_ble_eq_true rfl, Nat.le_of_ble_eq_true rfl⟩) hN hK hP hD hS hA [0, 1] (by decide) rfl rfl rfl rfl rfl rfl hl.1 rfl (Nat.le_of_ble_eq_true rfl) dX12_isCounted_29 ⟨Nat.zero_le _, Nat.zero_le _⟩ (fun H locs hP hD hS => ?_)
      have hP : va_P (dC, dI) vwCl [(a_p0, .inr (12, oX12 r_1_0 r_1_1 mmR)), ((mmR 0), .inl (cI, 1800, .inl mm_tapeF))] H := hP
      have hD : va_D A [(a_p0, .inr (12, oX12 r_1_0 r_1_1 mmR)), ((mmR 0), .inl (cI, 1800, .inl mm_tapeF))] := hD
      refine W.eq (g2 := F0 m 32 ls []) rfl ?_
      exact b32 r_1_0 r_1_1 _ _ _ hf hP hD hS (lv_sub hl [0] rfl)
  unfold fX12_isCounted at hf
  refine lv_aload_n hx hb dX12_isCounted_0 rfl (lv_at hl 0 rfl) ?_
  refine va_get (D := (dC, dI)) (ci := 12) (v := .int (mmI 8)) (C := RX12) (T := TX12) (N := 70) hx hb hts hinX12 hown hK hP 0 rfl rfl 8 (by decide) hw0 (fun _ h9 => h9) rfl dX12_isCounted_1 ?_
  refine lv_if_ne (tgt := 21) hx hb dX12_isCounted_4 (by decide) (fun c_ => ?_) (fun c_ => ?_)
  · have hf := xq_neg hf c_
    exact b21 mmI mmJ _ _ _ hf hP hD hS (lv_sub hl [0] rfl)
  · have hf := xq_pos hf c_
    refine lv_iload_n hx hb dX12_isCounted_7 rfl (lv_at hl 1 rfl) ?_
    refine lv_if_eq (tgt := 21) hx hb dX12_isCounted_8 (by decide) (fun c_ => ?_) (fun c_ => ?_)
    · have hf := xq_pos hf c_
      exact b21 mmI mmJ _ _ _ hf hP hD hS (lv_sub hl [0] rfl)
    · have hf := xq_neg hf c_
      refine lv_aload_n hx hb dX12_isCounted_11 rfl (lv_at hl 0 rfl) ?_
      refine lv_bipush (v := 6) hx hb dX12_isCounted_12 (by decide) ?_
      refine lv_aload_n hx hb dX12_isCounted_14 rfl (lv_at hl 0 rfl) ?_
      refine va_get (D := (dC, dI)) (ci := 12) (v := .int (mmI 4)) (C := RX12) (T := TX12) (N := 70) hx hb hts hinX12 hown hK hP 0 rfl rfl 4 (by decide) hw2 (fun _ h9 => h9) rfl dX12_isCounted_15 ?_
      obtain ⟨r_1, h_2, hf⟩ := xq_bd_some hf
      refine xq_callV (As := [.int 6, .int (mmI 4)]) (rest := []) (ci := 12) (q0 := 0) ⟨hx, hb, hml, hown, hts⟩ (kX12_blame l dC dI cI cB cJ cZ cM z ad N a_p0 mmI mmJ mmR 6 (mmI 4) h_2) (cwV 2 hts gX12_isCounted_X12_blame rfl rfl rfl (by decide +kernel) ⟨Nat.le_of_ble_eq_true rfl, Nat.le_of_ble_eq_true rfl⟩) hN hK hP hD hS hA [0] (by decide) rfl rfl rfl rfl rfl rfl hl.1 rfl (Nat.le_of_ble_eq_true rfl) dX12_isCounted_18 ⟨Nat.zero_le _, Nat.zero_le _⟩ (fun H locs hP hD hS => ?_)
      have hP : va_P (dC, dI) vwCl [(a_p0, .inr (12, oX12 r_1 mmJ mmR)), ((mmR 0), .inl (cI, 1800, .inl mm_tapeF))] H := hP
      have hD : va_D A [(a_p0, .inr (12, oX12 r_1 mmJ mmR)), ((mmR 0), .inl (cI, 1800, .inl mm_tapeF))] := hD
      refine W.eq (g2 := F0 m 21 ls []) rfl ?_
      exact b21 r_1 mmJ _ _ _ hf hP hD hS (lv_sub hl [0] rfl)
