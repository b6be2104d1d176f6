set_option maxRecDepth 20000 in
theorem ggX12_letter_X12_isEar : GoodIn wsX12_letter wsX12_isEar := goodIn_r _ [9, 10, 2, 19, 20, 21, 22, 23, 24, 25, 26, 27, 28, 29, 30, 31, 32, 33, 34, 35, 36, 37, 38, 39, 40, 41, 42, 43, 44, 45, 46, 47, 48, 49, 50, 51, 52, 53, 54, 55, 56, 57, 58, 59, 60, 61, 62, 63, 64, 65, 66, 67, 68, 69, 70, 71, 72, 73, 74, 75, 76, 77, 78, 79, 80, 81, 82, 83, 84, 85, 86, 87, 88] rfl (by decide +kernel)
set_option maxRecDepth 20000 in
theorem gX12_letter_X12_isEar : GoodIn wsX12_letter (wsV RX12 454 RX12 yX12_isEar wsX12_isEar) := goodIn_app (goodIn_of _ (by decide +kernel)) ggX12_letter_X12_isEar
set_option maxRecDepth 20000 in
theorem ggX12_letter_X12_isPlace : GoodIn wsX12_letter wsX12_isPlace := goodIn_r _ [14, 15, 2, 19, 20, 21, 22, 23, 24, 25, 26, 27, 28, 29, 30, 31, 32, 33, 34, 35, 36, 37, 38, 39, 40, 41, 42, 43, 44, 45, 46, 47, 48, 49, 50, 51, 52, 53, 54, 55, 56, 57, 58, 59, 60, 61, 62, 63, 64, 65, 66, 67, 68, 69, 70, 71, 72, 73, 74, 75, 76, 77, 78, 79, 80, 81, 82, 83, 84, 85, 86, 87, 88] rfl (by decide +kernel)
set_option maxRecDepth 20000 in
theorem gX12_letter_X12_isPlace : GoodIn wsX12_letter (wsV RX12 457 RX12 yX12_isPlace wsX12_isPlace) := goodIn_app (goodIn_of _ (by decide +kernel)) ggX12_letter_X12_isPlace
set_option maxRecDepth 20000 in
theorem ggX12_letter_X12_is : GoodIn wsX12_letter wsX12_is := goodIn_r _ [18] rfl (by decide +kernel)
set_option maxRecDepth 20000 in
theorem gX12_letter_X12_is : GoodIn wsX12_letter (va_wsS RX12 301 yX12_is wsX12_is) := goodIn_app (goodIn_of _ (by decide +kernel)) ggX12_letter_X12_is
def dsX12_letter_0 : List (Nat × Instr × Nat) := [(0, (.iload_n 1, 1)), (1, (.ifCond .ne 11, 3)), (4, (.aload_n 0, 1)), (5, (.iload_n 2, 1)), (6, (.invokevirtual 454, 3)), (9, (.goto 21, 3)), (12, (.iload_n 1, 1)), (13, (.iconst 1, 1)), (14, (.if_icmp .ne 15, 3)), (17, (.aload_n 0, 1)), (18, (.iload_n 2, 1)), (19, (.invokevirtual 457, 3)), (22, (.ifCond .eq 7, 3)), (25, (.iconst 1, 1)), (26, (.goto 4, 3)), (29, (.iconst 0, 1)), (30, (.istore 4, 2)), (32, (.iload 4, 2)), (34, (.ifCond .eq 12, 3)), (37, (.iload_n 3, 1)), (38, (.iconst 0, 1)), (39, (.iconst 5, 1)), (40, (.invokestatic 301, 3)), (43, (.ifCond .ne 5, 3)), (46, (.iconst (-1), 1)), (47, (.ireturn, 1)), (48, (.iload_n 1, 1)), (49, (.ifCond .ne 20, 3)), (52, (.aload_n 0, 1)), (53, (.getfield 96, 3)), (56, (.bipush 7, 2)), (58, (.aload_n 0, 1)), (59, (.getfield 51, 3)), (62, (.imul, 1)), (63, (.iload_n 2, 1)), (64, (.iadd, 1)), (65, (.laload, 1)), (66, (.goto 17, 3)), (69, (.aload_n 0, 1)), (70, (.getfield 100, 3)), (73, (.bipush 6, 2)), (75, (.aload_n 0, 1)), (76, (.getfield 51, 3)), (79, (.imul, 1)), (80, (.iload_n 2, 1)), (81, (.iadd, 1)), (82, (.laload, 1)), (83, (.lstore 5, 2)), (85, (.iconst 0, 1)), (86, (.istore 7, 2)), (88, (.lload 5, 2)), (90, (.lstore 8, 2)), (92, (.lload 8, 2)), (94, (.lconst 0, 1)), (95, (.lcmp, 1)), (96, (.ifCond .le 16, 3)), (99, (.iinc 7 1, 3)), (102, (.lload 8, 2)), (104, (.bipush 8, 2)), (106, (.lshr, 1))]
theorem dsX12_letter_0_ok : (dsX12_letter_0.all fun q => decide (decode cX12_letter q.1 = .ok q.2)) = true := by decide +kernel
theorem dX12_letter_0 : decode cX12_letter 0 = .ok (.iload_n 1, 1) := of_decide_eq_true (List.all_eq_true.mp dsX12_letter_0_ok (0, (.iload_n 1, 1)) (List.mem_of_getElem? (i := 0) rfl))
theorem dX12_letter_1 : decode cX12_letter 1 = .ok (.ifCond .ne 11, 3) := of_decide_eq_true (List.all_eq_true.mp dsX12_letter_0_ok (1, (.ifCond .ne 11, 3)) (List.mem_of_getElem? (i := 1) rfl))
theorem dX12_letter_4 : decode cX12_letter 4 = .ok (.aload_n 0, 1) := of_decide_eq_true (List.all_eq_true.mp dsX12_letter_0_ok (4, (.aload_n 0, 1)) (List.mem_of_getElem? (i := 2) rfl))
theorem dX12_letter_5 : decode cX12_letter 5 = .ok (.iload_n 2, 1) := of_decide_eq_true (List.all_eq_true.mp dsX12_letter_0_ok (5, (.iload_n 2, 1)) (List.mem_of_getElem? (i := 3) rfl))
theorem dX12_letter_6 : decode cX12_letter 6 = .ok (.invokevirtual 454, 3) := of_decide_eq_true (List.all_eq_true.mp dsX12_letter_0_ok (6, (.invokevirtual 454, 3)) (List.mem_of_getElem? (i := 4) rfl))
theorem dX12_letter_9 : decode cX12_letter 9 = .ok (.goto 21, 3) := of_decide_eq_true (List.all_eq_true.mp dsX12_letter_0_ok (9, (.goto 21, 3)) (List.mem_of_getElem? (i := 5) rfl))
theorem dX12_letter_12 : decode cX12_letter 12 = .ok (.iload_n 1, 1) := of_decide_eq_true (List.all_eq_true.mp dsX12_letter_0_ok (12, (.iload_n 1, 1)) (List.mem_of_getElem? (i := 6) rfl))
theorem dX12_letter_13 : decode cX12_letter 13 = .ok (.iconst 1, 1) := of_decide_eq_true (List.all_eq_true.mp dsX12_letter_0_ok (13, (.iconst 1, 1)) (List.mem_of_getElem? (i := 7) rfl))
theorem dX12_letter_14 : decode cX12_letter 14 = .ok (.if_icmp .ne 15, 3) := of_decide_eq_true (List.all_eq_true.mp dsX12_letter_0_ok (14, (.if_icmp .ne 15, 3)) (List.mem_of_getElem? (i := 8) rfl))
theorem dX12_letter_17 : decode cX12_letter 17 = .ok (.aload_n 0, 1) := of_decide_eq_true (List.all_eq_true.mp dsX12_letter_0_ok (17, (.aload_n 0, 1)) (List.mem_of_getElem? (i := 9) rfl))
theorem dX12_letter_18 : decode cX12_letter 18 = .ok (.iload_n 2, 1) := of_decide_eq_true (List.all_eq_true.mp dsX12_letter_0_ok (18, (.iload_n 2, 1)) (List.mem_of_getElem? (i := 10) rfl))
theorem dX12_letter_19 : decode cX12_letter 19 = .ok (.invokevirtual 457, 3) := of_decide_eq_true (List.all_eq_true.mp dsX12_letter_0_ok (19, (.invokevirtual 457, 3)) (List.mem_of_getElem? (i := 11) rfl))
theorem dX12_letter_22 : decode cX12_letter 22 = .ok (.ifCond .eq 7, 3) := of_decide_eq_true (List.all_eq_true.mp dsX12_letter_0_ok (22, (.ifCond .eq 7, 3)) (List.mem_of_getElem? (i := 12) rfl))
theorem dX12_letter_25 : decode cX12_letter 25 = .ok (.iconst 1, 1) := of_decide_eq_true (List.all_eq_true.mp dsX12_letter_0_ok (25, (.iconst 1, 1)) (List.mem_of_getElem? (i := 13) rfl))
theorem dX12_letter_26 : decode cX12_letter 26 = .ok (.goto 4, 3) := of_decide_eq_true (List.all_eq_true.mp dsX12_letter_0_ok (26, (.goto 4, 3)) (List.mem_of_getElem? (i := 14) rfl))
theorem dX12_letter_29 : decode cX12_letter 29 = .ok (.iconst 0, 1) := of_decide_eq_true (List.all_eq_true.mp dsX12_letter_0_ok (29, (.iconst 0, 1)) (List.mem_of_getElem? (i := 15) rfl))
theorem dX12_letter_30 : decode cX12_letter 30 = .ok (.istore 4, 2) := of_decide_eq_true (List.all_eq_true.mp dsX12_letter_0_ok (30, (.istore 4, 2)) (List.mem_of_getElem? (i := 16) rfl))
theorem dX12_letter_32 : decode cX12_letter 32 = .ok (.iload 4, 2) := of_decide_eq_true (List.all_eq_true.mp dsX12_letter_0_ok (32, (.iload 4, 2)) (List.mem_of_getElem? (i := 17) rfl))
theorem dX12_letter_34 : decode cX12_letter 34 = .ok (.ifCond .eq 12, 3) := of_decide_eq_true (List.all_eq_true.mp dsX12_letter_0_ok (34, (.ifCond .eq 12, 3)) (List.mem_of_getElem? (i := 18) rfl))
theorem dX12_letter_37 : decode cX12_letter 37 = .ok (.iload_n 3, 1) := of_decide_eq_true (List.all_eq_true.mp dsX12_letter_0_ok (37, (.iload_n 3, 1)) (List.mem_of_getElem? (i := 19) rfl))
theorem dX12_letter_38 : decode cX12_letter 38 = .ok (.iconst 0, 1) := of_decide_eq_true (List.all_eq_true.mp dsX12_letter_0_ok (38, (.iconst 0, 1)) (List.mem_of_getElem? (i := 20) rfl))
theorem dX12_letter_39 : decode cX12_letter 39 = .ok (.iconst 5, 1) := of_decide_eq_true (List.all_eq_true.mp dsX12_letter_0_ok (39, (.iconst 5, 1)) (List.mem_of_getElem? (i := 21) rfl))
theorem dX12_letter_40 : decode cX12_letter 40 = .ok (.invokestatic 301, 3) := of_decide_eq_true (List.all_eq_true.mp dsX12_letter_0_ok (40, (.invokestatic 301, 3)) (List.mem_of_getElem? (i := 22) rfl))
theorem dX12_letter_43 : decode cX12_letter 43 = .ok (.ifCond .ne 5, 3) := of_decide_eq_true (List.all_eq_true.mp dsX12_letter_0_ok (43, (.ifCond .ne 5, 3)) (List.mem_of_getElem? (i := 23) rfl))
theorem dX12_letter_46 : decode cX12_letter 46 = .ok (.iconst (-1), 1) := of_decide_eq_true (List.all_eq_true.mp dsX12_letter_0_ok (46, (.iconst (-1), 1)) (List.mem_of_getElem? (i := 24) rfl))
theorem dX12_letter_47 : decode cX12_letter 47 = .ok (.ireturn, 1) := of_decide_eq_true (List.all_eq_true.mp dsX12_letter_0_ok (47, (.ireturn, 1)) (List.mem_of_getElem? (i := 25) rfl))
theorem dX12_letter_48 : decode cX12_letter 48 = .ok (.iload_n 1, 1) := of_decide_eq_true (List.all_eq_true.mp dsX12_letter_0_ok (48, (.iload_n 1, 1)) (List.mem_of_getElem? (i := 26) rfl))
theorem dX12_letter_49 : decode cX12_letter 49 = .ok (.ifCond .ne 20, 3) := of_decide_eq_true (List.all_eq_true.mp dsX12_letter_0_ok (49, (.ifCond .ne 20, 3)) (List.mem_of_getElem? (i := 27) rfl))
theorem dX12_letter_52 : decode cX12_letter 52 = .ok (.aload_n 0, 1) := of_decide_eq_true (List.all_eq_true.mp dsX12_letter_0_ok (52, (.aload_n 0, 1)) (List.mem_of_getElem? (i := 28) rfl))
theorem dX12_letter_53 : decode cX12_letter 53 = .ok (.getfield 96, 3) := of_decide_eq_true (List.all_eq_true.mp dsX12_letter_0_ok (53, (.getfield 96, 3)) (List.mem_of_getElem? (i := 29) rfl))
theorem dX12_letter_56 : decode cX12_letter 56 = .ok (.bipush 7, 2) := of_decide_eq_true (List.all_eq_true.mp dsX12_letter_0_ok (56, (.bipush 7, 2)) (List.mem_of_getElem? (i := 30) rfl))
theorem dX12_letter_58 : decode cX12_letter 58 = .ok (.aload_n 0, 1) := of_decide_eq_true (List.all_eq_true.mp dsX12_letter_0_ok (58, (.aload_n 0, 1)) (List.mem_of_getElem? (i := 31) rfl))
theorem dX12_letter_59 : decode cX12_letter 59 = .ok (.getfield 51, 3) := of_decide_eq_true (List.all_eq_true.mp dsX12_letter_0_ok (59, (.getfield 51, 3)) (List.mem_of_getElem? (i := 32) rfl))
theorem dX12_letter_62 : decode cX12_letter 62 = .ok (.imul, 1) := of_decide_eq_true (List.all_eq_true.mp dsX12_letter_0_ok (62, (.imul, 1)) (List.mem_of_getElem? (i := 33) rfl))
theorem dX12_letter_63 : decode cX12_letter 63 = .ok (.iload_n 2, 1) := of_decide_eq_true (List.all_eq_true.mp dsX12_letter_0_ok (63, (.iload_n 2, 1)) (List.mem_of_getElem? (i := 34) rfl))
theorem dX12_letter_64 : decode cX12_letter 64 = .ok (.iadd, 1) := of_decide_eq_true (List.all_eq_true.mp dsX12_letter_0_ok (64, (.iadd, 1)) (List.mem_of_getElem? (i := 35) rfl))
theorem dX12_letter_65 : decode cX12_letter 65 = .ok (.laload, 1) := of_decide_eq_true (List.all_eq_true.mp dsX12_letter_0_ok (65, (.laload, 1)) (List.mem_of_getElem? (i := 36) rfl))
theorem dX12_letter_66 : decode cX12_letter 66 = .ok (.goto 17, 3) := of_decide_eq_true (List.all_eq_true.mp dsX12_letter_0_ok (66, (.goto 17, 3)) (List.mem_of_getElem? (i := 37) rfl))
theorem dX12_letter_69 : decode cX12_letter 69 = .ok (.aload_n 0, 1) := of_decide_eq_true (List.all_eq_true.mp dsX12_letter_0_ok (69, (.aload_n 0, 1)) (List.mem_of_getElem? (i := 38) rfl))
theorem dX12_letter_70 : decode cX12_letter 70 = .ok (.getfield 100, 3) := of_decide_eq_true (List.all_eq_true.mp dsX12_letter_0_ok (70, (.getfield 100, 3)) (List.mem_of_getElem? (i := 39) rfl))
theorem dX12_letter_73 : decode cX12_letter 73 = .ok (.bipush 6, 2) := of_decide_eq_true (List.all_eq_true.mp dsX12_letter_0_ok (73, (.bipush 6, 2)) (List.mem_of_getElem? (i := 40) rfl))
theorem dX12_letter_75 : decode cX12_letter 75 = .ok (.aload_n 0, 1) := of_decide_eq_true (List.all_eq_true.mp dsX12_letter_0_ok (75, (.aload_n 0, 1)) (List.mem_of_getElem? (i := 41) rfl))
theorem dX12_letter_76 : decode cX12_letter 76 = .ok (.getfield 51, 3) := of_decide_eq_true (List.all_eq_true.mp dsX12_letter_0_ok (76, (.getfield 51, 3)) (List.mem_of_getElem? (i := 42) rfl))
theorem dX12_letter_79 : decode cX12_letter 79 = .ok (.imul, 1) := of_decide_eq_true (List.all_eq_true.mp dsX12_letter_0_ok (79, (.imul, 1)) (List.mem_of_getElem? (i := 43) rfl))
theorem dX12_letter_80 : decode cX12_letter 80 = .ok (.iload_n 2, 1) := of_decide_eq_true (List.all_eq_true.mp dsX12_letter_0_ok (80, (.iload_n 2, 1)) (List.mem_of_getElem? (i := 44) rfl))
theorem dX12_letter_81 : decode cX12_letter 81 = .ok (.iadd, 1) := of_decide_eq_true (List.all_eq_true.mp dsX12_letter_0_ok (81, (.iadd, 1)) (List.mem_of_getElem? (i := 45) rfl))
theorem dX12_letter_82 : decode cX12_letter 82 = .ok (.laload, 1) := of_decide_eq_true (List.all_eq_true.mp dsX12_letter_0_ok (82, (.laload, 1)) (List.mem_of_getElem? (i := 46) rfl))
theorem dX12_letter_83 : decode cX12_letter 83 = .ok (.lstore 5, 2) := of_decide_eq_true (List.all_eq_true.mp dsX12_letter_0_ok (83, (.lstore 5, 2)) (List.mem_of_getElem? (i := 47) rfl))
theorem dX12_letter_85 : decode cX12_letter 85 = .ok (.iconst 0, 1) := of_decide_eq_true (List.all_eq_true.mp dsX12_letter_0_ok (85, (.iconst 0, 1)) (List.mem_of_getElem? (i := 48) rfl))
theorem dX12_letter_86 : decode cX12_letter 86 = .ok (.istore 7, 2) := of_decide_eq_true (List.all_eq_true.mp dsX12_letter_0_ok (86, (.istore 7, 2)) (List.mem_of_getElem? (i := 49) rfl))
theorem dX12_letter_88 : decode cX12_letter 88 = .ok (.lload 5, 2) := of_decide_eq_true (List.all_eq_true.mp dsX12_letter_0_ok (88, (.lload 5, 2)) (List.mem_of_getElem? (i := 50) rfl))
theorem dX12_letter_90 : decode cX12_letter 90 = .ok (.lstore 8, 2) := of_decide_eq_true (List.all_eq_true.mp dsX12_letter_0_ok (90, (.lstore 8, 2)) (List.mem_of_getElem? (i := 51) rfl))
theorem dX12_letter_92 : decode cX12_letter 92 = .ok (.lload 8, 2) := of_decide_eq_true (List.all_eq_true.mp dsX12_letter_0_ok (92, (.lload 8, 2)) (List.mem_of_getElem? (i := 52) rfl))
theorem dX12_letter_94 : decode cX12_letter 94 = .ok (.lconst 0, 1) := of_decide_eq_true (List.all_eq_true.mp dsX12_letter_0_ok (94, (.lconst 0, 1)) (List.mem_of_getElem? (i := 53) rfl))
theorem dX12_letter_95 : decode cX12_letter 95 = .ok (.lcmp, 1) := of_decide_eq_true (List.all_eq_true.mp dsX12_letter_0_ok (95, (.lcmp, 1)) (List.mem_of_getElem? (i := 54) rfl))
theorem dX12_letter_96 : decode cX12_letter 96 = .ok (.ifCond .le 16, 3) := of_decide_eq_true (List.all_eq_true.mp dsX12_letter_0_ok (96, (.ifCond .le 16, 3)) (List.mem_of_getElem? (i := 55) rfl))
theorem dX12_letter_99 : decode cX12_letter 99 = .ok (.iinc 7 1, 3) := of_decide_eq_true (List.all_eq_true.mp dsX12_letter_0_ok (99, (.iinc 7 1, 3)) (List.mem_of_getElem? (i := 56) rfl))
theorem dX12_letter_102 : decode cX12_letter 102 = .ok (.lload 8, 2) := of_decide_eq_true (List.all_eq_true.mp dsX12_letter_0_ok (102, (.lload 8, 2)) (List.mem_of_getElem? (i := 57) rfl))
theorem dX12_letter_104 : decode cX12_letter 104 = .ok (.bipush 8, 2) := of_decide_eq_true (List.all_eq_true.mp dsX12_letter_0_ok (104, (.bipush 8, 2)) (List.mem_of_getElem? (i := 58) rfl))
theorem dX12_letter_106 : decode cX12_letter 106 = .ok (.lshr, 1) := of_decide_eq_true (List.all_eq_true.mp dsX12_letter_0_ok (106, (.lshr, 1)) (List.mem_of_getElem? (i := 59) rfl))
def dsX12_letter_1 : List (Nat × Instr × Nat) := [(107, (.lstore 8, 2)), (109, (.goto (-17), 3)), (112, (.iload_n 3, 1)), (113, (.iload 7, 2)), (115, (.if_icmp .lt 7, 3)), (118, (.iconst 0, 1)), (119, (.goto 25, 3)), (122, (.lload 5, 2)), (124, (.bipush 8, 2)), (126, (.iload 7, 2)), (128, (.iconst 1, 1)), (129, (.isub, 1)), (130, (.iload_n 3, 1)), (131, (.isub, 1)), (132, (.imul, 1)), (133, (.lshr, 1)), (134, (.ldc2_w 460, 3)), (137, (.land, 1)), (138, (.l2i, 1)), (139, (.bipush 97, 2)), (141, (.isub, 1)), (142, (.iconst 1, 1)), (143, (.iadd, 1)), (144, (.ireturn, 1))]
theorem dsX12_letter_1_ok : (dsX12_letter_1.all fun q => decide (decode cX12_letter q.1 = .ok q.2)) = true := by decide +kernel
theorem dX12_letter_107 : decode cX12_letter 107 = .ok (.lstore 8, 2) := of_decide_eq_true (List.all_eq_true.mp dsX12_letter_1_ok (107, (.lstore 8, 2)) (List.mem_of_getElem? (i := 0) rfl))
theorem dX12_letter_109 : decode cX12_letter 109 = .ok (.goto (-17), 3) := of_decide_eq_true (List.all_eq_true.mp dsX12_letter_1_ok (109, (.goto (-17), 3)) (List.mem_of_getElem? (i := 1) rfl))
theorem dX12_letter_112 : decode cX12_letter 112 = .ok (.iload_n 3, 1) := of_decide_eq_true (List.all_eq_true.mp dsX12_letter_1_ok (112, (.iload_n 3, 1)) (List.mem_of_getElem? (i := 2) rfl))
theorem dX12_letter_113 : decode cX12_letter 113 = .ok (.iload 7, 2) := of_decide_eq_true (List.all_eq_true.mp dsX12_letter_1_ok (113, (.iload 7, 2)) (List.mem_of_getElem? (i := 3) rfl))
theorem dX12_letter_115 : decode cX12_letter 115 = .ok (.if_icmp .lt 7, 3) := of_decide_eq_true (List.all_eq_true.mp dsX12_letter_1_ok (115, (.if_icmp .lt 7, 3)) (List.mem_of_getElem? (i := 4) rfl))
theorem dX12_letter_118 : decode cX12_letter 118 = .ok (.iconst 0, 1) := of_decide_eq_true (List.all_eq_true.mp dsX12_letter_1_ok (118, (.iconst 0, 1)) (List.mem_of_getElem? (i := 5) rfl))
theorem dX12_letter_119 : decode cX12_letter 119 = .ok (.goto 25, 3) := of_decide_eq_true (List.all_eq_true.mp dsX12_letter_1_ok (119, (.goto 25, 3)) (List.mem_of_getElem? (i := 6) rfl))
theorem dX12_letter_122 : decode cX12_letter 122 = .ok (.lload 5, 2) := of_decide_eq_true (List.all_eq_true.mp dsX12_letter_1_ok (122, (.lload 5, 2)) (List.mem_of_getElem? (i := 7) rfl))
theorem dX12_letter_124 : decode cX12_letter 124 = .ok (.bipush 8, 2) := of_decide_eq_true (List.all_eq_true.mp dsX12_letter_1_ok (124, (.bipush 8, 2)) (List.mem_of_getElem? (i := 8) rfl))
theorem dX12_letter_126 : decode cX12_letter 126 = .ok (.iload 7, 2) := of_decide_eq_true (List.all_eq_true.mp dsX12_letter_1_ok (126, (.iload 7, 2)) (List.mem_of_getElem? (i := 9) rfl))
theorem dX12_letter_128 : decode cX12_letter 128 = .ok (.iconst 1, 1) := of_decide_eq_true (List.all_eq_true.mp dsX12_letter_1_ok (128, (.iconst 1, 1)) (List.mem_of_getElem? (i := 10) rfl))
theorem dX12_letter_129 : decode cX12_letter 129 = .ok (.isub, 1) := of_decide_eq_true (List.all_eq_true.mp dsX12_letter_1_ok (129, (.isub, 1)) (List.mem_of_getElem? (i := 11) rfl))
theorem dX12_letter_130 : decode cX12_letter 130 = .ok (.iload_n 3, 1) := of_decide_eq_true (List.all_eq_true.mp dsX12_letter_1_ok (130, (.iload_n 3, 1)) (List.mem_of_getElem? (i := 12) rfl))
theorem dX12_letter_131 : decode cX12_letter 131 = .ok (.isub, 1) := of_decide_eq_true (List.all_eq_true.mp dsX12_letter_1_ok (131, (.isub, 1)) (List.mem_of_getElem? (i := 13) rfl))
theorem dX12_letter_132 : decode cX12_letter 132 = .ok (.imul, 1) := of_decide_eq_true (List.all_eq_true.mp dsX12_letter_1_ok (132, (.imul, 1)) (List.mem_of_getElem? (i := 14) rfl))
theorem dX12_letter_133 : decode cX12_letter 133 = .ok (.lshr, 1) := of_decide_eq_true (List.all_eq_true.mp dsX12_letter_1_ok (133, (.lshr, 1)) (List.mem_of_getElem? (i := 15) rfl))
theorem dX12_letter_134 : decode cX12_letter 134 = .ok (.ldc2_w 460, 3) := of_decide_eq_true (List.all_eq_true.mp dsX12_letter_1_ok (134, (.ldc2_w 460, 3)) (List.mem_of_getElem? (i := 16) rfl))
theorem dX12_letter_137 : decode cX12_letter 137 = .ok (.land, 1) := of_decide_eq_true (List.all_eq_true.mp dsX12_letter_1_ok (137, (.land, 1)) (List.mem_of_getElem? (i := 17) rfl))
theorem dX12_letter_138 : decode cX12_letter 138 = .ok (.l2i, 1) := of_decide_eq_true (List.all_eq_true.mp dsX12_letter_1_ok (138, (.l2i, 1)) (List.mem_of_getElem? (i := 18) rfl))
theorem dX12_letter_139 : decode cX12_letter 139 = .ok (.bipush 97, 2) := of_decide_eq_true (List.all_eq_true.mp dsX12_letter_1_ok (139, (.bipush 97, 2)) (List.mem_of_getElem? (i := 19) rfl))
theorem dX12_letter_141 : decode cX12_letter 141 = .ok (.isub, 1) := of_decide_eq_true (List.all_eq_true.mp dsX12_letter_1_ok (141, (.isub, 1)) (List.mem_of_getElem? (i := 20) rfl))
theorem dX12_letter_142 : decode cX12_letter 142 = .ok (.iconst 1, 1) := of_decide_eq_true (List.all_eq_true.mp dsX12_letter_1_ok (142, (.iconst 1, 1)) (List.mem_of_getElem? (i := 21) rfl))
theorem dX12_letter_143 : decode cX12_letter 143 = .ok (.iadd, 1) := of_decide_eq_true (List.all_eq_true.mp dsX12_letter_1_ok (143, (.iadd, 1)) (List.mem_of_getElem? (i := 22) rfl))
theorem dX12_letter_144 : decode cX12_letter 144 = .ok (.ireturn, 1) := of_decide_eq_true (List.all_eq_true.mp dsX12_letter_1_ok (144, (.ireturn, 1)) (List.mem_of_getElem? (i := 23) rfl))
def fX12_letter_l92 (N : Nat) (mmI : Nat → Int32) (mm_placesF : Nat → Int32) (mm_earsF : Nat → Int32) (mm_placeNameL : Nat → Int64) (mm_earNameL : Nat → Int64)  (k92 : (Int32 × Int64 × Int32 × Int64) → Option (Int32)) : (Int32 × Int64 × Int32 × Int64) → Option (Int32) :=
  fun (x3_92, x5_92, x7_92, x8_92) => (if (lg_cmp x8_92 0) ≤ 0 then (if x3_92 < x7_92 then some (((((x5_92 >>> ((8 * ((x7_92 - 1) - x3_92)).toInt64 &&& 63)) &&& 255).toInt32) - 97) + 1) else some 0) else k92 (x3_92, x5_92, x7_92 + 1, x8_92 >>> ((8 : Int32).toInt64 &&& 63)))
def fX12_letter_b83 (N : Nat) (mmI : Nat → Int32) (mm_placesF : Nat → Int32) (mm_earsF : Nat → Int32) (mm_placeNameL : Nat → Int64) (mm_earNameL : Nat → Int64)   : (Int32 × Int64) → Option (Int32) :=
  fun (x3_83, y0_83) => xq_loop (fX12_letter_l92 N mmI mm_placesF mm_earsF mm_placeNameL mm_earNameL) N (x3_83, y0_83, 0, y0_83)
def fX12_letter_b30 (N : Nat) (mmI : Nat → Int32) (mm_placesF : Nat → Int32) (mm_earsF : Nat → Int32) (mm_placeNameL : Nat → Int64) (mm_earNameL : Nat → Int64)   : (Int32 × Int32 × Int32 × Int32) → Option (Int32) :=
  fun (x1_30, x2_30, x3_30, y0_30) => (if y0_30 = 0 then some ((-1)) else (xq_bd (fX12_is N x3_30 0 5) fun r_1 => (if r_1 = 0 then some ((-1)) else (if x1_30 = 0 then (xq_bd (xq_aldL 14 mm_earNameL ((7 * (mmI 13)) + x2_30)) fun v_4 => fX12_letter_b83 N mmI mm_placesF mm_earsF mm_placeNameL mm_earNameL (x3_30, v_4)) else (xq_bd (xq_aldL 12 mm_placeNameL ((6 * (mmI 13)) + x2_30)) fun v_3 => fX12_letter_b83 N mmI mm_placesF mm_earsF mm_placeNameL mm_earNameL (x3_30, v_3))))))
def fX12_letter_b29 (N : Nat) (mmI : Nat → Int32) (mm_placesF : Nat → Int32) (mm_earsF : Nat → Int32) (mm_placeNameL : Nat → Int64) (mm_earNameL : Nat → Int64)   : (Int32 × Int32 × Int32) → Option (Int32) :=
  fun (x1_29, x2_29, x3_29) => fX12_letter_b30 N mmI mm_placesF mm_earsF mm_placeNameL mm_earNameL (x1_29, x2_29, x3_29, 0)
def fX12_letter (N : Nat) (mmI : Nat → Int32) (mm_placesF : Nat → Int32) (mm_earsF : Nat → Int32) (mm_placeNameL : Nat → Int64) (mm_earNameL : Nat → Int64)  (p1 : Int32) (p2 : Int32) (p3 : Int32) : Option (Int32) :=
  (if p1 = 0 then (xq_bd (fX12_isEar N mmI mm_earsF p2) fun r_3 => fX12_letter_b30 N mmI mm_placesF mm_earsF mm_placeNameL mm_earNameL (p1, p2, p3, r_3)) else (if p1 = 1 then (xq_bd (fX12_isPlace N mmI mm_placesF p2) fun r_1 => (if r_1 = 0 then fX12_letter_b29 N mmI mm_placesF mm_earsF mm_placeNameL mm_earNameL (p1, p2, p3) else fX12_letter_b30 N mmI mm_placesF mm_earsF mm_placeNameL mm_earNameL (p1, p2, p3, 1))) else fX12_letter_b29 N mmI mm_placesF mm_earsF mm_placeNameL mm_earNameL (p1, p2, p3)))
set_option maxHeartbeats 4000000 in
set_option maxRecDepth 100000 in
theorem kX12_letter (l : Launch) (dC : Nat → ClassId) (dI : Nat → Nat → Nat) (cI cB cJ cZ cM : ClassId) (z : Nat) (ad : Nat → Nat) (N : Nat) (a_p0 : Nat) (mmI : Nat → Int32) (mmJ : Nat → Int64) (mmR : Nat → Nat) (mm_placesF : Nat → Int32) (mm_earsF : Nat → Int32) (mm_placeNameL : Nat → Int64) (mm_earNameL : Nat → Int64) (p1 : Int32) (p2 : Int32) (p3 : Int32) {r0 : Int32} (hf : fX12_letter N mmI mm_placesF mm_earsF mm_placeNameL mm_earNameL p1 p2 p3 = some r0) : xq_Ct l yX12_letter wsX12_letter { frames := 1, cells := 0, slots := 0, locals := 22 } (dC, dI) vwCl (xq_tys cI cB cJ cZ cM) z ad [.ref a_p0, .int p1, .int p2, .int p3] [(a_p0, .inr (12, oX12 mmI mmJ mmR)), ((mmR 21), .inl (cI, 2, .inl mm_placesF)), ((mmR 18), .inl (cI, 2, .inl mm_earsF)), ((mmR 29), .inl (cJ, 12, .inr (.inl mm_placeNameL))), ((mmR 28), .inl (cJ, 14, .inr (.inl mm_earNameL)))] [(a_p0, .inr (12, oX12 mmI mmJ mmR)), ((mmR 21), .inl (cI, 2, .inl mm_placesF)), ((mmR 18), .inl (cI, 2, .inl mm_earsF)), ((mmR 29), .inl (cJ, 12, .inr (.inl mm_placeNameL))), ((mmR 28), .inl (cJ, 14, .inr (.inl mm_earNameL)))] (some (.int r0)) := by
  intro sz
  refine Met.ofW (cc := cX12_letter) (maxL := 10) (ret := (some .int)) (by decide) rfl ?_
  intro p e s m args below meth c s₁ B hml hv
  obtain ⟨rfl, hsz, hP, hK, hD0, hE, hz⟩ := hv
  have hx := B.exec
  have hb := B.bytes
  have hr := B.returns
  have hts := atoms_spec (ws := wsX12_letter) B.pre
  have hown : s.vm.findClass RX12 = some m.cls := findClass_of_methodNamed B.named
  have hlocks := B.notSynchronized
  subst hsz
  have hD := hD0.self (sz := s.heap.size)
  have hN := xq_Env.of hE hz hD0
  generalize hAe : va_A [(a_p0, .inr (12, oX12 mmI mmJ mmR)), ((mmR 21), .inl (cI, 2, .inl mm_placesF)), ((mmR 18), .inl (cI, 2, .inl mm_earsF)), ((mmR 29), .inl (cJ, 12, .inr (.inl mm_placeNameL))), ((mmR 28), .inl (cJ, 14, .inr (.inl mm_earNameL)))] s.heap.size = A at hD hN ⊢
  have hA : ∀ q : Nat, s.heap.size ≤ q → A q := fun q h => by rw [← hAe]; exact Or.inr h
  clear hAe hD0
  have hS : va_S A s.heap s.heap [] := va_S.rf
  have hl := lv_entry ([.ref a_p0, .int p1, .int p2, .int p3]) (n := 10) (Nat.le_of_ble_eq_true rfl)
  rw [lg_entry_eq]
  generalize (lg_sl ([.ref a_p0, .int p1, .int p2, .int p3]) ++ List.replicate (10 - (lg_sl ([.ref a_p0, .int p1, .int p2, .int p3])).length) Slot.unset).toArray = ls at hl ⊢
  have hl : lv_has ls 10 [(0, .ref a_p0), (1, .int p1), (2, .int p2), (3, .int p3)] := hl
  have hw0 := hts (.fieldLink RX12 100 "DistantVoiceModel" "placeName" "[J") (by decide +kernel)
  have hinX12 : ∀ w ∈ wsX120, w ∈ wsX12_letter := fun w h => List.mem_cons_of_mem _ (List.mem_append_right _ h)
  have hw2 := hts (.fieldLink RX12 51 "DistantVoiceModel" "bank" "I") (by decide +kernel)
  have hw3 := hts (.fieldLink RX12 96 "DistantVoiceModel" "earName" "[J") (by decide +kernel)
  have hw4 := hts (.constantLong RX12 460 (255)) (by decide +kernel)
  have l92 : ∀ n92 : Nat, ∀ (x3_92 : Int32) (x5_92 : Int64) (x7_92 : Int32) (x8_92 : Int64) (ls : Array Slot) (H : Heap) (locs : List Loc), xq_loop (fX12_letter_l92 N mmI mm_placesF mm_earsF mm_placeNameL mm_earNameL) n92 (x3_92, x5_92, x7_92, x8_92) = some r0 → va_P (dC, dI) vwCl [(a_p0, .inr (12, oX12 mmI mmJ mmR)), ((mmR 21), .inl (cI, 2, .inl mm_placesF)), ((mmR 18), .inl (cI, 2, .inl mm_earsF)), ((mmR 29), .inl (cJ, 12, .inr (.inl mm_placeNameL))), ((mmR 28), .inl (cJ, 14, .inr (.inl mm_earNameL)))] H → va_D A [(a_p0, .inr (12, oX12 mmI mmJ mmR)), ((mmR 21), .inl (cI, 2, .inl mm_placesF)), ((mmR 18), .inl (cI, 2, .inl mm_earsF)), ((mmR 29), .inl (cJ, 12, .inr (.inl mm_placeNameL))), ((mmR 28), .inl (cJ, 14, .inr (.inl mm_earNameL)))] → va_S A s.heap H locs → lv_has ls 10 [(3, .int x3_92), (5, .long x5_92), (7, .int x7_92), (8, .long x8_92)] → W p l e (headSpec wsX12_letter { frames := 1, cells := 0, slots := 0, locals := 22 }).room s m [.ref a_p0, .int p1, .int p2, .int p3].toArray below meth c H locs 0 0 (MQ below (xq_Q (dC, dI) vwCl (xq_tys cI cB cJ cZ cM) A [(a_p0, .inr (12, oX12 mmI mmJ mmR)), ((mmR 21), .inl (cI, 2, .inl mm_placesF)), ((mmR 18), .inl (cI, 2, .inl mm_earsF)), ((mmR 29), .inl (cJ, 12, .inr (.inl mm_placeNameL))), ((mmR 28), .inl (cJ, 14, .inr (.inl mm_earNameL)))] (some (.int r0))) [.ref a_p0, .int p1, .int p2, .int p3].toArray s 0 0 A) (F0 m 92 ls []) := by
    intro n92
    induction n92 with
    | zero => intro x3_92 x5_92 x7_92 x8_92 ls H locs hf; cases (show none = some r0 from hf)
    | succ n92 ih92 =>
      intro x3_92 x5_92 x7_92 x8_92 ls H locs hf hP hD hS hl
      have hf : fX12_letter_l92 N mmI mm_placesF mm_earsF mm_placeNameL mm_earNameL (xq_loop (fX12_letter_l92 N mmI mm_placesF mm_earsF mm_placeNameL mm_earNameL) n92) (x3_92, x5_92, x7_92, x8_92) = some r0 := hf
      unfold fX12_letter_l92 at hf
      refine lv_lload hx hb dX12_letter_92 (lv_at hl 3 rfl) ?_
      refine lv_lconst (v := 0) hx hb dX12_letter_94 (by decide) ?_
      refine W.lcmp hx hb dX12_letter_95 ?_
      refine lv_if_le (tgt := 112) hx hb dX12_letter_96 (by decide) (fun c_ => ?_) (fun c_ => ?_)
      · have hf := xq_pos hf c_
        refine lv_iload_n hx hb dX12_letter_112 rfl (lv_at hl 0 rfl) ?_
        refine lv_iload hx hb dX12_letter_113 (lv_at hl 2 rfl) ?_
        refine lv_icmp_lt (tgt := 122) hx hb dX12_letter_115 (by decide) (fun c_ => ?_) (fun c_ => ?_)
        · have hf := xq_pos hf c_
          refine lv_lload hx hb dX12_letter_122 (lv_at hl 1 rfl) ?_
          refine lv_bipush (v := 8) hx hb dX12_letter_124 (by decide) ?_
          refine lv_iload hx hb dX12_letter_126 (lv_at hl 2 rfl) ?_
          refine lv_iconst (v := 1) hx hb dX12_letter_128 (by decide) ?_
          refine lv_isub hx hb dX12_letter_129 ?_
          refine lv_iload_n hx hb dX12_letter_130 rfl (lv_at hl 0 rfl) ?_
          refine lv_isub hx hb dX12_letter_131 ?_
          refine lv_imul hx hb dX12_letter_132 ?_
          refine lv_lshr (v := x5_92 >>> ((8 * ((x7_92 - 1) - x3_92)).toInt64 &&& 63)) hx hb dX12_letter_133 rfl ?_
          refine lv_ldc2 (v := 255) hx hb hown hw4 dX12_letter_134 ?_
          refine lv_land hx hb dX12_letter_137 ?_
          refine lv_l2i (v := ((x5_92 >>> ((8 * ((x7_92 - 1) - x3_92)).toInt64 &&& 63)) &&& 255).toInt32) hx hb dX12_letter_138 rfl ?_
          refine lv_bipush (v := 97) hx hb dX12_letter_139 (by decide) ?_
          refine lv_isub hx hb dX12_letter_141 ?_
          refine lv_iconst (v := 1) hx hb dX12_letter_142 (by decide) ?_
          refine lv_iadd hx hb dX12_letter_143 ?_
          have e9_0 : ((((x5_92 >>> ((8 * ((x7_92 - 1) - x3_92)).toInt64 &&& 63)) &&& 255).toInt32) - 97) + 1 = r0 := Option.some.inj hf
          subst e9_0
          exact xq_iret hx hb hr hlocks hK hP hD hS dX12_letter_144
        · have hf := xq_neg hf c_
          refine lv_iconst (v := 0) hx hb dX12_letter_118 (by decide) ?_
          refine lv_goto (tgt := 144) hx hb dX12_letter_119 (by decide) ?_
          have e9_0 : 0 = r0 := Option.some.inj hf
          subst e9_0
          exact xq_iret hx hb hr hlocks hK hP hD hS dX12_letter_144
      · have hf := xq_neg hf c_
        refine lv_iinc (v := x7_92 + 1) (lv' := [(7, .int (x7_92 + 1)), (3, .int x3_92), (5, .long x5_92), (8, .long x8_92)]) hx hb dX12_letter_99 hl (k := 2) rfl (congrArg (fun q9 => x7_92 + q9) (by decide : Int32.ofInt 1 = 1)) (by decide) rfl (fun ls hl => ?_)
        refine lv_lload hx hb dX12_letter_102 (lv_at hl 3 rfl) ?_
        refine lv_bipush (v := 8) hx hb dX12_letter_104 (by decide) ?_
        refine lv_lshr (v := x8_92 >>> ((8 : Int32).toInt64 &&& 63)) hx hb dX12_letter_106 rfl ?_
        refine lv_lstore (lv' := [(8, .long (x8_92 >>> ((8 : Int32).toInt64 &&& 63))), (7, .int (x7_92 + 1)), (3, .int x3_92), (5, .long x5_92)]) hx hb dX12_letter_107 hl (by decide) rfl (fun ls hl => ?_)
        refine lv_goto (tgt := 92) hx hb dX12_letter_109 (by decide) ?_
        exact ih92 x3_92 x5_92 (x7_92 + 1) (x8_92 >>> ((8 : Int32).toInt64 &&& 63)) _ _ _ hf hP hD hS (lv_sub hl [2, 3, 1, 0] rfl)
  have b83 : ∀ (x3_83 : Int32) (y0_83 : Int64) (ls : Array Slot) (H : Heap) (locs : List Loc), fX12_letter_b83 N mmI mm_placesF mm_earsF mm_placeNameL mm_earNameL (x3_83, y0_83) = some r0 → va_P (dC, dI) vwCl [(a_p0, .inr (12, oX12 mmI mmJ mmR)), ((mmR 21), .inl (cI, 2, .inl mm_placesF)), ((mmR 18), .inl (cI, 2, .inl mm_earsF)), ((mmR 29), .inl (cJ, 12, .inr (.inl mm_placeNameL))), ((mmR 28), .inl (cJ, 14, .inr (.inl mm_earNameL)))] H → va_D A [(a_p0, .inr (12, oX12 mmI mmJ mmR)), ((mmR 21), .inl (cI, 2, .inl mm_placesF)), ((mmR 18), .inl (cI, 2, .inl mm_earsF)), ((mmR 29), .inl (cJ, 12, .inr (.inl mm_placeNameL))), ((mmR 28), .inl (cJ, 14, .inr (.inl mm_earNameL)))] → va_S A s.heap H locs → lv_has ls 10 [(3, .int x3_83)] → W p l e (headSpec wsX12_letter { frames := 1, cells := 0, slots := 0, locals := 22 }).room s m [.ref a_p0, .int p1, .int p2, .int p3].toArray below meth c H locs 0 0 (MQ below (xq_Q (dC, dI) vwCl (xq_tys cI cB cJ cZ cM) A [(a_p0, .inr (12, oX12 mmI mmJ mmR)), ((mmR 21), .inl (cI, 2, .inl mm_placesF)), ((mmR 18), .inl (cI, 2, .inl mm_earsF)), ((mmR 29), .inl (cJ, 12, .inr (.inl mm_placeNameL))), ((mmR 28), .inl (cJ, 14, .inr (.inl mm_earNameL)))] (some (.int r0))) [.ref a_p0, .int p1, .int p2, .int p3].toArray s 0 0 A) (F0 m 83 ls [.long y0_83]) := by
    intro x3_83 y0_83 ls H locs hf hP hD hS hl
    unfold fX12_letter_b83 at hf
    refine lv_lstore (lv' := [(5, .long y0_83), (3, .int x3_83)]) hx hb dX12_letter_83 hl (by decide) rfl (fun ls hl => ?_)
    refine lv_iconst (v := 0) hx hb dX12_letter_85 (by decide) ?_
    refine lv_istore (lv' := [(7, .int 0), (5, .long y0_83), (3, .int x3_83)]) hx hb dX12_letter_86 hl (by decide) rfl (fun ls hl => ?_)
    refine lv_lload hx hb dX12_letter_88 (lv_at hl 1 rfl) ?_
    refine lv_lstore (lv' := [(8, .long y0_83), (7, .int 0), (5, .long y0_83), (3, .int x3_83)]) hx hb dX12_letter_90 hl (by decide) rfl (fun ls hl => ?_)
    exact l92 N x3_83 y0_83 0 y0_83 _ _ _ hf hP hD hS (lv_sub hl [3, 2, 1, 0] rfl)
  have b30 : ∀ (x1_30 : Int32) (x2_30 : Int32) (x3_30 : Int32) (y0_30 : Int32) (ls : Array Slot) (H : Heap) (locs : List Loc), fX12_letter_b30 N mmI mm_placesF mm_earsF mm_placeNameL mm_earNameL (x1_30, x2_30, x3_30, y0_30) = some r0 → va_P (dC, dI) vwCl [(a_p0, .inr (12, oX12 mmI mmJ mmR)), ((mmR 21), .inl (cI, 2, .inl mm_placesF)), ((mmR 18), .inl (cI, 2, .inl mm_earsF)), ((mmR 29), .inl (cJ, 12, .inr (.inl mm_placeNameL))), ((mmR 28), .inl (cJ, 14, .inr (.inl mm_earNameL)))] H → va_D A [(a_p0, .inr (12, oX12 mmI mmJ mmR)), ((mmR 21), .inl (cI, 2, .inl mm_placesF)), ((mmR 18), .inl (cI, 2, .inl mm_earsF)), ((mmR 29), .inl (cJ, 12, .inr (.inl mm_placeNameL))), ((mmR 28), .inl (cJ, 14, .inr (.inl mm_earNameL)))] → va_S A s.heap H locs → lv_has ls 10 [(0, .ref a_p0), (1, .int x1_30), (2, .int x2_30), (3, .int x3_30)] → W p l e (headSpec wsX12_letter { frames := 1, cells := 0, slots := 0, locals := 22 }).room s m [.ref a_p0, .int p1, .int p2, .int p3].toArray below meth c H locs 0 0 (MQ below (xq_Q (dC, dI) vwCl (xq_tys cI cB cJ cZ cM) A [(a_p0, .inr (12, oX12 mmI mmJ mmR)), ((mmR 21), .inl (cI, 2, .inl mm_placesF)), ((mmR 18), .inl (cI, 2, .inl mm_earsF)), ((mmR 29), .inl (cJ, 12, .inr (.inl mm_placeNameL))), ((mmR 28), .inl (cJ, 14, .inr (.inl mm_earNameL)))] (some (.int r0))) [.ref a_p0, .int p1, .int p2, .int p3].toArray s 0 0 A) (F0 m 30 ls [.int y0_30]) := by
    intro x1_30 x2_30 x3_30 y0_30 ls H locs hf hP hD hS hl
    unfold fX12_letter_b30 at hf
    refine lv_istore (lv' := [(4, .int y0_30), (0, .ref a_p0), (1, .int x1_30), (2, .int x2_30), (3, .int x3_30)]) hx hb dX12_letter_30 hl (by decide) rfl (fun ls hl => ?_)
    refine lv_iload hx hb dX12_letter_32 (lv_at hl 0 rfl) ?_
    refine lv_if_eq (tgt := 46) hx hb dX12_letter_34 (by decide) (fun c_ => ?_) (fun c_ => ?_)
    · have hf := xq_pos hf c_
      refine lv_iconst (v := (-1)) hx hb dX12_letter_46 (by decide) ?_
      have e9_0 : (-1) = r0 := Option.some.inj hf
      subst e9_0
      exact xq_iret hx hb hr hlocks hK hP hD hS dX12_letter_47
    · have hf := xq_neg hf c_
      refine lv_iload_n hx hb dX12_letter_37 rfl (lv_at hl 4 rfl) ?_
      refine lv_iconst (v := 0) hx hb dX12_letter_38 (by decide) ?_
      refine lv_iconst (v := 5) hx hb dX12_letter_39 (by decide) ?_
      obtain ⟨r_1, h_2, hf⟩ := xq_bd_some hf
      refine xq_callS (As := [.int x3_30, .int 0, .int 5]) (rest := []) ⟨hx, hb, hml, hown, hts⟩ (kX12_is l dC dI cI cB cJ cZ cM z ad N x3_30 0 5 h_2) (va_cwS 3 hts gX12_letter_X12_is rfl rfl rfl (by decide +kernel) ⟨Nat.le_of_ble_eq_true rfl, Nat.le_of_ble_eq_true rfl⟩) hN hK hP hD hS hA [] (by decide) rfl rfl rfl hl.1 rfl (Nat.le_of_ble_eq_true rfl) dX12_letter_40 ⟨Nat.zero_le _, Nat.zero_le _⟩ (fun H locs hP hD hS => ?_)
      have hP : va_P (dC, dI) vwCl [(a_p0, .inr (12, oX12 mmI mmJ mmR)), ((mmR 21), .inl (cI, 2, .inl mm_placesF)), ((mmR 18), .inl (cI, 2, .inl mm_earsF)), ((mmR 29), .inl (cJ, 12, .inr (.inl mm_placeNameL))), ((mmR 28), .inl (cJ, 14, .inr (.inl mm_earNameL)))] H := hP
      have hD : va_D A [(a_p0, .inr (12, oX12 mmI mmJ mmR)), ((mmR 21), .inl (cI, 2, .inl mm_placesF)), ((mmR 18), .inl (cI, 2, .inl mm_earsF)), ((mmR 29), .inl (cJ, 12, .inr (.inl mm_placeNameL))), ((mmR 28), .inl (cJ, 14, .inr (.inl mm_earNameL)))] := hD
      refine W.eq (g2 := F0 m 43 ls [.int r_1]) rfl ?_
      refine lv_if_ne (tgt := 48) hx hb dX12_letter_43 (by decide) (fun c_ => ?_) (fun c_ => ?_)
      · have hf := xq_neg hf c_
        refine lv_iload_n hx hb dX12_letter_48 rfl (lv_at hl 2 rfl) ?_
        refine lv_if_ne (tgt := 69) hx hb dX12_letter_49 (by decide) (fun c_ => ?_) (fun c_ => ?_)
        · have hf := xq_neg hf c_
          refine lv_aload_n hx hb dX12_letter_69 rfl (lv_at hl 1 rfl) ?_
          refine va_get (D := (dC, dI)) (ci := 12) (v := .ref ((mmR 29))) (C := RX12) (T := TX12) (N := 70) hx hb hts hinX12 hown hK hP 0 rfl rfl 29 (by decide) hw0 (fun _ h9 => h9) rfl dX12_letter_70 ?_
          refine lv_bipush (v := 6) hx hb dX12_letter_73 (by decide) ?_
          refine lv_aload_n hx hb dX12_letter_75 rfl (lv_at hl 1 rfl) ?_
          refine va_get (D := (dC, dI)) (ci := 12) (v := .int (mmI 13)) (C := RX12) (T := TX12) (N := 70) hx hb hts hinX12 hown hK hP 0 rfl rfl 13 (by decide) hw2 (fun _ h9 => h9) rfl dX12_letter_76 ?_
          refine lv_imul hx hb dX12_letter_79 ?_
          refine lv_iload_n hx hb dX12_letter_80 rfl (lv_at hl 3 rfl) ?_
          refine lv_iadd hx hb dX12_letter_81 ?_
          refine xq_lald hx hb hK hP 3 2 rfl rfl hf dX12_letter_82 (fun v_3 hf => ?_)
          exact b83 x3_30 v_3 _ _ _ hf hP hD hS (lv_sub hl [4] rfl)
        · have hf := xq_pos hf c_
          refine lv_aload_n hx hb dX12_letter_52 rfl (lv_at hl 1 rfl) ?_
          refine va_get (D := (dC, dI)) (ci := 12) (v := .ref ((mmR 28))) (C := RX12) (T := TX12) (N := 70) hx hb hts hinX12 hown hK hP 0 rfl rfl 28 (by decide) hw3 (fun _ h9 => h9) rfl dX12_letter_53 ?_
          refine lv_bipush (v := 7) hx hb dX12_letter_56 (by decide) ?_
          refine lv_aload_n hx hb dX12_letter_58 rfl (lv_at hl 1 rfl) ?_
          refine va_get (D := (dC, dI)) (ci := 12) (v := .int (mmI 13)) (C := RX12) (T := TX12) (N := 70) hx hb hts hinX12 hown hK hP 0 rfl rfl 13 (by decide) hw2 (fun _ h9 => h9) rfl dX12_letter_59 ?_
          refine lv_imul hx hb dX12_letter_62 ?_
          refine lv_iload_n hx hb dX12_letter_63 rfl (lv_at hl 3 rfl) ?_
          refine lv_iadd hx hb dX12_letter_64 ?_
          refine xq_lald hx hb hK hP 4 2 rfl rfl hf dX12_letter_65 (fun v_4 hf => ?_)
          refine lv_goto (tgt := 83) hx hb dX12_letter_66 (by decide) ?_
          exact b83 x3_30 v_4 _ _ _ hf hP hD hS (lv_sub hl [4] rfl)
      · have hf := xq_pos hf c_
        refine lv_iconst (v := (-1)) hx hb dX12_letter_46 (by decide) ?_
        have e9_0 : (-1) = r0 := Option.some.inj hf
        subst e9_0
        exact xq_iret hx hb hr hlocks hK hP hD hS dX12_letter_47
  have b29 : ∀ (x1_29 : Int32) (x2_29 : Int32) (x3_29 : Int32) (ls : Array Slot) (H : Heap) (locs : List Loc), fX12_letter_b29 N mmI mm_placesF mm_earsF mm_placeNameL mm_earNameL (x1_29, x2_29, x3_29) = some r0 → va_P (dC, dI) vwCl [(a_p0, .inr (12, oX12 mmI mmJ mmR)), ((mmR 21), .inl (cI, 2, .inl mm_placesF)), ((mmR 18), .inl (cI, 2, .inl mm_earsF)), ((mmR 29), .inl (cJ, 12, .inr (.inl mm_placeNameL))), ((mmR 28), .inl (cJ, 14, .inr (.inl mm_earNameL)))] H → va_D A [(a_p0, .inr (12, oX12 mmI mmJ mmR)), ((mmR 21), .inl (cI, 2, .inl mm_placesF)), ((mmR 18), .inl (cI, 2, .inl mm_earsF)), ((mmR 29), .inl (cJ, 12, .inr (.inl mm_placeNameL))), ((mmR 28), .inl (cJ, 14, .inr (.inl mm_earNameL)))] → va_S A s.heap H locs → lv_has ls 10 [(0, .ref a_p0), (1, .int x1_29), (2, .int x2_29), (3, .int x3_29)] → W p l e (headSpec wsX12_letter { frames := 1, cells := 0, slots := 0, locals := 22 }).room s m [.ref a_p0, .int p1, .int p2, .int p3].toArray below meth c H locs 0 0 (MQ below (xq_Q (dC, dI) vwCl (xq_tys cI cB cJ cZ cM) A [(a_p0, .inr (12, oX12 mmI mmJ mmR)), ((mmR 21), .inl (cI, 2, .inl mm_placesF)), ((mmR 18), .inl (cI, 2, .inl mm_earsF)), ((mmR 29), .inl (cJ, 12, .inr (.inl mm_placeNameL))), ((mmR 28), .inl (cJ, 14, .inr (.inl mm_earNameL)))] (some (.int r0))) [.ref a_p0, .int p1, .int p2, .int p3].toArray s 0 0 A) (F0 m 29 ls []) := by
    intro x1_29 x2_29 x3_29 ls H locs hf hP hD hS hl
    unfold fX12_letter_b29 at hf
    refine lv_iconst (v := 0) hx hb dX12_letter_29 (by decide) ?_
    exact b30 x1_29 x2_29 x3_29 0 _ _ _ hf hP hD hS (lv_sub hl [0, 1, 2, 3] rfl)
  unfold fX12_letter at hf
  refine lv_iload_n hx hb dX12_letter_0 rfl (lv_at hl 1 rfl) ?_
  refine lv_if_ne (tgt := 12) hx hb dX12_letter_1 (by decide) (fun c_ => ?_) (fun c_ => ?_)
  · have hf := xq_neg hf c_
    refine lv_iload_n hx hb dX12_letter_12 rfl (lv_at hl 1 rfl) ?_
    refine lv_iconst (v := 1) hx hb dX12_letter_13 (by decide) ?_
    refine lv_icmp_ne (tgt := 29) hx hb dX12_letter_14 (by decide) (fun c_ => ?_) (fun c_ => ?_)
    · have hf := xq_neg hf c_
      exact b29 p1 p2 p3 _ _ _ hf hP hD hS (lv_sub hl [0, 1, 2, 3] rfl)
    · have hf := xq_pos hf c_
      refine lv_aload_n hx hb dX12_letter_17 rfl (lv_at hl 0 rfl) ?_
      refine lv_iload_n hx hb dX12_letter_18 rfl (lv_at hl 2 rfl) ?_
      obtain ⟨r_1, h_2, hf⟩ := xq_bd_some hf
      refine xq_callV (As := [.int p2]) (rest := []) (ci := 12) (q0 := 0) ⟨hx, hb, hml, hown, hts⟩ (kX12_isPlace l dC dI cI cB cJ cZ cM z ad N a_p0 mmI mmJ mmR mm_placesF p2 h_2) (cwV 1 hts gX12_letter_X12_isPlace rfl rfl rfl (by decide +kernel) ⟨Nat.le_of_ble_eq_true rfl, Nat.le_of_ble_eq_true rfl⟩) hN hK hP hD hS hA [0, 1] (by decide) rfl rfl rfl rfl rfl rfl hl.1 rfl (Nat.le_of_ble_eq_true rfl) dX12_letter_19 ⟨Nat.zero_le _, Nat.zero_le _⟩ (fun H locs hP hD hS => ?_)
      have hP : va_P (dC, dI) vwCl [(a_p0, .inr (12, oX12 mmI mmJ mmR)), ((mmR 21), .inl (cI, 2, .inl mm_placesF)), ((mmR 18), .inl (cI, 2, .inl mm_earsF)), ((mmR 29), .inl (cJ, 12, .inr (.inl mm_placeNameL))), ((mmR 28), .inl (cJ, 14, .inr (.inl mm_earNameL)))] H := hP
      have hD : va_D A [(a_p0, .inr (12, oX12 mmI mmJ mmR)), ((mmR 21), .inl (cI, 2, .inl mm_placesF)), ((mmR 18), .inl (cI, 2, .inl mm_earsF)), ((mmR 29), .inl (cJ, 12, .inr (.inl mm_placeNameL))), ((mmR 28), .inl (cJ, 14, .inr (.inl mm_earNameL)))] := hD
      refine W.eq (g2 := F0 m 22 ls [.int r_1]) rfl ?_
      refine lv_if_eq (tgt := 29) hx hb dX12_letter_22 (by decide) (fun c_ => ?_) (fun c_ => ?_)
      · have hf := xq_pos hf c_
        exact b29 p1 p2 p3 _ _ _ hf hP hD hS (lv_sub hl [0, 1, 2, 3] rfl)
      · have hf := xq_neg hf c_
        refine lv_iconst (v := 1) hx hb dX12_letter_25 (by decide) ?_
        refine lv_goto (tgt := 30) hx hb dX12_letter_26 (by decide) ?_
        exact b30 p1 p2 p3 1 _ _ _ hf hP hD hS (lv_sub hl [0, 1, 2, 3] rfl)
  · have hf := xq_pos hf c_
    refine lv_aload_n hx hb dX12_letter_4 rfl (lv_at hl 0 rfl) ?_
    refine lv_iload_n hx hb dX12_letter_5 rfl (lv_at hl 2 rfl) ?_
    obtain ⟨r_3, h_4, hf⟩ := xq_bd_some hf
    refine xq_callV (As := [.int p2]) (rest := []) (ci := 12) (q0 := 0) ⟨hx, hb, hml, hown, hts⟩ (kX12_isEar l dC dI cI cB cJ cZ cM z ad N a_p0 mmI mmJ mmR mm_earsF p2 h_4) (cwV 1 hts gX12_letter_X12_isEar rfl rfl rfl (by decide +kernel) ⟨Nat.le_of_ble_eq_true rfl, Nat.le_of_ble_eq_true rfl⟩) hN hK hP hD hS hA [0, 2] (by decide) rfl rfl rfl rfl rfl rfl hl.1 rfl (Nat.le_of_ble_eq_true rfl) dX12_letter_6 ⟨Nat.zero_le _, Nat.zero_le _⟩ (fun H locs hP hD hS => ?_)
    have hP : va_P (dC, dI) vwCl [(a_p0, .inr (12, oX12 mmI mmJ mmR)), ((mmR 21), .inl (cI, 2, .inl mm_placesF)), ((mmR 18), .inl (cI, 2, .inl mm_earsF)), ((mmR 29), .inl (cJ, 12, .inr (.inl mm_placeNameL))), ((mmR 28), .inl (cJ, 14, .inr (.inl mm_earNameL)))] H := hP
    have hD : va_D A [(a_p0, .inr (12, oX12 mmI mmJ mmR)), ((mmR 21), .inl (cI, 2, .inl mm_placesF)), ((mmR 18), .inl (cI, 2, .inl mm_earsF)), ((mmR 29), .inl (cJ, 12, .inr (.inl mm_placeNameL))), ((mmR 28), .inl (cJ, 14, .inr (.inl mm_earNameL)))] := hD
    refine W.eq (g2 := F0 m 9 ls [.int r_3]) rfl ?_
    refine lv_goto (tgt := 30) hx hb dX12_letter_9 (by decide) ?_
    exact b30 p1 p2 p3 r_3 _ _ _ hf hP hD hS (lv_sub hl [0, 1, 2, 3] rfl)
set_option maxRecDepth 20000 in
theorem ggX12_ear_X12_isEar : GoodIn wsX12_ear wsX12_isEar := goodIn_r _ [9, 10, 3, 47, 48, 49, 50, 51, 52, 53, 54, 55, 56, 57, 58, 59, 60, 61, 62, 63, 64, 65, 66, 67, 68, 69, 70, 71, 72, 73, 74, 75, 76, 77, 78, 79, 80, 81, 82, 83, 84, 85, 86, 87, 88, 89, 90, 91, 92, 93, 94, 95, 96, 97, 98, 99, 100, 101, 102, 103, 104, 105, 106, 107, 108, 109, 110, 111, 112, 113, 114, 115, 116] rfl (by decide +kernel)
set_option maxRecDepth 20000 in
theorem gX12_ear_X12_isEar : GoodIn wsX12_ear (wsV RX12 454 RX12 yX12_isEar wsX12_isEar) := goodIn_app (goodIn_of _ (by decide +kernel)) ggX12_ear_X12_isEar
set_option maxRecDepth 20000 in
theorem ggX12_ear_X12_isHeardIn : GoodIn wsX12_ear wsX12_isHeardIn := goodIn_r _ [14, 15, 16, 2, 3, 17, 18, 19, 8, 20, 21, 22, 23, 24, 25, 26, 27, 28, 29, 30, 31, 32, 33, 34, 35, 36, 37, 38, 39, 40, 41, 42, 43, 44, 45, 46, 47, 48, 49, 50, 51, 52, 53, 54, 55, 56, 57, 58, 59, 60, 61, 62, 63, 64, 65, 66, 67, 68, 69, 70, 71, 72, 73, 74, 75, 76, 77, 78, 79, 80, 81, 82, 83, 84, 85, 86, 87, 88, 89, 90, 91, 92, 93, 94, 95, 96, 97, 98, 99, 100, 101, 102, 103, 104, 105, 106, 107, 108, 109, 110, 111, 112, 113, 114, 115, 116] rfl (by decide +kernel)
set_option maxRecDepth 20000 in
theorem gX12_ear_X12_isHeardIn : GoodIn wsX12_ear (wsV RX12 437 RX12 yX12_isHeardIn wsX12_isHeardIn) := goodIn_app (goodIn_of _ (by decide +kernel)) ggX12_ear_X12_isHeardIn
def dsX12_ear_0 : List (Nat × Instr × Nat) := [(0, (.aload_n 0, 1)), (1, (.iload_n 1, 1)), (2, (.invokevirtual 454, 3)), (5, (.ifCond .ne 7, 3)), (8, (.iconst (-1), 1)), (9, (.goto 73, 3)), (12, (.iload_n 2, 1)), (13, (.ifCond .ne 12, 3)), (16, (.aload_n 0, 1)), (17, (.getfield 165, 3)), (20, (.iload_n 1, 1)), (21, (.iaload, 1)), (22, (.goto 60, 3)), (25, (.iload_n 2, 1)), (26, (.iconst 1, 1)), (27, (.if_icmp .ne 20, 3)), (30, (.aload_n 0, 1)), (31, (.getfield 72, 3)), (34, (.bipush 7, 2)), (36, (.aload_n 0, 1)), (37, (.getfield 51, 3)), (40, (.imul, 1)), (41, (.iload_n 1, 1)), (42, (.iadd, 1)), (43, (.iaload, 1)), (44, (.goto 38, 3)), (47, (.iload_n 2, 1)), (48, (.iconst 2, 1)), (49, (.if_icmp .ne 32, 3)), (52, (.aload_n 0, 1)), (53, (.iconst 0, 1)), (54, (.iload_n 1, 1)), (55, (.aload_n 0, 1)), (56, (.getfield 165, 3)), (59, (.iload_n 1, 1)), (60, (.iaload, 1)), (61, (.aload_n 0, 1)), (62, (.getfield 162, 3)), (65, (.iconst 0, 1)), (66, (.iaload, 1)), (67, (.invokevirtual 437, 3)), (70, (.ifCond .eq 7, 3)), (73, (.iconst 1, 1)), (74, (.goto 8, 3)), (77, (.iconst 0, 1)), (78, (.goto 4, 3)), (81, (.iconst (-1), 1)), (82, (.ireturn, 1))]
theorem dsX12_ear_0_ok : (dsX12_ear_0.all fun q => decide (decode cX12_ear q.1 = .ok q.2)) = true := by decide +kernel
theorem dX12_ear_0 : decode cX12_ear 0 = .ok (.aload_n 0, 1) := of_decide_eq_true (List.all_eq_true.mp dsX12_ear_0_ok (0, (.aload_n 0, 1)) (List.mem_of_getElem? (i := 0) rfl))
theorem dX12_ear_1 : decode cX12_ear 1 = .ok (.iload_n 1, 1) := of_decide_eq_true (List.all_eq_true.mp dsX12_ear_0_ok (1, (.iload_n 1, 1)) (List.mem_of_getElem? (i := 1) rfl))
theorem dX12_ear_2 : decode cX12_ear 2 = .ok (.invokevirtual 454, 3) := of_decide_eq_true (List.all_eq_true.mp dsX12_ear_0_ok (2, (.invokevirtual 454, 3)) (List.mem_of_getElem? (i := 2) rfl))
theorem dX12_ear_5 : decode cX12_ear 5 = .ok (.ifCond .ne 7, 3) := of_decide_eq_true (List.all_eq_true.mp dsX12_ear_0_ok (5, (.ifCond .ne 7, 3)) (List.mem_of_getElem? (i := 3) rfl))
theorem dX12_ear_8 : decode cX12_ear 8 = .ok (.iconst (-1), 1) := of_decide_eq_true (List.all_eq_true.mp dsX12_ear_0_ok (8, (.iconst (-1), 1)) (List.mem_of_getElem? (i := 4) rfl))
theorem dX12_ear_9 : decode cX12_ear 9 = .ok (.goto 73, 3) := of_decide_eq_true (List.all_eq_true.mp dsX12_ear_0_ok (9, (.goto 73, 3)) (List.mem_of_getElem? (i := 5) rfl))
theorem dX12_ear_12 : decode cX12_ear 12 = .ok (.iload_n 2, 1) := of_decide_eq_true (List.all_eq_true.mp dsX12_ear_0_ok (12, (.iload_n 2, 1)) (List.mem_of_getElem? (i := 6) rfl))
theorem dX12_ear_13 : decode cX12_ear 13 = .ok (.ifCond .ne 12, 3) := of_decide_eq_true (List.all_eq_true.mp dsX12_ear_0_ok (13, (.ifCond .ne 12, 3)) (List.mem_of_getElem? (i := 7) rfl))
theorem dX12_ear_16 : decode cX12_ear 16 = .ok (.aload_n 0, 1) := of_decide_eq_true (List.all_eq_true.mp dsX12_ear_0_ok (16, (.aload_n 0, 1)) (List.mem_of_getElem? (i := 8) rfl))
theorem dX12_ear_17 : decode cX12_ear 17 = .ok (.getfield 165, 3) := of_decide_eq_true (List.all_eq_true.mp dsX12_ear_0_ok (17, (.getfield 165, 3)) (List.mem_of_getElem? (i := 9) rfl))
theorem dX12_ear_20 : decode cX12_ear 20 = .ok (.iload_n 1, 1) := of_decide_eq_true (List.all_eq_true.mp dsX12_ear_0_ok (20, (.iload_n 1, 1)) (List.mem_of_getElem? (i := 10) rfl))
theorem dX12_ear_21 : decode cX12_ear 21 = .ok (.iaload, 1) := of_decide_eq_true (List.all_eq_true.mp dsX12_ear_0_ok (21, (.iaload, 1)) (List.mem_of_getElem? (i := 11) rfl))
theorem dX12_ear_22 : decode cX12_ear 22 = .ok (.goto 60, 3) := of_decide_eq_true (List.all_eq_true.mp dsX12_ear_0_ok (22, (.goto 60, 3)) (List.mem_of_getElem? (i := 12) rfl))
theorem dX12_ear_25 : decode cX12_ear 25 = .ok (.iload_n 2, 1) := of_decide_eq_true (List.all_eq_true.mp dsX12_ear_0_ok (25, (.iload_n 2, 1)) (List.mem_of_getElem? (i := 13) rfl))
theorem dX12_ear_26 : decode cX12_ear 26 = .ok (.iconst 1, 1) := of_decide_eq_true (List.all_eq_true.mp dsX12_ear_0_ok (26, (.iconst 1, 1)) (List.mem_of_getElem? (i := 14) rfl))
theorem dX12_ear_27 : decode cX12_ear 27 = .ok (.if_icmp .ne 20, 3) := of_decide_eq_true (List.all_eq_true.mp dsX12_ear_0_ok (27, (.if_icmp .ne 20, 3)) (List.mem_of_getElem? (i := 15) rfl))
theorem dX12_ear_30 : decode cX12_ear 30 = .ok (.aload_n 0, 1) := of_decide_eq_true (List.all_eq_true.mp dsX12_ear_0_ok (30, (.aload_n 0, 1)) (List.mem_of_getElem? (i := 16) rfl))
theorem dX12_ear_31 : decode cX12_ear 31 = .ok (.getfield 72, 3) := of_decide_eq_true (List.all_eq_true.mp dsX12_ear_0_ok (31, (.getfield 72, 3)) (List.mem_of_getElem? (i := 17) rfl))
theorem dX12_ear_34 : decode cX12_ear 34 = .ok (.bipush 7, 2) := of_decide_eq_true (List.all_eq_true.mp dsX12_ear_0_ok (34, (.bipush 7, 2)) (List.mem_of_getElem? (i := 18) rfl))
theorem dX12_ear_36 : decode cX12_ear 36 = .ok (.aload_n 0, 1) := of_decide_eq_true (List.all_eq_true.mp dsX12_ear_0_ok (36, (.aload_n 0, 1)) (List.mem_of_getElem? (i := 19) rfl))
theorem dX12_ear_37 : decode cX12_ear 37 = .ok (.getfield 51, 3) := of_decide_eq_true (List.all_eq_true.mp dsX12_ear_0_ok (37, (.getfield 51, 3)) (List.mem_of_getElem? (i := 20) rfl))
theorem dX12_ear_40 : decode cX12_ear 40 = .ok (.imul, 1) := of_decide_eq_true (List.all_eq_true.mp dsX12_ear_0_ok (40, (.imul, 1)) (List.mem_of_getElem? (i := 21) rfl))
theorem dX12_ear_41 : decode cX12_ear 41 = .ok (.iload_n 1, 1) := of_decide_eq_true (List.all_eq_true.mp dsX12_ear_0_ok (41, (.iload_n 1, 1)) (List.mem_of_getElem? (i := 22) rfl))
theorem dX12_ear_42 : decode cX12_ear 42 = .ok (.iadd, 1) := of_decide_eq_true (List.all_eq_true.mp dsX12_ear_0_ok (42, (.iadd, 1)) (List.mem_of_getElem? (i := 23) rfl))
theorem dX12_ear_43 : decode cX12_ear 43 = .ok (.iaload, 1) := of_decide_eq_true (List.all_eq_true.mp dsX12_ear_0_ok (43, (.iaload, 1)) (List.mem_of_getElem? (i := 24) rfl))
theorem dX12_ear_44 : decode cX12_ear 44 = .ok (.goto 38, 3) := of_decide_eq_true (List.all_eq_true.mp dsX12_ear_0_ok (44, (.goto 38, 3)) (List.mem_of_getElem? (i := 25) rfl))
theorem dX12_ear_47 : decode cX12_ear 47 = .ok (.iload_n 2, 1) := of_decide_eq_true (List.all_eq_true.mp dsX12_ear_0_ok (47, (.iload_n 2, 1)) (List.mem_of_getElem? (i := 26) rfl))
theorem dX12_ear_48 : decode cX12_ear 48 = .ok (.iconst 2, 1) := of_decide_eq_true (List.all_eq_true.mp dsX12_ear_0_ok (48, (.iconst 2, 1)) (List.mem_of_getElem? (i := 27) rfl))
theorem dX12_ear_49 : decode cX12_ear 49 = .ok (.if_icmp .ne 32, 3) := of_decide_eq_true (List.all_eq_true.mp dsX12_ear_0_ok (49, (.if_icmp .ne 32, 3)) (List.mem_of_getElem? (i := 28) rfl))
theorem dX12_ear_52 : decode cX12_ear 52 = .ok (.aload_n 0, 1) := of_decide_eq_true (List.all_eq_true.mp dsX12_ear_0_ok (52, (.aload_n 0, 1)) (List.mem_of_getElem? (i := 29) rfl))
theorem dX12_ear_53 : decode cX12_ear 53 = .ok (.iconst 0, 1) := of_decide_eq_true (List.all_eq_true.mp dsX12_ear_0_ok (53, (.iconst 0, 1)) (List.mem_of_getElem? (i := 30) rfl))
theorem dX12_ear_54 : decode cX12_ear 54 = .ok (.iload_n 1, 1) := of_decide_eq_true (List.all_eq_true.mp dsX12_ear_0_ok (54, (.iload_n 1, 1)) (List.mem_of_getElem? (i := 31) rfl))
theorem dX12_ear_55 : decode cX12_ear 55 = .ok (.aload_n 0, 1) := of_decide_eq_true (List.all_eq_true.mp dsX12_ear_0_ok (55, (.aload_n 0, 1)) (List.mem_of_getElem? (i := 32) rfl))
theorem dX12_ear_56 : decode cX12_ear 56 = .ok (.getfield 165, 3) := of_decide_eq_true (List.all_eq_true.mp dsX12_ear_0_ok (56, (.getfield 165, 3)) (List.mem_of_getElem? (i := 33) rfl))
theorem dX12_ear_59 : decode cX12_ear 59 = .ok (.iload_n 1, 1) := of_decide_eq_true (List.all_eq_true.mp dsX12_ear_0_ok (59, (.iload_n 1, 1)) (List.mem_of_getElem? (i := 34) rfl))
theorem dX12_ear_60 : decode cX12_ear 60 = .ok (.iaload, 1) := of_decide_eq_true (List.all_eq_true.mp dsX12_ear_0_ok (60, (.iaload, 1)) (List.mem_of_getElem? (i := 35) rfl))
theorem dX12_ear_61 : decode cX12_ear 61 = .ok (.aload_n 0, 1) := of_decide_eq_true (List.all_eq_true.mp dsX12_ear_0_ok (61, (.aload_n 0, 1)) (List.mem_of_getElem? (i := 36) rfl))
theorem dX12_ear_62 : decode cX12_ear 62 = .ok (.getfield 162, 3) := of_decide_eq_true (List.all_eq_true.mp dsX12_ear_0_ok (62, (.getfield 162, 3)) (List.mem_of_getElem? (i := 37) rfl))
theorem dX12_ear_65 : decode cX12_ear 65 = .ok (.iconst 0, 1) := of_decide_eq_true (List.all_eq_true.mp dsX12_ear_0_ok (65, (.iconst 0, 1)) (List.mem_of_getElem? (i := 38) rfl))
theorem dX12_ear_66 : decode cX12_ear 66 = .ok (.iaload, 1) := of_decide_eq_true (List.all_eq_true.mp dsX12_ear_0_ok (66, (.iaload, 1)) (List.mem_of_getElem? (i := 39) rfl))
theorem dX12_ear_67 : decode cX12_ear 67 = .ok (.invokevirtual 437, 3) := of_decide_eq_true (List.all_eq_true.mp dsX12_ear_0_ok (67, (.invokevirtual 437, 3)) (List.mem_of_getElem? (i := 40) rfl))
theorem dX12_ear_70 : decode cX12_ear 70 = .ok (.ifCond .eq 7, 3) := of_decide_eq_true (List.all_eq_true.mp dsX12_ear_0_ok (70, (.ifCond .eq 7, 3)) (List.mem_of_getElem? (i := 41) rfl))
theorem dX12_ear_73 : decode cX12_ear 73 = .ok (.iconst 1, 1) := of_decide_eq_true (List.all_eq_true.mp dsX12_ear_0_ok (73, (.iconst 1, 1)) (List.mem_of_getElem? (i := 42) rfl))
theorem dX12_ear_74 : decode cX12_ear 74 = .ok (.goto 8, 3) := of_decide_eq_true (List.all_eq_true.mp dsX12_ear_0_ok (74, (.goto 8, 3)) (List.mem_of_getElem? (i := 43) rfl))
theorem dX12_ear_77 : decode cX12_ear 77 = .ok (.iconst 0, 1) := of_decide_eq_true (List.all_eq_true.mp dsX12_ear_0_ok (77, (.iconst 0, 1)) (List.mem_of_getElem? (i := 44) rfl))
theorem dX12_ear_78 : decode cX12_ear 78 = .ok (.goto 4, 3) := of_decide_eq_true (List.all_eq_true.mp dsX12_ear_0_ok (78, (.goto 4, 3)) (List.mem_of_getElem? (i := 45) rfl))
theorem dX12_ear_81 : decode cX12_ear 81 = .ok (.iconst (-1), 1) := of_decide_eq_true (List.all_eq_true.mp dsX12_ear_0_ok (81, (.iconst (-1), 1)) (List.mem_of_getElem? (i := 46) rfl))
theorem dX12_ear_82 : decode cX12_ear 82 = .ok (.ireturn, 1) := of_decide_eq_true (List.all_eq_true.mp dsX12_ear_0_ok (82, (.ireturn, 1)) (List.mem_of_getElem? (i := 47) rfl))
def fX12_ear (N : Nat) (mmI : Nat → Int32) (mm_earsF : Nat → Int32) (mm_rowOfF : Nat → Int32) (mm_hushOfF : Nat → Int32) (mm_sumFromF : Nat → Int32) (mm_nightOfF : Nat → Int32) (mm_askedF : Nat → Int32) (mm_sharpOfF : Nat → Int32) (mm_mileOfF : Nat → Int32) (mm_milesToldF : Nat → Int32) (mm_sumBehindF : Nat → Int32) (mm_stackL : Nat → Int64) (mm_codeSortF : Nat → Int32) (mm_codeValueF : Nat → Int32)  (p1 : Int32) (p2 : Int32) : Option (Int32 × (Nat → Int32) × (Nat → Int64)) :=
  (xq_bd (fX12_isEar N mmI mm_earsF p1) fun r_1 => (if r_1 = 0 then some (((-1), mm_askedF, mm_stackL)) else (if p2 = 0 then (xq_bd (xq_ald 154 mm_rowOfF p1) fun v_8 => some ((v_8, mm_askedF, mm_stackL))) else (if p2 = 1 then (xq_bd (xq_ald 14 mm_sharpOfF ((7 * (mmI 13)) + p1)) fun v_7 => some ((v_7, mm_askedF, mm_stackL))) else (if p2 = 2 then (xq_bd (xq_ald 154 mm_rowOfF p1) fun v_3 => (xq_bd (xq_ald 22 mm_hushOfF 0) fun v_4 => (xq_bd (fX12_isHeardIn N mmI mm_sumFromF mm_nightOfF mm_askedF mm_sharpOfF mm_mileOfF mm_milesToldF mm_sumBehindF mm_stackL mm_codeSortF mm_codeValueF 0 p1 v_3 v_4) fun (r_5_0, r_5_1, r_5_2) => (if r_5_0 = 0 then some ((0, r_5_1, r_5_2)) else some ((1, r_5_1, r_5_2)))))) else some (((-1), mm_askedF, mm_stackL)))))))
set_option maxHeartbeats 4000000 in
set_option maxRecDepth 100000 in
theorem kX12_ear (l : Launch) (dC : Nat → ClassId) (dI : Nat → Nat → Nat) (cI cB cJ cZ cM : ClassId) (z : Nat) (ad : Nat → Nat) (N : Nat) (a_p0 : Nat) (mmI : Nat → Int32) (mmJ : Nat → Int64) (mmR : Nat → Nat) (mm_earsF : Nat → Int32) (mm_rowOfF : Nat → Int32) (mm_hushOfF : Nat → Int32) (mm_sumFromF : Nat → Int32) (mm_nightOfF : Nat → Int32) (mm_askedF : Nat → Int32) (mm_sharpOfF : Nat → Int32) (mm_mileOfF : Nat → Int32) (mm_milesToldF : Nat → Int32) (mm_sumBehindF : Nat → Int32) (mm_stackL : Nat → Int64) (mm_codeSortF : Nat → Int32) (mm_codeValueF : Nat → Int32) (p1 : Int32) (p2 : Int32) {r0 : Int32} {r1 : Nat → Int32} {r2 : Nat → Int64} (hf : fX12_ear N mmI mm_earsF mm_rowOfF mm_hushOfF mm_sumFromF mm_nightOfF mm_askedF mm_sharpOfF mm_mileOfF mm_milesToldF mm_sumBehindF mm_stackL mm_codeSortF mm_codeValueF p1 p2 = some (r0, r1, r2)) : xq_Ct l yX12_ear wsX12_ear { frames := 4, cells := 0, slots := 0, locals := 97 } (dC, dI) vwCl (xq_tys cI cB cJ cZ cM) z ad [.ref a_p0, .int p1, .int p2] [(a_p0, .inr (12, oX12 mmI mmJ mmR)), ((mmR 18), .inl (cI, 2, .inl mm_earsF)), ((mmR 50), .inl (cI, 154, .inl mm_rowOfF)), ((mmR 49), .inl (cI, 22, .inl mm_hushOfF)), ((mmR 24), .inl (cI, 6, .inl mm_sumFromF)), ((mmR 45), .inl (cI, 22, .inl mm_nightOfF)), ((mmR 58), .inl (cI, 12, .inl mm_askedF)), ((mmR 20), .inl (cI, 14, .inl mm_sharpOfF)), ((mmR 46), .inl (cI, 22, .inl mm_mileOfF)), ((mmR 14), .inl (cI, 2, .inl mm_milesToldF)), ((mmR 25), .inl (cI, 6, .inl mm_sumBehindF)), ((mmR 57), .inl (cJ, 500, .inr (.inl mm_stackL))), ((mmR 26), .inl (cI, 3200, .inl mm_codeSortF)), ((mmR 27), .inl (cI, 3200, .inl mm_codeValueF))] [(a_p0, .inr (12, oX12 mmI mmJ mmR)), ((mmR 18), .inl (cI, 2, .inl mm_earsF)), ((mmR 50), .inl (cI, 154, .inl mm_rowOfF)), ((mmR 49), .inl (cI, 22, .inl mm_hushOfF)), ((mmR 24), .inl (cI, 6, .inl mm_sumFromF)), ((mmR 45), .inl (cI, 22, .inl mm_nightOfF)), ((mmR 58), .inl (cI, 12, .inl r1)), ((mmR 20), .inl (cI, 14, .inl mm_sharpOfF)), ((mmR 46), .inl (cI, 22, .inl mm_mileOfF)), ((mmR 14), .inl (cI, 2, .inl mm_milesToldF)), ((mmR 25), .inl (cI, 6, .inl mm_sumBehindF)), ((mmR 57), .inl (cJ, 500, .inr (.inl r2))), ((mmR 26), .inl (cI, 3200, .inl mm_codeSortF)), ((mmR 27), .inl (cI, 3200, .inl mm_codeValueF))] (some (.int r0)) := by
  intro sz
  refine Met.ofW (cc := cX12_ear) (maxL := 3) (ret := (some .int)) (by decide) rfl ?_
  intro p e s m args below meth c s₁ B hml hv
  obtain ⟨rfl, hsz, hP, hK, hD0, hE, hz⟩ := hv
  have hx := B.exec
  have hb := B.bytes
  have hr := B.returns
  have hts := atoms_spec (ws := wsX12_ear) B.pre
  have hown : s.vm.findClass RX12 = some m.cls := findClass_of_methodNamed B.named
  have hlocks := B.notSynchronized
  subst hsz
  have hD := hD0.self (sz := s.heap.size)
  have hN := xq_Env.of hE hz hD0
  generalize hAe : va_A [(a_p0, .inr (12, oX12 mmI mmJ mmR)), ((mmR 18), .inl (cI, 2, .inl mm_earsF)), ((mmR 50), .inl (cI, 154, .inl mm_rowOfF)), ((mmR 49), .inl (cI, 22, .inl mm_hushOfF)), ((mmR 24), .inl (cI, 6, .inl mm_sumFromF)), ((mmR 45), .inl (cI, 22, .inl mm_nightOfF)), ((mmR 58), .inl (cI, 12, .inl mm_askedF)), ((mmR 20), .inl (cI, 14, .inl mm_sharpOfF)), ((mmR 46), .inl (cI, 22, .inl mm_mileOfF)), ((mmR 14), .inl (cI, 2, .inl mm_milesToldF)), ((mmR 25), .inl (cI, 6, .inl mm_sumBehindF)), ((mmR 57), .inl (cJ, 500, .inr (.inl mm_stackL))), ((mmR 26), .inl (cI, 3200, .inl mm_codeSortF)), ((mmR 27), .inl (cI, 3200, .inl mm_codeValueF))] s.heap.size = A at hD hN ⊢
  have hA : ∀ q : Nat, s.heap.size ≤ q → A q := fun q h => by rw [← hAe]; exact Or.inr h
  clear hAe hD0
  have hS : va_S A s.heap s.heap [] := va_S.rf
  have hl := lv_entry ([.ref a_p0, .int p1, .int p2]) (n := 3) (Nat.le_of_ble_eq_true rfl)
  rw [lg_entry_eq]
  generalize (lg_sl ([.ref a_p0, .int p1, .int p2]) ++ List.replicate (3 - (lg_sl ([.ref a_p0, .int p1, .int p2])).length) Slot.unset).toArray = ls at hl ⊢
  have hl : lv_has ls 3 [(0, .ref a_p0), (1, .int p1), (2, .int p2)] := hl
  have hw0 := hts (.fieldLink RX12 165 "DistantVoiceModel" "rowOf" "[I") (by decide +kernel)
  have hinX12 : ∀ w ∈ wsX120, w ∈ wsX12_ear := fun w h => List.mem_cons_of_mem _ (List.mem_append_right _ h)
  have hw2 := hts (.fieldLink RX12 162 "DistantVoiceModel" "hushOf" "[I") (by decide +kernel)
  have hw3 := hts (.fieldLink RX12 72 "DistantVoiceModel" "sharpOf" "[I") (by decide +kernel)
  have hw4 := hts (.fieldLink RX12 51 "DistantVoiceModel" "bank" "I") (by decide +kernel)
  unfold fX12_ear at hf
  refine lv_aload_n hx hb dX12_ear_0 rfl (lv_at hl 0 rfl) ?_
  refine lv_iload_n hx hb dX12_ear_1 rfl (lv_at hl 1 rfl) ?_
  obtain ⟨r_1, h_2, hf⟩ := xq_bd_some hf
  refine xq_callV (As := [.int p1]) (rest := []) (ci := 12) (q0 := 0) ⟨hx, hb, hml, hown, hts⟩ (kX12_isEar l dC dI cI cB cJ cZ cM z ad N a_p0 mmI mmJ mmR mm_earsF p1 h_2) (cwV 1 hts gX12_ear_X12_isEar rfl rfl rfl (by decide +kernel) ⟨Nat.le_of_ble_eq_true rfl, Nat.le_of_ble_eq_true rfl⟩) hN hK hP hD hS hA [0, 1] (by decide) rfl rfl rfl rfl rfl rfl hl.1 rfl (Nat.le_of_ble_eq_true rfl) dX12_ear_2 ⟨Nat.zero_le _, Nat.zero_le _⟩ (fun H locs hP hD hS => ?_)
  have hP : va_P (dC, dI) vwCl [(a_p0, .inr (12, oX12 mmI mmJ mmR)), ((mmR 18), .inl (cI, 2, .inl mm_earsF)), ((mmR 50), .inl (cI, 154, .inl mm_rowOfF)), ((mmR 49), .inl (cI, 22, .inl mm_hushOfF)), ((mmR 24), .inl (cI, 6, .inl mm_sumFromF)), ((mmR 45), .inl (cI, 22, .inl mm_nightOfF)), ((mmR 58), .inl (cI, 12, .inl mm_askedF)), ((mmR 20), .inl (cI, 14, .inl mm_sharpOfF)), ((mmR 46), .inl (cI, 22, .inl mm_mileOfF)), ((mmR 14), .inl (cI, 2, .inl mm_milesToldF)), ((mmR 25), .inl (cI, 6, .inl mm_sumBehindF)), ((mmR 57), .inl (cJ, 500, .inr (.inl mm_stackL))), ((mmR 26), .inl (cI, 3200, .inl mm_codeSortF)), ((mmR 27), .inl (cI, 3200, .inl mm_codeValueF))] H := hP
  have hD : va_D A [(a_p0, .inr (12, oX12 mmI mmJ mmR)), ((mmR 18), .inl (cI, 2, .inl mm_earsF)), ((mmR 50), .inl (cI, 154, .inl mm_rowOfF)), ((mmR 49), .inl (cI, 22, .inl mm_hushOfF)), ((mmR 24), .inl (cI, 6, .inl mm_sumFromF)), ((mmR 45), .inl (cI, 22, .inl mm_nightOfF)), ((mmR 58), .inl (cI, 12, .inl mm_askedF)), ((mmR 20), .inl (cI, 14, .inl mm_sharpOfF)), ((mmR 46), .inl (cI, 22, .inl mm_mileOfF)), ((mmR 14), .inl (cI, 2, .inl mm_milesToldF)), ((mmR 25), .inl (cI, 6, .inl mm_sumBehindF)), ((mmR 57), .inl (cJ, 500, .inr (.inl mm_stackL))), ((mmR 26), .inl (cI, 3200, .inl mm_codeSortF)), ((mmR 27), .inl (cI, 3200, .inl mm_codeValueF))] := hD
  refine W.eq (g2 := F0 m 5 ls [.int r_1]) rfl ?_
  refine lv_if_ne (tgt := 12) hx hb dX12_ear_5 (by decide) (fun c_ => ?_) (fun c_ => ?_)
  · have hf := xq_neg hf c_
    refine lv_iload_n hx hb dX12_ear_12 rfl (lv_at hl 2 rfl) ?_
    refine lv_if_ne (tgt := 25) hx hb dX12_ear_13 (by decide) (fun c_ => ?_) (fun c_ => ?_)
    · have hf := xq_neg hf c_
      refine lv_iload_n hx hb dX12_ear_25 rfl (lv_at hl 2 rfl) ?_
      refine lv_iconst (v := 1) hx hb dX12_ear_26 (by decide) ?_
      refine lv_icmp_ne (tgt := 47) hx hb dX12_ear_27 (by decide) (fun c_ => ?_) (fun c_ => ?_)
      · have hf := xq_neg hf c_
        refine lv_iload_n hx hb dX12_ear_47 rfl (lv_at hl 2 rfl) ?_
        refine lv_iconst (v := 2) hx hb dX12_ear_48 (by decide) ?_
        refine lv_icmp_ne (tgt := 81) hx hb dX12_ear_49 (by decide) (fun c_ => ?_) (fun c_ => ?_)
        · have hf := xq_neg hf c_
          refine lv_iconst (v := (-1)) hx hb dX12_ear_81 (by decide) ?_
          have e9 := Option.some.inj hf
          have e9_0 : (-1) = r0 := congrArg (fun t => t.1) e9
          have e9_1 : mm_askedF = r1 := congrArg (fun t => t.2.1) e9
          have e9_2 : mm_stackL = r2 := congrArg (fun t => t.2.2) e9
          clear e9 hf
          subst e9_0
          subst e9_1
          subst e9_2
          exact xq_iret hx hb hr hlocks hK hP hD hS dX12_ear_82
        · have hf := xq_pos hf c_
          refine lv_aload_n hx hb dX12_ear_52 rfl (lv_at hl 0 rfl) ?_
          refine lv_iconst (v := 0) hx hb dX12_ear_53 (by decide) ?_
          refine lv_iload_n hx hb dX12_ear_54 rfl (lv_at hl 1 rfl) ?_
          refine lv_aload_n hx hb dX12_ear_55 rfl (lv_at hl 0 rfl) ?_
          refine va_get (D := (dC, dI)) (ci := 12) (v := .ref ((mmR 50))) (C := RX12) (T := TX12) (N := 70) hx hb hts hinX12 hown hK hP 0 rfl rfl 50 (by decide) hw0 (fun _ h9 => h9) rfl dX12_ear_56 ?_
          refine lv_iload_n hx hb dX12_ear_59 rfl (lv_at hl 1 rfl) ?_
          refine xq_iald hx hb hK hP 2 0 rfl rfl hf dX12_ear_60 (fun v_3 hf => ?_)
          refine lv_aload_n hx hb dX12_ear_61 rfl (lv_at hl 0 rfl) ?_
          refine va_get (D := (dC, dI)) (ci := 12) (v := .ref ((mmR 49))) (C := RX12) (T := TX12) (N := 70) hx hb hts hinX12 hown hK hP 0 rfl rfl 49 (by decide) hw2 (fun _ h9 => h9) rfl dX12_ear_62 ?_
          refine lv_iconst (v := 0) hx hb dX12_ear_65 (by decide) ?_
          refine xq_iald hx hb hK hP 3 0 rfl rfl hf dX12_ear_66 (fun v_4 hf => ?_)
          obtain ⟨⟨r_5_0, r_5_1, r_5_2⟩, h_6, hf⟩ := xq_bd_some hf
          refine xq_callV (As := [.int 0, .int p1, .int v_3, .int v_4]) (rest := []) (ci := 12) (q0 := 0) ⟨hx, hb, hml, hown, hts⟩ (kX12_isHeardIn l dC dI cI cB cJ cZ cM z ad N a_p0 mmI mmJ mmR mm_sumFromF mm_nightOfF mm_askedF mm_sharpOfF mm_mileOfF mm_milesToldF mm_sumBehindF mm_stackL mm_codeSortF mm_codeValueF 0 p1 v_3 v_4 h_6) (cwV 4 hts gX12_ear_X12_isHeardIn rfl rfl rfl (by decide +kernel) ⟨Nat.le_of_ble_eq_true rfl, Nat.le_of_ble_eq_true rfl⟩) hN hK hP hD hS hA [0, 4, 5, 6, 7, 8, 9, 10, 11, 12, 13] (by decide) rfl rfl rfl rfl rfl rfl hl.1 rfl (Nat.le_of_ble_eq_true rfl) dX12_ear_67 ⟨Nat.zero_le _, Nat.zero_le _⟩ (fun H locs hP hD hS => ?_)
          have hP : va_P (dC, dI) vwCl [(a_p0, .inr (12, oX12 mmI mmJ mmR)), ((mmR 18), .inl (cI, 2, .inl mm_earsF)), ((mmR 50), .inl (cI, 154, .inl mm_rowOfF)), ((mmR 49), .inl (cI, 22, .inl mm_hushOfF)), ((mmR 24), .inl (cI, 6, .inl mm_sumFromF)), ((mmR 45), .inl (cI, 22, .inl mm_nightOfF)), ((mmR 58), .inl (cI, 12, .inl r_5_1)), ((mmR 20), .inl (cI, 14, .inl mm_sharpOfF)), ((mmR 46), .inl (cI, 22, .inl mm_mileOfF)), ((mmR 14), .inl (cI, 2, .inl mm_milesToldF)), ((mmR 25), .inl (cI, 6, .inl mm_sumBehindF)), ((mmR 57), .inl (cJ, 500, .inr (.inl r_5_2))), ((mmR 26), .inl (cI, 3200, .inl mm_codeSortF)), ((mmR 27), .inl (cI, 3200, .inl mm_codeValueF))] H := hP
          have hD : va_D A [(a_p0, .inr (12, oX12 mmI mmJ mmR)), ((mmR 18), .inl (cI, 2, .inl mm_earsF)), ((mmR 50), .inl (cI, 154, .inl mm_rowOfF)), ((mmR 49), .inl (cI, 22, .inl mm_hushOfF)), ((mmR 24), .inl (cI, 6, .inl mm_sumFromF)), ((mmR 45), .inl (cI, 22, .inl mm_nightOfF)), ((mmR 58), .inl (cI, 12, .inl r_5_1)), ((mmR 20), .inl (cI, 14, .inl mm_sharpOfF)), ((mmR 46), .inl (cI, 22, .inl mm_mileOfF)), ((mmR 14), .inl (cI, 2, .inl mm_milesToldF)), ((mmR 25), .inl (cI, 6, .inl mm_sumBehindF)), ((mmR 57), .inl (cJ, 500, .inr (.inl r_5_2))), ((mmR 26), .inl (cI, 3200, .inl mm_codeSortF)), ((mmR 27), .inl (cI, 3200, .inl mm_codeValueF))] := hD
          refine W.eq (g2 := F0 m 70 ls [.int r_5_0]) rfl ?_
          refine lv_if_eq (tgt := 77) hx hb dX12_ear_70 (by decide) (fun c_ => ?_) (fun c_ => ?_)
          · have hf := xq_pos hf c_
            refine lv_iconst (v := 0) hx hb dX12_ear_77 (by decide) ?_
            refine lv_goto (tgt := 82) hx hb dX12_ear_78 (by decide) ?_
            have e9 := Option.some.inj hf
            have e9_0 : 0 = r0 := congrArg (fun t => t.1) e9
            have e9_1 : r_5_1 = r1 := congrArg (fun t => t.2.1) e9
            have e9_2 : r_5_2 = r2 := congrArg (fun t => t.2.2) e9
            clear e9 hf
            subst e9_0
            subst e9_1
            subst e9_2
            exact xq_iret hx hb hr hlocks hK hP hD hS dX12_ear_82
          · have hf := xq_neg hf c_
            refine lv_iconst (v := 1) hx hb dX12_ear_73 (by decide) ?_
            refine lv_goto (tgt := 82) hx hb dX12_ear_74 (by decide) ?_
            have e9 := Option.some.inj hf
            have e9_0 : 1 = r0 := congrArg (fun t => t.1) e9
            have e9_1 : r_5_1 = r1 := congrArg (fun t => t.2.1) e9
            have e9_2 : r_5_2 = r2 := congrArg (fun t => t.2.2) e9
            clear e9 hf
            subst e9_0
            subst e9_1
            subst e9_2
            exact xq_iret hx hb hr hlocks hK hP hD hS dX12_ear_82
      · have hf := xq_pos hf c_
        refine lv_aload_n hx hb dX12_ear_30 rfl (lv_at hl 0 rfl) ?_
        refine va_get (D := (dC, dI)) (ci := 12) (v := .ref ((mmR 20))) (C := RX12) (T := TX12) (N := 70) hx hb hts hinX12 hown hK hP 0 rfl rfl 20 (by decide) hw3 (fun _ h9 => h9) rfl dX12_ear_31 ?_
        refine lv_bipush (v := 7) hx hb dX12_ear_34 (by decide) ?_
        refine lv_aload_n hx hb dX12_ear_36 rfl (lv_at hl 0 rfl) ?_
        refine va_get (D := (dC, dI)) (ci := 12) (v := .int (mmI 13)) (C := RX12) (T := TX12) (N := 70) hx hb hts hinX12 hown hK hP 0 rfl rfl 13 (by decide) hw4 (fun _ h9 => h9) rfl dX12_ear_37 ?_
        refine lv_imul hx hb dX12_ear_40 ?_
        refine lv_iload_n hx hb dX12_ear_41 rfl (lv_at hl 1 rfl) ?_
        refine lv_iadd hx hb dX12_ear_42 ?_
        refine xq_iald hx hb hK hP 7 0 rfl rfl hf dX12_ear_43 (fun v_7 hf => ?_)
        refine lv_goto (tgt := 82) hx hb dX12_ear_44 (by decide) ?_
        have e9 := Option.some.inj hf
        have e9_0 : v_7 = r0 := congrArg (fun t => t.1) e9
        have e9_1 : mm_askedF = r1 := congrArg (fun t => t.2.1) e9
        have e9_2 : mm_stackL = r2 := congrArg (fun t => t.2.2) e9
        clear e9 hf
        subst e9_0
        subst e9_1
        subst e9_2
        exact xq_iret hx hb hr hlocks hK hP hD hS dX12_ear_82
    · have hf := xq_pos hf c_
      refine lv_aload_n hx hb dX12_ear_16 rfl (lv_at hl 0 rfl) ?_
      refine va_get (D := (dC, dI)) (ci := 12) (v := .ref ((mmR 50))) (C := RX12) (T := TX12) (N := 70) hx hb hts hinX12 hown hK hP 0 rfl rfl 50 (by decide) hw0 (fun _ h9 => h9) rfl dX12_ear_17 ?_
      refine lv_iload_n hx hb dX12_ear_20 rfl (lv_at hl 1 rfl) ?_
      refine xq_iald hx hb hK hP 2 0 rfl rfl hf dX12_ear_21 (fun v_8 hf => ?_)
      refine lv_goto (tgt := 82) hx hb dX12_ear_22 (by decide) ?_
      have e9 := Option.some.inj hf
      have e9_0 : v_8 = r0 := congrArg (fun t => t.1) e9
      have e9_1 : mm_askedF = r1 := congrArg (fun t => t.2.1) e9
      have e9_2 : mm_stackL = r2 := congrArg (fun t => t.2.2) e9
      clear e9 hf
      subst e9_0
      subst e9_1
      subst e9_2
      exact xq_iret hx hb hr hlocks hK hP hD hS dX12_ear_82
  · have hf := xq_pos hf c_
    refine lv_iconst (v := (-1)) hx hb dX12_ear_8 (by decide) ?_
    refine lv_goto (tgt := 82) hx hb dX12_ear_9 (by decide) ?_
    have e9 := Option.some.inj hf
    have e9_0 : (-1) = r0 := congrArg (fun t => t.1) e9
    have e9_1 : mm_askedF = r1 := congrArg (fun t => t.2.1) e9
    have e9_2 : mm_stackL = r2 := congrArg (fun t => t.2.2) e9
    clear e9 hf
    subst e9_0
    subst e9_1
    subst e9_2
    exact xq_iret hx hb hr hlocks hK hP hD hS dX12_ear_82
set_option maxRecDepth 20000 in
theorem ggX12_place_X12_isPlace : GoodIn wsX12_place wsX12_isPlace := goodIn_r _ [9, 10, 2, 44, 45, 46, 47, 48, 49, 50, 51, 52, 53, 54, 55, 56, 57, 58, 59, 60, 61, 62, 63, 64, 65, 66, 67, 68, 69, 70, 71, 72, 73, 74, 75, 76, 77, 78, 79, 80, 81, 82, 83, 84, 85, 86, 87, 88, 89, 90, 91, 92, 93, 94, 95, 96, 97, 98, 99, 100, 101, 102, 103, 104, 105, 106, 107, 108, 109, 110, 111, 112, 113] rfl (by decide +kernel)
set_option maxRecDepth 20000 in
theorem gX12_place_X12_isPlace : GoodIn wsX12_place (wsV RX12 457 RX12 yX12_isPlace wsX12_isPlace) := goodIn_app (goodIn_of _ (by decide +kernel)) ggX12_place_X12_isPlace
set_option maxRecDepth 20000 in
theorem ggX12_place_X12_talkAt : GoodIn wsX12_place wsX12_talkAt := goodIn_r _ [14, 3, 15, 16, 17, 18, 19, 8, 20, 21, 2, 22, 23, 24, 25, 26, 27, 28, 29, 30, 31, 32, 33, 34, 35, 36, 37, 38, 39, 40, 41, 42, 43, 44, 45, 46, 47, 48, 49, 50, 51, 52, 53, 54, 55, 56, 57, 58, 59, 60, 61, 62, 63, 64, 65, 66, 67, 68, 69, 70, 71, 72, 73, 74, 75, 76, 77, 78, 79, 80, 81, 82, 83, 84, 85, 86, 87, 88, 89, 90, 91, 92, 93, 94, 95, 96, 97, 98, 99, 100, 101, 102, 103, 104, 105, 106, 107, 108, 109, 110, 111, 112, 113] rfl (by decide +kernel)
set_option maxRecDepth 20000 in
theorem gX12_place_X12_talkAt : GoodIn wsX12_place (wsV RX12 433 RX12 yX12_talkAt wsX12_talkAt) := goodIn_app (goodIn_of _ (by decide +kernel)) ggX12_place_X12_talkAt
def dsX12_place_0 : List (Nat × Instr × Nat) := [(0, (.aload_n 0, 1)), (1, (.iload_n 1, 1)), (2, (.invokevirtual 457, 3)), (5, (.ifCond .ne 7, 3)), (8, (.iconst (-1), 1)), (9, (.goto 59, 3)), (12, (.iload_n 2, 1)), (13, (.ifCond .ne 20, 3)), (16, (.aload_n 0, 1)), (17, (.getfield 78, 3)), (20, (.bipush 6, 2)), (22, (.aload_n 0, 1)), (23, (.getfield 51, 3)), (26, (.imul, 1)), (27, (.iload_n 1, 1)), (28, (.iadd, 1)), (29, (.iaload, 1)), (30, (.goto 38, 3)), (33, (.iload_n 2, 1)), (34, (.iconst 1, 1)), (35, (.if_icmp .ne 12, 3)), (38, (.aload_n 0, 1)), (39, (.getfield 168, 3)), (42, (.iload_n 1, 1)), (43, (.iaload, 1)), (44, (.goto 24, 3)), (47, (.iload_n 2, 1)), (48, (.iconst 2, 1)), (49, (.if_icmp .ne 18, 3)), (52, (.aload_n 0, 1)), (53, (.iconst 0, 1)), (54, (.iload_n 1, 1)), (55, (.aload_n 0, 1)), (56, (.getfield 162, 3)), (59, (.iconst 0, 1)), (60, (.iaload, 1)), (61, (.invokevirtual 433, 3)), (64, (.goto 4, 3)), (67, (.iconst (-1), 1)), (68, (.ireturn, 1))]
theorem dsX12_place_0_ok : (dsX12_place_0.all fun q => decide (decode cX12_place q.1 = .ok q.2)) = true := by decide +kernel
theorem dX12_place_0 : decode cX12_place 0 = .ok (.aload_n 0, 1) := of_decide_eq_true (List.all_eq_true.mp dsX12_place_0_ok (0, (.aload_n 0, 1)) (List.mem_of_getElem? (i := 0) rfl))
theorem dX12_place_1 : decode cX12_place 1 = .ok (.iload_n 1, 1) := of_decide_eq_true (List.all_eq_true.mp dsX12_place_0_ok (1, (.iload_n 1, 1)) (List.mem_of_getElem? (i := 1) rfl))
theorem dX12_place_2 : decode cX12_place 2 = .ok (.invokevirtual 457, 3) := of_decide_eq_true (List.all_eq_true.mp dsX12_place_0_ok (2, (.invokevirtual 457, 3)) (List.mem_of_getElem? (i := 2) rfl))
theorem dX12_place_5 : decode cX12_place 5 = .ok (.ifCond .ne 7, 3) := of_decide_eq_true (List.all_eq_true.mp dsX12_place_0_ok (5, (.ifCond .ne 7, 3)) (List.mem_of_getElem? (i := 3) rfl))
theorem dX12_place_8 : decode cX12_place 8 = .ok (.iconst (-1), 1) := of_decide_eq_true (List.all_eq_true.mp dsX12_place_0_ok (8, (.iconst (-1), 1)) (List.mem_of_getElem? (i := 4) rfl))
theorem dX12_place_9 : decode cX12_place 9 = .ok (.goto 59, 3) := of_decide_eq_true (List.all_eq_true.mp dsX12_place_0_ok (9, (.goto 59, 3)) (List.mem_of_getElem? (i := 5) rfl))
theorem dX12_place_12 : decode cX12_place 12 = .ok (.iload_n 2, 1) := of_decide_eq_true (List.all_eq_true.mp dsX12_place_0_ok (12, (.iload_n 2, 1)) (List.mem_of_getElem? (i := 6) rfl))
theorem dX12_place_13 : decode cX12_place 13 = .ok (.ifCond .ne 20, 3) := of_decide_eq_true (List.all_eq_true.mp dsX12_place_0_ok (13, (.ifCond .ne 20, 3)) (List.mem_of_getElem? (i := 7) rfl))
theorem dX12_place_16 : decode cX12_place 16 = .ok (.aload_n 0, 1) := of_decide_eq_true (List.all_eq_true.mp dsX12_place_0_ok (16, (.aload_n 0, 1)) (List.mem_of_getElem? (i := 8) rfl))
theorem dX12_place_17 : decode cX12_place 17 = .ok (.getfield 78, 3) := of_decide_eq_true (List.all_eq_true.mp dsX12_place_0_ok (17, (.getfield 78, 3)) (List.mem_of_getElem? (i := 9) rfl))
theorem dX12_place_20 : decode cX12_place 20 = .ok (.bipush 6, 2) := of_decide_eq_true (List.all_eq_true.mp dsX12_place_0_ok (20, (.bipush 6, 2)) (List.mem_of_getElem? (i := 10) rfl))
theorem dX12_place_22 : decode cX12_place 22 = .ok (.aload_n 0, 1) := of_decide_eq_true (List.all_eq_true.mp dsX12_place_0_ok (22, (.aload_n 0, 1)) (List.mem_of_getElem? (i := 11) rfl))
theorem dX12_place_23 : decode cX12_place 23 = .ok (.getfield 51, 3) := of_decide_eq_true (List.all_eq_true.mp dsX12_place_0_ok (23, (.getfield 51, 3)) (List.mem_of_getElem? (i := 12) rfl))
theorem dX12_place_26 : decode cX12_place 26 = .ok (.imul, 1) := of_decide_eq_true (List.all_eq_true.mp dsX12_place_0_ok (26, (.imul, 1)) (List.mem_of_getElem? (i := 13) rfl))
theorem dX12_place_27 : decode cX12_place 27 = .ok (.iload_n 1, 1) := of_decide_eq_true (List.all_eq_true.mp dsX12_place_0_ok (27, (.iload_n 1, 1)) (List.mem_of_getElem? (i := 14) rfl))
theorem dX12_place_28 : decode cX12_place 28 = .ok (.iadd, 1) := of_decide_eq_true (List.all_eq_true.mp dsX12_place_0_ok (28, (.iadd, 1)) (List.mem_of_getElem? (i := 15) rfl))
theorem dX12_place_29 : decode cX12_place 29 = .ok (.iaload, 1) := of_decide_eq_true (List.all_eq_true.mp dsX12_place_0_ok (29, (.iaload, 1)) (List.mem_of_getElem? (i := 16) rfl))
theorem dX12_place_30 : decode cX12_place 30 = .ok (.goto 38, 3) := of_decide_eq_true (List.all_eq_true.mp dsX12_place_0_ok (30, (.goto 38, 3)) (List.mem_of_getElem? (i := 17) rfl))
theorem dX12_place_33 : decode cX12_place 33 = .ok (.iload_n 2, 1) := of_decide_eq_true (List.all_eq_true.mp dsX12_place_0_ok (33, (.iload_n 2, 1)) (List.mem_of_getElem? (i := 18) rfl))
theorem dX12_place_34 : decode cX12_place 34 = .ok (.iconst 1, 1) := of_decide_eq_true (List.all_eq_true.mp dsX12_place_0_ok (34, (.iconst 1, 1)) (List.mem_of_getElem? (i := 19) rfl))
theorem dX12_place_35 : decode cX12_place 35 = .ok (.if_icmp .ne 12, 3) := of_decide_eq_true (List.all_eq_true.mp dsX12_place_0_ok (35, (.if_icmp .ne 12, 3)) (List.mem_of_getElem? (i := 20) rfl))
theorem dX12_place_38 : decode cX12_place 38 = .ok (.aload_n 0, 1) := of_decide_eq_true (List.all_eq_true.mp dsX12_place_0_ok (38, (.aload_n 0, 1)) (List.mem_of_getElem? (i := 21) rfl))
theorem dX12_place_39 : decode cX12_place 39 = .ok (.getfield 168, 3) := of_decide_eq_true (List.all_eq_true.mp dsX12_place_0_ok (39, (.getfield 168, 3)) (List.mem_of_getElem? (i := 22) rfl))
theorem dX12_place_42 : decode cX12_place 42 = .ok (.iload_n 1, 1) := of_decide_eq_true (List.all_eq_true.mp dsX12_place_0_ok (42, (.iload_n 1, 1)) (List.mem_of_getElem? (i := 23) rfl))
theorem dX12_place_43 : decode cX12_place 43 = .ok (.iaload, 1) := of_decide_eq_true (List.all_eq_true.mp dsX12_place_0_ok (43, (.iaload, 1)) (List.mem_of_getElem? (i := 24) rfl))
theorem dX12_place_44 : decode cX12_place 44 = .ok (.goto 24, 3) := of_decide_eq_true (List.all_eq_true.mp dsX12_place_0_ok (44, (.goto 24, 3)) (List.mem_of_getElem? (i := 25) rfl))
theorem dX12_place_47 : decode cX12_place 47 = .ok (.iload_n 2, 1) := of_decide_eq_true (List.all_eq_true.mp dsX12_place_0_ok (47, (.iload_n 2, 1)) (List.mem_of_getElem? (i := 26) rfl))
theorem dX12_place_48 : decode cX12_place 48 = .ok (.iconst 2, 1) := of_decide_eq_true (List.all_eq_true.mp dsX12_place_0_ok (48, (.iconst 2, 1)) (List.mem_of_getElem? (i := 27) rfl))
theorem dX12_place_49 : decode cX12_place 49 = .ok (.if_icmp .ne 18, 3) := of_decide_eq_true (List.all_eq_true.mp dsX12_place_0_ok (49, (.if_icmp .ne 18, 3)) (List.mem_of_getElem? (i := 28) rfl))
theorem dX12_place_52 : decode cX12_place 52 = .ok (.aload_n 0, 1) := of_decide_eq_true (List.all_eq_true.mp dsX12_place_0_ok (52, (.aload_n 0, 1)) (List.mem_of_getElem? (i := 29) rfl))
theorem dX12_place_53 : decode cX12_place 53 = .ok (.iconst 0, 1) := of_decide_eq_true (List.all_eq_true.mp dsX12_place_0_ok (53, (.iconst 0, 1)) (List.mem_of_getElem? (i := 30) rfl))
theorem dX12_place_54 : decode cX12_place 54 = .ok (.iload_n 1, 1) := of_decide_eq_true (List.all_eq_true.mp dsX12_place_0_ok (54, (.iload_n 1, 1)) (List.mem_of_getElem? (i := 31) rfl))
theorem dX12_place_55 : decode cX12_place 55 = .ok (.aload_n 0, 1) := of_decide_eq_true (List.all_eq_true.mp dsX12_place_0_ok (55, (.aload_n 0, 1)) (List.mem_of_getElem? (i := 32) rfl))
theorem dX12_place_56 : decode cX12_place 56 = .ok (.getfield 162, 3) := of_decide_eq_true (List.all_eq_true.mp dsX12_place_0_ok (56, (.getfield 162, 3)) (List.mem_of_getElem? (i := 33) rfl))
theorem dX12_place_59 : decode cX12_place 59 = .ok (.iconst 0, 1) := of_decide_eq_true (List.all_eq_true.mp dsX12_place_0_ok (59, (.iconst 0, 1)) (List.mem_of_getElem? (i := 34) rfl))
theorem dX12_place_60 : decode cX12_place 60 = .ok (.iaload, 1) := of_decide_eq_true (List.all_eq_true.mp dsX12_place_0_ok (60, (.iaload, 1)) (List.mem_of_getElem? (i := 35) rfl))
theorem dX12_place_61 : decode cX12_place 61 = .ok (.invokevirtual 433, 3) := of_decide_eq_true (List.all_eq_true.mp dsX12_place_0_ok (61, (.invokevirtual 433, 3)) (List.mem_of_getElem? (i := 36) rfl))
theorem dX12_place_64 : decode cX12_place 64 = .ok (.goto 4, 3) := of_decide_eq_true (List.all_eq_true.mp dsX12_place_0_ok (64, (.goto 4, 3)) (List.mem_of_getElem? (i := 37) rfl))
theorem dX12_place_67 : decode cX12_place 67 = .ok (.iconst (-1), 1) := of_decide_eq_true (List.all_eq_true.mp dsX12_place_0_ok (67, (.iconst (-1), 1)) (List.mem_of_getElem? (i := 38) rfl))
theorem dX12_place_68 : decode cX12_place 68 = .ok (.ireturn, 1) := of_decide_eq_true (List.all_eq_true.mp dsX12_place_0_ok (68, (.ireturn, 1)) (List.mem_of_getElem? (i := 39) rfl))
def fX12_place (N : Nat) (mmI : Nat → Int32) (mm_placesF : Nat → Int32) (mm_hushOfF : Nat → Int32) (mm_talkOfF : Nat → Int32) (mm_sumFromF : Nat → Int32) (mm_nightOfF : Nat → Int32) (mm_askedF : Nat → Int32) (mm_sumBehindF : Nat → Int32) (mm_stackL : Nat → Int64) (mm_codeSortF : Nat → Int32) (mm_codeValueF : Nat → Int32) (mm_placeAtF : Nat → Int32)  (p1 : Int32) (p2 : Int32) : Option (Int32 × (Nat → Int32) × (Nat → Int64)) :=
  (xq_bd (fX12_isPlace N mmI mm_placesF p1) fun r_1 => (if r_1 = 0 then some (((-1), mm_askedF, mm_stackL)) else (if p2 = 0 then (xq_bd (xq_ald 12 mm_placeAtF ((6 * (mmI 13)) + p1)) fun v_7 => some ((v_7, mm_askedF, mm_stackL))) else (if p2 = 1 then (xq_bd (xq_ald 132 mm_talkOfF p1) fun v_6 => some ((v_6, mm_askedF, mm_stackL))) else (if p2 = 2 then (xq_bd (xq_ald 22 mm_hushOfF 0) fun v_3 => (xq_bd (fX12_talkAt N mmI mm_talkOfF mm_sumFromF mm_nightOfF mm_askedF mm_sumBehindF mm_stackL mm_codeSortF mm_codeValueF 0 p1 v_3) fun (r_4_0, r_4_1, r_4_2) => some ((r_4_0, r_4_1, r_4_2)))) else some (((-1), mm_askedF, mm_stackL)))))))
set_option maxHeartbeats 4000000 in
set_option maxRecDepth 100000 in
theorem kX12_place (l : Launch) (dC : Nat → ClassId) (dI : Nat → Nat → Nat) (cI cB cJ cZ cM : ClassId) (z : Nat) (ad : Nat → Nat) (N : Nat) (a_p0 : Nat) (mmI : Nat → Int32) (mmJ : Nat → Int64) (mmR : Nat → Nat) (mm_placesF : Nat → Int32) (mm_hushOfF : Nat → Int32) (mm_talkOfF : Nat → Int32) (mm_sumFromF : Nat → Int32) (mm_nightOfF : Nat → Int32) (mm_askedF : Nat → Int32) (mm_sumBehindF : Nat → Int32) (mm_stackL : Nat → Int64) (mm_codeSortF : Nat → Int32) (mm_codeValueF : Nat → Int32) (mm_placeAtF : Nat → Int32) (p1 : Int32) (p2 : Int32) {r0 : Int32} {r1 : Nat → Int32} {r2 : Nat → Int64} (hf : fX12_place N mmI mm_placesF mm_hushOfF mm_talkOfF mm_sumFromF mm_nightOfF mm_askedF mm_sumBehindF mm_stackL mm_codeSortF mm_codeValueF mm_placeAtF p1 p2 = some (r0, r1, r2)) : xq_Ct l yX12_place wsX12_place { frames := 4, cells := 0, slots := 0, locals := 97 } (dC, dI) vwCl (xq_tys cI cB cJ cZ cM) z ad [.ref a_p0, .int p1, .int p2] [(a_p0, .inr (12, oX12 mmI mmJ mmR)), ((mmR 21), .inl (cI, 2, .inl mm_placesF)), ((mmR 49), .inl (cI, 22, .inl mm_hushOfF)), ((mmR 51), .inl (cI, 132, .inl mm_talkOfF)), ((mmR 24), .inl (cI, 6, .inl mm_sumFromF)), ((mmR 45), .inl (cI, 22, .inl mm_nightOfF)), ((mmR 58), .inl (cI, 12, .inl mm_askedF)), ((mmR 25), .inl (cI, 6, .inl mm_sumBehindF)), ((mmR 57), .inl (cJ, 500, .inr (.inl mm_stackL))), ((mmR 26), .inl (cI, 3200, .inl mm_codeSortF)), ((mmR 27), .inl (cI, 3200, .inl mm_codeValueF)), ((mmR 22), .inl (cI, 12, .inl mm_placeAtF))] [(a_p0, .inr (12, oX12 mmI mmJ mmR)), ((mmR 21), .inl (cI, 2, .inl mm_placesF)), ((mmR 49), .inl (cI, 22, .inl mm_hushOfF)), ((mmR 51), .inl (cI, 132, .inl mm_talkOfF)), ((mmR 24), .inl (cI, 6, .inl mm_sumFromF)), ((mmR 45), .inl (cI, 22, .inl mm_nightOfF)), ((mmR 58), .inl (cI, 12, .inl r1)), ((mmR 25), .inl (cI, 6, .inl mm_sumBehindF)), ((mmR 57), .inl (cJ, 500, .inr (.inl r2))), ((mmR 26), .inl (cI, 3200, .inl mm_codeSortF)), ((mmR 27), .inl (cI, 3200, .inl mm_codeValueF)), ((mmR 22), .inl (cI, 12, .inl mm_placeAtF))] (some (.int r0)) := by
  intro sz
  refine Met.ofW (cc := cX12_place) (maxL := 3) (ret := (some .int)) (by decide) rfl ?_
  intro p e s m args below meth c s₁ B hml hv
  obtain ⟨rfl, hsz, hP, hK, hD0, hE, hz⟩ := hv
  have hx := B.exec
  have hb := B.bytes
  have hr := B.returns
  have hts := atoms_spec (ws := wsX12_place) B.pre
  have hown : s.vm.findClass RX12 = some m.cls := findClass_of_methodNamed B.named
  have hlocks := B.notSynchronized
  subst hsz
  have hD := hD0.self (sz := s.heap.size)
  have hN := xq_Env.of hE hz hD0
  generalize hAe : va_A [(a_p0, .inr (12, oX12 mmI mmJ mmR)), ((mmR 21), .inl (cI, 2, .inl mm_placesF)), ((mmR 49), .inl (cI, 22, .inl mm_hushOfF)), ((mmR 51), .inl (cI, 132, .inl mm_talkOfF)), ((mmR 24), .inl (cI, 6, .inl mm_sumFromF)), ((mmR 45), .inl (cI, 22, .inl mm_nightOfF)), ((mmR 58), .inl (cI, 12, .inl mm_askedF)), ((mmR 25), .inl (cI, 6, .inl mm_sumBehindF)), ((mmR 57), .inl (cJ, 500, .inr (.inl mm_stackL))), ((mmR 26), .inl (cI, 3200, .inl mm_codeSortF)), ((mmR 27), .inl (cI, 3200, .inl mm_codeValueF)), ((mmR 22), .inl (cI, 12, .inl mm_placeAtF))] s.heap.size = A at hD hN ⊢
  have hA : ∀ q : Nat, s.heap.size ≤ q → A q := fun q h => by rw [← hAe]; exact Or.inr h
  clear hAe hD0
  have hS : va_S A s.heap s.heap [] := va_S.rf
  have hl := lv_entry ([.ref a_p0, .int p1, .int p2]) (n := 3) (Nat.le_of_ble_eq_true rfl)
  rw [lg_entry_eq]
  generalize (lg_sl ([.ref a_p0, .int p1, .int p2]) ++ List.replicate (3 - (lg_sl ([.ref a_p0, .int p1, .int p2])).length) Slot.unset).toArray = ls at hl ⊢
  have hl : lv_has ls 3 [(0, .ref a_p0), (1, .int p1), (2, .int p2)] := hl
  have hw0 := hts (.fieldLink RX12 162 "DistantVoiceModel" "hushOf" "[I") (by decide +kernel)
  have hinX12 : ∀ w ∈ wsX120, w ∈ wsX12_place := fun w h => List.mem_cons_of_mem _ (List.mem_append_right _ h)
  have hw2 := hts (.fieldLink RX12 168 "DistantVoiceModel" "talkOf" "[I") (by decide +kernel)
  have hw3 := hts (.fieldLink RX12 78 "DistantVoiceModel" "placeAt" "[I") (by decide +kernel)
  have hw4 := hts (.fieldLink RX12 51 "DistantVoiceModel" "bank" "I") (by decide +kernel)
  unfold fX12_place at hf
  refine lv_aload_n hx hb dX12_place_0 rfl (lv_at hl 0 rfl) ?_
  refine lv_iload_n hx hb dX12_place_1 rfl (lv_at hl 1 rfl) ?_
  obtain ⟨r_1, h_2, hf⟩ := xq_bd_some hf
  refine xq_callV (As := [.int p1]) (rest := []) (ci := 12) (q0 := 0) ⟨hx, hb, hml, hown, hts⟩ (kX12_isPlace l dC dI cI cB cJ cZ cM z ad N a_p0 mmI mmJ mmR mm_placesF p1 h_2) (cwV 1 hts gX12_place_X12_isPlace rfl rfl rfl (by decide +kernel) ⟨Nat.le_of_ble_eq_true rfl, Nat.le_of_ble_eq_true rfl⟩) hN hK hP hD hS hA [0, 1] (by decide) rfl rfl rfl rfl rfl rfl hl.1 rfl (Nat.le_of_ble_eq_true rfl) dX12_place_2 ⟨Nat.zero_le _, Nat.zero_le _⟩ (fun H locs hP hD hS => ?_)
  have hP : va_P (dC, dI) vwCl [(a_p0, .inr (12, oX12 mmI mmJ mmR)), ((mmR 21), .inl (cI, 2, .inl mm_placesF)), ((mmR 49), .inl (cI, 22, .inl mm_hushOfF)), ((mmR 51), .inl (cI, 132, .inl mm_talkOfF)), ((mmR 24), .inl (cI, 6, .inl mm_sumFromF)), ((mmR 45), .inl (cI, 22, .inl mm_nightOfF)), ((mmR 58), .inl (cI, 12, .inl mm_askedF)), ((mmR 25), .inl (cI, 6, .inl mm_sumBehindF)), ((mmR 57), .inl (cJ, 500, .inr (.inl mm_stackL))), ((mmR 26), .inl (cI, 3200, .inl mm_codeSortF)), ((mmR 27), .inl (cI, 3200, .inl mm_codeValueF)), ((mmR 22), .inl (cI, 12, .inl mm_placeAtF))] H := hP
  have hD : va_D A [(a_p0, .inr (12, oX12 mmI mmJ mmR)), ((mmR 21), .inl (cI, 2, .inl mm_placesF)), ((mmR 49), .inl (cI, 22, .inl mm_hushOfF)), ((mmR 51), .inl (cI, 132, .inl mm_talkOfF)), ((mmR 24), .inl (cI, 6, .inl mm_sumFromF)), ((mmR 45), .inl (cI, 22, .inl mm_nightOfF)), ((mmR 58), .inl (cI, 12, .inl mm_askedF)), ((mmR 25), .inl (cI, 6, .inl mm_sumBehindF)), ((mmR 57), .inl (cJ, 500, .inr (.inl mm_stackL))), ((mmR 26), .inl (cI, 3200, .inl mm_codeSortF)), ((mmR 27), .inl (cI, 3200, .inl mm_codeValueF)), ((mmR 22), .inl (cI, 12, .inl mm_placeAtF))] := hD
  refine W.eq (g2 := F0 m 5 ls [.int r_1]) rfl ?_
  refine lv_if_ne (tgt := 12) hx hb dX12_place_5 (by decide) (fun c_ => ?_) (fun c_ => ?_)
  · have hf := xq_neg hf c_
    refine lv_iload_n hx hb dX12_place_12 rfl (lv_at hl 2 rfl) ?_
    refine lv_if_ne (tgt := 33) hx hb dX12_place_13 (by decide) (fun c_ => ?_) (fun c_ => ?_)
    · have hf := xq_neg hf c_
      refine lv_iload_n hx hb dX12_place_33 rfl (lv_at hl 2 rfl) ?_
      refine lv_iconst (v := 1) hx hb dX12_place_34 (by decide) ?_
      refine lv_icmp_ne (tgt := 47) hx hb dX12_place_35 (by decide) (fun c_ => ?_) (fun c_ => ?_)
      · have hf := xq_neg hf c_
        refine lv_iload_n hx hb dX12_place_47 rfl (lv_at hl 2 rfl) ?_
        refine lv_iconst (v := 2) hx hb dX12_place_48 (by decide) ?_
        refine lv_icmp_ne (tgt := 67) hx hb dX12_place_49 (by decide) (fun c_ => ?_) (fun c_ => ?_)
        · have hf := xq_neg hf c_
          refine lv_iconst (v := (-1)) hx hb dX12_place_67 (by decide) ?_
          have e9 := Option.some.inj hf
          have e9_0 : (-1) = r0 := congrArg (fun t => t.1) e9
          have e9_1 : mm_askedF = r1 := congrArg (fun t => t.2.1) e9
          have e9_2 : mm_stackL = r2 := congrArg (fun t => t.2.2) e9
          clear e9 hf
          subst e9_0
          subst e9_1
          subst e9_2
          exact xq_iret hx hb hr hlocks hK hP hD hS dX12_place_68
        · have hf := xq_pos hf c_
          refine lv_aload_n hx hb dX12_place_52 rfl (lv_at hl 0 rfl) ?_
          refine lv_iconst (v := 0) hx hb dX12_place_53 (by decide) ?_
          refine lv_iload_n hx hb dX12_place_54 rfl (lv_at hl 1 rfl) ?_
          refine lv_aload_n hx hb dX12_place_55 rfl (lv_at hl 0 rfl) ?_
          refine va_get (D := (dC, dI)) (ci := 12) (v := .ref ((mmR 49))) (C := RX12) (T := TX12) (N := 70) hx hb hts hinX12 hown hK hP 0 rfl rfl 49 (by decide) hw0 (fun _ h9 => h9) rfl dX12_place_56 ?_
          refine lv_iconst (v := 0) hx hb dX12_place_59 (by decide) ?_
          refine xq_iald hx hb hK hP 2 0 rfl rfl hf dX12_place_60 (fun v_3 hf => ?_)
          obtain ⟨⟨r_4_0, r_4_1, r_4_2⟩, h_5, hf⟩ := xq_bd_some hf
          refine xq_callV (As := [.int 0, .int p1, .int v_3]) (rest := []) (ci := 12) (q0 := 0) ⟨hx, hb, hml, hown, hts⟩ (kX12_talkAt l dC dI cI cB cJ cZ cM z ad N a_p0 mmI mmJ mmR mm_talkOfF mm_sumFromF mm_nightOfF mm_askedF mm_sumBehindF mm_stackL mm_codeSortF mm_codeValueF 0 p1 v_3 h_5) (cwV 3 hts gX12_place_X12_talkAt rfl rfl rfl (by decide +kernel) ⟨Nat.le_of_ble_eq_true rfl, Nat.le_of_ble_eq_true rfl⟩) hN hK hP hD hS hA [0, 3, 4, 5, 6, 7, 8, 9, 10] (by decide) rfl rfl rfl rfl rfl rfl hl.1 rfl (Nat.le_of_ble_eq_true rfl) dX12_place_61 ⟨Nat.zero_le _, Nat.zero_le _⟩ (fun H locs hP hD hS => ?_)
          have hP : va_P (dC, dI) vwCl [(a_p0, .inr (12, oX12 mmI mmJ mmR)), ((mmR 21), .inl (cI, 2, .inl mm_placesF)), ((mmR 49), .inl (cI, 22, .inl mm_hushOfF)), ((mmR 51), .inl (cI, 132, .inl mm_talkOfF)), ((mmR 24), .inl (cI, 6, .inl mm_sumFromF)), ((mmR 45), .inl (cI, 22, .inl mm_nightOfF)), ((mmR 58), .inl (cI, 12, .inl r_4_1)), ((mmR 25), .inl (cI, 6, .inl mm_sumBehindF)), ((mmR 57), .inl (cJ, 500, .inr (.inl r_4_2))), ((mmR 26), .inl (cI, 3200, .inl mm_codeSortF)), ((mmR 27), .inl (cI, 3200, .inl mm_codeValueF)), ((mmR 22), .inl (cI, 12, .inl mm_placeAtF))] H := hP
          have hD : va_D A [(a_p0, .inr (12, oX12 mmI mmJ mmR)), ((mmR 21), .inl (cI, 2, .inl mm_placesF)), ((mmR 49), .inl (cI, 22, .inl mm_hushOfF)), ((mmR 51), .inl (cI, 132, .inl mm_talkOfF)), ((mmR 24), .inl (cI, 6, .inl mm_sumFromF)), ((mmR 45), .inl (cI, 22, .inl mm_nightOfF)), ((mmR 58), .inl (cI, 12, .inl r_4_1)), ((mmR 25), .inl (cI, 6, .inl mm_sumBehindF)), ((mmR 57), .inl (cJ, 500, .inr (.inl r_4_2))), ((mmR 26), .inl (cI, 3200, .inl mm_codeSortF)), ((mmR 27), .inl (cI, 3200, .inl mm_codeValueF)), ((mmR 22), .inl (cI, 12, .inl mm_placeAtF))] := hD
          refine W.eq (g2 := F0 m 64 ls [.int r_4_0]) rfl ?_
          refine lv_goto (tgt := 68) hx hb dX12_place_64 (by decide) ?_
          have e9 := Option.some.inj hf
          have e9_0 : r_4_0 = r0 := congrArg (fun t => t.1) e9
          have e9_1 : r_4_1 = r1 := congrArg (fun t => t.2.1) e9
          have e9_2 : r_4_2 = r2 := congrArg (fun t => t.2.2) e9
          clear e9 hf
          subst e9_0
          subst e9_1
          subst e9_2
          exact xq_iret hx hb hr hlocks hK hP hD hS dX12_place_68
      · have hf := xq_pos hf c_
        refine lv_aload_n hx hb dX12_place_38 rfl (lv_at hl 0 rfl) ?_
        refine va_get (D := (dC, dI)) (ci := 12) (v := .ref ((mmR 51))) (C := RX12) (T := TX12) (N := 70) hx hb hts hinX12 hown hK hP 0 rfl rfl 51 (by decide) hw2 (fun _ h9 => h9) rfl dX12_place_39 ?_
        refine lv_iload_n hx hb dX12_place_42 rfl (lv_at hl 1 rfl) ?_
        refine xq_iald hx hb hK hP 3 0 rfl rfl hf dX12_place_43 (fun v_6 hf => ?_)
        refine lv_goto (tgt := 68) hx hb dX12_place_44 (by decide) ?_
        have e9 := Option.some.inj hf
        have e9_0 : v_6 = r0 := congrArg (fun t => t.1) e9
        have e9_1 : mm_askedF = r1 := congrArg (fun t => t.2.1) e9
        have e9_2 : mm_stackL = r2 := congrArg (fun t => t.2.2) e9
        clear e9 hf
        subst e9_0
        subst e9_1
        subst e9_2
        exact xq_iret hx hb hr hlocks hK hP hD hS dX12_place_68
    · have hf := xq_pos hf c_
      refine lv_aload_n hx hb dX12_place_16 rfl (lv_at hl 0 rfl) ?_
      refine va_get (D := (dC, dI)) (ci := 12) (v := .ref ((mmR 22))) (C := RX12) (T := TX12) (N := 70) hx hb hts hinX12 hown hK hP 0 rfl rfl 22 (by decide) hw3 (fun _ h9 => h9) rfl dX12_place_17 ?_
      refine lv_bipush (v := 6) hx hb dX12_place_20 (by decide) ?_
      refine lv_aload_n hx hb dX12_place_22 rfl (lv_at hl 0 rfl) ?_
      refine va_get (D := (dC, dI)) (ci := 12) (v := .int (mmI 13)) (C := RX12) (T := TX12) (N := 70) hx hb hts hinX12 hown hK hP 0 rfl rfl 13 (by decide) hw4 (fun _ h9 => h9) rfl dX12_place_23 ?_
      refine lv_imul hx hb dX12_place_26 ?_
      refine lv_iload_n hx hb dX12_place_27 rfl (lv_at hl 1 rfl) ?_
      refine lv_iadd hx hb dX12_place_28 ?_
      refine xq_iald hx hb hK hP 11 0 rfl rfl hf dX12_place_29 (fun v_7 hf => ?_)
      refine lv_goto (tgt := 68) hx hb dX12_place_30 (by decide) ?_
      have e9 := Option.some.inj hf
      have e9_0 : v_7 = r0 := congrArg (fun t => t.1) e9
      have e9_1 : mm_askedF = r1 := congrArg (fun t => t.2.1) e9
      have e9_2 : mm_stackL = r2 := congrArg (fun t => t.2.2) e9
      clear e9 hf
      subst e9_0
      subst e9_1
      subst e9_2
      exact xq_iret hx hb hr hlocks hK hP hD hS dX12_place_68
  · have hf := xq_pos hf c_
    refine lv_iconst (v := (-1)) hx hb dX12_place_8 (by decide) ?_
    refine lv_goto (tgt := 68) hx hb dX12_place_9 (by decide) ?_
    have e9 := Option.some.inj hf
    have e9_0 : (-1) = r0 := congrArg (fun t => t.1) e9
    have e9_1 : mm_askedF = r1 := congrArg (fun t => t.2.1) e9
    have e9_2 : mm_stackL = r2 := congrArg (fun t => t.2.2) e9
    clear e9 hf
    subst e9_0
    subst e9_1
    subst e9_2
    exact xq_iret hx hb hr hlocks hK hP hD hS dX12_place_68
set_option maxRecDepth 20000 in
theorem ggX12_stride_X12_strideOf : GoodIn wsX12_stride wsX12_strideOf := goodIn_r _ [7, 8, 9, 10, 11, 12, 13, 14, 6, 15, 16, 17, 18, 19, 20, 21, 22, 23, 24, 25, 26, 27, 28, 29, 30, 31, 32, 33, 34, 35, 36, 37, 38, 39, 40, 41, 42, 43, 44, 45, 46, 47, 48, 49, 50, 51, 52, 53, 54, 55, 56, 57, 58, 59, 60, 61, 62, 63, 64, 65, 66, 67, 68, 69, 70, 71, 72, 73, 74, 75, 76, 77, 78, 79, 80, 81, 82, 83, 84, 85, 86, 87, 88, 89, 90, 91, 92, 93, 94, 95, 96, 97, 98, 99, 100, 101, 102, 103, 104, 105, 106, 107, 108, 109] rfl (by decide +kernel)
set_option maxRecDepth 20000 in
theorem gX12_stride_X12_strideOf : GoodIn wsX12_stride (wsV RX12 427 RX12 yX12_strideOf wsX12_strideOf) := goodIn_app (goodIn_of _ (by decide +kernel)) ggX12_stride_X12_strideOf
def dsX12_stride_0 : List (Nat × Instr × Nat) := [(0, (.aload_n 0, 1)), (1, (.getfield 144, 3)), (4, (.ifCond .eq 17, 3)), (7, (.aload_n 0, 1)), (8, (.iconst 0, 1)), (9, (.aload_n 0, 1)), (10, (.getfield 162, 3)), (13, (.iconst 0, 1)), (14, (.iaload, 1)), (15, (.invokevirtual 427, 3)), (18, (.goto 4, 3)), (21, (.iconst (-1), 1)), (22, (.ireturn, 1))]
theorem dsX12_stride_0_ok : (dsX12_stride_0.all fun q => decide (decode cX12_stride q.1 = .ok q.2)) = true := by decide +kernel
theorem dX12_stride_0 : decode cX12_stride 0 = .ok (.aload_n 0, 1) := of_decide_eq_true (List.all_eq_true.mp dsX12_stride_0_ok (0, (.aload_n 0, 1)) (List.mem_of_getElem? (i := 0) rfl))
theorem dX12_stride_1 : decode cX12_stride 1 = .ok (.getfield 144, 3) := of_decide_eq_true (List.all_eq_true.mp dsX12_stride_0_ok (1, (.getfield 144, 3)) (List.mem_of_getElem? (i := 1) rfl))
theorem dX12_stride_4 : decode cX12_stride 4 = .ok (.ifCond .eq 17, 3) := of_decide_eq_true (List.all_eq_true.mp dsX12_stride_0_ok (4, (.ifCond .eq 17, 3)) (List.mem_of_getElem? (i := 2) rfl))
theorem dX12_stride_7 : decode cX12_stride 7 = .ok (.aload_n 0, 1) := of_decide_eq_true (List.all_eq_true.mp dsX12_stride_0_ok (7, (.aload_n 0, 1)) (List.mem_of_getElem? (i := 3) rfl))
theorem dX12_stride_8 : decode cX12_stride 8 = .ok (.iconst 0, 1) := of_decide_eq_true (List.all_eq_true.mp dsX12_stride_0_ok (8, (.iconst 0, 1)) (List.mem_of_getElem? (i := 4) rfl))
theorem dX12_stride_9 : decode cX12_stride 9 = .ok (.aload_n 0, 1) := of_decide_eq_true (List.all_eq_true.mp dsX12_stride_0_ok (9, (.aload_n 0, 1)) (List.mem_of_getElem? (i := 5) rfl))
theorem dX12_stride_10 : decode cX12_stride 10 = .ok (.getfield 162, 3) := of_decide_eq_true (List.all_eq_true.mp dsX12_stride_0_ok (10, (.getfield 162, 3)) (List.mem_of_getElem? (i := 6) rfl))
theorem dX12_stride_13 : decode cX12_stride 13 = .ok (.iconst 0, 1) := of_decide_eq_true (List.all_eq_true.mp dsX12_stride_0_ok (13, (.iconst 0, 1)) (List.mem_of_getElem? (i := 7) rfl))
theorem dX12_stride_14 : decode cX12_stride 14 = .ok (.iaload, 1) := of_decide_eq_true (List.all_eq_true.mp dsX12_stride_0_ok (14, (.iaload, 1)) (List.mem_of_getElem? (i := 8) rfl))
theorem dX12_stride_15 : decode cX12_stride 15 = .ok (.invokevirtual 427, 3) := of_decide_eq_true (List.all_eq_true.mp dsX12_stride_0_ok (15, (.invokevirtual 427, 3)) (List.mem_of_getElem? (i := 9) rfl))
theorem dX12_stride_18 : decode cX12_stride 18 = .ok (.goto 4, 3) := of_decide_eq_true (List.all_eq_true.mp dsX12_stride_0_ok (18, (.goto 4, 3)) (List.mem_of_getElem? (i := 10) rfl))
theorem dX12_stride_21 : decode cX12_stride 21 = .ok (.iconst (-1), 1) := of_decide_eq_true (List.all_eq_true.mp dsX12_stride_0_ok (21, (.iconst (-1), 1)) (List.mem_of_getElem? (i := 11) rfl))
theorem dX12_stride_22 : decode cX12_stride 22 = .ok (.ireturn, 1) := of_decide_eq_true (List.all_eq_true.mp dsX12_stride_0_ok (22, (.ireturn, 1)) (List.mem_of_getElem? (i := 12) rfl))
def fX12_stride (N : Nat) (mmI : Nat → Int32) (mm_hushOfF : Nat → Int32) (mm_sumFromF : Nat → Int32) (mm_nightOfF : Nat → Int32) (mm_askedF : Nat → Int32) (mm_mileOfF : Nat → Int32) (mm_roundsOfF : Nat → Int32) (mm_sumBehindF : Nat → Int32) (mm_stackL : Nat → Int64) (mm_codeSortF : Nat → Int32) (mm_codeValueF : Nat → Int32)   : Option (Int32 × (Nat → Int32) × (Nat → Int64)) :=
  (if (mmI 43) = 0 then some (((-1), mm_askedF, mm_stackL)) else (xq_bd (xq_ald 22 mm_hushOfF 0) fun v_1 => (xq_bd (fX12_strideOf N mmI mm_sumFromF mm_nightOfF mm_askedF mm_mileOfF mm_roundsOfF mm_sumBehindF mm_stackL mm_codeSortF mm_codeValueF 0 v_1) fun (r_2_0, r_2_1, r_2_2) => some ((r_2_0, r_2_1, r_2_2)))))
set_option maxHeartbeats 4000000 in
set_option maxRecDepth 100000 in
theorem kX12_stride (l : Launch) (dC : Nat → ClassId) (dI : Nat → Nat → Nat) (cI cB cJ cZ cM : ClassId) (z : Nat) (ad : Nat → Nat) (N : Nat) (a_p0 : Nat) (mmI : Nat → Int32) (mmJ : Nat → Int64) (mmR : Nat → Nat) (mm_hushOfF : Nat → Int32) (mm_sumFromF : Nat → Int32) (mm_nightOfF : Nat → Int32) (mm_askedF : Nat → Int32) (mm_mileOfF : Nat → Int32) (mm_roundsOfF : Nat → Int32) (mm_sumBehindF : Nat → Int32) (mm_stackL : Nat → Int64) (mm_codeSortF : Nat → Int32) (mm_codeValueF : Nat → Int32) {r0 : Int32} {r1 : Nat → Int32} {r2 : Nat → Int64} (hf : fX12_stride N mmI mm_hushOfF mm_sumFromF mm_nightOfF mm_askedF mm_mileOfF mm_roundsOfF mm_sumBehindF mm_stackL mm_codeSortF mm_codeValueF = some (r0, r1, r2)) : xq_Ct l yX12_stride wsX12_stride { frames := 4, cells := 0, slots := 0, locals := 95 } (dC, dI) vwCl (xq_tys cI cB cJ cZ cM) z ad [.ref a_p0] [(a_p0, .inr (12, oX12 mmI mmJ mmR)), ((mmR 49), .inl (cI, 22, .inl mm_hushOfF)), ((mmR 24), .inl (cI, 6, .inl mm_sumFromF)), ((mmR 45), .inl (cI, 22, .inl mm_nightOfF)), ((mmR 58), .inl (cI, 12, .inl mm_askedF)), ((mmR 46), .inl (cI, 22, .inl mm_mileOfF)), ((mmR 47), .inl (cI, 22, .inl mm_roundsOfF)), ((mmR 25), .inl (cI, 6, .inl mm_sumBehindF)), ((mmR 57), .inl (cJ, 500, .inr (.inl mm_stackL))), ((mmR 26), .inl (cI, 3200, .inl mm_codeSortF)), ((mmR 27), .inl (cI, 3200, .inl mm_codeValueF))] [(a_p0, .inr (12, oX12 mmI mmJ mmR)), ((mmR 49), .inl (cI, 22, .inl mm_hushOfF)), ((mmR 24), .inl (cI, 6, .inl mm_sumFromF)), ((mmR 45), .inl (cI, 22, .inl mm_nightOfF)), ((mmR 58), .inl (cI, 12, .inl r1)), ((mmR 46), .inl (cI, 22, .inl mm_mileOfF)), ((mmR 47), .inl (cI, 22, .inl mm_roundsOfF)), ((mmR 25), .inl (cI, 6, .inl mm_sumBehindF)), ((mmR 57), .inl (cJ, 500, .inr (.inl r2))), ((mmR 26), .inl (cI, 3200, .inl mm_codeSortF)), ((mmR 27), .inl (cI, 3200, .inl mm_codeValueF))] (some (.int r0)) := by
  intro sz
  refine Met.ofW (cc := cX12_stride) (maxL := 1) (ret := (some .int)) (by decide) rfl ?_
  intro p e s m args below meth c s₁ B hml hv
  obtain ⟨rfl, hsz, hP, hK, hD0, hE, hz⟩ := hv
  have hx := B.exec
  have hb := B.bytes
  have hr := B.returns
  have hts := atoms_spec (ws := wsX12_stride) B.pre
  have hown : s.vm.findClass RX12 = some m.cls := findClass_of_methodNamed B.named
  have hlocks := B.notSynchronized
  subst hsz
  have hD := hD0.self (sz := s.heap.size)
  have hN := xq_Env.of hE hz hD0
  generalize hAe : va_A [(a_p0, .inr (12, oX12 mmI mmJ mmR)), ((mmR 49), .inl (cI, 22, .inl mm_hushOfF)), ((mmR 24), .inl (cI, 6, .inl mm_sumFromF)), ((mmR 45), .inl (cI, 22, .inl mm_nightOfF)), ((mmR 58), .inl (cI, 12, .inl mm_askedF)), ((mmR 46), .inl (cI, 22, .inl mm_mileOfF)), ((mmR 47), .inl (cI, 22, .inl mm_roundsOfF)), ((mmR 25), .inl (cI, 6, .inl mm_sumBehindF)), ((mmR 57), .inl (cJ, 500, .inr (.inl mm_stackL))), ((mmR 26), .inl (cI, 3200, .inl mm_codeSortF)), ((mmR 27), .inl (cI, 3200, .inl mm_codeValueF))] s.heap.size = A at hD hN ⊢
  have hA : ∀ q : Nat, s.heap.size ≤ q → A q := fun q h => by rw [← hAe]; exact Or.inr h
  clear hAe hD0
  have hS : va_S A s.heap s.heap [] := va_S.rf
  have hl := lv_entry ([.ref a_p0]) (n := 1) (Nat.le_of_ble_eq_true rfl)
  rw [lg_entry_eq]
  generalize (lg_sl ([.ref a_p0]) ++ List.replicate (1 - (lg_sl ([.ref a_p0])).length) Slot.unset).toArray = ls at hl ⊢
  have hl : lv_has ls 1 [(0, .ref a_p0)] := hl
  have hw0 := hts (.fieldLink RX12 144 "DistantVoiceModel" "isHouse" "Z") (by decide +kernel)
  have hinX12 : ∀ w ∈ wsX120, w ∈ wsX12_stride := fun w h => List.mem_cons_of_mem _ (List.mem_append_right _ h)
  have hw2 := hts (.fieldLink RX12 162 "DistantVoiceModel" "hushOf" "[I") (by decide +kernel)
  unfold fX12_stride at hf
  refine lv_aload_n hx hb dX12_stride_0 rfl (lv_at hl 0 rfl) ?_
  refine va_get (D := (dC, dI)) (ci := 12) (v := .int (mmI 43)) (C := RX12) (T := TX12) (N := 70) hx hb hts hinX12 hown hK hP 0 rfl rfl 43 (by decide) hw0 (fun _ h9 => h9) rfl dX12_stride_1 ?_
  refine lv_if_eq (tgt := 21) hx hb dX12_stride_4 (by decide) (fun c_ => ?_) (fun c_ => ?_)
  · have hf := xq_pos hf c_
    refine lv_iconst (v := (-1)) hx hb dX12_stride_21 (by decide) ?_
    have e9 := Option.some.inj hf
    have e9_0 : (-1) = r0 := congrArg (fun t => t.1) e9
    have e9_1 : mm_askedF = r1 := congrArg (fun t => t.2.1) e9
    have e9_2 : mm_stackL = r2 := congrArg (fun t => t.2.2) e9
    clear e9 hf
    subst e9_0
    subst e9_1
    subst e9_2
    exact xq_iret hx hb hr hlocks hK hP hD hS dX12_stride_22
  · have hf := xq_neg hf c_
    refine lv_aload_n hx hb dX12_stride_7 rfl (lv_at hl 0 rfl) ?_
    refine lv_iconst (v := 0) hx hb dX12_stride_8 (by decide) ?_
    refine lv_aload_n hx hb dX12_stride_9 rfl (lv_at hl 0 rfl) ?_
    refine va_get (D := (dC, dI)) (ci := 12) (v := .ref ((mmR 49))) (C := RX12) (T := TX12) (N := 70) hx hb hts hinX12 hown hK hP 0 rfl rfl 49 (by decide) hw2 (fun _ h9 => h9) rfl dX12_stride_10 ?_
    refine lv_iconst (v := 0) hx hb dX12_stride_13 (by decide) ?_
    refine xq_iald hx hb hK hP 1 0 rfl rfl hf dX12_stride_14 (fun v_1 hf => ?_)
    obtain ⟨⟨r_2_0, r_2_1, r_2_2⟩, h_3, hf⟩ := xq_bd_some hf
    refine xq_callV (As := [.int 0, .int v_1]) (rest := []) (ci := 12) (q0 := 0) ⟨hx, hb, hml, hown, hts⟩ (kX12_strideOf l dC dI cI cB cJ cZ cM z ad N a_p0 mmI mmJ mmR mm_sumFromF mm_nightOfF mm_askedF mm_mileOfF mm_roundsOfF mm_sumBehindF mm_stackL mm_codeSortF mm_codeValueF 0 v_1 h_3) (cwV 2 hts gX12_stride_X12_strideOf rfl rfl rfl (by decide +kernel) ⟨Nat.le_of_ble_eq_true rfl, Nat.le_of_ble_eq_true rfl⟩) hN hK hP hD hS hA [0, 2, 3, 4, 5, 6, 7, 8, 9, 10] (by decide) rfl rfl rfl rfl rfl rfl hl.1 rfl (Nat.le_of_ble_eq_true rfl) dX12_stride_15 ⟨Nat.zero_le _, Nat.zero_le _⟩ (fun H locs hP hD hS => ?_)
    have hP : va_P (dC, dI) vwCl [(a_p0, .inr (12, oX12 mmI mmJ mmR)), ((mmR 49), .inl (cI, 22, .inl mm_hushOfF)), ((mmR 24), .inl (cI, 6, .inl mm_sumFromF)), ((mmR 45), .inl (cI, 22, .inl mm_nightOfF)), ((mmR 58), .inl (cI, 12, .inl r_2_1)), ((mmR 46), .inl (cI, 22, .inl mm_mileOfF)), ((mmR 47), .inl (cI, 22, .inl mm_roundsOfF)), ((mmR 25), .inl (cI, 6, .inl mm_sumBehindF)), ((mmR 57), .inl (cJ, 500, .inr (.inl r_2_2))), ((mmR 26), .inl (cI, 3200, .inl mm_codeSortF)), ((mmR 27), .inl (cI, 3200, .inl mm_codeValueF))] H := hP
    have hD : va_D A [(a_p0, .inr (12, oX12 mmI mmJ mmR)), ((mmR 49), .inl (cI, 22, .inl mm_hushOfF)), ((mmR 24), .inl (cI, 6, .inl mm_sumFromF)), ((mmR 45), .inl (cI, 22, .inl mm_nightOfF)), ((mmR 58), .inl (cI, 12, .inl r_2_1)), ((mmR 46), .inl (cI, 22, .inl mm_mileOfF)), ((mmR 47), .inl (cI, 22, .inl mm_roundsOfF)), ((mmR 25), .inl (cI, 6, .inl mm_sumBehindF)), ((mmR 57), .inl (cJ, 500, .inr (.inl r_2_2))), ((mmR 26), .inl (cI, 3200, .inl mm_codeSortF)), ((mmR 27), .inl (cI, 3200, .inl mm_codeValueF))] := hD
    refine W.eq (g2 := F0 m 18 ls [.int r_2_0]) rfl ?_
    refine lv_goto (tgt := 22) hx hb dX12_stride_18 (by decide) ?_
    have e9 := Option.some.inj hf
    have e9_0 : r_2_0 = r0 := congrArg (fun t => t.1) e9
    have e9_1 : r_2_1 = r1 := congrArg (fun t => t.2.1) e9
    have e9_2 : r_2_2 = r2 := congrArg (fun t => t.2.2) e9
    clear e9 hf
    subst e9_0
    subst e9_1
    subst e9_2
    exact xq_iret hx hb hr hlocks hK hP hD hS dX12_stride_22
set_option maxRecDepth 20000 in
theorem ggX12_isAhead_X12_is : GoodIn wsX12_isAhead wsX12_is := goodIn_r _ [6] rfl (by decide +kernel)
set_option maxRecDepth 20000 in
theorem gX12_isAhead_X12_is : GoodIn wsX12_isAhead (va_wsS RX12 301 yX12_is wsX12_is) := goodIn_app (goodIn_of _ (by decide +kernel)) ggX12_isAhead_X12_is
def dsX12_isAhead_0 : List (Nat × Instr × Nat) := [(0, (.aload_n 0, 1)), (1, (.getfield 144, 3)), (4, (.ifCond .eq 30, 3)), (7, (.iload_n 1, 1)), (8, (.iload_n 2, 1)), (9, (.iload_n 3, 1)), (10, (.invokestatic 301, 3)), (13, (.ifCond .eq 21, 3)), (16, (.aload_n 0, 1)), (17, (.getfield 150, 3)), (20, (.iconst 0, 1)), (21, (.iaload, 1)), (22, (.sipush 999, 3)), (25, (.iload_n 1, 1)), (26, (.isub, 1)), (27, (.if_icmp .gt 7, 3)), (30, (.iconst 1, 1)), (31, (.goto 4, 3)), (34, (.iconst 0, 1)), (35, (.ireturn, 1))]
theorem dsX12_isAhead_0_ok : (dsX12_isAhead_0.all fun q => decide (decode cX12_isAhead q.1 = .ok q.2)) = true := by decide +kernel
theorem dX12_isAhead_0 : decode cX12_isAhead 0 = .ok (.aload_n 0, 1) := of_decide_eq_true (List.all_eq_true.mp dsX12_isAhead_0_ok (0, (.aload_n 0, 1)) (List.mem_of_getElem? (i := 0) rfl))
theorem dX12_isAhead_1 : decode cX12_isAhead 1 = .ok (.getfield 144, 3) := of_decide_eq_true (List.all_eq_true.mp dsX12_isAhead_0_ok (1, (.getfield 144, 3)) (List.mem_of_getElem? (i := 1) rfl))
theorem dX12_isAhead_4 : decode cX12_isAhead 4 = .ok (.ifCond .eq 30, 3) := of_decide_eq_true (List.all_eq_true.mp dsX12_isAhead_0_ok (4, (.ifCond .eq 30, 3)) (List.mem_of_getElem? (i := 2) rfl))
theorem dX12_isAhead_7 : decode cX12_isAhead 7 = .ok (.iload_n 1, 1) := of_decide_eq_true (List.all_eq_true.mp dsX12_isAhead_0_ok (7, (.iload_n 1, 1)) (List.mem_of_getElem? (i := 3) rfl))
theorem dX12_isAhead_8 : decode cX12_isAhead 8 = .ok (.iload_n 2, 1) := of_decide_eq_true (List.all_eq_true.mp dsX12_isAhead_0_ok (8, (.iload_n 2, 1)) (List.mem_of_getElem? (i := 4) rfl))
theorem dX12_isAhead_9 : decode cX12_isAhead 9 = .ok (.iload_n 3, 1) := of_decide_eq_true (List.all_eq_true.mp dsX12_isAhead_0_ok (9, (.iload_n 3, 1)) (List.mem_of_getElem? (i := 5) rfl))
theorem dX12_isAhead_10 : decode cX12_isAhead 10 = .ok (.invokestatic 301, 3) := of_decide_eq_true (List.all_eq_true.mp dsX12_isAhead_0_ok (10, (.invokestatic 301, 3)) (List.mem_of_getElem? (i := 6) rfl))
theorem dX12_isAhead_13 : decode cX12_isAhead 13 = .ok (.ifCond .eq 21, 3) := of_decide_eq_true (List.all_eq_true.mp dsX12_isAhead_0_ok (13, (.ifCond .eq 21, 3)) (List.mem_of_getElem? (i := 7) rfl))
theorem dX12_isAhead_16 : decode cX12_isAhead 16 = .ok (.aload_n 0, 1) := of_decide_eq_true (List.all_eq_true.mp dsX12_isAhead_0_ok (16, (.aload_n 0, 1)) (List.mem_of_getElem? (i := 8) rfl))
theorem dX12_isAhead_17 : decode cX12_isAhead 17 = .ok (.getfield 150, 3) := of_decide_eq_true (List.all_eq_true.mp dsX12_isAhead_0_ok (17, (.getfield 150, 3)) (List.mem_of_getElem? (i := 9) rfl))
theorem dX12_isAhead_20 : decode cX12_isAhead 20 = .ok (.iconst 0, 1) := of_decide_eq_true (List.all_eq_true.mp dsX12_isAhead_0_ok (20, (.iconst 0, 1)) (List.mem_of_getElem? (i := 10) rfl))
theorem dX12_isAhead_21 : decode cX12_isAhead 21 = .ok (.iaload, 1) := of_decide_eq_true (List.all_eq_true.mp dsX12_isAhead_0_ok (21, (.iaload, 1)) (List.mem_of_getElem? (i := 11) rfl))
theorem dX12_isAhead_22 : decode cX12_isAhead 22 = .ok (.sipush 999, 3) := of_decide_eq_true (List.all_eq_true.mp dsX12_isAhead_0_ok (22, (.sipush 999, 3)) (List.mem_of_getElem? (i := 12) rfl))
theorem dX12_isAhead_25 : decode cX12_isAhead 25 = .ok (.iload_n 1, 1) := of_decide_eq_true (List.all_eq_true.mp dsX12_isAhead_0_ok (25, (.iload_n 1, 1)) (List.mem_of_getElem? (i := 13) rfl))
theorem dX12_isAhead_26 : decode cX12_isAhead 26 = .ok (.isub, 1) := of_decide_eq_true (List.all_eq_true.mp dsX12_isAhead_0_ok (26, (.isub, 1)) (List.mem_of_getElem? (i := 14) rfl))
theorem dX12_isAhead_27 : decode cX12_isAhead 27 = .ok (.if_icmp .gt 7, 3) := of_decide_eq_true (List.all_eq_true.mp dsX12_isAhead_0_ok (27, (.if_icmp .gt 7, 3)) (List.mem_of_getElem? (i := 15) rfl))
theorem dX12_isAhead_30 : decode cX12_isAhead 30 = .ok (.iconst 1, 1) := of_decide_eq_true (List.all_eq_true.mp dsX12_isAhead_0_ok (30, (.iconst 1, 1)) (List.mem_of_getElem? (i := 16) rfl))
theorem dX12_isAhead_31 : decode cX12_isAhead 31 = .ok (.goto 4, 3) := of_decide_eq_true (List.all_eq_true.mp dsX12_isAhead_0_ok (31, (.goto 4, 3)) (List.mem_of_getElem? (i := 17) rfl))
theorem dX12_isAhead_34 : decode cX12_isAhead 34 = .ok (.iconst 0, 1) := of_decide_eq_true (List.all_eq_true.mp dsX12_isAhead_0_ok (34, (.iconst 0, 1)) (List.mem_of_getElem? (i := 18) rfl))
theorem dX12_isAhead_35 : decode cX12_isAhead 35 = .ok (.ireturn, 1) := of_decide_eq_true (List.all_eq_true.mp dsX12_isAhead_0_ok (35, (.ireturn, 1)) (List.mem_of_getElem? (i := 19) rfl))
def fX12_isAhead (N : Nat) (mmI : Nat → Int32) (mm_nightOfF : Nat → Int32)  (p1 : Int32) (p2 : Int32) (p3 : Int32) : Option (Int32) :=
  (if (mmI 43) = 0 then some 0 else (xq_bd (fX12_is N p1 p2 p3) fun r_1 => (if r_1 = 0 then some 0 else (xq_bd (xq_ald 22 mm_nightOfF 0) fun v_3 => (if (999 - p1) < v_3 then some 0 else some 1)))))
set_option maxHeartbeats 4000000 in
set_option maxRecDepth 100000 in
theorem kX12_isAhead (l : Launch) (dC : Nat → ClassId) (dI : Nat → Nat → Nat) (cI cB cJ cZ cM : ClassId) (z : Nat) (ad : Nat → Nat) (N : Nat) (a_p0 : Nat) (mmI : Nat → Int32) (mmJ : Nat → Int64) (mmR : Nat → Nat) (mm_nightOfF : Nat → Int32) (p1 : Int32) (p2 : Int32) (p3 : Int32) {r0 : Int32} (hf : fX12_isAhead N mmI mm_nightOfF p1 p2 p3 = some r0) : xq_Ct l yX12_isAhead wsX12_isAhead { frames := 1, cells := 0, slots := 0, locals := 22 } (dC, dI) vwCl (xq_tys cI cB cJ cZ cM) z ad [.ref a_p0, .int p1, .int p2, .int p3] [(a_p0, .inr (12, oX12 mmI mmJ mmR)), ((mmR 45), .inl (cI, 22, .inl mm_nightOfF))] [(a_p0, .inr (12, oX12 mmI mmJ mmR)), ((mmR 45), .inl (cI, 22, .inl mm_nightOfF))] (some (.int r0)) := by
  intro sz
  refine Met.ofW (cc := cX12_isAhead) (maxL := 4) (ret := (some .boolean)) (by decide) rfl ?_
  intro p e s m args below meth c s₁ B hml hv
  obtain ⟨rfl, hsz, hP, hK, hD0, hE, hz⟩ := hv
  have hx := B.exec
  have hb := B.bytes
  have hr := B.returns
  have hts := atoms_spec (ws := wsX12_isAhead) B.pre
  have hown : s.vm.findClass RX12 = some m.cls := findClass_of_methodNamed B.named
  have hlocks := B.notSynchronized
  subst hsz
  have hD := hD0.self (sz := s.heap.size)
  have hN := xq_Env.of hE hz hD0
  generalize hAe : va_A [(a_p0, .inr (12, oX12 mmI mmJ mmR)), ((mmR 45), .inl (cI, 22, .inl mm_nightOfF))] s.heap.size = A at hD hN ⊢
  have hA : ∀ q : Nat, s.heap.size ≤ q → A q := fun q h => by rw [← hAe]; exact Or.inr h
  clear hAe hD0
  have hS : va_S A s.heap s.heap [] := va_S.rf
  have hl := lv_entry ([.ref a_p0, .int p1, .int p2, .int p3]) (n := 4) (Nat.le_of_ble_eq_true rfl)
  rw [lg_entry_eq]
  generalize (lg_sl ([.ref a_p0, .int p1, .int p2, .int p3]) ++ List.replicate (4 - (lg_sl ([.ref a_p0, .int p1, .int p2, .int p3])).length) Slot.unset).toArray = ls at hl ⊢
  have hl : lv_has ls 4 [(0, .ref a_p0), (1, .int p1), (2, .int p2), (3, .int p3)] := hl
  have hw0 := hts (.fieldLink RX12 144 "DistantVoiceModel" "isHouse" "Z") (by decide +kernel)
  have hinX12 : ∀ w ∈ wsX120, w ∈ wsX12_isAhead := fun w h => List.mem_cons_of_mem _ (List.mem_append_right _ h)
  have hw2 := hts (.fieldLink RX12 150 "DistantVoiceModel" "nightOf" "[I") (by decide +kernel)
  unfold fX12_isAhead at hf
  refine lv_aload_n hx hb dX12_isAhead_0 rfl (lv_at hl 0 rfl) ?_
  refine va_get (D := (dC, dI)) (ci := 12) (v := .int (mmI 43)) (C := RX12) (T := TX12) (N := 70) hx hb hts hinX12 hown hK hP 0 rfl rfl 43 (by decide) hw0 (fun _ h9 => h9) rfl dX12_isAhead_1 ?_
  refine lv_if_eq (tgt := 34) hx hb dX12_isAhead_4 (by decide) (fun c_ => ?_) (fun c_ => ?_)
  · have hf := xq_pos hf c_
    refine lv_iconst (v := 0) hx hb dX12_isAhead_34 (by decide) ?_
    have e9_0 : 0 = r0 := Option.some.inj hf
    subst e9_0
    exact xq_zret hx hb hr (by decide +kernel) hlocks hK hP hD hS dX12_isAhead_35
  · have hf := xq_neg hf c_
    refine lv_iload_n hx hb dX12_isAhead_7 rfl (lv_at hl 1 rfl) ?_
    refine lv_iload_n hx hb dX12_isAhead_8 rfl (lv_at hl 2 rfl) ?_
    refine lv_iload_n hx hb dX12_isAhead_9 rfl (lv_at hl 3 rfl) ?_
    obtain ⟨r_1, h_2, hf⟩ := xq_bd_some hf
    refine xq_callS (As := [.int p1, .int p2, .int p3]) (rest := []) ⟨hx, hb, hml, hown, hts⟩ (kX12_is l dC dI cI cB cJ cZ cM z ad N p1 p2 p3 h_2) (va_cwS 3 hts gX12_isAhead_X12_is rfl rfl rfl (by decide +kernel) ⟨Nat.le_of_ble_eq_true rfl, Nat.le_of_ble_eq_true rfl⟩) hN hK hP hD hS hA [] (by decide) rfl rfl rfl hl.1 rfl (Nat.le_of_ble_eq_true rfl) dX12_isAhead_10 ⟨Nat.zero_le _, Nat.zero_le _⟩ (fun H locs hP hD hS => ?_)
    have hP : va_P (dC, dI) vwCl [(a_p0, .inr (12, oX12 mmI mmJ mmR)), ((mmR 45), .inl (cI, 22, .inl mm_nightOfF))] H := hP
    have hD : va_D A [(a_p0, .inr (12, oX12 mmI mmJ mmR)), ((mmR 45), .inl (cI, 22, .inl mm_nightOfF))] := hD
    refine W.eq (g2 := F0 m 13 ls [.int r_1]) rfl ?_
    refine lv_if_eq (tgt := 34) hx hb dX12_isAhead_13 (by decide) (fun c_ => ?_) (fun c_ => ?_)
    · have hf := xq_pos hf c_
      refine lv_iconst (v := 0) hx hb dX12_isAhead_34 (by decide) ?_
      have e9_0 : 0 = r0 := Option.some.inj hf
      subst e9_0
      exact xq_zret hx hb hr (by decide +kernel) hlocks hK hP hD hS dX12_isAhead_35
    · have hf := xq_neg hf c_
      refine lv_aload_n hx hb dX12_isAhead_16 rfl (lv_at hl 0 rfl) ?_
      refine va_get (D := (dC, dI)) (ci := 12) (v := .ref ((mmR 45))) (C := RX12) (T := TX12) (N := 70) hx hb hts hinX12 hown hK hP 0 rfl rfl 45 (by decide) hw2 (fun _ h9 => h9) rfl dX12_isAhead_17 ?_
      refine lv_iconst (v := 0) hx hb dX12_isAhead_20 (by decide) ?_
      refine xq_iald hx hb hK hP 1 0 rfl rfl hf dX12_isAhead_21 (fun v_3 hf => ?_)
      refine lv_sipush (v := 999) hx hb dX12_isAhead_22 (by decide) ?_
      refine lv_iload_n hx hb dX12_isAhead_25 rfl (lv_at hl 1 rfl) ?_
      refine lv_isub hx hb dX12_isAhead_26 ?_
      refine lv_icmp_gt (tgt := 34) hx hb dX12_isAhead_27 (by decide) (fun c_ => ?_) (fun c_ => ?_)
      · have hf := xq_pos hf c_
        refine lv_iconst (v := 0) hx hb dX12_isAhead_34 (by decide) ?_
        have e9_0 : 0 = r0 := Option.some.inj hf
        subst e9_0
        exact xq_zret hx hb hr (by decide +kernel) hlocks hK hP hD hS dX12_isAhead_35
      · have hf := xq_neg hf c_
        refine lv_iconst (v := 1) hx hb dX12_isAhead_30 (by decide) ?_
        refine lv_goto (tgt := 35) hx hb dX12_isAhead_31 (by decide) ?_
        have e9_0 : 1 = r0 := Option.some.inj hf
        subst e9_0
        exact xq_zret hx hb hr (by decide +kernel) hlocks hK hP hD hS dX12_isAhead_35
def dsX12_from_0 : List (Nat × Instr × Nat) := [(0, (.sipush 1024, 3)), (3, (.iload_n 0, 1)), (4, (.imul, 1)), (5, (.iload_n 1, 1)), (6, (.iadd, 1)), (7, (.ireturn, 1))]
theorem dsX12_from_0_ok : (dsX12_from_0.all fun q => decide (decode cX12_from q.1 = .ok q.2)) = true := by decide +kernel
theorem dX12_from_0 : decode cX12_from 0 = .ok (.sipush 1024, 3) := of_decide_eq_true (List.all_eq_true.mp dsX12_from_0_ok (0, (.sipush 1024, 3)) (List.mem_of_getElem? (i := 0) rfl))
theorem dX12_from_3 : decode cX12_from 3 = .ok (.iload_n 0, 1) := of_decide_eq_true (List.all_eq_true.mp dsX12_from_0_ok (3, (.iload_n 0, 1)) (List.mem_of_getElem? (i := 1) rfl))
theorem dX12_from_4 : decode cX12_from 4 = .ok (.imul, 1) := of_decide_eq_true (List.all_eq_true.mp dsX12_from_0_ok (4, (.imul, 1)) (List.mem_of_getElem? (i := 2) rfl))
theorem dX12_from_5 : decode cX12_from 5 = .ok (.iload_n 1, 1) := of_decide_eq_true (List.all_eq_true.mp dsX12_from_0_ok (5, (.iload_n 1, 1)) (List.mem_of_getElem? (i := 3) rfl))
theorem dX12_from_6 : decode cX12_from 6 = .ok (.iadd, 1) := of_decide_eq_true (List.all_eq_true.mp dsX12_from_0_ok (6, (.iadd, 1)) (List.mem_of_getElem? (i := 4) rfl))
theorem dX12_from_7 : decode cX12_from 7 = .ok (.ireturn, 1) := of_decide_eq_true (List.all_eq_true.mp dsX12_from_0_ok (7, (.ireturn, 1)) (List.mem_of_getElem? (i := 5) rfl))
def fX12_from (N : Nat)   (p0 : Int32) (p1 : Int32) : Option (Int32) :=
  some ((1024 * p0) + p1)
set_option maxHeartbeats 4000000 in
set_option maxRecDepth 100000 in
theorem kX12_from (l : Launch) (dC : Nat → ClassId) (dI : Nat → Nat → Nat) (cI cB cJ cZ cM : ClassId) (z : Nat) (ad : Nat → Nat) (N : Nat) (p0 : Int32) (p1 : Int32) {r0 : Int32} (hf : fX12_from N p0 p1 = some r0) : xq_Ct l yX12_from wsX12_from { frames := 0, cells := 0, slots := 0, locals := 0 } (dC, dI) vwCl (xq_tys cI cB cJ cZ cM) z ad [.int p0, .int p1] [] [] (some (.int r0)) := by
  intro sz
  refine Met.ofW (cc := cX12_from) (maxL := 2) (ret := (some .int)) (by decide) rfl ?_
  intro p e s m args below meth c s₁ B hml hv
  obtain ⟨rfl, hsz, hP, hK, hD0, hE, hz⟩ := hv
  have hx := B.exec
  have hb := B.bytes
  have hr := B.returns
  have hts := atoms_spec (ws := wsX12_from) B.pre
  have hown : s.vm.findClass RX12 = some m.cls := findClass_of_methodNamed B.named
  have hlocks := B.notSynchronized
  subst hsz
  have hD := hD0.self (sz := s.heap.size)
  have hN := xq_Env.of hE hz hD0
  generalize hAe : va_A [] s.heap.size = A at hD hN ⊢
  have hA : ∀ q : Nat, s.heap.size ≤ q → A q := fun q h => by rw [← hAe]; exact Or.inr h
  clear hAe hD0
  have hS : va_S A s.heap s.heap [] := va_S.rf
  have hl := lv_entry ([.int p0, .int p1]) (n := 2) (Nat.le_of_ble_eq_true rfl)
  rw [lg_entry_eq]
  generalize (lg_sl ([.int p0, .int p1]) ++ List.replicate (2 - (lg_sl ([.int p0, .int p1])).length) Slot.unset).toArray = ls at hl ⊢
  have hl : lv_has ls 2 [(0, .int p0), (1, .int p1)] := hl
  unfold fX12_from at hf
  refine lv_sipush (v := 1024) hx hb dX12_from_0 (by decide) ?_
  refine lv_iload_n hx hb dX12_from_3 rfl (lv_at hl 0 rfl) ?_
  refine lv_imul hx hb dX12_from_4 ?_
  refine lv_iload_n hx hb dX12_from_5 rfl (lv_at hl 1 rfl) ?_
  refine lv_iadd hx hb dX12_from_6 ?_
  have e9_0 : (1024 * p0) + p1 = r0 := Option.some.inj hf
  subst e9_0
  exact xq_iret hx hb hr hlocks hK hP hD hS dX12_from_7
set_option maxRecDepth 20000 in
theorem ggX12_mark_X12_isEar : GoodIn wsX12_mark wsX12_isEar := goodIn_r _ [11, 12, 13, 19, 20, 21, 22, 23, 24, 25, 26, 27, 28, 29, 30, 31, 32, 33, 34, 35, 36, 37, 38, 39, 40, 41, 42, 43, 44, 45, 46, 47, 48, 49, 50, 51, 52, 53, 54, 55, 56, 57, 58, 59, 60, 61, 62, 63, 64, 65, 66, 67, 68, 69, 70, 71, 72, 73, 74, 75, 76, 77, 78, 79, 80, 81, 82, 83, 84, 85, 86, 87, 88] rfl (by decide +kernel)
set_option maxRecDepth 20000 in
theorem gX12_mark_X12_isEar : GoodIn wsX12_mark (wsV RX12 454 RX12 yX12_isEar wsX12_isEar) := goodIn_app (goodIn_of _ (by decide +kernel)) ggX12_mark_X12_isEar
set_option maxRecDepth 20000 in
theorem ggX12_mark_X12_refuses : GoodIn wsX12_mark wsX12_refuses := goodIn_r _ [17, 18, 19, 20, 21, 22, 23, 24, 25, 26, 27, 28, 29, 30, 31, 32, 33, 34, 35, 36, 37, 38, 39, 40, 41, 42, 43, 44, 45, 46, 47, 48, 49, 50, 51, 52, 53, 54, 55, 56, 57, 58, 59, 60, 61, 62, 63, 64, 65, 66, 67, 68, 69, 70, 71, 72, 73, 74, 75, 76, 77, 78, 79, 80, 81, 82, 83, 84, 85, 86, 87, 88] rfl (by decide +kernel)
set_option maxRecDepth 20000 in
theorem gX12_mark_X12_refuses : GoodIn wsX12_mark (wsV RX12 225 RX12 yX12_refuses wsX12_refuses) := goodIn_app (goodIn_of _ (by decide +kernel)) ggX12_mark_X12_refuses
def dsX12_mark_0 : List (Nat × Instr × Nat) := [(0, (.aload_n 0, 1)), (1, (.getfield 13, 3)), (4, (.istore_n 1, 1)), (5, (.aload_n 0, 1)), (6, (.iconst 0, 1)), (7, (.putfield 13, 3)), (10, (.iload_n 1, 1)), (11, (.ifCond .le 19, 3)), (14, (.iload_n 1, 1)), (15, (.iconst 3, 1)), (16, (.irem, 1)), (17, (.ifCond .ne 13, 3)), (20, (.iload_n 1, 1)), (21, (.bipush 48, 2)), (23, (.if_icmp .gt 7, 3)), (26, (.iconst 1, 1)), (27, (.goto 4, 3)), (30, (.iconst 0, 1)), (31, (.istore_n 2, 1)), (32, (.iconst 0, 1)), (33, (.istore_n 3, 1)), (34, (.iload_n 3, 1)), (35, (.iload_n 1, 1)), (36, (.if_icmp .ge 57, 3)), (39, (.iload_n 2, 1)), (40, (.ifCond .eq 53, 3)), (43, (.aload_n 0, 1)), (44, (.getfield 7, 3)), (47, (.iload_n 3, 1)), (48, (.iaload, 1)), (49, (.bipush 30, 2)), (51, (.if_icmp .gt 34, 3)), (54, (.aload_n 0, 1)), (55, (.aload_n 0, 1)), (56, (.getfield 7, 3)), (59, (.iload_n 3, 1)), (60, (.iconst 1, 1)), (61, (.iadd, 1)), (62, (.iaload, 1)), (63, (.invokevirtual 454, 3)), (66, (.ifCond .eq 19, 3)), (69, (.aload_n 0, 1)), (70, (.getfield 7, 3)), (73, (.iload_n 3, 1)), (74, (.iconst 2, 1)), (75, (.iadd, 1)), (76, (.iaload, 1)), (77, (.iconst 1, 1)), (78, (.if_icmp .gt 7, 3)), (81, (.iconst 1, 1)), (82, (.goto 4, 3)), (85, (.iconst 0, 1)), (86, (.istore_n 2, 1)), (87, (.iinc 3 3, 3)), (90, (.goto (-56), 3)), (93, (.iload_n 2, 1)), (94, (.ifCond .ne 9, 3)), (97, (.aload_n 0, 1)), (98, (.iconst 5, 1)), (99, (.invokevirtual 225, 3))]
theorem dsX12_mark_0_ok : (dsX12_mark_0.all fun q => decide (decode cX12_mark q.1 = .ok q.2)) = true := by decide +kernel
theorem dX12_mark_0 : decode cX12_mark 0 = .ok (.aload_n 0, 1) := of_decide_eq_true (List.all_eq_true.mp dsX12_mark_0_ok (0, (.aload_n 0, 1)) (List.mem_of_getElem? (i := 0) rfl))
theorem dX12_mark_1 : decode cX12_mark 1 = .ok (.getfield 13, 3) := of_decide_eq_true (List.all_eq_true.mp dsX12_mark_0_ok (1, (.getfield 13, 3)) (List.mem_of_getElem? (i := 1) rfl))
theorem dX12_mark_4 : decode cX12_mark 4 = .ok (.istore_n 1, 1) := of_decide_eq_true (List.all_eq_true.mp dsX12_mark_0_ok (4, (.istore_n 1, 1)) (List.mem_of_getElem? (i := 2) rfl))
theorem dX12_mark_5 : decode cX12_mark 5 = .ok (.aload_n 0, 1) := of_decide_eq_true (List.all_eq_true.mp dsX12_mark_0_ok (5, (.aload_n 0, 1)) (List.mem_of_getElem? (i := 3) rfl))
theorem dX12_mark_6 : decode cX12_mark 6 = .ok (.iconst 0, 1) := of_decide_eq_true (List.all_eq_true.mp dsX12_mark_0_ok (6, (.iconst 0, 1)) (List.mem_of_getElem? (i := 4) rfl))
theorem dX12_mark_7 : decode cX12_mark 7 = .ok (.putfield 13, 3) := of_decide_eq_true (List.all_eq_true.mp dsX12_mark_0_ok (7, (.putfield 13, 3)) (List.mem_of_getElem? (i := 5) rfl))
theorem dX12_mark_10 : decode cX12_mark 10 = .ok (.iload_n 1, 1) := of_decide_eq_true (List.all_eq_true.mp dsX12_mark_0_ok (10, (.iload_n 1, 1)) (List.mem_of_getElem? (i := 6) rfl))
theorem dX12_mark_11 : decode cX12_mark 11 = .ok (.ifCond .le 19, 3) := of_decide_eq_true (List.all_eq_true.mp dsX12_mark_0_ok (11, (.ifCond .le 19, 3)) (List.mem_of_getElem? (i := 7) rfl))
theorem dX12_mark_14 : decode cX12_mark 14 = .ok (.iload_n 1, 1) := of_decide_eq_true (List.all_eq_true.mp dsX12_mark_0_ok (14, (.iload_n 1, 1)) (List.mem_of_getElem? (i := 8) rfl))
theorem dX12_mark_15 : decode cX12_mark 15 = .ok (.iconst 3, 1) := of_decide_eq_true (List.all_eq_true.mp dsX12_mark_0_ok (15, (.iconst 3, 1)) (List.mem_of_getElem? (i := 9) rfl))
theorem dX12_mark_16 : decode cX12_mark 16 = .ok (.irem, 1) := of_decide_eq_true (List.all_eq_true.mp dsX12_mark_0_ok (16, (.irem, 1)) (List.mem_of_getElem? (i := 10) rfl))
theorem dX12_mark_17 : decode cX12_mark 17 = .ok (.ifCond .ne 13, 3) := of_decide_eq_true (List.all_eq_true.mp dsX12_mark_0_ok (17, (.ifCond .ne 13, 3)) (List.mem_of_getElem? (i := 11) rfl))
theorem dX12_mark_20 : decode cX12_mark 20 = .ok (.iload_n 1, 1) := of_decide_eq_true (List.all_eq_true.mp dsX12_mark_0_ok (20, (.iload_n 1, 1)) (List.mem_of_getElem? (i := 12) rfl))
theorem dX12_mark_21 : decode cX12_mark 21 = .ok (.bipush 48, 2) := of_decide_eq_true (List.all_eq_true.mp dsX12_mark_0_ok (21, (.bipush 48, 2)) (List.mem_of_getElem? (i := 13) rfl))
theorem dX12_mark_23 : decode cX12_mark 23 = .ok (.if_icmp .gt 7, 3) := of_decide_eq_true (List.all_eq_true.mp dsX12_mark_0_ok (23, (.if_icmp .gt 7, 3)) (List.mem_of_getElem? (i := 14) rfl))
theorem dX12_mark_26 : decode cX12_mark 26 = .ok (.iconst 1, 1) := of_decide_eq_true (List.all_eq_true.mp dsX12_mark_0_ok (26, (.iconst 1, 1)) (List.mem_of_getElem? (i := 15) rfl))
theorem dX12_mark_27 : decode cX12_mark 27 = .ok (.goto 4, 3) := of_decide_eq_true (List.all_eq_true.mp dsX12_mark_0_ok (27, (.goto 4, 3)) (List.mem_of_getElem? (i := 16) rfl))
theorem dX12_mark_30 : decode cX12_mark 30 = .ok (.iconst 0, 1) := of_decide_eq_true (List.all_eq_true.mp dsX12_mark_0_ok (30, (.iconst 0, 1)) (List.mem_of_getElem? (i := 17) rfl))
theorem dX12_mark_31 : decode cX12_mark 31 = .ok (.istore_n 2, 1) := of_decide_eq_true (List.all_eq_true.mp dsX12_mark_0_ok (31, (.istore_n 2, 1)) (List.mem_of_getElem? (i := 18) rfl))
theorem dX12_mark_32 : decode cX12_mark 32 = .ok (.iconst 0, 1) := of_decide_eq_true (List.all_eq_true.mp dsX12_mark_0_ok (32, (.iconst 0, 1)) (List.mem_of_getElem? (i := 19) rfl))
theorem dX12_mark_33 : decode cX12_mark 33 = .ok (.istore_n 3, 1) := of_decide_eq_true (List.all_eq_true.mp dsX12_mark_0_ok (33, (.istore_n 3, 1)) (List.mem_of_getElem? (i := 20) rfl))
theorem dX12_mark_34 : decode cX12_mark 34 = .ok (.iload_n 3, 1) := of_decide_eq_true (List.all_eq_true.mp dsX12_mark_0_ok (34, (.iload_n 3, 1)) (List.mem_of_getElem? (i := 21) rfl))
theorem dX12_mark_35 : decode cX12_mark 35 = .ok (.iload_n 1, 1) := of_decide_eq_true (List.all_eq_true.mp dsX12_mark_0_ok (35, (.iload_n 1, 1)) (List.mem_of_getElem? (i := 22) rfl))
theorem dX12_mark_36 : decode cX12_mark 36 = .ok (.if_icmp .ge 57, 3) := of_decide_eq_true (List.all_eq_true.mp dsX12_mark_0_ok (36, (.if_icmp .ge 57, 3)) (List.mem_of_getElem? (i := 23) rfl))
theorem dX12_mark_39 : decode cX12_mark 39 = .ok (.iload_n 2, 1) := of_decide_eq_true (List.all_eq_true.mp dsX12_mark_0_ok (39, (.iload_n 2, 1)) (List.mem_of_getElem? (i := 24) rfl))
theorem dX12_mark_40 : decode cX12_mark 40 = .ok (.ifCond .eq 53, 3) := of_decide_eq_true (List.all_eq_true.mp dsX12_mark_0_ok (40, (.ifCond .eq 53, 3)) (List.mem_of_getElem? (i := 25) rfl))
theorem dX12_mark_43 : decode cX12_mark 43 = .ok (.aload_n 0, 1) := of_decide_eq_true (List.all_eq_true.mp dsX12_mark_0_ok (43, (.aload_n 0, 1)) (List.mem_of_getElem? (i := 26) rfl))
theorem dX12_mark_44 : decode cX12_mark 44 = .ok (.getfield 7, 3) := of_decide_eq_true (List.all_eq_true.mp dsX12_mark_0_ok (44, (.getfield 7, 3)) (List.mem_of_getElem? (i := 27) rfl))
theorem dX12_mark_47 : decode cX12_mark 47 = .ok (.iload_n 3, 1) := of_decide_eq_true (List.all_eq_true.mp dsX12_mark_0_ok (47, (.iload_n 3, 1)) (List.mem_of_getElem? (i := 28) rfl))
theorem dX12_mark_48 : decode cX12_mark 48 = .ok (.iaload, 1) := of_decide_eq_true (List.all_eq_true.mp dsX12_mark_0_ok (48, (.iaload, 1)) (List.mem_of_getElem? (i := 29) rfl))
theorem dX12_mark_49 : decode cX12_mark 49 = .ok (.bipush 30, 2) := of_decide_eq_true (List.all_eq_true.mp dsX12_mark_0_ok (49, (.bipush 30, 2)) (List.mem_of_getElem? (i := 30) rfl))
theorem dX12_mark_51 : decode cX12_mark 51 = .ok (.if_icmp .gt 34, 3) := of_decide_eq_true (List.all_eq_true.mp dsX12_mark_0_ok (51, (.if_icmp .gt 34, 3)) (List.mem_of_getElem? (i := 31) rfl))
theorem dX12_mark_54 : decode cX12_mark 54 = .ok (.aload_n 0, 1) := of_decide_eq_true (List.all_eq_true.mp dsX12_mark_0_ok (54, (.aload_n 0, 1)) (List.mem_of_getElem? (i := 32) rfl))
theorem dX12_mark_55 : decode cX12_mark 55 = .ok (.aload_n 0, 1) := of_decide_eq_true (List.all_eq_true.mp dsX12_mark_0_ok (55, (.aload_n 0, 1)) (List.mem_of_getElem? (i := 33) rfl))
theorem dX12_mark_56 : decode cX12_mark 56 = .ok (.getfield 7, 3) := of_decide_eq_true (List.all_eq_true.mp dsX12_mark_0_ok (56, (.getfield 7, 3)) (List.mem_of_getElem? (i := 34) rfl))
theorem dX12_mark_59 : decode cX12_mark 59 = .ok (.iload_n 3, 1) := of_decide_eq_true (List.all_eq_true.mp dsX12_mark_0_ok (59, (.iload_n 3, 1)) (List.mem_of_getElem? (i := 35) rfl))
theorem dX12_mark_60 : decode cX12_mark 60 = .ok (.iconst 1, 1) := of_decide_eq_true (List.all_eq_true.mp dsX12_mark_0_ok (60, (.iconst 1, 1)) (List.mem_of_getElem? (i := 36) rfl))
theorem dX12_mark_61 : decode cX12_mark 61 = .ok (.iadd, 1) := of_decide_eq_true (List.all_eq_true.mp dsX12_mark_0_ok (61, (.iadd, 1)) (List.mem_of_getElem? (i := 37) rfl))
theorem dX12_mark_62 : decode cX12_mark 62 = .ok (.iaload, 1) := of_decide_eq_true (List.all_eq_true.mp dsX12_mark_0_ok (62, (.iaload, 1)) (List.mem_of_getElem? (i := 38) rfl))
theorem dX12_mark_63 : decode cX12_mark 63 = .ok (.invokevirtual 454, 3) := of_decide_eq_true (List.all_eq_true.mp dsX12_mark_0_ok (63, (.invokevirtual 454, 3)) (List.mem_of_getElem? (i := 39) rfl))
theorem dX12_mark_66 : decode cX12_mark 66 = .ok (.ifCond .eq 19, 3) := of_decide_eq_true (List.all_eq_true.mp dsX12_mark_0_ok (66, (.ifCond .eq 19, 3)) (List.mem_of_getElem? (i := 40) rfl))
theorem dX12_mark_69 : decode cX12_mark 69 = .ok (.aload_n 0, 1) := of_decide_eq_true (List.all_eq_true.mp dsX12_mark_0_ok (69, (.aload_n 0, 1)) (List.mem_of_getElem? (i := 41) rfl))
theorem dX12_mark_70 : decode cX12_mark 70 = .ok (.getfield 7, 3) := of_decide_eq_true (List.all_eq_true.mp dsX12_mark_0_ok (70, (.getfield 7, 3)) (List.mem_of_getElem? (i := 42) rfl))
theorem dX12_mark_73 : decode cX12_mark 73 = .ok (.iload_n 3, 1) := of_decide_eq_true (List.all_eq_true.mp dsX12_mark_0_ok (73, (.iload_n 3, 1)) (List.mem_of_getElem? (i := 43) rfl))
theorem dX12_mark_74 : decode cX12_mark 74 = .ok (.iconst 2, 1) := of_decide_eq_true (List.all_eq_true.mp dsX12_mark_0_ok (74, (.iconst 2, 1)) (List.mem_of_getElem? (i := 44) rfl))
theorem dX12_mark_75 : decode cX12_mark 75 = .ok (.iadd, 1) := of_decide_eq_true (List.all_eq_true.mp dsX12_mark_0_ok (75, (.iadd, 1)) (List.mem_of_getElem? (i := 45) rfl))
theorem dX12_mark_76 : decode cX12_mark 76 = .ok (.iaload, 1) := of_decide_eq_true (List.all_eq_true.mp dsX12_mark_0_ok (76, (.iaload, 1)) (List.mem_of_getElem? (i := 46) rfl))
theorem dX12_mark_77 : decode cX12_mark 77 = .ok (.iconst 1, 1) := of_decide_eq_true (List.all_eq_true.mp dsX12_mark_0_ok (77, (.iconst 1, 1)) (List.mem_of_getElem? (i := 47) rfl))
theorem dX12_mark_78 : decode cX12_mark 78 = .ok (.if_icmp .gt 7, 3) := of_decide_eq_true (List.all_eq_true.mp dsX12_mark_0_ok (78, (.if_icmp .gt 7, 3)) (List.mem_of_getElem? (i := 48) rfl))
theorem dX12_mark_81 : decode cX12_mark 81 = .ok (.iconst 1, 1) := of_decide_eq_true (List.all_eq_true.mp dsX12_mark_0_ok (81, (.iconst 1, 1)) (List.mem_of_getElem? (i := 49) rfl))
theorem dX12_mark_82 : decode cX12_mark 82 = .ok (.goto 4, 3) := of_decide_eq_true (List.all_eq_true.mp dsX12_mark_0_ok (82, (.goto 4, 3)) (List.mem_of_getElem? (i := 50) rfl))
theorem dX12_mark_85 : decode cX12_mark 85 = .ok (.iconst 0, 1) := of_decide_eq_true (List.all_eq_true.mp dsX12_mark_0_ok (85, (.iconst 0, 1)) (List.mem_of_getElem? (i := 51) rfl))
theorem dX12_mark_86 : decode cX12_mark 86 = .ok (.istore_n 2, 1) := of_decide_eq_true (List.all_eq_true.mp dsX12_mark_0_ok (86, (.istore_n 2, 1)) (List.mem_of_getElem? (i := 52) rfl))
theorem dX12_mark_87 : decode cX12_mark 87 = .ok (.iinc 3 3, 3) := of_decide_eq_true (List.all_eq_true.mp dsX12_mark_0_ok (87, (.iinc 3 3, 3)) (List.mem_of_getElem? (i := 53) rfl))
theorem dX12_mark_90 : decode cX12_mark 90 = .ok (.goto (-56), 3) := of_decide_eq_true (List.all_eq_true.mp dsX12_mark_0_ok (90, (.goto (-56), 3)) (List.mem_of_getElem? (i := 54) rfl))
theorem dX12_mark_93 : decode cX12_mark 93 = .ok (.iload_n 2, 1) := of_decide_eq_true (List.all_eq_true.mp dsX12_mark_0_ok (93, (.iload_n 2, 1)) (List.mem_of_getElem? (i := 55) rfl))
theorem dX12_mark_94 : decode cX12_mark 94 = .ok (.ifCond .ne 9, 3) := of_decide_eq_true (List.all_eq_true.mp dsX12_mark_0_ok (94, (.ifCond .ne 9, 3)) (List.mem_of_getElem? (i := 56) rfl))
theorem dX12_mark_97 : decode cX12_mark 97 = .ok (.aload_n 0, 1) := of_decide_eq_true (List.all_eq_true.mp dsX12_mark_0_ok (97, (.aload_n 0, 1)) (List.mem_of_getElem? (i := 57) rfl))
theorem dX12_mark_98 : decode cX12_mark 98 = .ok (.iconst 5, 1) := of_decide_eq_true (List.all_eq_true.mp dsX12_mark_0_ok (98, (.iconst 5, 1)) (List.mem_of_getElem? (i := 58) rfl))
theorem dX12_mark_99 : decode cX12_mark 99 = .ok (.invokevirtual 225, 3) := of_decide_eq_true (List.all_eq_true.mp dsX12_mark_0_ok (99, (.invokevirtual 225, 3)) (List.mem_of_getElem? (i := 59) rfl))
def dsX12_mark_1 : List (Nat × Instr × Nat) := [(102, (.ireturn, 1)), (103, (.aload_n 0, 1)), (104, (.iload_n 1, 1)), (105, (.iconst 3, 1)), (106, (.idiv, 1)), (107, (.putfield 201, 3)), (110, (.iconst 0, 1)), (111, (.istore_n 3, 1)), (112, (.iload_n 3, 1)), (113, (.aload_n 0, 1)), (114, (.getfield 201, 3)), (117, (.if_icmp .ge 55, 3)), (120, (.aload_n 0, 1)), (121, (.getfield 204, 3)), (124, (.iload_n 3, 1)), (125, (.aload_n 0, 1)), (126, (.getfield 7, 3)), (129, (.iconst 3, 1)), (130, (.iload_n 3, 1)), (131, (.imul, 1)), (132, (.iaload, 1)), (133, (.iastore, 1)), (134, (.aload_n 0, 1)), (135, (.getfield 207, 3)), (138, (.iload_n 3, 1)), (139, (.aload_n 0, 1)), (140, (.getfield 7, 3)), (143, (.iconst 3, 1)), (144, (.iload_n 3, 1)), (145, (.imul, 1)), (146, (.iconst 1, 1)), (147, (.iadd, 1)), (148, (.iaload, 1)), (149, (.iastore, 1)), (150, (.aload_n 0, 1)), (151, (.getfield 210, 3)), (154, (.iload_n 3, 1)), (155, (.aload_n 0, 1)), (156, (.getfield 7, 3)), (159, (.iconst 3, 1)), (160, (.iload_n 3, 1)), (161, (.imul, 1)), (162, (.iconst 2, 1)), (163, (.iadd, 1)), (164, (.iaload, 1)), (165, (.iastore, 1)), (166, (.iinc 3 1, 3)), (169, (.goto (-57), 3)), (172, (.aload_n 0, 1)), (173, (.getfield 201, 3)), (176, (.ireturn, 1))]
theorem dsX12_mark_1_ok : (dsX12_mark_1.all fun q => decide (decode cX12_mark q.1 = .ok q.2)) = true := by decide +kernel
theorem dX12_mark_102 : decode cX12_mark 102 = .ok (.ireturn, 1) := of_decide_eq_true (List.all_eq_true.mp dsX12_mark_1_ok (102, (.ireturn, 1)) (List.mem_of_getElem? (i := 0) rfl))
theorem dX12_mark_103 : decode cX12_mark 103 = .ok (.aload_n 0, 1) := of_decide_eq_true (List.all_eq_true.mp dsX12_mark_1_ok (103, (.aload_n 0, 1)) (List.mem_of_getElem? (i := 1) rfl))
theorem dX12_mark_104 : decode cX12_mark 104 = .ok (.iload_n 1, 1) := of_decide_eq_true (List.all_eq_true.mp dsX12_mark_1_ok (104, (.iload_n 1, 1)) (List.mem_of_getElem? (i := 2) rfl))
theorem dX12_mark_105 : decode cX12_mark 105 = .ok (.iconst 3, 1) := of_decide_eq_true (List.all_eq_true.mp dsX12_mark_1_ok (105, (.iconst 3, 1)) (List.mem_of_getElem? (i := 3) rfl))
theorem dX12_mark_106 : decode cX12_mark 106 = .ok (.idiv, 1) := of_decide_eq_true (List.all_eq_true.mp dsX12_mark_1_ok (106, (.idiv, 1)) (List.mem_of_getElem? (i := 4) rfl))
theorem dX12_mark_107 : decode cX12_mark 107 = .ok (.putfield 201, 3) := of_decide_eq_true (List.all_eq_true.mp dsX12_mark_1_ok (107, (.putfield 201, 3)) (List.mem_of_getElem? (i := 5) rfl))
theorem dX12_mark_110 : decode cX12_mark 110 = .ok (.iconst 0, 1) := of_decide_eq_true (List.all_eq_true.mp dsX12_mark_1_ok (110, (.iconst 0, 1)) (List.mem_of_getElem? (i := 6) rfl))
theorem dX12_mark_111 : decode cX12_mark 111 = .ok (.istore_n 3, 1) := of_decide_eq_true (List.all_eq_true.mp dsX12_mark_1_ok (111, (.istore_n 3, 1)) (List.mem_of_getElem? (i := 7) rfl))
theorem dX12_mark_112 : decode cX12_mark 112 = .ok (.iload_n 3, 1) := of_decide_eq_true (List.all_eq_true.mp dsX12_mark_1_ok (112, (.iload_n 3, 1)) (List.mem_of_getElem? (i := 8) rfl))
theorem dX12_mark_113 : decode cX12_mark 113 = .ok (.aload_n 0, 1) := of_decide_eq_true (List.all_eq_true.mp dsX12_mark_1_ok (113, (.aload_n 0, 1)) (List.mem_of_getElem? (i := 9) rfl))
theorem dX12_mark_114 : decode cX12_mark 114 = .ok (.getfield 201, 3) := of_decide_eq_true (List.all_eq_true.mp dsX12_mark_1_ok (114, (.getfield 201, 3)) (List.mem_of_getElem? (i := 10) rfl))
theorem dX12_mark_117 : decode cX12_mark 117 = .ok (.if_icmp .ge 55, 3) := of_decide_eq_true (List.all_eq_true.mp dsX12_mark_1_ok (117, (.if_icmp .ge 55, 3)) (List.mem_of_getElem? (i := 11) rfl))
theorem dX12_mark_120 : decode cX12_mark 120 = .ok (.aload_n 0, 1) := of_decide_eq_true (List.all_eq_true.mp dsX12_mark_1_ok (120, (.aload_n 0, 1)) (List.mem_of_getElem? (i := 12) rfl))
theorem dX12_mark_121 : decode cX12_mark 121 = .ok (.getfield 204, 3) := of_decide_eq_true (List.all_eq_true.mp dsX12_mark_1_ok (121, (.getfield 204, 3)) (List.mem_of_getElem? (i := 13) rfl))
theorem dX12_mark_124 : decode cX12_mark 124 = .ok (.iload_n 3, 1) := of_decide_eq_true (List.all_eq_true.mp dsX12_mark_1_ok (124, (.iload_n 3, 1)) (List.mem_of_getElem? (i := 14) rfl))
theorem dX12_mark_125 : decode cX12_mark 125 = .ok (.aload_n 0, 1) := of_decide_eq_true (List.all_eq_true.mp dsX12_mark_1_ok (125, (.aload_n 0, 1)) (List.mem_of_getElem? (i := 15) rfl))
theorem dX12_mark_126 : decode cX12_mark 126 = .ok (.getfield 7, 3) := of_decide_eq_true (List.all_eq_true.mp dsX12_mark_1_ok (126, (.getfield 7, 3)) (List.mem_of_getElem? (i := 16) rfl))
theorem dX12_mark_129 : decode cX12_mark 129 = .ok (.iconst 3, 1) := of_decide_eq_true (List.all_eq_true.mp dsX12_mark_1_ok (129, (.iconst 3, 1)) (List.mem_of_getElem? (i := 17) rfl))
theorem dX12_mark_130 : decode cX12_mark 130 = .ok (.iload_n 3, 1) := of_decide_eq_true (List.all_eq_true.mp dsX12_mark_1_ok (130, (.iload_n 3, 1)) (List.mem_of_getElem? (i := 18) rfl))
theorem dX12_mark_131 : decode cX12_mark 131 = .ok (.imul, 1) := of_decide_eq_true (List.all_eq_true.mp dsX12_mark_1_ok (131, (.imul, 1)) (List.mem_of_getElem? (i := 19) rfl))
theorem dX12_mark_132 : decode cX12_mark 132 = .ok (.iaload, 1) := of_decide_eq_true (List.all_eq_true.mp dsX12_mark_1_ok (132, (.iaload, 1)) (List.mem_of_getElem? (i := 20) rfl))
theorem dX12_mark_133 : decode cX12_mark 133 = .ok (.iastore, 1) := of_decide_eq_true (List.all_eq_true.mp dsX12_mark_1_ok (133, (.iastore, 1)) (List.mem_of_getElem? (i := 21) rfl))
theorem dX12_mark_134 : decode cX12_mark 134 = .ok (.aload_n 0, 1) := of_decide_eq_true (List.all_eq_true.mp dsX12_mark_1_ok (134, (.aload_n 0, 1)) (List.mem_of_getElem? (i := 22) rfl))
theorem dX12_mark_135 : decode cX12_mark 135 = .ok (.getfield 207, 3) := of_decide_eq_true (List.all_eq_true.mp dsX12_mark_1_ok (135, (.getfield 207, 3)) (List.mem_of_getElem? (i := 23) rfl))
theorem dX12_mark_138 : decode cX12_mark 138 = .ok (.iload_n 3, 1) := of_decide_eq_true (List.all_eq_true.mp dsX12_mark_1_ok (138, (.iload_n 3, 1)) (List.mem_of_getElem? (i := 24) rfl))
theorem dX12_mark_139 : decode cX12_mark 139 = .ok (.aload_n 0, 1) := of_decide_eq_true (List.all_eq_true.mp dsX12_mark_1_ok (139, (.aload_n 0, 1)) (List.mem_of_getElem? (i := 25) rfl))
theorem dX12_mark_140 : decode cX12_mark 140 = .ok (.getfield 7, 3) := of_decide_eq_true (List.all_eq_true.mp dsX12_mark_1_ok (140, (.getfield 7, 3)) (List.mem_of_getElem? (i := 26) rfl))
theorem dX12_mark_143 : decode cX12_mark 143 = .ok (.iconst 3, 1) := of_decide_eq_true (List.all_eq_true.mp dsX12_mark_1_ok (143, (.iconst 3, 1)) (List.mem_of_getElem? (i := 27) rfl))
theorem dX12_mark_144 : decode cX12_mark 144 = .ok (.iload_n 3, 1) := of_decide_eq_true (List.all_eq_true.mp dsX12_mark_1_ok (144, (.iload_n 3, 1)) (List.mem_of_getElem? (i := 28) rfl))
theorem dX12_mark_145 : decode cX12_mark 145 = .ok (.imul, 1) := of_decide_eq_true (List.all_eq_true.mp dsX12_mark_1_ok (145, (.imul, 1)) (List.mem_of_getElem? (i := 29) rfl))
theorem dX12_mark_146 : decode cX12_mark 146 = .ok (.iconst 1, 1) := of_decide_eq_true (List.all_eq_true.mp dsX12_mark_1_ok (146, (.iconst 1, 1)) (List.mem_of_getElem? (i := 30) rfl))
theorem dX12_mark_147 : decode cX12_mark 147 = .ok (.iadd, 1) := of_decide_eq_true (List.all_eq_true.mp dsX12_mark_1_ok (147, (.iadd, 1)) (List.mem_of_getElem? (i := 31) rfl))
theorem dX12_mark_148 : decode cX12_mark 148 = .ok (.iaload, 1) := of_decide_eq_true (List.all_eq_true.mp dsX12_mark_1_ok (148, (.iaload, 1)) (List.mem_of_getElem? (i := 32) rfl))
theorem dX12_mark_149 : decode cX12_mark 149 = .ok (.iastore, 1) := of_decide_eq_true (List.all_eq_true.mp dsX12_mark_1_ok (149, (.iastore, 1)) (List.mem_of_getElem? (i := 33) rfl))
theorem dX12_mark_150 : decode cX12_mark 150 = .ok (.aload_n 0, 1) := of_decide_eq_true (List.all_eq_true.mp dsX12_mark_1_ok (150, (.aload_n 0, 1)) (List.mem_of_getElem? (i := 34) rfl))
theorem dX12_mark_151 : decode cX12_mark 151 = .ok (.getfield 210, 3) := of_decide_eq_true (List.all_eq_true.mp dsX12_mark_1_ok (151, (.getfield 210, 3)) (List.mem_of_getElem? (i := 35) rfl))
theorem dX12_mark_154 : decode cX12_mark 154 = .ok (.iload_n 3, 1) := of_decide_eq_true (List.all_eq_true.mp dsX12_mark_1_ok (154, (.iload_n 3, 1)) (List.mem_of_getElem? (i := 36) rfl))
theorem dX12_mark_155 : decode cX12_mark 155 = .ok (.aload_n 0, 1) := of_decide_eq_true (List.all_eq_true.mp dsX12_mark_1_ok (155, (.aload_n 0, 1)) (List.mem_of_getElem? (i := 37) rfl))
theorem dX12_mark_156 : decode cX12_mark 156 = .ok (.getfield 7, 3) := of_decide_eq_true (List.all_eq_true.mp dsX12_mark_1_ok (156, (.getfield 7, 3)) (List.mem_of_getElem? (i := 38) rfl))
theorem dX12_mark_159 : decode cX12_mark 159 = .ok (.iconst 3, 1) := of_decide_eq_true (List.all_eq_true.mp dsX12_mark_1_ok (159, (.iconst 3, 1)) (List.mem_of_getElem? (i := 39) rfl))
theorem dX12_mark_160 : decode cX12_mark 160 = .ok (.iload_n 3, 1) := of_decide_eq_true (List.all_eq_true.mp dsX12_mark_1_ok (160, (.iload_n 3, 1)) (List.mem_of_getElem? (i := 40) rfl))
theorem dX12_mark_161 : decode cX12_mark 161 = .ok (.imul, 1) := of_decide_eq_true (List.all_eq_true.mp dsX12_mark_1_ok (161, (.imul, 1)) (List.mem_of_getElem? (i := 41) rfl))
theorem dX12_mark_162 : decode cX12_mark 162 = .ok (.iconst 2, 1) := of_decide_eq_true (List.all_eq_true.mp dsX12_mark_1_ok (162, (.iconst 2, 1)) (List.mem_of_getElem? (i := 42) rfl))
theorem dX12_mark_163 : decode cX12_mark 163 = .ok (.iadd, 1) := of_decide_eq_true (List.all_eq_true.mp dsX12_mark_1_ok (163, (.iadd, 1)) (List.mem_of_getElem? (i := 43) rfl))
theorem dX12_mark_164 : decode cX12_mark 164 = .ok (.iaload, 1) := of_decide_eq_true (List.all_eq_true.mp dsX12_mark_1_ok (164, (.iaload, 1)) (List.mem_of_getElem? (i := 44) rfl))
theorem dX12_mark_165 : decode cX12_mark 165 = .ok (.iastore, 1) := of_decide_eq_true (List.all_eq_true.mp dsX12_mark_1_ok (165, (.iastore, 1)) (List.mem_of_getElem? (i := 45) rfl))
theorem dX12_mark_166 : decode cX12_mark 166 = .ok (.iinc 3 1, 3) := of_decide_eq_true (List.all_eq_true.mp dsX12_mark_1_ok (166, (.iinc 3 1, 3)) (List.mem_of_getElem? (i := 46) rfl))
theorem dX12_mark_169 : decode cX12_mark 169 = .ok (.goto (-57), 3) := of_decide_eq_true (List.all_eq_true.mp dsX12_mark_1_ok (169, (.goto (-57), 3)) (List.mem_of_getElem? (i := 47) rfl))
theorem dX12_mark_172 : decode cX12_mark 172 = .ok (.aload_n 0, 1) := of_decide_eq_true (List.all_eq_true.mp dsX12_mark_1_ok (172, (.aload_n 0, 1)) (List.mem_of_getElem? (i := 48) rfl))
theorem dX12_mark_173 : decode cX12_mark 173 = .ok (.getfield 201, 3) := of_decide_eq_true (List.all_eq_true.mp dsX12_mark_1_ok (173, (.getfield 201, 3)) (List.mem_of_getElem? (i := 49) rfl))
theorem dX12_mark_176 : decode cX12_mark 176 = .ok (.ireturn, 1) := of_decide_eq_true (List.all_eq_true.mp dsX12_mark_1_ok (176, (.ireturn, 1)) (List.mem_of_getElem? (i := 50) rfl))
def fX12_mark_l112 (N : Nat) (mm_tapeF : Nat → Int32) (mm_earsF : Nat → Int32)  (k112 : ((Nat → Int32) × (Nat → Int32) × (Nat → Int32) × (Nat → Int32) × (Nat → Int32) × Int32) → Option (Int32 × (Nat → Int32) × (Nat → Int32) × (Nat → Int32) × (Nat → Int32) × (Nat → Int32))) : ((Nat → Int32) × (Nat → Int32) × (Nat → Int32) × (Nat → Int32) × (Nat → Int32) × Int32) → Option (Int32 × (Nat → Int32) × (Nat → Int32) × (Nat → Int32) × (Nat → Int32) × (Nat → Int32)) :=
  fun (mmI_112, mm_refusedF_112, mm_markNightF_112, mm_markEarF_112, mm_markIsF_112, x3_112) => (if (mmI_112 62) ≤ x3_112 then some ((mmI_112 62, mmI_112, mm_refusedF_112, mm_markNightF_112, mm_markEarF_112, mm_markIsF_112)) else (xq_bd (xq_ald 1800 mm_tapeF (3 * x3_112)) fun v_1 => (xq_bd (xq_ast 16 mm_markNightF_112 x3_112 v_1) fun g_2 => (xq_bd (xq_ald 1800 mm_tapeF ((3 * x3_112) + 1)) fun v_3 => (xq_bd (xq_ast 16 mm_markEarF_112 x3_112 v_3) fun g_4 => (xq_bd (xq_ald 1800 mm_tapeF ((3 * x3_112) + 2)) fun v_5 => (xq_bd (xq_ast 16 mm_markIsF_112 x3_112 v_5) fun g_6 => k112 (mmI_112, mm_refusedF_112, g_2, g_4, g_6, x3_112 + 1))))))))
def fX12_mark_b93 (N : Nat) (mm_tapeF : Nat → Int32) (mm_earsF : Nat → Int32)   : ((Nat → Int32) × (Nat → Int32) × (Nat → Int32) × (Nat → Int32) × (Nat → Int32) × Int32 × Int32) → Option (Int32 × (Nat → Int32) × (Nat → Int32) × (Nat → Int32) × (Nat → Int32) × (Nat → Int32)) :=
  fun (mmI_93, mm_refusedF_93, mm_markNightF_93, mm_markEarF_93, mm_markIsF_93, x1_93, x2_93) => (if x2_93 = 0 then (xq_bd (fX12_refuses N mm_refusedF_93 5) fun (r_8_0, r_8_1) => some ((r_8_0, mmI_93, r_8_1, mm_markNightF_93, mm_markEarF_93, mm_markIsF_93))) else (xq_bd (xq_dv x1_93 3) fun v_7 => xq_loop (fX12_mark_l112 N mm_tapeF mm_earsF) N ((va_up mmI_93 62 v_7), mm_refusedF_93, mm_markNightF_93, mm_markEarF_93, mm_markIsF_93, 0)))
def fX12_mark_b86 (N : Nat) (mm_tapeF : Nat → Int32) (mm_earsF : Nat → Int32)  (k34 : ((Nat → Int32) × (Nat → Int32) × (Nat → Int32) × (Nat → Int32) × (Nat → Int32) × Int32 × Int32 × Int32) → Option (Int32 × (Nat → Int32) × (Nat → Int32) × (Nat → Int32) × (Nat → Int32) × (Nat → Int32))) : ((Nat → Int32) × (Nat → Int32) × (Nat → Int32) × (Nat → Int32) × (Nat → Int32) × Int32 × Int32 × Int32) → Option (Int32 × (Nat → Int32) × (Nat → Int32) × (Nat → Int32) × (Nat → Int32) × (Nat → Int32)) :=
  fun (mmI_86, mm_refusedF_86, mm_markNightF_86, mm_markEarF_86, mm_markIsF_86, x1_86, x3_86, y0_86) => k34 (mmI_86, mm_refusedF_86, mm_markNightF_86, mm_markEarF_86, mm_markIsF_86, x1_86, y0_86, x3_86 + 3)
def fX12_mark_b85 (N : Nat) (mm_tapeF : Nat → Int32) (mm_earsF : Nat → Int32)  (k34 : ((Nat → Int32) × (Nat → Int32) × (Nat → Int32) × (Nat → Int32) × (Nat → Int32) × Int32 × Int32 × Int32) → Option (Int32 × (Nat → Int32) × (Nat → Int32) × (Nat → Int32) × (Nat → Int32) × (Nat → Int32))) : ((Nat → Int32) × (Nat → Int32) × (Nat → Int32) × (Nat → Int32) × (Nat → Int32) × Int32 × Int32) → Option (Int32 × (Nat → Int32) × (Nat → Int32) × (Nat → Int32) × (Nat → Int32) × (Nat → Int32)) :=
  fun (mmI_85, mm_refusedF_85, mm_markNightF_85, mm_markEarF_85, mm_markIsF_85, x1_85, x3_85) => fX12_mark_b86 N mm_tapeF mm_earsF k34 (mmI_85, mm_refusedF_85, mm_markNightF_85, mm_markEarF_85, mm_markIsF_85, x1_85, x3_85, 0)
def fX12_mark_l34 (N : Nat) (mm_tapeF : Nat → Int32) (mm_earsF : Nat → Int32)  (k34 : ((Nat → Int32) × (Nat → Int32) × (Nat → Int32) × (Nat → Int32) × (Nat → Int32) × Int32 × Int32 × Int32) → Option (Int32 × (Nat → Int32) × (Nat → Int32) × (Nat → Int32) × (Nat → Int32) × (Nat → Int32))) : ((Nat → Int32) × (Nat → Int32) × (Nat → Int32) × (Nat → Int32) × (Nat → Int32) × Int32 × Int32 × Int32) → Option (Int32 × (Nat → Int32) × (Nat → Int32) × (Nat → Int32) × (Nat → Int32) × (Nat → Int32)) :=
  fun (mmI_34, mm_refusedF_34, mm_markNightF_34, mm_markEarF_34, mm_markIsF_34, x1_34, x2_34, x3_34) => (if x1_34 ≤ x3_34 then fX12_mark_b93 N mm_tapeF mm_earsF (mmI_34, mm_refusedF_34, mm_markNightF_34, mm_markEarF_34, mm_markIsF_34, x1_34, x2_34) else (if x2_34 = 0 then fX12_mark_b93 N mm_tapeF mm_earsF (mmI_34, mm_refusedF_34, mm_markNightF_34, mm_markEarF_34, mm_markIsF_34, x1_34, x2_34) else (xq_bd (xq_ald 1800 mm_tapeF x3_34) fun v_10 => (if 30 < v_10 then fX12_mark_b85 N mm_tapeF mm_earsF k34 (mmI_34, mm_refusedF_34, mm_markNightF_34, mm_markEarF_34, mm_markIsF_34, x1_34, x3_34) else (xq_bd (xq_ald 1800 mm_tapeF (x3_34 + 1)) fun v_11 => (xq_bd (fX12_isEar N mmI_34 mm_earsF v_11) fun r_12 => (if r_12 = 0 then fX12_mark_b85 N mm_tapeF mm_earsF k34 (mmI_34, mm_refusedF_34, mm_markNightF_34, mm_markEarF_34, mm_markIsF_34, x1_34, x3_34) else (xq_bd (xq_ald 1800 mm_tapeF (x3_34 + 2)) fun v_14 => (if 1 < v_14 then fX12_mark_b85 N mm_tapeF mm_earsF k34 (mmI_34, mm_refusedF_34, mm_markNightF_34, mm_markEarF_34, mm_markIsF_34, x1_34, x3_34) else fX12_mark_b86 N mm_tapeF mm_earsF k34 (mmI_34, mm_refusedF_34, mm_markNightF_34, mm_markEarF_34, mm_markIsF_34, x1_34, x3_34, 1))))))))))
def fX12_mark_b31 (N : Nat) (mm_tapeF : Nat → Int32) (mm_earsF : Nat → Int32)   : ((Nat → Int32) × (Nat → Int32) × (Nat → Int32) × (Nat → Int32) × (Nat → Int32) × Int32 × Int32) → Option (Int32 × (Nat → Int32) × (Nat → Int32) × (Nat → Int32) × (Nat → Int32) × (Nat → Int32)) :=
  fun (mmI_31, mm_refusedF_31, mm_markNightF_31, mm_markEarF_31, mm_markIsF_31, x1_31, y0_31) => xq_loop (fX12_mark_l34 N mm_tapeF mm_earsF) N (mmI_31, mm_refusedF_31, mm_markNightF_31, mm_markEarF_31, mm_markIsF_31, x1_31, y0_31, 0)
def fX12_mark_b30 (N : Nat) (mm_tapeF : Nat → Int32) (mm_earsF : Nat → Int32)   : ((Nat → Int32) × (Nat → Int32) × (Nat → Int32) × (Nat → Int32) × (Nat → Int32) × Int32) → Option (Int32 × (Nat → Int32) × (Nat → Int32) × (Nat → Int32) × (Nat → Int32) × (Nat → Int32)) :=
  fun (mmI_30, mm_refusedF_30, mm_markNightF_30, mm_markEarF_30, mm_markIsF_30, x1_30) => fX12_mark_b31 N mm_tapeF mm_earsF (mmI_30, mm_refusedF_30, mm_markNightF_30, mm_markEarF_30, mm_markIsF_30, x1_30, 0)
def fX12_mark (N : Nat) (mmI : Nat → Int32) (mm_tapeF : Nat → Int32) (mm_earsF : Nat → Int32) (mm_refusedF : Nat → Int32) (mm_markNightF : Nat → Int32) (mm_markEarF : Nat → Int32) (mm_markIsF : Nat → Int32)   : Option (Int32 × (Nat → Int32) × (Nat → Int32) × (Nat → Int32) × (Nat → Int32) × (Nat → Int32)) :=
  (if (mmI 1) ≤ 0 then fX12_mark_b30 N mm_tapeF mm_earsF ((va_up mmI 1 0), mm_refusedF, mm_markNightF, mm_markEarF, mm_markIsF, mmI 1) else (xq_bd (xq_rm (mmI 1) 3) fun v_1 => (if v_1 = 0 then (if 48 < (mmI 1) then fX12_mark_b30 N mm_tapeF mm_earsF ((va_up mmI 1 0), mm_refusedF, mm_markNightF, mm_markEarF, mm_markIsF, mmI 1) else fX12_mark_b31 N mm_tapeF mm_earsF ((va_up mmI 1 0), mm_refusedF, mm_markNightF, mm_markEarF, mm_markIsF, mmI 1, 1)) else fX12_mark_b30 N mm_tapeF mm_earsF ((va_up mmI 1 0), mm_refusedF, mm_markNightF, mm_markEarF, mm_markIsF, mmI 1))))
set_option maxHeartbeats 4000000 in
set_option maxRecDepth 100000 in
theorem kX12_mark (l : Launch) (dC : Nat → ClassId) (dI : Nat → Nat → Nat) (cI cB cJ cZ cM : ClassId) (z : Nat) (ad : Nat → Nat) (N : Nat) (a_p0 : Nat) (mmI : Nat → Int32) (mmJ : Nat → Int64) (mmR : Nat → Nat) (mm_tapeF : Nat → Int32) (mm_earsF : Nat → Int32) (mm_refusedF : Nat → Int32) (mm_markNightF : Nat → Int32) (mm_markEarF : Nat → Int32) (mm_markIsF : Nat → Int32) {r0 : Int32} {r1 : Nat → Int32} {r2 : Nat → Int32} {r3 : Nat → Int32} {r4 : Nat → Int32} {r5 : Nat → Int32} (hf : fX12_mark N mmI mm_tapeF mm_earsF mm_refusedF mm_markNightF mm_markEarF mm_markIsF = some (r0, r1, r2, r3, r4, r5)) : xq_Ct l yX12_mark wsX12_mark { frames := 1, cells := 0, slots := 0, locals := 21 } (dC, dI) vwCl (xq_tys cI cB cJ cZ cM) z ad [.ref a_p0] [(a_p0, .inr (12, oX12 mmI mmJ mmR)), ((mmR 0), .inl (cI, 1800, .inl mm_tapeF)), ((mmR 18), .inl (cI, 2, .inl mm_earsF)), ((mmR 44), .inl (cI, 6, .inl mm_refusedF)), ((mmR 63), .inl (cI, 16, .inl mm_markNightF)), ((mmR 64), .inl (cI, 16, .inl mm_markEarF)), ((mmR 65), .inl (cI, 16, .inl mm_markIsF))] [(a_p0, .inr (12, oX12 r1 mmJ mmR)), ((mmR 0), .inl (cI, 1800, .inl mm_tapeF)), ((mmR 18), .inl (cI, 2, .inl mm_earsF)), ((mmR 44), .inl (cI, 6, .inl r2)), ((mmR 63), .inl (cI, 16, .inl r3)), ((mmR 64), .inl (cI, 16, .inl r4)), ((mmR 65), .inl (cI, 16, .inl r5))] (some (.int r0)) := by
  intro sz
  refine Met.ofW (cc := cX12_mark) (maxL := 4) (ret := (some .int)) (by decide) rfl ?_
  intro p e s m args below meth c s₁ B hml hv
  obtain ⟨rfl, hsz, hP, hK, hD0, hE, hz⟩ := hv
  have hx := B.exec
  have hb := B.bytes
  have hr := B.returns
  have hts := atoms_spec (ws := wsX12_mark) B.pre
  have hown : s.vm.findClass RX12 = some m.cls := findClass_of_methodNamed B.named
  have hlocks := B.notSynchronized
  subst hsz
  have hD := hD0.self (sz := s.heap.size)
  have hN := xq_Env.of hE hz hD0
  generalize hAe : va_A [(a_p0, .inr (12, oX12 mmI mmJ mmR)), ((mmR 0), .inl (cI, 1800, .inl mm_tapeF)), ((mmR 18), .inl (cI, 2, .inl mm_earsF)), ((mmR 44), .inl (cI, 6, .inl mm_refusedF)), ((mmR 63), .inl (cI, 16, .inl mm_markNightF)), ((mmR 64), .inl (cI, 16, .inl mm_markEarF)), ((mmR 65), .inl (cI, 16, .inl mm_markIsF))] s.heap.size = A at hD hN ⊢
  have hA : ∀ q : Nat, s.heap.size ≤ q → A q := fun q h => by rw [← hAe]; exact Or.inr h
  clear hAe hD0
  have hS : va_S A s.heap s.heap [] := va_S.rf
  have hl := lv_entry ([.ref a_p0]) (n := 4) (Nat.le_of_ble_eq_true rfl)
  rw [lg_entry_eq]
  generalize (lg_sl ([.ref a_p0]) ++ List.replicate (4 - (lg_sl ([.ref a_p0])).length) Slot.unset).toArray = ls at hl ⊢
  have hl : lv_has ls 4 [(0, .ref a_p0)] := hl
  have hw0 := hts (.fieldLink RX12 13 "DistantVoiceModel" "taped" "I") (by decide +kernel)
  have hinX12 : ∀ w ∈ wsX120, w ∈ wsX12_mark := fun w h => List.mem_cons_of_mem _ (List.mem_append_right _ h)
  have hw2 := hts (.fieldLink RX12 7 "DistantVoiceModel" "tape" "[I") (by decide +kernel)
  have hw3 := hts (.fieldLink RX12 201 "DistantVoiceModel" "marked" "I") (by decide +kernel)
  have hw4 := hts (.fieldLink RX12 204 "DistantVoiceModel" "markNight" "[I") (by decide +kernel)
  have hw5 := hts (.fieldLink RX12 207 "DistantVoiceModel" "markEar" "[I") (by decide +kernel)
  have hw6 := hts (.fieldLink RX12 210 "DistantVoiceModel" "markIs" "[I") (by decide +kernel)
  have l112 : ∀ n112 : Nat, ∀ (mmI_112 : Nat → Int32) (mm_refusedF_112 : Nat → Int32) (mm_markNightF_112 : Nat → Int32) (mm_markEarF_112 : Nat → Int32) (mm_markIsF_112 : Nat → Int32) (x3_112 : Int32) (ls : Array Slot) (H : Heap) (locs : List Loc), xq_loop (fX12_mark_l112 N mm_tapeF mm_earsF) n112 (mmI_112, mm_refusedF_112, mm_markNightF_112, mm_markEarF_112, mm_markIsF_112, x3_112) = some (r0, r1, r2, r3, r4, r5) → va_P (dC, dI) vwCl [(a_p0, .inr (12, oX12 mmI_112 mmJ mmR)), ((mmR 0), .inl (cI, 1800, .inl mm_tapeF)), ((mmR 18), .inl (cI, 2, .inl mm_earsF)), ((mmR 44), .inl (cI, 6, .inl mm_refusedF_112)), ((mmR 63), .inl (cI, 16, .inl mm_markNightF_112)), ((mmR 64), .inl (cI, 16, .inl mm_markEarF_112)), ((mmR 65), .inl (cI, 16, .inl mm_markIsF_112))] H → va_D A [(a_p0, .inr (12, oX12 mmI_112 mmJ mmR)), ((mmR 0), .inl (cI, 1800, .inl mm_tapeF)), ((mmR 18), .inl (cI, 2, .inl mm_earsF)), ((mmR 44), .inl (cI, 6, .inl mm_refusedF_112)), ((mmR 63), .inl (cI, 16, .inl mm_markNightF_112)), ((mmR 64), .inl (cI, 16, .inl mm_markEarF_112)), ((mmR 65), .inl (cI, 16, .inl mm_markIsF_112))] → va_S A s.heap H locs → lv_has ls 4 [(0, .ref a_p0), (3, .int x3_112)] → W p l e (headSpec wsX12_mark { frames := 1, cells := 0, slots := 0, locals := 21 }).room s m [.ref a_p0].toArray below meth c H locs 0 0 (MQ below (xq_Q (dC, dI) vwCl (xq_tys cI cB cJ cZ cM) A [(a_p0, .inr (12, oX12 r1 mmJ mmR)), ((mmR 0), .inl (cI, 1800, .inl mm_tapeF)), ((mmR 18), .inl (cI, 2, .inl mm_earsF)), ((mmR 44), .inl (cI, 6, .inl r2)), ((mmR 63), .inl (cI, 16, .inl r3)), ((mmR 64), .inl (cI, 16, .inl r4)), ((mmR 65), .inl (cI, 16, .inl r5))] (some (.int r0))) [.ref a_p0].toArray s 0 0 A) (F0 m 112 ls []) := by
    intro n112
    induction n112 with
    | zero => intro mmI_112 mm_refusedF_112 mm_markNightF_112 mm_markEarF_112 mm_markIsF_112 x3_112 ls H locs hf; cases (show none = some (r0, r1, r2, r3, r4, r5) from hf)
    | succ n112 ih112 =>
      intro mmI_112 mm_refusedF_112 mm_markNightF_112 mm_markEarF_112 mm_markIsF_112 x3_112 ls H locs hf hP hD hS hl
      have hf : fX12_mark_l112 N mm_tapeF mm_earsF (xq_loop (fX12_mark_l112 N mm_tapeF mm_earsF) n112) (mmI_112, mm_refusedF_112, mm_markNightF_112, mm_markEarF_112, mm_markIsF_112, x3_112) = some (r0, r1, r2, r3, r4, r5) := hf
      unfold fX12_mark_l112 at hf
      refine lv_iload_n hx hb dX12_mark_112 rfl (lv_at hl 1 rfl) ?_
      refine lv_aload_n hx hb dX12_mark_113 rfl (lv_at hl 0 rfl) ?_
      refine va_get (D := (dC, dI)) (ci := 12) (v := .int (mmI_112 62)) (C := RX12) (T := TX12) (N := 70) hx hb hts hinX12 hown hK hP 0 rfl rfl 62 (by decide) hw3 (fun _ h9 => h9) rfl dX12_mark_114 ?_
      refine lv_icmp_ge (tgt := 172) hx hb dX12_mark_117 (by decide) (fun c_ => ?_) (fun c_ => ?_)
      · have hf := xq_pos hf c_
        refine lv_aload_n hx hb dX12_mark_172 rfl (lv_at hl 0 rfl) ?_
        refine va_get (D := (dC, dI)) (ci := 12) (v := .int (mmI_112 62)) (C := RX12) (T := TX12) (N := 70) hx hb hts hinX12 hown hK hP 0 rfl rfl 62 (by decide) hw3 (fun _ h9 => h9) rfl dX12_mark_173 ?_
        have e9 := Option.some.inj hf
        have e9_0 : mmI_112 62 = r0 := congrArg (fun t => t.1) e9
        have e9_1 : mmI_112 = r1 := congrArg (fun t => t.2.1) e9
        have e9_2 : mm_refusedF_112 = r2 := congrArg (fun t => t.2.2.1) e9
        have e9_3 : mm_markNightF_112 = r3 := congrArg (fun t => t.2.2.2.1) e9
        have e9_4 : mm_markEarF_112 = r4 := congrArg (fun t => t.2.2.2.2.1) e9
        have e9_5 : mm_markIsF_112 = r5 := congrArg (fun t => t.2.2.2.2.2) e9
        clear e9 hf
        try clear b30
        try clear b31
        try clear b85
        try clear b86
        try clear b93
        try clear l112
        try clear l34
        try clear ih112
        try clear ih34
        subst e9_0
        subst e9_1
        subst e9_2
        subst e9_3
        subst e9_4
        subst e9_5
        exact xq_iret hx hb hr hlocks hK hP hD hS dX12_mark_176
      · have hf := xq_neg hf c_
        refine lv_aload_n hx hb dX12_mark_120 rfl (lv_at hl 0 rfl) ?_
        refine va_get (D := (dC, dI)) (ci := 12) (v := .ref ((mmR 63))) (C := RX12) (T := TX12) (N := 70) hx hb hts hinX12 hown hK hP 0 rfl rfl 63 (by decide) hw4 (fun _ h9 => h9) rfl dX12_mark_121 ?_
        refine lv_iload_n hx hb dX12_mark_124 rfl (lv_at hl 1 rfl) ?_
        refine lv_aload_n hx hb dX12_mark_125 rfl (lv_at hl 0 rfl) ?_
        refine va_get (D := (dC, dI)) (ci := 12) (v := .ref ((mmR 0))) (C := RX12) (T := TX12) (N := 70) hx hb hts hinX12 hown hK hP 0 rfl rfl 0 (by decide) hw2 (fun _ h9 => h9) rfl dX12_mark_126 ?_
        refine lv_iconst (v := 3) hx hb dX12_mark_129 (by decide) ?_
        refine lv_iload_n hx hb dX12_mark_130 rfl (lv_at hl 1 rfl) ?_
        refine lv_imul hx hb dX12_mark_131 ?_
        refine xq_iald hx hb hK hP 1 0 rfl rfl hf dX12_mark_132 (fun v_1 hf => ?_)
        refine xq_iast hx hb hK hP hD hS 4 0 rfl rfl hf dX12_mark_133 (fun g_2 H locs hf hP hD hS => ?_)
        have hP : va_P (dC, dI) vwCl [(a_p0, .inr (12, oX12 mmI_112 mmJ mmR)), ((mmR 0), .inl (cI, 1800, .inl mm_tapeF)), ((mmR 18), .inl (cI, 2, .inl mm_earsF)), ((mmR 44), .inl (cI, 6, .inl mm_refusedF_112)), ((mmR 63), .inl (cI, 16, .inl g_2)), ((mmR 64), .inl (cI, 16, .inl mm_markEarF_112)), ((mmR 65), .inl (cI, 16, .inl mm_markIsF_112))] H := hP
        have hD : va_D A [(a_p0, .inr (12, oX12 mmI_112 mmJ mmR)), ((mmR 0), .inl (cI, 1800, .inl mm_tapeF)), ((mmR 18), .inl (cI, 2, .inl mm_earsF)), ((mmR 44), .inl (cI, 6, .inl mm_refusedF_112)), ((mmR 63), .inl (cI, 16, .inl g_2)), ((mmR 64), .inl (cI, 16, .inl mm_markEarF_112)), ((mmR 65), .inl (cI, 16, .inl mm_markIsF_112))] := hD
        refine lv_aload_n hx hb dX12_mark_134 rfl (lv_at hl 0 rfl) ?_
        refine va_get (D := (dC, dI)) (ci := 12) (v := .ref ((mmR 64))) (C := RX12) (T := TX12) (N := 70) hx hb hts hinX12 hown hK hP 0 rfl rfl 64 (by decide) hw5 (fun _ h9 => h9) rfl dX12_mark_135 ?_
        refine lv_iload_n hx hb dX12_mark_138 rfl (lv_at hl 1 rfl) ?_
        refine lv_aload_n hx hb dX12_mark_139 rfl (lv_at hl 0 rfl) ?_
        refine va_get (D := (dC, dI)) (ci := 12) (v := .ref ((mmR 0))) (C := RX12) (T := TX12) (N := 70) hx hb hts hinX12 hown hK hP 0 rfl rfl 0 (by decide) hw2 (fun _ h9 => h9) rfl dX12_mark_140 ?_
        refine lv_iconst (v := 3) hx hb dX12_mark_143 (by decide) ?_
        refine lv_iload_n hx hb dX12_mark_144 rfl (lv_at hl 1 rfl) ?_
        refine lv_imul hx hb dX12_mark_145 ?_
        refine lv_iconst (v := 1) hx hb dX12_mark_146 (by decide) ?_
        refine lv_iadd hx hb dX12_mark_147 ?_
        refine xq_iald hx hb hK hP 1 0 rfl rfl hf dX12_mark_148 (fun v_3 hf => ?_)
        refine xq_iast hx hb hK hP hD hS 5 0 rfl rfl hf dX12_mark_149 (fun g_4 H locs hf hP hD hS => ?_)
        have hP : va_P (dC, dI) vwCl [(a_p0, .inr (12, oX12 mmI_112 mmJ mmR)), ((mmR 0), .inl (cI, 1800, .inl mm_tapeF)), ((mmR 18), .inl (cI, 2, .inl mm_earsF)), ((mmR 44), .inl (cI, 6, .inl mm_refusedF_112)), ((mmR 63), .inl (cI, 16, .inl g_2)), ((mmR 64), .inl (cI, 16, .inl g_4)), ((mmR 65), .inl (cI, 16, .inl mm_markIsF_112))] H := hP
        have hD : va_D A [(a_p0, .inr (12, oX12 mmI_112 mmJ mmR)), ((mmR 0), .inl (cI, 1800, .inl mm_tapeF)), ((mmR 18), .inl (cI, 2, .inl mm_earsF)), ((mmR 44), .inl (cI, 6, .inl mm_refusedF_112)), ((mmR 63), .inl (cI, 16, .inl g_2)), ((mmR 64), .inl (cI, 16, .inl g_4)), ((mmR 65), .inl (cI, 16, .inl mm_markIsF_112))] := hD
        refine lv_aload_n hx hb dX12_mark_150 rfl (lv_at hl 0 rfl) ?_
        refine va_get (D := (dC, dI)) (ci := 12) (v := .ref ((mmR 65))) (C := RX12) (T := TX12) (N := 70) hx hb hts hinX12 hown hK hP 0 rfl rfl 65 (by decide) hw6 (fun _ h9 => h9) rfl dX12_mark_151 ?_
        refine lv_iload_n hx hb dX12_mark_154 rfl (lv_at hl 1 rfl) ?_
        refine lv_aload_n hx hb dX12_mark_155 rfl (lv_at hl 0 rfl) ?_
        refine va_get (D := (dC, dI)) (ci := 12) (v := .ref ((mmR 0))) (C := RX12) (T := TX12) (N := 70) hx hb hts hinX12 hown hK hP 0 rfl rfl 0 (by decide) hw2 (fun _ h9 => h9) rfl dX12_mark_156 ?_
        refine lv_iconst (v := 3) hx hb dX12_mark_159 (by decide) ?_
        refine lv_iload_n hx hb dX12_mark_160 rfl (lv_at hl 1 rfl) ?_
        refine lv_imul hx hb dX12_mark_161 ?_
        refine lv_iconst (v := 2) hx hb dX12_mark_162 (by decide) ?_
        refine lv_iadd hx hb dX12_mark_163 ?_
        refine xq_iald hx hb hK hP 1 0 rfl rfl hf dX12_mark_164 (fun v_5 hf => ?_)
        refine xq_iast hx hb hK hP hD hS 6 0 rfl rfl hf dX12_mark_165 (fun g_6 H locs hf hP hD hS => ?_)
        have hP : va_P (dC, dI) vwCl [(a_p0, .inr (12, oX12 mmI_112 mmJ mmR)), ((mmR 0), .inl (cI, 1800, .inl mm_tapeF)), ((mmR 18), .inl (cI, 2, .inl mm_earsF)), ((mmR 44), .inl (cI, 6, .inl mm_refusedF_112)), ((mmR 63), .inl (cI, 16, .inl g_2)), ((mmR 64), .inl (cI, 16, .inl g_4)), ((mmR 65), .inl (cI, 16, .inl g_6))] H := hP
        have hD : va_D A [(a_p0, .inr (12, oX12 mmI_112 mmJ mmR)), ((mmR 0), .inl (cI, 1800, .inl mm_tapeF)), ((mmR 18), .inl (cI, 2, .inl mm_earsF)), ((mmR 44), .inl (cI, 6, .inl mm_refusedF_112)), ((mmR 63), .inl (cI, 16, .inl g_2)), ((mmR 64), .inl (cI, 16, .inl g_4)), ((mmR 65), .inl (cI, 16, .inl g_6))] := hD
        refine lv_iinc (v := x3_112 + 1) (lv' := [(3, .int (x3_112 + 1)), (0, .ref a_p0)]) hx hb dX12_mark_166 hl (k := 1) rfl (congrArg (fun q9 => x3_112 + q9) (by decide : Int32.ofInt 1 = 1)) (by decide) rfl (fun ls hl => ?_)
        refine lv_goto (tgt := 112) hx hb dX12_mark_169 (by decide) ?_
        exact ih112 mmI_112 mm_refusedF_112 g_2 g_4 g_6 (x3_112 + 1) _ _ _ hf hP hD hS (lv_sub hl [1, 0] rfl)
  have b93 : ∀ (mmI_93 : Nat → Int32) (mm_refusedF_93 : Nat → Int32) (mm_markNightF_93 : Nat → Int32) (mm_markEarF_93 : Nat → Int32) (mm_markIsF_93 : Nat → Int32) (x1_93 : Int32) (x2_93 : Int32) (ls : Array Slot) (H : Heap) (locs : List Loc), fX12_mark_b93 N mm_tapeF mm_earsF (mmI_93, mm_refusedF_93, mm_markNightF_93, mm_markEarF_93, mm_markIsF_93, x1_93, x2_93) = some (r0, r1, r2, r3, r4, r5) → va_P (dC, dI) vwCl [(a_p0, .inr (12, oX12 mmI_93 mmJ mmR)), ((mmR 0), .inl (cI, 1800, .inl mm_tapeF)), ((mmR 18), .inl (cI, 2, .inl mm_earsF)), ((mmR 44), .inl (cI, 6, .inl mm_refusedF_93)), ((mmR 63), .inl (cI, 16, .inl mm_markNightF_93)), ((mmR 64), .inl (cI, 16, .inl mm_markEarF_93)), ((mmR 65), .inl (cI, 16, .inl mm_markIsF_93))] H → va_D A [(a_p0, .inr (12, oX12 mmI_93 mmJ mmR)), ((mmR 0), .inl (cI, 1800, .inl mm_tapeF)), ((mmR 18), .inl (cI, 2, .inl mm_earsF)), ((mmR 44), .inl (cI, 6, .inl mm_refusedF_93)), ((mmR 63), .inl (cI, 16, .inl mm_markNightF_93)), ((mmR 64), .inl (cI, 16, .inl mm_markEarF_93)), ((mmR 65), .inl (cI, 16, .inl mm_markIsF_93))] → va_S A s.heap H locs → lv_has ls 4 [(0, .ref a_p0), (1, .int x1_93), (2, .int x2_93)] → W p l e (headSpec wsX12_mark { frames := 1, cells := 0, slots := 0, locals := 21 }).room s m [.ref a_p0].toArray below meth c H locs 0 0 (MQ below (xq_Q (dC, dI) vwCl (xq_tys cI cB cJ cZ cM) A [(a_p0, .inr (12, oX12 r1 mmJ mmR)), ((mmR 0), .inl (cI, 1800, .inl mm_tapeF)), ((mmR 18), .inl (cI, 2, .inl mm_earsF)), ((mmR 44), .inl (cI, 6, .inl r2)), ((mmR 63), .inl (cI, 16, .inl r3)), ((mmR 64), .inl (cI, 16, .inl r4)), ((mmR 65), .inl (cI, 16, .inl r5))] (some (.int r0))) [.ref a_p0].toArray s 0 0 A) (F0 m 93 ls []) := by
    intro mmI_93 mm_refusedF_93 mm_markNightF_93 mm_markEarF_93 mm_markIsF_93 x1_93 x2_93 ls H locs hf hP hD hS hl
    unfold fX12_mark_b93 at hf
    refine lv_iload_n hx hb dX12_mark_93 rfl (lv_at hl 2 rfl) ?_
    refine lv_if_ne (tgt := 103) hx hb dX12_mark_94 (by decide) (fun c_ => ?_) (fun c_ => ?_)
    · have hf := xq_neg hf c_
      refine lv_aload_n hx hb dX12_mark_103 rfl (lv_at hl 0 rfl) ?_
      refine lv_iload_n hx hb dX12_mark_104 rfl (lv_at hl 1 rfl) ?_
      refine lv_iconst (v := 3) hx hb dX12_mark_105 (by decide) ?_
      refine xq_idiv hx hb hf dX12_mark_106 (fun v_1 hf => ?_)
      refine va_put (D := (dC, dI)) (ci := 12) (v := .int v_1) (ty := .int) (C := RX12) (T := TX12) (N := 70) hx hb hts hinX12 tyX12 tyX12_ok nmX12 hown hK hP hD hS 0 rfl rfl 62 (by decide) hw3 (fun _ h9 => h9) rfl (by decide +kernel) rfl rfl (Nat.le_of_ble_eq_true rfl) dX12_mark_107 (fun H locs hP hD hS => ?_)
      have hP : va_P (dC, dI) vwCl [(a_p0, .inr (12, oX12 (va_up mmI_93 62 v_1) mmJ mmR)), ((mmR 0), .inl (cI, 1800, .inl mm_tapeF)), ((mmR 18), .inl (cI, 2, .inl mm_earsF)), ((mmR 44), .inl (cI, 6, .inl mm_refusedF_93)), ((mmR 63), .inl (cI, 16, .inl mm_markNightF_93)), ((mmR 64), .inl (cI, 16, .inl mm_markEarF_93)), ((mmR 65), .inl (cI, 16, .inl mm_markIsF_93))] H := hP
      have hD : va_D A [(a_p0, .inr (12, oX12 (va_up mmI_93 62 v_1) mmJ mmR)), ((mmR 0), .inl (cI, 1800, .inl mm_tapeF)), ((mmR 18), .inl (cI, 2, .inl mm_earsF)), ((mmR 44), .inl (cI, 6, .inl mm_refusedF_93)), ((mmR 63), .inl (cI, 16, .inl mm_markNightF_93)), ((mmR 64), .inl (cI, 16, .inl mm_markEarF_93)), ((mmR 65), .inl (cI, 16, .inl mm_markIsF_93))] := hD
      refine lv_iconst (v := 0) hx hb dX12_mark_110 (by decide) ?_
      refine lv_istore_n (lv' := [(3, .int 0), (0, .ref a_p0), (1, .int x1_93), (2, .int x2_93)]) hx hb dX12_mark_111 rfl hl (by decide) rfl (fun ls hl => ?_)
      exact l112 N ((va_up mmI_93 62 v_1)) mm_refusedF_93 mm_markNightF_93 mm_markEarF_93 mm_markIsF_93 0 _ _ _ hf hP hD hS (lv_sub hl [1, 0] rfl)
    · have hf := xq_pos hf c_
      refine lv_aload_n hx hb dX12_mark_97 rfl (lv_at hl 0 rfl) ?_
      refine lv_iconst (v := 5) hx hb dX12_mark_98 (by decide) ?_
      obtain ⟨⟨r_2_0, r_2_1⟩, h_3, hf⟩ := xq_bd_some hf
      refine xq_callV (As := [.int 5]) (rest := []) (ci := 12) (q0 := 0) ⟨hx, hb, hml, hown, hts⟩ (kX12_refuses l dC dI cI cB cJ cZ cM z ad N a_p0 mmI_93 mmJ mmR mm_refusedF_93 5 h_3) (cwV 1 hts gX12_mark_X12_refuses rfl rfl rfl (by decide +kernel) ⟨Nat.le_of_ble_eq_true rfl, Nat.le_of_ble_eq_true rfl⟩) hN hK hP hD hS hA [0, 3] (by decide) rfl rfl rfl rfl rfl rfl hl.1 rfl (Nat.le_of_ble_eq_true rfl) dX12_mark_99 ⟨Nat.zero_le _, Nat.zero_le _⟩ (fun H locs hP hD hS => ?_)
      have hP : va_P (dC, dI) vwCl [(a_p0, .inr (12, oX12 mmI_93 mmJ mmR)), ((mmR 0), .inl (cI, 1800, .inl mm_tapeF)), ((mmR 18), .inl (cI, 2, .inl mm_earsF)), ((mmR 44), .inl (cI, 6, .inl r_2_1)), ((mmR 63), .inl (cI, 16, .inl mm_markNightF_93)), ((mmR 64), .inl (cI, 16, .inl mm_markEarF_93)), ((mmR 65), .inl (cI, 16, .inl mm_markIsF_93))] H := hP
      have hD : va_D A [(a_p0, .inr (12, oX12 mmI_93 mmJ mmR)), ((mmR 0), .inl (cI, 1800, .inl mm_tapeF)), ((mmR 18), .inl (cI, 2, .inl mm_earsF)), ((mmR 44), .inl (cI, 6, .inl r_2_1)), ((mmR 63), .inl (cI, 16, .inl mm_markNightF_93)), ((mmR 64), .inl (cI, 16, .inl mm_markEarF_93)), ((mmR 65), .inl (cI, 16, .inl mm_markIsF_93))] := hD
      refine W.eq (g2 := F0 m 102 ls [.int r_2_0]) rfl ?_
      have e9 := Option.some.inj hf
      have e9_0 : r_2_0 = r0 := congrArg (fun t => t.1) e9
      have e9_1 : mmI_93 = r1 := congrArg (fun t => t.2.1) e9
      have e9_2 : r_2_1 = r2 := congrArg (fun t => t.2.2.1) e9
      have e9_3 : mm_markNightF_93 = r3 := congrArg (fun t => t.2.2.2.1) e9
      have e9_4 : mm_markEarF_93 = r4 := congrArg (fun t => t.2.2.2.2.1) e9
      have e9_5 : mm_markIsF_93 = r5 := congrArg (fun t => t.2.2.2.2.2) e9
      clear e9 hf
      try clear b30
      try clear b31
      try clear b85
      try clear b86
      try clear b93
      try clear l112
      try clear l34
      try clear ih112
      try clear ih34
      subst e9_0
      subst e9_1
      subst e9_2
      subst e9_3
      subst e9_4
      subst e9_5
      exact xq_iret hx hb hr hlocks hK hP hD hS dX12_mark_102
  have l34 : ∀ n34 : Nat, ∀ (mmI_34 : Nat → Int32) (mm_refusedF_34 : Nat → Int32) (mm_markNightF_34 : Nat → Int32) (mm_markEarF_34 : Nat → Int32) (mm_markIsF_34 : Nat → Int32) (x1_34 : Int32) (x2_34 : Int32) (x3_34 : Int32) (ls : Array Slot) (H : Heap) (locs : List Loc), xq_loop (fX12_mark_l34 N mm_tapeF mm_earsF) n34 (mmI_34, mm_refusedF_34, mm_markNightF_34, mm_markEarF_34, mm_markIsF_34, x1_34, x2_34, x3_34) = some (r0, r1, r2, r3, r4, r5) → va_P (dC, dI) vwCl [(a_p0, .inr (12, oX12 mmI_34 mmJ mmR)), ((mmR 0), .inl (cI, 1800, .inl mm_tapeF)), ((mmR 18), .inl (cI, 2, .inl mm_earsF)), ((mmR 44), .inl (cI, 6, .inl mm_refusedF_34)), ((mmR 63), .inl (cI, 16, .inl mm_markNightF_34)), ((mmR 64), .inl (cI, 16, .inl mm_markEarF_34)), ((mmR 65), .inl (cI, 16, .inl mm_markIsF_34))] H → va_D A [(a_p0, .inr (12, oX12 mmI_34 mmJ mmR)), ((mmR 0), .inl (cI, 1800, .inl mm_tapeF)), ((mmR 18), .inl (cI, 2, .inl mm_earsF)), ((mmR 44), .inl (cI, 6, .inl mm_refusedF_34)), ((mmR 63), .inl (cI, 16, .inl mm_markNightF_34)), ((mmR 64), .inl (cI, 16, .inl mm_markEarF_34)), ((mmR 65), .inl (cI, 16, .inl mm_markIsF_34))] → va_S A s.heap H locs → lv_has ls 4 [(0, .ref a_p0), (1, .int x1_34), (2, .int x2_34), (3, .int x3_34)] → W p l e (headSpec wsX12_mark { frames := 1, cells := 0, slots := 0, locals := 21 }).room s m [.ref a_p0].toArray below meth c H locs 0 0 (MQ below (xq_Q (dC, dI) vwCl (xq_tys cI cB cJ cZ cM) A [(a_p0, .inr (12, oX12 r1 mmJ mmR)), ((mmR 0), .inl (cI, 1800, .inl mm_tapeF)), ((mmR 18), .inl (cI, 2, .inl mm_earsF)), ((mmR 44), .inl (cI, 6, .inl r2)), ((mmR 63), .inl (cI, 16, .inl r3)), ((mmR 64), .inl (cI, 16, .inl r4)), ((mmR 65), .inl (cI, 16, .inl r5))] (some (.int r0))) [.ref a_p0].toArray s 0 0 A) (F0 m 34 ls []) := by
    intro n34
    induction n34 with
    | zero => intro mmI_34 mm_refusedF_34 mm_markNightF_34 mm_markEarF_34 mm_markIsF_34 x1_34 x2_34 x3_34 ls H locs hf; cases (show none = some (r0, r1, r2, r3, r4, r5) from hf)
    | succ n34 ih34 =>
      have b86 : ∀ (mmI_86 : Nat → Int32) (mm_refusedF_86 : Nat → Int32) (mm_markNightF_86 : Nat → Int32) (mm_markEarF_86 : Nat → Int32) (mm_markIsF_86 : Nat → Int32) (x1_86 : Int32) (x3_86 : Int32) (y0_86 : Int32) (ls : Array Slot) (H : Heap) (locs : List Loc), fX12_mark_b86 N mm_tapeF mm_earsF (xq_loop (fX12_mark_l34 N mm_tapeF mm_earsF) n34) (mmI_86, mm_refusedF_86, mm_markNightF_86, mm_markEarF_86, mm_markIsF_86, x1_86, x3_86, y0_86) = some (r0, r1, r2, r3, r4, r5) → va_P (dC, dI) vwCl [(a_p0, .inr (12, oX12 mmI_86 mmJ mmR)), ((mmR 0), .inl (cI, 1800, .inl mm_tapeF)), ((mmR 18), .inl (cI, 2, .inl mm_earsF)), ((mmR 44), .inl (cI, 6, .inl mm_refusedF_86)), ((mmR 63), .inl (cI, 16, .inl mm_markNightF_86)), ((mmR 64), .inl (cI, 16, .inl mm_markEarF_86)), ((mmR 65), .inl (cI, 16, .inl mm_markIsF_86))] H → va_D A [(a_p0, .inr (12, oX12 mmI_86 mmJ mmR)), ((mmR 0), .inl (cI, 1800, .inl mm_tapeF)), ((mmR 18), .inl (cI, 2, .inl mm_earsF)), ((mmR 44), .inl (cI, 6, .inl mm_refusedF_86)), ((mmR 63), .inl (cI, 16, .inl mm_markNightF_86)), ((mmR 64), .inl (cI, 16, .inl mm_markEarF_86)), ((mmR 65), .inl (cI, 16, .inl mm_markIsF_86))] → va_S A s.heap H locs → lv_has ls 4 [(0, .ref a_p0), (1, .int x1_86), (3, .int x3_86)] → W p l e (headSpec wsX12_mark { frames := 1, cells := 0, slots := 0, locals := 21 }).room s m [.ref a_p0].toArray below meth c H locs 0 0 (MQ below (xq_Q (dC, dI) vwCl (xq_tys cI cB cJ cZ cM) A [(a_p0, .inr (12, oX12 r1 mmJ mmR)), ((mmR 0), .inl (cI, 1800, .inl mm_tapeF)), ((mmR 18), .inl (cI, 2, .inl mm_earsF)), ((mmR 44), .inl (cI, 6, .inl r2)), ((mmR 63), .inl (cI, 16, .inl r3)), ((mmR 64), .inl (cI, 16, .inl r4)), ((mmR 65), .inl (cI, 16, .inl r5))] (some (.int r0))) [.ref a_p0].toArray s 0 0 A) (F0 m 86 ls [.int y0_86]) := by
        intro mmI_86 mm_refusedF_86 mm_markNightF_86 mm_markEarF_86 mm_markIsF_86 x1_86 x3_86 y0_86 ls H locs hf hP hD hS hl
        unfold fX12_mark_b86 at hf
        refine lv_istore_n (lv' := [(2, .int y0_86), (0, .ref a_p0), (1, .int x1_86), (3, .int x3_86)]) hx hb dX12_mark_86 rfl hl (by decide) rfl (fun ls hl => ?_)
        refine lv_iinc (v := x3_86 + 3) (lv' := [(3, .int (x3_86 + 3)), (2, .int y0_86), (0, .ref a_p0), (1, .int x1_86)]) hx hb dX12_mark_87 hl (k := 3) rfl (congrArg (fun q9 => x3_86 + q9) (by decide : Int32.ofInt 3 = 3)) (by decide) rfl (fun ls hl => ?_)
        refine lv_goto (tgt := 34) hx hb dX12_mark_90 (by decide) ?_
        exact ih34 mmI_86 mm_refusedF_86 mm_markNightF_86 mm_markEarF_86 mm_markIsF_86 x1_86 y0_86 (x3_86 + 3) _ _ _ hf hP hD hS (lv_sub hl [2, 3, 1, 0] rfl)
      have b85 : ∀ (mmI_85 : Nat → Int32) (mm_refusedF_85 : Nat → Int32) (mm_markNightF_85 : Nat → Int32) (mm_markEarF_85 : Nat → Int32) (mm_markIsF_85 : Nat → Int32) (x1_85 : Int32) (x3_85 : Int32) (ls : Array Slot) (H : Heap) (locs : List Loc), fX12_mark_b85 N mm_tapeF mm_earsF (xq_loop (fX12_mark_l34 N mm_tapeF mm_earsF) n34) (mmI_85, mm_refusedF_85, mm_markNightF_85, mm_markEarF_85, mm_markIsF_85, x1_85, x3_85) = some (r0, r1, r2, r3, r4, r5) → va_P (dC, dI) vwCl [(a_p0, .inr (12, oX12 mmI_85 mmJ mmR)), ((mmR 0), .inl (cI, 1800, .inl mm_tapeF)), ((mmR 18), .inl (cI, 2, .inl mm_earsF)), ((mmR 44), .inl (cI, 6, .inl mm_refusedF_85)), ((mmR 63), .inl (cI, 16, .inl mm_markNightF_85)), ((mmR 64), .inl (cI, 16, .inl mm_markEarF_85)), ((mmR 65), .inl (cI, 16, .inl mm_markIsF_85))] H → va_D A [(a_p0, .inr (12, oX12 mmI_85 mmJ mmR)), ((mmR 0), .inl (cI, 1800, .inl mm_tapeF)), ((mmR 18), .inl (cI, 2, .inl mm_earsF)), ((mmR 44), .inl (cI, 6, .inl mm_refusedF_85)), ((mmR 63), .inl (cI, 16, .inl mm_markNightF_85)), ((mmR 64), .inl (cI, 16, .inl mm_markEarF_85)), ((mmR 65), .inl (cI, 16, .inl mm_markIsF_85))] → va_S A s.heap H locs → lv_has ls 4 [(0, .ref a_p0), (1, .int x1_85), (3, .int x3_85)] → W p l e (headSpec wsX12_mark { frames := 1, cells := 0, slots := 0, locals := 21 }).room s m [.ref a_p0].toArray below meth c H locs 0 0 (MQ below (xq_Q (dC, dI) vwCl (xq_tys cI cB cJ cZ cM) A [(a_p0, .inr (12, oX12 r1 mmJ mmR)), ((mmR 0), .inl (cI, 1800, .inl mm_tapeF)), ((mmR 18), .inl (cI, 2, .inl mm_earsF)), ((mmR 44), .inl (cI, 6, .inl r2)), ((mmR 63), .inl (cI, 16, .inl r3)), ((mmR 64), .inl (cI, 16, .inl r4)), ((mmR 65), .inl (cI, 16, .inl r5))] (some (.int r0))) [.ref a_p0].toArray s 0 0 A) (F0 m 85 ls []) := by
        intro mmI_85 mm_refusedF_85 mm_markNightF_85 mm_markEarF_85 mm_markIsF_85 x1_85 x3_85 ls H locs hf hP hD hS hl
        unfold fX12_mark_b85 at hf
        refine lv_iconst (v := 0) hx hb dX12_mark_85 (by decide) ?_
        exact b86 mmI_85 mm_refusedF_85 mm_markNightF_85 mm_markEarF_85 mm_markIsF_85 x1_85 x3_85 0 _ _ _ hf hP hD hS (lv_sub hl [0, 1, 2] rfl)
      intro mmI_34 mm_refusedF_34 mm_markNightF_34 mm_markEarF_34 mm_markIsF_34 x1_34 x2_34 x3_34 ls H locs hf hP hD hS hl
      have hf : fX12_mark_l34 N mm_tapeF mm_earsF (xq_loop (fX12_mark_l34 N mm_tapeF mm_earsF) n34) (mmI_34, mm_refusedF_34, mm_markNightF_34, mm_markEarF_34, mm_markIsF_34, x1_34, x2_34, x3_34) = some (r0, r1, r2, r3, r4, r5) := hf
      unfold fX12_mark_l34 at hf
      refine lv_iload_n hx hb dX12_mark_34 rfl (lv_at hl 3 rfl) ?_
      refine lv_iload_n hx hb dX12_mark_35 rfl (lv_at hl 1 rfl) ?_
      refine lv_icmp_ge (tgt := 93) hx hb dX12_mark_36 (by decide) (fun c_ => ?_) (fun c_ => ?_)
      · have hf := xq_pos hf c_
        exact b93 mmI_34 mm_refusedF_34 mm_markNightF_34 mm_markEarF_34 mm_markIsF_34 x1_34 x2_34 _ _ _ hf hP hD hS (lv_sub hl [0, 1, 2] rfl)
      · have hf := xq_neg hf c_
        refine lv_iload_n hx hb dX12_mark_39 rfl (lv_at hl 2 rfl) ?_
        refine lv_if_eq (tgt := 93) hx hb dX12_mark_40 (by decide) (fun c_ => ?_) (fun c_ => ?_)
        · have hf := xq_pos hf c_
          exact b93 mmI_34 mm_refusedF_34 mm_markNightF_34 mm_markEarF_34 mm_markIsF_34 x1_34 x2_34 _ _ _ hf hP hD hS (lv_sub hl [0, 1, 2] rfl)
        · have hf := xq_neg hf c_
          refine lv_aload_n hx hb dX12_mark_43 rfl (lv_at hl 0 rfl) ?_
          refine va_get (D := (dC, dI)) (ci := 12) (v := .ref ((mmR 0))) (C := RX12) (T := TX12) (N := 70) hx hb hts hinX12 hown hK hP 0 rfl rfl 0 (by decide) hw2 (fun _ h9 => h9) rfl dX12_mark_44 ?_
          refine lv_iload_n hx hb dX12_mark_47 rfl (lv_at hl 3 rfl) ?_
          refine xq_iald hx hb hK hP 1 0 rfl rfl hf dX12_mark_48 (fun v_1 hf => ?_)
          refine lv_bipush (v := 30) hx hb dX12_mark_49 (by decide) ?_
          refine lv_icmp_gt (tgt := 85) hx hb dX12_mark_51 (by decide) (fun c_ => ?_) (fun c_ => ?_)
          · have hf := xq_pos hf c_
            exact b85 mmI_34 mm_refusedF_34 mm_markNightF_34 mm_markEarF_34 mm_markIsF_34 x1_34 x3_34 _ _ _ hf hP hD hS (lv_sub hl [0, 1, 3] rfl)
          · have hf := xq_neg hf c_
            refine lv_aload_n hx hb dX12_mark_54 rfl (lv_at hl 0 rfl) ?_
            refine lv_aload_n hx hb dX12_mark_55 rfl (lv_at hl 0 rfl) ?_
            refine va_get (D := (dC, dI)) (ci := 12) (v := .ref ((mmR 0))) (C := RX12) (T := TX12) (N := 70) hx hb hts hinX12 hown hK hP 0 rfl rfl 0 (by decide) hw2 (fun _ h9 => h9) rfl dX12_mark_56 ?_
            refine lv_iload_n hx hb dX12_mark_59 rfl (lv_at hl 3 rfl) ?_
            refine lv_iconst (v := 1) hx hb dX12_mark_60 (by decide) ?_
            refine lv_iadd hx hb dX12_mark_61 ?_
            refine xq_iald hx hb hK hP 1 0 rfl rfl hf dX12_mark_62 (fun v_2 hf => ?_)
            obtain ⟨r_3, h_4, hf⟩ := xq_bd_some hf
            refine xq_callV (As := [.int v_2]) (rest := []) (ci := 12) (q0 := 0) ⟨hx, hb, hml, hown, hts⟩ (kX12_isEar l dC dI cI cB cJ cZ cM z ad N a_p0 mmI_34 mmJ mmR mm_earsF v_2 h_4) (cwV 1 hts gX12_mark_X12_isEar rfl rfl rfl (by decide +kernel) ⟨Nat.le_of_ble_eq_true rfl, Nat.le_of_ble_eq_true rfl⟩) hN hK hP hD hS hA [0, 2] (by decide) rfl rfl rfl rfl rfl rfl hl.1 rfl (Nat.le_of_ble_eq_true rfl) dX12_mark_63 ⟨Nat.zero_le _, Nat.zero_le _⟩ (fun H locs hP hD hS => ?_)
            have hP : va_P (dC, dI) vwCl [(a_p0, .inr (12, oX12 mmI_34 mmJ mmR)), ((mmR 0), .inl (cI, 1800, .inl mm_tapeF)), ((mmR 18), .inl (cI, 2, .inl mm_earsF)), ((mmR 44), .inl (cI, 6, .inl mm_refusedF_34)), ((mmR 63), .inl (cI, 16, .inl mm_markNightF_34)), ((mmR 64), .inl (cI, 16, .inl mm_markEarF_34)), ((mmR 65), .inl (cI, 16, .inl mm_markIsF_34))] H := hP
            have hD : va_D A [(a_p0, .inr (12, oX12 mmI_34 mmJ mmR)), ((mmR 0), .inl (cI, 1800, .inl mm_tapeF)), ((mmR 18), .inl (cI, 2, .inl mm_earsF)), ((mmR 44), .inl (cI, 6, .inl mm_refusedF_34)), ((mmR 63), .inl (cI, 16, .inl mm_markNightF_34)), ((mmR 64), .inl (cI, 16, .inl mm_markEarF_34)), ((mmR 65), .inl (cI, 16, .inl mm_markIsF_34))] := hD
            refine W.eq (g2 := F0 m 66 ls [.int r_3]) rfl ?_
            refine lv_if_eq (tgt := 85) hx hb dX12_mark_66 (by decide) (fun c_ => ?_) (fun c_ => ?_)
            · have hf := xq_pos hf c_
              exact b85 mmI_34 mm_refusedF_34 mm_markNightF_34 mm_markEarF_34 mm_markIsF_34 x1_34 x3_34 _ _ _ hf hP hD hS (lv_sub hl [0, 1, 3] rfl)
            · have hf := xq_neg hf c_
              refine lv_aload_n hx hb dX12_mark_69 rfl (lv_at hl 0 rfl) ?_
              refine va_get (D := (dC, dI)) (ci := 12) (v := .ref ((mmR 0))) (C := RX12) (T := TX12) (N := 70) hx hb hts hinX12 hown hK hP 0 rfl rfl 0 (by decide) hw2 (fun _ h9 => h9) rfl dX12_mark_70 ?_
              refine lv_iload_n hx hb dX12_mark_73 rfl (lv_at hl 3 rfl) ?_
              refine lv_iconst (v := 2) hx hb dX12_mark_74 (by decide) ?_
              refine lv_iadd hx hb dX12_mark_75 ?_
              refine xq_iald hx hb hK hP 1 0 rfl rfl hf dX12_mark_76 (fun v_5 hf => ?_)
              refine lv_iconst (v := 1) hx hb dX12_mark_77 (by decide) ?_
              refine lv_icmp_gt (tgt := 85) hx hb dX12_mark_78 (by decide) (fun c_ => ?_) (fun c_ => ?_)
              · have hf := xq_pos hf c_
                exact b85 mmI_34 mm_refusedF_34 mm_markNightF_34 mm_markEarF_34 mm_markIsF_34 x1_34 x3_34 _ _ _ hf hP hD hS (lv_sub hl [0, 1, 3] rfl)
              · have hf := xq_neg hf c_
                refine lv_iconst (v := 1) hx hb dX12_mark_81 (by decide) ?_
                refine lv_goto (tgt := 86) hx hb dX12_mark_82 (by decide) ?_
                exact b86 mmI_34 mm_refusedF_34 mm_markNightF_34 mm_markEarF_34 mm_markIsF_34 x1_34 x3_34 1 _ _ _ hf hP hD hS (lv_sub hl [0, 1, 3] rfl)
  have b31 : ∀ (mmI_31 : Nat → Int32) (mm_refusedF_31 : Nat → Int32) (mm_markNightF_31 : Nat → Int32) (mm_markEarF_31 : Nat → Int32) (mm_markIsF_31 : Nat → Int32) (x1_31 : Int32) (y0_31 : Int32) (ls : Array Slot) (H : Heap) (locs : List Loc), fX12_mark_b31 N mm_tapeF mm_earsF (mmI_31, mm_refusedF_31, mm_markNightF_31, mm_markEarF_31, mm_markIsF_31, x1_31, y0_31) = some (r0, r1, r2, r3, r4, r5) → va_P (dC, dI) vwCl [(a_p0, .inr (12, oX12 mmI_31 mmJ mmR)), ((mmR 0), .inl (cI, 1800, .inl mm_tapeF)), ((mmR 18), .inl (cI, 2, .inl mm_earsF)), ((mmR 44), .inl (cI, 6, .inl mm_refusedF_31)), ((mmR 63), .inl (cI, 16, .inl mm_markNightF_31)), ((mmR 64), .inl (cI, 16, .inl mm_markEarF_31)), ((mmR 65), .inl (cI, 16, .inl mm_markIsF_31))] H → va_D A [(a_p0, .inr (12, oX12 mmI_31 mmJ mmR)), ((mmR 0), .inl (cI, 1800, .inl mm_tapeF)), ((mmR 18), .inl (cI, 2, .inl mm_earsF)), ((mmR 44), .inl (cI, 6, .inl mm_refusedF_31)), ((mmR 63), .inl (cI, 16, .inl mm_markNightF_31)), ((mmR 64), .inl (cI, 16, .inl mm_markEarF_31)), ((mmR 65), .inl (cI, 16, .inl mm_markIsF_31))] → va_S A s.heap H locs → lv_has ls 4 [(0, .ref a_p0), (1, .int x1_31)] → W p l e (headSpec wsX12_mark { frames := 1, cells := 0, slots := 0, locals := 21 }).room s m [.ref a_p0].toArray below meth c H locs 0 0 (MQ below (xq_Q (dC, dI) vwCl (xq_tys cI cB cJ cZ cM) A [(a_p0, .inr (12, oX12 r1 mmJ mmR)), ((mmR 0), .inl (cI, 1800, .inl mm_tapeF)), ((mmR 18), .inl (cI, 2, .inl mm_earsF)), ((mmR 44), .inl (cI, 6, .inl r2)), ((mmR 63), .inl (cI, 16, .inl r3)), ((mmR 64), .inl (cI, 16, .inl r4)), ((mmR 65), .inl (cI, 16, .inl r5))] (some (.int r0))) [.ref a_p0].toArray s 0 0 A) (F0 m 31 ls [.int y0_31]) := by
    intro mmI_31 mm_refusedF_31 mm_markNightF_31 mm_markEarF_31 mm_markIsF_31 x1_31 y0_31 ls H locs hf hP hD hS hl
    unfold fX12_mark_b31 at hf
    refine lv_istore_n (lv' := [(2, .int y0_31), (0, .ref a_p0), (1, .int x1_31)]) hx hb dX12_mark_31 rfl hl (by decide) rfl (fun ls hl => ?_)
    refine lv_iconst (v := 0) hx hb dX12_mark_32 (by decide) ?_
    refine lv_istore_n (lv' := [(3, .int 0), (2, .int y0_31), (0, .ref a_p0), (1, .int x1_31)]) hx hb dX12_mark_33 rfl hl (by decide) rfl (fun ls hl => ?_)
    exact l34 N mmI_31 mm_refusedF_31 mm_markNightF_31 mm_markEarF_31 mm_markIsF_31 x1_31 y0_31 0 _ _ _ hf hP hD hS (lv_sub hl [2, 3, 1, 0] rfl)
  have b30 : ∀ (mmI_30 : Nat → Int32) (mm_refusedF_30 : Nat → Int32) (mm_markNightF_30 : Nat → Int32) (mm_markEarF_30 : Nat → Int32) (mm_markIsF_30 : Nat → Int32) (x1_30 : Int32) (ls : Array Slot) (H : Heap) (locs : List Loc), fX12_mark_b30 N mm_tapeF mm_earsF (mmI_30, mm_refusedF_30, mm_markNightF_30, mm_markEarF_30, mm_markIsF_30, x1_30) = some (r0, r1, r2, r3, r4, r5) → va_P (dC, dI) vwCl [(a_p0, .inr (12, oX12 mmI_30 mmJ mmR)), ((mmR 0), .inl (cI, 1800, .inl mm_tapeF)), ((mmR 18), .inl (cI, 2, .inl mm_earsF)), ((mmR 44), .inl (cI, 6, .inl mm_refusedF_30)), ((mmR 63), .inl (cI, 16, .inl mm_markNightF_30)), ((mmR 64), .inl (cI, 16, .inl mm_markEarF_30)), ((mmR 65), .inl (cI, 16, .inl mm_markIsF_30))] H → va_D A [(a_p0, .inr (12, oX12 mmI_30 mmJ mmR)), ((mmR 0), .inl (cI, 1800, .inl mm_tapeF)), ((mmR 18), .inl (cI, 2, .inl mm_earsF)), ((mmR 44), .inl (cI, 6, .inl mm_refusedF_30)), ((mmR 63), .inl (cI, 16, .inl mm_markNightF_30)), ((mmR 64), .inl (cI, 16, .inl mm_markEarF_30)), ((mmR 65), .inl (cI, 16, .inl mm_markIsF_30))] → va_S A s.heap H locs → lv_has ls 4 [(0, .ref a_p0), (1, .int x1_30)] → W p l e (headSpec wsX12_mark { frames := 1, cells := 0, slots := 0, locals := 21 }).room s m [.ref a_p0].toArray below meth c H locs 0 0 (MQ below (xq_Q (dC, dI) vwCl (xq_tys cI cB cJ cZ cM) A [(a_p0, .inr (12, oX12 r1 mmJ mmR)), ((mmR 0), .inl (cI, 1800, .inl mm_tapeF)), ((mmR 18), .inl (cI, 2, .inl mm_earsF)), ((mmR 44), .inl (cI, 6, .inl r2)), ((mmR 63), .inl (cI, 16, .inl r3)), ((mmR 64), .inl (cI, 16, .inl r4)), ((mmR 65), .inl (cI, 16, .inl r5))] (some (.int r0))) [.ref a_p0].toArray s 0 0 A) (F0 m 30 ls []) := by
    intro mmI_30 mm_refusedF_30 mm_markNightF_30 mm_markEarF_30 mm_markIsF_30 x1_30 ls H locs hf hP hD hS hl
    unfold fX12_mark_b30 at hf
    refine lv_iconst (v := 0) hx hb dX12_mark_30 (by decide) ?_
    exact b31 mmI_30 mm_refusedF_30 mm_markNightF_30 mm_markEarF_30 mm_markIsF_30 x1_30 0 _ _ _ hf hP hD hS (lv_sub hl [0, 1] rfl)
  unfold fX12_mark at hf
  refine lv_aload_n hx hb dX12_mark_0 rfl (lv_at hl 0 rfl) ?_
  refine va_get (D := (dC, dI)) (ci := 12) (v := .int (mmI 1)) (C := RX12) (T := TX12) (N := 70) hx hb hts hinX12 hown hK hP 0 rfl rfl 1 (by decide) hw0 (fun _ h9 => h9) rfl dX12_mark_1 ?_
  refine lv_istore_n (lv' := [(1, .int (mmI 1)), (0, .ref a_p0)]) hx hb dX12_mark_4 rfl hl (by decide) rfl (fun ls hl => ?_)
  refine lv_aload_n hx hb dX12_mark_5 rfl (lv_at hl 1 rfl) ?_
  refine lv_iconst (v := 0) hx hb dX12_mark_6 (by decide) ?_
  refine va_put (D := (dC, dI)) (ci := 12) (v := .int 0) (ty := .int) (C := RX12) (T := TX12) (N := 70) hx hb hts hinX12 tyX12 tyX12_ok nmX12 hown hK hP hD hS 0 rfl rfl 1 (by decide) hw0 (fun _ h9 => h9) rfl (by decide +kernel) rfl rfl (Nat.le_of_ble_eq_true rfl) dX12_mark_7 (fun H locs hP hD hS => ?_)
  have hP : va_P (dC, dI) vwCl [(a_p0, .inr (12, oX12 (va_up mmI 1 0) mmJ mmR)), ((mmR 0), .inl (cI, 1800, .inl mm_tapeF)), ((mmR 18), .inl (cI, 2, .inl mm_earsF)), ((mmR 44), .inl (cI, 6, .inl mm_refusedF)), ((mmR 63), .inl (cI, 16, .inl mm_markNightF)), ((mmR 64), .inl (cI, 16, .inl mm_markEarF)), ((mmR 65), .inl (cI, 16, .inl mm_markIsF))] H := hP
  have hD : va_D A [(a_p0, .inr (12, oX12 (va_up mmI 1 0) mmJ mmR)), ((mmR 0), .inl (cI, 1800, .inl mm_tapeF)), ((mmR 18), .inl (cI, 2, .inl mm_earsF)), ((mmR 44), .inl (cI, 6, .inl mm_refusedF)), ((mmR 63), .inl (cI, 16, .inl mm_markNightF)), ((mmR 64), .inl (cI, 16, .inl mm_markEarF)), ((mmR 65), .inl (cI, 16, .inl mm_markIsF))] := hD
  refine lv_iload_n hx hb dX12_mark_10 rfl (lv_at hl 0 rfl) ?_
  refine lv_if_le (tgt := 30) hx hb dX12_mark_11 (by decide) (fun c_ => ?_) (fun c_ => ?_)
  · have hf := xq_pos hf c_
    exact b30 ((va_up mmI 1 0)) mm_refusedF mm_markNightF mm_markEarF mm_markIsF (mmI 1) _ _ _ hf hP hD hS (lv_sub hl [1, 0] rfl)
  · have hf := xq_neg hf c_
    refine lv_iload_n hx hb dX12_mark_14 rfl (lv_at hl 0 rfl) ?_
    refine lv_iconst (v := 3) hx hb dX12_mark_15 (by decide) ?_
    refine xq_irem hx hb hf dX12_mark_16 (fun v_1 hf => ?_)
    refine lv_if_ne (tgt := 30) hx hb dX12_mark_17 (by decide) (fun c_ => ?_) (fun c_ => ?_)
    · have hf := xq_neg hf c_
      exact b30 ((va_up mmI 1 0)) mm_refusedF mm_markNightF mm_markEarF mm_markIsF (mmI 1) _ _ _ hf hP hD hS (lv_sub hl [1, 0] rfl)
    · have hf := xq_pos hf c_
      refine lv_iload_n hx hb dX12_mark_20 rfl (lv_at hl 0 rfl) ?_
      refine lv_bipush (v := 48) hx hb dX12_mark_21 (by decide) ?_
      refine lv_icmp_gt (tgt := 30) hx hb dX12_mark_23 (by decide) (fun c_ => ?_) (fun c_ => ?_)
      · have hf := xq_pos hf c_
        exact b30 ((va_up mmI 1 0)) mm_refusedF mm_markNightF mm_markEarF mm_markIsF (mmI 1) _ _ _ hf hP hD hS (lv_sub hl [1, 0] rfl)
      · have hf := xq_neg hf c_
        refine lv_iconst (v := 1) hx hb dX12_mark_26 (by decide) ?_
        refine lv_goto (tgt := 31) hx hb dX12_mark_27 (by decide) ?_
        exact b31 ((va_up mmI 1 0)) mm_refusedF mm_markNightF mm_markEarF mm_markIsF (mmI 1) 1 _ _ _ hf hP hD hS (lv_sub hl [1, 0] rfl)
def dsX12_draw_0 : List (Nat × Instr × Nat) := [(0, (.aload_n 0, 1)), (1, (.ldc2_w 495, 3)), (4, (.aload_n 0, 1)), (5, (.getfield 183, 3)), (8, (.lmul, 1)), (9, (.ldc2_w 497, 3)), (12, (.ladd, 1)), (13, (.ldc2_w 499, 3)), (16, (.lrem, 1)), (17, (.putfield 183, 3)), (20, (.aload_n 0, 1)), (21, (.getfield 183, 3)), (24, (.ldc2_w 501, 3)), (27, (.ldiv, 1)), (28, (.iload_n 1, 1)), (29, (.i2l, 1)), (30, (.lrem, 1)), (31, (.l2i, 1)), (32, (.ireturn, 1))]
theorem dsX12_draw_0_ok : (dsX12_draw_0.all fun q => decide (decode cX12_draw q.1 = .ok q.2)) = true := by decide +kernel
theorem dX12_draw_0 : decode cX12_draw 0 = .ok (.aload_n 0, 1) := of_decide_eq_true (List.all_eq_true.mp dsX12_draw_0_ok (0, (.aload_n 0, 1)) (List.mem_of_getElem? (i := 0) rfl))
theorem dX12_draw_1 : decode cX12_draw 1 = .ok (.ldc2_w 495, 3) := of_decide_eq_true (List.all_eq_true.mp dsX12_draw_0_ok (1, (.ldc2_w 495, 3)) (List.mem_of_getElem? (i := 1) rfl))
theorem dX12_draw_4 : decode cX12_draw 4 = .ok (.aload_n 0, 1) := of_decide_eq_true (List.all_eq_true.mp dsX12_draw_0_ok (4, (.aload_n 0, 1)) (List.mem_of_getElem? (i := 2) rfl))
theorem dX12_draw_5 : decode cX12_draw 5 = .ok (.getfield 183, 3) := of_decide_eq_true (List.all_eq_true.mp dsX12_draw_0_ok (5, (.getfield 183, 3)) (List.mem_of_getElem? (i := 3) rfl))
theorem dX12_draw_8 : decode cX12_draw 8 = .ok (.lmul, 1) := of_decide_eq_true (List.all_eq_true.mp dsX12_draw_0_ok (8, (.lmul, 1)) (List.mem_of_getElem? (i := 4) rfl))
theorem dX12_draw_9 : decode cX12_draw 9 = .ok (.ldc2_w 497, 3) := of_decide_eq_true (List.all_eq_true.mp dsX12_draw_0_ok (9, (.ldc2_w 497, 3)) (List.mem_of_getElem? (i := 5) rfl))
theorem dX12_draw_12 : decode cX12_draw 12 = .ok (.ladd, 1) := of_decide_eq_true (List.all_eq_true.mp dsX12_draw_0_ok (12, (.ladd, 1)) (List.mem_of_getElem? (i := 6) rfl))
theorem dX12_draw_13 : decode cX12_draw 13 = .ok (.ldc2_w 499, 3) := of_decide_eq_true (List.all_eq_true.mp dsX12_draw_0_ok (13, (.ldc2_w 499, 3)) (List.mem_of_getElem? (i := 7) rfl))
theorem dX12_draw_16 : decode cX12_draw 16 = .ok (.lrem, 1) := of_decide_eq_true (List.all_eq_true.mp dsX12_draw_0_ok (16, (.lrem, 1)) (List.mem_of_getElem? (i := 8) rfl))
theorem dX12_draw_17 : decode cX12_draw 17 = .ok (.putfield 183, 3) := of_decide_eq_true (List.all_eq_true.mp dsX12_draw_0_ok (17, (.putfield 183, 3)) (List.mem_of_getElem? (i := 9) rfl))
theorem dX12_draw_20 : decode cX12_draw 20 = .ok (.aload_n 0, 1) := of_decide_eq_true (List.all_eq_true.mp dsX12_draw_0_ok (20, (.aload_n 0, 1)) (List.mem_of_getElem? (i := 10) rfl))
theorem dX12_draw_21 : decode cX12_draw 21 = .ok (.getfield 183, 3) := of_decide_eq_true (List.all_eq_true.mp dsX12_draw_0_ok (21, (.getfield 183, 3)) (List.mem_of_getElem? (i := 11) rfl))
theorem dX12_draw_24 : decode cX12_draw 24 = .ok (.ldc2_w 501, 3) := of_decide_eq_true (List.all_eq_true.mp dsX12_draw_0_ok (24, (.ldc2_w 501, 3)) (List.mem_of_getElem? (i := 12) rfl))
theorem dX12_draw_27 : decode cX12_draw 27 = .ok (.ldiv, 1) := of_decide_eq_true (List.all_eq_true.mp dsX12_draw_0_ok (27, (.ldiv, 1)) (List.mem_of_getElem? (i := 13) rfl))
theorem dX12_draw_28 : decode cX12_draw 28 = .ok (.iload_n 1, 1) := of_decide_eq_true (List.all_eq_true.mp dsX12_draw_0_ok (28, (.iload_n 1, 1)) (List.mem_of_getElem? (i := 14) rfl))
theorem dX12_draw_29 : decode cX12_draw 29 = .ok (.i2l, 1) := of_decide_eq_true (List.all_eq_true.mp dsX12_draw_0_ok (29, (.i2l, 1)) (List.mem_of_getElem? (i := 15) rfl))
theorem dX12_draw_30 : decode cX12_draw 30 = .ok (.lrem, 1) := of_decide_eq_true (List.all_eq_true.mp dsX12_draw_0_ok (30, (.lrem, 1)) (List.mem_of_getElem? (i := 16) rfl))
theorem dX12_draw_31 : decode cX12_draw 31 = .ok (.l2i, 1) := of_decide_eq_true (List.all_eq_true.mp dsX12_draw_0_ok (31, (.l2i, 1)) (List.mem_of_getElem? (i := 17) rfl))
theorem dX12_draw_32 : decode cX12_draw 32 = .ok (.ireturn, 1) := of_decide_eq_true (List.all_eq_true.mp dsX12_draw_0_ok (32, (.ireturn, 1)) (List.mem_of_getElem? (i := 18) rfl))
def fX12_draw (N : Nat) (mmJ : Nat → Int64)  (p1 : Int32) : Option (Int32 × (Nat → Int64)) :=
  (xq_bd (xq_rmL ((1103515245 * (mmJ 56)) + 12345) 2147483648) fun v_1 => (xq_bd (xq_dvL v_1 64) fun v_2 => (xq_bd (xq_rmL v_2 p1.toInt64) fun v_3 => some ((v_3.toInt32, (va_up mmJ 56 v_1))))))
set_option maxHeartbeats 4000000 in
set_option maxRecDepth 100000 in
theorem kX12_draw (l : Launch) (dC : Nat → ClassId) (dI : Nat → Nat → Nat) (cI cB cJ cZ cM : ClassId) (z : Nat) (ad : Nat → Nat) (N : Nat) (a_p0 : Nat) (mmI : Nat → Int32) (mmJ : Nat → Int64) (mmR : Nat → Nat) (p1 : Int32) {r0 : Int32} {r1 : Nat → Int64} (hf : fX12_draw N mmJ p1 = some (r0, r1)) : xq_Ct l yX12_draw wsX12_draw { frames := 0, cells := 0, slots := 0, locals := 0 } (dC, dI) vwCl (xq_tys cI cB cJ cZ cM) z ad [.ref a_p0, .int p1] [(a_p0, .inr (12, oX12 mmI mmJ mmR))] [(a_p0, .inr (12, oX12 mmI r1 mmR))] (some (.int r0)) := by
  intro sz
  refine Met.ofW (cc := cX12_draw) (maxL := 2) (ret := (some .int)) (by decide) rfl ?_
  intro p e s m args below meth c s₁ B hml hv
  obtain ⟨rfl, hsz, hP, hK, hD0, hE, hz⟩ := hv
  have hx := B.exec
  have hb := B.bytes
  have hr := B.returns
  have hts := atoms_spec (ws := wsX12_draw) B.pre
  have hown : s.vm.findClass RX12 = some m.cls := findClass_of_methodNamed B.named
  have hlocks := B.notSynchronized
  subst hsz
  have hD := hD0.self (sz := s.heap.size)
  have hN := xq_Env.of hE hz hD0
  generalize hAe : va_A [(a_p0, .inr (12, oX12 mmI mmJ mmR))] s.heap.size = A at hD hN ⊢
  have hA : ∀ q : Nat, s.heap.size ≤ q → A q := fun q h => by rw [← hAe]; exact Or.inr h
  clear hAe hD0
  have hS : va_S A s.heap s.heap [] := va_S.rf
  have hl := lv_entry ([.ref a_p0, .int p1]) (n := 2) (Nat.le_of_ble_eq_true rfl)
  rw [lg_entry_eq]
  generalize (lg_sl ([.ref a_p0, .int p1]) ++ List.replicate (2 - (lg_sl ([.ref a_p0, .int p1])).length) Slot.unset).toArray = ls at hl ⊢
  have hl : lv_has ls 2 [(0, .ref a_p0), (1, .int p1)] := hl
  have hw0 := hts (.constantLong RX12 495 (1103515245)) (by decide +kernel)
  have hw1 := hts (.fieldLink RX12 183 "DistantVoiceModel" "seeds" "J") (by decide +kernel)
  have hinX12 : ∀ w ∈ wsX120, w ∈ wsX12_draw := fun w h => List.mem_cons_of_mem _ (List.mem_append_right _ h)
  have hw3 := hts (.constantLong RX12 497 (12345)) (by decide +kernel)
  have hw4 := hts (.constantLong RX12 499 (2147483648)) (by decide +kernel)
  have hw5 := hts (.constantLong RX12 501 (64)) (by decide +kernel)
  unfold fX12_draw at hf
  refine lv_aload_n hx hb dX12_draw_0 rfl (lv_at hl 0 rfl) ?_
  refine lv_ldc2 (v := 1103515245) hx hb hown hw0 dX12_draw_1 ?_
  refine lv_aload_n hx hb dX12_draw_4 rfl (lv_at hl 0 rfl) ?_
  refine va_get (D := (dC, dI)) (ci := 12) (v := .long (mmJ 56)) (C := RX12) (T := TX12) (N := 70) hx hb hts hinX12 hown hK hP 0 rfl rfl 56 (by decide) hw1 (fun _ h9 => h9) rfl dX12_draw_5 ?_
  refine lv_lmul hx hb dX12_draw_8 ?_
  refine lv_ldc2 (v := 12345) hx hb hown hw3 dX12_draw_9 ?_
  refine lv_ladd hx hb dX12_draw_12 ?_
  refine lv_ldc2 (v := 2147483648) hx hb hown hw4 dX12_draw_13 ?_
  refine xq_lrem hx hb hf dX12_draw_16 (fun v_1 hf => ?_)
  refine va_put (D := (dC, dI)) (ci := 12) (v := .long v_1) (ty := .long) (C := RX12) (T := TX12) (N := 70) hx hb hts hinX12 tyX12 tyX12_ok nmX12 hown hK hP hD hS 0 rfl rfl 56 (by decide) hw1 (fun _ h9 => h9) rfl (by decide +kernel) rfl rfl (Nat.le_of_ble_eq_true rfl) dX12_draw_17 (fun H locs hP hD hS => ?_)
  have hP : va_P (dC, dI) vwCl [(a_p0, .inr (12, oX12 mmI (va_up mmJ 56 v_1) mmR))] H := hP
  have hD : va_D A [(a_p0, .inr (12, oX12 mmI (va_up mmJ 56 v_1) mmR))] := hD
  refine lv_aload_n hx hb dX12_draw_20 rfl (lv_at hl 0 rfl) ?_
  refine va_get (D := (dC, dI)) (ci := 12) (v := .long v_1) (C := RX12) (T := TX12) (N := 70) hx hb hts hinX12 hown hK hP 0 rfl rfl 56 (by decide) hw1 (fun _ h9 => h9) rfl dX12_draw_21 ?_
  refine lv_ldc2 (v := 64) hx hb hown hw5 dX12_draw_24 ?_
  refine xq_ldiv hx hb hf dX12_draw_27 (fun v_2 hf => ?_)
  refine lv_iload_n hx hb dX12_draw_28 rfl (lv_at hl 1 rfl) ?_
  refine lv_i2l (v := p1.toInt64) hx hb dX12_draw_29 rfl ?_
  refine xq_lrem hx hb hf dX12_draw_30 (fun v_3 hf => ?_)
  refine lv_l2i (v := v_3.toInt32) hx hb dX12_draw_31 rfl ?_
  have e9 := Option.some.inj hf
  have e9_0 : v_3.toInt32 = r0 := congrArg (fun t => t.1) e9
  have e9_1 : (va_up mmJ 56 v_1) = r1 := congrArg (fun t => t.2) e9
  clear e9 hf
  subst e9_0
  subst e9_1
  exact xq_iret hx hb hr hlocks hK hP hD hS dX12_draw_32
set_option maxRecDepth 20000 in
theorem ggX12_hush_X12_is : GoodIn wsX12_hush wsX12_is := goodIn_r _ [6] rfl (by decide +kernel)
set_option maxRecDepth 20000 in
theorem gX12_hush_X12_is : GoodIn wsX12_hush (va_wsS RX12 301 yX12_is wsX12_is) := goodIn_app (goodIn_of _ (by decide +kernel)) ggX12_hush_X12_is
set_option maxRecDepth 20000 in
theorem ggX12_hush_X12_refuses : GoodIn wsX12_hush wsX12_refuses := goodIn_r _ [10, 11, 34, 35, 36, 37, 38, 39, 40, 41, 42, 43, 44, 45, 46, 47, 48, 49, 50, 51, 52, 53, 54, 55, 56, 57, 58, 59, 60, 61, 62, 63, 64, 65, 66, 67, 68, 69, 70, 71, 72, 73, 74, 75, 76, 77, 78, 79, 80, 81, 82, 83, 84, 85, 86, 87, 88, 89, 90, 91, 92, 93, 94, 95, 96, 97, 98, 99, 100, 101, 102, 103] rfl (by decide +kernel)
set_option maxRecDepth 20000 in
theorem gX12_hush_X12_refuses : GoodIn wsX12_hush (wsV RX12 225 RX12 yX12_refuses wsX12_refuses) := goodIn_app (goodIn_of _ (by decide +kernel)) ggX12_hush_X12_refuses
set_option maxRecDepth 20000 in
theorem ggX12_hush_X12_keeps : GoodIn wsX12_hush wsX12_keeps := goodIn_r _ [15, 16, 17, 18, 19, 20, 5, 21, 22, 23, 24, 25, 26, 27, 28, 29, 2, 30, 31, 32, 33, 34, 35, 36, 37, 38, 39, 40, 41, 42, 43, 44, 45, 46, 47, 48, 49, 50, 51, 52, 53, 54, 55, 56, 57, 58, 59, 60, 61, 62, 63, 64, 65, 66, 67, 68, 69, 70, 71, 72, 73, 74, 75, 76, 77, 78, 79, 80, 81, 82, 83, 84, 85, 86, 87, 88, 89, 90, 91, 92, 93, 94, 95, 96, 97, 98, 99, 100, 101, 102, 103] rfl (by decide +kernel)
set_option maxRecDepth 20000 in
theorem gX12_hush_X12_keeps : GoodIn wsX12_hush (wsV RX12 492 RX12 yX12_keeps wsX12_keeps) := goodIn_app (goodIn_of _ (by decide +kernel)) ggX12_hush_X12_keeps
def dsX12_hush_0 : List (Nat × Instr × Nat) := [(0, (.aload_n 0, 1)), (1, (.getfield 144, 3)), (4, (.ifCond .eq 23, 3)), (7, (.iload_n 1, 1)), (8, (.iconst 0, 1)), (9, (.bipush 9, 2)), (11, (.invokestatic 301, 3)), (14, (.ifCond .eq 13, 3)), (17, (.aload_n 0, 1)), (18, (.getfield 162, 3)), (21, (.iconst 0, 1)), (22, (.iaload, 1)), (23, (.iload_n 1, 1)), (24, (.if_icmp .ne 17, 3)), (27, (.aload_n 0, 1)), (28, (.iconst 3, 1)), (29, (.invokevirtual 225, 3)), (32, (.ifCond .lt 7, 3)), (35, (.iconst 1, 1)), (36, (.goto 4, 3)), (39, (.iconst 0, 1)), (40, (.ireturn, 1)), (41, (.aload_n 0, 1)), (42, (.invokevirtual 492, 3)), (45, (.aload_n 0, 1)), (46, (.getfield 162, 3)), (49, (.iconst 0, 1)), (50, (.iload_n 1, 1)), (51, (.iastore, 1)), (52, (.iconst 1, 1)), (53, (.ireturn, 1))]
theorem dsX12_hush_0_ok : (dsX12_hush_0.all fun q => decide (decode cX12_hush q.1 = .ok q.2)) = true := by decide +kernel
theorem dX12_hush_0 : decode cX12_hush 0 = .ok (.aload_n 0, 1) := of_decide_eq_true (List.all_eq_true.mp dsX12_hush_0_ok (0, (.aload_n 0, 1)) (List.mem_of_getElem? (i := 0) rfl))
theorem dX12_hush_1 : decode cX12_hush 1 = .ok (.getfield 144, 3) := of_decide_eq_true (List.all_eq_true.mp dsX12_hush_0_ok (1, (.getfield 144, 3)) (List.mem_of_getElem? (i := 1) rfl))
theorem dX12_hush_4 : decode cX12_hush 4 = .ok (.ifCond .eq 23, 3) := of_decide_eq_true (List.all_eq_true.mp dsX12_hush_0_ok (4, (.ifCond .eq 23, 3)) (List.mem_of_getElem? (i := 2) rfl))
theorem dX12_hush_7 : decode cX12_hush 7 = .ok (.iload_n 1, 1) := of_decide_eq_true (List.all_eq_true.mp dsX12_hush_0_ok (7, (.iload_n 1, 1)) (List.mem_of_getElem? (i := 3) rfl))
theorem dX12_hush_8 : decode cX12_hush 8 = .ok (.iconst 0, 1) := of_decide_eq_true (List.all_eq_true.mp dsX12_hush_0_ok (8, (.iconst 0, 1)) (List.mem_of_getElem? (i := 4) rfl))
theorem dX12_hush_9 : decode cX12_hush 9 = .ok (.bipush 9, 2) := of_decide_eq_true (List.all_eq_true.mp dsX12_hush_0_ok (9, (.bipush 9, 2)) (List.mem_of_getElem? (i := 5) rfl))
theorem dX12_hush_11 : decode cX12_hush 11 = .ok (.invokestatic 301, 3) := of_decide_eq_true (List.all_eq_true.mp dsX12_hush_0_ok (11, (.invokestatic 301, 3)) (List.mem_of_getElem? (i := 6) rfl))
theorem dX12_hush_14 : decode cX12_hush 14 = .ok (.ifCond .eq 13, 3) := of_decide_eq_true (List.all_eq_true.mp dsX12_hush_0_ok (14, (.ifCond .eq 13, 3)) (List.mem_of_getElem? (i := 7) rfl))
theorem dX12_hush_17 : decode cX12_hush 17 = .ok (.aload_n 0, 1) := of_decide_eq_true (List.all_eq_true.mp dsX12_hush_0_ok (17, (.aload_n 0, 1)) (List.mem_of_getElem? (i := 8) rfl))
theorem dX12_hush_18 : decode cX12_hush 18 = .ok (.getfield 162, 3) := of_decide_eq_true (List.all_eq_true.mp dsX12_hush_0_ok (18, (.getfield 162, 3)) (List.mem_of_getElem? (i := 9) rfl))
theorem dX12_hush_21 : decode cX12_hush 21 = .ok (.iconst 0, 1) := of_decide_eq_true (List.all_eq_true.mp dsX12_hush_0_ok (21, (.iconst 0, 1)) (List.mem_of_getElem? (i := 10) rfl))
theorem dX12_hush_22 : decode cX12_hush 22 = .ok (.iaload, 1) := of_decide_eq_true (List.all_eq_true.mp dsX12_hush_0_ok (22, (.iaload, 1)) (List.mem_of_getElem? (i := 11) rfl))
theorem dX12_hush_23 : decode cX12_hush 23 = .ok (.iload_n 1, 1) := of_decide_eq_true (List.all_eq_true.mp dsX12_hush_0_ok (23, (.iload_n 1, 1)) (List.mem_of_getElem? (i := 12) rfl))
theorem dX12_hush_24 : decode cX12_hush 24 = .ok (.if_icmp .ne 17, 3) := of_decide_eq_true (List.all_eq_true.mp dsX12_hush_0_ok (24, (.if_icmp .ne 17, 3)) (List.mem_of_getElem? (i := 13) rfl))
theorem dX12_hush_27 : decode cX12_hush 27 = .ok (.aload_n 0, 1) := of_decide_eq_true (List.all_eq_true.mp dsX12_hush_0_ok (27, (.aload_n 0, 1)) (List.mem_of_getElem? (i := 14) rfl))
theorem dX12_hush_28 : decode cX12_hush 28 = .ok (.iconst 3, 1) := of_decide_eq_true (List.all_eq_true.mp dsX12_hush_0_ok (28, (.iconst 3, 1)) (List.mem_of_getElem? (i := 15) rfl))
theorem dX12_hush_29 : decode cX12_hush 29 = .ok (.invokevirtual 225, 3) := of_decide_eq_true (List.all_eq_true.mp dsX12_hush_0_ok (29, (.invokevirtual 225, 3)) (List.mem_of_getElem? (i := 16) rfl))
theorem dX12_hush_32 : decode cX12_hush 32 = .ok (.ifCond .lt 7, 3) := of_decide_eq_true (List.all_eq_true.mp dsX12_hush_0_ok (32, (.ifCond .lt 7, 3)) (List.mem_of_getElem? (i := 17) rfl))
theorem dX12_hush_35 : decode cX12_hush 35 = .ok (.iconst 1, 1) := of_decide_eq_true (List.all_eq_true.mp dsX12_hush_0_ok (35, (.iconst 1, 1)) (List.mem_of_getElem? (i := 18) rfl))
theorem dX12_hush_36 : decode cX12_hush 36 = .ok (.goto 4, 3) := of_decide_eq_true (List.all_eq_true.mp dsX12_hush_0_ok (36, (.goto 4, 3)) (List.mem_of_getElem? (i := 19) rfl))
theorem dX12_hush_39 : decode cX12_hush 39 = .ok (.iconst 0, 1) := of_decide_eq_true (List.all_eq_true.mp dsX12_hush_0_ok (39, (.iconst 0, 1)) (List.mem_of_getElem? (i := 20) rfl))
theorem dX12_hush_40 : decode cX12_hush 40 = .ok (.ireturn, 1) := of_decide_eq_true (List.all_eq_true.mp dsX12_hush_0_ok (40, (.ireturn, 1)) (List.mem_of_getElem? (i := 21) rfl))
theorem dX12_hush_41 : decode cX12_hush 41 = .ok (.aload_n 0, 1) := of_decide_eq_true (List.all_eq_true.mp dsX12_hush_0_ok (41, (.aload_n 0, 1)) (List.mem_of_getElem? (i := 22) rfl))
theorem dX12_hush_42 : decode cX12_hush 42 = .ok (.invokevirtual 492, 3) := of_decide_eq_true (List.all_eq_true.mp dsX12_hush_0_ok (42, (.invokevirtual 492, 3)) (List.mem_of_getElem? (i := 23) rfl))
theorem dX12_hush_45 : decode cX12_hush 45 = .ok (.aload_n 0, 1) := of_decide_eq_true (List.all_eq_true.mp dsX12_hush_0_ok (45, (.aload_n 0, 1)) (List.mem_of_getElem? (i := 24) rfl))
theorem dX12_hush_46 : decode cX12_hush 46 = .ok (.getfield 162, 3) := of_decide_eq_true (List.all_eq_true.mp dsX12_hush_0_ok (46, (.getfield 162, 3)) (List.mem_of_getElem? (i := 25) rfl))
theorem dX12_hush_49 : decode cX12_hush 49 = .ok (.iconst 0, 1) := of_decide_eq_true (List.all_eq_true.mp dsX12_hush_0_ok (49, (.iconst 0, 1)) (List.mem_of_getElem? (i := 26) rfl))
theorem dX12_hush_50 : decode cX12_hush 50 = .ok (.iload_n 1, 1) := of_decide_eq_true (List.all_eq_true.mp dsX12_hush_0_ok (50, (.iload_n 1, 1)) (List.mem_of_getElem? (i := 27) rfl))
theorem dX12_hush_51 : decode cX12_hush 51 = .ok (.iastore, 1) := of_decide_eq_true (List.all_eq_true.mp dsX12_hush_0_ok (51, (.iastore, 1)) (List.mem_of_getElem? (i := 28) rfl))
theorem dX12_hush_52 : decode cX12_hush 52 = .ok (.iconst 1, 1) := of_decide_eq_true (List.all_eq_true.mp dsX12_hush_0_ok (52, (.iconst 1, 1)) (List.mem_of_getElem? (i := 29) rfl))
theorem dX12_hush_53 : decode cX12_hush 53 = .ok (.ireturn, 1) := of_decide_eq_true (List.all_eq_true.mp dsX12_hush_0_ok (53, (.ireturn, 1)) (List.mem_of_getElem? (i := 30) rfl))
def fX12_hush_b27 (N : Nat)    : ((Nat → Int32) × (Nat → Int32) × (Nat → Int32) × (Nat → Int32) × (Nat → Int32) × (Nat → Int32) × (Nat → Int32) × (Nat → Int32) × (Nat → Int32) × (Nat → Int32) × (Nat → Int32)) → Option (Int32 × (Nat → Int32) × (Nat → Int32) × (Nat → Int32) × (Nat → Int32) × (Nat → Int32) × (Nat → Int32) × (Nat → Int32) × (Nat → Int32) × (Nat → Int32) × (Nat → Int32) × (Nat → Int32)) :=
  fun (mmI_27, mm_hushOfF_27, mm_nightOfF_27, mm_mileOfF_27, mm_roundsOfF_27, mm_talkingOfF_27, mm_rowOfF_27, mm_keptManyF_27, mm_talkOfF_27, mm_keptRowF_27, mm_refusedF_27) => (xq_bd (fX12_refuses N mm_refusedF_27 3) fun (r_1_0, r_1_1) => (if r_1_0 < 0 then some ((0, mmI_27, mm_hushOfF_27, mm_nightOfF_27, mm_mileOfF_27, mm_roundsOfF_27, mm_talkingOfF_27, mm_rowOfF_27, mm_keptManyF_27, mm_talkOfF_27, mm_keptRowF_27, r_1_1)) else some ((1, mmI_27, mm_hushOfF_27, mm_nightOfF_27, mm_mileOfF_27, mm_roundsOfF_27, mm_talkingOfF_27, mm_rowOfF_27, mm_keptManyF_27, mm_talkOfF_27, mm_keptRowF_27, r_1_1))))
def fX12_hush (N : Nat) (mmI : Nat → Int32) (mm_hushOfF : Nat → Int32) (mm_nightOfF : Nat → Int32) (mm_mileOfF : Nat → Int32) (mm_roundsOfF : Nat → Int32) (mm_talkingOfF : Nat → Int32) (mm_rowOfF : Nat → Int32) (mm_keptManyF : Nat → Int32) (mm_talkOfF : Nat → Int32) (mm_keptRowF : Nat → Int32) (mm_refusedF : Nat → Int32)  (p1 : Int32) : Option (Int32 × (Nat → Int32) × (Nat → Int32) × (Nat → Int32) × (Nat → Int32) × (Nat → Int32) × (Nat → Int32) × (Nat → Int32) × (Nat → Int32) × (Nat → Int32) × (Nat → Int32) × (Nat → Int32)) :=
  (if (mmI 43) = 0 then fX12_hush_b27 N (mmI, mm_hushOfF, mm_nightOfF, mm_mileOfF, mm_roundsOfF, mm_talkingOfF, mm_rowOfF, mm_keptManyF, mm_talkOfF, mm_keptRowF, mm_refusedF) else (xq_bd (fX12_is N p1 0 9) fun r_1 => (if r_1 = 0 then fX12_hush_b27 N (mmI, mm_hushOfF, mm_nightOfF, mm_mileOfF, mm_roundsOfF, mm_talkingOfF, mm_rowOfF, mm_keptManyF, mm_talkOfF, mm_keptRowF, mm_refusedF) else (xq_bd (xq_ald 22 mm_hushOfF 0) fun v_3 => (if v_3 = p1 then fX12_hush_b27 N (mmI, mm_hushOfF, mm_nightOfF, mm_mileOfF, mm_roundsOfF, mm_talkingOfF, mm_rowOfF, mm_keptManyF, mm_talkOfF, mm_keptRowF, mm_refusedF) else (xq_bd (fX12_keeps N mmI mm_nightOfF mm_mileOfF mm_roundsOfF mm_talkingOfF mm_hushOfF mm_rowOfF mm_keptManyF mm_talkOfF mm_keptRowF) fun (r_4_0, r_4_1, r_4_2, r_4_3, r_4_4, r_4_5, r_4_6, r_4_7, r_4_8, r_4_9) => (xq_bd (xq_ast 22 r_4_5 0 p1) fun g_6 => some ((1, r_4_0, g_6, r_4_1, r_4_2, r_4_3, r_4_4, r_4_6, r_4_7, r_4_8, r_4_9, mm_refusedF)))))))))
set_option maxHeartbeats 4000000 in
set_option maxRecDepth 100000 in
theorem kX12_hush (l : Launch) (dC : Nat → ClassId) (dI : Nat → Nat → Nat) (cI cB cJ cZ cM : ClassId) (z : Nat) (ad : Nat → Nat) (N : Nat) (a_p0 : Nat) (mmI : Nat → Int32) (mmJ : Nat → Int64) (mmR : Nat → Nat) (mm_hushOfF : Nat → Int32) (mm_nightOfF : Nat → Int32) (mm_mileOfF : Nat → Int32) (mm_roundsOfF : Nat → Int32) (mm_talkingOfF : Nat → Int32) (mm_rowOfF : Nat → Int32) (mm_keptManyF : Nat → Int32) (mm_talkOfF : Nat → Int32) (mm_keptRowF : Nat → Int32) (mm_refusedF : Nat → Int32) (p1 : Int32) {r0 : Int32} {r1 : Nat → Int32} {r2 : Nat → Int32} {r3 : Nat → Int32} {r4 : Nat → Int32} {r5 : Nat → Int32} {r6 : Nat → Int32} {r7 : Nat → Int32} {r8 : Nat → Int32} {r9 : Nat → Int32} {r10 : Nat → Int32} {r11 : Nat → Int32} (hf : fX12_hush N mmI mm_hushOfF mm_nightOfF mm_mileOfF mm_roundsOfF mm_talkingOfF mm_rowOfF mm_keptManyF mm_talkOfF mm_keptRowF mm_refusedF p1 = some (r0, r1, r2, r3, r4, r5, r6, r7, r8, r9, r10, r11)) : xq_Ct l yX12_hush wsX12_hush { frames := 2, cells := 0, slots := 0, locals := 43 } (dC, dI) vwCl (xq_tys cI cB cJ cZ cM) z ad [.ref a_p0, .int p1] [(a_p0, .inr (12, oX12 mmI mmJ mmR)), ((mmR 49), .inl (cI, 22, .inl mm_hushOfF)), ((mmR 45), .inl (cI, 22, .inl mm_nightOfF)), ((mmR 46), .inl (cI, 22, .inl mm_mileOfF)), ((mmR 47), .inl (cI, 22, .inl mm_roundsOfF)), ((mmR 48), .inl (cI, 22, .inl mm_talkingOfF)), ((mmR 50), .inl (cI, 154, .inl mm_rowOfF)), ((mmR 52), .inl (cI, 22, .inl mm_keptManyF)), ((mmR 51), .inl (cI, 132, .inl mm_talkOfF)), ((mmR 53), .inl (cI, 2640, .inl mm_keptRowF)), ((mmR 44), .inl (cI, 6, .inl mm_refusedF))] [(a_p0, .inr (12, oX12 r1 mmJ mmR)), ((mmR 49), .inl (cI, 22, .inl r2)), ((mmR 45), .inl (cI, 22, .inl r3)), ((mmR 46), .inl (cI, 22, .inl r4)), ((mmR 47), .inl (cI, 22, .inl r5)), ((mmR 48), .inl (cI, 22, .inl r6)), ((mmR 50), .inl (cI, 154, .inl r7)), ((mmR 52), .inl (cI, 22, .inl r8)), ((mmR 51), .inl (cI, 132, .inl r9)), ((mmR 53), .inl (cI, 2640, .inl r10)), ((mmR 44), .inl (cI, 6, .inl r11))] (some (.int r0)) := by
  intro sz
  refine Met.ofW (cc := cX12_hush) (maxL := 2) (ret := (some .boolean)) (by decide) rfl ?_
  intro p e s m args below meth c s₁ B hml hv
  obtain ⟨rfl, hsz, hP, hK, hD0, hE, hz⟩ := hv
  have hx := B.exec
  have hb := B.bytes
  have hr := B.returns
  have hts := atoms_spec (ws := wsX12_hush) B.pre
  have hown : s.vm.findClass RX12 = some m.cls := findClass_of_methodNamed B.named
  have hlocks := B.notSynchronized
  subst hsz
  have hD := hD0.self (sz := s.heap.size)
  have hN := xq_Env.of hE hz hD0
  generalize hAe : va_A [(a_p0, .inr (12, oX12 mmI mmJ mmR)), ((mmR 49), .inl (cI, 22, .inl mm_hushOfF)), ((mmR 45), .inl (cI, 22, .inl mm_nightOfF)), ((mmR 46), .inl (cI, 22, .inl mm_mileOfF)), ((mmR 47), .inl (cI, 22, .inl mm_roundsOfF)), ((mmR 48), .inl (cI, 22, .inl mm_talkingOfF)), ((mmR 50), .inl (cI, 154, .inl mm_rowOfF)), ((mmR 52), .inl (cI, 22, .inl mm_keptManyF)), ((mmR 51), .inl (cI, 132, .inl mm_talkOfF)), ((mmR 53), .inl (cI, 2640, .inl mm_keptRowF)), ((mmR 44), .inl (cI, 6, .inl mm_refusedF))] s.heap.size = A at hD hN ⊢
  have hA : ∀ q : Nat, s.heap.size ≤ q → A q := fun q h => by rw [← hAe]; exact Or.inr h
  clear hAe hD0
  have hS : va_S A s.heap s.heap [] := va_S.rf
  have hl := lv_entry ([.ref a_p0, .int p1]) (n := 2) (Nat.le_of_ble_eq_true rfl)
  rw [lg_entry_eq]
  generalize (lg_sl ([.ref a_p0, .int p1]) ++ List.replicate (2 - (lg_sl ([.ref a_p0, .int p1])).length) Slot.unset).toArray = ls at hl ⊢
  have hl : lv_has ls 2 [(0, .ref a_p0), (1, .int p1)] := hl
  have hw0 := hts (.fieldLink RX12 144 "DistantVoiceModel" "isHouse" "Z") (by decide +kernel)
  have hinX12 : ∀ w ∈ wsX120, w ∈ wsX12_hush := fun w h => List.mem_cons_of_mem _ (List.mem_append_right _ h)
  have hw2 := hts (.fieldLink RX12 162 "DistantVoiceModel" "hushOf" "[I") (by decide +kernel)
  have b27 : ∀ (mmI_27 : Nat → Int32) (mm_hushOfF_27 : Nat → Int32) (mm_nightOfF_27 : Nat → Int32) (mm_mileOfF_27 : Nat → Int32) (mm_roundsOfF_27 : Nat → Int32) (mm_talkingOfF_27 : Nat → Int32) (mm_rowOfF_27 : Nat → Int32) (mm_keptManyF_27 : Nat → Int32) (mm_talkOfF_27 : Nat → Int32) (mm_keptRowF_27 : Nat → Int32) (mm_refusedF_27 : Nat → Int32) (ls : Array Slot) (H : Heap) (locs : List Loc), fX12_hush_b27 N (mmI_27, mm_hushOfF_27, mm_nightOfF_27, mm_mileOfF_27, mm_roundsOfF_27, mm_talkingOfF_27, mm_rowOfF_27, mm_keptManyF_27, mm_talkOfF_27, mm_keptRowF_27, mm_refusedF_27) = some (r0, r1, r2, r3, r4, r5, r6, r7, r8, r9, r10, r11) → va_P (dC, dI) vwCl [(a_p0, .inr (12, oX12 mmI_27 mmJ mmR)), ((mmR 49), .inl (cI, 22, .inl mm_hushOfF_27)), ((mmR 45), .inl (cI, 22, .inl mm_nightOfF_27)), ((mmR 46), .inl (cI, 22, .inl mm_mileOfF_27)), ((mmR 47), .inl (cI, 22, .inl mm_roundsOfF_27)), ((mmR 48), .inl (cI, 22, .inl mm_talkingOfF_27)), ((mmR 50), .inl (cI, 154, .inl mm_rowOfF_27)), ((mmR 52), .inl (cI, 22, .inl mm_keptManyF_27)), ((mmR 51), .inl (cI, 132, .inl mm_talkOfF_27)), ((mmR 53), .inl (cI, 2640, .inl mm_keptRowF_27)), ((mmR 44), .inl (cI, 6, .inl mm_refusedF_27))] H → va_D A [(a_p0, .inr (12, oX12 mmI_27 mmJ mmR)), ((mmR 49), .inl (cI, 22, .inl mm_hushOfF_27)), ((mmR 45), .inl (cI, 22, .inl mm_nightOfF_27)), ((mmR 46), .inl (cI, 22, .inl mm_mileOfF_27)), ((mmR 47), .inl (cI, 22, .inl mm_roundsOfF_27)), ((mmR 48), .inl (cI, 22, .inl mm_talkingOfF_27)), ((mmR 50), .inl (cI, 154, .inl mm_rowOfF_27)), ((mmR 52), .inl (cI, 22, .inl mm_keptManyF_27)), ((mmR 51), .inl (cI, 132, .inl mm_talkOfF_27)), ((mmR 53), .inl (cI, 2640, .inl mm_keptRowF_27)), ((mmR 44), .inl (cI, 6, .inl mm_refusedF_27))] → va_S A s.heap H locs → lv_has ls 2 [(0, .ref a_p0)] → W p l e (headSpec wsX12_hush { frames := 2, cells := 0, slots := 0, locals := 43 }).room s m [.ref a_p0, .int p1].toArray below meth c H locs 0 0 (MQ below (xq_Q (dC, dI) vwCl (xq_tys cI cB cJ cZ cM) A [(a_p0, .inr (12, oX12 r1 mmJ mmR)), ((mmR 49), .inl (cI, 22, .inl r2)), ((mmR 45), .inl (cI, 22, .inl r3)), ((mmR 46), .inl (cI, 22, .inl r4)), ((mmR 47), .inl (cI, 22, .inl r5)), ((mmR 48), .inl (cI, 22, .inl r6)), ((mmR 50), .inl (cI, 154, .inl r7)), ((mmR 52), .inl (cI, 22, .inl r8)), ((mmR 51), .inl (cI, 132, .inl r9)), ((mmR 53), .inl (cI, 2640, .inl r10)), ((mmR 44), .inl (cI, 6, .inl r11))] (some (.int r0))) [.ref a_p0, .int p1].toArray s 0 0 A) (F0 m 27 ls []) := by
    intro mmI_27 mm_hushOfF_27 mm_nightOfF_27 mm_mileOfF_27 mm_roundsOfF_27 mm_talkingOfF_27 mm_rowOfF_27 mm_keptManyF_27 mm_talkOfF_27 mm_keptRowF_27 mm_refusedF_27 ls H locs hf hP hD hS hl
    unfold fX12_hush_b27 at hf
    refine lv_aload_n hx hb dX12_hush_27 rfl (lv_at hl 0 rfl) ?_
    refine lv_iconst (v := 3) hx hb dX12_hush_28 (by decide) ?_
    obtain ⟨⟨r_1_0, r_1_1⟩, h_2, hf⟩ := xq_bd_some hf
    refine xq_callV (As := [.int 3]) (rest := []) (ci := 12) (q0 := 0) ⟨hx, hb, hml, hown, hts⟩ (kX12_refuses l dC dI cI cB cJ cZ cM z ad N a_p0 mmI_27 mmJ mmR mm_refusedF_27 3 h_2) (cwV 1 hts gX12_hush_X12_refuses rfl rfl rfl (by decide +kernel) ⟨Nat.le_of_ble_eq_true rfl, Nat.le_of_ble_eq_true rfl⟩) hN hK hP hD hS hA [0, 10] (by decide) rfl rfl rfl rfl rfl rfl hl.1 rfl (Nat.le_of_ble_eq_true rfl) dX12_hush_29 ⟨Nat.zero_le _, Nat.zero_le _⟩ (fun H locs hP hD hS => ?_)
    have hP : va_P (dC, dI) vwCl [(a_p0, .inr (12, oX12 mmI_27 mmJ mmR)), ((mmR 49), .inl (cI, 22, .inl mm_hushOfF_27)), ((mmR 45), .inl (cI, 22, .inl mm_nightOfF_27)), ((mmR 46), .inl (cI, 22, .inl mm_mileOfF_27)), ((mmR 47), .inl (cI, 22, .inl mm_roundsOfF_27)), ((mmR 48), .inl (cI, 22, .inl mm_talkingOfF_27)), ((mmR 50), .inl (cI, 154, .inl mm_rowOfF_27)), ((mmR 52), .inl (cI, 22, .inl mm_keptManyF_27)), ((mmR 51), .inl (cI, 132, .inl mm_talkOfF_27)), ((mmR 53), .inl (cI, 2640, .inl mm_keptRowF_27)), ((mmR 44), .inl (cI, 6, .inl r_1_1))] H := hP
    have hD : va_D A [(a_p0, .inr (12, oX12 mmI_27 mmJ mmR)), ((mmR 49), .inl (cI, 22, .inl mm_hushOfF_27)), ((mmR 45), .inl (cI, 22, .inl mm_nightOfF_27)), ((mmR 46), .inl (cI, 22, .inl mm_mileOfF_27)), ((mmR 47), .inl (cI, 22, .inl mm_roundsOfF_27)), ((mmR 48), .inl (cI, 22, .inl mm_talkingOfF_27)), ((mmR 50), .inl (cI, 154, .inl mm_rowOfF_27)), ((mmR 52), .inl (cI, 22, .inl mm_keptManyF_27)), ((mmR 51), .inl (cI, 132, .inl mm_talkOfF_27)), ((mmR 53), .inl (cI, 2640, .inl mm_keptRowF_27)), ((mmR 44), .inl (cI, 6, .inl r_1_1))] := hD
    refine W.eq (g2 := F0 m 32 ls [.int r_1_0]) rfl ?_
    refine lv_if_lt (tgt := 39) hx hb dX12_hush_32 (by decide) (fun c_ => ?_) (fun c_ => ?_)
    · have hf := xq_pos hf c_
      refine lv_iconst (v := 0) hx hb dX12_hush_39 (by decide) ?_
      have e9 := Option.some.inj hf
      have e9_0 : 0 = r0 := congrArg (fun t => t.1) e9
      have e9_1 : mmI_27 = r1 := congrArg (fun t => t.2.1) e9
      have e9_2 : mm_hushOfF_27 = r2 := congrArg (fun t => t.2.2.1) e9
      have e9_3 : mm_nightOfF_27 = r3 := congrArg (fun t => t.2.2.2.1) e9
      have e9_4 : mm_mileOfF_27 = r4 := congrArg (fun t => t.2.2.2.2.1) e9
      have e9_5 : mm_roundsOfF_27 = r5 := congrArg (fun t => t.2.2.2.2.2.1) e9
      have e9_6 : mm_talkingOfF_27 = r6 := congrArg (fun t => t.2.2.2.2.2.2.1) e9
      have e9_7 : mm_rowOfF_27 = r7 := congrArg (fun t => t.2.2.2.2.2.2.2.1) e9
      have e9_8 : mm_keptManyF_27 = r8 := congrArg (fun t => t.2.2.2.2.2.2.2.2.1) e9
      have e9_9 : mm_talkOfF_27 = r9 := congrArg (fun t => t.2.2.2.2.2.2.2.2.2.1) e9
      have e9_10 : mm_keptRowF_27 = r10 := congrArg (fun t => t.2.2.2.2.2.2.2.2.2.2.1) e9
      have e9_11 : r_1_1 = r11 := congrArg (fun t => t.2.2.2.2.2.2.2.2.2.2.2) e9
      clear e9 hf
      try clear b27
      subst e9_0
      subst e9_1
      subst e9_2
      subst e9_3
      subst e9_4
      subst e9_5
      subst e9_6
      subst e9_7
      subst e9_8
      subst e9_9
      subst e9_10
      subst e9_11
      exact xq_zret hx hb hr (by decide +kernel) hlocks hK hP hD hS dX12_hush_40
    · have hf := xq_neg hf c_
      refine lv_iconst (v := 1) hx hb dX12_hush_35 (by decide) ?_
      refine lv_goto (tgt := 40) hx hb dX12_hush_36 (by decide) ?_
      have e9 := Option.some.inj hf
      have e9_0 : 1 = r0 := congrArg (fun t => t.1) e9
      have e9_1 : mmI_27 = r1 := congrArg (fun t => t.2.1) e9
      have e9_2 : mm_hushOfF_27 = r2 := congrArg (fun t => t.2.2.1) e9
      have e9_3 : mm_nightOfF_27 = r3 := congrArg (fun t => t.2.2.2.1) e9
      have e9_4 : mm_mileOfF_27 = r4 := congrArg (fun t => t.2.2.2.2.1) e9
      have e9_5 : mm_roundsOfF_27 = r5 := congrArg (fun t => t.2.2.2.2.2.1) e9
      have e9_6 : mm_talkingOfF_27 = r6 := congrArg (fun t => t.2.2.2.2.2.2.1) e9
      have e9_7 : mm_rowOfF_27 = r7 := congrArg (fun t => t.2.2.2.2.2.2.2.1) e9
      have e9_8 : mm_keptManyF_27 = r8 := congrArg (fun t => t.2.2.2.2.2.2.2.2.1) e9
      have e9_9 : mm_talkOfF_27 = r9 := congrArg (fun t => t.2.2.2.2.2.2.2.2.2.1) e9
      have e9_10 : mm_keptRowF_27 = r10 := congrArg (fun t => t.2.2.2.2.2.2.2.2.2.2.1) e9
      have e9_11 : r_1_1 = r11 := congrArg (fun t => t.2.2.2.2.2.2.2.2.2.2.2) e9
      clear e9 hf
      try clear b27
      subst e9_0
      subst e9_1
      subst e9_2
      subst e9_3
      subst e9_4
      subst e9_5
      subst e9_6
      subst e9_7
      subst e9_8
      subst e9_9
      subst e9_10
      subst e9_11
      exact xq_zret hx hb hr (by decide +kernel) hlocks hK hP hD hS dX12_hush_40
  unfold fX12_hush at hf
  refine lv_aload_n hx hb dX12_hush_0 rfl (lv_at hl 0 rfl) ?_
  refine va_get (D := (dC, dI)) (ci := 12) (v := .int (mmI 43)) (C := RX12) (T := TX12) (N := 70) hx hb hts hinX12 hown hK hP 0 rfl rfl 43 (by decide) hw0 (fun _ h9 => h9) rfl dX12_hush_1 ?_
  refine lv_if_eq (tgt := 27) hx hb dX12_hush_4 (by decide) (fun c_ => ?_) (fun c_ => ?_)
  · have hf := xq_pos hf c_
    exact b27 mmI mm_hushOfF mm_nightOfF mm_mileOfF mm_roundsOfF mm_talkingOfF mm_rowOfF mm_keptManyF mm_talkOfF mm_keptRowF mm_refusedF _ _ _ hf hP hD hS (lv_sub hl [0] rfl)
  · have hf := xq_neg hf c_
    refine lv_iload_n hx hb dX12_hush_7 rfl (lv_at hl 1 rfl) ?_
    refine lv_iconst (v := 0) hx hb dX12_hush_8 (by decide) ?_
    refine lv_bipush (v := 9) hx hb dX12_hush_9 (by decide) ?_
    obtain ⟨r_1, h_2, hf⟩ := xq_bd_some hf
    refine xq_callS (As := [.int p1, .int 0, .int 9]) (rest := []) ⟨hx, hb, hml, hown, hts⟩ (kX12_is l dC dI cI cB cJ cZ cM z ad N p1 0 9 h_2) (va_cwS 3 hts gX12_hush_X12_is rfl rfl rfl (by decide +kernel) ⟨Nat.le_of_ble_eq_true rfl, Nat.le_of_ble_eq_true rfl⟩) hN hK hP hD hS hA [] (by decide) rfl rfl rfl hl.1 rfl (Nat.le_of_ble_eq_true rfl) dX12_hush_11 ⟨Nat.zero_le _, Nat.zero_le _⟩ (fun H locs hP hD hS => ?_)
    have hP : va_P (dC, dI) vwCl [(a_p0, .inr (12, oX12 mmI mmJ mmR)), ((mmR 49), .inl (cI, 22, .inl mm_hushOfF)), ((mmR 45), .inl (cI, 22, .inl mm_nightOfF)), ((mmR 46), .inl (cI, 22, .inl mm_mileOfF)), ((mmR 47), .inl (cI, 22, .inl mm_roundsOfF)), ((mmR 48), .inl (cI, 22, .inl mm_talkingOfF)), ((mmR 50), .inl (cI, 154, .inl mm_rowOfF)), ((mmR 52), .inl (cI, 22, .inl mm_keptManyF)), ((mmR 51), .inl (cI, 132, .inl mm_talkOfF)), ((mmR 53), .inl (cI, 2640, .inl mm_keptRowF)), ((mmR 44), .inl (cI, 6, .inl mm_refusedF))] H := hP
    have hD : va_D A [(a_p0, .inr (12, oX12 mmI mmJ mmR)), ((mmR 49), .inl (cI, 22, .inl mm_hushOfF)), ((mmR 45), .inl (cI, 22, .inl mm_nightOfF)), ((mmR 46), .inl (cI, 22, .inl mm_mileOfF)), ((mmR 47), .inl (cI, 22, .inl mm_roundsOfF)), ((mmR 48), .inl (cI, 22, .inl mm_talkingOfF)), ((mmR 50), .inl (cI, 154, .inl mm_rowOfF)), ((mmR 52), .inl (cI, 22, .inl mm_keptManyF)), ((mmR 51), .inl (cI, 132, .inl mm_talkOfF)), ((mmR 53), .inl (cI, 2640, .inl mm_keptRowF)), ((mmR 44), .inl (cI, 6, .inl mm_refusedF))] := hD
    refine W.eq (g2 := F0 m 14 ls [.int r_1]) rfl ?_
    refine lv_if_eq (tgt := 27) hx hb dX12_hush_14 (by decide) (fun c_ => ?_) (fun c_ => ?_)
    · have hf := xq_pos hf c_
      exact b27 mmI mm_hushOfF mm_nightOfF mm_mileOfF mm_roundsOfF mm_talkingOfF mm_rowOfF mm_keptManyF mm_talkOfF mm_keptRowF mm_refusedF _ _ _ hf hP hD hS (lv_sub hl [0] rfl)
    · have hf := xq_neg hf c_
      refine lv_aload_n hx hb dX12_hush_17 rfl (lv_at hl 0 rfl) ?_
      refine va_get (D := (dC, dI)) (ci := 12) (v := .ref ((mmR 49))) (C := RX12) (T := TX12) (N := 70) hx hb hts hinX12 hown hK hP 0 rfl rfl 49 (by decide) hw2 (fun _ h9 => h9) rfl dX12_hush_18 ?_
      refine lv_iconst (v := 0) hx hb dX12_hush_21 (by decide) ?_
      refine xq_iald hx hb hK hP 1 0 rfl rfl hf dX12_hush_22 (fun v_3 hf => ?_)
      refine lv_iload_n hx hb dX12_hush_23 rfl (lv_at hl 1 rfl) ?_
      refine lv_icmp_ne (tgt := 41) hx hb dX12_hush_24 (by decide) (fun c_ => ?_) (fun c_ => ?_)
      · have hf := xq_neg hf c_
        refine lv_aload_n hx hb dX12_hush_41 rfl (lv_at hl 0 rfl) ?_
        obtain ⟨⟨r_4_0, r_4_1, r_4_2, r_4_3, r_4_4, r_4_5, r_4_6, r_4_7, r_4_8, r_4_9⟩, h_5, hf⟩ := xq_bd_some hf
        refine xq_callV (As := []) (rest := []) (ci := 12) (q0 := 0) ⟨hx, hb, hml, hown, hts⟩ (kX12_keeps l dC dI cI cB cJ cZ cM z ad N a_p0 mmI mmJ mmR mm_nightOfF mm_mileOfF mm_roundsOfF mm_talkingOfF mm_hushOfF mm_rowOfF mm_keptManyF mm_talkOfF mm_keptRowF h_5) (cwV 0 hts gX12_hush_X12_keeps rfl rfl rfl (by decide +kernel) ⟨Nat.le_of_ble_eq_true rfl, Nat.le_of_ble_eq_true rfl⟩) hN hK hP hD hS hA [0, 2, 3, 4, 5, 1, 6, 7, 8, 9] (by decide) rfl rfl rfl rfl rfl rfl hl.1 rfl (Nat.le_of_ble_eq_true rfl) dX12_hush_42 ⟨Nat.zero_le _, Nat.zero_le _⟩ (fun H locs hP hD hS => ?_)
        have hP : va_P (dC, dI) vwCl [(a_p0, .inr (12, oX12 r_4_0 mmJ mmR)), ((mmR 49), .inl (cI, 22, .inl r_4_5)), ((mmR 45), .inl (cI, 22, .inl r_4_1)), ((mmR 46), .inl (cI, 22, .inl r_4_2)), ((mmR 47), .inl (cI, 22, .inl r_4_3)), ((mmR 48), .inl (cI, 22, .inl r_4_4)), ((mmR 50), .inl (cI, 154, .inl r_4_6)), ((mmR 52), .inl (cI, 22, .inl r_4_7)), ((mmR 51), .inl (cI, 132, .inl r_4_8)), ((mmR 53), .inl (cI, 2640, .inl r_4_9)), ((mmR 44), .inl (cI, 6, .inl mm_refusedF))] H := hP
        have hD : va_D A [(a_p0, .inr (12, oX12 r_4_0 mmJ mmR)), ((mmR 49), .inl (cI, 22, .inl r_4_5)), ((mmR 45), .inl (cI, 22, .inl r_4_1)), ((mmR 46), .inl (cI, 22, .inl r_4_2)), ((mmR 47), .inl (cI, 22, .inl r_4_3)), ((mmR 48), .inl (cI, 22, .inl r_4_4)), ((mmR 50), .inl (cI, 154, .inl r_4_6)), ((mmR 52), .inl (cI, 22, .inl r_4_7)), ((mmR 51), .inl (cI, 132, .inl r_4_8)), ((mmR 53), .inl (cI, 2640, .inl r_4_9)), ((mmR 44), .inl (cI, 6, .inl mm_refusedF))] := hD
        refine W.eq (g2 := F0 m 45 ls []) rfl ?_
        refine lv_aload_n hx hb dX12_hush_45 rfl (lv_at hl 0 rfl) ?_
        refine va_get (D := (dC, dI)) (ci := 12) (v := .ref ((mmR 49))) (C := RX12) (T := TX12) (N := 70) hx hb hts hinX12 hown hK hP 0 rfl rfl 49 (by decide) hw2 (fun _ h9 => h9) rfl dX12_hush_46 ?_
        refine lv_iconst (v := 0) hx hb dX12_hush_49 (by decide) ?_
        refine lv_iload_n hx hb dX12_hush_50 rfl (lv_at hl 1 rfl) ?_
        refine xq_iast hx hb hK hP hD hS 1 0 rfl rfl hf dX12_hush_51 (fun g_6 H locs hf hP hD hS => ?_)
        have hP : va_P (dC, dI) vwCl [(a_p0, .inr (12, oX12 r_4_0 mmJ mmR)), ((mmR 49), .inl (cI, 22, .inl g_6)), ((mmR 45), .inl (cI, 22, .inl r_4_1)), ((mmR 46), .inl (cI, 22, .inl r_4_2)), ((mmR 47), .inl (cI, 22, .inl r_4_3)), ((mmR 48), .inl (cI, 22, .inl r_4_4)), ((mmR 50), .inl (cI, 154, .inl r_4_6)), ((mmR 52), .inl (cI, 22, .inl r_4_7)), ((mmR 51), .inl (cI, 132, .inl r_4_8)), ((mmR 53), .inl (cI, 2640, .inl r_4_9)), ((mmR 44), .inl (cI, 6, .inl mm_refusedF))] H := hP
        have hD : va_D A [(a_p0, .inr (12, oX12 r_4_0 mmJ mmR)), ((mmR 49), .inl (cI, 22, .inl g_6)), ((mmR 45), .inl (cI, 22, .inl r_4_1)), ((mmR 46), .inl (cI, 22, .inl r_4_2)), ((mmR 47), .inl (cI, 22, .inl r_4_3)), ((mmR 48), .inl (cI, 22, .inl r_4_4)), ((mmR 50), .inl (cI, 154, .inl r_4_6)), ((mmR 52), .inl (cI, 22, .inl r_4_7)), ((mmR 51), .inl (cI, 132, .inl r_4_8)), ((mmR 53), .inl (cI, 2640, .inl r_4_9)), ((mmR 44), .inl (cI, 6, .inl mm_refusedF))] := hD
        refine lv_iconst (v := 1) hx hb dX12_hush_52 (by decide) ?_
        have e9 := Option.some.inj hf
        have e9_0 : 1 = r0 := congrArg (fun t => t.1) e9
        have e9_1 : r_4_0 = r1 := congrArg (fun t => t.2.1) e9
        have e9_2 : g_6 = r2 := congrArg (fun t => t.2.2.1) e9
        have e9_3 : r_4_1 = r3 := congrArg (fun t => t.2.2.2.1) e9
        have e9_4 : r_4_2 = r4 := congrArg (fun t => t.2.2.2.2.1) e9
        have e9_5 : r_4_3 = r5 := congrArg (fun t => t.2.2.2.2.2.1) e9
        have e9_6 : r_4_4 = r6 := congrArg (fun t => t.2.2.2.2.2.2.1) e9
        have e9_7 : r_4_6 = r7 := congrArg (fun t => t.2.2.2.2.2.2.2.1) e9
        have e9_8 : r_4_7 = r8 := congrArg (fun t => t.2.2.2.2.2.2.2.2.1) e9
        have e9_9 : r_4_8 = r9 := congrArg (fun t => t.2.2.2.2.2.2.2.2.2.1) e9
        have e9_10 : r_4_9 = r10 := congrArg (fun t => t.2.2.2.2.2.2.2.2.2.2.1) e9
        have e9_11 : mm_refusedF = r11 := congrArg (fun t => t.2.2.2.2.2.2.2.2.2.2.2) e9
        clear e9 hf
        try clear b27
        subst e9_0
        subst e9_1
        subst e9_2
        subst e9_3
        subst e9_4
        subst e9_5
        subst e9_6
        subst e9_7
        subst e9_8
        subst e9_9
        subst e9_10
        subst e9_11
        exact xq_zret hx hb hr (by decide +kernel) hlocks hK hP hD hS dX12_hush_53
      · have hf := xq_pos hf c_
        exact b27 mmI mm_hushOfF mm_nightOfF mm_mileOfF mm_roundsOfF mm_talkingOfF mm_rowOfF mm_keptManyF mm_talkOfF mm_keptRowF mm_refusedF _ _ _ hf hP hD hS (lv_sub hl [0] rfl)
set_option maxRecDepth 20000 in
theorem ggX12_sit_X12_isEar : GoodIn wsX12_sit wsX12_isEar := goodIn_r _ [6, 7, 8, 39, 40, 41, 42, 43, 44, 45, 46, 47, 48, 49, 50, 51, 52, 53, 54, 55, 56, 57, 58, 59, 60, 61, 62, 63, 64, 65, 66, 67, 68, 69, 70, 71, 72, 73, 74, 75, 76, 77, 78, 79, 80, 81, 82, 83, 84, 85, 86, 87, 88, 89, 90, 91, 92, 93, 94, 95, 96, 97, 98, 99, 100, 101, 102, 103, 104, 105, 106, 107, 108] rfl (by decide +kernel)
set_option maxRecDepth 20000 in
theorem gX12_sit_X12_isEar : GoodIn wsX12_sit (wsV RX12 454 RX12 yX12_isEar wsX12_isEar) := goodIn_app (goodIn_of _ (by decide +kernel)) ggX12_sit_X12_isEar
set_option maxRecDepth 20000 in
theorem ggX12_sit_X12_is : GoodIn wsX12_sit wsX12_is := goodIn_r _ [11] rfl (by decide +kernel)
set_option maxRecDepth 20000 in
theorem gX12_sit_X12_is : GoodIn wsX12_sit (va_wsS RX12 301 yX12_is wsX12_is) := goodIn_app (goodIn_of _ (by decide +kernel)) ggX12_sit_X12_is
set_option maxRecDepth 20000 in
theorem ggX12_sit_X12_refuses : GoodIn wsX12_sit wsX12_refuses := goodIn_r _ [15, 16, 39, 40, 41, 42, 43, 44, 45, 46, 47, 48, 49, 50, 51, 52, 53, 54, 55, 56, 57, 58, 59, 60, 61, 62, 63, 64, 65, 66, 67, 68, 69, 70, 71, 72, 73, 74, 75, 76, 77, 78, 79, 80, 81, 82, 83, 84, 85, 86, 87, 88, 89, 90, 91, 92, 93, 94, 95, 96, 97, 98, 99, 100, 101, 102, 103, 104, 105, 106, 107, 108] rfl (by decide +kernel)
set_option maxRecDepth 20000 in
theorem gX12_sit_X12_refuses : GoodIn wsX12_sit (wsV RX12 225 RX12 yX12_refuses wsX12_refuses) := goodIn_app (goodIn_of _ (by decide +kernel)) ggX12_sit_X12_refuses
set_option maxRecDepth 20000 in
theorem ggX12_sit_X12_keeps : GoodIn wsX12_sit wsX12_keeps := goodIn_r _ [20, 21, 22, 23, 24, 25, 5, 26, 27, 28, 29, 30, 31, 32, 33, 34, 35, 1, 36, 37, 38, 39, 40, 41, 42, 43, 44, 45, 46, 47, 48, 49, 50, 51, 52, 53, 54, 55, 56, 57, 58, 59, 60, 61, 62, 63, 64, 65, 66, 67, 68, 69, 70, 71, 72, 73, 74, 75, 76, 77, 78, 79, 80, 81, 82, 83, 84, 85, 86, 87, 88, 89, 90, 91, 92, 93, 94, 95, 96, 97, 98, 99, 100, 101, 102, 103, 104, 105, 106, 107, 108] rfl (by decide +kernel)
set_option maxRecDepth 20000 in
theorem gX12_sit_X12_keeps : GoodIn wsX12_sit (wsV RX12 492 RX12 yX12_keeps wsX12_keeps) := goodIn_app (goodIn_of _ (by decide +kernel)) ggX12_sit_X12_keeps
def dsX12_sit_0 : List (Nat × Instr × Nat) := [(0, (.aload_n 0, 1)), (1, (.iload_n 1, 1)), (2, (.invokevirtual 454, 3)), (5, (.ifCond .eq 23, 3)), (8, (.iload_n 2, 1)), (9, (.iconst 0, 1)), (10, (.bipush 9, 2)), (12, (.invokestatic 301, 3)), (15, (.ifCond .eq 13, 3)), (18, (.aload_n 0, 1)), (19, (.getfield 165, 3)), (22, (.iload_n 1, 1)), (23, (.iaload, 1)), (24, (.iload_n 2, 1)), (25, (.if_icmp .ne 17, 3)), (28, (.aload_n 0, 1)), (29, (.iconst 3, 1)), (30, (.invokevirtual 225, 3)), (33, (.ifCond .lt 7, 3)), (36, (.iconst 1, 1)), (37, (.goto 4, 3)), (40, (.iconst 0, 1)), (41, (.ireturn, 1)), (42, (.aload_n 0, 1)), (43, (.invokevirtual 492, 3)), (46, (.aload_n 0, 1)), (47, (.getfield 165, 3)), (50, (.iload_n 1, 1)), (51, (.iload_n 2, 1)), (52, (.iastore, 1)), (53, (.iconst 1, 1)), (54, (.ireturn, 1))]
theorem dsX12_sit_0_ok : (dsX12_sit_0.all fun q => decide (decode cX12_sit q.1 = .ok q.2)) = true := by decide +kernel
theorem dX12_sit_0 : decode cX12_sit 0 = .ok (.aload_n 0, 1) := of_decide_eq_true (List.all_eq_true.mp dsX12_sit_0_ok (0, (.aload_n 0, 1)) (List.mem_of_getElem? (i := 0) rfl))
theorem dX12_sit_1 : decode cX12_sit 1 = .ok (.iload_n 1, 1) := of_decide_eq_true (List.all_eq_true.mp dsX12_sit_0_ok (1, (.iload_n 1, 1)) (List.mem_of_getElem? (i := 1) rfl))
theorem dX12_sit_2 : decode cX12_sit 2 = .ok (.invokevirtual 454, 3) := of_decide_eq_true (List.all_eq_true.mp dsX12_sit_0_ok (2, (.invokevirtual 454, 3)) (List.mem_of_getElem? (i := 2) rfl))
theorem dX12_sit_5 : decode cX12_sit 5 = .ok (.ifCond .eq 23, 3) := of_decide_eq_true (List.all_eq_true.mp dsX12_sit_0_ok (5, (.ifCond .eq 23, 3)) (List.mem_of_getElem? (i := 3) rfl))
theorem dX12_sit_8 : decode cX12_sit 8 = .ok (.iload_n 2, 1) := of_decide_eq_true (List.all_eq_true.mp dsX12_sit_0_ok (8, (.iload_n 2, 1)) (List.mem_of_getElem? (i := 4) rfl))
theorem dX12_sit_9 : decode cX12_sit 9 = .ok (.iconst 0, 1) := of_decide_eq_true (List.all_eq_true.mp dsX12_sit_0_ok (9, (.iconst 0, 1)) (List.mem_of_getElem? (i := 5) rfl))
theorem dX12_sit_10 : decode cX12_sit 10 = .ok (.bipush 9, 2) := of_decide_eq_true (List.all_eq_true.mp dsX12_sit_0_ok (10, (.bipush 9, 2)) (List.mem_of_getElem? (i := 6) rfl))
theorem dX12_sit_12 : decode cX12_sit 12 = .ok (.invokestatic 301, 3) := of_decide_eq_true (List.all_eq_true.mp dsX12_sit_0_ok (12, (.invokestatic 301, 3)) (List.mem_of_getElem? (i := 7) rfl))
theorem dX12_sit_15 : decode cX12_sit 15 = .ok (.ifCond .eq 13, 3) := of_decide_eq_true (List.all_eq_true.mp dsX12_sit_0_ok (15, (.ifCond .eq 13, 3)) (List.mem_of_getElem? (i := 8) rfl))
theorem dX12_sit_18 : decode cX12_sit 18 = .ok (.aload_n 0, 1) := of_decide_eq_true (List.all_eq_true.mp dsX12_sit_0_ok (18, (.aload_n 0, 1)) (List.mem_of_getElem? (i := 9) rfl))
theorem dX12_sit_19 : decode cX12_sit 19 = .ok (.getfield 165, 3) := of_decide_eq_true (List.all_eq_true.mp dsX12_sit_0_ok (19, (.getfield 165, 3)) (List.mem_of_getElem? (i := 10) rfl))
theorem dX12_sit_22 : decode cX12_sit 22 = .ok (.iload_n 1, 1) := of_decide_eq_true (List.all_eq_true.mp dsX12_sit_0_ok (22, (.iload_n 1, 1)) (List.mem_of_getElem? (i := 11) rfl))
theorem dX12_sit_23 : decode cX12_sit 23 = .ok (.iaload, 1) := of_decide_eq_true (List.all_eq_true.mp dsX12_sit_0_ok (23, (.iaload, 1)) (List.mem_of_getElem? (i := 12) rfl))
theorem dX12_sit_24 : decode cX12_sit 24 = .ok (.iload_n 2, 1) := of_decide_eq_true (List.all_eq_true.mp dsX12_sit_0_ok (24, (.iload_n 2, 1)) (List.mem_of_getElem? (i := 13) rfl))
theorem dX12_sit_25 : decode cX12_sit 25 = .ok (.if_icmp .ne 17, 3) := of_decide_eq_true (List.all_eq_true.mp dsX12_sit_0_ok (25, (.if_icmp .ne 17, 3)) (List.mem_of_getElem? (i := 14) rfl))
theorem dX12_sit_28 : decode cX12_sit 28 = .ok (.aload_n 0, 1) := of_decide_eq_true (List.all_eq_true.mp dsX12_sit_0_ok (28, (.aload_n 0, 1)) (List.mem_of_getElem? (i := 15) rfl))
theorem dX12_sit_29 : decode cX12_sit 29 = .ok (.iconst 3, 1) := of_decide_eq_true (List.all_eq_true.mp dsX12_sit_0_ok (29, (.iconst 3, 1)) (List.mem_of_getElem? (i := 16) rfl))
theorem dX12_sit_30 : decode cX12_sit 30 = .ok (.invokevirtual 225, 3) := of_decide_eq_true (List.all_eq_true.mp dsX12_sit_0_ok (30, (.invokevirtual 225, 3)) (List.mem_of_getElem? (i := 17) rfl))
theorem dX12_sit_33 : decode cX12_sit 33 = .ok (.ifCond .lt 7, 3) := of_decide_eq_true (List.all_eq_true.mp dsX12_sit_0_ok (33, (.ifCond .lt 7, 3)) (List.mem_of_getElem? (i := 18) rfl))
theorem dX12_sit_36 : decode cX12_sit 36 = .ok (.iconst 1, 1) := of_decide_eq_true (List.all_eq_true.mp dsX12_sit_0_ok (36, (.iconst 1, 1)) (List.mem_of_getElem? (i := 19) rfl))
theorem dX12_sit_37 : decode cX12_sit 37 = .ok (.goto 4, 3) := of_decide_eq_true (List.all_eq_true.mp dsX12_sit_0_ok (37, (.goto 4, 3)) (List.mem_of_getElem? (i := 20) rfl))
theorem dX12_sit_40 : decode cX12_sit 40 = .ok (.iconst 0, 1) := of_decide_eq_true (List.all_eq_true.mp dsX12_sit_0_ok (40, (.iconst 0, 1)) (List.mem_of_getElem? (i := 21) rfl))
theorem dX12_sit_41 : decode cX12_sit 41 = .ok (.ireturn, 1) := of_decide_eq_true (List.all_eq_true.mp dsX12_sit_0_ok (41, (.ireturn, 1)) (List.mem_of_getElem? (i := 22) rfl))
theorem dX12_sit_42 : decode cX12_sit 42 = .ok (.aload_n 0, 1) := of_decide_eq_true (List.all_eq_true.mp dsX12_sit_0_ok (42, (.aload_n 0, 1)) (List.mem_of_getElem? (i := 23) rfl))
theorem dX12_sit_43 : decode cX12_sit 43 = .ok (.invokevirtual 492, 3) := of_decide_eq_true (List.all_eq_true.mp dsX12_sit_0_ok (43, (.invokevirtual 492, 3)) (List.mem_of_getElem? (i := 24) rfl))
theorem dX12_sit_46 : decode cX12_sit 46 = .ok (.aload_n 0, 1) := of_decide_eq_true (List.all_eq_true.mp dsX12_sit_0_ok (46, (.aload_n 0, 1)) (List.mem_of_getElem? (i := 25) rfl))
theorem dX12_sit_47 : decode cX12_sit 47 = .ok (.getfield 165, 3) := of_decide_eq_true (List.all_eq_true.mp dsX12_sit_0_ok (47, (.getfield 165, 3)) (List.mem_of_getElem? (i := 26) rfl))
theorem dX12_sit_50 : decode cX12_sit 50 = .ok (.iload_n 1, 1) := of_decide_eq_true (List.all_eq_true.mp dsX12_sit_0_ok (50, (.iload_n 1, 1)) (List.mem_of_getElem? (i := 27) rfl))
theorem dX12_sit_51 : decode cX12_sit 51 = .ok (.iload_n 2, 1) := of_decide_eq_true (List.all_eq_true.mp dsX12_sit_0_ok (51, (.iload_n 2, 1)) (List.mem_of_getElem? (i := 28) rfl))
theorem dX12_sit_52 : decode cX12_sit 52 = .ok (.iastore, 1) := of_decide_eq_true (List.all_eq_true.mp dsX12_sit_0_ok (52, (.iastore, 1)) (List.mem_of_getElem? (i := 29) rfl))
theorem dX12_sit_53 : decode cX12_sit 53 = .ok (.iconst 1, 1) := of_decide_eq_true (List.all_eq_true.mp dsX12_sit_0_ok (53, (.iconst 1, 1)) (List.mem_of_getElem? (i := 30) rfl))
theorem dX12_sit_54 : decode cX12_sit 54 = .ok (.ireturn, 1) := of_decide_eq_true (List.all_eq_true.mp dsX12_sit_0_ok (54, (.ireturn, 1)) (List.mem_of_getElem? (i := 31) rfl))
def fX12_sit_b28 (N : Nat) (mm_earsF : Nat → Int32)   : ((Nat → Int32) × (Nat → Int32) × (Nat → Int32) × (Nat → Int32) × (Nat → Int32) × (Nat → Int32) × (Nat → Int32) × (Nat → Int32) × (Nat → Int32) × (Nat → Int32) × (Nat → Int32)) → Option (Int32 × (Nat → Int32) × (Nat → Int32) × (Nat → Int32) × (Nat → Int32) × (Nat → Int32) × (Nat → Int32) × (Nat → Int32) × (Nat → Int32) × (Nat → Int32) × (Nat → Int32) × (Nat → Int32)) :=
  fun (mmI_28, mm_rowOfF_28, mm_nightOfF_28, mm_mileOfF_28, mm_roundsOfF_28, mm_talkingOfF_28, mm_hushOfF_28, mm_keptManyF_28, mm_talkOfF_28, mm_keptRowF_28, mm_refusedF_28) => (xq_bd (fX12_refuses N mm_refusedF_28 3) fun (r_1_0, r_1_1) => (if r_1_0 < 0 then some ((0, mmI_28, mm_rowOfF_28, mm_nightOfF_28, mm_mileOfF_28, mm_roundsOfF_28, mm_talkingOfF_28, mm_hushOfF_28, mm_keptManyF_28, mm_talkOfF_28, mm_keptRowF_28, r_1_1)) else some ((1, mmI_28, mm_rowOfF_28, mm_nightOfF_28, mm_mileOfF_28, mm_roundsOfF_28, mm_talkingOfF_28, mm_hushOfF_28, mm_keptManyF_28, mm_talkOfF_28, mm_keptRowF_28, r_1_1))))
def fX12_sit (N : Nat) (mmI : Nat → Int32) (mm_earsF : Nat → Int32) (mm_rowOfF : Nat → Int32) (mm_nightOfF : Nat → Int32) (mm_mileOfF : Nat → Int32) (mm_roundsOfF : Nat → Int32) (mm_talkingOfF : Nat → Int32) (mm_hushOfF : Nat → Int32) (mm_keptManyF : Nat → Int32) (mm_talkOfF : Nat → Int32) (mm_keptRowF : Nat → Int32) (mm_refusedF : Nat → Int32)  (p1 : Int32) (p2 : Int32) : Option (Int32 × (Nat → Int32) × (Nat → Int32) × (Nat → Int32) × (Nat → Int32) × (Nat → Int32) × (Nat → Int32) × (Nat → Int32) × (Nat → Int32) × (Nat → Int32) × (Nat → Int32) × (Nat → Int32)) :=
  (xq_bd (fX12_isEar N mmI mm_earsF p1) fun r_1 => (if r_1 = 0 then fX12_sit_b28 N mm_earsF (mmI, mm_rowOfF, mm_nightOfF, mm_mileOfF, mm_roundsOfF, mm_talkingOfF, mm_hushOfF, mm_keptManyF, mm_talkOfF, mm_keptRowF, mm_refusedF) else (xq_bd (fX12_is N p2 0 9) fun r_3 => (if r_3 = 0 then fX12_sit_b28 N mm_earsF (mmI, mm_rowOfF, mm_nightOfF, mm_mileOfF, mm_roundsOfF, mm_talkingOfF, mm_hushOfF, mm_keptManyF, mm_talkOfF, mm_keptRowF, mm_refusedF) else (xq_bd (xq_ald 154 mm_rowOfF p1) fun v_5 => (if v_5 = p2 then fX12_sit_b28 N mm_earsF (mmI, mm_rowOfF, mm_nightOfF, mm_mileOfF, mm_roundsOfF, mm_talkingOfF, mm_hushOfF, mm_keptManyF, mm_talkOfF, mm_keptRowF, mm_refusedF) else (xq_bd (fX12_keeps N mmI mm_nightOfF mm_mileOfF mm_roundsOfF mm_talkingOfF mm_hushOfF mm_rowOfF mm_keptManyF mm_talkOfF mm_keptRowF) fun (r_6_0, r_6_1, r_6_2, r_6_3, r_6_4, r_6_5, r_6_6, r_6_7, r_6_8, r_6_9) => (xq_bd (xq_ast 154 r_6_6 p1 p2) fun g_8 => some ((1, r_6_0, g_8, r_6_1, r_6_2, r_6_3, r_6_4, r_6_5, r_6_7, r_6_8, r_6_9, mm_refusedF))))))))))
set_option maxHeartbeats 4000000 in
set_option maxRecDepth 100000 in
theorem kX12_sit (l : Launch) (dC : Nat → ClassId) (dI : Nat → Nat → Nat) (cI cB cJ cZ cM : ClassId) (z : Nat) (ad : Nat → Nat) (N : Nat) (a_p0 : Nat) (mmI : Nat → Int32) (mmJ : Nat → Int64) (mmR : Nat → Nat) (mm_earsF : Nat → Int32) (mm_rowOfF : Nat → Int32) (mm_nightOfF : Nat → Int32) (mm_mileOfF : Nat → Int32) (mm_roundsOfF : Nat → Int32) (mm_talkingOfF : Nat → Int32) (mm_hushOfF : Nat → Int32) (mm_keptManyF : Nat → Int32) (mm_talkOfF : Nat → Int32) (mm_keptRowF : Nat → Int32) (mm_refusedF : Nat → Int32) (p1 : Int32) (p2 : Int32) {r0 : Int32} {r1 : Nat → Int32} {r2 : Nat → Int32} {r3 : Nat → Int32} {r4 : Nat → Int32} {r5 : Nat → Int32} {r6 : Nat → Int32} {r7 : Nat → Int32} {r8 : Nat → Int32} {r9 : Nat → Int32} {r10 : Nat → Int32} {r11 : Nat → Int32} (hf : fX12_sit N mmI mm_earsF mm_rowOfF mm_nightOfF mm_mileOfF mm_roundsOfF mm_talkingOfF mm_hushOfF mm_keptManyF mm_talkOfF mm_keptRowF mm_refusedF p1 p2 = some (r0, r1, r2, r3, r4, r5, r6, r7, r8, r9, r10, r11)) : xq_Ct l yX12_sit wsX12_sit { frames := 2, cells := 0, slots := 0, locals := 43 } (dC, dI) vwCl (xq_tys cI cB cJ cZ cM) z ad [.ref a_p0, .int p1, .int p2] [(a_p0, .inr (12, oX12 mmI mmJ mmR)), ((mmR 18), .inl (cI, 2, .inl mm_earsF)), ((mmR 50), .inl (cI, 154, .inl mm_rowOfF)), ((mmR 45), .inl (cI, 22, .inl mm_nightOfF)), ((mmR 46), .inl (cI, 22, .inl mm_mileOfF)), ((mmR 47), .inl (cI, 22, .inl mm_roundsOfF)), ((mmR 48), .inl (cI, 22, .inl mm_talkingOfF)), ((mmR 49), .inl (cI, 22, .inl mm_hushOfF)), ((mmR 52), .inl (cI, 22, .inl mm_keptManyF)), ((mmR 51), .inl (cI, 132, .inl mm_talkOfF)), ((mmR 53), .inl (cI, 2640, .inl mm_keptRowF)), ((mmR 44), .inl (cI, 6, .inl mm_refusedF))] [(a_p0, .inr (12, oX12 r1 mmJ mmR)), ((mmR 18), .inl (cI, 2, .inl mm_earsF)), ((mmR 50), .inl (cI, 154, .inl r2)), ((mmR 45), .inl (cI, 22, .inl r3)), ((mmR 46), .inl (cI, 22, .inl r4)), ((mmR 47), .inl (cI, 22, .inl r5)), ((mmR 48), .inl (cI, 22, .inl r6)), ((mmR 49), .inl (cI, 22, .inl r7)), ((mmR 52), .inl (cI, 22, .inl r8)), ((mmR 51), .inl (cI, 132, .inl r9)), ((mmR 53), .inl (cI, 2640, .inl r10)), ((mmR 44), .inl (cI, 6, .inl r11))] (some (.int r0)) := by
  intro sz
  refine Met.ofW (cc := cX12_sit) (maxL := 3) (ret := (some .boolean)) (by decide) rfl ?_
  intro p e s m args below meth c s₁ B hml hv
  obtain ⟨rfl, hsz, hP, hK, hD0, hE, hz⟩ := hv
  have hx := B.exec
  have hb := B.bytes
  have hr := B.returns
  have hts := atoms_spec (ws := wsX12_sit) B.pre
  have hown : s.vm.findClass RX12 = some m.cls := findClass_of_methodNamed B.named
  have hlocks := B.notSynchronized
  subst hsz
  have hD := hD0.self (sz := s.heap.size)
  have hN := xq_Env.of hE hz hD0
  generalize hAe : va_A [(a_p0, .inr (12, oX12 mmI mmJ mmR)), ((mmR 18), .inl (cI, 2, .inl mm_earsF)), ((mmR 50), .inl (cI, 154, .inl mm_rowOfF)), ((mmR 45), .inl (cI, 22, .inl mm_nightOfF)), ((mmR 46), .inl (cI, 22, .inl mm_mileOfF)), ((mmR 47), .inl (cI, 22, .inl mm_roundsOfF)), ((mmR 48), .inl (cI, 22, .inl mm_talkingOfF)), ((mmR 49), .inl (cI, 22, .inl mm_hushOfF)), ((mmR 52), .inl (cI, 22, .inl mm_keptManyF)), ((mmR 51), .inl (cI, 132, .inl mm_talkOfF)), ((mmR 53), .inl (cI, 2640, .inl mm_keptRowF)), ((mmR 44), .inl (cI, 6, .inl mm_refusedF))] s.heap.size = A at hD hN ⊢
  have hA : ∀ q : Nat, s.heap.size ≤ q → A q := fun q h => by rw [← hAe]; exact Or.inr h
  clear hAe hD0
  have hS : va_S A s.heap s.heap [] := va_S.rf
  have hl := lv_entry ([.ref a_p0, .int p1, .int p2]) (n := 3) (Nat.le_of_ble_eq_true rfl)
  rw [lg_entry_eq]
  generalize (lg_sl ([.ref a_p0, .int p1, .int p2]) ++ List.replicate (3 - (lg_sl ([.ref a_p0, .int p1, .int p2])).length) Slot.unset).toArray = ls at hl ⊢
  have hl : lv_has ls 3 [(0, .ref a_p0), (1, .int p1), (2, .int p2)] := hl
  have hw0 := hts (.fieldLink RX12 165 "DistantVoiceModel" "rowOf" "[I") (by decide +kernel)
  have hinX12 : ∀ w ∈ wsX120, w ∈ wsX12_sit := fun w h => List.mem_cons_of_mem _ (List.mem_append_right _ h)
  have b28 : ∀ (mmI_28 : Nat → Int32) (mm_rowOfF_28 : Nat → Int32) (mm_nightOfF_28 : Nat → Int32) (mm_mileOfF_28 : Nat → Int32) (mm_roundsOfF_28 : Nat → Int32) (mm_talkingOfF_28 : Nat → Int32) (mm_hushOfF_28 : Nat → Int32) (mm_keptManyF_28 : Nat → Int32) (mm_talkOfF_28 : Nat → Int32) (mm_keptRowF_28 : Nat → Int32) (mm_refusedF_28 : Nat → Int32) (ls : Array Slot) (H : Heap) (locs : List Loc), fX12_sit_b28 N mm_earsF (mmI_28, mm_rowOfF_28, mm_nightOfF_28, mm_mileOfF_28, mm_roundsOfF_28, mm_talkingOfF_28, mm_hushOfF_28, mm_keptManyF_28, mm_talkOfF_28, mm_keptRowF_28, mm_refusedF_28) = some (r0, r1, r2, r3, r4, r5, r6, r7, r8, r9, r10, r11) → va_P (dC, dI) vwCl [(a_p0, .inr (12, oX12 mmI_28 mmJ mmR)), ((mmR 18), .inl (cI, 2, .inl mm_earsF)), ((mmR 50), .inl (cI, 154, .inl mm_rowOfF_28)), ((mmR 45), .inl (cI, 22, .inl mm_nightOfF_28)), ((mmR 46), .inl (cI, 22, .inl mm_mileOfF_28)), ((mmR 47), .inl (cI, 22, .inl mm_roundsOfF_28)), ((mmR 48), .inl (cI, 22, .inl mm_talkingOfF_28)), ((mmR 49), .inl (cI, 22, .inl mm_hushOfF_28)), ((mmR 52), .inl (cI, 22, .inl mm_keptManyF_28)), ((mmR 51), .inl (cI, 132, .inl mm_talkOfF_28)), ((mmR 53), .inl (cI, 2640, .inl mm_keptRowF_28)), ((mmR 44), .inl (cI, 6, .inl mm_refusedF_28))] H → va_D A [(a_p0, .inr (12, oX12 mmI_28 mmJ mmR)), ((mmR 18), .inl (cI, 2, .inl mm_earsF)), ((mmR 50), .inl (cI, 154, .inl mm_rowOfF_28)), ((mmR 45), .inl (cI, 22, .inl mm_nightOfF_28)), ((mmR 46), .inl (cI, 22, .inl mm_mileOfF_28)), ((mmR 47), .inl (cI, 22, .inl mm_roundsOfF_28)), ((mmR 48), .inl (cI, 22, .inl mm_talkingOfF_28)), ((mmR 49), .inl (cI, 22, .inl mm_hushOfF_28)), ((mmR 52), .inl (cI, 22, .inl mm_keptManyF_28)), ((mmR 51), .inl (cI, 132, .inl mm_talkOfF_28)), ((mmR 53), .inl (cI, 2640, .inl mm_keptRowF_28)), ((mmR 44), .inl (cI, 6, .inl mm_refusedF_28))] → va_S A s.heap H locs → lv_has ls 3 [(0, .ref a_p0)] → W p l e (headSpec wsX12_sit { frames := 2, cells := 0, slots := 0, locals := 43 }).room s m [.ref a_p0, .int p1, .int p2].toArray below meth c H locs 0 0 (MQ below (xq_Q (dC, dI) vwCl (xq_tys cI cB cJ cZ cM) A [(a_p0, .inr (12, oX12 r1 mmJ mmR)), ((mmR 18), .inl (cI, 2, .inl mm_earsF)), ((mmR 50), .inl (cI, 154, .inl r2)), ((mmR 45), .inl (cI, 22, .inl r3)), ((mmR 46), .inl (cI, 22, .inl r4)), ((mmR 47), .inl (cI, 22, .inl r5)), ((mmR 48), .inl (cI, 22, .inl r6)), ((mmR 49), .inl (cI, 22, .inl r7)), ((mmR 52), .inl (cI, 22, .inl r8)), ((mmR 51), .inl (cI, 132, .inl r9)), ((mmR 53), .inl (cI, 2640, .inl r10)), ((mmR 44), .inl (cI, 6, .inl r11))] (some (.int r0))) [.ref a_p0, .int p1, .int p2].toArray s 0 0 A) (F0 m 28 ls []) := by
    intro mmI_28 mm_rowOfF_28 mm_nightOfF_28 mm_mileOfF_28 mm_roundsOfF_28 mm_talkingOfF_28 mm_hushOfF_28 mm_keptManyF_28 mm_talkOfF_28 mm_keptRowF_28 mm_refusedF_28 ls H locs hf hP hD hS hl
    unfold fX12_sit_b28 at hf
    refine lv_aload_n hx hb dX12_sit_28 rfl (lv_at hl 0 rfl) ?_
    refine lv_iconst (v := 3) hx hb dX12_sit_29 (by decide) ?_
    obtain ⟨⟨r_1_0, r_1_1⟩, h_2, hf⟩ := xq_bd_some hf
    refine xq_callV (As := [.int 3]) (rest := []) (ci := 12) (q0 := 0) ⟨hx, hb, hml, hown, hts⟩ (kX12_refuses l dC dI cI cB cJ cZ cM z ad N a_p0 mmI_28 mmJ mmR mm_refusedF_28 3 h_2) (cwV 1 hts gX12_sit_X12_refuses rfl rfl rfl (by decide +kernel) ⟨Nat.le_of_ble_eq_true rfl, Nat.le_of_ble_eq_true rfl⟩) hN hK hP hD hS hA [0, 11] (by decide) rfl rfl rfl rfl rfl rfl hl.1 rfl (Nat.le_of_ble_eq_true rfl) dX12_sit_30 ⟨Nat.zero_le _, Nat.zero_le _⟩ (fun H locs hP hD hS => ?_)
    have hP : va_P (dC, dI) vwCl [(a_p0, .inr (12, oX12 mmI_28 mmJ mmR)), ((mmR 18), .inl (cI, 2, .inl mm_earsF)), ((mmR 50), .inl (cI, 154, .inl mm_rowOfF_28)), ((mmR 45), .inl (cI, 22, .inl mm_nightOfF_28)), ((mmR 46), .inl (cI, 22, .inl mm_mileOfF_28)), ((mmR 47), .inl (cI, 22, .inl mm_roundsOfF_28)), ((mmR 48), .inl (cI, 22, .inl mm_talkingOfF_28)), ((mmR 49), .inl (cI, 22, .inl mm_hushOfF_28)), ((mmR 52), .inl (cI, 22, .inl mm_keptManyF_28)), ((mmR 51), .inl (cI, 132, .inl mm_talkOfF_28)), ((mmR 53), .inl (cI, 2640, .inl mm_keptRowF_28)), ((mmR 44), .inl (cI, 6, .inl r_1_1))] H := hP
    have hD : va_D A [(a_p0, .inr (12, oX12 mmI_28 mmJ mmR)), ((mmR 18), .inl (cI, 2, .inl mm_earsF)), ((mmR 50), .inl (cI, 154, .inl mm_rowOfF_28)), ((mmR 45), .inl (cI, 22, .inl mm_nightOfF_28)), ((mmR 46), .inl (cI, 22, .inl mm_mileOfF_28)), ((mmR 47), .inl (cI, 22, .inl mm_roundsOfF_28)), ((mmR 48), .inl (cI, 22, .inl mm_talkingOfF_28)), ((mmR 49), .inl (cI, 22, .inl mm_hushOfF_28)), ((mmR 52), .inl (cI, 22, .inl mm_keptManyF_28)), ((mmR 51), .inl (cI, 132, .inl mm_talkOfF_28)), ((mmR 53), .inl (cI, 2640, .inl mm_keptRowF_28)), ((mmR 44), .inl (cI, 6, .inl r_1_1))] := hD
    refine W.eq (g2 := F0 m 33 ls [.int r_1_0]) rfl ?_
    refine lv_if_lt (tgt := 40) hx hb dX12_sit_33 (by decide) (fun c_ => ?_) (fun c_ => ?_)
    · have hf := xq_pos hf c_
      refine lv_iconst (v := 0) hx hb dX12_sit_40 (by decide) ?_
      have e9 := Option.some.inj hf
      have e9_0 : 0 = r0 := congrArg (fun t => t.1) e9
      have e9_1 : mmI_28 = r1 := congrArg (fun t => t.2.1) e9
      have e9_2 : mm_rowOfF_28 = r2 := congrArg (fun t => t.2.2.1) e9
      have e9_3 : mm_nightOfF_28 = r3 := congrArg (fun t => t.2.2.2.1) e9
      have e9_4 : mm_mileOfF_28 = r4 := congrArg (fun t => t.2.2.2.2.1) e9
      have e9_5 : mm_roundsOfF_28 = r5 := congrArg (fun t => t.2.2.2.2.2.1) e9
      have e9_6 : mm_talkingOfF_28 = r6 := congrArg (fun t => t.2.2.2.2.2.2.1) e9
      have e9_7 : mm_hushOfF_28 = r7 := congrArg (fun t => t.2.2.2.2.2.2.2.1) e9
      have e9_8 : mm_keptManyF_28 = r8 := congrArg (fun t => t.2.2.2.2.2.2.2.2.1) e9
      have e9_9 : mm_talkOfF_28 = r9 := congrArg (fun t => t.2.2.2.2.2.2.2.2.2.1) e9
      have e9_10 : mm_keptRowF_28 = r10 := congrArg (fun t => t.2.2.2.2.2.2.2.2.2.2.1) e9
      have e9_11 : r_1_1 = r11 := congrArg (fun t => t.2.2.2.2.2.2.2.2.2.2.2) e9
      clear e9 hf
      try clear b28
      subst e9_0
      subst e9_1
      subst e9_2
      subst e9_3
      subst e9_4
      subst e9_5
      subst e9_6
      subst e9_7
      subst e9_8
      subst e9_9
      subst e9_10
      subst e9_11
      exact xq_zret hx hb hr (by decide +kernel) hlocks hK hP hD hS dX12_sit_41
    · have hf := xq_neg hf c_
      refine lv_iconst (v := 1) hx hb dX12_sit_36 (by decide) ?_
      refine lv_goto (tgt := 41) hx hb dX12_sit_37 (by decide) ?_
      have e9 := Option.some.inj hf
      have e9_0 : 1 = r0 := congrArg (fun t => t.1) e9
      have e9_1 : mmI_28 = r1 := congrArg (fun t => t.2.1) e9
      have e9_2 : mm_rowOfF_28 = r2 := congrArg (fun t => t.2.2.1) e9
      have e9_3 : mm_nightOfF_28 = r3 := congrArg (fun t => t.2.2.2.1) e9
      have e9_4 : mm_mileOfF_28 = r4 := congrArg (fun t => t.2.2.2.2.1) e9
      have e9_5 : mm_roundsOfF_28 = r5 := congrArg (fun t => t.2.2.2.2.2.1) e9
      have e9_6 : mm_talkingOfF_28 = r6 := congrArg (fun t => t.2.2.2.2.2.2.1) e9
      have e9_7 : mm_hushOfF_28 = r7 := congrArg (fun t => t.2.2.2.2.2.2.2.1) e9
      have e9_8 : mm_keptManyF_28 = r8 := congrArg (fun t => t.2.2.2.2.2.2.2.2.1) e9
      have e9_9 : mm_talkOfF_28 = r9 := congrArg (fun t => t.2.2.2.2.2.2.2.2.2.1) e9
      have e9_10 : mm_keptRowF_28 = r10 := congrArg (fun t => t.2.2.2.2.2.2.2.2.2.2.1) e9
      have e9_11 : r_1_1 = r11 := congrArg (fun t => t.2.2.2.2.2.2.2.2.2.2.2) e9
      clear e9 hf
      try clear b28
      subst e9_0
      subst e9_1
      subst e9_2
      subst e9_3
      subst e9_4
      subst e9_5
      subst e9_6
      subst e9_7
      subst e9_8
      subst e9_9
      subst e9_10
      subst e9_11
      exact xq_zret hx hb hr (by decide +kernel) hlocks hK hP hD hS dX12_sit_41
  unfold fX12_sit at hf
  refine lv_aload_n hx hb dX12_sit_0 rfl (lv_at hl 0 rfl) ?_
  refine lv_iload_n hx hb dX12_sit_1 rfl (lv_at hl 1 rfl) ?_
  obtain ⟨r_1, h_2, hf⟩ := xq_bd_some hf
  refine xq_callV (As := [.int p1]) (rest := []) (ci := 12) (q0 := 0) ⟨hx, hb, hml, hown, hts⟩ (kX12_isEar l dC dI cI cB cJ cZ cM z ad N a_p0 mmI mmJ mmR mm_earsF p1 h_2) (cwV 1 hts gX12_sit_X12_isEar rfl rfl rfl (by decide +kernel) ⟨Nat.le_of_ble_eq_true rfl, Nat.le_of_ble_eq_true rfl⟩) hN hK hP hD hS hA [0, 1] (by decide) rfl rfl rfl rfl rfl rfl hl.1 rfl (Nat.le_of_ble_eq_true rfl) dX12_sit_2 ⟨Nat.zero_le _, Nat.zero_le _⟩ (fun H locs hP hD hS => ?_)
  have hP : va_P (dC, dI) vwCl [(a_p0, .inr (12, oX12 mmI mmJ mmR)), ((mmR 18), .inl (cI, 2, .inl mm_earsF)), ((mmR 50), .inl (cI, 154, .inl mm_rowOfF)), ((mmR 45), .inl (cI, 22, .inl mm_nightOfF)), ((mmR 46), .inl (cI, 22, .inl mm_mileOfF)), ((mmR 47), .inl (cI, 22, .inl mm_roundsOfF)), ((mmR 48), .inl (cI, 22, .inl mm_talkingOfF)), ((mmR 49), .inl (cI, 22, .inl mm_hushOfF)), ((mmR 52), .inl (cI, 22, .inl mm_keptManyF)), ((mmR 51), .inl (cI, 132, .inl mm_talkOfF)), ((mmR 53), .inl (cI, 2640, .inl mm_keptRowF)), ((mmR 44), .inl (cI, 6, .inl mm_refusedF))] H := hP
  have hD : va_D A [(a_p0, .inr (12, oX12 mmI mmJ mmR)), ((mmR 18), .inl (cI, 2, .inl mm_earsF)), ((mmR 50), .inl (cI, 154, .inl mm_rowOfF)), ((mmR 45), .inl (cI, 22, .inl mm_nightOfF)), ((mmR 46), .inl (cI, 22, .inl mm_mileOfF)), ((mmR 47), .inl (cI, 22, .inl mm_roundsOfF)), ((mmR 48), .inl (cI, 22, .inl mm_talkingOfF)), ((mmR 49), .inl (cI, 22, .inl mm_hushOfF)), ((mmR 52), .inl (cI, 22, .inl mm_keptManyF)), ((mmR 51), .inl (cI, 132, .inl mm_talkOfF)), ((mmR 53), .inl (cI, 2640, .inl mm_keptRowF)), ((mmR 44), .inl (cI, 6, .inl mm_refusedF))] := hD
  refine W.eq (g2 := F0 m 5 ls [.int r_1]) rfl ?_
  refine lv_if_eq (tgt := 28) hx hb dX12_sit_5 (by decide) (fun c_ => ?_) (fun c_ => ?_)
  · have hf := xq_pos hf c_
    exact b28 mmI mm_rowOfF mm_nightOfF mm_mileOfF mm_roundsOfF mm_talkingOfF mm_hushOfF mm_keptManyF mm_talkOfF mm_keptRowF mm_refusedF _ _ _ hf hP hD hS (lv_sub hl [0] rfl)
  · have hf := xq_neg hf c_
    refine lv_iload_n hx hb dX12_sit_8 rfl (lv_at hl 2 rfl) ?_
    refine lv_iconst (v := 0) hx hb dX12_sit_9 (by decide) ?_
    refine lv_bipush (v := 9) hx hb dX12_sit_10 (by decide) ?_
    obtain ⟨r_3, h_4, hf⟩ := xq_bd_some hf
    refine xq_callS (As := [.int p2, .int 0, .int 9]) (rest := []) ⟨hx, hb, hml, hown, hts⟩ (kX12_is l dC dI cI cB cJ cZ cM z ad N p2 0 9 h_4) (va_cwS 3 hts gX12_sit_X12_is rfl rfl rfl (by decide +kernel) ⟨Nat.le_of_ble_eq_true rfl, Nat.le_of_ble_eq_true rfl⟩) hN hK hP hD hS hA [] (by decide) rfl rfl rfl hl.1 rfl (Nat.le_of_ble_eq_true rfl) dX12_sit_12 ⟨Nat.zero_le _, Nat.zero_le _⟩ (fun H locs hP hD hS => ?_)
    have hP : va_P (dC, dI) vwCl [(a_p0, .inr (12, oX12 mmI mmJ mmR)), ((mmR 18), .inl (cI, 2, .inl mm_earsF)), ((mmR 50), .inl (cI, 154, .inl mm_rowOfF)), ((mmR 45), .inl (cI, 22, .inl mm_nightOfF)), ((mmR 46), .inl (cI, 22, .inl mm_mileOfF)), ((mmR 47), .inl (cI, 22, .inl mm_roundsOfF)), ((mmR 48), .inl (cI, 22, .inl mm_talkingOfF)), ((mmR 49), .inl (cI, 22, .inl mm_hushOfF)), ((mmR 52), .inl (cI, 22, .inl mm_keptManyF)), ((mmR 51), .inl (cI, 132, .inl mm_talkOfF)), ((mmR 53), .inl (cI, 2640, .inl mm_keptRowF)), ((mmR 44), .inl (cI, 6, .inl mm_refusedF))] H := hP
    have hD : va_D A [(a_p0, .inr (12, oX12 mmI mmJ mmR)), ((mmR 18), .inl (cI, 2, .inl mm_earsF)), ((mmR 50), .inl (cI, 154, .inl mm_rowOfF)), ((mmR 45), .inl (cI, 22, .inl mm_nightOfF)), ((mmR 46), .inl (cI, 22, .inl mm_mileOfF)), ((mmR 47), .inl (cI, 22, .inl mm_roundsOfF)), ((mmR 48), .inl (cI, 22, .inl mm_talkingOfF)), ((mmR 49), .inl (cI, 22, .inl mm_hushOfF)), ((mmR 52), .inl (cI, 22, .inl mm_keptManyF)), ((mmR 51), .inl (cI, 132, .inl mm_talkOfF)), ((mmR 53), .inl (cI, 2640, .inl mm_keptRowF)), ((mmR 44), .inl (cI, 6, .inl mm_refusedF))] := hD
    refine W.eq (g2 := F0 m 15 ls [.int r_3]) rfl ?_
    refine lv_if_eq (tgt := 28) hx hb dX12_sit_15 (by decide) (fun c_ => ?_) (fun c_ => ?_)
    · have hf := xq_pos hf c_
      exact b28 mmI mm_rowOfF mm_nightOfF mm_mileOfF mm_roundsOfF mm_talkingOfF mm_hushOfF mm_keptManyF mm_talkOfF mm_keptRowF mm_refusedF _ _ _ hf hP hD hS (lv_sub hl [0] rfl)
    · have hf := xq_neg hf c_
      refine lv_aload_n hx hb dX12_sit_18 rfl (lv_at hl 0 rfl) ?_
      refine va_get (D := (dC, dI)) (ci := 12) (v := .ref ((mmR 50))) (C := RX12) (T := TX12) (N := 70) hx hb hts hinX12 hown hK hP 0 rfl rfl 50 (by decide) hw0 (fun _ h9 => h9) rfl dX12_sit_19 ?_
      refine lv_iload_n hx hb dX12_sit_22 rfl (lv_at hl 1 rfl) ?_
      refine xq_iald hx hb hK hP 2 0 rfl rfl hf dX12_sit_23 (fun v_5 hf => ?_)
      refine lv_iload_n hx hb dX12_sit_24 rfl (lv_at hl 2 rfl) ?_
      refine lv_icmp_ne (tgt := 42) hx hb dX12_sit_25 (by decide) (fun c_ => ?_) (fun c_ => ?_)
      · have hf := xq_neg hf c_
        refine lv_aload_n hx hb dX12_sit_42 rfl (lv_at hl 0 rfl) ?_
        obtain ⟨⟨r_6_0, r_6_1, r_6_2, r_6_3, r_6_4, r_6_5, r_6_6, r_6_7, r_6_8, r_6_9⟩, h_7, hf⟩ := xq_bd_some hf
        refine xq_callV (As := []) (rest := []) (ci := 12) (q0 := 0) ⟨hx, hb, hml, hown, hts⟩ (kX12_keeps l dC dI cI cB cJ cZ cM z ad N a_p0 mmI mmJ mmR mm_nightOfF mm_mileOfF mm_roundsOfF mm_talkingOfF mm_hushOfF mm_rowOfF mm_keptManyF mm_talkOfF mm_keptRowF h_7) (cwV 0 hts gX12_sit_X12_keeps rfl rfl rfl (by decide +kernel) ⟨Nat.le_of_ble_eq_true rfl, Nat.le_of_ble_eq_true rfl⟩) hN hK hP hD hS hA [0, 3, 4, 5, 6, 7, 2, 8, 9, 10] (by decide) rfl rfl rfl rfl rfl rfl hl.1 rfl (Nat.le_of_ble_eq_true rfl) dX12_sit_43 ⟨Nat.zero_le _, Nat.zero_le _⟩ (fun H locs hP hD hS => ?_)
        have hP : va_P (dC, dI) vwCl [(a_p0, .inr (12, oX12 r_6_0 mmJ mmR)), ((mmR 18), .inl (cI, 2, .inl mm_earsF)), ((mmR 50), .inl (cI, 154, .inl r_6_6)), ((mmR 45), .inl (cI, 22, .inl r_6_1)), ((mmR 46), .inl (cI, 22, .inl r_6_2)), ((mmR 47), .inl (cI, 22, .inl r_6_3)), ((mmR 48), .inl (cI, 22, .inl r_6_4)), ((mmR 49), .inl (cI, 22, .inl r_6_5)), ((mmR 52), .inl (cI, 22, .inl r_6_7)), ((mmR 51), .inl (cI, 132, .inl r_6_8)), ((mmR 53), .inl (cI, 2640, .inl r_6_9)), ((mmR 44), .inl (cI, 6, .inl mm_refusedF))] H := hP
        have hD : va_D A [(a_p0, .inr (12, oX12 r_6_0 mmJ mmR)), ((mmR 18), .inl (cI, 2, .inl mm_earsF)), ((mmR 50), .inl (cI, 154, .inl r_6_6)), ((mmR 45), .inl (cI, 22, .inl r_6_1)), ((mmR 46), .inl (cI, 22, .inl r_6_2)), ((mmR 47), .inl (cI, 22, .inl r_6_3)), ((mmR 48), .inl (cI, 22, .inl r_6_4)), ((mmR 49), .inl (cI, 22, .inl r_6_5)), ((mmR 52), .inl (cI, 22, .inl r_6_7)), ((mmR 51), .inl (cI, 132, .inl r_6_8)), ((mmR 53), .inl (cI, 2640, .inl r_6_9)), ((mmR 44), .inl (cI, 6, .inl mm_refusedF))] := hD
        refine W.eq (g2 := F0 m 46 ls []) rfl ?_
        refine lv_aload_n hx hb dX12_sit_46 rfl (lv_at hl 0 rfl) ?_
        refine va_get (D := (dC, dI)) (ci := 12) (v := .ref ((mmR 50))) (C := RX12) (T := TX12) (N := 70) hx hb hts hinX12 hown hK hP 0 rfl rfl 50 (by decide) hw0 (fun _ h9 => h9) rfl dX12_sit_47 ?_
        refine lv_iload_n hx hb dX12_sit_50 rfl (lv_at hl 1 rfl) ?_
        refine lv_iload_n hx hb dX12_sit_51 rfl (lv_at hl 2 rfl) ?_
        refine xq_iast hx hb hK hP hD hS 2 0 rfl rfl hf dX12_sit_52 (fun g_8 H locs hf hP hD hS => ?_)
        have hP : va_P (dC, dI) vwCl [(a_p0, .inr (12, oX12 r_6_0 mmJ mmR)), ((mmR 18), .inl (cI, 2, .inl mm_earsF)), ((mmR 50), .inl (cI, 154, .inl g_8)), ((mmR 45), .inl (cI, 22, .inl r_6_1)), ((mmR 46), .inl (cI, 22, .inl r_6_2)), ((mmR 47), .inl (cI, 22, .inl r_6_3)), ((mmR 48), .inl (cI, 22, .inl r_6_4)), ((mmR 49), .inl (cI, 22, .inl r_6_5)), ((mmR 52), .inl (cI, 22, .inl r_6_7)), ((mmR 51), .inl (cI, 132, .inl r_6_8)), ((mmR 53), .inl (cI, 2640, .inl r_6_9)), ((mmR 44), .inl (cI, 6, .inl mm_refusedF))] H := hP
        have hD : va_D A [(a_p0, .inr (12, oX12 r_6_0 mmJ mmR)), ((mmR 18), .inl (cI, 2, .inl mm_earsF)), ((mmR 50), .inl (cI, 154, .inl g_8)), ((mmR 45), .inl (cI, 22, .inl r_6_1)), ((mmR 46), .inl (cI, 22, .inl r_6_2)), ((mmR 47), .inl (cI, 22, .inl r_6_3)), ((mmR 48), .inl (cI, 22, .inl r_6_4)), ((mmR 49), .inl (cI, 22, .inl r_6_5)), ((mmR 52), .inl (cI, 22, .inl r_6_7)), ((mmR 51), .inl (cI, 132, .inl r_6_8)), ((mmR 53), .inl (cI, 2640, .inl r_6_9)), ((mmR 44), .inl (cI, 6, .inl mm_refusedF))] := hD
        refine lv_iconst (v := 1) hx hb dX12_sit_53 (by decide) ?_
        have e9 := Option.some.inj hf
        have e9_0 : 1 = r0 := congrArg (fun t => t.1) e9
        have e9_1 : r_6_0 = r1 := congrArg (fun t => t.2.1) e9
        have e9_2 : g_8 = r2 := congrArg (fun t => t.2.2.1) e9
        have e9_3 : r_6_1 = r3 := congrArg (fun t => t.2.2.2.1) e9
        have e9_4 : r_6_2 = r4 := congrArg (fun t => t.2.2.2.2.1) e9
        have e9_5 : r_6_3 = r5 := congrArg (fun t => t.2.2.2.2.2.1) e9
        have e9_6 : r_6_4 = r6 := congrArg (fun t => t.2.2.2.2.2.2.1) e9
        have e9_7 : r_6_5 = r7 := congrArg (fun t => t.2.2.2.2.2.2.2.1) e9
        have e9_8 : r_6_7 = r8 := congrArg (fun t => t.2.2.2.2.2.2.2.2.1) e9
        have e9_9 : r_6_8 = r9 := congrArg (fun t => t.2.2.2.2.2.2.2.2.2.1) e9
        have e9_10 : r_6_9 = r10 := congrArg (fun t => t.2.2.2.2.2.2.2.2.2.2.1) e9
        have e9_11 : mm_refusedF = r11 := congrArg (fun t => t.2.2.2.2.2.2.2.2.2.2.2) e9
        clear e9 hf
        try clear b28
        subst e9_0
        subst e9_1
        subst e9_2
        subst e9_3
        subst e9_4
        subst e9_5
        subst e9_6
        subst e9_7
        subst e9_8
        subst e9_9
        subst e9_10
        subst e9_11
        exact xq_zret hx hb hr (by decide +kernel) hlocks hK hP hD hS dX12_sit_54
      · have hf := xq_pos hf c_
        exact b28 mmI mm_rowOfF mm_nightOfF mm_mileOfF mm_roundsOfF mm_talkingOfF mm_hushOfF mm_keptManyF mm_talkOfF mm_keptRowF mm_refusedF _ _ _ hf hP hD hS (lv_sub hl [0] rfl)
set_option maxRecDepth 20000 in
theorem ggX12_please_X12_isPlace : GoodIn wsX12_please wsX12_isPlace := goodIn_r _ [6, 7, 8, 39, 40, 41, 42, 43, 44, 45, 46, 47, 48, 49, 50, 51, 52, 53, 54, 55, 56, 57, 58, 59, 60, 61, 62, 63, 64, 65, 66, 67, 68, 69, 70, 71, 72, 73, 74, 75, 76, 77, 78, 79, 80, 81, 82, 83, 84, 85, 86, 87, 88, 89, 90, 91, 92, 93, 94, 95, 96, 97, 98, 99, 100, 101, 102, 103, 104, 105, 106, 107, 108] rfl (by decide +kernel)
set_option maxRecDepth 20000 in
theorem gX12_please_X12_isPlace : GoodIn wsX12_please (wsV RX12 457 RX12 yX12_isPlace wsX12_isPlace) := goodIn_app (goodIn_of _ (by decide +kernel)) ggX12_please_X12_isPlace
set_option maxRecDepth 20000 in
theorem ggX12_please_X12_is : GoodIn wsX12_please wsX12_is := goodIn_r _ [11] rfl (by decide +kernel)
set_option maxRecDepth 20000 in
theorem gX12_please_X12_is : GoodIn wsX12_please (va_wsS RX12 301 yX12_is wsX12_is) := goodIn_app (goodIn_of _ (by decide +kernel)) ggX12_please_X12_is
set_option maxRecDepth 20000 in
theorem ggX12_please_X12_refuses : GoodIn wsX12_please wsX12_refuses := goodIn_r _ [15, 16, 39, 40, 41, 42, 43, 44, 45, 46, 47, 48, 49, 50, 51, 52, 53, 54, 55, 56, 57, 58, 59, 60, 61, 62, 63, 64, 65, 66, 67, 68, 69, 70, 71, 72, 73, 74, 75, 76, 77, 78, 79, 80, 81, 82, 83, 84, 85, 86, 87, 88, 89, 90, 91, 92, 93, 94, 95, 96, 97, 98, 99, 100, 101, 102, 103, 104, 105, 106, 107, 108] rfl (by decide +kernel)
set_option maxRecDepth 20000 in
theorem gX12_please_X12_refuses : GoodIn wsX12_please (wsV RX12 225 RX12 yX12_refuses wsX12_refuses) := goodIn_app (goodIn_of _ (by decide +kernel)) ggX12_please_X12_refuses
set_option maxRecDepth 20000 in
theorem ggX12_please_X12_keeps : GoodIn wsX12_please wsX12_keeps := goodIn_r _ [20, 21, 22, 23, 24, 25, 5, 26, 27, 28, 29, 30, 31, 32, 33, 34, 35, 36, 1, 37, 38, 39, 40, 41, 42, 43, 44, 45, 46, 47, 48, 49, 50, 51, 52, 53, 54, 55, 56, 57, 58, 59, 60, 61, 62, 63, 64, 65, 66, 67, 68, 69, 70, 71, 72, 73, 74, 75, 76, 77, 78, 79, 80, 81, 82, 83, 84, 85, 86, 87, 88, 89, 90, 91, 92, 93, 94, 95, 96, 97, 98, 99, 100, 101, 102, 103, 104, 105, 106, 107, 108] rfl (by decide +kernel)
set_option maxRecDepth 20000 in
theorem gX12_please_X12_keeps : GoodIn wsX12_please (wsV RX12 492 RX12 yX12_keeps wsX12_keeps) := goodIn_app (goodIn_of _ (by decide +kernel)) ggX12_please_X12_keeps
def dsX12_please_0 : List (Nat × Instr × Nat) := [(0, (.aload_n 0, 1)), (1, (.iload_n 1, 1)), (2, (.invokevirtual 457, 3)), (5, (.ifCond .eq 23, 3)), (8, (.iload_n 2, 1)), (9, (.iconst 0, 1)), (10, (.bipush 9, 2)), (12, (.invokestatic 301, 3)), (15, (.ifCond .eq 13, 3)), (18, (.aload_n 0, 1)), (19, (.getfield 168, 3)), (22, (.iload_n 1, 1)), (23, (.iaload, 1)), (24, (.iload_n 2, 1)), (25, (.if_icmp .ne 17, 3)), (28, (.aload_n 0, 1)), (29, (.iconst 3, 1)), (30, (.invokevirtual 225, 3)), (33, (.ifCond .lt 7, 3)), (36, (.iconst 1, 1)), (37, (.goto 4, 3)), (40, (.iconst 0, 1)), (41, (.ireturn, 1)), (42, (.aload_n 0, 1)), (43, (.invokevirtual 492, 3)), (46, (.aload_n 0, 1)), (47, (.getfield 168, 3)), (50, (.iload_n 1, 1)), (51, (.iload_n 2, 1)), (52, (.iastore, 1)), (53, (.iconst 1, 1)), (54, (.ireturn, 1))]
theorem dsX12_please_0_ok : (dsX12_please_0.all fun q => decide (decode cX12_please q.1 = .ok q.2)) = true := by decide +kernel
theorem dX12_please_0 : decode cX12_please 0 = .ok (.aload_n 0, 1) := of_decide_eq_true (List.all_eq_true.mp dsX12_please_0_ok (0, (.aload_n 0, 1)) (List.mem_of_getElem? (i := 0) rfl))
theorem dX12_please_1 : decode cX12_please 1 = .ok (.iload_n 1, 1) := of_decide_eq_true (List.all_eq_true.mp dsX12_please_0_ok (1, (.iload_n 1, 1)) (List.mem_of_getElem? (i := 1) rfl))
theorem dX12_please_2 : decode cX12_please 2 = .ok (.invokevirtual 457, 3) := of_decide_eq_true (List.all_eq_true.mp dsX12_please_0_ok (2, (.invokevirtual 457, 3)) (List.mem_of_getElem? (i := 2) rfl))
theorem dX12_please_5 : decode cX12_please 5 = .ok (.ifCond .eq 23, 3) := of_decide_eq_true (List.all_eq_true.mp dsX12_please_0_ok (5, (.ifCond .eq 23, 3)) (List.mem_of_getElem? (i := 3) rfl))
theorem dX12_please_8 : decode cX12_please 8 = .ok (.iload_n 2, 1) := of_decide_eq_true (List.all_eq_true.mp dsX12_please_0_ok (8, (.iload_n 2, 1)) (List.mem_of_getElem? (i := 4) rfl))
theorem dX12_please_9 : decode cX12_please 9 = .ok (.iconst 0, 1) := of_decide_eq_true (List.all_eq_true.mp dsX12_please_0_ok (9, (.iconst 0, 1)) (List.mem_of_getElem? (i := 5) rfl))
theorem dX12_please_10 : decode cX12_please 10 = .ok (.bipush 9, 2) := of_decide_eq_true (List.all_eq_true.mp dsX12_please_0_ok (10, (.bipush 9, 2)) (List.mem_of_getElem? (i := 6) rfl))
theorem dX12_please_12 : decode cX12_please 12 = .ok (.invokestatic 301, 3) := of_decide_eq_true (List.all_eq_true.mp dsX12_please_0_ok (12, (.invokestatic 301, 3)) (List.mem_of_getElem? (i := 7) rfl))
theorem dX12_please_15 : decode cX12_please 15 = .ok (.ifCond .eq 13, 3) := of_decide_eq_true (List.all_eq_true.mp dsX12_please_0_ok (15, (.ifCond .eq 13, 3)) (List.mem_of_getElem? (i := 8) rfl))
theorem dX12_please_18 : decode cX12_please 18 = .ok (.aload_n 0, 1) := of_decide_eq_true (List.all_eq_true.mp dsX12_please_0_ok (18, (.aload_n 0, 1)) (List.mem_of_getElem? (i := 9) rfl))
theorem dX12_please_19 : decode cX12_please 19 = .ok (.getfield 168, 3) := of_decide_eq_true (List.all_eq_true.mp dsX12_please_0_ok (19, (.getfield 168, 3)) (List.mem_of_getElem? (i := 10) rfl))
theorem dX12_please_22 : decode cX12_please 22 = .ok (.iload_n 1, 1) := of_decide_eq_true (List.all_eq_true.mp dsX12_please_0_ok (22, (.iload_n 1, 1)) (List.mem_of_getElem? (i := 11) rfl))
theorem dX12_please_23 : decode cX12_please 23 = .ok (.iaload, 1) := of_decide_eq_true (List.all_eq_true.mp dsX12_please_0_ok (23, (.iaload, 1)) (List.mem_of_getElem? (i := 12) rfl))
theorem dX12_please_24 : decode cX12_please 24 = .ok (.iload_n 2, 1) := of_decide_eq_true (List.all_eq_true.mp dsX12_please_0_ok (24, (.iload_n 2, 1)) (List.mem_of_getElem? (i := 13) rfl))
theorem dX12_please_25 : decode cX12_please 25 = .ok (.if_icmp .ne 17, 3) := of_decide_eq_true (List.all_eq_true.mp dsX12_please_0_ok (25, (.if_icmp .ne 17, 3)) (List.mem_of_getElem? (i := 14) rfl))
theorem dX12_please_28 : decode cX12_please 28 = .ok (.aload_n 0, 1) := of_decide_eq_true (List.all_eq_true.mp dsX12_please_0_ok (28, (.aload_n 0, 1)) (List.mem_of_getElem? (i := 15) rfl))
theorem dX12_please_29 : decode cX12_please 29 = .ok (.iconst 3, 1) := of_decide_eq_true (List.all_eq_true.mp dsX12_please_0_ok (29, (.iconst 3, 1)) (List.mem_of_getElem? (i := 16) rfl))
theorem dX12_please_30 : decode cX12_please 30 = .ok (.invokevirtual 225, 3) := of_decide_eq_true (List.all_eq_true.mp dsX12_please_0_ok (30, (.invokevirtual 225, 3)) (List.mem_of_getElem? (i := 17) rfl))
theorem dX12_please_33 : decode cX12_please 33 = .ok (.ifCond .lt 7, 3) := of_decide_eq_true (List.all_eq_true.mp dsX12_please_0_ok (33, (.ifCond .lt 7, 3)) (List.mem_of_getElem? (i := 18) rfl))
theorem dX12_please_36 : decode cX12_please 36 = .ok (.iconst 1, 1) := of_decide_eq_true (List.all_eq_true.mp dsX12_please_0_ok (36, (.iconst 1, 1)) (List.mem_of_getElem? (i := 19) rfl))
theorem dX12_please_37 : decode cX12_please 37 = .ok (.goto 4, 3) := of_decide_eq_true (List.all_eq_true.mp dsX12_please_0_ok (37, (.goto 4, 3)) (List.mem_of_getElem? (i := 20) rfl))
theorem dX12_please_40 : decode cX12_please 40 = .ok (.iconst 0, 1) := of_decide_eq_true (List.all_eq_true.mp dsX12_please_0_ok (40, (.iconst 0, 1)) (List.mem_of_getElem? (i := 21) rfl))
theorem dX12_please_41 : decode cX12_please 41 = .ok (.ireturn, 1) := of_decide_eq_true (List.all_eq_true.mp dsX12_please_0_ok (41, (.ireturn, 1)) (List.mem_of_getElem? (i := 22) rfl))
theorem dX12_please_42 : decode cX12_please 42 = .ok (.aload_n 0, 1) := of_decide_eq_true (List.all_eq_true.mp dsX12_please_0_ok (42, (.aload_n 0, 1)) (List.mem_of_getElem? (i := 23) rfl))
theorem dX12_please_43 : decode cX12_please 43 = .ok (.invokevirtual 492, 3) := of_decide_eq_true (List.all_eq_true.mp dsX12_please_0_ok (43, (.invokevirtual 492, 3)) (List.mem_of_getElem? (i := 24) rfl))
theorem dX12_please_46 : decode cX12_please 46 = .ok (.aload_n 0, 1) := of_decide_eq_true (List.all_eq_true.mp dsX12_please_0_ok (46, (.aload_n 0, 1)) (List.mem_of_getElem? (i := 25) rfl))
theorem dX12_please_47 : decode cX12_please 47 = .ok (.getfield 168, 3) := of_decide_eq_true (List.all_eq_true.mp dsX12_please_0_ok (47, (.getfield 168, 3)) (List.mem_of_getElem? (i := 26) rfl))
theorem dX12_please_50 : decode cX12_please 50 = .ok (.iload_n 1, 1) := of_decide_eq_true (List.all_eq_true.mp dsX12_please_0_ok (50, (.iload_n 1, 1)) (List.mem_of_getElem? (i := 27) rfl))
theorem dX12_please_51 : decode cX12_please 51 = .ok (.iload_n 2, 1) := of_decide_eq_true (List.all_eq_true.mp dsX12_please_0_ok (51, (.iload_n 2, 1)) (List.mem_of_getElem? (i := 28) rfl))
theorem dX12_please_52 : decode cX12_please 52 = .ok (.iastore, 1) := of_decide_eq_true (List.all_eq_true.mp dsX12_please_0_ok (52, (.iastore, 1)) (List.mem_of_getElem? (i := 29) rfl))
theorem dX12_please_53 : decode cX12_please 53 = .ok (.iconst 1, 1) := of_decide_eq_true (List.all_eq_true.mp dsX12_please_0_ok (53, (.iconst 1, 1)) (List.mem_of_getElem? (i := 30) rfl))
theorem dX12_please_54 : decode cX12_please 54 = .ok (.ireturn, 1) := of_decide_eq_true (List.all_eq_true.mp dsX12_please_0_ok (54, (.ireturn, 1)) (List.mem_of_getElem? (i := 31) rfl))
def fX12_please_b28 (N : Nat) (mm_placesF : Nat → Int32)   : ((Nat → Int32) × (Nat → Int32) × (Nat → Int32) × (Nat → Int32) × (Nat → Int32) × (Nat → Int32) × (Nat → Int32) × (Nat → Int32) × (Nat → Int32) × (Nat → Int32) × (Nat → Int32)) → Option (Int32 × (Nat → Int32) × (Nat → Int32) × (Nat → Int32) × (Nat → Int32) × (Nat → Int32) × (Nat → Int32) × (Nat → Int32) × (Nat → Int32) × (Nat → Int32) × (Nat → Int32) × (Nat → Int32)) :=
  fun (mmI_28, mm_talkOfF_28, mm_nightOfF_28, mm_mileOfF_28, mm_roundsOfF_28, mm_talkingOfF_28, mm_hushOfF_28, mm_rowOfF_28, mm_keptManyF_28, mm_keptRowF_28, mm_refusedF_28) => (xq_bd (fX12_refuses N mm_refusedF_28 3) fun (r_1_0, r_1_1) => (if r_1_0 < 0 then some ((0, mmI_28, mm_talkOfF_28, mm_nightOfF_28, mm_mileOfF_28, mm_roundsOfF_28, mm_talkingOfF_28, mm_hushOfF_28, mm_rowOfF_28, mm_keptManyF_28, mm_keptRowF_28, r_1_1)) else some ((1, mmI_28, mm_talkOfF_28, mm_nightOfF_28, mm_mileOfF_28, mm_roundsOfF_28, mm_talkingOfF_28, mm_hushOfF_28, mm_rowOfF_28, mm_keptManyF_28, mm_keptRowF_28, r_1_1))))
def fX12_please (N : Nat) (mmI : Nat → Int32) (mm_placesF : Nat → Int32) (mm_talkOfF : Nat → Int32) (mm_nightOfF : Nat → Int32) (mm_mileOfF : Nat → Int32) (mm_roundsOfF : Nat → Int32) (mm_talkingOfF : Nat → Int32) (mm_hushOfF : Nat → Int32) (mm_rowOfF : Nat → Int32) (mm_keptManyF : Nat → Int32) (mm_keptRowF : Nat → Int32) (mm_refusedF : Nat → Int32)  (p1 : Int32) (p2 : Int32) : Option (Int32 × (Nat → Int32) × (Nat → Int32) × (Nat → Int32) × (Nat → Int32) × (Nat → Int32) × (Nat → Int32) × (Nat → Int32) × (Nat → Int32) × (Nat → Int32) × (Nat → Int32) × (Nat → Int32)) :=
  (xq_bd (fX12_isPlace N mmI mm_placesF p1) fun r_1 => (if r_1 = 0 then fX12_please_b28 N mm_placesF (mmI, mm_talkOfF, mm_nightOfF, mm_mileOfF, mm_roundsOfF, mm_talkingOfF, mm_hushOfF, mm_rowOfF, mm_keptManyF, mm_keptRowF, mm_refusedF) else (xq_bd (fX12_is N p2 0 9) fun r_3 => (if r_3 = 0 then fX12_please_b28 N mm_placesF (mmI, mm_talkOfF, mm_nightOfF, mm_mileOfF, mm_roundsOfF, mm_talkingOfF, mm_hushOfF, mm_rowOfF, mm_keptManyF, mm_keptRowF, mm_refusedF) else (xq_bd (xq_ald 132 mm_talkOfF p1) fun v_5 => (if v_5 = p2 then fX12_please_b28 N mm_placesF (mmI, mm_talkOfF, mm_nightOfF, mm_mileOfF, mm_roundsOfF, mm_talkingOfF, mm_hushOfF, mm_rowOfF, mm_keptManyF, mm_keptRowF, mm_refusedF) else (xq_bd (fX12_keeps N mmI mm_nightOfF mm_mileOfF mm_roundsOfF mm_talkingOfF mm_hushOfF mm_rowOfF mm_keptManyF mm_talkOfF mm_keptRowF) fun (r_6_0, r_6_1, r_6_2, r_6_3, r_6_4, r_6_5, r_6_6, r_6_7, r_6_8, r_6_9) => (xq_bd (xq_ast 132 r_6_8 p1 p2) fun g_8 => some ((1, r_6_0, g_8, r_6_1, r_6_2, r_6_3, r_6_4, r_6_5, r_6_6, r_6_7, r_6_9, mm_refusedF))))))))))
set_option maxHeartbeats 4000000 in
set_option maxRecDepth 100000 in
theorem kX12_please (l : Launch) (dC : Nat → ClassId) (dI : Nat → Nat → Nat) (cI cB cJ cZ cM : ClassId) (z : Nat) (ad : Nat → Nat) (N : Nat) (a_p0 : Nat) (mmI : Nat → Int32) (mmJ : Nat → Int64) (mmR : Nat → Nat) (mm_placesF : Nat → Int32) (mm_talkOfF : Nat → Int32) (mm_nightOfF : Nat → Int32) (mm_mileOfF : Nat → Int32) (mm_roundsOfF : Nat → Int32) (mm_talkingOfF : Nat → Int32) (mm_hushOfF : Nat → Int32) (mm_rowOfF : Nat → Int32) (mm_keptManyF : Nat → Int32) (mm_keptRowF : Nat → Int32) (mm_refusedF : Nat → Int32) (p1 : Int32) (p2 : Int32) {r0 : Int32} {r1 : Nat → Int32} {r2 : Nat → Int32} {r3 : Nat → Int32} {r4 : Nat → Int32} {r5 : Nat → Int32} {r6 : Nat → Int32} {r7 : Nat → Int32} {r8 : Nat → Int32} {r9 : Nat → Int32} {r10 : Nat → Int32} {r11 : Nat → Int32} (hf : fX12_please N mmI mm_placesF mm_talkOfF mm_nightOfF mm_mileOfF mm_roundsOfF mm_talkingOfF mm_hushOfF mm_rowOfF mm_keptManyF mm_keptRowF mm_refusedF p1 p2 = some (r0, r1, r2, r3, r4, r5, r6, r7, r8, r9, r10, r11)) : xq_Ct l yX12_please wsX12_please { frames := 2, cells := 0, slots := 0, locals := 43 } (dC, dI) vwCl (xq_tys cI cB cJ cZ cM) z ad [.ref a_p0, .int p1, .int p2] [(a_p0, .inr (12, oX12 mmI mmJ mmR)), ((mmR 21), .inl (cI, 2, .inl mm_placesF)), ((mmR 51), .inl (cI, 132, .inl mm_talkOfF)), ((mmR 45), .inl (cI, 22, .inl mm_nightOfF)), ((mmR 46), .inl (cI, 22, .inl mm_mileOfF)), ((mmR 47), .inl (cI, 22, .inl mm_roundsOfF)), ((mmR 48), .inl (cI, 22, .inl mm_talkingOfF)), ((mmR 49), .inl (cI, 22, .inl mm_hushOfF)), ((mmR 50), .inl (cI, 154, .inl mm_rowOfF)), ((mmR 52), .inl (cI, 22, .inl mm_keptManyF)), ((mmR 53), .inl (cI, 2640, .inl mm_keptRowF)), ((mmR 44), .inl (cI, 6, .inl mm_refusedF))] [(a_p0, .inr (12, oX12 r1 mmJ mmR)), ((mmR 21), .inl (cI, 2, .inl mm_placesF)), ((mmR 51), .inl (cI, 132, .inl r2)), ((mmR 45), .inl (cI, 22, .inl r3)), ((mmR 46), .inl (cI, 22, .inl r4)), ((mmR 47), .inl (cI, 22, .inl r5)), ((mmR 48), .inl (cI, 22, .inl r6)), ((mmR 49), .inl (cI, 22, .inl r7)), ((mmR 50), .inl (cI, 154, .inl r8)), ((mmR 52), .inl (cI, 22, .inl r9)), ((mmR 53), .inl (cI, 2640, .inl r10)), ((mmR 44), .inl (cI, 6, .inl r11))] (some (.int r0)) := by
  intro sz
  refine Met.ofW (cc := cX12_please) (maxL := 3) (ret := (some .boolean)) (by decide) rfl ?_
  intro p e s m args below meth c s₁ B hml hv
  obtain ⟨rfl, hsz, hP, hK, hD0, hE, hz⟩ := hv
  have hx := B.exec
  have hb := B.bytes
  have hr := B.returns
  have hts := atoms_spec (ws := wsX12_please) B.pre
  have hown : s.vm.findClass RX12 = some m.cls := findClass_of_methodNamed B.named
  have hlocks := B.notSynchronized
  subst hsz
  have hD := hD0.self (sz := s.heap.size)
  have hN := xq_Env.of hE hz hD0
  generalize hAe : va_A [(a_p0, .inr (12, oX12 mmI mmJ mmR)), ((mmR 21), .inl (cI, 2, .inl mm_placesF)), ((mmR 51), .inl (cI, 132, .inl mm_talkOfF)), ((mmR 45), .inl (cI, 22, .inl mm_nightOfF)), ((mmR 46), .inl (cI, 22, .inl mm_mileOfF)), ((mmR 47), .inl (cI, 22, .inl mm_roundsOfF)), ((mmR 48), .inl (cI, 22, .inl mm_talkingOfF)), ((mmR 49), .inl (cI, 22, .inl mm_hushOfF)), ((mmR 50), .inl (cI, 154, .inl mm_rowOfF)), ((mmR 52), .inl (cI, 22, .inl mm_keptManyF)), ((mmR 53), .inl (cI, 2640, .inl mm_keptRowF)), ((mmR 44), .inl (cI, 6, .inl mm_refusedF))] s.heap.size = A at hD hN ⊢
  have hA : ∀ q : Nat, s.heap.size ≤ q → A q := fun q h => by rw [← hAe]; exact Or.inr h
  clear hAe hD0
  have hS : va_S A s.heap s.heap [] := va_S.rf
  have hl := lv_entry ([.ref a_p0, .int p1, .int p2]) (n := 3) (Nat.le_of_ble_eq_true rfl)
  rw [lg_entry_eq]
  generalize (lg_sl ([.ref a_p0, .int p1, .int p2]) ++ List.replicate (3 - (lg_sl ([.ref a_p0, .int p1, .int p2])).length) Slot.unset).toArray = ls at hl ⊢
  have hl : lv_has ls 3 [(0, .ref a_p0), (1, .int p1), (2, .int p2)] := hl
  have hw0 := hts (.fieldLink RX12 168 "DistantVoiceModel" "talkOf" "[I") (by decide +kernel)
  have hinX12 : ∀ w ∈ wsX120, w ∈ wsX12_please := fun w h => List.mem_cons_of_mem _ (List.mem_append_right _ h)
  have b28 : ∀ (mmI_28 : Nat → Int32) (mm_talkOfF_28 : Nat → Int32) (mm_nightOfF_28 : Nat → Int32) (mm_mileOfF_28 : Nat → Int32) (mm_roundsOfF_28 : Nat → Int32) (mm_talkingOfF_28 : Nat → Int32) (mm_hushOfF_28 : Nat → Int32) (mm_rowOfF_28 : Nat → Int32) (mm_keptManyF_28 : Nat → Int32) (mm_keptRowF_28 : Nat → Int32) (mm_refusedF_28 : Nat → Int32) (ls : Array Slot) (H : Heap) (locs : List Loc), fX12_please_b28 N mm_placesF (mmI_28, mm_talkOfF_28, mm_nightOfF_28, mm_mileOfF_28, mm_roundsOfF_28, mm_talkingOfF_28, mm_hushOfF_28, mm_rowOfF_28, mm_keptManyF_28, mm_keptRowF_28, mm_refusedF_28) = some (r0, r1, r2, r3, r4, r5, r6, r7, r8, r9, r10, r11) → va_P (dC, dI) vwCl [(a_p0, .inr (12, oX12 mmI_28 mmJ mmR)), ((mmR 21), .inl (cI, 2, .inl mm_placesF)), ((mmR 51), .inl (cI, 132, .inl mm_talkOfF_28)), ((mmR 45), .inl (cI, 22, .inl mm_nightOfF_28)), ((mmR 46), .inl (cI, 22, .inl mm_mileOfF_28)), ((mmR 47), .inl (cI, 22, .inl mm_roundsOfF_28)), ((mmR 48), .inl (cI, 22, .inl mm_talkingOfF_28)), ((mmR 49), .inl (cI, 22, .inl mm_hushOfF_28)), ((mmR 50), .inl (cI, 154, .inl mm_rowOfF_28)), ((mmR 52), .inl (cI, 22, .inl mm_keptManyF_28)), ((mmR 53), .inl (cI, 2640, .inl mm_keptRowF_28)), ((mmR 44), .inl (cI, 6, .inl mm_refusedF_28))] H → va_D A [(a_p0, .inr (12, oX12 mmI_28 mmJ mmR)), ((mmR 21), .inl (cI, 2, .inl mm_placesF)), ((mmR 51), .inl (cI, 132, .inl mm_talkOfF_28)), ((mmR 45), .inl (cI, 22, .inl mm_nightOfF_28)), ((mmR 46), .inl (cI, 22, .inl mm_mileOfF_28)), ((mmR 47), .inl (cI, 22, .inl mm_roundsOfF_28)), ((mmR 48), .inl (cI, 22, .inl mm_talkingOfF_28)), ((mmR 49), .inl (cI, 22, .inl mm_hushOfF_28)), ((mmR 50), .inl (cI, 154, .inl mm_rowOfF_28)), ((mmR 52), .inl (cI, 22, .inl mm_keptManyF_28)), ((mmR 53), .inl (cI, 2640, .inl mm_keptRowF_28)), ((mmR 44), .inl (cI, 6, .inl mm_refusedF_28))] → va_S A s.heap H locs → lv_has ls 3 [(0, .ref a_p0)] → W p l e (headSpec wsX12_please { frames := 2, cells := 0, slots := 0, locals := 43 }).room s m [.ref a_p0, .int p1, .int p2].toArray below meth c H locs 0 0 (MQ below (xq_Q (dC, dI) vwCl (xq_tys cI cB cJ cZ cM) A [(a_p0, .inr (12, oX12 r1 mmJ mmR)), ((mmR 21), .inl (cI, 2, .inl mm_placesF)), ((mmR 51), .inl (cI, 132, .inl r2)), ((mmR 45), .inl (cI, 22, .inl r3)), ((mmR 46), .inl (cI, 22, .inl r4)), ((mmR 47), .inl (cI, 22, .inl r5)), ((mmR 48), .inl (cI, 22, .inl r6)), ((mmR 49), .inl (cI, 22, .inl r7)), ((mmR 50), .inl (cI, 154, .inl r8)), ((mmR 52), .inl (cI, 22, .inl r9)), ((mmR 53), .inl (cI, 2640, .inl r10)), ((mmR 44), .inl (cI, 6, .inl r11))] (some (.int r0))) [.ref a_p0, .int p1, .int p2].toArray s 0 0 A) (F0 m 28 ls []) := by
    intro mmI_28 mm_talkOfF_28 mm_nightOfF_28 mm_mileOfF_28 mm_roundsOfF_28 mm_talkingOfF_28 mm_hushOfF_28 mm_rowOfF_28 mm_keptManyF_28 mm_keptRowF_28 mm_refusedF_28 ls H locs hf hP hD hS hl
    unfold fX12_please_b28 at hf
    refine lv_aload_n hx hb dX12_please_28 rfl (lv_at hl 0 rfl) ?_
    refine lv_iconst (v := 3) hx hb dX12_please_29 (by decide) ?_
    obtain ⟨⟨r_1_0, r_1_1⟩, h_2, hf⟩ := xq_bd_some hf
    refine xq_callV (As := [.int 3]) (rest := []) (ci := 12) (q0 := 0) ⟨hx, hb, hml, hown, hts⟩ (kX12_refuses l dC dI cI cB cJ cZ cM z ad N a_p0 mmI_28 mmJ mmR mm_refusedF_28 3 h_2) (cwV 1 hts gX12_please_X12_refuses rfl rfl rfl (by decide +kernel) ⟨Nat.le_of_ble_eq_true rfl, Nat.le_of_ble_eq_true rfl⟩) hN hK hP hD hS hA [0, 11] (by decide) rfl rfl rfl rfl rfl rfl hl.1 rfl (Nat.le_of_ble_eq_true rfl) dX12_please_30 ⟨Nat.zero_le _, Nat.zero_le _⟩ (fun H locs hP hD hS => ?_)
    have hP : va_P (dC, dI) vwCl [(a_p0, .inr (12, oX12 mmI_28 mmJ mmR)), ((mmR 21), .inl (cI, 2, .inl mm_placesF)), ((mmR 51), .inl (cI, 132, .inl mm_talkOfF_28)), ((mmR 45), .inl (cI, 22, .inl mm_nightOfF_28)), ((mmR 46), .inl (cI, 22, .inl mm_mileOfF_28)), ((mmR 47), .inl (cI, 22, .inl mm_roundsOfF_28)), ((mmR 48), .inl (cI, 22, .inl mm_talkingOfF_28)), ((mmR 49), .inl (cI, 22, .inl mm_hushOfF_28)), ((mmR 50), .inl (cI, 154, .inl mm_rowOfF_28)), ((mmR 52), .inl (cI, 22, .inl mm_keptManyF_28)), ((mmR 53), .inl (cI, 2640, .inl mm_keptRowF_28)), ((mmR 44), .inl (cI, 6, .inl r_1_1))] H := hP
    have hD : va_D A [(a_p0, .inr (12, oX12 mmI_28 mmJ mmR)), ((mmR 21), .inl (cI, 2, .inl mm_placesF)), ((mmR 51), .inl (cI, 132, .inl mm_talkOfF_28)), ((mmR 45), .inl (cI, 22, .inl mm_nightOfF_28)), ((mmR 46), .inl (cI, 22, .inl mm_mileOfF_28)), ((mmR 47), .inl (cI, 22, .inl mm_roundsOfF_28)), ((mmR 48), .inl (cI, 22, .inl mm_talkingOfF_28)), ((mmR 49), .inl (cI, 22, .inl mm_hushOfF_28)), ((mmR 50), .inl (cI, 154, .inl mm_rowOfF_28)), ((mmR 52), .inl (cI, 22, .inl mm_keptManyF_28)), ((mmR 53), .inl (cI, 2640, .inl mm_keptRowF_28)), ((mmR 44), .inl (cI, 6, .inl r_1_1))] := hD
    refine W.eq (g2 := F0 m 33 ls [.int r_1_0]) rfl ?_
    refine lv_if_lt (tgt := 40) hx hb dX12_please_33 (by decide) (fun c_ => ?_) (fun c_ => ?_)
    · have hf := xq_pos hf c_
      refine lv_iconst (v := 0) hx hb dX12_please_40 (by decide) ?_
      have e9 := Option.some.inj hf
      have e9_0 : 0 = r0 := congrArg (fun t => t.1) e9
      have e9_1 : mmI_28 = r1 := congrArg (fun t => t.2.1) e9
      have e9_2 : mm_talkOfF_28 = r2 := congrArg (fun t => t.2.2.1) e9
      have e9_3 : mm_nightOfF_28 = r3 := congrArg (fun t => t.2.2.2.1) e9
      have e9_4 : mm_mileOfF_28 = r4 := congrArg (fun t => t.2.2.2.2.1) e9
      have e9_5 : mm_roundsOfF_28 = r5 := congrArg (fun t => t.2.2.2.2.2.1) e9
      have e9_6 : mm_talkingOfF_28 = r6 := congrArg (fun t => t.2.2.2.2.2.2.1) e9
      have e9_7 : mm_hushOfF_28 = r7 := congrArg (fun t => t.2.2.2.2.2.2.2.1) e9
      have e9_8 : mm_rowOfF_28 = r8 := congrArg (fun t => t.2.2.2.2.2.2.2.2.1) e9
      have e9_9 : mm_keptManyF_28 = r9 := congrArg (fun t => t.2.2.2.2.2.2.2.2.2.1) e9
      have e9_10 : mm_keptRowF_28 = r10 := congrArg (fun t => t.2.2.2.2.2.2.2.2.2.2.1) e9
      have e9_11 : r_1_1 = r11 := congrArg (fun t => t.2.2.2.2.2.2.2.2.2.2.2) e9
      clear e9 hf
      try clear b28
      subst e9_0
      subst e9_1
      subst e9_2
      subst e9_3
      subst e9_4
      subst e9_5
      subst e9_6
      subst e9_7
      subst e9_8
      subst e9_9
      subst e9_10
      subst e9_11
      exact xq_zret hx hb hr (by decide +kernel) hlocks hK hP hD hS dX12_please_41
    · have hf := xq_neg hf c_
      refine lv_iconst (v := 1) hx hb dX12_please_36 (by decide) ?_
      refine lv_goto (tgt := 41) hx hb dX12_please_37 (by decide) ?_
      have e9 := Option.some.inj hf
      have e9_0 : 1 = r0 := congrArg (fun t => t.1) e9
      have e9_1 : mmI_28 = r1 := congrArg (fun t => t.2.1) e9
      have e9_2 : mm_talkOfF_28 = r2 := congrArg (fun t => t.2.2.1) e9
      have e9_3 : mm_nightOfF_28 = r3 := congrArg (fun t => t.2.2.2.1) e9
      have e9_4 : mm_mileOfF_28 = r4 := congrArg (fun t => t.2.2.2.2.1) e9
      have e9_5 : mm_roundsOfF_28 = r5 := congrArg (fun t => t.2.2.2.2.2.1) e9
      have e9_6 : mm_talkingOfF_28 = r6 := congrArg (fun t => t.2.2.2.2.2.2.1) e9
      have e9_7 : mm_hushOfF_28 = r7 := congrArg (fun t => t.2.2.2.2.2.2.2.1) e9
      have e9_8 : mm_rowOfF_28 = r8 := congrArg (fun t => t.2.2.2.2.2.2.2.2.1) e9
      have e9_9 : mm_keptManyF_28 = r9 := congrArg (fun t => t.2.2.2.2.2.2.2.2.2.1) e9
      have e9_10 : mm_keptRowF_28 = r10 := congrArg (fun t => t.2.2.2.2.2.2.2.2.2.2.1) e9
      have e9_11 : r_1_1 = r11 := congrArg (fun t => t.2.2.2.2.2.2.2.2.2.2.2) e9
      clear e9 hf
      try clear b28
      subst e9_0
      subst e9_1
      subst e9_2
      subst e9_3
      subst e9_4
      subst e9_5
      subst e9_6
      subst e9_7
      subst e9_8
      subst e9_9
      subst e9_10
      subst e9_11
      exact xq_zret hx hb hr (by decide +kernel) hlocks hK hP hD hS dX12_please_41
  unfold fX12_please at hf
  refine lv_aload_n hx hb dX12_please_0 rfl (lv_at hl 0 rfl) ?_
  refine lv_iload_n hx hb dX12_please_1 rfl (lv_at hl 1 rfl) ?_
  obtain ⟨r_1, h_2, hf⟩ := xq_bd_some hf
  refine xq_callV (As := [.int p1]) (rest := []) (ci := 12) (q0 := 0) ⟨hx, hb, hml, hown, hts⟩ (kX12_isPlace l dC dI cI cB cJ cZ cM z ad N a_p0 mmI mmJ mmR mm_placesF p1 h_2) (cwV 1 hts gX12_please_X12_isPlace rfl rfl rfl (by decide +kernel) ⟨Nat.le_of_ble_eq_true rfl, Nat.le_of_ble_eq_true rfl⟩) hN hK hP hD hS hA [0, 1] (by decide) rfl rfl rfl rfl rfl rfl hl.1 rfl (Nat.le_of_ble_eq_true rfl) dX12_please_2 ⟨Nat.zero_le _, Nat.zero_le _⟩ (fun H locs hP hD hS => ?_)
  have hP : va_P (dC, dI) vwCl [(a_p0, .inr (12, oX12 mmI mmJ mmR)), ((mmR 21), .inl (cI, 2, .inl mm_placesF)), ((mmR 51), .inl (cI, 132, .inl mm_talkOfF)), ((mmR 45), .inl (cI, 22, .inl mm_nightOfF)), ((mmR 46), .inl (cI, 22, .inl mm_mileOfF)), ((mmR 47), .inl (cI, 22, .inl mm_roundsOfF)), ((mmR 48), .inl (cI, 22, .inl mm_talkingOfF)), ((mmR 49), .inl (cI, 22, .inl mm_hushOfF)), ((mmR 50), .inl (cI, 154, .inl mm_rowOfF)), ((mmR 52), .inl (cI, 22, .inl mm_keptManyF)), ((mmR 53), .inl (cI, 2640, .inl mm_keptRowF)), ((mmR 44), .inl (cI, 6, .inl mm_refusedF))] H := hP
  have hD : va_D A [(a_p0, .inr (12, oX12 mmI mmJ mmR)), ((mmR 21), .inl (cI, 2, .inl mm_placesF)), ((mmR 51), .inl (cI, 132, .inl mm_talkOfF)), ((mmR 45), .inl (cI, 22, .inl mm_nightOfF)), ((mmR 46), .inl (cI, 22, .inl mm_mileOfF)), ((mmR 47), .inl (cI, 22, .inl mm_roundsOfF)), ((mmR 48), .inl (cI, 22, .inl mm_talkingOfF)), ((mmR 49), .inl (cI, 22, .inl mm_hushOfF)), ((mmR 50), .inl (cI, 154, .inl mm_rowOfF)), ((mmR 52), .inl (cI, 22, .inl mm_keptManyF)), ((mmR 53), .inl (cI, 2640, .inl mm_keptRowF)), ((mmR 44), .inl (cI, 6, .inl mm_refusedF))] := hD
  refine W.eq (g2 := F0 m 5 ls [.int r_1]) rfl ?_
  refine lv_if_eq (tgt := 28) hx hb dX12_please_5 (by decide) (fun c_ => ?_) (fun c_ => ?_)
  · have hf := xq_pos hf c_
    exact b28 mmI mm_talkOfF mm_nightOfF mm_mileOfF mm_roundsOfF mm_talkingOfF mm_hushOfF mm_rowOfF mm_keptManyF mm_keptRowF mm_refusedF _ _ _ hf hP hD hS (lv_sub hl [0] rfl)
  · have hf := xq_neg hf c_
    refine lv_iload_n hx hb dX12_please_8 rfl (lv_at hl 2 rfl) ?_
    refine lv_iconst (v := 0) hx hb dX12_please_9 (by decide) ?_
    refine lv_bipush (v := 9) hx hb dX12_please_10 (by decide) ?_
    obtain ⟨r_3, h_4, hf⟩ := xq_bd_some hf
    refine xq_callS (As := [.int p2, .int 0, .int 9]) (rest := []) ⟨hx, hb, hml, hown, hts⟩ (kX12_is l dC dI cI cB cJ cZ cM z ad N p2 0 9 h_4) (va_cwS 3 hts gX12_please_X12_is rfl rfl rfl (by decide +kernel) ⟨Nat.le_of_ble_eq_true rfl, Nat.le_of_ble_eq_true rfl⟩) hN hK hP hD hS hA [] (by decide) rfl rfl rfl hl.1 rfl (Nat.le_of_ble_eq_true rfl) dX12_please_12 ⟨Nat.zero_le _, Nat.zero_le _⟩ (fun H locs hP hD hS => ?_)
    have hP : va_P (dC, dI) vwCl [(a_p0, .inr (12, oX12 mmI mmJ mmR)), ((mmR 21), .inl (cI, 2, .inl mm_placesF)), ((mmR 51), .inl (cI, 132, .inl mm_talkOfF)), ((mmR 45), .inl (cI, 22, .inl mm_nightOfF)), ((mmR 46), .inl (cI, 22, .inl mm_mileOfF)), ((mmR 47), .inl (cI, 22, .inl mm_roundsOfF)), ((mmR 48), .inl (cI, 22, .inl mm_talkingOfF)), ((mmR 49), .inl (cI, 22, .inl mm_hushOfF)), ((mmR 50), .inl (cI, 154, .inl mm_rowOfF)), ((mmR 52), .inl (cI, 22, .inl mm_keptManyF)), ((mmR 53), .inl (cI, 2640, .inl mm_keptRowF)), ((mmR 44), .inl (cI, 6, .inl mm_refusedF))] H := hP
    have hD : va_D A [(a_p0, .inr (12, oX12 mmI mmJ mmR)), ((mmR 21), .inl (cI, 2, .inl mm_placesF)), ((mmR 51), .inl (cI, 132, .inl mm_talkOfF)), ((mmR 45), .inl (cI, 22, .inl mm_nightOfF)), ((mmR 46), .inl (cI, 22, .inl mm_mileOfF)), ((mmR 47), .inl (cI, 22, .inl mm_roundsOfF)), ((mmR 48), .inl (cI, 22, .inl mm_talkingOfF)), ((mmR 49), .inl (cI, 22, .inl mm_hushOfF)), ((mmR 50), .inl (cI, 154, .inl mm_rowOfF)), ((mmR 52), .inl (cI, 22, .inl mm_keptManyF)), ((mmR 53), .inl (cI, 2640, .inl mm_keptRowF)), ((mmR 44), .inl (cI, 6, .inl mm_refusedF))] := hD
    refine W.eq (g2 := F0 m 15 ls [.int r_3]) rfl ?_
    refine lv_if_eq (tgt := 28) hx hb dX12_please_15 (by decide) (fun c_ => ?_) (fun c_ => ?_)
    · have hf := xq_pos hf c_
      exact b28 mmI mm_talkOfF mm_nightOfF mm_mileOfF mm_roundsOfF mm_talkingOfF mm_hushOfF mm_rowOfF mm_keptManyF mm_keptRowF mm_refusedF _ _ _ hf hP hD hS (lv_sub hl [0] rfl)
    · have hf := xq_neg hf c_
      refine lv_aload_n hx hb dX12_please_18 rfl (lv_at hl 0 rfl) ?_
      refine va_get (D := (dC, dI)) (ci := 12) (v := .ref ((mmR 51))) (C := RX12) (T := TX12) (N := 70) hx hb hts hinX12 hown hK hP 0 rfl rfl 51 (by decide) hw0 (fun _ h9 => h9) rfl dX12_please_19 ?_
      refine lv_iload_n hx hb dX12_please_22 rfl (lv_at hl 1 rfl) ?_
      refine xq_iald hx hb hK hP 2 0 rfl rfl hf dX12_please_23 (fun v_5 hf => ?_)
      refine lv_iload_n hx hb dX12_please_24 rfl (lv_at hl 2 rfl) ?_
      refine lv_icmp_ne (tgt := 42) hx hb dX12_please_25 (by decide) (fun c_ => ?_) (fun c_ => ?_)
      · have hf := xq_neg hf c_
        refine lv_aload_n hx hb dX12_please_42 rfl (lv_at hl 0 rfl) ?_
        obtain ⟨⟨r_6_0, r_6_1, r_6_2, r_6_3, r_6_4, r_6_5, r_6_6, r_6_7, r_6_8, r_6_9⟩, h_7, hf⟩ := xq_bd_some hf
        refine xq_callV (As := []) (rest := []) (ci := 12) (q0 := 0) ⟨hx, hb, hml, hown, hts⟩ (kX12_keeps l dC dI cI cB cJ cZ cM z ad N a_p0 mmI mmJ mmR mm_nightOfF mm_mileOfF mm_roundsOfF mm_talkingOfF mm_hushOfF mm_rowOfF mm_keptManyF mm_talkOfF mm_keptRowF h_7) (cwV 0 hts gX12_please_X12_keeps rfl rfl rfl (by decide +kernel) ⟨Nat.le_of_ble_eq_true rfl, Nat.le_of_ble_eq_true rfl⟩) hN hK hP hD hS hA [0, 3, 4, 5, 6, 7, 8, 9, 2, 10] (by decide) rfl rfl rfl rfl rfl rfl hl.1 rfl (Nat.le_of_ble_eq_true rfl) dX12_please_43 ⟨Nat.zero_le _, Nat.zero_le _⟩ (fun H locs hP hD hS => ?_)
        have hP : va_P (dC, dI) vwCl [(a_p0, .inr (12, oX12 r_6_0 mmJ mmR)), ((mmR 21), .inl (cI, 2, .inl mm_placesF)), ((mmR 51), .inl (cI, 132, .inl r_6_8)), ((mmR 45), .inl (cI, 22, .inl r_6_1)), ((mmR 46), .inl (cI, 22, .inl r_6_2)), ((mmR 47), .inl (cI, 22, .inl r_6_3)), ((mmR 48), .inl (cI, 22, .inl r_6_4)), ((mmR 49), .inl (cI, 22, .inl r_6_5)), ((mmR 50), .inl (cI, 154, .inl r_6_6)), ((mmR 52), .inl (cI, 22, .inl r_6_7)), ((mmR 53), .inl (cI, 2640, .inl r_6_9)), ((mmR 44), .inl (cI, 6, .inl mm_refusedF))] H := hP
        have hD : va_D A [(a_p0, .inr (12, oX12 r_6_0 mmJ mmR)), ((mmR 21), .inl (cI, 2, .inl mm_placesF)), ((mmR 51), .inl (cI, 132, .inl r_6_8)), ((mmR 45), .inl (cI, 22, .inl r_6_1)), ((mmR 46), .inl (cI, 22, .inl r_6_2)), ((mmR 47), .inl (cI, 22, .inl r_6_3)), ((mmR 48), .inl (cI, 22, .inl r_6_4)), ((mmR 49), .inl (cI, 22, .inl r_6_5)), ((mmR 50), .inl (cI, 154, .inl r_6_6)), ((mmR 52), .inl (cI, 22, .inl r_6_7)), ((mmR 53), .inl (cI, 2640, .inl r_6_9)), ((mmR 44), .inl (cI, 6, .inl mm_refusedF))] := hD
        refine W.eq (g2 := F0 m 46 ls []) rfl ?_
        refine lv_aload_n hx hb dX12_please_46 rfl (lv_at hl 0 rfl) ?_
        refine va_get (D := (dC, dI)) (ci := 12) (v := .ref ((mmR 51))) (C := RX12) (T := TX12) (N := 70) hx hb hts hinX12 hown hK hP 0 rfl rfl 51 (by decide) hw0 (fun _ h9 => h9) rfl dX12_please_47 ?_
        refine lv_iload_n hx hb dX12_please_50 rfl (lv_at hl 1 rfl) ?_
        refine lv_iload_n hx hb dX12_please_51 rfl (lv_at hl 2 rfl) ?_
        refine xq_iast hx hb hK hP hD hS 2 0 rfl rfl hf dX12_please_52 (fun g_8 H locs hf hP hD hS => ?_)
        have hP : va_P (dC, dI) vwCl [(a_p0, .inr (12, oX12 r_6_0 mmJ mmR)), ((mmR 21), .inl (cI, 2, .inl mm_placesF)), ((mmR 51), .inl (cI, 132, .inl g_8)), ((mmR 45), .inl (cI, 22, .inl r_6_1)), ((mmR 46), .inl (cI, 22, .inl r_6_2)), ((mmR 47), .inl (cI, 22, .inl r_6_3)), ((mmR 48), .inl (cI, 22, .inl r_6_4)), ((mmR 49), .inl (cI, 22, .inl r_6_5)), ((mmR 50), .inl (cI, 154, .inl r_6_6)), ((mmR 52), .inl (cI, 22, .inl r_6_7)), ((mmR 53), .inl (cI, 2640, .inl r_6_9)), ((mmR 44), .inl (cI, 6, .inl mm_refusedF))] H := hP
        have hD : va_D A [(a_p0, .inr (12, oX12 r_6_0 mmJ mmR)), ((mmR 21), .inl (cI, 2, .inl mm_placesF)), ((mmR 51), .inl (cI, 132, .inl g_8)), ((mmR 45), .inl (cI, 22, .inl r_6_1)), ((mmR 46), .inl (cI, 22, .inl r_6_2)), ((mmR 47), .inl (cI, 22, .inl r_6_3)), ((mmR 48), .inl (cI, 22, .inl r_6_4)), ((mmR 49), .inl (cI, 22, .inl r_6_5)), ((mmR 50), .inl (cI, 154, .inl r_6_6)), ((mmR 52), .inl (cI, 22, .inl r_6_7)), ((mmR 53), .inl (cI, 2640, .inl r_6_9)), ((mmR 44), .inl (cI, 6, .inl mm_refusedF))] := hD
        refine lv_iconst (v := 1) hx hb dX12_please_53 (by decide) ?_
        have e9 := Option.some.inj hf
        have e9_0 : 1 = r0 := congrArg (fun t => t.1) e9
        have e9_1 : r_6_0 = r1 := congrArg (fun t => t.2.1) e9
        have e9_2 : g_8 = r2 := congrArg (fun t => t.2.2.1) e9
        have e9_3 : r_6_1 = r3 := congrArg (fun t => t.2.2.2.1) e9
        have e9_4 : r_6_2 = r4 := congrArg (fun t => t.2.2.2.2.1) e9
        have e9_5 : r_6_3 = r5 := congrArg (fun t => t.2.2.2.2.2.1) e9
        have e9_6 : r_6_4 = r6 := congrArg (fun t => t.2.2.2.2.2.2.1) e9
        have e9_7 : r_6_5 = r7 := congrArg (fun t => t.2.2.2.2.2.2.2.1) e9
        have e9_8 : r_6_6 = r8 := congrArg (fun t => t.2.2.2.2.2.2.2.2.1) e9
        have e9_9 : r_6_7 = r9 := congrArg (fun t => t.2.2.2.2.2.2.2.2.2.1) e9
        have e9_10 : r_6_9 = r10 := congrArg (fun t => t.2.2.2.2.2.2.2.2.2.2.1) e9
        have e9_11 : mm_refusedF = r11 := congrArg (fun t => t.2.2.2.2.2.2.2.2.2.2.2) e9
        clear e9 hf
        try clear b28
        subst e9_0
        subst e9_1
        subst e9_2
        subst e9_3
        subst e9_4
        subst e9_5
        subst e9_6
        subst e9_7
        subst e9_8
        subst e9_9
        subst e9_10
        subst e9_11
        exact xq_zret hx hb hr (by decide +kernel) hlocks hK hP hD hS dX12_please_54
      · have hf := xq_pos hf c_
        exact b28 mmI mm_talkOfF mm_nightOfF mm_mileOfF mm_roundsOfF mm_talkingOfF mm_hushOfF mm_rowOfF mm_keptManyF mm_keptRowF mm_refusedF _ _ _ hf hP hD hS (lv_sub hl [0] rfl)
set_option maxRecDepth 20000 in
theorem ggX12_seed_X12_refuses : GoodIn wsX12_seed wsX12_refuses := goodIn_r _ [6, 7, 8, 9, 10, 11, 12, 13, 14, 15, 16, 17, 18, 19, 20, 21, 22, 23, 24, 25, 26, 27, 28, 29, 30, 31, 32, 33, 34, 35, 36, 37, 38, 39, 40, 41, 42, 43, 44, 45, 46, 47, 48, 49, 50, 51, 52, 53, 54, 55, 56, 57, 58, 59, 60, 61, 62, 63, 64, 65, 66, 67, 68, 69, 70, 71, 72, 73, 74, 75, 76, 77] rfl (by decide +kernel)
set_option maxRecDepth 20000 in
theorem gX12_seed_X12_refuses : GoodIn wsX12_seed (wsV RX12 225 RX12 yX12_refuses wsX12_refuses) := goodIn_app (goodIn_of _ (by decide +kernel)) ggX12_seed_X12_refuses
def dsX12_seed_0 : List (Nat × Instr × Nat) := [(0, (.iload_n 1, 1)), (1, (.ifCond .ge 17, 3)), (4, (.aload_n 0, 1)), (5, (.iconst 5, 1)), (6, (.invokevirtual 225, 3)), (9, (.ifCond .lt 7, 3)), (12, (.iconst 1, 1)), (13, (.goto 4, 3)), (16, (.iconst 0, 1)), (17, (.ireturn, 1)), (18, (.aload_n 0, 1)), (19, (.iload_n 1, 1)), (20, (.i2l, 1)), (21, (.putfield 183, 3)), (24, (.iconst 1, 1)), (25, (.ireturn, 1))]
theorem dsX12_seed_0_ok : (dsX12_seed_0.all fun q => decide (decode cX12_seed q.1 = .ok q.2)) = true := by decide +kernel
theorem dX12_seed_0 : decode cX12_seed 0 = .ok (.iload_n 1, 1) := of_decide_eq_true (List.all_eq_true.mp dsX12_seed_0_ok (0, (.iload_n 1, 1)) (List.mem_of_getElem? (i := 0) rfl))
theorem dX12_seed_1 : decode cX12_seed 1 = .ok (.ifCond .ge 17, 3) := of_decide_eq_true (List.all_eq_true.mp dsX12_seed_0_ok (1, (.ifCond .ge 17, 3)) (List.mem_of_getElem? (i := 1) rfl))
theorem dX12_seed_4 : decode cX12_seed 4 = .ok (.aload_n 0, 1) := of_decide_eq_true (List.all_eq_true.mp dsX12_seed_0_ok (4, (.aload_n 0, 1)) (List.mem_of_getElem? (i := 2) rfl))
theorem dX12_seed_5 : decode cX12_seed 5 = .ok (.iconst 5, 1) := of_decide_eq_true (List.all_eq_true.mp dsX12_seed_0_ok (5, (.iconst 5, 1)) (List.mem_of_getElem? (i := 3) rfl))
theorem dX12_seed_6 : decode cX12_seed 6 = .ok (.invokevirtual 225, 3) := of_decide_eq_true (List.all_eq_true.mp dsX12_seed_0_ok (6, (.invokevirtual 225, 3)) (List.mem_of_getElem? (i := 4) rfl))
theorem dX12_seed_9 : decode cX12_seed 9 = .ok (.ifCond .lt 7, 3) := of_decide_eq_true (List.all_eq_true.mp dsX12_seed_0_ok (9, (.ifCond .lt 7, 3)) (List.mem_of_getElem? (i := 5) rfl))
theorem dX12_seed_12 : decode cX12_seed 12 = .ok (.iconst 1, 1) := of_decide_eq_true (List.all_eq_true.mp dsX12_seed_0_ok (12, (.iconst 1, 1)) (List.mem_of_getElem? (i := 6) rfl))
theorem dX12_seed_13 : decode cX12_seed 13 = .ok (.goto 4, 3) := of_decide_eq_true (List.all_eq_true.mp dsX12_seed_0_ok (13, (.goto 4, 3)) (List.mem_of_getElem? (i := 7) rfl))
theorem dX12_seed_16 : decode cX12_seed 16 = .ok (.iconst 0, 1) := of_decide_eq_true (List.all_eq_true.mp dsX12_seed_0_ok (16, (.iconst 0, 1)) (List.mem_of_getElem? (i := 8) rfl))
theorem dX12_seed_17 : decode cX12_seed 17 = .ok (.ireturn, 1) := of_decide_eq_true (List.all_eq_true.mp dsX12_seed_0_ok (17, (.ireturn, 1)) (List.mem_of_getElem? (i := 9) rfl))
theorem dX12_seed_18 : decode cX12_seed 18 = .ok (.aload_n 0, 1) := of_decide_eq_true (List.all_eq_true.mp dsX12_seed_0_ok (18, (.aload_n 0, 1)) (List.mem_of_getElem? (i := 10) rfl))
theorem dX12_seed_19 : decode cX12_seed 19 = .ok (.iload_n 1, 1) := of_decide_eq_true (List.all_eq_true.mp dsX12_seed_0_ok (19, (.iload_n 1, 1)) (List.mem_of_getElem? (i := 11) rfl))
theorem dX12_seed_20 : decode cX12_seed 20 = .ok (.i2l, 1) := of_decide_eq_true (List.all_eq_true.mp dsX12_seed_0_ok (20, (.i2l, 1)) (List.mem_of_getElem? (i := 12) rfl))
theorem dX12_seed_21 : decode cX12_seed 21 = .ok (.putfield 183, 3) := of_decide_eq_true (List.all_eq_true.mp dsX12_seed_0_ok (21, (.putfield 183, 3)) (List.mem_of_getElem? (i := 13) rfl))
theorem dX12_seed_24 : decode cX12_seed 24 = .ok (.iconst 1, 1) := of_decide_eq_true (List.all_eq_true.mp dsX12_seed_0_ok (24, (.iconst 1, 1)) (List.mem_of_getElem? (i := 14) rfl))
theorem dX12_seed_25 : decode cX12_seed 25 = .ok (.ireturn, 1) := of_decide_eq_true (List.all_eq_true.mp dsX12_seed_0_ok (25, (.ireturn, 1)) (List.mem_of_getElem? (i := 15) rfl))
def fX12_seed (N : Nat) (mmJ : Nat → Int64) (mm_refusedF : Nat → Int32)  (p1 : Int32) : Option (Int32 × (Nat → Int64) × (Nat → Int32)) :=
  (if 0 ≤ p1 then some ((1, (va_up mmJ 56 p1.toInt64), mm_refusedF)) else (xq_bd (fX12_refuses N mm_refusedF 5) fun (r_1_0, r_1_1) => (if r_1_0 < 0 then some ((0, mmJ, r_1_1)) else some ((1, mmJ, r_1_1)))))
set_option maxHeartbeats 4000000 in
set_option maxRecDepth 100000 in
theorem kX12_seed (l : Launch) (dC : Nat → ClassId) (dI : Nat → Nat → Nat) (cI cB cJ cZ cM : ClassId) (z : Nat) (ad : Nat → Nat) (N : Nat) (a_p0 : Nat) (mmI : Nat → Int32) (mmJ : Nat → Int64) (mmR : Nat → Nat) (mm_refusedF : Nat → Int32) (p1 : Int32) {r0 : Int32} {r1 : Nat → Int64} {r2 : Nat → Int32} (hf : fX12_seed N mmJ mm_refusedF p1 = some (r0, r1, r2)) : xq_Ct l yX12_seed wsX12_seed { frames := 1, cells := 0, slots := 0, locals := 21 } (dC, dI) vwCl (xq_tys cI cB cJ cZ cM) z ad [.ref a_p0, .int p1] [(a_p0, .inr (12, oX12 mmI mmJ mmR)), ((mmR 44), .inl (cI, 6, .inl mm_refusedF))] [(a_p0, .inr (12, oX12 mmI r1 mmR)), ((mmR 44), .inl (cI, 6, .inl r2))] (some (.int r0)) := by
  intro sz
  refine Met.ofW (cc := cX12_seed) (maxL := 2) (ret := (some .boolean)) (by decide) rfl ?_
  intro p e s m args below meth c s₁ B hml hv
  obtain ⟨rfl, hsz, hP, hK, hD0, hE, hz⟩ := hv
  have hx := B.exec
  have hb := B.bytes
  have hr := B.returns
  have hts := atoms_spec (ws := wsX12_seed) B.pre
  have hown : s.vm.findClass RX12 = some m.cls := findClass_of_methodNamed B.named
  have hlocks := B.notSynchronized
  subst hsz
  have hD := hD0.self (sz := s.heap.size)
  have hN := xq_Env.of hE hz hD0
  generalize hAe : va_A [(a_p0, .inr (12, oX12 mmI mmJ mmR)), ((mmR 44), .inl (cI, 6, .inl mm_refusedF))] s.heap.size = A at hD hN ⊢
  have hA : ∀ q : Nat, s.heap.size ≤ q → A q := fun q h => by rw [← hAe]; exact Or.inr h
  clear hAe hD0
  have hS : va_S A s.heap s.heap [] := va_S.rf
  have hl := lv_entry ([.ref a_p0, .int p1]) (n := 2) (Nat.le_of_ble_eq_true rfl)
  rw [lg_entry_eq]
  generalize (lg_sl ([.ref a_p0, .int p1]) ++ List.replicate (2 - (lg_sl ([.ref a_p0, .int p1])).length) Slot.unset).toArray = ls at hl ⊢
  have hl : lv_has ls 2 [(0, .ref a_p0), (1, .int p1)] := hl
  have hw0 := hts (.fieldLink RX12 183 "DistantVoiceModel" "seeds" "J") (by decide +kernel)
  have hinX12 : ∀ w ∈ wsX120, w ∈ wsX12_seed := fun w h => List.mem_cons_of_mem _ (List.mem_append_right _ h)
  unfold fX12_seed at hf
  refine lv_iload_n hx hb dX12_seed_0 rfl (lv_at hl 1 rfl) ?_
  refine lv_if_ge (tgt := 18) hx hb dX12_seed_1 (by decide) (fun c_ => ?_) (fun c_ => ?_)
  · have hf := xq_pos hf c_
    refine lv_aload_n hx hb dX12_seed_18 rfl (lv_at hl 0 rfl) ?_
    refine lv_iload_n hx hb dX12_seed_19 rfl (lv_at hl 1 rfl) ?_
    refine lv_i2l (v := p1.toInt64) hx hb dX12_seed_20 rfl ?_
    refine va_put (D := (dC, dI)) (ci := 12) (v := .long p1.toInt64) (ty := .long) (C := RX12) (T := TX12) (N := 70) hx hb hts hinX12 tyX12 tyX12_ok nmX12 hown hK hP hD hS 0 rfl rfl 56 (by decide) hw0 (fun _ h9 => h9) rfl (by decide +kernel) rfl rfl (Nat.le_of_ble_eq_true rfl) dX12_seed_21 (fun H locs hP hD hS => ?_)
    have hP : va_P (dC, dI) vwCl [(a_p0, .inr (12, oX12 mmI (va_up mmJ 56 p1.toInt64) mmR)), ((mmR 44), .inl (cI, 6, .inl mm_refusedF))] H := hP
    have hD : va_D A [(a_p0, .inr (12, oX12 mmI (va_up mmJ 56 p1.toInt64) mmR)), ((mmR 44), .inl (cI, 6, .inl mm_refusedF))] := hD
    refine lv_iconst (v := 1) hx hb dX12_seed_24 (by decide) ?_
    have e9 := Option.some.inj hf
    have e9_0 : 1 = r0 := congrArg (fun t => t.1) e9
    have e9_1 : (va_up mmJ 56 p1.toInt64) = r1 := congrArg (fun t => t.2.1) e9
    have e9_2 : mm_refusedF = r2 := congrArg (fun t => t.2.2) e9
    clear e9 hf
    subst e9_0
    subst e9_1
    subst e9_2
    exact xq_zret hx hb hr (by decide +kernel) hlocks hK hP hD hS dX12_seed_25
  · have hf := xq_neg hf c_
    refine lv_aload_n hx hb dX12_seed_4 rfl (lv_at hl 0 rfl) ?_
    refine lv_iconst (v := 5) hx hb dX12_seed_5 (by decide) ?_
    obtain ⟨⟨r_1_0, r_1_1⟩, h_2, hf⟩ := xq_bd_some hf
    refine xq_callV (As := [.int 5]) (rest := []) (ci := 12) (q0 := 0) ⟨hx, hb, hml, hown, hts⟩ (kX12_refuses l dC dI cI cB cJ cZ cM z ad N a_p0 mmI mmJ mmR mm_refusedF 5 h_2) (cwV 1 hts gX12_seed_X12_refuses rfl rfl rfl (by decide +kernel) ⟨Nat.le_of_ble_eq_true rfl, Nat.le_of_ble_eq_true rfl⟩) hN hK hP hD hS hA [0, 1] (by decide) rfl rfl rfl rfl rfl rfl hl.1 rfl (Nat.le_of_ble_eq_true rfl) dX12_seed_6 ⟨Nat.zero_le _, Nat.zero_le _⟩ (fun H locs hP hD hS => ?_)
    have hP : va_P (dC, dI) vwCl [(a_p0, .inr (12, oX12 mmI mmJ mmR)), ((mmR 44), .inl (cI, 6, .inl r_1_1))] H := hP
    have hD : va_D A [(a_p0, .inr (12, oX12 mmI mmJ mmR)), ((mmR 44), .inl (cI, 6, .inl r_1_1))] := hD
    refine W.eq (g2 := F0 m 9 ls [.int r_1_0]) rfl ?_
    refine lv_if_lt (tgt := 16) hx hb dX12_seed_9 (by decide) (fun c_ => ?_) (fun c_ => ?_)
    · have hf := xq_pos hf c_
      refine lv_iconst (v := 0) hx hb dX12_seed_16 (by decide) ?_
      have e9 := Option.some.inj hf
      have e9_0 : 0 = r0 := congrArg (fun t => t.1) e9
      have e9_1 : mmJ = r1 := congrArg (fun t => t.2.1) e9
      have e9_2 : r_1_1 = r2 := congrArg (fun t => t.2.2) e9
      clear e9 hf
      subst e9_0
      subst e9_1
      subst e9_2
      exact xq_zret hx hb hr (by decide +kernel) hlocks hK hP hD hS dX12_seed_17
    · have hf := xq_neg hf c_
      refine lv_iconst (v := 1) hx hb dX12_seed_12 (by decide) ?_
      refine lv_goto (tgt := 17) hx hb dX12_seed_13 (by decide) ?_
      have e9 := Option.some.inj hf
      have e9_0 : 1 = r0 := congrArg (fun t => t.1) e9
      have e9_1 : mmJ = r1 := congrArg (fun t => t.2.1) e9
      have e9_2 : r_1_1 = r2 := congrArg (fun t => t.2.2) e9
      clear e9 hf
      subst e9_0
      subst e9_1
      subst e9_2
      exact xq_zret hx hb hr (by decide +kernel) hlocks hK hP hD hS dX12_seed_17
set_option maxRecDepth 20000 in
theorem ggX12_kept_X12_is : GoodIn wsX12_kept wsX12_is := goodIn_r _ [6] rfl (by decide +kernel)
set_option maxRecDepth 20000 in
theorem gX12_kept_X12_is : GoodIn wsX12_kept (va_wsS RX12 301 yX12_is wsX12_is) := goodIn_app (goodIn_of _ (by decide +kernel)) ggX12_kept_X12_is
def dsX12_kept_0 : List (Nat × Instr × Nat) := [(0, (.iload_n 1, 1)), (1, (.iconst 0, 1)), (2, (.aload_n 0, 1)), (3, (.getfield 171, 3)), (6, (.iconst 0, 1)), (7, (.iaload, 1)), (8, (.iconst 1, 1)), (9, (.isub, 1)), (10, (.invokestatic 301, 3)), (13, (.ifCond .eq 25, 3)), (16, (.iload_n 2, 1)), (17, (.iconst 0, 1)), (18, (.iconst 2, 1)), (19, (.invokestatic 301, 3)), (22, (.ifCond .eq 16, 3)), (25, (.aload_n 0, 1)), (26, (.getfield 174, 3)), (29, (.iconst 3, 1)), (30, (.iload_n 1, 1)), (31, (.imul, 1)), (32, (.iload_n 2, 1)), (33, (.iadd, 1)), (34, (.iaload, 1)), (35, (.goto 4, 3)), (38, (.iconst (-1), 1)), (39, (.ireturn, 1))]
theorem dsX12_kept_0_ok : (dsX12_kept_0.all fun q => decide (decode cX12_kept q.1 = .ok q.2)) = true := by decide +kernel
theorem dX12_kept_0 : decode cX12_kept 0 = .ok (.iload_n 1, 1) := of_decide_eq_true (List.all_eq_true.mp dsX12_kept_0_ok (0, (.iload_n 1, 1)) (List.mem_of_getElem? (i := 0) rfl))
theorem dX12_kept_1 : decode cX12_kept 1 = .ok (.iconst 0, 1) := of_decide_eq_true (List.all_eq_true.mp dsX12_kept_0_ok (1, (.iconst 0, 1)) (List.mem_of_getElem? (i := 1) rfl))
theorem dX12_kept_2 : decode cX12_kept 2 = .ok (.aload_n 0, 1) := of_decide_eq_true (List.all_eq_true.mp dsX12_kept_0_ok (2, (.aload_n 0, 1)) (List.mem_of_getElem? (i := 2) rfl))
theorem dX12_kept_3 : decode cX12_kept 3 = .ok (.getfield 171, 3) := of_decide_eq_true (List.all_eq_true.mp dsX12_kept_0_ok (3, (.getfield 171, 3)) (List.mem_of_getElem? (i := 3) rfl))
theorem dX12_kept_6 : decode cX12_kept 6 = .ok (.iconst 0, 1) := of_decide_eq_true (List.all_eq_true.mp dsX12_kept_0_ok (6, (.iconst 0, 1)) (List.mem_of_getElem? (i := 4) rfl))
theorem dX12_kept_7 : decode cX12_kept 7 = .ok (.iaload, 1) := of_decide_eq_true (List.all_eq_true.mp dsX12_kept_0_ok (7, (.iaload, 1)) (List.mem_of_getElem? (i := 5) rfl))
theorem dX12_kept_8 : decode cX12_kept 8 = .ok (.iconst 1, 1) := of_decide_eq_true (List.all_eq_true.mp dsX12_kept_0_ok (8, (.iconst 1, 1)) (List.mem_of_getElem? (i := 6) rfl))
theorem dX12_kept_9 : decode cX12_kept 9 = .ok (.isub, 1) := of_decide_eq_true (List.all_eq_true.mp dsX12_kept_0_ok (9, (.isub, 1)) (List.mem_of_getElem? (i := 7) rfl))
theorem dX12_kept_10 : decode cX12_kept 10 = .ok (.invokestatic 301, 3) := of_decide_eq_true (List.all_eq_true.mp dsX12_kept_0_ok (10, (.invokestatic 301, 3)) (List.mem_of_getElem? (i := 8) rfl))
theorem dX12_kept_13 : decode cX12_kept 13 = .ok (.ifCond .eq 25, 3) := of_decide_eq_true (List.all_eq_true.mp dsX12_kept_0_ok (13, (.ifCond .eq 25, 3)) (List.mem_of_getElem? (i := 9) rfl))
theorem dX12_kept_16 : decode cX12_kept 16 = .ok (.iload_n 2, 1) := of_decide_eq_true (List.all_eq_true.mp dsX12_kept_0_ok (16, (.iload_n 2, 1)) (List.mem_of_getElem? (i := 10) rfl))
theorem dX12_kept_17 : decode cX12_kept 17 = .ok (.iconst 0, 1) := of_decide_eq_true (List.all_eq_true.mp dsX12_kept_0_ok (17, (.iconst 0, 1)) (List.mem_of_getElem? (i := 11) rfl))
theorem dX12_kept_18 : decode cX12_kept 18 = .ok (.iconst 2, 1) := of_decide_eq_true (List.all_eq_true.mp dsX12_kept_0_ok (18, (.iconst 2, 1)) (List.mem_of_getElem? (i := 12) rfl))
theorem dX12_kept_19 : decode cX12_kept 19 = .ok (.invokestatic 301, 3) := of_decide_eq_true (List.all_eq_true.mp dsX12_kept_0_ok (19, (.invokestatic 301, 3)) (List.mem_of_getElem? (i := 13) rfl))
theorem dX12_kept_22 : decode cX12_kept 22 = .ok (.ifCond .eq 16, 3) := of_decide_eq_true (List.all_eq_true.mp dsX12_kept_0_ok (22, (.ifCond .eq 16, 3)) (List.mem_of_getElem? (i := 14) rfl))
theorem dX12_kept_25 : decode cX12_kept 25 = .ok (.aload_n 0, 1) := of_decide_eq_true (List.all_eq_true.mp dsX12_kept_0_ok (25, (.aload_n 0, 1)) (List.mem_of_getElem? (i := 15) rfl))
theorem dX12_kept_26 : decode cX12_kept 26 = .ok (.getfield 174, 3) := of_decide_eq_true (List.all_eq_true.mp dsX12_kept_0_ok (26, (.getfield 174, 3)) (List.mem_of_getElem? (i := 16) rfl))
theorem dX12_kept_29 : decode cX12_kept 29 = .ok (.iconst 3, 1) := of_decide_eq_true (List.all_eq_true.mp dsX12_kept_0_ok (29, (.iconst 3, 1)) (List.mem_of_getElem? (i := 17) rfl))
theorem dX12_kept_30 : decode cX12_kept 30 = .ok (.iload_n 1, 1) := of_decide_eq_true (List.all_eq_true.mp dsX12_kept_0_ok (30, (.iload_n 1, 1)) (List.mem_of_getElem? (i := 18) rfl))
theorem dX12_kept_31 : decode cX12_kept 31 = .ok (.imul, 1) := of_decide_eq_true (List.all_eq_true.mp dsX12_kept_0_ok (31, (.imul, 1)) (List.mem_of_getElem? (i := 19) rfl))
theorem dX12_kept_32 : decode cX12_kept 32 = .ok (.iload_n 2, 1) := of_decide_eq_true (List.all_eq_true.mp dsX12_kept_0_ok (32, (.iload_n 2, 1)) (List.mem_of_getElem? (i := 20) rfl))
theorem dX12_kept_33 : decode cX12_kept 33 = .ok (.iadd, 1) := of_decide_eq_true (List.all_eq_true.mp dsX12_kept_0_ok (33, (.iadd, 1)) (List.mem_of_getElem? (i := 21) rfl))
theorem dX12_kept_34 : decode cX12_kept 34 = .ok (.iaload, 1) := of_decide_eq_true (List.all_eq_true.mp dsX12_kept_0_ok (34, (.iaload, 1)) (List.mem_of_getElem? (i := 22) rfl))
theorem dX12_kept_35 : decode cX12_kept 35 = .ok (.goto 4, 3) := of_decide_eq_true (List.all_eq_true.mp dsX12_kept_0_ok (35, (.goto 4, 3)) (List.mem_of_getElem? (i := 23) rfl))
theorem dX12_kept_38 : decode cX12_kept 38 = .ok (.iconst (-1), 1) := of_decide_eq_true (List.all_eq_true.mp dsX12_kept_0_ok (38, (.iconst (-1), 1)) (List.mem_of_getElem? (i := 24) rfl))
theorem dX12_kept_39 : decode cX12_kept 39 = .ok (.ireturn, 1) := of_decide_eq_true (List.all_eq_true.mp dsX12_kept_0_ok (39, (.ireturn, 1)) (List.mem_of_getElem? (i := 25) rfl))
def fX12_kept (N : Nat) (mm_keptManyF : Nat → Int32) (mm_keptRowF : Nat → Int32)  (p1 : Int32) (p2 : Int32) : Option (Int32) :=
  (xq_bd (xq_ald 22 mm_keptManyF 0) fun v_1 => (xq_bd (fX12_is N p1 0 (v_1 - 1)) fun r_2 => (if r_2 = 0 then some ((-1)) else (xq_bd (fX12_is N p2 0 2) fun r_4 => (if r_4 = 0 then some ((-1)) else (xq_bd (xq_ald 2640 mm_keptRowF ((3 * p1) + p2)) fun v_6 => some v_6))))))
set_option maxHeartbeats 4000000 in
set_option maxRecDepth 100000 in
theorem kX12_kept (l : Launch) (dC : Nat → ClassId) (dI : Nat → Nat → Nat) (cI cB cJ cZ cM : ClassId) (z : Nat) (ad : Nat → Nat) (N : Nat) (a_p0 : Nat) (mmI : Nat → Int32) (mmJ : Nat → Int64) (mmR : Nat → Nat) (mm_keptManyF : Nat → Int32) (mm_keptRowF : Nat → Int32) (p1 : Int32) (p2 : Int32) {r0 : Int32} (hf : fX12_kept N mm_keptManyF mm_keptRowF p1 p2 = some r0) : xq_Ct l yX12_kept wsX12_kept { frames := 1, cells := 0, slots := 0, locals := 22 } (dC, dI) vwCl (xq_tys cI cB cJ cZ cM) z ad [.ref a_p0, .int p1, .int p2] [(a_p0, .inr (12, oX12 mmI mmJ mmR)), ((mmR 52), .inl (cI, 22, .inl mm_keptManyF)), ((mmR 53), .inl (cI, 2640, .inl mm_keptRowF))] [(a_p0, .inr (12, oX12 mmI mmJ mmR)), ((mmR 52), .inl (cI, 22, .inl mm_keptManyF)), ((mmR 53), .inl (cI, 2640, .inl mm_keptRowF))] (some (.int r0)) := by
  intro sz
  refine Met.ofW (cc := cX12_kept) (maxL := 3) (ret := (some .int)) (by decide) rfl ?_
  intro p e s m args below meth c s₁ B hml hv
  obtain ⟨rfl, hsz, hP, hK, hD0, hE, hz⟩ := hv
  have hx := B.exec
  have hb := B.bytes
  have hr := B.returns
  have hts := atoms_spec (ws := wsX12_kept) B.pre
  have hown : s.vm.findClass RX12 = some m.cls := findClass_of_methodNamed B.named
  have hlocks := B.notSynchronized
  subst hsz
  have hD := hD0.self (sz := s.heap.size)
  have hN := xq_Env.of hE hz hD0
  generalize hAe : va_A [(a_p0, .inr (12, oX12 mmI mmJ mmR)), ((mmR 52), .inl (cI, 22, .inl mm_keptManyF)), ((mmR 53), .inl (cI, 2640, .inl mm_keptRowF))] s.heap.size = A at hD hN ⊢
  have hA : ∀ q : Nat, s.heap.size ≤ q → A q := fun q h => by rw [← hAe]; exact Or.inr h
  clear hAe hD0
  have hS : va_S A s.heap s.heap [] := va_S.rf
  have hl := lv_entry ([.ref a_p0, .int p1, .int p2]) (n := 3) (Nat.le_of_ble_eq_true rfl)
  rw [lg_entry_eq]
  generalize (lg_sl ([.ref a_p0, .int p1, .int p2]) ++ List.replicate (3 - (lg_sl ([.ref a_p0, .int p1, .int p2])).length) Slot.unset).toArray = ls at hl ⊢
  have hl : lv_has ls 3 [(0, .ref a_p0), (1, .int p1), (2, .int p2)] := hl
  have hw0 := hts (.fieldLink RX12 171 "DistantVoiceModel" "keptMany" "[I") (by decide +kernel)
  have hinX12 : ∀ w ∈ wsX120, w ∈ wsX12_kept := fun w h => List.mem_cons_of_mem _ (List.mem_append_right _ h)
  have hw2 := hts (.fieldLink RX12 174 "DistantVoiceModel" "keptRow" "[I") (by decide +kernel)
  unfold fX12_kept at hf
  refine lv_iload_n hx hb dX12_kept_0 rfl (lv_at hl 1 rfl) ?_
  refine lv_iconst (v := 0) hx hb dX12_kept_1 (by decide) ?_
  refine lv_aload_n hx hb dX12_kept_2 rfl (lv_at hl 0 rfl) ?_
  refine va_get (D := (dC, dI)) (ci := 12) (v := .ref ((mmR 52))) (C := RX12) (T := TX12) (N := 70) hx hb hts hinX12 hown hK hP 0 rfl rfl 52 (by decide) hw0 (fun _ h9 => h9) rfl dX12_kept_3 ?_
  refine lv_iconst (v := 0) hx hb dX12_kept_6 (by decide) ?_
  refine xq_iald hx hb hK hP 1 0 rfl rfl hf dX12_kept_7 (fun v_1 hf => ?_)
  refine lv_iconst (v := 1) hx hb dX12_kept_8 (by decide) ?_
  refine lv_isub hx hb dX12_kept_9 ?_
  obtain ⟨r_2, h_3, hf⟩ := xq_bd_some hf
  refine xq_callS (As := [.int p1, .int 0, .int (v_1 - 1)]) (rest := []) ⟨hx, hb, hml, hown, hts⟩ (kX12_is l dC dI cI cB cJ cZ cM z ad N p1 0 (v_1 - 1) h_3) (va_cwS 3 hts gX12_kept_X12_is rfl rfl rfl (by decide +kernel) ⟨Nat.le_of_ble_eq_true rfl, Nat.le_of_ble_eq_true rfl⟩) hN hK hP hD hS hA [] (by decide) rfl rfl rfl hl.1 rfl (Nat.le_of_ble_eq_true rfl) dX12_kept_10 ⟨Nat.zero_le _, Nat.zero_le _⟩ (fun H locs hP hD hS => ?_)
  have hP : va_P (dC, dI) vwCl [(a_p0, .inr (12, oX12 mmI mmJ mmR)), ((mmR 52), .inl (cI, 22, .inl mm_keptManyF)), ((mmR 53), .inl (cI, 2640, .inl mm_keptRowF))] H := hP
  have hD : va_D A [(a_p0, .inr (12, oX12 mmI mmJ mmR)), ((mmR 52), .inl (cI, 22, .inl mm_keptManyF)), ((mmR 53), .inl (cI, 2640, .inl mm_keptRowF))] := hD
  refine W.eq (g2 := F0 m 13 ls [.int r_2]) rfl ?_
  refine lv_if_eq (tgt := 38) hx hb dX12_kept_13 (by decide) (fun c_ => ?_) (fun c_ => ?_)
  · have hf := xq_pos hf c_
    refine lv_iconst (v := (-1)) hx hb dX12_kept_38 (by decide) ?_
    have e9_0 : (-1) = r0 := Option.some.inj hf
    subst e9_0
    exact xq_iret hx hb hr hlocks hK hP hD hS dX12_kept_39
  · have hf := xq_neg hf c_
    refine lv_iload_n hx hb dX12_kept_16 rfl (lv_at hl 2 rfl) ?_
    refine lv_iconst (v := 0) hx hb dX12_kept_17 (by decide) ?_
    refine lv_iconst (v := 2) hx hb dX12_kept_18 (by decide) ?_
    obtain ⟨r_4, h_5, hf⟩ := xq_bd_some hf
    refine xq_callS (As := [.int p2, .int 0, .int 2]) (rest := []) ⟨hx, hb, hml, hown, hts⟩ (kX12_is l dC dI cI cB cJ cZ cM z ad N p2 0 2 h_5) (va_cwS 3 hts gX12_kept_X12_is rfl rfl rfl (by decide +kernel) ⟨Nat.le_of_ble_eq_true rfl, Nat.le_of_ble_eq_true rfl⟩) hN hK hP hD hS hA [] (by decide) rfl rfl rfl hl.1 rfl (Nat.le_of_ble_eq_true rfl) dX12_kept_19 ⟨Nat.zero_le _, Nat.zero_le _⟩ (fun H locs hP hD hS => ?_)
    have hP : va_P (dC, dI) vwCl [(a_p0, .inr (12, oX12 mmI mmJ mmR)), ((mmR 52), .inl (cI, 22, .inl mm_keptManyF)), ((mmR 53), .inl (cI, 2640, .inl mm_keptRowF))] H := hP
    have hD : va_D A [(a_p0, .inr (12, oX12 mmI mmJ mmR)), ((mmR 52), .inl (cI, 22, .inl mm_keptManyF)), ((mmR 53), .inl (cI, 2640, .inl mm_keptRowF))] := hD
    refine W.eq (g2 := F0 m 22 ls [.int r_4]) rfl ?_
    refine lv_if_eq (tgt := 38) hx hb dX12_kept_22 (by decide) (fun c_ => ?_) (fun c_ => ?_)
    · have hf := xq_pos hf c_
      refine lv_iconst (v := (-1)) hx hb dX12_kept_38 (by decide) ?_
      have e9_0 : (-1) = r0 := Option.some.inj hf
      subst e9_0
      exact xq_iret hx hb hr hlocks hK hP hD hS dX12_kept_39
    · have hf := xq_neg hf c_
      refine lv_aload_n hx hb dX12_kept_25 rfl (lv_at hl 0 rfl) ?_
      refine va_get (D := (dC, dI)) (ci := 12) (v := .ref ((mmR 53))) (C := RX12) (T := TX12) (N := 70) hx hb hts hinX12 hown hK hP 0 rfl rfl 53 (by decide) hw2 (fun _ h9 => h9) rfl dX12_kept_26 ?_
      refine lv_iconst (v := 3) hx hb dX12_kept_29 (by decide) ?_
      refine lv_iload_n hx hb dX12_kept_30 rfl (lv_at hl 1 rfl) ?_
      refine lv_imul hx hb dX12_kept_31 ?_
      refine lv_iload_n hx hb dX12_kept_32 rfl (lv_at hl 2 rfl) ?_
      refine lv_iadd hx hb dX12_kept_33 ?_
      refine xq_iald hx hb hK hP 2 0 rfl rfl hf dX12_kept_34 (fun v_6 hf => ?_)
      refine lv_goto (tgt := 39) hx hb dX12_kept_35 (by decide) ?_
      have e9_0 : v_6 = r0 := Option.some.inj hf
      subst e9_0
      exact xq_iret hx hb hr hlocks hK hP hD hS dX12_kept_39
def dsX12_writes_0 : List (Nat × Instr × Nat) := [(0, (.aload_n 0, 1)), (1, (.getfield 219, 3)), (4, (.aload_n 0, 1)), (5, (.getfield 222, 3)), (8, (.iload_n 1, 1)), (9, (.sipush 255, 3)), (12, (.iand, 1)), (13, (.iastore, 1)), (14, (.aload_n 0, 1)), (15, (.dup, 1)), (16, (.getfield 222, 3)), (19, (.iconst 1, 1)), (20, (.iadd, 1)), (21, (.putfield 222, 3)), (24, (.return_, 1))]
theorem dsX12_writes_0_ok : (dsX12_writes_0.all fun q => decide (decode cX12_writes q.1 = .ok q.2)) = true := by decide +kernel
theorem dX12_writes_0 : decode cX12_writes 0 = .ok (.aload_n 0, 1) := of_decide_eq_true (List.all_eq_true.mp dsX12_writes_0_ok (0, (.aload_n 0, 1)) (List.mem_of_getElem? (i := 0) rfl))
theorem dX12_writes_1 : decode cX12_writes 1 = .ok (.getfield 219, 3) := of_decide_eq_true (List.all_eq_true.mp dsX12_writes_0_ok (1, (.getfield 219, 3)) (List.mem_of_getElem? (i := 1) rfl))
theorem dX12_writes_4 : decode cX12_writes 4 = .ok (.aload_n 0, 1) := of_decide_eq_true (List.all_eq_true.mp dsX12_writes_0_ok (4, (.aload_n 0, 1)) (List.mem_of_getElem? (i := 2) rfl))
theorem dX12_writes_5 : decode cX12_writes 5 = .ok (.getfield 222, 3) := of_decide_eq_true (List.all_eq_true.mp dsX12_writes_0_ok (5, (.getfield 222, 3)) (List.mem_of_getElem? (i := 3) rfl))
theorem dX12_writes_8 : decode cX12_writes 8 = .ok (.iload_n 1, 1) := of_decide_eq_true (List.all_eq_true.mp dsX12_writes_0_ok (8, (.iload_n 1, 1)) (List.mem_of_getElem? (i := 4) rfl))
theorem dX12_writes_9 : decode cX12_writes 9 = .ok (.sipush 255, 3) := of_decide_eq_true (List.all_eq_true.mp dsX12_writes_0_ok (9, (.sipush 255, 3)) (List.mem_of_getElem? (i := 5) rfl))
theorem dX12_writes_12 : decode cX12_writes 12 = .ok (.iand, 1) := of_decide_eq_true (List.all_eq_true.mp dsX12_writes_0_ok (12, (.iand, 1)) (List.mem_of_getElem? (i := 6) rfl))
theorem dX12_writes_13 : decode cX12_writes 13 = .ok (.iastore, 1) := of_decide_eq_true (List.all_eq_true.mp dsX12_writes_0_ok (13, (.iastore, 1)) (List.mem_of_getElem? (i := 7) rfl))
theorem dX12_writes_14 : decode cX12_writes 14 = .ok (.aload_n 0, 1) := of_decide_eq_true (List.all_eq_true.mp dsX12_writes_0_ok (14, (.aload_n 0, 1)) (List.mem_of_getElem? (i := 8) rfl))
theorem dX12_writes_15 : decode cX12_writes 15 = .ok (.dup, 1) := of_decide_eq_true (List.all_eq_true.mp dsX12_writes_0_ok (15, (.dup, 1)) (List.mem_of_getElem? (i := 9) rfl))
theorem dX12_writes_16 : decode cX12_writes 16 = .ok (.getfield 222, 3) := of_decide_eq_true (List.all_eq_true.mp dsX12_writes_0_ok (16, (.getfield 222, 3)) (List.mem_of_getElem? (i := 10) rfl))
theorem dX12_writes_19 : decode cX12_writes 19 = .ok (.iconst 1, 1) := of_decide_eq_true (List.all_eq_true.mp dsX12_writes_0_ok (19, (.iconst 1, 1)) (List.mem_of_getElem? (i := 11) rfl))
theorem dX12_writes_20 : decode cX12_writes 20 = .ok (.iadd, 1) := of_decide_eq_true (List.all_eq_true.mp dsX12_writes_0_ok (20, (.iadd, 1)) (List.mem_of_getElem? (i := 12) rfl))
theorem dX12_writes_21 : decode cX12_writes 21 = .ok (.putfield 222, 3) := of_decide_eq_true (List.all_eq_true.mp dsX12_writes_0_ok (21, (.putfield 222, 3)) (List.mem_of_getElem? (i := 13) rfl))
theorem dX12_writes_24 : decode cX12_writes 24 = .ok (.return_, 1) := of_decide_eq_true (List.all_eq_true.mp dsX12_writes_0_ok (24, (.return_, 1)) (List.mem_of_getElem? (i := 14) rfl))
def fX12_writes (N : Nat) (mmI : Nat → Int32) (mm_outF : Nat → Int32)  (p1 : Int32) : Option ((Nat → Int32) × (Nat → Int32)) :=
  (xq_bd (xq_ast 30 mm_outF (mmI 69) (p1 &&& 255)) fun g_1 => some (((va_up mmI 69 ((mmI 69) + 1)), g_1)))
set_option maxHeartbeats 4000000 in
set_option maxRecDepth 100000 in
theorem kX12_writes (l : Launch) (dC : Nat → ClassId) (dI : Nat → Nat → Nat) (cI cB cJ cZ cM : ClassId) (z : Nat) (ad : Nat → Nat) (N : Nat) (a_p0 : Nat) (mmI : Nat → Int32) (mmJ : Nat → Int64) (mmR : Nat → Nat) (mm_outF : Nat → Int32) (p1 : Int32) {r0 : Nat → Int32} {r1 : Nat → Int32} (hf : fX12_writes N mmI mm_outF p1 = some (r0, r1)) : xq_Ct l yX12_writes wsX12_writes { frames := 0, cells := 0, slots := 0, locals := 0 } (dC, dI) vwCl (xq_tys cI cB cJ cZ cM) z ad [.ref a_p0, .int p1] [(a_p0, .inr (12, oX12 mmI mmJ mmR)), ((mmR 68), .inl (cI, 30, .inl mm_outF))] [(a_p0, .inr (12, oX12 r0 mmJ mmR)), ((mmR 68), .inl (cI, 30, .inl r1))] none := by
  intro sz
  refine Met.ofW (cc := cX12_writes) (maxL := 2) (ret := none) (by decide) rfl ?_
  intro p e s m args below meth c s₁ B hml hv
  obtain ⟨rfl, hsz, hP, hK, hD0, hE, hz⟩ := hv
  have hx := B.exec
  have hb := B.bytes
  have hr := B.returns
  have hts := atoms_spec (ws := wsX12_writes) B.pre
  have hown : s.vm.findClass RX12 = some m.cls := findClass_of_methodNamed B.named
  have hlocks := B.notSynchronized
  subst hsz
  have hD := hD0.self (sz := s.heap.size)
  have hN := xq_Env.of hE hz hD0
  generalize hAe : va_A [(a_p0, .inr (12, oX12 mmI mmJ mmR)), ((mmR 68), .inl (cI, 30, .inl mm_outF))] s.heap.size = A at hD hN ⊢
  have hA : ∀ q : Nat, s.heap.size ≤ q → A q := fun q h => by rw [← hAe]; exact Or.inr h
  clear hAe hD0
  have hS : va_S A s.heap s.heap [] := va_S.rf
  have hl := lv_entry ([.ref a_p0, .int p1]) (n := 2) (Nat.le_of_ble_eq_true rfl)
  rw [lg_entry_eq]
  generalize (lg_sl ([.ref a_p0, .int p1]) ++ List.replicate (2 - (lg_sl ([.ref a_p0, .int p1])).length) Slot.unset).toArray = ls at hl ⊢
  have hl : lv_has ls 2 [(0, .ref a_p0), (1, .int p1)] := hl
  have hw0 := hts (.fieldLink RX12 219 "DistantVoiceModel" "out" "[I") (by decide +kernel)
  have hinX12 : ∀ w ∈ wsX120, w ∈ wsX12_writes := fun w h => List.mem_cons_of_mem _ (List.mem_append_right _ h)
  have hw2 := hts (.fieldLink RX12 222 "DistantVoiceModel" "outs" "I") (by decide +kernel)
  unfold fX12_writes at hf
  refine lv_aload_n hx hb dX12_writes_0 rfl (lv_at hl 0 rfl) ?_
  refine va_get (D := (dC, dI)) (ci := 12) (v := .ref ((mmR 68))) (C := RX12) (T := TX12) (N := 70) hx hb hts hinX12 hown hK hP 0 rfl rfl 68 (by decide) hw0 (fun _ h9 => h9) rfl dX12_writes_1 ?_
  refine lv_aload_n hx hb dX12_writes_4 rfl (lv_at hl 0 rfl) ?_
  refine va_get (D := (dC, dI)) (ci := 12) (v := .int (mmI 69)) (C := RX12) (T := TX12) (N := 70) hx hb hts hinX12 hown hK hP 0 rfl rfl 69 (by decide) hw2 (fun _ h9 => h9) rfl dX12_writes_5 ?_
  refine lv_iload_n hx hb dX12_writes_8 rfl (lv_at hl 1 rfl) ?_
  refine lv_sipush (v := 255) hx hb dX12_writes_9 (by decide) ?_
  refine lv_iand hx hb dX12_writes_12 ?_
  refine xq_iast hx hb hK hP hD hS 1 0 rfl rfl hf dX12_writes_13 (fun g_1 H locs hf hP hD hS => ?_)
  have hP : va_P (dC, dI) vwCl [(a_p0, .inr (12, oX12 mmI mmJ mmR)), ((mmR 68), .inl (cI, 30, .inl g_1))] H := hP
  have hD : va_D A [(a_p0, .inr (12, oX12 mmI mmJ mmR)), ((mmR 68), .inl (cI, 30, .inl g_1))] := hD
  refine lv_aload_n hx hb dX12_writes_14 rfl (lv_at hl 0 rfl) ?_
  refine lv_dup hx hb dX12_writes_15 rfl ?_
  refine va_get (D := (dC, dI)) (ci := 12) (v := .int (mmI 69)) (C := RX12) (T := TX12) (N := 70) hx hb hts hinX12 hown hK hP 0 rfl rfl 69 (by decide) hw2 (fun _ h9 => h9) rfl dX12_writes_16 ?_
  refine lv_iconst (v := 1) hx hb dX12_writes_19 (by decide) ?_
  refine lv_iadd hx hb dX12_writes_20 ?_
  refine va_put (D := (dC, dI)) (ci := 12) (v := .int ((mmI 69) + 1)) (ty := .int) (C := RX12) (T := TX12) (N := 70) hx hb hts hinX12 tyX12 tyX12_ok nmX12 hown hK hP hD hS 0 rfl rfl 69 (by decide) hw2 (fun _ h9 => h9) rfl (by decide +kernel) rfl rfl (Nat.le_of_ble_eq_true rfl) dX12_writes_21 (fun H locs hP hD hS => ?_)
  have hP : va_P (dC, dI) vwCl [(a_p0, .inr (12, oX12 (va_up mmI 69 ((mmI 69) + 1)) mmJ mmR)), ((mmR 68), .inl (cI, 30, .inl g_1))] H := hP
  have hD : va_D A [(a_p0, .inr (12, oX12 (va_up mmI 69 ((mmI 69) + 1)) mmJ mmR)), ((mmR 68), .inl (cI, 30, .inl g_1))] := hD
  have e9 := Option.some.inj hf
  have e9_0 : (va_up mmI 69 ((mmI 69) + 1)) = r0 := congrArg (fun t => t.1) e9
  have e9_1 : g_1 = r1 := congrArg (fun t => t.2) e9
  clear e9 hf
  subst e9_0
  subst e9_1
  exact xq_vret hx hb hr hlocks hK hP hD hS dX12_writes_24
set_option maxRecDepth 20000 in
theorem ggX12_writesTwo_X12_writes : GoodIn wsX12_writesTwo wsX12_writes := goodIn_r _ [5, 6, 7, 8, 9, 10, 11, 12, 13, 14, 15, 16, 17, 18, 19, 20, 21, 22, 23, 24, 25, 26, 27, 28, 29, 30, 31, 32, 33, 34, 35, 36, 37, 38, 39, 40, 41, 42, 43, 44, 45, 46, 47, 48, 49, 50, 51, 52, 53, 54, 55, 56, 57, 58, 59, 60, 61, 62, 63, 64, 65, 66, 67, 68, 69, 70, 71, 72, 73, 74, 75, 76, 77] rfl (by decide +kernel)
set_option maxRecDepth 20000 in
theorem gX12_writesTwo_X12_writes : GoodIn wsX12_writesTwo (wsV RX12 506 RX12 yX12_writes wsX12_writes) := goodIn_app (goodIn_of _ (by decide +kernel)) ggX12_writesTwo_X12_writes
def dsX12_writesTwo_0 : List (Nat × Instr × Nat) := [(0, (.aload_n 0, 1)), (1, (.iload_n 1, 1)), (2, (.bipush 8, 2)), (4, (.ishr, 1)), (5, (.invokevirtual 506, 3)), (8, (.aload_n 0, 1)), (9, (.iload_n 1, 1)), (10, (.invokevirtual 506, 3)), (13, (.return_, 1))]
theorem dsX12_writesTwo_0_ok : (dsX12_writesTwo_0.all fun q => decide (decode cX12_writesTwo q.1 = .ok q.2)) = true := by decide +kernel
theorem dX12_writesTwo_0 : decode cX12_writesTwo 0 = .ok (.aload_n 0, 1) := of_decide_eq_true (List.all_eq_true.mp dsX12_writesTwo_0_ok (0, (.aload_n 0, 1)) (List.mem_of_getElem? (i := 0) rfl))
theorem dX12_writesTwo_1 : decode cX12_writesTwo 1 = .ok (.iload_n 1, 1) := of_decide_eq_true (List.all_eq_true.mp dsX12_writesTwo_0_ok (1, (.iload_n 1, 1)) (List.mem_of_getElem? (i := 1) rfl))
theorem dX12_writesTwo_2 : decode cX12_writesTwo 2 = .ok (.bipush 8, 2) := of_decide_eq_true (List.all_eq_true.mp dsX12_writesTwo_0_ok (2, (.bipush 8, 2)) (List.mem_of_getElem? (i := 2) rfl))
theorem dX12_writesTwo_4 : decode cX12_writesTwo 4 = .ok (.ishr, 1) := of_decide_eq_true (List.all_eq_true.mp dsX12_writesTwo_0_ok (4, (.ishr, 1)) (List.mem_of_getElem? (i := 3) rfl))
theorem dX12_writesTwo_5 : decode cX12_writesTwo 5 = .ok (.invokevirtual 506, 3) := of_decide_eq_true (List.all_eq_true.mp dsX12_writesTwo_0_ok (5, (.invokevirtual 506, 3)) (List.mem_of_getElem? (i := 4) rfl))
theorem dX12_writesTwo_8 : decode cX12_writesTwo 8 = .ok (.aload_n 0, 1) := of_decide_eq_true (List.all_eq_true.mp dsX12_writesTwo_0_ok (8, (.aload_n 0, 1)) (List.mem_of_getElem? (i := 5) rfl))
theorem dX12_writesTwo_9 : decode cX12_writesTwo 9 = .ok (.iload_n 1, 1) := of_decide_eq_true (List.all_eq_true.mp dsX12_writesTwo_0_ok (9, (.iload_n 1, 1)) (List.mem_of_getElem? (i := 6) rfl))
theorem dX12_writesTwo_10 : decode cX12_writesTwo 10 = .ok (.invokevirtual 506, 3) := of_decide_eq_true (List.all_eq_true.mp dsX12_writesTwo_0_ok (10, (.invokevirtual 506, 3)) (List.mem_of_getElem? (i := 7) rfl))
theorem dX12_writesTwo_13 : decode cX12_writesTwo 13 = .ok (.return_, 1) := of_decide_eq_true (List.all_eq_true.mp dsX12_writesTwo_0_ok (13, (.return_, 1)) (List.mem_of_getElem? (i := 8) rfl))
def fX12_writesTwo (N : Nat) (mmI : Nat → Int32) (mm_outF : Nat → Int32)  (p1 : Int32) : Option ((Nat → Int32) × (Nat → Int32)) :=
  (xq_bd (fX12_writes N mmI mm_outF (p1 >>> (8 &&& 31))) fun (r_1_0, r_1_1) => (xq_bd (fX12_writes N r_1_0 r_1_1 p1) fun (r_3_0, r_3_1) => some ((r_3_0, r_3_1))))
set_option maxHeartbeats 4000000 in
set_option maxRecDepth 100000 in
theorem kX12_writesTwo (l : Launch) (dC : Nat → ClassId) (dI : Nat → Nat → Nat) (cI cB cJ cZ cM : ClassId) (z : Nat) (ad : Nat → Nat) (N : Nat) (a_p0 : Nat) (mmI : Nat → Int32) (mmJ : Nat → Int64) (mmR : Nat → Nat) (mm_outF : Nat → Int32) (p1 : Int32) {r0 : Nat → Int32} {r1 : Nat → Int32} (hf : fX12_writesTwo N mmI mm_outF p1 = some (r0, r1)) : xq_Ct l yX12_writesTwo wsX12_writesTwo { frames := 1, cells := 0, slots := 0, locals := 21 } (dC, dI) vwCl (xq_tys cI cB cJ cZ cM) z ad [.ref a_p0, .int p1] [(a_p0, .inr (12, oX12 mmI mmJ mmR)), ((mmR 68), .inl (cI, 30, .inl mm_outF))] [(a_p0, .inr (12, oX12 r0 mmJ mmR)), ((mmR 68), .inl (cI, 30, .inl r1))] none := by
  intro sz
  refine Met.ofW (cc := cX12_writesTwo) (maxL := 2) (ret := none) (by decide) rfl ?_
  intro p e s m args below meth c s₁ B hml hv
  obtain ⟨rfl, hsz, hP, hK, hD0, hE, hz⟩ := hv
  have hx := B.exec
  have hb := B.bytes
  have hr := B.returns
  have hts := atoms_spec (ws := wsX12_writesTwo) B.pre
  have hown : s.vm.findClass RX12 = some m.cls := findClass_of_methodNamed B.named
  have hlocks := B.notSynchronized
  subst hsz
  have hD := hD0.self (sz := s.heap.size)
  have hN := xq_Env.of hE hz hD0
  generalize hAe : va_A [(a_p0, .inr (12, oX12 mmI mmJ mmR)), ((mmR 68), .inl (cI, 30, .inl mm_outF))] s.heap.size = A at hD hN ⊢
  have hA : ∀ q : Nat, s.heap.size ≤ q → A q := fun q h => by rw [← hAe]; exact Or.inr h
  clear hAe hD0
  have hS : va_S A s.heap s.heap [] := va_S.rf
  have hl := lv_entry ([.ref a_p0, .int p1]) (n := 2) (Nat.le_of_ble_eq_true rfl)
  rw [lg_entry_eq]
  generalize (lg_sl ([.ref a_p0, .int p1]) ++ List.replicate (2 - (lg_sl ([.ref a_p0, .int p1])).length) Slot.unset).toArray = ls at hl ⊢
  have hl : lv_has ls 2 [(0, .ref a_p0), (1, .int p1)] := hl
  unfold fX12_writesTwo at hf
  refine lv_aload_n hx hb dX12_writesTwo_0 rfl (lv_at hl 0 rfl) ?_
  refine lv_iload_n hx hb dX12_writesTwo_1 rfl (lv_at hl 1 rfl) ?_
  refine lv_bipush (v := 8) hx hb dX12_writesTwo_2 (by decide) ?_
  refine lv_ishr hx hb dX12_writesTwo_4 ?_
  obtain ⟨⟨r_1_0, r_1_1⟩, h_2, hf⟩ := xq_bd_some hf
  refine xq_callV (As := [.int (p1 >>> (8 &&& 31))]) (rest := []) (ci := 12) (q0 := 0) ⟨hx, hb, hml, hown, hts⟩ (kX12_writes l dC dI cI cB cJ cZ cM z ad N a_p0 mmI mmJ mmR mm_outF (p1 >>> (8 &&& 31)) h_2) (cwV 1 hts gX12_writesTwo_X12_writes rfl rfl rfl (by decide +kernel) ⟨Nat.le_of_ble_eq_true rfl, Nat.le_of_ble_eq_true rfl⟩) hN hK hP hD hS hA [0, 1] (by decide) rfl rfl rfl rfl rfl rfl hl.1 rfl (Nat.le_of_ble_eq_true rfl) dX12_writesTwo_5 ⟨Nat.zero_le _, Nat.zero_le _⟩ (fun H locs hP hD hS => ?_)
  have hP : va_P (dC, dI) vwCl [(a_p0, .inr (12, oX12 r_1_0 mmJ mmR)), ((mmR 68), .inl (cI, 30, .inl r_1_1))] H := hP
  have hD : va_D A [(a_p0, .inr (12, oX12 r_1_0 mmJ mmR)), ((mmR 68), .inl (cI, 30, .inl r_1_1))] := hD
  refine W.eq (g2 := F0 m 8 ls []) rfl ?_
  refine lv_aload_n hx hb dX12_writesTwo_8 rfl (lv_at hl 0 rfl) ?_
  refine lv_iload_n hx hb dX12_writesTwo_9 rfl (lv_at hl 1 rfl) ?_
  obtain ⟨⟨r_3_0, r_3_1⟩, h_4, hf⟩ := xq_bd_some hf
  refine xq_callV (As := [.int p1]) (rest := []) (ci := 12) (q0 := 0) ⟨hx, hb, hml, hown, hts⟩ (kX12_writes l dC dI cI cB cJ cZ cM z ad N a_p0 r_1_0 mmJ mmR r_1_1 p1 h_4) (cwV 1 hts gX12_writesTwo_X12_writes rfl rfl rfl (by decide +kernel) ⟨Nat.le_of_ble_eq_true rfl, Nat.le_of_ble_eq_true rfl⟩) hN hK hP hD hS hA [0, 1] (by decide) rfl rfl rfl rfl rfl rfl hl.1 rfl (Nat.le_of_ble_eq_true rfl) dX12_writesTwo_10 ⟨Nat.zero_le _, Nat.zero_le _⟩ (fun H locs hP hD hS => ?_)
  have hP : va_P (dC, dI) vwCl [(a_p0, .inr (12, oX12 r_3_0 mmJ mmR)), ((mmR 68), .inl (cI, 30, .inl r_3_1))] H := hP
  have hD : va_D A [(a_p0, .inr (12, oX12 r_3_0 mmJ mmR)), ((mmR 68), .inl (cI, 30, .inl r_3_1))] := hD
  refine W.eq (g2 := F0 m 13 ls []) rfl ?_
  have e9 := Option.some.inj hf
  have e9_0 : r_3_0 = r0 := congrArg (fun t => t.1) e9
  have e9_1 : r_3_1 = r1 := congrArg (fun t => t.2) e9
  clear e9 hf
  subst e9_0
  subst e9_1
  exact xq_vret hx hb hr hlocks hK hP hD hS dX12_writesTwo_13
set_option maxRecDepth 20000 in
theorem ggX12_image_X12_writesTwo : GoodIn wsX12_image wsX12_writesTwo := goodIn_r _ [17, 18, 19, 20, 16, 21, 12, 1, 22, 23, 24, 25, 26, 27, 28, 29, 30, 31, 32, 33, 34, 35, 36, 37, 38, 39, 40, 41, 42, 43, 44, 45, 46, 47, 48, 49, 50, 51, 52, 53, 54, 55, 56, 57, 58, 59, 60, 61, 62, 63, 64, 65, 66, 67, 68, 69, 70, 71, 72, 73, 74, 75, 76, 77, 78, 79, 80, 81, 82, 83, 84, 85, 86, 87, 88, 89, 90, 91] rfl (by decide +kernel)
set_option maxRecDepth 20000 in
theorem gX12_image_X12_writesTwo : GoodIn wsX12_image (wsV RX12 509 RX12 yX12_writesTwo wsX12_writesTwo) := goodIn_app (goodIn_of _ (by decide +kernel)) ggX12_image_X12_writesTwo
set_option maxRecDepth 20000 in
theorem ggX12_image_X12_writes : GoodIn wsX12_image wsX12_writes := goodIn_r _ [21, 12, 1, 22, 23, 24, 25, 26, 27, 28, 29, 30, 31, 32, 33, 34, 35, 36, 37, 38, 39, 40, 41, 42, 43, 44, 45, 46, 47, 48, 49, 50, 51, 52, 53, 54, 55, 56, 57, 58, 59, 60, 61, 62, 63, 64, 65, 66, 67, 68, 69, 70, 71, 72, 73, 74, 75, 76, 77, 78, 79, 80, 81, 82, 83, 84, 85, 86, 87, 88, 89, 90, 91] rfl (by decide +kernel)
set_option maxRecDepth 20000 in
theorem gX12_image_X12_writes : GoodIn wsX12_image (wsV RX12 506 RX12 yX12_writes wsX12_writes) := goodIn_app (goodIn_of _ (by decide +kernel)) ggX12_image_X12_writes
def dsX12_image_0 : List (Nat × Instr × Nat) := [(0, (.aload_n 0, 1)), (1, (.iconst 0, 1)), (2, (.putfield 222, 3)), (5, (.aload_n 0, 1)), (6, (.aload_n 0, 1)), (7, (.getfield 150, 3)), (10, (.iconst 0, 1)), (11, (.iaload, 1)), (12, (.invokevirtual 509, 3)), (15, (.aload_n 0, 1)), (16, (.aload_n 0, 1)), (17, (.getfield 153, 3)), (20, (.iconst 0, 1)), (21, (.iaload, 1)), (22, (.invokevirtual 509, 3)), (25, (.aload_n 0, 1)), (26, (.aload_n 0, 1)), (27, (.getfield 156, 3)), (30, (.iconst 0, 1)), (31, (.iaload, 1)), (32, (.invokevirtual 509, 3)), (35, (.aload_n 0, 1)), (36, (.aload_n 0, 1)), (37, (.getfield 159, 3)), (40, (.iconst 0, 1)), (41, (.iaload, 1)), (42, (.invokevirtual 506, 3)), (45, (.aload_n 0, 1)), (46, (.aload_n 0, 1)), (47, (.getfield 162, 3)), (50, (.iconst 0, 1)), (51, (.iaload, 1)), (52, (.invokevirtual 506, 3)), (55, (.iconst 0, 1)), (56, (.istore_n 1, 1)), (57, (.iload_n 1, 1)), (58, (.aload_n 0, 1)), (59, (.getfield 66, 3)), (62, (.aload_n 0, 1)), (63, (.getfield 51, 3)), (66, (.iaload, 1)), (67, (.if_icmp .ge 19, 3)), (70, (.aload_n 0, 1)), (71, (.aload_n 0, 1)), (72, (.getfield 165, 3)), (75, (.iload_n 1, 1)), (76, (.iaload, 1)), (77, (.invokevirtual 506, 3)), (80, (.iinc 1 1, 3)), (83, (.goto (-26), 3)), (86, (.iconst 0, 1)), (87, (.istore_n 1, 1)), (88, (.iload_n 1, 1)), (89, (.aload_n 0, 1)), (90, (.getfield 75, 3)), (93, (.aload_n 0, 1)), (94, (.getfield 51, 3)), (97, (.iaload, 1)), (98, (.if_icmp .ge 19, 3)), (101, (.aload_n 0, 1))]
theorem dsX12_image_0_ok : (dsX12_image_0.all fun q => decide (decode cX12_image q.1 = .ok q.2)) = true := by decide +kernel
theorem dX12_image_0 : decode cX12_image 0 = .ok (.aload_n 0, 1) := of_decide_eq_true (List.all_eq_true.mp dsX12_image_0_ok (0, (.aload_n 0, 1)) (List.mem_of_getElem? (i := 0) rfl))
theorem dX12_image_1 : decode cX12_image 1 = .ok (.iconst 0, 1) := of_decide_eq_true (List.all_eq_true.mp dsX12_image_0_ok (1, (.iconst 0, 1)) (List.mem_of_getElem? (i := 1) rfl))
theorem dX12_image_2 : decode cX12_image 2 = .ok (.putfield 222, 3) := of_decide_eq_true (List.all_eq_true.mp dsX12_image_0_ok (2, (.putfield 222, 3)) (List.mem_of_getElem? (i := 2) rfl))
theorem dX12_image_5 : decode cX12_image 5 = .ok (.aload_n 0, 1) := of_decide_eq_true (List.all_eq_true.mp dsX12_image_0_ok (5, (.aload_n 0, 1)) (List.mem_of_getElem? (i := 3) rfl))
theorem dX12_image_6 : decode cX12_image 6 = .ok (.aload_n 0, 1) := of_decide_eq_true (List.all_eq_true.mp dsX12_image_0_ok (6, (.aload_n 0, 1)) (List.mem_of_getElem? (i := 4) rfl))
theorem dX12_image_7 : decode cX12_image 7 = .ok (.getfield 150, 3) := of_decide_eq_true (List.all_eq_true.mp dsX12_image_0_ok (7, (.getfield 150, 3)) (List.mem_of_getElem? (i := 5) rfl))
theorem dX12_image_10 : decode cX12_image 10 = .ok (.iconst 0, 1) := of_decide_eq_true (List.all_eq_true.mp dsX12_image_0_ok (10, (.iconst 0, 1)) (List.mem_of_getElem? (i := 6) rfl))
theorem dX12_image_11 : decode cX12_image 11 = .ok (.iaload, 1) := of_decide_eq_true (List.all_eq_true.mp dsX12_image_0_ok (11, (.iaload, 1)) (List.mem_of_getElem? (i := 7) rfl))
theorem dX12_image_12 : decode cX12_image 12 = .ok (.invokevirtual 509, 3) := of_decide_eq_true (List.all_eq_true.mp dsX12_image_0_ok (12, (.invokevirtual 509, 3)) (List.mem_of_getElem? (i := 8) rfl))
theorem dX12_image_15 : decode cX12_image 15 = .ok (.aload_n 0, 1) := of_decide_eq_true (List.all_eq_true.mp dsX12_image_0_ok (15, (.aload_n 0, 1)) (List.mem_of_getElem? (i := 9) rfl))
theorem dX12_image_16 : decode cX12_image 16 = .ok (.aload_n 0, 1) := of_decide_eq_true (List.all_eq_true.mp dsX12_image_0_ok (16, (.aload_n 0, 1)) (List.mem_of_getElem? (i := 10) rfl))
theorem dX12_image_17 : decode cX12_image 17 = .ok (.getfield 153, 3) := of_decide_eq_true (List.all_eq_true.mp dsX12_image_0_ok (17, (.getfield 153, 3)) (List.mem_of_getElem? (i := 11) rfl))
theorem dX12_image_20 : decode cX12_image 20 = .ok (.iconst 0, 1) := of_decide_eq_true (List.all_eq_true.mp dsX12_image_0_ok (20, (.iconst 0, 1)) (List.mem_of_getElem? (i := 12) rfl))
theorem dX12_image_21 : decode cX12_image 21 = .ok (.iaload, 1) := of_decide_eq_true (List.all_eq_true.mp dsX12_image_0_ok (21, (.iaload, 1)) (List.mem_of_getElem? (i := 13) rfl))
theorem dX12_image_22 : decode cX12_image 22 = .ok (.invokevirtual 509, 3) := of_decide_eq_true (List.all_eq_true.mp dsX12_image_0_ok (22, (.invokevirtual 509, 3)) (List.mem_of_getElem? (i := 14) rfl))
theorem dX12_image_25 : decode cX12_image 25 = .ok (.aload_n 0, 1) := of_decide_eq_true (List.all_eq_true.mp dsX12_image_0_ok (25, (.aload_n 0, 1)) (List.mem_of_getElem? (i := 15) rfl))
theorem dX12_image_26 : decode cX12_image 26 = .ok (.aload_n 0, 1) := of_decide_eq_true (List.all_eq_true.mp dsX12_image_0_ok (26, (.aload_n 0, 1)) (List.mem_of_getElem? (i := 16) rfl))
theorem dX12_image_27 : decode cX12_image 27 = .ok (.getfield 156, 3) := of_decide_eq_true (List.all_eq_true.mp dsX12_image_0_ok (27, (.getfield 156, 3)) (List.mem_of_getElem? (i := 17) rfl))
theorem dX12_image_30 : decode cX12_image 30 = .ok (.iconst 0, 1) := of_decide_eq_true (List.all_eq_true.mp dsX12_image_0_ok (30, (.iconst 0, 1)) (List.mem_of_getElem? (i := 18) rfl))
theorem dX12_image_31 : decode cX12_image 31 = .ok (.iaload, 1) := of_decide_eq_true (List.all_eq_true.mp dsX12_image_0_ok (31, (.iaload, 1)) (List.mem_of_getElem? (i := 19) rfl))
theorem dX12_image_32 : decode cX12_image 32 = .ok (.invokevirtual 509, 3) := of_decide_eq_true (List.all_eq_true.mp dsX12_image_0_ok (32, (.invokevirtual 509, 3)) (List.mem_of_getElem? (i := 20) rfl))
theorem dX12_image_35 : decode cX12_image 35 = .ok (.aload_n 0, 1) := of_decide_eq_true (List.all_eq_true.mp dsX12_image_0_ok (35, (.aload_n 0, 1)) (List.mem_of_getElem? (i := 21) rfl))
theorem dX12_image_36 : decode cX12_image 36 = .ok (.aload_n 0, 1) := of_decide_eq_true (List.all_eq_true.mp dsX12_image_0_ok (36, (.aload_n 0, 1)) (List.mem_of_getElem? (i := 22) rfl))
theorem dX12_image_37 : decode cX12_image 37 = .ok (.getfield 159, 3) := of_decide_eq_true (List.all_eq_true.mp dsX12_image_0_ok (37, (.getfield 159, 3)) (List.mem_of_getElem? (i := 23) rfl))
theorem dX12_image_40 : decode cX12_image 40 = .ok (.iconst 0, 1) := of_decide_eq_true (List.all_eq_true.mp dsX12_image_0_ok (40, (.iconst 0, 1)) (List.mem_of_getElem? (i := 24) rfl))
theorem dX12_image_41 : decode cX12_image 41 = .ok (.iaload, 1) := of_decide_eq_true (List.all_eq_true.mp dsX12_image_0_ok (41, (.iaload, 1)) (List.mem_of_getElem? (i := 25) rfl))
theorem dX12_image_42 : decode cX12_image 42 = .ok (.invokevirtual 506, 3) := of_decide_eq_true (List.all_eq_true.mp dsX12_image_0_ok (42, (.invokevirtual 506, 3)) (List.mem_of_getElem? (i := 26) rfl))
theorem dX12_image_45 : decode cX12_image 45 = .ok (.aload_n 0, 1) := of_decide_eq_true (List.all_eq_true.mp dsX12_image_0_ok (45, (.aload_n 0, 1)) (List.mem_of_getElem? (i := 27) rfl))
theorem dX12_image_46 : decode cX12_image 46 = .ok (.aload_n 0, 1) := of_decide_eq_true (List.all_eq_true.mp dsX12_image_0_ok (46, (.aload_n 0, 1)) (List.mem_of_getElem? (i := 28) rfl))
theorem dX12_image_47 : decode cX12_image 47 = .ok (.getfield 162, 3) := of_decide_eq_true (List.all_eq_true.mp dsX12_image_0_ok (47, (.getfield 162, 3)) (List.mem_of_getElem? (i := 29) rfl))
theorem dX12_image_50 : decode cX12_image 50 = .ok (.iconst 0, 1) := of_decide_eq_true (List.all_eq_true.mp dsX12_image_0_ok (50, (.iconst 0, 1)) (List.mem_of_getElem? (i := 30) rfl))
theorem dX12_image_51 : decode cX12_image 51 = .ok (.iaload, 1) := of_decide_eq_true (List.all_eq_true.mp dsX12_image_0_ok (51, (.iaload, 1)) (List.mem_of_getElem? (i := 31) rfl))
theorem dX12_image_52 : decode cX12_image 52 = .ok (.invokevirtual 506, 3) := of_decide_eq_true (List.all_eq_true.mp dsX12_image_0_ok (52, (.invokevirtual 506, 3)) (List.mem_of_getElem? (i := 32) rfl))
theorem dX12_image_55 : decode cX12_image 55 = .ok (.iconst 0, 1) := of_decide_eq_true (List.all_eq_true.mp dsX12_image_0_ok (55, (.iconst 0, 1)) (List.mem_of_getElem? (i := 33) rfl))
theorem dX12_image_56 : decode cX12_image 56 = .ok (.istore_n 1, 1) := of_decide_eq_true (List.all_eq_true.mp dsX12_image_0_ok (56, (.istore_n 1, 1)) (List.mem_of_getElem? (i := 34) rfl))
theorem dX12_image_57 : decode cX12_image 57 = .ok (.iload_n 1, 1) := of_decide_eq_true (List.all_eq_true.mp dsX12_image_0_ok (57, (.iload_n 1, 1)) (List.mem_of_getElem? (i := 35) rfl))
theorem dX12_image_58 : decode cX12_image 58 = .ok (.aload_n 0, 1) := of_decide_eq_true (List.all_eq_true.mp dsX12_image_0_ok (58, (.aload_n 0, 1)) (List.mem_of_getElem? (i := 36) rfl))
theorem dX12_image_59 : decode cX12_image 59 = .ok (.getfield 66, 3) := of_decide_eq_true (List.all_eq_true.mp dsX12_image_0_ok (59, (.getfield 66, 3)) (List.mem_of_getElem? (i := 37) rfl))
theorem dX12_image_62 : decode cX12_image 62 = .ok (.aload_n 0, 1) := of_decide_eq_true (List.all_eq_true.mp dsX12_image_0_ok (62, (.aload_n 0, 1)) (List.mem_of_getElem? (i := 38) rfl))
theorem dX12_image_63 : decode cX12_image 63 = .ok (.getfield 51, 3) := of_decide_eq_true (List.all_eq_true.mp dsX12_image_0_ok (63, (.getfield 51, 3)) (List.mem_of_getElem? (i := 39) rfl))
theorem dX12_image_66 : decode cX12_image 66 = .ok (.iaload, 1) := of_decide_eq_true (List.all_eq_true.mp dsX12_image_0_ok (66, (.iaload, 1)) (List.mem_of_getElem? (i := 40) rfl))
theorem dX12_image_67 : decode cX12_image 67 = .ok (.if_icmp .ge 19, 3) := of_decide_eq_true (List.all_eq_true.mp dsX12_image_0_ok (67, (.if_icmp .ge 19, 3)) (List.mem_of_getElem? (i := 41) rfl))
theorem dX12_image_70 : decode cX12_image 70 = .ok (.aload_n 0, 1) := of_decide_eq_true (List.all_eq_true.mp dsX12_image_0_ok (70, (.aload_n 0, 1)) (List.mem_of_getElem? (i := 42) rfl))
theorem dX12_image_71 : decode cX12_image 71 = .ok (.aload_n 0, 1) := of_decide_eq_true (List.all_eq_true.mp dsX12_image_0_ok (71, (.aload_n 0, 1)) (List.mem_of_getElem? (i := 43) rfl))
theorem dX12_image_72 : decode cX12_image 72 = .ok (.getfield 165, 3) := of_decide_eq_true (List.all_eq_true.mp dsX12_image_0_ok (72, (.getfield 165, 3)) (List.mem_of_getElem? (i := 44) rfl))
theorem dX12_image_75 : decode cX12_image 75 = .ok (.iload_n 1, 1) := of_decide_eq_true (List.all_eq_true.mp dsX12_image_0_ok (75, (.iload_n 1, 1)) (List.mem_of_getElem? (i := 45) rfl))
theorem dX12_image_76 : decode cX12_image 76 = .ok (.iaload, 1) := of_decide_eq_true (List.all_eq_true.mp dsX12_image_0_ok (76, (.iaload, 1)) (List.mem_of_getElem? (i := 46) rfl))
theorem dX12_image_77 : decode cX12_image 77 = .ok (.invokevirtual 506, 3) := of_decide_eq_true (List.all_eq_true.mp dsX12_image_0_ok (77, (.invokevirtual 506, 3)) (List.mem_of_getElem? (i := 47) rfl))
theorem dX12_image_80 : decode cX12_image 80 = .ok (.iinc 1 1, 3) := of_decide_eq_true (List.all_eq_true.mp dsX12_image_0_ok (80, (.iinc 1 1, 3)) (List.mem_of_getElem? (i := 48) rfl))
theorem dX12_image_83 : decode cX12_image 83 = .ok (.goto (-26), 3) := of_decide_eq_true (List.all_eq_true.mp dsX12_image_0_ok (83, (.goto (-26), 3)) (List.mem_of_getElem? (i := 49) rfl))
theorem dX12_image_86 : decode cX12_image 86 = .ok (.iconst 0, 1) := of_decide_eq_true (List.all_eq_true.mp dsX12_image_0_ok (86, (.iconst 0, 1)) (List.mem_of_getElem? (i := 50) rfl))
theorem dX12_image_87 : decode cX12_image 87 = .ok (.istore_n 1, 1) := of_decide_eq_true (List.all_eq_true.mp dsX12_image_0_ok (87, (.istore_n 1, 1)) (List.mem_of_getElem? (i := 51) rfl))
theorem dX12_image_88 : decode cX12_image 88 = .ok (.iload_n 1, 1) := of_decide_eq_true (List.all_eq_true.mp dsX12_image_0_ok (88, (.iload_n 1, 1)) (List.mem_of_getElem? (i := 52) rfl))
theorem dX12_image_89 : decode cX12_image 89 = .ok (.aload_n 0, 1) := of_decide_eq_true (List.all_eq_true.mp dsX12_image_0_ok (89, (.aload_n 0, 1)) (List.mem_of_getElem? (i := 53) rfl))
theorem dX12_image_90 : decode cX12_image 90 = .ok (.getfield 75, 3) := of_decide_eq_true (List.all_eq_true.mp dsX12_image_0_ok (90, (.getfield 75, 3)) (List.mem_of_getElem? (i := 54) rfl))
theorem dX12_image_93 : decode cX12_image 93 = .ok (.aload_n 0, 1) := of_decide_eq_true (List.all_eq_true.mp dsX12_image_0_ok (93, (.aload_n 0, 1)) (List.mem_of_getElem? (i := 55) rfl))
theorem dX12_image_94 : decode cX12_image 94 = .ok (.getfield 51, 3) := of_decide_eq_true (List.all_eq_true.mp dsX12_image_0_ok (94, (.getfield 51, 3)) (List.mem_of_getElem? (i := 56) rfl))
theorem dX12_image_97 : decode cX12_image 97 = .ok (.iaload, 1) := of_decide_eq_true (List.all_eq_true.mp dsX12_image_0_ok (97, (.iaload, 1)) (List.mem_of_getElem? (i := 57) rfl))
theorem dX12_image_98 : decode cX12_image 98 = .ok (.if_icmp .ge 19, 3) := of_decide_eq_true (List.all_eq_true.mp dsX12_image_0_ok (98, (.if_icmp .ge 19, 3)) (List.mem_of_getElem? (i := 58) rfl))
theorem dX12_image_101 : decode cX12_image 101 = .ok (.aload_n 0, 1) := of_decide_eq_true (List.all_eq_true.mp dsX12_image_0_ok (101, (.aload_n 0, 1)) (List.mem_of_getElem? (i := 59) rfl))
def dsX12_image_1 : List (Nat × Instr × Nat) := [(102, (.aload_n 0, 1)), (103, (.getfield 168, 3)), (106, (.iload_n 1, 1)), (107, (.iaload, 1)), (108, (.invokevirtual 506, 3)), (111, (.iinc 1 1, 3)), (114, (.goto (-26), 3)), (117, (.sipush 239, 3)), (120, (.istore_n 1, 1)), (121, (.iconst 0, 1)), (122, (.istore_n 2, 1)), (123, (.iload_n 2, 1)), (124, (.aload_n 0, 1)), (125, (.getfield 222, 3)), (128, (.if_icmp .ge 24, 3)), (131, (.iconst 5, 1)), (132, (.iload_n 1, 1)), (133, (.imul, 1)), (134, (.aload_n 0, 1)), (135, (.getfield 219, 3)), (138, (.iload_n 2, 1)), (139, (.iaload, 1)), (140, (.iadd, 1)), (141, (.sipush 251, 3)), (144, (.irem, 1)), (145, (.istore_n 1, 1)), (146, (.iinc 2 1, 3)), (149, (.goto (-26), 3)), (152, (.aload_n 0, 1)), (153, (.iload_n 1, 1)), (154, (.invokevirtual 506, 3)), (157, (.aload_n 0, 1)), (158, (.getfield 222, 3)), (161, (.ireturn, 1))]
theorem dsX12_image_1_ok : (dsX12_image_1.all fun q => decide (decode cX12_image q.1 = .ok q.2)) = true := by decide +kernel
theorem dX12_image_102 : decode cX12_image 102 = .ok (.aload_n 0, 1) := of_decide_eq_true (List.all_eq_true.mp dsX12_image_1_ok (102, (.aload_n 0, 1)) (List.mem_of_getElem? (i := 0) rfl))
theorem dX12_image_103 : decode cX12_image 103 = .ok (.getfield 168, 3) := of_decide_eq_true (List.all_eq_true.mp dsX12_image_1_ok (103, (.getfield 168, 3)) (List.mem_of_getElem? (i := 1) rfl))
theorem dX12_image_106 : decode cX12_image 106 = .ok (.iload_n 1, 1) := of_decide_eq_true (List.all_eq_true.mp dsX12_image_1_ok (106, (.iload_n 1, 1)) (List.mem_of_getElem? (i := 2) rfl))
theorem dX12_image_107 : decode cX12_image 107 = .ok (.iaload, 1) := of_decide_eq_true (List.all_eq_true.mp dsX12_image_1_ok (107, (.iaload, 1)) (List.mem_of_getElem? (i := 3) rfl))
theorem dX12_image_108 : decode cX12_image 108 = .ok (.invokevirtual 506, 3) := of_decide_eq_true (List.all_eq_true.mp dsX12_image_1_ok (108, (.invokevirtual 506, 3)) (List.mem_of_getElem? (i := 4) rfl))
theorem dX12_image_111 : decode cX12_image 111 = .ok (.iinc 1 1, 3) := of_decide_eq_true (List.all_eq_true.mp dsX12_image_1_ok (111, (.iinc 1 1, 3)) (List.mem_of_getElem? (i := 5) rfl))
theorem dX12_image_114 : decode cX12_image 114 = .ok (.goto (-26), 3) := of_decide_eq_true (List.all_eq_true.mp dsX12_image_1_ok (114, (.goto (-26), 3)) (List.mem_of_getElem? (i := 6) rfl))
theorem dX12_image_117 : decode cX12_image 117 = .ok (.sipush 239, 3) := of_decide_eq_true (List.all_eq_true.mp dsX12_image_1_ok (117, (.sipush 239, 3)) (List.mem_of_getElem? (i := 7) rfl))
theorem dX12_image_120 : decode cX12_image 120 = .ok (.istore_n 1, 1) := of_decide_eq_true (List.all_eq_true.mp dsX12_image_1_ok (120, (.istore_n 1, 1)) (List.mem_of_getElem? (i := 8) rfl))
theorem dX12_image_121 : decode cX12_image 121 = .ok (.iconst 0, 1) := of_decide_eq_true (List.all_eq_true.mp dsX12_image_1_ok (121, (.iconst 0, 1)) (List.mem_of_getElem? (i := 9) rfl))
theorem dX12_image_122 : decode cX12_image 122 = .ok (.istore_n 2, 1) := of_decide_eq_true (List.all_eq_true.mp dsX12_image_1_ok (122, (.istore_n 2, 1)) (List.mem_of_getElem? (i := 10) rfl))
theorem dX12_image_123 : decode cX12_image 123 = .ok (.iload_n 2, 1) := of_decide_eq_true (List.all_eq_true.mp dsX12_image_1_ok (123, (.iload_n 2, 1)) (List.mem_of_getElem? (i := 11) rfl))
theorem dX12_image_124 : decode cX12_image 124 = .ok (.aload_n 0, 1) := of_decide_eq_true (List.all_eq_true.mp dsX12_image_1_ok (124, (.aload_n 0, 1)) (List.mem_of_getElem? (i := 12) rfl))
theorem dX12_image_125 : decode cX12_image 125 = .ok (.getfield 222, 3) := of_decide_eq_true (List.all_eq_true.mp dsX12_image_1_ok (125, (.getfield 222, 3)) (List.mem_of_getElem? (i := 13) rfl))
theorem dX12_image_128 : decode cX12_image 128 = .ok (.if_icmp .ge 24, 3) := of_decide_eq_true (List.all_eq_true.mp dsX12_image_1_ok (128, (.if_icmp .ge 24, 3)) (List.mem_of_getElem? (i := 14) rfl))
theorem dX12_image_131 : decode cX12_image 131 = .ok (.iconst 5, 1) := of_decide_eq_true (List.all_eq_true.mp dsX12_image_1_ok (131, (.iconst 5, 1)) (List.mem_of_getElem? (i := 15) rfl))
theorem dX12_image_132 : decode cX12_image 132 = .ok (.iload_n 1, 1) := of_decide_eq_true (List.all_eq_true.mp dsX12_image_1_ok (132, (.iload_n 1, 1)) (List.mem_of_getElem? (i := 16) rfl))
theorem dX12_image_133 : decode cX12_image 133 = .ok (.imul, 1) := of_decide_eq_true (List.all_eq_true.mp dsX12_image_1_ok (133, (.imul, 1)) (List.mem_of_getElem? (i := 17) rfl))
theorem dX12_image_134 : decode cX12_image 134 = .ok (.aload_n 0, 1) := of_decide_eq_true (List.all_eq_true.mp dsX12_image_1_ok (134, (.aload_n 0, 1)) (List.mem_of_getElem? (i := 18) rfl))
theorem dX12_image_135 : decode cX12_image 135 = .ok (.getfield 219, 3) := of_decide_eq_true (List.all_eq_true.mp dsX12_image_1_ok (135, (.getfield 219, 3)) (List.mem_of_getElem? (i := 19) rfl))
theorem dX12_image_138 : decode cX12_image 138 = .ok (.iload_n 2, 1) := of_decide_eq_true (List.all_eq_true.mp dsX12_image_1_ok (138, (.iload_n 2, 1)) (List.mem_of_getElem? (i := 20) rfl))
theorem dX12_image_139 : decode cX12_image 139 = .ok (.iaload, 1) := of_decide_eq_true (List.all_eq_true.mp dsX12_image_1_ok (139, (.iaload, 1)) (List.mem_of_getElem? (i := 21) rfl))
theorem dX12_image_140 : decode cX12_image 140 = .ok (.iadd, 1) := of_decide_eq_true (List.all_eq_true.mp dsX12_image_1_ok (140, (.iadd, 1)) (List.mem_of_getElem? (i := 22) rfl))
theorem dX12_image_141 : decode cX12_image 141 = .ok (.sipush 251, 3) := of_decide_eq_true (List.all_eq_true.mp dsX12_image_1_ok (141, (.sipush 251, 3)) (List.mem_of_getElem? (i := 23) rfl))
theorem dX12_image_144 : decode cX12_image 144 = .ok (.irem, 1) := of_decide_eq_true (List.all_eq_true.mp dsX12_image_1_ok (144, (.irem, 1)) (List.mem_of_getElem? (i := 24) rfl))
theorem dX12_image_145 : decode cX12_image 145 = .ok (.istore_n 1, 1) := of_decide_eq_true (List.all_eq_true.mp dsX12_image_1_ok (145, (.istore_n 1, 1)) (List.mem_of_getElem? (i := 25) rfl))
theorem dX12_image_146 : decode cX12_image 146 = .ok (.iinc 2 1, 3) := of_decide_eq_true (List.all_eq_true.mp dsX12_image_1_ok (146, (.iinc 2 1, 3)) (List.mem_of_getElem? (i := 26) rfl))
theorem dX12_image_149 : decode cX12_image 149 = .ok (.goto (-26), 3) := of_decide_eq_true (List.all_eq_true.mp dsX12_image_1_ok (149, (.goto (-26), 3)) (List.mem_of_getElem? (i := 27) rfl))
theorem dX12_image_152 : decode cX12_image 152 = .ok (.aload_n 0, 1) := of_decide_eq_true (List.all_eq_true.mp dsX12_image_1_ok (152, (.aload_n 0, 1)) (List.mem_of_getElem? (i := 28) rfl))
theorem dX12_image_153 : decode cX12_image 153 = .ok (.iload_n 1, 1) := of_decide_eq_true (List.all_eq_true.mp dsX12_image_1_ok (153, (.iload_n 1, 1)) (List.mem_of_getElem? (i := 29) rfl))
theorem dX12_image_154 : decode cX12_image 154 = .ok (.invokevirtual 506, 3) := of_decide_eq_true (List.all_eq_true.mp dsX12_image_1_ok (154, (.invokevirtual 506, 3)) (List.mem_of_getElem? (i := 30) rfl))
theorem dX12_image_157 : decode cX12_image 157 = .ok (.aload_n 0, 1) := of_decide_eq_true (List.all_eq_true.mp dsX12_image_1_ok (157, (.aload_n 0, 1)) (List.mem_of_getElem? (i := 31) rfl))
theorem dX12_image_158 : decode cX12_image 158 = .ok (.getfield 222, 3) := of_decide_eq_true (List.all_eq_true.mp dsX12_image_1_ok (158, (.getfield 222, 3)) (List.mem_of_getElem? (i := 32) rfl))
theorem dX12_image_161 : decode cX12_image 161 = .ok (.ireturn, 1) := of_decide_eq_true (List.all_eq_true.mp dsX12_image_1_ok (161, (.ireturn, 1)) (List.mem_of_getElem? (i := 33) rfl))
def fX12_image_l123 (N : Nat) (mm_nightOfF : Nat → Int32) (mm_mileOfF : Nat → Int32) (mm_roundsOfF : Nat → Int32) (mm_talkingOfF : Nat → Int32) (mm_hushOfF : Nat → Int32) (mm_earsF : Nat → Int32) (mm_rowOfF : Nat → Int32) (mm_placesF : Nat → Int32) (mm_talkOfF : Nat → Int32)  (k123 : ((Nat → Int32) × (Nat → Int32) × Int32 × Int32) → Option (Int32 × (Nat → Int32) × (Nat → Int32))) : ((Nat → Int32) × (Nat → Int32) × Int32 × Int32) → Option (Int32 × (Nat → Int32) × (Nat → Int32)) :=
  fun (mmI_123, mm_outF_123, x1_123, x2_123) => (if (mmI_123 69) ≤ x2_123 then (xq_bd (fX12_writes N mmI_123 mm_outF_123 x1_123) fun (r_1_0, r_1_1) => some ((r_1_0 69, r_1_0, r_1_1))) else (xq_bd (xq_ald 30 mm_outF_123 x2_123) fun v_3 => (xq_bd (xq_rm ((5 * x1_123) + v_3) 251) fun v_4 => k123 (mmI_123, mm_outF_123, v_4, x2_123 + 1))))
def fX12_image_l88 (N : Nat) (mm_nightOfF : Nat → Int32) (mm_mileOfF : Nat → Int32) (mm_roundsOfF : Nat → Int32) (mm_talkingOfF : Nat → Int32) (mm_hushOfF : Nat → Int32) (mm_earsF : Nat → Int32) (mm_rowOfF : Nat → Int32) (mm_placesF : Nat → Int32) (mm_talkOfF : Nat → Int32)  (k88 : ((Nat → Int32) × (Nat → Int32) × Int32) → Option (Int32 × (Nat → Int32) × (Nat → Int32))) : ((Nat → Int32) × (Nat → Int32) × Int32) → Option (Int32 × (Nat → Int32) × (Nat → Int32)) :=
  fun (mmI_88, mm_outF_88, x1_88) => (xq_bd (xq_ald 2 mm_placesF (mmI_88 13)) fun v_5 => (if v_5 ≤ x1_88 then xq_loop (fX12_image_l123 N mm_nightOfF mm_mileOfF mm_roundsOfF mm_talkingOfF mm_hushOfF mm_earsF mm_rowOfF mm_placesF mm_talkOfF) N (mmI_88, mm_outF_88, 239, 0) else (xq_bd (xq_ald 132 mm_talkOfF x1_88) fun v_6 => (xq_bd (fX12_writes N mmI_88 mm_outF_88 v_6) fun (r_7_0, r_7_1) => k88 (r_7_0, r_7_1, x1_88 + 1)))))
def fX12_image_l57 (N : Nat) (mm_nightOfF : Nat → Int32) (mm_mileOfF : Nat → Int32) (mm_roundsOfF : Nat → Int32) (mm_talkingOfF : Nat → Int32) (mm_hushOfF : Nat → Int32) (mm_earsF : Nat → Int32) (mm_rowOfF : Nat → Int32) (mm_placesF : Nat → Int32) (mm_talkOfF : Nat → Int32)  (k57 : ((Nat → Int32) × (Nat → Int32) × Int32) → Option (Int32 × (Nat → Int32) × (Nat → Int32))) : ((Nat → Int32) × (Nat → Int32) × Int32) → Option (Int32 × (Nat → Int32) × (Nat → Int32)) :=
  fun (mmI_57, mm_outF_57, x1_57) => (xq_bd (xq_ald 2 mm_earsF (mmI_57 13)) fun v_9 => (if v_9 ≤ x1_57 then xq_loop (fX12_image_l88 N mm_nightOfF mm_mileOfF mm_roundsOfF mm_talkingOfF mm_hushOfF mm_earsF mm_rowOfF mm_placesF mm_talkOfF) N (mmI_57, mm_outF_57, 0) else (xq_bd (xq_ald 154 mm_rowOfF x1_57) fun v_10 => (xq_bd (fX12_writes N mmI_57 mm_outF_57 v_10) fun (r_11_0, r_11_1) => k57 (r_11_0, r_11_1, x1_57 + 1)))))
def fX12_image (N : Nat) (mmI : Nat → Int32) (mm_nightOfF : Nat → Int32) (mm_outF : Nat → Int32) (mm_mileOfF : Nat → Int32) (mm_roundsOfF : Nat → Int32) (mm_talkingOfF : Nat → Int32) (mm_hushOfF : Nat → Int32) (mm_earsF : Nat → Int32) (mm_rowOfF : Nat → Int32) (mm_placesF : Nat → Int32) (mm_talkOfF : Nat → Int32)   : Option (Int32 × (Nat → Int32) × (Nat → Int32)) :=
  (xq_bd (xq_ald 22 mm_nightOfF 0) fun v_1 => (xq_bd (fX12_writesTwo N ((va_up mmI 69 0)) mm_outF v_1) fun (r_2_0, r_2_1) => (xq_bd (xq_ald 22 mm_mileOfF 0) fun v_4 => (xq_bd (fX12_writesTwo N r_2_0 r_2_1 v_4) fun (r_5_0, r_5_1) => (xq_bd (xq_ald 22 mm_roundsOfF 0) fun v_7 => (xq_bd (fX12_writesTwo N r_5_0 r_5_1 v_7) fun (r_8_0, r_8_1) => (xq_bd (xq_ald 22 mm_talkingOfF 0) fun v_10 => (xq_bd (fX12_writes N r_8_0 r_8_1 v_10) fun (r_11_0, r_11_1) => (xq_bd (xq_ald 22 mm_hushOfF 0) fun v_13 => (xq_bd (fX12_writes N r_11_0 r_11_1 v_13) fun (r_14_0, r_14_1) => xq_loop (fX12_image_l57 N mm_nightOfF mm_mileOfF mm_roundsOfF mm_talkingOfF mm_hushOfF mm_earsF mm_rowOfF mm_placesF mm_talkOfF) N (r_14_0, r_14_1, 0)))))))))))
set_option maxHeartbeats 4000000 in
set_option maxRecDepth 100000 in
theorem kX12_image (l : Launch) (dC : Nat → ClassId) (dI : Nat → Nat → Nat) (cI cB cJ cZ cM : ClassId) (z : Nat) (ad : Nat → Nat) (N : Nat) (a_p0 : Nat) (mmI : Nat → Int32) (mmJ : Nat → Int64) (mmR : Nat → Nat) (mm_nightOfF : Nat → Int32) (mm_outF : Nat → Int32) (mm_mileOfF : Nat → Int32) (mm_roundsOfF : Nat → Int32) (mm_talkingOfF : Nat → Int32) (mm_hushOfF : Nat → Int32) (mm_earsF : Nat → Int32) (mm_rowOfF : Nat → Int32) (mm_placesF : Nat → Int32) (mm_talkOfF : Nat → Int32) {r0 : Int32} {r1 : Nat → Int32} {r2 : Nat → Int32} (hf : fX12_image N mmI mm_nightOfF mm_outF mm_mileOfF mm_roundsOfF mm_talkingOfF mm_hushOfF mm_earsF mm_rowOfF mm_placesF mm_talkOfF = some (r0, r1, r2)) : xq_Ct l yX12_image wsX12_image { frames := 2, cells := 0, slots := 0, locals := 42 } (dC, dI) vwCl (xq_tys cI cB cJ cZ cM) z ad [.ref a_p0] [(a_p0, .inr (12, oX12 mmI mmJ mmR)), ((mmR 45), .inl (cI, 22, .inl mm_nightOfF)), ((mmR 68), .inl (cI, 30, .inl mm_outF)), ((mmR 46), .inl (cI, 22, .inl mm_mileOfF)), ((mmR 47), .inl (cI, 22, .inl mm_roundsOfF)), ((mmR 48), .inl (cI, 22, .inl mm_talkingOfF)), ((mmR 49), .inl (cI, 22, .inl mm_hushOfF)), ((mmR 18), .inl (cI, 2, .inl mm_earsF)), ((mmR 50), .inl (cI, 154, .inl mm_rowOfF)), ((mmR 21), .inl (cI, 2, .inl mm_placesF)), ((mmR 51), .inl (cI, 132, .inl mm_talkOfF))] [(a_p0, .inr (12, oX12 r1 mmJ mmR)), ((mmR 45), .inl (cI, 22, .inl mm_nightOfF)), ((mmR 68), .inl (cI, 30, .inl r2)), ((mmR 46), .inl (cI, 22, .inl mm_mileOfF)), ((mmR 47), .inl (cI, 22, .inl mm_roundsOfF)), ((mmR 48), .inl (cI, 22, .inl mm_talkingOfF)), ((mmR 49), .inl (cI, 22, .inl mm_hushOfF)), ((mmR 18), .inl (cI, 2, .inl mm_earsF)), ((mmR 50), .inl (cI, 154, .inl mm_rowOfF)), ((mmR 21), .inl (cI, 2, .inl mm_placesF)), ((mmR 51), .inl (cI, 132, .inl mm_talkOfF))] (some (.int r0)) := by
  intro sz
  refine Met.ofW (cc := cX12_image) (maxL := 3) (ret := (some .int)) (by decide) rfl ?_
  intro p e s m args below meth c s₁ B hml hv
  obtain ⟨rfl, hsz, hP, hK, hD0, hE, hz⟩ := hv
  have hx := B.exec
  have hb := B.bytes
  have hr := B.returns
  have hts := atoms_spec (ws := wsX12_image) B.pre
  have hown : s.vm.findClass RX12 = some m.cls := findClass_of_methodNamed B.named
  have hlocks := B.notSynchronized
  subst hsz
  have hD := hD0.self (sz := s.heap.size)
  have hN := xq_Env.of hE hz hD0
  generalize hAe : va_A [(a_p0, .inr (12, oX12 mmI mmJ mmR)), ((mmR 45), .inl (cI, 22, .inl mm_nightOfF)), ((mmR 68), .inl (cI, 30, .inl mm_outF)), ((mmR 46), .inl (cI, 22, .inl mm_mileOfF)), ((mmR 47), .inl (cI, 22, .inl mm_roundsOfF)), ((mmR 48), .inl (cI, 22, .inl mm_talkingOfF)), ((mmR 49), .inl (cI, 22, .inl mm_hushOfF)), ((mmR 18), .inl (cI, 2, .inl mm_earsF)), ((mmR 50), .inl (cI, 154, .inl mm_rowOfF)), ((mmR 21), .inl (cI, 2, .inl mm_placesF)), ((mmR 51), .inl (cI, 132, .inl mm_talkOfF))] s.heap.size = A at hD hN ⊢
  have hA : ∀ q : Nat, s.heap.size ≤ q → A q := fun q h => by rw [← hAe]; exact Or.inr h
  clear hAe hD0
  have hS : va_S A s.heap s.heap [] := va_S.rf
  have hl := lv_entry ([.ref a_p0]) (n := 3) (Nat.le_of_ble_eq_true rfl)
  rw [lg_entry_eq]
  generalize (lg_sl ([.ref a_p0]) ++ List.replicate (3 - (lg_sl ([.ref a_p0])).length) Slot.unset).toArray = ls at hl ⊢
  have hl : lv_has ls 3 [(0, .ref a_p0)] := hl
  have hw0 := hts (.fieldLink RX12 222 "DistantVoiceModel" "outs" "I") (by decide +kernel)
  have hinX12 : ∀ w ∈ wsX120, w ∈ wsX12_image := fun w h => List.mem_cons_of_mem _ (List.mem_append_right _ h)
  have hw2 := hts (.fieldLink RX12 150 "DistantVoiceModel" "nightOf" "[I") (by decide +kernel)
  have hw3 := hts (.fieldLink RX12 153 "DistantVoiceModel" "mileOf" "[I") (by decide +kernel)
  have hw4 := hts (.fieldLink RX12 156 "DistantVoiceModel" "roundsOf" "[I") (by decide +kernel)
  have hw5 := hts (.fieldLink RX12 159 "DistantVoiceModel" "talkingOf" "[I") (by decide +kernel)
  have hw6 := hts (.fieldLink RX12 162 "DistantVoiceModel" "hushOf" "[I") (by decide +kernel)
  have hw7 := hts (.fieldLink RX12 66 "DistantVoiceModel" "ears" "[I") (by decide +kernel)
  have hw8 := hts (.fieldLink RX12 51 "DistantVoiceModel" "bank" "I") (by decide +kernel)
  have hw9 := hts (.fieldLink RX12 165 "DistantVoiceModel" "rowOf" "[I") (by decide +kernel)
  have hw10 := hts (.fieldLink RX12 75 "DistantVoiceModel" "places" "[I") (by decide +kernel)
  have hw11 := hts (.fieldLink RX12 168 "DistantVoiceModel" "talkOf" "[I") (by decide +kernel)
  have hw12 := hts (.fieldLink RX12 219 "DistantVoiceModel" "out" "[I") (by decide +kernel)
  have l123 : ∀ n123 : Nat, ∀ (mmI_123 : Nat → Int32) (mm_outF_123 : Nat → Int32) (x1_123 : Int32) (x2_123 : Int32) (ls : Array Slot) (H : Heap) (locs : List Loc), xq_loop (fX12_image_l123 N mm_nightOfF mm_mileOfF mm_roundsOfF mm_talkingOfF mm_hushOfF mm_earsF mm_rowOfF mm_placesF mm_talkOfF) n123 (mmI_123, mm_outF_123, x1_123, x2_123) = some (r0, r1, r2) → va_P (dC, dI) vwCl [(a_p0, .inr (12, oX12 mmI_123 mmJ mmR)), ((mmR 45), .inl (cI, 22, .inl mm_nightOfF)), ((mmR 68), .inl (cI, 30, .inl mm_outF_123)), ((mmR 46), .inl (cI, 22, .inl mm_mileOfF)), ((mmR 47), .inl (cI, 22, .inl mm_roundsOfF)), ((mmR 48), .inl (cI, 22, .inl mm_talkingOfF)), ((mmR 49), .inl (cI, 22, .inl mm_hushOfF)), ((mmR 18), .inl (cI, 2, .inl mm_earsF)), ((mmR 50), .inl (cI, 154, .inl mm_rowOfF)), ((mmR 21), .inl (cI, 2, .inl mm_placesF)), ((mmR 51), .inl (cI, 132, .inl mm_talkOfF))] H → va_D A [(a_p0, .inr (12, oX12 mmI_123 mmJ mmR)), ((mmR 45), .inl (cI, 22, .inl mm_nightOfF)), ((mmR 68), .inl (cI, 30, .inl mm_outF_123)), ((mmR 46), .inl (cI, 22, .inl mm_mileOfF)), ((mmR 47), .inl (cI, 22, .inl mm_roundsOfF)), ((mmR 48), .inl (cI, 22, .inl mm_talkingOfF)), ((mmR 49), .inl (cI, 22, .inl mm_hushOfF)), ((mmR 18), .inl (cI, 2, .inl mm_earsF)), ((mmR 50), .inl (cI, 154, .inl mm_rowOfF)), ((mmR 21), .inl (cI, 2, .inl mm_placesF)), ((mmR 51), .inl (cI, 132, .inl mm_talkOfF))] → va_S A s.heap H locs → lv_has ls 3 [(0, .ref a_p0), (1, .int x1_123), (2, .int x2_123)] → W p l e (headSpec wsX12_image { frames := 2, cells := 0, slots := 0, locals := 42 }).room s m [.ref a_p0].toArray below meth c H locs 0 0 (MQ below (xq_Q (dC, dI) vwCl (xq_tys cI cB cJ cZ cM) A [(a_p0, .inr (12, oX12 r1 mmJ mmR)), ((mmR 45), .inl (cI, 22, .inl mm_nightOfF)), ((mmR 68), .inl (cI, 30, .inl r2)), ((mmR 46), .inl (cI, 22, .inl mm_mileOfF)), ((mmR 47), .inl (cI, 22, .inl mm_roundsOfF)), ((mmR 48), .inl (cI, 22, .inl mm_talkingOfF)), ((mmR 49), .inl (cI, 22, .inl mm_hushOfF)), ((mmR 18), .inl (cI, 2, .inl mm_earsF)), ((mmR 50), .inl (cI, 154, .inl mm_rowOfF)), ((mmR 21), .inl (cI, 2, .inl mm_placesF)), ((mmR 51), .inl (cI, 132, .inl mm_talkOfF))] (some (.int r0))) [.ref a_p0].toArray s 0 0 A) (F0 m 123 ls []) := by
    intro n123
    induction n123 with
    | zero => intro mmI_123 mm_outF_123 x1_123 x2_123 ls H locs hf; cases (show none = some (r0, r1, r2) from hf)
    | succ n123 ih123 =>
      intro mmI_123 mm_outF_123 x1_123 x2_123 ls H locs hf hP hD hS hl
      have hf : fX12_image_l123 N mm_nightOfF mm_mileOfF mm_roundsOfF mm_talkingOfF mm_hushOfF mm_earsF mm_rowOfF mm_placesF mm_talkOfF (xq_loop (fX12_image_l123 N mm_nightOfF mm_mileOfF mm_roundsOfF mm_talkingOfF mm_hushOfF mm_earsF mm_rowOfF mm_placesF mm_talkOfF) n123) (mmI_123, mm_outF_123, x1_123, x2_123) = some (r0, r1, r2) := hf
      unfold fX12_image_l123 at hf
      refine lv_iload_n hx hb dX12_image_123 rfl (lv_at hl 2 rfl) ?_
      refine lv_aload_n hx hb dX12_image_124 rfl (lv_at hl 0 rfl) ?_
      refine va_get (D := (dC, dI)) (ci := 12) (v := .int (mmI_123 69)) (C := RX12) (T := TX12) (N := 70) hx hb hts hinX12 hown hK hP 0 rfl rfl 69 (by decide) hw0 (fun _ h9 => h9) rfl dX12_image_125 ?_
      refine lv_icmp_ge (tgt := 152) hx hb dX12_image_128 (by decide) (fun c_ => ?_) (fun c_ => ?_)
      · have hf := xq_pos hf c_
        refine lv_aload_n hx hb dX12_image_152 rfl (lv_at hl 0 rfl) ?_
        refine lv_iload_n hx hb dX12_image_153 rfl (lv_at hl 1 rfl) ?_
        obtain ⟨⟨r_1_0, r_1_1⟩, h_2, hf⟩ := xq_bd_some hf
        refine xq_callV (As := [.int x1_123]) (rest := []) (ci := 12) (q0 := 0) ⟨hx, hb, hml, hown, hts⟩ (kX12_writes l dC dI cI cB cJ cZ cM z ad N a_p0 mmI_123 mmJ mmR mm_outF_123 x1_123 h_2) (cwV 1 hts gX12_image_X12_writes rfl rfl rfl (by decide +kernel) ⟨Nat.le_of_ble_eq_true rfl, Nat.le_of_ble_eq_true rfl⟩) hN hK hP hD hS hA [0, 2] (by decide) rfl rfl rfl rfl rfl rfl hl.1 rfl (Nat.le_of_ble_eq_true rfl) dX12_image_154 ⟨Nat.zero_le _, Nat.zero_le _⟩ (fun H locs hP hD hS => ?_)
        have hP : va_P (dC, dI) vwCl [(a_p0, .inr (12, oX12 r_1_0 mmJ mmR)), ((mmR 45), .inl (cI, 22, .inl mm_nightOfF)), ((mmR 68), .inl (cI, 30, .inl r_1_1)), ((mmR 46), .inl (cI, 22, .inl mm_mileOfF)), ((mmR 47), .inl (cI, 22, .inl mm_roundsOfF)), ((mmR 48), .inl (cI, 22, .inl mm_talkingOfF)), ((mmR 49), .inl (cI, 22, .inl mm_hushOfF)), ((mmR 18), .inl (cI, 2, .inl mm_earsF)), ((mmR 50), .inl (cI, 154, .inl mm_rowOfF)), ((mmR 21), .inl (cI, 2, .inl mm_placesF)), ((mmR 51), .inl (cI, 132, .inl mm_talkOfF))] H := hP
        have hD : va_D A [(a_p0, .inr (12, oX12 r_1_0 mmJ mmR)), ((mmR 45), .inl (cI, 22, .inl mm_nightOfF)), ((mmR 68), .inl (cI, 30, .inl r_1_1)), ((mmR 46), .inl (cI, 22, .inl mm_mileOfF)), ((mmR 47), .inl (cI, 22, .inl mm_roundsOfF)), ((mmR 48), .inl (cI, 22, .inl mm_talkingOfF)), ((mmR 49), .inl (cI, 22, .inl mm_hushOfF)), ((mmR 18), .inl (cI, 2, .inl mm_earsF)), ((mmR 50), .inl (cI, 154, .inl mm_rowOfF)), ((mmR 21), .inl (cI, 2, .inl mm_placesF)), ((mmR 51), .inl (cI, 132, .inl mm_talkOfF))] := hD
        refine W.eq (g2 := F0 m 157 ls []) rfl ?_
        refine lv_aload_n hx hb dX12_image_157 rfl (lv_at hl 0 rfl) ?_
        refine va_get (D := (dC, dI)) (ci := 12) (v := .int (r_1_0 69)) (C := RX12) (T := TX12) (N := 70) hx hb hts hinX12 hown hK hP 0 rfl rfl 69 (by decide) hw0 (fun _ h9 => h9) rfl dX12_image_158 ?_
        have e9 := Option.some.inj hf
        have e9_0 : r_1_0 69 = r0 := congrArg (fun t => t.1) e9
        have e9_1 : r_1_0 = r1 := congrArg (fun t => t.2.1) e9
        have e9_2 : r_1_1 = r2 := congrArg (fun t => t.2.2) e9
        clear e9 hf
        try clear l123
        try clear l57
        try clear l88
        try clear ih123
        try clear ih57
        try clear ih88
        subst e9_0
        subst e9_1
        subst e9_2
        exact xq_iret hx hb hr hlocks hK hP hD hS dX12_image_161
      · have hf := xq_neg hf c_
        refine lv_iconst (v := 5) hx hb dX12_image_131 (by decide) ?_
        refine lv_iload_n hx hb dX12_image_132 rfl (lv_at hl 1 rfl) ?_
        refine lv_imul hx hb dX12_image_133 ?_
        refine lv_aload_n hx hb dX12_image_134 rfl (lv_at hl 0 rfl) ?_
        refine va_get (D := (dC, dI)) (ci := 12) (v := .ref ((mmR 68))) (C := RX12) (T := TX12) (N := 70) hx hb hts hinX12 hown hK hP 0 rfl rfl 68 (by decide) hw12 (fun _ h9 => h9) rfl dX12_image_135 ?_
        refine lv_iload_n hx hb dX12_image_138 rfl (lv_at hl 2 rfl) ?_
        refine xq_iald hx hb hK hP 2 0 rfl rfl hf dX12_image_139 (fun v_3 hf => ?_)
        refine lv_iadd hx hb dX12_image_140 ?_
        refine lv_sipush (v := 251) hx hb dX12_image_141 (by decide) ?_
        refine xq_irem hx hb hf dX12_image_144 (fun v_4 hf => ?_)
        refine lv_istore_n (lv' := [(1, .int v_4), (0, .ref a_p0), (2, .int x2_123)]) hx hb dX12_image_145 rfl hl (by decide) rfl (fun ls hl => ?_)
        refine lv_iinc (v := x2_123 + 1) (lv' := [(2, .int (x2_123 + 1)), (1, .int v_4), (0, .ref a_p0)]) hx hb dX12_image_146 hl (k := 2) rfl (congrArg (fun q9 => x2_123 + q9) (by decide : Int32.ofInt 1 = 1)) (by decide) rfl (fun ls hl => ?_)
        refine lv_goto (tgt := 123) hx hb dX12_image_149 (by decide) ?_
        exact ih123 mmI_123 mm_outF_123 v_4 (x2_123 + 1) _ _ _ hf hP hD hS (lv_sub hl [2, 1, 0] rfl)
  have l88 : ∀ n88 : Nat, ∀ (mmI_88 : Nat → Int32) (mm_outF_88 : Nat → Int32) (x1_88 : Int32) (ls : Array Slot) (H : Heap) (locs : List Loc), xq_loop (fX12_image_l88 N mm_nightOfF mm_mileOfF mm_roundsOfF mm_talkingOfF mm_hushOfF mm_earsF mm_rowOfF mm_placesF mm_talkOfF) n88 (mmI_88, mm_outF_88, x1_88) = some (r0, r1, r2) → va_P (dC, dI) vwCl [(a_p0, .inr (12, oX12 mmI_88 mmJ mmR)), ((mmR 45), .inl (cI, 22, .inl mm_nightOfF)), ((mmR 68), .inl (cI, 30, .inl mm_outF_88)), ((mmR 46), .inl (cI, 22, .inl mm_mileOfF)), ((mmR 47), .inl (cI, 22, .inl mm_roundsOfF)), ((mmR 48), .inl (cI, 22, .inl mm_talkingOfF)), ((mmR 49), .inl (cI, 22, .inl mm_hushOfF)), ((mmR 18), .inl (cI, 2, .inl mm_earsF)), ((mmR 50), .inl (cI, 154, .inl mm_rowOfF)), ((mmR 21), .inl (cI, 2, .inl mm_placesF)), ((mmR 51), .inl (cI, 132, .inl mm_talkOfF))] H → va_D A [(a_p0, .inr (12, oX12 mmI_88 mmJ mmR)), ((mmR 45), .inl (cI, 22, .inl mm_nightOfF)), ((mmR 68), .inl (cI, 30, .inl mm_outF_88)), ((mmR 46), .inl (cI, 22, .inl mm_mileOfF)), ((mmR 47), .inl (cI, 22, .inl mm_roundsOfF)), ((mmR 48), .inl (cI, 22, .inl mm_talkingOfF)), ((mmR 49), .inl (cI, 22, .inl mm_hushOfF)), ((mmR 18), .inl (cI, 2, .inl mm_earsF)), ((mmR 50), .inl (cI, 154, .inl mm_rowOfF)), ((mmR 21), .inl (cI, 2, .inl mm_placesF)), ((mmR 51), .inl (cI, 132, .inl mm_talkOfF))] → va_S A s.heap H locs → lv_has ls 3 [(0, .ref a_p0), (1, .int x1_88)] → W p l e (headSpec wsX12_image { frames := 2, cells := 0, slots := 0, locals := 42 }).room s m [.ref a_p0].toArray below meth c H locs 0 0 (MQ below (xq_Q (dC, dI) vwCl (xq_tys cI cB cJ cZ cM) A [(a_p0, .inr (12, oX12 r1 mmJ mmR)), ((mmR 45), .inl (cI, 22, .inl mm_nightOfF)), ((mmR 68), .inl (cI, 30, .inl r2)), ((mmR 46), .inl (cI, 22, .inl mm_mileOfF)), ((mmR 47), .inl (cI, 22, .inl mm_roundsOfF)), ((mmR 48), .inl (cI, 22, .inl mm_talkingOfF)), ((mmR 49), .inl (cI, 22, .inl mm_hushOfF)), ((mmR 18), .inl (cI, 2, .inl mm_earsF)), ((mmR 50), .inl (cI, 154, .inl mm_rowOfF)), ((mmR 21), .inl (cI, 2, .inl mm_placesF)), ((mmR 51), .inl (cI, 132, .inl mm_talkOfF))] (some (.int r0))) [.ref a_p0].toArray s 0 0 A) (F0 m 88 ls []) := by
    intro n88
    induction n88 with
    | zero => intro mmI_88 mm_outF_88 x1_88 ls H locs hf; cases (show none = some (r0, r1, r2) from hf)
    | succ n88 ih88 =>
      intro mmI_88 mm_outF_88 x1_88 ls H locs hf hP hD hS hl
      have hf : fX12_image_l88 N mm_nightOfF mm_mileOfF mm_roundsOfF mm_talkingOfF mm_hushOfF mm_earsF mm_rowOfF mm_placesF mm_talkOfF (xq_loop (fX12_image_l88 N mm_nightOfF mm_mileOfF mm_roundsOfF mm_talkingOfF mm_hushOfF mm_earsF mm_rowOfF mm_placesF mm_talkOfF) n88) (mmI_88, mm_outF_88, x1_88) = some (r0, r1, r2) := hf
      unfold fX12_image_l88 at hf
      refine lv_iload_n hx hb dX12_image_88 rfl (lv_at hl 1 rfl) ?_
      refine lv_aload_n hx hb dX12_image_89 rfl (lv_at hl 0 rfl) ?_
      refine va_get (D := (dC, dI)) (ci := 12) (v := .ref ((mmR 21))) (C := RX12) (T := TX12) (N := 70) hx hb hts hinX12 hown hK hP 0 rfl rfl 21 (by decide) hw10 (fun _ h9 => h9) rfl dX12_image_90 ?_
      refine lv_aload_n hx hb dX12_image_93 rfl (lv_at hl 0 rfl) ?_
      refine va_get (D := (dC, dI)) (ci := 12) (v := .int (mmI_88 13)) (C := RX12) (T := TX12) (N := 70) hx hb hts hinX12 hown hK hP 0 rfl rfl 13 (by decide) hw8 (fun _ h9 => h9) rfl dX12_image_94 ?_
      refine xq_iald hx hb hK hP 9 0 rfl rfl hf dX12_image_97 (fun v_1 hf => ?_)
      refine lv_icmp_ge (tgt := 117) hx hb dX12_image_98 (by decide) (fun c_ => ?_) (fun c_ => ?_)
      · have hf := xq_pos hf c_
        refine lv_sipush (v := 239) hx hb dX12_image_117 (by decide) ?_
        refine lv_istore_n (lv' := [(1, .int 239), (0, .ref a_p0)]) hx hb dX12_image_120 rfl hl (by decide) rfl (fun ls hl => ?_)
        refine lv_iconst (v := 0) hx hb dX12_image_121 (by decide) ?_
        refine lv_istore_n (lv' := [(2, .int 0), (1, .int 239), (0, .ref a_p0)]) hx hb dX12_image_122 rfl hl (by decide) rfl (fun ls hl => ?_)
        exact l123 N mmI_88 mm_outF_88 239 0 _ _ _ hf hP hD hS (lv_sub hl [2, 1, 0] rfl)
      · have hf := xq_neg hf c_
        refine lv_aload_n hx hb dX12_image_101 rfl (lv_at hl 0 rfl) ?_
        refine lv_aload_n hx hb dX12_image_102 rfl (lv_at hl 0 rfl) ?_
        refine va_get (D := (dC, dI)) (ci := 12) (v := .ref ((mmR 51))) (C := RX12) (T := TX12) (N := 70) hx hb hts hinX12 hown hK hP 0 rfl rfl 51 (by decide) hw11 (fun _ h9 => h9) rfl dX12_image_103 ?_
        refine lv_iload_n hx hb dX12_image_106 rfl (lv_at hl 1 rfl) ?_
        refine xq_iald hx hb hK hP 10 0 rfl rfl hf dX12_image_107 (fun v_2 hf => ?_)
        obtain ⟨⟨r_3_0, r_3_1⟩, h_4, hf⟩ := xq_bd_some hf
        refine xq_callV (As := [.int v_2]) (rest := []) (ci := 12) (q0 := 0) ⟨hx, hb, hml, hown, hts⟩ (kX12_writes l dC dI cI cB cJ cZ cM z ad N a_p0 mmI_88 mmJ mmR mm_outF_88 v_2 h_4) (cwV 1 hts gX12_image_X12_writes rfl rfl rfl (by decide +kernel) ⟨Nat.le_of_ble_eq_true rfl, Nat.le_of_ble_eq_true rfl⟩) hN hK hP hD hS hA [0, 2] (by decide) rfl rfl rfl rfl rfl rfl hl.1 rfl (Nat.le_of_ble_eq_true rfl) dX12_image_108 ⟨Nat.zero_le _, Nat.zero_le _⟩ (fun H locs hP hD hS => ?_)
        have hP : va_P (dC, dI) vwCl [(a_p0, .inr (12, oX12 r_3_0 mmJ mmR)), ((mmR 45), .inl (cI, 22, .inl mm_nightOfF)), ((mmR 68), .inl (cI, 30, .inl r_3_1)), ((mmR 46), .inl (cI, 22, .inl mm_mileOfF)), ((mmR 47), .inl (cI, 22, .inl mm_roundsOfF)), ((mmR 48), .inl (cI, 22, .inl mm_talkingOfF)), ((mmR 49), .inl (cI, 22, .inl mm_hushOfF)), ((mmR 18), .inl (cI, 2, .inl mm_earsF)), ((mmR 50), .inl (cI, 154, .inl mm_rowOfF)), ((mmR 21), .inl (cI, 2, .inl mm_placesF)), ((mmR 51), .inl (cI, 132, .inl mm_talkOfF))] H := hP
        have hD : va_D A [(a_p0, .inr (12, oX12 r_3_0 mmJ mmR)), ((mmR 45), .inl (cI, 22, .inl mm_nightOfF)), ((mmR 68), .inl (cI, 30, .inl r_3_1)), ((mmR 46), .inl (cI, 22, .inl mm_mileOfF)), ((mmR 47), .inl (cI, 22, .inl mm_roundsOfF)), ((mmR 48), .inl (cI, 22, .inl mm_talkingOfF)), ((mmR 49), .inl (cI, 22, .inl mm_hushOfF)), ((mmR 18), .inl (cI, 2, .inl mm_earsF)), ((mmR 50), .inl (cI, 154, .inl mm_rowOfF)), ((mmR 21), .inl (cI, 2, .inl mm_placesF)), ((mmR 51), .inl (cI, 132, .inl mm_talkOfF))] := hD
        refine W.eq (g2 := F0 m 111 ls []) rfl ?_
        refine lv_iinc (v := x1_88 + 1) (lv' := [(1, .int (x1_88 + 1)), (0, .ref a_p0)]) hx hb dX12_image_111 hl (k := 1) rfl (congrArg (fun q9 => x1_88 + q9) (by decide : Int32.ofInt 1 = 1)) (by decide) rfl (fun ls hl => ?_)
        refine lv_goto (tgt := 88) hx hb dX12_image_114 (by decide) ?_
        exact ih88 r_3_0 r_3_1 (x1_88 + 1) _ _ _ hf hP hD hS (lv_sub hl [1, 0] rfl)
  have l57 : ∀ n57 : Nat, ∀ (mmI_57 : Nat → Int32) (mm_outF_57 : Nat → Int32) (x1_57 : Int32) (ls : Array Slot) (H : Heap) (locs : List Loc), xq_loop (fX12_image_l57 N mm_nightOfF mm_mileOfF mm_roundsOfF mm_talkingOfF mm_hushOfF mm_earsF mm_rowOfF mm_placesF mm_talkOfF) n57 (mmI_57, mm_outF_57, x1_57) = some (r0, r1, r2) → va_P (dC, dI) vwCl [(a_p0, .inr (12, oX12 mmI_57 mmJ mmR)), ((mmR 45), .inl (cI, 22, .inl mm_nightOfF)), ((mmR 68), .inl (cI, 30, .inl mm_outF_57)), ((mmR 46), .inl (cI, 22, .inl mm_mileOfF)), ((mmR 47), .inl (cI, 22, .inl mm_roundsOfF)), ((mmR 48), .inl (cI, 22, .inl mm_talkingOfF)), ((mmR 49), .inl (cI, 22, .inl mm_hushOfF)), ((mmR 18), .inl (cI, 2, .inl mm_earsF)), ((mmR 50), .inl (cI, 154, .inl mm_rowOfF)), ((mmR 21), .inl (cI, 2, .inl mm_placesF)), ((mmR 51), .inl (cI, 132, .inl mm_talkOfF))] H → va_D A [(a_p0, .inr (12, oX12 mmI_57 mmJ mmR)), ((mmR 45), .inl (cI, 22, .inl mm_nightOfF)), ((mmR 68), .inl (cI, 30, .inl mm_outF_57)), ((mmR 46), .inl (cI, 22, .inl mm_mileOfF)), ((mmR 47), .inl (cI, 22, .inl mm_roundsOfF)), ((mmR 48), .inl (cI, 22, .inl mm_talkingOfF)), ((mmR 49), .inl (cI, 22, .inl mm_hushOfF)), ((mmR 18), .inl (cI, 2, .inl mm_earsF)), ((mmR 50), .inl (cI, 154, .inl mm_rowOfF)), ((mmR 21), .inl (cI, 2, .inl mm_placesF)), ((mmR 51), .inl (cI, 132, .inl mm_talkOfF))] → va_S A s.heap H locs → lv_has ls 3 [(0, .ref a_p0), (1, .int x1_57)] → W p l e (headSpec wsX12_image { frames := 2, cells := 0, slots := 0, locals := 42 }).room s m [.ref a_p0].toArray below meth c H locs 0 0 (MQ below (xq_Q (dC, dI) vwCl (xq_tys cI cB cJ cZ cM) A [(a_p0, .inr (12, oX12 r1 mmJ mmR)), ((mmR 45), .inl (cI, 22, .inl mm_nightOfF)), ((mmR 68), .inl (cI, 30, .inl r2)), ((mmR 46), .inl (cI, 22, .inl mm_mileOfF)), ((mmR 47), .inl (cI, 22, .inl mm_roundsOfF)), ((mmR 48), .inl (cI, 22, .inl mm_talkingOfF)), ((mmR 49), .inl (cI, 22, .inl mm_hushOfF)), ((mmR 18), .inl (cI, 2, .inl mm_earsF)), ((mmR 50), .inl (cI, 154, .inl mm_rowOfF)), ((mmR 21), .inl (cI, 2, .inl mm_placesF)), ((mmR 51), .inl (cI, 132, .inl mm_talkOfF))] (some (.int r0))) [.ref a_p0].toArray s 0 0 A) (F0 m 57 ls []) := by
    intro n57
    induction n57 with
    | zero => intro mmI_57 mm_outF_57 x1_57 ls H locs hf; cases (show none = some (r0, r1, r2) from hf)
    | succ n57 ih57 =>
      intro mmI_57 mm_outF_57 x1_57 ls H locs hf hP hD hS hl
      have hf : fX12_image_l57 N mm_nightOfF mm_mileOfF mm_roundsOfF mm_talkingOfF mm_hushOfF mm_earsF mm_rowOfF mm_placesF mm_talkOfF (xq_loop (fX12_image_l57 N mm_nightOfF mm_mileOfF mm_roundsOfF mm_talkingOfF mm_hushOfF mm_earsF mm_rowOfF mm_placesF mm_talkOfF) n57) (mmI_57, mm_outF_57, x1_57) = some (r0, r1, r2) := hf
      unfold fX12_image_l57 at hf
      refine lv_iload_n hx hb dX12_image_57 rfl (lv_at hl 1 rfl) ?_
      refine lv_aload_n hx hb dX12_image_58 rfl (lv_at hl 0 rfl) ?_
      refine va_get (D := (dC, dI)) (ci := 12) (v := .ref ((mmR 18))) (C := RX12) (T := TX12) (N := 70) hx hb hts hinX12 hown hK hP 0 rfl rfl 18 (by decide) hw7 (fun _ h9 => h9) rfl dX12_image_59 ?_
      refine lv_aload_n hx hb dX12_image_62 rfl (lv_at hl 0 rfl) ?_
      refine va_get (D := (dC, dI)) (ci := 12) (v := .int (mmI_57 13)) (C := RX12) (T := TX12) (N := 70) hx hb hts hinX12 hown hK hP 0 rfl rfl 13 (by decide) hw8 (fun _ h9 => h9) rfl dX12_image_63 ?_
      refine xq_iald hx hb hK hP 7 0 rfl rfl hf dX12_image_66 (fun v_1 hf => ?_)
      refine lv_icmp_ge (tgt := 86) hx hb dX12_image_67 (by decide) (fun c_ => ?_) (fun c_ => ?_)
      · have hf := xq_pos hf c_
        refine lv_iconst (v := 0) hx hb dX12_image_86 (by decide) ?_
        refine lv_istore_n (lv' := [(1, .int 0), (0, .ref a_p0)]) hx hb dX12_image_87 rfl hl (by decide) rfl (fun ls hl => ?_)
        exact l88 N mmI_57 mm_outF_57 0 _ _ _ hf hP hD hS (lv_sub hl [1, 0] rfl)
      · have hf := xq_neg hf c_
        refine lv_aload_n hx hb dX12_image_70 rfl (lv_at hl 0 rfl) ?_
        refine lv_aload_n hx hb dX12_image_71 rfl (lv_at hl 0 rfl) ?_
        refine va_get (D := (dC, dI)) (ci := 12) (v := .ref ((mmR 50))) (C := RX12) (T := TX12) (N := 70) hx hb hts hinX12 hown hK hP 0 rfl rfl 50 (by decide) hw9 (fun _ h9 => h9) rfl dX12_image_72 ?_
        refine lv_iload_n hx hb dX12_image_75 rfl (lv_at hl 1 rfl) ?_
        refine xq_iald hx hb hK hP 8 0 rfl rfl hf dX12_image_76 (fun v_2 hf => ?_)
        obtain ⟨⟨r_3_0, r_3_1⟩, h_4, hf⟩ := xq_bd_some hf
        refine xq_callV (As := [.int v_2]) (rest := []) (ci := 12) (q0 := 0) ⟨hx, hb, hml, hown, hts⟩ (kX12_writes l dC dI cI cB cJ cZ cM z ad N a_p0 mmI_57 mmJ mmR mm_outF_57 v_2 h_4) (cwV 1 hts gX12_image_X12_writes rfl rfl rfl (by decide +kernel) ⟨Nat.le_of_ble_eq_true rfl, Nat.le_of_ble_eq_true rfl⟩) hN hK hP hD hS hA [0, 2] (by decide) rfl rfl rfl rfl rfl rfl hl.1 rfl (Nat.le_of_ble_eq_true rfl) dX12_image_77 ⟨Nat.zero_le _, Nat.zero_le _⟩ (fun H locs hP hD hS => ?_)
        have hP : va_P (dC, dI) vwCl [(a_p0, .inr (12, oX12 r_3_0 mmJ mmR)), ((mmR 45), .inl (cI, 22, .inl mm_nightOfF)), ((mmR 68), .inl (cI, 30, .inl r_3_1)), ((mmR 46), .inl (cI, 22, .inl mm_mileOfF)), ((mmR 47), .inl (cI, 22, .inl mm_roundsOfF)), ((mmR 48), .inl (cI, 22, .inl mm_talkingOfF)), ((mmR 49), .inl (cI, 22, .inl mm_hushOfF)), ((mmR 18), .inl (cI, 2, .inl mm_earsF)), ((mmR 50), .inl (cI, 154, .inl mm_rowOfF)), ((mmR 21), .inl (cI, 2, .inl mm_placesF)), ((mmR 51), .inl (cI, 132, .inl mm_talkOfF))] H := hP
        have hD : va_D A [(a_p0, .inr (12, oX12 r_3_0 mmJ mmR)), ((mmR 45), .inl (cI, 22, .inl mm_nightOfF)), ((mmR 68), .inl (cI, 30, .inl r_3_1)), ((mmR 46), .inl (cI, 22, .inl mm_mileOfF)), ((mmR 47), .inl (cI, 22, .inl mm_roundsOfF)), ((mmR 48), .inl (cI, 22, .inl mm_talkingOfF)), ((mmR 49), .inl (cI, 22, .inl mm_hushOfF)), ((mmR 18), .inl (cI, 2, .inl mm_earsF)), ((mmR 50), .inl (cI, 154, .inl mm_rowOfF)), ((mmR 21), .inl (cI, 2, .inl mm_placesF)), ((mmR 51), .inl (cI, 132, .inl mm_talkOfF))] := hD
        refine W.eq (g2 := F0 m 80 ls []) rfl ?_
        refine lv_iinc (v := x1_57 + 1) (lv' := [(1, .int (x1_57 + 1)), (0, .ref a_p0)]) hx hb dX12_image_80 hl (k := 1) rfl (congrArg (fun q9 => x1_57 + q9) (by decide : Int32.ofInt 1 = 1)) (by decide) rfl (fun ls hl => ?_)
        refine lv_goto (tgt := 57) hx hb dX12_image_83 (by decide) ?_
        exact ih57 r_3_0 r_3_1 (x1_57 + 1) _ _ _ hf hP hD hS (lv_sub hl [1, 0] rfl)
  unfold fX12_image at hf
  refine lv_aload_n hx hb dX12_image_0 rfl (lv_at hl 0 rfl) ?_
  refine lv_iconst (v := 0) hx hb dX12_image_1 (by decide) ?_
  refine va_put (D := (dC, dI)) (ci := 12) (v := .int 0) (ty := .int) (C := RX12) (T := TX12) (N := 70) hx hb hts hinX12 tyX12 tyX12_ok nmX12 hown hK hP hD hS 0 rfl rfl 69 (by decide) hw0 (fun _ h9 => h9) rfl (by decide +kernel) rfl rfl (Nat.le_of_ble_eq_true rfl) dX12_image_2 (fun H locs hP hD hS => ?_)
  have hP : va_P (dC, dI) vwCl [(a_p0, .inr (12, oX12 (va_up mmI 69 0) mmJ mmR)), ((mmR 45), .inl (cI, 22, .inl mm_nightOfF)), ((mmR 68), .inl (cI, 30, .inl mm_outF)), ((mmR 46), .inl (cI, 22, .inl mm_mileOfF)), ((mmR 47), .inl (cI, 22, .inl mm_roundsOfF)), ((mmR 48), .inl (cI, 22, .inl mm_talkingOfF)), ((mmR 49), .inl (cI, 22, .inl mm_hushOfF)), ((mmR 18), .inl (cI, 2, .inl mm_earsF)), ((mmR 50), .inl (cI, 154, .inl mm_rowOfF)), ((mmR 21), .inl (cI, 2, .inl mm_placesF)), ((mmR 51), .inl (cI, 132, .inl mm_talkOfF))] H := hP
  have hD : va_D A [(a_p0, .inr (12, oX12 (va_up mmI 69 0) mmJ mmR)), ((mmR 45), .inl (cI, 22, .inl mm_nightOfF)), ((mmR 68), .inl (cI, 30, .inl mm_outF)), ((mmR 46), .inl (cI, 22, .inl mm_mileOfF)), ((mmR 47), .inl (cI, 22, .inl mm_roundsOfF)), ((mmR 48), .inl (cI, 22, .inl mm_talkingOfF)), ((mmR 49), .inl (cI, 22, .inl mm_hushOfF)), ((mmR 18), .inl (cI, 2, .inl mm_earsF)), ((mmR 50), .inl (cI, 154, .inl mm_rowOfF)), ((mmR 21), .inl (cI, 2, .inl mm_placesF)), ((mmR 51), .inl (cI, 132, .inl mm_talkOfF))] := hD
  refine lv_aload_n hx hb dX12_image_5 rfl (lv_at hl 0 rfl) ?_
  refine lv_aload_n hx hb dX12_image_6 rfl (lv_at hl 0 rfl) ?_
  refine va_get (D := (dC, dI)) (ci := 12) (v := .ref ((mmR 45))) (C := RX12) (T := TX12) (N := 70) hx hb hts hinX12 hown hK hP 0 rfl rfl 45 (by decide) hw2 (fun _ h9 => h9) rfl dX12_image_7 ?_
  refine lv_iconst (v := 0) hx hb dX12_image_10 (by decide) ?_
  refine xq_iald hx hb hK hP 1 0 rfl rfl hf dX12_image_11 (fun v_1 hf => ?_)
  obtain ⟨⟨r_2_0, r_2_1⟩, h_3, hf⟩ := xq_bd_some hf
  refine xq_callV (As := [.int v_1]) (rest := []) (ci := 12) (q0 := 0) ⟨hx, hb, hml, hown, hts⟩ (kX12_writesTwo l dC dI cI cB cJ cZ cM z ad N a_p0 ((va_up mmI 69 0)) mmJ mmR mm_outF v_1 h_3) (cwV 1 hts gX12_image_X12_writesTwo rfl rfl rfl (by decide +kernel) ⟨Nat.le_of_ble_eq_true rfl, Nat.le_of_ble_eq_true rfl⟩) hN hK hP hD hS hA [0, 2] (by decide) rfl rfl rfl rfl rfl rfl hl.1 rfl (Nat.le_of_ble_eq_true rfl) dX12_image_12 ⟨Nat.zero_le _, Nat.zero_le _⟩ (fun H locs hP hD hS => ?_)
  have hP : va_P (dC, dI) vwCl [(a_p0, .inr (12, oX12 r_2_0 mmJ mmR)), ((mmR 45), .inl (cI, 22, .inl mm_nightOfF)), ((mmR 68), .inl (cI, 30, .inl r_2_1)), ((mmR 46), .inl (cI, 22, .inl mm_mileOfF)), ((mmR 47), .inl (cI, 22, .inl mm_roundsOfF)), ((mmR 48), .inl (cI, 22, .inl mm_talkingOfF)), ((mmR 49), .inl (cI, 22, .inl mm_hushOfF)), ((mmR 18), .inl (cI, 2, .inl mm_earsF)), ((mmR 50), .inl (cI, 154, .inl mm_rowOfF)), ((mmR 21), .inl (cI, 2, .inl mm_placesF)), ((mmR 51), .inl (cI, 132, .inl mm_talkOfF))] H := hP
  have hD : va_D A [(a_p0, .inr (12, oX12 r_2_0 mmJ mmR)), ((mmR 45), .inl (cI, 22, .inl mm_nightOfF)), ((mmR 68), .inl (cI, 30, .inl r_2_1)), ((mmR 46), .inl (cI, 22, .inl mm_mileOfF)), ((mmR 47), .inl (cI, 22, .inl mm_roundsOfF)), ((mmR 48), .inl (cI, 22, .inl mm_talkingOfF)), ((mmR 49), .inl (cI, 22, .inl mm_hushOfF)), ((mmR 18), .inl (cI, 2, .inl mm_earsF)), ((mmR 50), .inl (cI, 154, .inl mm_rowOfF)), ((mmR 21), .inl (cI, 2, .inl mm_placesF)), ((mmR 51), .inl (cI, 132, .inl mm_talkOfF))] := hD
  refine W.eq (g2 := F0 m 15 ls []) rfl ?_
  refine lv_aload_n hx hb dX12_image_15 rfl (lv_at hl 0 rfl) ?_
  refine lv_aload_n hx hb dX12_image_16 rfl (lv_at hl 0 rfl) ?_
  refine va_get (D := (dC, dI)) (ci := 12) (v := .ref ((mmR 46))) (C := RX12) (T := TX12) (N := 70) hx hb hts hinX12 hown hK hP 0 rfl rfl 46 (by decide) hw3 (fun _ h9 => h9) rfl dX12_image_17 ?_
  refine lv_iconst (v := 0) hx hb dX12_image_20 (by decide) ?_
  refine xq_iald hx hb hK hP 3 0 rfl rfl hf dX12_image_21 (fun v_4 hf => ?_)
  obtain ⟨⟨r_5_0, r_5_1⟩, h_6, hf⟩ := xq_bd_some hf
  refine xq_callV (As := [.int v_4]) (rest := []) (ci := 12) (q0 := 0) ⟨hx, hb, hml, hown, hts⟩ (kX12_writesTwo l dC dI cI cB cJ cZ cM z ad N a_p0 r_2_0 mmJ mmR r_2_1 v_4 h_6) (cwV 1 hts gX12_image_X12_writesTwo rfl rfl rfl (by decide +kernel) ⟨Nat.le_of_ble_eq_true rfl, Nat.le_of_ble_eq_true rfl⟩) hN hK hP hD hS hA [0, 2] (by decide) rfl rfl rfl rfl rfl rfl hl.1 rfl (Nat.le_of_ble_eq_true rfl) dX12_image_22 ⟨Nat.zero_le _, Nat.zero_le _⟩ (fun H locs hP hD hS => ?_)
  have hP : va_P (dC, dI) vwCl [(a_p0, .inr (12, oX12 r_5_0 mmJ mmR)), ((mmR 45), .inl (cI, 22, .inl mm_nightOfF)), ((mmR 68), .inl (cI, 30, .inl r_5_1)), ((mmR 46), .inl (cI, 22, .inl mm_mileOfF)), ((mmR 47), .inl (cI, 22, .inl mm_roundsOfF)), ((mmR 48), .inl (cI, 22, .inl mm_talkingOfF)), ((mmR 49), .inl (cI, 22, .inl mm_hushOfF)), ((mmR 18), .inl (cI, 2, .inl mm_earsF)), ((mmR 50), .inl (cI, 154, .inl mm_rowOfF)), ((mmR 21), .inl (cI, 2, .inl mm_placesF)), ((mmR 51), .inl (cI, 132, .inl mm_talkOfF))] H := hP
  have hD : va_D A [(a_p0, .inr (12, oX12 r_5_0 mmJ mmR)), ((mmR 45), .inl (cI, 22, .inl mm_nightOfF)), ((mmR 68), .inl (cI, 30, .inl r_5_1)), ((mmR 46), .inl (cI, 22, .inl mm_mileOfF)), ((mmR 47), .inl (cI, 22, .inl mm_roundsOfF)), ((mmR 48), .inl (cI, 22, .inl mm_talkingOfF)), ((mmR 49), .inl (cI, 22, .inl mm_hushOfF)), ((mmR 18), .inl (cI, 2, .inl mm_earsF)), ((mmR 50), .inl (cI, 154, .inl mm_rowOfF)), ((mmR 21), .inl (cI, 2, .inl mm_placesF)), ((mmR 51), .inl (cI, 132, .inl mm_talkOfF))] := hD
  refine W.eq (g2 := F0 m 25 ls []) rfl ?_
  refine lv_aload_n hx hb dX12_image_25 rfl (lv_at hl 0 rfl) ?_
  refine lv_aload_n hx hb dX12_image_26 rfl (lv_at hl 0 rfl) ?_
  refine va_get (D := (dC, dI)) (ci := 12) (v := .ref ((mmR 47))) (C := RX12) (T := TX12) (N := 70) hx hb hts hinX12 hown hK hP 0 rfl rfl 47 (by decide) hw4 (fun _ h9 => h9) rfl dX12_image_27 ?_
  refine lv_iconst (v := 0) hx hb dX12_image_30 (by decide) ?_
  refine xq_iald hx hb hK hP 4 0 rfl rfl hf dX12_image_31 (fun v_7 hf => ?_)
  obtain ⟨⟨r_8_0, r_8_1⟩, h_9, hf⟩ := xq_bd_some hf
  refine xq_callV (As := [.int v_7]) (rest := []) (ci := 12) (q0 := 0) ⟨hx, hb, hml, hown, hts⟩ (kX12_writesTwo l dC dI cI cB cJ cZ cM z ad N a_p0 r_5_0 mmJ mmR r_5_1 v_7 h_9) (cwV 1 hts gX12_image_X12_writesTwo rfl rfl rfl (by decide +kernel) ⟨Nat.le_of_ble_eq_true rfl, Nat.le_of_ble_eq_true rfl⟩) hN hK hP hD hS hA [0, 2] (by decide) rfl rfl rfl rfl rfl rfl hl.1 rfl (Nat.le_of_ble_eq_true rfl) dX12_image_32 ⟨Nat.zero_le _, Nat.zero_le _⟩ (fun H locs hP hD hS => ?_)
  have hP : va_P (dC, dI) vwCl [(a_p0, .inr (12, oX12 r_8_0 mmJ mmR)), ((mmR 45), .inl (cI, 22, .inl mm_nightOfF)), ((mmR 68), .inl (cI, 30, .inl r_8_1)), ((mmR 46), .inl (cI, 22, .inl mm_mileOfF)), ((mmR 47), .inl (cI, 22, .inl mm_roundsOfF)), ((mmR 48), .inl (cI, 22, .inl mm_talkingOfF)), ((mmR 49), .inl (cI, 22, .inl mm_hushOfF)), ((mmR 18), .inl (cI, 2, .inl mm_earsF)), ((mmR 50), .inl (cI, 154, .inl mm_rowOfF)), ((mmR 21), .inl (cI, 2, .inl mm_placesF)), ((mmR 51), .inl (cI, 132, .inl mm_talkOfF))] H := hP
  have hD : va_D A [(a_p0, .inr (12, oX12 r_8_0 mmJ mmR)), ((mmR 45), .inl (cI, 22, .inl mm_nightOfF)), ((mmR 68), .inl (cI, 30, .inl r_8_1)), ((mmR 46), .inl (cI, 22, .inl mm_mileOfF)), ((mmR 47), .inl (cI, 22, .inl mm_roundsOfF)), ((mmR 48), .inl (cI, 22, .inl mm_talkingOfF)), ((mmR 49), .inl (cI, 22, .inl mm_hushOfF)), ((mmR 18), .inl (cI, 2, .inl mm_earsF)), ((mmR 50), .inl (cI, 154, .inl mm_rowOfF)), ((mmR 21), .inl (cI, 2, .inl mm_placesF)), ((mmR 51), .inl (cI, 132, .inl mm_talkOfF))] := hD
  refine W.eq (g2 := F0 m 35 ls []) rfl ?_
  refine lv_aload_n hx hb dX12_image_35 rfl (lv_at hl 0 rfl) ?_
  refine lv_aload_n hx hb dX12_image_36 rfl (lv_at hl 0 rfl) ?_
  refine va_get (D := (dC, dI)) (ci := 12) (v := .ref ((mmR 48))) (C := RX12) (T := TX12) (N := 70) hx hb hts hinX12 hown hK hP 0 rfl rfl 48 (by decide) hw5 (fun _ h9 => h9) rfl dX12_image_37 ?_
  refine lv_iconst (v := 0) hx hb dX12_image_40 (by decide) ?_
  refine xq_iald hx hb hK hP 5 0 rfl rfl hf dX12_image_41 (fun v_10 hf => ?_)
  obtain ⟨⟨r_11_0, r_11_1⟩, h_12, hf⟩ := xq_bd_some hf
  refine xq_callV (As := [.int v_10]) (rest := []) (ci := 12) (q0 := 0) ⟨hx, hb, hml, hown, hts⟩ (kX12_writes l dC dI cI cB cJ cZ cM z ad N a_p0 r_8_0 mmJ mmR r_8_1 v_10 h_12) (cwV 1 hts gX12_image_X12_writes rfl rfl rfl (by decide +kernel) ⟨Nat.le_of_ble_eq_true rfl, Nat.le_of_ble_eq_true rfl⟩) hN hK hP hD hS hA [0, 2] (by decide) rfl rfl rfl rfl rfl rfl hl.1 rfl (Nat.le_of_ble_eq_true rfl) dX12_image_42 ⟨Nat.zero_le _, Nat.zero_le _⟩ (fun H locs hP hD hS => ?_)
  have hP : va_P (dC, dI) vwCl [(a_p0, .inr (12, oX12 r_11_0 mmJ mmR)), ((mmR 45), .inl (cI, 22, .inl mm_nightOfF)), ((mmR 68), .inl (cI, 30, .inl r_11_1)), ((mmR 46), .inl (cI, 22, .inl mm_mileOfF)), ((mmR 47), .inl (cI, 22, .inl mm_roundsOfF)), ((mmR 48), .inl (cI, 22, .inl mm_talkingOfF)), ((mmR 49), .inl (cI, 22, .inl mm_hushOfF)), ((mmR 18), .inl (cI, 2, .inl mm_earsF)), ((mmR 50), .inl (cI, 154, .inl mm_rowOfF)), ((mmR 21), .inl (cI, 2, .inl mm_placesF)), ((mmR 51), .inl (cI, 132, .inl mm_talkOfF))] H := hP
  have hD : va_D A [(a_p0, .inr (12, oX12 r_11_0 mmJ mmR)), ((mmR 45), .inl (cI, 22, .inl mm_nightOfF)), ((mmR 68), .inl (cI, 30, .inl r_11_1)), ((mmR 46), .inl (cI, 22, .inl mm_mileOfF)), ((mmR 47), .inl (cI, 22, .inl mm_roundsOfF)), ((mmR 48), .inl (cI, 22, .inl mm_talkingOfF)), ((mmR 49), .inl (cI, 22, .inl mm_hushOfF)), ((mmR 18), .inl (cI, 2, .inl mm_earsF)), ((mmR 50), .inl (cI, 154, .inl mm_rowOfF)), ((mmR 21), .inl (cI, 2, .inl mm_placesF)), ((mmR 51), .inl (cI, 132, .inl mm_talkOfF))] := hD
  refine W.eq (g2 := F0 m 45 ls []) rfl ?_
  refine lv_aload_n hx hb dX12_image_45 rfl (lv_at hl 0 rfl) ?_
  refine lv_aload_n hx hb dX12_image_46 rfl (lv_at hl 0 rfl) ?_
  refine va_get (D := (dC, dI)) (ci := 12) (v := .ref ((mmR 49))) (C := RX12) (T := TX12) (N := 70) hx hb hts hinX12 hown hK hP 0 rfl rfl 49 (by decide) hw6 (fun _ h9 => h9) rfl dX12_image_47 ?_
  refine lv_iconst (v := 0) hx hb dX12_image_50 (by decide) ?_
  refine xq_iald hx hb hK hP 6 0 rfl rfl hf dX12_image_51 (fun v_13 hf => ?_)
  obtain ⟨⟨r_14_0, r_14_1⟩, h_15, hf⟩ := xq_bd_some hf
  refine xq_callV (As := [.int v_13]) (rest := []) (ci := 12) (q0 := 0) ⟨hx, hb, hml, hown, hts⟩ (kX12_writes l dC dI cI cB cJ cZ cM z ad N a_p0 r_11_0 mmJ mmR r_11_1 v_13 h_15) (cwV 1 hts gX12_image_X12_writes rfl rfl rfl (by decide +kernel) ⟨Nat.le_of_ble_eq_true rfl, Nat.le_of_ble_eq_true rfl⟩) hN hK hP hD hS hA [0, 2] (by decide) rfl rfl rfl rfl rfl rfl hl.1 rfl (Nat.le_of_ble_eq_true rfl) dX12_image_52 ⟨Nat.zero_le _, Nat.zero_le _⟩ (fun H locs hP hD hS => ?_)
  have hP : va_P (dC, dI) vwCl [(a_p0, .inr (12, oX12 r_14_0 mmJ mmR)), ((mmR 45), .inl (cI, 22, .inl mm_nightOfF)), ((mmR 68), .inl (cI, 30, .inl r_14_1)), ((mmR 46), .inl (cI, 22, .inl mm_mileOfF)), ((mmR 47), .inl (cI, 22, .inl mm_roundsOfF)), ((mmR 48), .inl (cI, 22, .inl mm_talkingOfF)), ((mmR 49), .inl (cI, 22, .inl mm_hushOfF)), ((mmR 18), .inl (cI, 2, .inl mm_earsF)), ((mmR 50), .inl (cI, 154, .inl mm_rowOfF)), ((mmR 21), .inl (cI, 2, .inl mm_placesF)), ((mmR 51), .inl (cI, 132, .inl mm_talkOfF))] H := hP
  have hD : va_D A [(a_p0, .inr (12, oX12 r_14_0 mmJ mmR)), ((mmR 45), .inl (cI, 22, .inl mm_nightOfF)), ((mmR 68), .inl (cI, 30, .inl r_14_1)), ((mmR 46), .inl (cI, 22, .inl mm_mileOfF)), ((mmR 47), .inl (cI, 22, .inl mm_roundsOfF)), ((mmR 48), .inl (cI, 22, .inl mm_talkingOfF)), ((mmR 49), .inl (cI, 22, .inl mm_hushOfF)), ((mmR 18), .inl (cI, 2, .inl mm_earsF)), ((mmR 50), .inl (cI, 154, .inl mm_rowOfF)), ((mmR 21), .inl (cI, 2, .inl mm_placesF)), ((mmR 51), .inl (cI, 132, .inl mm_talkOfF))] := hD
  refine W.eq (g2 := F0 m 55 ls []) rfl ?_
  refine lv_iconst (v := 0) hx hb dX12_image_55 (by decide) ?_
  refine lv_istore_n (lv' := [(1, .int 0), (0, .ref a_p0)]) hx hb dX12_image_56 rfl hl (by decide) rfl (fun ls hl => ?_)
  exact l57 N r_14_0 r_14_1 0 _ _ _ hf hP hD hS (lv_sub hl [1, 0] rfl)
set_option maxRecDepth 20000 in
theorem ggX12_octet_X12_is : GoodIn wsX12_octet wsX12_is := goodIn_r _ [6] rfl (by decide +kernel)
set_option maxRecDepth 20000 in
theorem gX12_octet_X12_is : GoodIn wsX12_octet (va_wsS RX12 301 yX12_is wsX12_is) := goodIn_app (goodIn_of _ (by decide +kernel)) ggX12_octet_X12_is
def dsX12_octet_0 : List (Nat × Instr × Nat) := [(0, (.iload_n 1, 1)), (1, (.iconst 0, 1)), (2, (.aload_n 0, 1)), (3, (.getfield 222, 3)), (6, (.iconst 1, 1)), (7, (.isub, 1)), (8, (.invokestatic 301, 3)), (11, (.ifCond .eq 12, 3)), (14, (.aload_n 0, 1)), (15, (.getfield 219, 3)), (18, (.iload_n 1, 1)), (19, (.iaload, 1)), (20, (.goto 4, 3)), (23, (.iconst (-1), 1)), (24, (.ireturn, 1))]
theorem dsX12_octet_0_ok : (dsX12_octet_0.all fun q => decide (decode cX12_octet q.1 = .ok q.2)) = true := by decide +kernel
theorem dX12_octet_0 : decode cX12_octet 0 = .ok (.iload_n 1, 1) := of_decide_eq_true (List.all_eq_true.mp dsX12_octet_0_ok (0, (.iload_n 1, 1)) (List.mem_of_getElem? (i := 0) rfl))
theorem dX12_octet_1 : decode cX12_octet 1 = .ok (.iconst 0, 1) := of_decide_eq_true (List.all_eq_true.mp dsX12_octet_0_ok (1, (.iconst 0, 1)) (List.mem_of_getElem? (i := 1) rfl))
theorem dX12_octet_2 : decode cX12_octet 2 = .ok (.aload_n 0, 1) := of_decide_eq_true (List.all_eq_true.mp dsX12_octet_0_ok (2, (.aload_n 0, 1)) (List.mem_of_getElem? (i := 2) rfl))
theorem dX12_octet_3 : decode cX12_octet 3 = .ok (.getfield 222, 3) := of_decide_eq_true (List.all_eq_true.mp dsX12_octet_0_ok (3, (.getfield 222, 3)) (List.mem_of_getElem? (i := 3) rfl))
theorem dX12_octet_6 : decode cX12_octet 6 = .ok (.iconst 1, 1) := of_decide_eq_true (List.all_eq_true.mp dsX12_octet_0_ok (6, (.iconst 1, 1)) (List.mem_of_getElem? (i := 4) rfl))
theorem dX12_octet_7 : decode cX12_octet 7 = .ok (.isub, 1) := of_decide_eq_true (List.all_eq_true.mp dsX12_octet_0_ok (7, (.isub, 1)) (List.mem_of_getElem? (i := 5) rfl))
theorem dX12_octet_8 : decode cX12_octet 8 = .ok (.invokestatic 301, 3) := of_decide_eq_true (List.all_eq_true.mp dsX12_octet_0_ok (8, (.invokestatic 301, 3)) (List.mem_of_getElem? (i := 6) rfl))
theorem dX12_octet_11 : decode cX12_octet 11 = .ok (.ifCond .eq 12, 3) := of_decide_eq_true (List.all_eq_true.mp dsX12_octet_0_ok (11, (.ifCond .eq 12, 3)) (List.mem_of_getElem? (i := 7) rfl))
theorem dX12_octet_14 : decode cX12_octet 14 = .ok (.aload_n 0, 1) := of_decide_eq_true (List.all_eq_true.mp dsX12_octet_0_ok (14, (.aload_n 0, 1)) (List.mem_of_getElem? (i := 8) rfl))
theorem dX12_octet_15 : decode cX12_octet 15 = .ok (.getfield 219, 3) := of_decide_eq_true (List.all_eq_true.mp dsX12_octet_0_ok (15, (.getfield 219, 3)) (List.mem_of_getElem? (i := 9) rfl))
theorem dX12_octet_18 : decode cX12_octet 18 = .ok (.iload_n 1, 1) := of_decide_eq_true (List.all_eq_true.mp dsX12_octet_0_ok (18, (.iload_n 1, 1)) (List.mem_of_getElem? (i := 10) rfl))
theorem dX12_octet_19 : decode cX12_octet 19 = .ok (.iaload, 1) := of_decide_eq_true (List.all_eq_true.mp dsX12_octet_0_ok (19, (.iaload, 1)) (List.mem_of_getElem? (i := 11) rfl))
theorem dX12_octet_20 : decode cX12_octet 20 = .ok (.goto 4, 3) := of_decide_eq_true (List.all_eq_true.mp dsX12_octet_0_ok (20, (.goto 4, 3)) (List.mem_of_getElem? (i := 12) rfl))
theorem dX12_octet_23 : decode cX12_octet 23 = .ok (.iconst (-1), 1) := of_decide_eq_true (List.all_eq_true.mp dsX12_octet_0_ok (23, (.iconst (-1), 1)) (List.mem_of_getElem? (i := 13) rfl))
theorem dX12_octet_24 : decode cX12_octet 24 = .ok (.ireturn, 1) := of_decide_eq_true (List.all_eq_true.mp dsX12_octet_0_ok (24, (.ireturn, 1)) (List.mem_of_getElem? (i := 14) rfl))
def fX12_octet (N : Nat) (mmI : Nat → Int32) (mm_outF : Nat → Int32)  (p1 : Int32) : Option (Int32) :=
  (xq_bd (fX12_is N p1 0 ((mmI 69) - 1)) fun r_1 => (if r_1 = 0 then some ((-1)) else (xq_bd (xq_ald 30 mm_outF p1) fun v_3 => some v_3)))
set_option maxHeartbeats 4000000 in
set_option maxRecDepth 100000 in
theorem kX12_octet (l : Launch) (dC : Nat → ClassId) (dI : Nat → Nat → Nat) (cI cB cJ cZ cM : ClassId) (z : Nat) (ad : Nat → Nat) (N : Nat) (a_p0 : Nat) (mmI : Nat → Int32) (mmJ : Nat → Int64) (mmR : Nat → Nat) (mm_outF : Nat → Int32) (p1 : Int32) {r0 : Int32} (hf : fX12_octet N mmI mm_outF p1 = some r0) : xq_Ct l yX12_octet wsX12_octet { frames := 1, cells := 0, slots := 0, locals := 22 } (dC, dI) vwCl (xq_tys cI cB cJ cZ cM) z ad [.ref a_p0, .int p1] [(a_p0, .inr (12, oX12 mmI mmJ mmR)), ((mmR 68), .inl (cI, 30, .inl mm_outF))] [(a_p0, .inr (12, oX12 mmI mmJ mmR)), ((mmR 68), .inl (cI, 30, .inl mm_outF))] (some (.int r0)) := by
  intro sz
  refine Met.ofW (cc := cX12_octet) (maxL := 2) (ret := (some .int)) (by decide) rfl ?_
  intro p e s m args below meth c s₁ B hml hv
  obtain ⟨rfl, hsz, hP, hK, hD0, hE, hz⟩ := hv
  have hx := B.exec
  have hb := B.bytes
  have hr := B.returns
  have hts := atoms_spec (ws := wsX12_octet) B.pre
  have hown : s.vm.findClass RX12 = some m.cls := findClass_of_methodNamed B.named
  have hlocks := B.notSynchronized
  subst hsz
  have hD := hD0.self (sz := s.heap.size)
  have hN := xq_Env.of hE hz hD0
  generalize hAe : va_A [(a_p0, .inr (12, oX12 mmI mmJ mmR)), ((mmR 68), .inl (cI, 30, .inl mm_outF))] s.heap.size = A at hD hN ⊢
  have hA : ∀ q : Nat, s.heap.size ≤ q → A q := fun q h => by rw [← hAe]; exact Or.inr h
  clear hAe hD0
  have hS : va_S A s.heap s.heap [] := va_S.rf
  have hl := lv_entry ([.ref a_p0, .int p1]) (n := 2) (Nat.le_of_ble_eq_true rfl)
  rw [lg_entry_eq]
  generalize (lg_sl ([.ref a_p0, .int p1]) ++ List.replicate (2 - (lg_sl ([.ref a_p0, .int p1])).length) Slot.unset).toArray = ls at hl ⊢
  have hl : lv_has ls 2 [(0, .ref a_p0), (1, .int p1)] := hl
  have hw0 := hts (.fieldLink RX12 222 "DistantVoiceModel" "outs" "I") (by decide +kernel)
  have hinX12 : ∀ w ∈ wsX120, w ∈ wsX12_octet := fun w h => List.mem_cons_of_mem _ (List.mem_append_right _ h)
  have hw2 := hts (.fieldLink RX12 219 "DistantVoiceModel" "out" "[I") (by decide +kernel)
  unfold fX12_octet at hf
  refine lv_iload_n hx hb dX12_octet_0 rfl (lv_at hl 1 rfl) ?_
  refine lv_iconst (v := 0) hx hb dX12_octet_1 (by decide) ?_
  refine lv_aload_n hx hb dX12_octet_2 rfl (lv_at hl 0 rfl) ?_
  refine va_get (D := (dC, dI)) (ci := 12) (v := .int (mmI 69)) (C := RX12) (T := TX12) (N := 70) hx hb hts hinX12 hown hK hP 0 rfl rfl 69 (by decide) hw0 (fun _ h9 => h9) rfl dX12_octet_3 ?_
  refine lv_iconst (v := 1) hx hb dX12_octet_6 (by decide) ?_
  refine lv_isub hx hb dX12_octet_7 ?_
  obtain ⟨r_1, h_2, hf⟩ := xq_bd_some hf
  refine xq_callS (As := [.int p1, .int 0, .int ((mmI 69) - 1)]) (rest := []) ⟨hx, hb, hml, hown, hts⟩ (kX12_is l dC dI cI cB cJ cZ cM z ad N p1 0 ((mmI 69) - 1) h_2) (va_cwS 3 hts gX12_octet_X12_is rfl rfl rfl (by decide +kernel) ⟨Nat.le_of_ble_eq_true rfl, Nat.le_of_ble_eq_true rfl⟩) hN hK hP hD hS hA [] (by decide) rfl rfl rfl hl.1 rfl (Nat.le_of_ble_eq_true rfl) dX12_octet_8 ⟨Nat.zero_le _, Nat.zero_le _⟩ (fun H locs hP hD hS => ?_)
  have hP : va_P (dC, dI) vwCl [(a_p0, .inr (12, oX12 mmI mmJ mmR)), ((mmR 68), .inl (cI, 30, .inl mm_outF))] H := hP
  have hD : va_D A [(a_p0, .inr (12, oX12 mmI mmJ mmR)), ((mmR 68), .inl (cI, 30, .inl mm_outF))] := hD
  refine W.eq (g2 := F0 m 11 ls [.int r_1]) rfl ?_
  refine lv_if_eq (tgt := 23) hx hb dX12_octet_11 (by decide) (fun c_ => ?_) (fun c_ => ?_)
  · have hf := xq_pos hf c_
    refine lv_iconst (v := (-1)) hx hb dX12_octet_23 (by decide) ?_
    have e9_0 : (-1) = r0 := Option.some.inj hf
    subst e9_0
    exact xq_iret hx hb hr hlocks hK hP hD hS dX12_octet_24
  · have hf := xq_neg hf c_
    refine lv_aload_n hx hb dX12_octet_14 rfl (lv_at hl 0 rfl) ?_
    refine va_get (D := (dC, dI)) (ci := 12) (v := .ref ((mmR 68))) (C := RX12) (T := TX12) (N := 70) hx hb hts hinX12 hown hK hP 0 rfl rfl 68 (by decide) hw2 (fun _ h9 => h9) rfl dX12_octet_15 ?_
    refine lv_iload_n hx hb dX12_octet_18 rfl (lv_at hl 1 rfl) ?_
    refine xq_iald hx hb hK hP 1 0 rfl rfl hf dX12_octet_19 (fun v_3 hf => ?_)
    refine lv_goto (tgt := 24) hx hb dX12_octet_20 (by decide) ?_
    have e9_0 : v_3 = r0 := Option.some.inj hf
    subst e9_0
    exact xq_iret hx hb hr hlocks hK hP hD hS dX12_octet_24
def dsX12_twoAt_0 : List (Nat × Instr × Nat) := [(0, (.aload_n 0, 1)), (1, (.getfield 7, 3)), (4, (.iload_n 1, 1)), (5, (.iaload, 1)), (6, (.bipush 8, 2)), (8, (.ishl, 1)), (9, (.aload_n 0, 1)), (10, (.getfield 7, 3)), (13, (.iload_n 1, 1)), (14, (.iconst 1, 1)), (15, (.iadd, 1)), (16, (.iaload, 1)), (17, (.ior, 1)), (18, (.ireturn, 1))]
theorem dsX12_twoAt_0_ok : (dsX12_twoAt_0.all fun q => decide (decode cX12_twoAt q.1 = .ok q.2)) = true := by decide +kernel
theorem dX12_twoAt_0 : decode cX12_twoAt 0 = .ok (.aload_n 0, 1) := of_decide_eq_true (List.all_eq_true.mp dsX12_twoAt_0_ok (0, (.aload_n 0, 1)) (List.mem_of_getElem? (i := 0) rfl))
theorem dX12_twoAt_1 : decode cX12_twoAt 1 = .ok (.getfield 7, 3) := of_decide_eq_true (List.all_eq_true.mp dsX12_twoAt_0_ok (1, (.getfield 7, 3)) (List.mem_of_getElem? (i := 1) rfl))
theorem dX12_twoAt_4 : decode cX12_twoAt 4 = .ok (.iload_n 1, 1) := of_decide_eq_true (List.all_eq_true.mp dsX12_twoAt_0_ok (4, (.iload_n 1, 1)) (List.mem_of_getElem? (i := 2) rfl))
theorem dX12_twoAt_5 : decode cX12_twoAt 5 = .ok (.iaload, 1) := of_decide_eq_true (List.all_eq_true.mp dsX12_twoAt_0_ok (5, (.iaload, 1)) (List.mem_of_getElem? (i := 3) rfl))
theorem dX12_twoAt_6 : decode cX12_twoAt 6 = .ok (.bipush 8, 2) := of_decide_eq_true (List.all_eq_true.mp dsX12_twoAt_0_ok (6, (.bipush 8, 2)) (List.mem_of_getElem? (i := 4) rfl))
theorem dX12_twoAt_8 : decode cX12_twoAt 8 = .ok (.ishl, 1) := of_decide_eq_true (List.all_eq_true.mp dsX12_twoAt_0_ok (8, (.ishl, 1)) (List.mem_of_getElem? (i := 5) rfl))
theorem dX12_twoAt_9 : decode cX12_twoAt 9 = .ok (.aload_n 0, 1) := of_decide_eq_true (List.all_eq_true.mp dsX12_twoAt_0_ok (9, (.aload_n 0, 1)) (List.mem_of_getElem? (i := 6) rfl))
theorem dX12_twoAt_10 : decode cX12_twoAt 10 = .ok (.getfield 7, 3) := of_decide_eq_true (List.all_eq_true.mp dsX12_twoAt_0_ok (10, (.getfield 7, 3)) (List.mem_of_getElem? (i := 7) rfl))
theorem dX12_twoAt_13 : decode cX12_twoAt 13 = .ok (.iload_n 1, 1) := of_decide_eq_true (List.all_eq_true.mp dsX12_twoAt_0_ok (13, (.iload_n 1, 1)) (List.mem_of_getElem? (i := 8) rfl))
theorem dX12_twoAt_14 : decode cX12_twoAt 14 = .ok (.iconst 1, 1) := of_decide_eq_true (List.all_eq_true.mp dsX12_twoAt_0_ok (14, (.iconst 1, 1)) (List.mem_of_getElem? (i := 9) rfl))
theorem dX12_twoAt_15 : decode cX12_twoAt 15 = .ok (.iadd, 1) := of_decide_eq_true (List.all_eq_true.mp dsX12_twoAt_0_ok (15, (.iadd, 1)) (List.mem_of_getElem? (i := 10) rfl))
theorem dX12_twoAt_16 : decode cX12_twoAt 16 = .ok (.iaload, 1) := of_decide_eq_true (List.all_eq_true.mp dsX12_twoAt_0_ok (16, (.iaload, 1)) (List.mem_of_getElem? (i := 11) rfl))
theorem dX12_twoAt_17 : decode cX12_twoAt 17 = .ok (.ior, 1) := of_decide_eq_true (List.all_eq_true.mp dsX12_twoAt_0_ok (17, (.ior, 1)) (List.mem_of_getElem? (i := 12) rfl))
theorem dX12_twoAt_18 : decode cX12_twoAt 18 = .ok (.ireturn, 1) := of_decide_eq_true (List.all_eq_true.mp dsX12_twoAt_0_ok (18, (.ireturn, 1)) (List.mem_of_getElem? (i := 13) rfl))
def fX12_twoAt (N : Nat) (mm_tapeF : Nat → Int32)  (p1 : Int32) : Option (Int32) :=
  (xq_bd (xq_ald 1800 mm_tapeF p1) fun v_1 => (xq_bd (xq_ald 1800 mm_tapeF (p1 + 1)) fun v_2 => some ((v_1 <<< (8 &&& 31)) ||| v_2)))
set_option maxHeartbeats 4000000 in
set_option maxRecDepth 100000 in
theorem kX12_twoAt (l : Launch) (dC : Nat → ClassId) (dI : Nat → Nat → Nat) (cI cB cJ cZ cM : ClassId) (z : Nat) (ad : Nat → Nat) (N : Nat) (a_p0 : Nat) (mmI : Nat → Int32) (mmJ : Nat → Int64) (mmR : Nat → Nat) (mm_tapeF : Nat → Int32) (p1 : Int32) {r0 : Int32} (hf : fX12_twoAt N mm_tapeF p1 = some r0) : xq_Ct l yX12_twoAt wsX12_twoAt { frames := 0, cells := 0, slots := 0, locals := 0 } (dC, dI) vwCl (xq_tys cI cB cJ cZ cM) z ad [.ref a_p0, .int p1] [(a_p0, .inr (12, oX12 mmI mmJ mmR)), ((mmR 0), .inl (cI, 1800, .inl mm_tapeF))] [(a_p0, .inr (12, oX12 mmI mmJ mmR)), ((mmR 0), .inl (cI, 1800, .inl mm_tapeF))] (some (.int r0)) := by
  intro sz
  refine Met.ofW (cc := cX12_twoAt) (maxL := 2) (ret := (some .int)) (by decide) rfl ?_
  intro p e s m args below meth c s₁ B hml hv
  obtain ⟨rfl, hsz, hP, hK, hD0, hE, hz⟩ := hv
  have hx := B.exec
  have hb := B.bytes
  have hr := B.returns
  have hts := atoms_spec (ws := wsX12_twoAt) B.pre
  have hown : s.vm.findClass RX12 = some m.cls := findClass_of_methodNamed B.named
  have hlocks := B.notSynchronized
  subst hsz
  have hD := hD0.self (sz := s.heap.size)
  have hN := xq_Env.of hE hz hD0
  generalize hAe : va_A [(a_p0, .inr (12, oX12 mmI mmJ mmR)), ((mmR 0), .inl (cI, 1800, .inl mm_tapeF))] s.heap.size = A at hD hN ⊢
  have hA : ∀ q : Nat, s.heap.size ≤ q → A q := fun q h => by rw [← hAe]; exact Or.inr h
  clear hAe hD0
  have hS : va_S A s.heap s.heap [] := va_S.rf
  have hl := lv_entry ([.ref a_p0, .int p1]) (n := 2) (Nat.le_of_ble_eq_true rfl)
  rw [lg_entry_eq]
  generalize (lg_sl ([.ref a_p0, .int p1]) ++ List.replicate (2 - (lg_sl ([.ref a_p0, .int p1])).length) Slot.unset).toArray = ls at hl ⊢
  have hl : lv_has ls 2 [(0, .ref a_p0), (1, .int p1)] := hl
  have hw0 := hts (.fieldLink RX12 7 "DistantVoiceModel" "tape" "[I") (by decide +kernel)
  have hinX12 : ∀ w ∈ wsX120, w ∈ wsX12_twoAt := fun w h => List.mem_cons_of_mem _ (List.mem_append_right _ h)
  unfold fX12_twoAt at hf
  refine lv_aload_n hx hb dX12_twoAt_0 rfl (lv_at hl 0 rfl) ?_
  refine va_get (D := (dC, dI)) (ci := 12) (v := .ref ((mmR 0))) (C := RX12) (T := TX12) (N := 70) hx hb hts hinX12 hown hK hP 0 rfl rfl 0 (by decide) hw0 (fun _ h9 => h9) rfl dX12_twoAt_1 ?_
  refine lv_iload_n hx hb dX12_twoAt_4 rfl (lv_at hl 1 rfl) ?_
  refine xq_iald hx hb hK hP 1 0 rfl rfl hf dX12_twoAt_5 (fun v_1 hf => ?_)
  refine lv_bipush (v := 8) hx hb dX12_twoAt_6 (by decide) ?_
  refine lv_ishl hx hb dX12_twoAt_8 ?_
  refine lv_aload_n hx hb dX12_twoAt_9 rfl (lv_at hl 0 rfl) ?_
  refine va_get (D := (dC, dI)) (ci := 12) (v := .ref ((mmR 0))) (C := RX12) (T := TX12) (N := 70) hx hb hts hinX12 hown hK hP 0 rfl rfl 0 (by decide) hw0 (fun _ h9 => h9) rfl dX12_twoAt_10 ?_
  refine lv_iload_n hx hb dX12_twoAt_13 rfl (lv_at hl 1 rfl) ?_
  refine lv_iconst (v := 1) hx hb dX12_twoAt_14 (by decide) ?_
  refine lv_iadd hx hb dX12_twoAt_15 ?_
  refine xq_iald hx hb hK hP 1 0 rfl rfl hf dX12_twoAt_16 (fun v_2 hf => ?_)
  refine lv_ior hx hb dX12_twoAt_17 ?_
  have e9_0 : (v_1 <<< (8 &&& 31)) ||| v_2 = r0 := Option.some.inj hf
  subst e9_0
  exact xq_iret hx hb hr hlocks hK hP hD hS dX12_twoAt_18
