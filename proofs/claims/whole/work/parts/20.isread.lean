set_option maxRecDepth 20000 in
theorem ggX4_isRead_X9_at : GoodIn wsX4_isRead wsX9_at := goodIn_r _ [5, 6, 7, 37, 38] rfl (by decide +kernel)
set_option maxRecDepth 20000 in
theorem gX4_isRead_X9_at : GoodIn wsX4_isRead (wsV RX4 64 RX9 yX9_at wsX9_at) := goodIn_app (goodIn_of _ (by decide +kernel)) ggX4_isRead_X9_at
set_option maxRecDepth 20000 in
theorem ggX4_isRead_X4_checkOn : GoodIn wsX4_isRead wsX4_checkOn := goodIn_r _ [11] rfl (by decide +kernel)
set_option maxRecDepth 20000 in
theorem gX4_isRead_X4_checkOn : GoodIn wsX4_isRead (va_wsS RX4 49 yX4_checkOn wsX4_checkOn) := goodIn_app (goodIn_of _ (by decide +kernel)) ggX4_isRead_X4_checkOn
set_option maxRecDepth 20000 in
theorem ggX4_isRead_X4_twoAt : GoodIn wsX4_isRead wsX4_twoAt := goodIn_r _ [14, 1, 2, 3, 4, 5, 6, 7, 37, 38] rfl (by decide +kernel)
set_option maxRecDepth 20000 in
theorem gX4_isRead_X4_twoAt : GoodIn wsX4_isRead (va_wsS RX4 68 yX4_twoAt wsX4_twoAt) := goodIn_app (goodIn_of _ (by decide +kernel)) ggX4_isRead_X4_twoAt
set_option maxRecDepth 20000 in
theorem ggX4_isRead_X11_isDigit : GoodIn wsX4_isRead wsX11_isDigit := goodIn_r _ [17] rfl (by decide +kernel)
set_option maxRecDepth 20000 in
theorem gX4_isRead_X11_isDigit_n75 : GoodIn wsX4_isRead (wsX11_isDigit) := ggX4_isRead_X11_isDigit
def dsX4_isRead_0 : List (Nat × Instr × Nat) := [(0, (.bipush 8, 2)), (2, (.aload_n 2, 1)), (3, (.getfield 53, 3)), (6, (.iadd, 1)), (7, (.aload_n 2, 1)), (8, (.getfield 58, 3)), (11, (.iadd, 1)), (12, (.istore_n 3, 1)), (13, (.aload_n 0, 1)), (14, (.getfield 61, 3)), (17, (.iload_n 3, 1)), (18, (.iconst 1, 1)), (19, (.iadd, 1)), (20, (.if_icmp .eq 5, 3)), (23, (.iconst 0, 1)), (24, (.ireturn, 1)), (25, (.sipush 239, 3)), (28, (.istore 4, 2)), (30, (.iconst 0, 1)), (31, (.istore 5, 2)), (33, (.iload 5, 2)), (35, (.iload_n 3, 1)), (36, (.if_icmp .ge 22, 3)), (39, (.iload 4, 2)), (41, (.aload_n 0, 1)), (42, (.iload 5, 2)), (44, (.invokevirtual 64, 3)), (47, (.invokestatic 49, 3)), (50, (.istore 4, 2)), (52, (.iinc 5 1, 3)), (55, (.goto (-22), 3)), (58, (.aload_n 1, 1)), (59, (.aload_n 0, 1)), (60, (.iconst 0, 1)), (61, (.invokestatic 68, 3)), (64, (.putfield 19, 3)), (67, (.aload_n 1, 1)), (68, (.aload_n 0, 1)), (69, (.iconst 2, 1)), (70, (.invokestatic 68, 3)), (73, (.putfield 28, 3)), (76, (.aload_n 1, 1)), (77, (.aload_n 0, 1)), (78, (.iconst 4, 1)), (79, (.invokestatic 68, 3)), (82, (.putfield 31, 3)), (85, (.aload_n 1, 1)), (86, (.aload_n 0, 1)), (87, (.bipush 6, 2)), (89, (.invokevirtual 64, 3)), (92, (.putfield 34, 3)), (95, (.aload_n 1, 1)), (96, (.aload_n 0, 1)), (97, (.bipush 7, 2)), (99, (.invokevirtual 64, 3)), (102, (.putfield 40, 3)), (105, (.aload_n 1, 1)), (106, (.iconst 0, 1)), (107, (.putfield 72, 3)), (110, (.aload_n 1, 1))]
theorem dsX4_isRead_0_ok : (dsX4_isRead_0.all fun q => decide (decode cX4_isRead q.1 = .ok q.2)) = true := by decide +kernel
theorem dX4_isRead_0 : decode cX4_isRead 0 = .ok (.bipush 8, 2) := of_decide_eq_true (List.all_eq_true.mp dsX4_isRead_0_ok (0, (.bipush 8, 2)) (List.mem_of_getElem? (i := 0) rfl))
theorem dX4_isRead_2 : decode cX4_isRead 2 = .ok (.aload_n 2, 1) := of_decide_eq_true (List.all_eq_true.mp dsX4_isRead_0_ok (2, (.aload_n 2, 1)) (List.mem_of_getElem? (i := 1) rfl))
theorem dX4_isRead_3 : decode cX4_isRead 3 = .ok (.getfield 53, 3) := of_decide_eq_true (List.all_eq_true.mp dsX4_isRead_0_ok (3, (.getfield 53, 3)) (List.mem_of_getElem? (i := 2) rfl))
theorem dX4_isRead_6 : decode cX4_isRead 6 = .ok (.iadd, 1) := of_decide_eq_true (List.all_eq_true.mp dsX4_isRead_0_ok (6, (.iadd, 1)) (List.mem_of_getElem? (i := 3) rfl))
theorem dX4_isRead_7 : decode cX4_isRead 7 = .ok (.aload_n 2, 1) := of_decide_eq_true (List.all_eq_true.mp dsX4_isRead_0_ok (7, (.aload_n 2, 1)) (List.mem_of_getElem? (i := 4) rfl))
theorem dX4_isRead_8 : decode cX4_isRead 8 = .ok (.getfield 58, 3) := of_decide_eq_true (List.all_eq_true.mp dsX4_isRead_0_ok (8, (.getfield 58, 3)) (List.mem_of_getElem? (i := 5) rfl))
theorem dX4_isRead_11 : decode cX4_isRead 11 = .ok (.iadd, 1) := of_decide_eq_true (List.all_eq_true.mp dsX4_isRead_0_ok (11, (.iadd, 1)) (List.mem_of_getElem? (i := 6) rfl))
theorem dX4_isRead_12 : decode cX4_isRead 12 = .ok (.istore_n 3, 1) := of_decide_eq_true (List.all_eq_true.mp dsX4_isRead_0_ok (12, (.istore_n 3, 1)) (List.mem_of_getElem? (i := 7) rfl))
theorem dX4_isRead_13 : decode cX4_isRead 13 = .ok (.aload_n 0, 1) := of_decide_eq_true (List.all_eq_true.mp dsX4_isRead_0_ok (13, (.aload_n 0, 1)) (List.mem_of_getElem? (i := 8) rfl))
theorem dX4_isRead_14 : decode cX4_isRead 14 = .ok (.getfield 61, 3) := of_decide_eq_true (List.all_eq_true.mp dsX4_isRead_0_ok (14, (.getfield 61, 3)) (List.mem_of_getElem? (i := 9) rfl))
theorem dX4_isRead_17 : decode cX4_isRead 17 = .ok (.iload_n 3, 1) := of_decide_eq_true (List.all_eq_true.mp dsX4_isRead_0_ok (17, (.iload_n 3, 1)) (List.mem_of_getElem? (i := 10) rfl))
theorem dX4_isRead_18 : decode cX4_isRead 18 = .ok (.iconst 1, 1) := of_decide_eq_true (List.all_eq_true.mp dsX4_isRead_0_ok (18, (.iconst 1, 1)) (List.mem_of_getElem? (i := 11) rfl))
theorem dX4_isRead_19 : decode cX4_isRead 19 = .ok (.iadd, 1) := of_decide_eq_true (List.all_eq_true.mp dsX4_isRead_0_ok (19, (.iadd, 1)) (List.mem_of_getElem? (i := 12) rfl))
theorem dX4_isRead_20 : decode cX4_isRead 20 = .ok (.if_icmp .eq 5, 3) := of_decide_eq_true (List.all_eq_true.mp dsX4_isRead_0_ok (20, (.if_icmp .eq 5, 3)) (List.mem_of_getElem? (i := 13) rfl))
theorem dX4_isRead_23 : decode cX4_isRead 23 = .ok (.iconst 0, 1) := of_decide_eq_true (List.all_eq_true.mp dsX4_isRead_0_ok (23, (.iconst 0, 1)) (List.mem_of_getElem? (i := 14) rfl))
theorem dX4_isRead_24 : decode cX4_isRead 24 = .ok (.ireturn, 1) := of_decide_eq_true (List.all_eq_true.mp dsX4_isRead_0_ok (24, (.ireturn, 1)) (List.mem_of_getElem? (i := 15) rfl))
theorem dX4_isRead_25 : decode cX4_isRead 25 = .ok (.sipush 239, 3) := of_decide_eq_true (List.all_eq_true.mp dsX4_isRead_0_ok (25, (.sipush 239, 3)) (List.mem_of_getElem? (i := 16) rfl))
theorem dX4_isRead_28 : decode cX4_isRead 28 = .ok (.istore 4, 2) := of_decide_eq_true (List.all_eq_true.mp dsX4_isRead_0_ok (28, (.istore 4, 2)) (List.mem_of_getElem? (i := 17) rfl))
theorem dX4_isRead_30 : decode cX4_isRead 30 = .ok (.iconst 0, 1) := of_decide_eq_true (List.all_eq_true.mp dsX4_isRead_0_ok (30, (.iconst 0, 1)) (List.mem_of_getElem? (i := 18) rfl))
theorem dX4_isRead_31 : decode cX4_isRead 31 = .ok (.istore 5, 2) := of_decide_eq_true (List.all_eq_true.mp dsX4_isRead_0_ok (31, (.istore 5, 2)) (List.mem_of_getElem? (i := 19) rfl))
theorem dX4_isRead_33 : decode cX4_isRead 33 = .ok (.iload 5, 2) := of_decide_eq_true (List.all_eq_true.mp dsX4_isRead_0_ok (33, (.iload 5, 2)) (List.mem_of_getElem? (i := 20) rfl))
theorem dX4_isRead_35 : decode cX4_isRead 35 = .ok (.iload_n 3, 1) := of_decide_eq_true (List.all_eq_true.mp dsX4_isRead_0_ok (35, (.iload_n 3, 1)) (List.mem_of_getElem? (i := 21) rfl))
theorem dX4_isRead_36 : decode cX4_isRead 36 = .ok (.if_icmp .ge 22, 3) := of_decide_eq_true (List.all_eq_true.mp dsX4_isRead_0_ok (36, (.if_icmp .ge 22, 3)) (List.mem_of_getElem? (i := 22) rfl))
theorem dX4_isRead_39 : decode cX4_isRead 39 = .ok (.iload 4, 2) := of_decide_eq_true (List.all_eq_true.mp dsX4_isRead_0_ok (39, (.iload 4, 2)) (List.mem_of_getElem? (i := 23) rfl))
theorem dX4_isRead_41 : decode cX4_isRead 41 = .ok (.aload_n 0, 1) := of_decide_eq_true (List.all_eq_true.mp dsX4_isRead_0_ok (41, (.aload_n 0, 1)) (List.mem_of_getElem? (i := 24) rfl))
theorem dX4_isRead_42 : decode cX4_isRead 42 = .ok (.iload 5, 2) := of_decide_eq_true (List.all_eq_true.mp dsX4_isRead_0_ok (42, (.iload 5, 2)) (List.mem_of_getElem? (i := 25) rfl))
theorem dX4_isRead_44 : decode cX4_isRead 44 = .ok (.invokevirtual 64, 3) := of_decide_eq_true (List.all_eq_true.mp dsX4_isRead_0_ok (44, (.invokevirtual 64, 3)) (List.mem_of_getElem? (i := 26) rfl))
theorem dX4_isRead_47 : decode cX4_isRead 47 = .ok (.invokestatic 49, 3) := of_decide_eq_true (List.all_eq_true.mp dsX4_isRead_0_ok (47, (.invokestatic 49, 3)) (List.mem_of_getElem? (i := 27) rfl))
theorem dX4_isRead_50 : decode cX4_isRead 50 = .ok (.istore 4, 2) := of_decide_eq_true (List.all_eq_true.mp dsX4_isRead_0_ok (50, (.istore 4, 2)) (List.mem_of_getElem? (i := 28) rfl))
theorem dX4_isRead_52 : decode cX4_isRead 52 = .ok (.iinc 5 1, 3) := of_decide_eq_true (List.all_eq_true.mp dsX4_isRead_0_ok (52, (.iinc 5 1, 3)) (List.mem_of_getElem? (i := 29) rfl))
theorem dX4_isRead_55 : decode cX4_isRead 55 = .ok (.goto (-22), 3) := of_decide_eq_true (List.all_eq_true.mp dsX4_isRead_0_ok (55, (.goto (-22), 3)) (List.mem_of_getElem? (i := 30) rfl))
theorem dX4_isRead_58 : decode cX4_isRead 58 = .ok (.aload_n 1, 1) := of_decide_eq_true (List.all_eq_true.mp dsX4_isRead_0_ok (58, (.aload_n 1, 1)) (List.mem_of_getElem? (i := 31) rfl))
theorem dX4_isRead_59 : decode cX4_isRead 59 = .ok (.aload_n 0, 1) := of_decide_eq_true (List.all_eq_true.mp dsX4_isRead_0_ok (59, (.aload_n 0, 1)) (List.mem_of_getElem? (i := 32) rfl))
theorem dX4_isRead_60 : decode cX4_isRead 60 = .ok (.iconst 0, 1) := of_decide_eq_true (List.all_eq_true.mp dsX4_isRead_0_ok (60, (.iconst 0, 1)) (List.mem_of_getElem? (i := 33) rfl))
theorem dX4_isRead_61 : decode cX4_isRead 61 = .ok (.invokestatic 68, 3) := of_decide_eq_true (List.all_eq_true.mp dsX4_isRead_0_ok (61, (.invokestatic 68, 3)) (List.mem_of_getElem? (i := 34) rfl))
theorem dX4_isRead_64 : decode cX4_isRead 64 = .ok (.putfield 19, 3) := of_decide_eq_true (List.all_eq_true.mp dsX4_isRead_0_ok (64, (.putfield 19, 3)) (List.mem_of_getElem? (i := 35) rfl))
theorem dX4_isRead_67 : decode cX4_isRead 67 = .ok (.aload_n 1, 1) := of_decide_eq_true (List.all_eq_true.mp dsX4_isRead_0_ok (67, (.aload_n 1, 1)) (List.mem_of_getElem? (i := 36) rfl))
theorem dX4_isRead_68 : decode cX4_isRead 68 = .ok (.aload_n 0, 1) := of_decide_eq_true (List.all_eq_true.mp dsX4_isRead_0_ok (68, (.aload_n 0, 1)) (List.mem_of_getElem? (i := 37) rfl))
theorem dX4_isRead_69 : decode cX4_isRead 69 = .ok (.iconst 2, 1) := of_decide_eq_true (List.all_eq_true.mp dsX4_isRead_0_ok (69, (.iconst 2, 1)) (List.mem_of_getElem? (i := 38) rfl))
theorem dX4_isRead_70 : decode cX4_isRead 70 = .ok (.invokestatic 68, 3) := of_decide_eq_true (List.all_eq_true.mp dsX4_isRead_0_ok (70, (.invokestatic 68, 3)) (List.mem_of_getElem? (i := 39) rfl))
theorem dX4_isRead_73 : decode cX4_isRead 73 = .ok (.putfield 28, 3) := of_decide_eq_true (List.all_eq_true.mp dsX4_isRead_0_ok (73, (.putfield 28, 3)) (List.mem_of_getElem? (i := 40) rfl))
theorem dX4_isRead_76 : decode cX4_isRead 76 = .ok (.aload_n 1, 1) := of_decide_eq_true (List.all_eq_true.mp dsX4_isRead_0_ok (76, (.aload_n 1, 1)) (List.mem_of_getElem? (i := 41) rfl))
theorem dX4_isRead_77 : decode cX4_isRead 77 = .ok (.aload_n 0, 1) := of_decide_eq_true (List.all_eq_true.mp dsX4_isRead_0_ok (77, (.aload_n 0, 1)) (List.mem_of_getElem? (i := 42) rfl))
theorem dX4_isRead_78 : decode cX4_isRead 78 = .ok (.iconst 4, 1) := of_decide_eq_true (List.all_eq_true.mp dsX4_isRead_0_ok (78, (.iconst 4, 1)) (List.mem_of_getElem? (i := 43) rfl))
theorem dX4_isRead_79 : decode cX4_isRead 79 = .ok (.invokestatic 68, 3) := of_decide_eq_true (List.all_eq_true.mp dsX4_isRead_0_ok (79, (.invokestatic 68, 3)) (List.mem_of_getElem? (i := 44) rfl))
theorem dX4_isRead_82 : decode cX4_isRead 82 = .ok (.putfield 31, 3) := of_decide_eq_true (List.all_eq_true.mp dsX4_isRead_0_ok (82, (.putfield 31, 3)) (List.mem_of_getElem? (i := 45) rfl))
theorem dX4_isRead_85 : decode cX4_isRead 85 = .ok (.aload_n 1, 1) := of_decide_eq_true (List.all_eq_true.mp dsX4_isRead_0_ok (85, (.aload_n 1, 1)) (List.mem_of_getElem? (i := 46) rfl))
theorem dX4_isRead_86 : decode cX4_isRead 86 = .ok (.aload_n 0, 1) := of_decide_eq_true (List.all_eq_true.mp dsX4_isRead_0_ok (86, (.aload_n 0, 1)) (List.mem_of_getElem? (i := 47) rfl))
theorem dX4_isRead_87 : decode cX4_isRead 87 = .ok (.bipush 6, 2) := of_decide_eq_true (List.all_eq_true.mp dsX4_isRead_0_ok (87, (.bipush 6, 2)) (List.mem_of_getElem? (i := 48) rfl))
theorem dX4_isRead_89 : decode cX4_isRead 89 = .ok (.invokevirtual 64, 3) := of_decide_eq_true (List.all_eq_true.mp dsX4_isRead_0_ok (89, (.invokevirtual 64, 3)) (List.mem_of_getElem? (i := 49) rfl))
theorem dX4_isRead_92 : decode cX4_isRead 92 = .ok (.putfield 34, 3) := of_decide_eq_true (List.all_eq_true.mp dsX4_isRead_0_ok (92, (.putfield 34, 3)) (List.mem_of_getElem? (i := 50) rfl))
theorem dX4_isRead_95 : decode cX4_isRead 95 = .ok (.aload_n 1, 1) := of_decide_eq_true (List.all_eq_true.mp dsX4_isRead_0_ok (95, (.aload_n 1, 1)) (List.mem_of_getElem? (i := 51) rfl))
theorem dX4_isRead_96 : decode cX4_isRead 96 = .ok (.aload_n 0, 1) := of_decide_eq_true (List.all_eq_true.mp dsX4_isRead_0_ok (96, (.aload_n 0, 1)) (List.mem_of_getElem? (i := 52) rfl))
theorem dX4_isRead_97 : decode cX4_isRead 97 = .ok (.bipush 7, 2) := of_decide_eq_true (List.all_eq_true.mp dsX4_isRead_0_ok (97, (.bipush 7, 2)) (List.mem_of_getElem? (i := 53) rfl))
theorem dX4_isRead_99 : decode cX4_isRead 99 = .ok (.invokevirtual 64, 3) := of_decide_eq_true (List.all_eq_true.mp dsX4_isRead_0_ok (99, (.invokevirtual 64, 3)) (List.mem_of_getElem? (i := 54) rfl))
theorem dX4_isRead_102 : decode cX4_isRead 102 = .ok (.putfield 40, 3) := of_decide_eq_true (List.all_eq_true.mp dsX4_isRead_0_ok (102, (.putfield 40, 3)) (List.mem_of_getElem? (i := 55) rfl))
theorem dX4_isRead_105 : decode cX4_isRead 105 = .ok (.aload_n 1, 1) := of_decide_eq_true (List.all_eq_true.mp dsX4_isRead_0_ok (105, (.aload_n 1, 1)) (List.mem_of_getElem? (i := 56) rfl))
theorem dX4_isRead_106 : decode cX4_isRead 106 = .ok (.iconst 0, 1) := of_decide_eq_true (List.all_eq_true.mp dsX4_isRead_0_ok (106, (.iconst 0, 1)) (List.mem_of_getElem? (i := 57) rfl))
theorem dX4_isRead_107 : decode cX4_isRead 107 = .ok (.putfield 72, 3) := of_decide_eq_true (List.all_eq_true.mp dsX4_isRead_0_ok (107, (.putfield 72, 3)) (List.mem_of_getElem? (i := 58) rfl))
theorem dX4_isRead_110 : decode cX4_isRead 110 = .ok (.aload_n 1, 1) := of_decide_eq_true (List.all_eq_true.mp dsX4_isRead_0_ok (110, (.aload_n 1, 1)) (List.mem_of_getElem? (i := 59) rfl))
def dsX4_isRead_1 : List (Nat × Instr × Nat) := [(111, (.getfield 40, 3)), (114, (.invokestatic 75, 3)), (117, (.istore 5, 2)), (119, (.iconst 0, 1)), (120, (.istore 6, 2)), (122, (.iload 6, 2)), (124, (.aload_n 2, 1)), (125, (.getfield 53, 3)), (128, (.if_icmp .ge 50, 3)), (131, (.aload_n 1, 1)), (132, (.getfield 43, 3)), (135, (.iload 6, 2)), (137, (.aload_n 0, 1)), (138, (.bipush 8, 2)), (140, (.iload 6, 2)), (142, (.iadd, 1)), (143, (.invokevirtual 64, 3)), (146, (.iastore, 1)), (147, (.iload 5, 2)), (149, (.ifCond .eq 20, 3)), (152, (.aload_n 1, 1)), (153, (.getfield 43, 3)), (156, (.iload 6, 2)), (158, (.iaload, 1)), (159, (.invokestatic 75, 3)), (162, (.ifCond .eq 7, 3)), (165, (.iconst 1, 1)), (166, (.goto 4, 3)), (169, (.iconst 0, 1)), (170, (.istore 5, 2)), (172, (.iinc 6 1, 3)), (175, (.goto (-53), 3)), (178, (.iconst 0, 1)), (179, (.istore 6, 2)), (181, (.iload 6, 2)), (183, (.aload_n 2, 1)), (184, (.getfield 58, 3)), (187, (.if_icmp .ge 55, 3)), (190, (.aload_n 1, 1)), (191, (.getfield 46, 3)), (194, (.iload 6, 2)), (196, (.aload_n 0, 1)), (197, (.bipush 8, 2)), (199, (.aload_n 2, 1)), (200, (.getfield 53, 3)), (203, (.iadd, 1)), (204, (.iload 6, 2)), (206, (.iadd, 1)), (207, (.invokevirtual 64, 3)), (210, (.iastore, 1)), (211, (.iload 5, 2)), (213, (.ifCond .eq 20, 3)), (216, (.aload_n 1, 1)), (217, (.getfield 46, 3)), (220, (.iload 6, 2)), (222, (.iaload, 1)), (223, (.invokestatic 75, 3)), (226, (.ifCond .eq 7, 3)), (229, (.iconst 1, 1)), (230, (.goto 4, 3))]
theorem dsX4_isRead_1_ok : (dsX4_isRead_1.all fun q => decide (decode cX4_isRead q.1 = .ok q.2)) = true := by decide +kernel
theorem dX4_isRead_111 : decode cX4_isRead 111 = .ok (.getfield 40, 3) := of_decide_eq_true (List.all_eq_true.mp dsX4_isRead_1_ok (111, (.getfield 40, 3)) (List.mem_of_getElem? (i := 0) rfl))
theorem dX4_isRead_114 : decode cX4_isRead 114 = .ok (.invokestatic 75, 3) := of_decide_eq_true (List.all_eq_true.mp dsX4_isRead_1_ok (114, (.invokestatic 75, 3)) (List.mem_of_getElem? (i := 1) rfl))
theorem dX4_isRead_117 : decode cX4_isRead 117 = .ok (.istore 5, 2) := of_decide_eq_true (List.all_eq_true.mp dsX4_isRead_1_ok (117, (.istore 5, 2)) (List.mem_of_getElem? (i := 2) rfl))
theorem dX4_isRead_119 : decode cX4_isRead 119 = .ok (.iconst 0, 1) := of_decide_eq_true (List.all_eq_true.mp dsX4_isRead_1_ok (119, (.iconst 0, 1)) (List.mem_of_getElem? (i := 3) rfl))
theorem dX4_isRead_120 : decode cX4_isRead 120 = .ok (.istore 6, 2) := of_decide_eq_true (List.all_eq_true.mp dsX4_isRead_1_ok (120, (.istore 6, 2)) (List.mem_of_getElem? (i := 4) rfl))
theorem dX4_isRead_122 : decode cX4_isRead 122 = .ok (.iload 6, 2) := of_decide_eq_true (List.all_eq_true.mp dsX4_isRead_1_ok (122, (.iload 6, 2)) (List.mem_of_getElem? (i := 5) rfl))
theorem dX4_isRead_124 : decode cX4_isRead 124 = .ok (.aload_n 2, 1) := of_decide_eq_true (List.all_eq_true.mp dsX4_isRead_1_ok (124, (.aload_n 2, 1)) (List.mem_of_getElem? (i := 6) rfl))
theorem dX4_isRead_125 : decode cX4_isRead 125 = .ok (.getfield 53, 3) := of_decide_eq_true (List.all_eq_true.mp dsX4_isRead_1_ok (125, (.getfield 53, 3)) (List.mem_of_getElem? (i := 7) rfl))
theorem dX4_isRead_128 : decode cX4_isRead 128 = .ok (.if_icmp .ge 50, 3) := of_decide_eq_true (List.all_eq_true.mp dsX4_isRead_1_ok (128, (.if_icmp .ge 50, 3)) (List.mem_of_getElem? (i := 8) rfl))
theorem dX4_isRead_131 : decode cX4_isRead 131 = .ok (.aload_n 1, 1) := of_decide_eq_true (List.all_eq_true.mp dsX4_isRead_1_ok (131, (.aload_n 1, 1)) (List.mem_of_getElem? (i := 9) rfl))
theorem dX4_isRead_132 : decode cX4_isRead 132 = .ok (.getfield 43, 3) := of_decide_eq_true (List.all_eq_true.mp dsX4_isRead_1_ok (132, (.getfield 43, 3)) (List.mem_of_getElem? (i := 10) rfl))
theorem dX4_isRead_135 : decode cX4_isRead 135 = .ok (.iload 6, 2) := of_decide_eq_true (List.all_eq_true.mp dsX4_isRead_1_ok (135, (.iload 6, 2)) (List.mem_of_getElem? (i := 11) rfl))
theorem dX4_isRead_137 : decode cX4_isRead 137 = .ok (.aload_n 0, 1) := of_decide_eq_true (List.all_eq_true.mp dsX4_isRead_1_ok (137, (.aload_n 0, 1)) (List.mem_of_getElem? (i := 12) rfl))
theorem dX4_isRead_138 : decode cX4_isRead 138 = .ok (.bipush 8, 2) := of_decide_eq_true (List.all_eq_true.mp dsX4_isRead_1_ok (138, (.bipush 8, 2)) (List.mem_of_getElem? (i := 13) rfl))
theorem dX4_isRead_140 : decode cX4_isRead 140 = .ok (.iload 6, 2) := of_decide_eq_true (List.all_eq_true.mp dsX4_isRead_1_ok (140, (.iload 6, 2)) (List.mem_of_getElem? (i := 14) rfl))
theorem dX4_isRead_142 : decode cX4_isRead 142 = .ok (.iadd, 1) := of_decide_eq_true (List.all_eq_true.mp dsX4_isRead_1_ok (142, (.iadd, 1)) (List.mem_of_getElem? (i := 15) rfl))
theorem dX4_isRead_143 : decode cX4_isRead 143 = .ok (.invokevirtual 64, 3) := of_decide_eq_true (List.all_eq_true.mp dsX4_isRead_1_ok (143, (.invokevirtual 64, 3)) (List.mem_of_getElem? (i := 16) rfl))
theorem dX4_isRead_146 : decode cX4_isRead 146 = .ok (.iastore, 1) := of_decide_eq_true (List.all_eq_true.mp dsX4_isRead_1_ok (146, (.iastore, 1)) (List.mem_of_getElem? (i := 17) rfl))
theorem dX4_isRead_147 : decode cX4_isRead 147 = .ok (.iload 5, 2) := of_decide_eq_true (List.all_eq_true.mp dsX4_isRead_1_ok (147, (.iload 5, 2)) (List.mem_of_getElem? (i := 18) rfl))
theorem dX4_isRead_149 : decode cX4_isRead 149 = .ok (.ifCond .eq 20, 3) := of_decide_eq_true (List.all_eq_true.mp dsX4_isRead_1_ok (149, (.ifCond .eq 20, 3)) (List.mem_of_getElem? (i := 19) rfl))
theorem dX4_isRead_152 : decode cX4_isRead 152 = .ok (.aload_n 1, 1) := of_decide_eq_true (List.all_eq_true.mp dsX4_isRead_1_ok (152, (.aload_n 1, 1)) (List.mem_of_getElem? (i := 20) rfl))
theorem dX4_isRead_153 : decode cX4_isRead 153 = .ok (.getfield 43, 3) := of_decide_eq_true (List.all_eq_true.mp dsX4_isRead_1_ok (153, (.getfield 43, 3)) (List.mem_of_getElem? (i := 21) rfl))
theorem dX4_isRead_156 : decode cX4_isRead 156 = .ok (.iload 6, 2) := of_decide_eq_true (List.all_eq_true.mp dsX4_isRead_1_ok (156, (.iload 6, 2)) (List.mem_of_getElem? (i := 22) rfl))
theorem dX4_isRead_158 : decode cX4_isRead 158 = .ok (.iaload, 1) := of_decide_eq_true (List.all_eq_true.mp dsX4_isRead_1_ok (158, (.iaload, 1)) (List.mem_of_getElem? (i := 23) rfl))
theorem dX4_isRead_159 : decode cX4_isRead 159 = .ok (.invokestatic 75, 3) := of_decide_eq_true (List.all_eq_true.mp dsX4_isRead_1_ok (159, (.invokestatic 75, 3)) (List.mem_of_getElem? (i := 24) rfl))
theorem dX4_isRead_162 : decode cX4_isRead 162 = .ok (.ifCond .eq 7, 3) := of_decide_eq_true (List.all_eq_true.mp dsX4_isRead_1_ok (162, (.ifCond .eq 7, 3)) (List.mem_of_getElem? (i := 25) rfl))
theorem dX4_isRead_165 : decode cX4_isRead 165 = .ok (.iconst 1, 1) := of_decide_eq_true (List.all_eq_true.mp dsX4_isRead_1_ok (165, (.iconst 1, 1)) (List.mem_of_getElem? (i := 26) rfl))
theorem dX4_isRead_166 : decode cX4_isRead 166 = .ok (.goto 4, 3) := of_decide_eq_true (List.all_eq_true.mp dsX4_isRead_1_ok (166, (.goto 4, 3)) (List.mem_of_getElem? (i := 27) rfl))
theorem dX4_isRead_169 : decode cX4_isRead 169 = .ok (.iconst 0, 1) := of_decide_eq_true (List.all_eq_true.mp dsX4_isRead_1_ok (169, (.iconst 0, 1)) (List.mem_of_getElem? (i := 28) rfl))
theorem dX4_isRead_170 : decode cX4_isRead 170 = .ok (.istore 5, 2) := of_decide_eq_true (List.all_eq_true.mp dsX4_isRead_1_ok (170, (.istore 5, 2)) (List.mem_of_getElem? (i := 29) rfl))
theorem dX4_isRead_172 : decode cX4_isRead 172 = .ok (.iinc 6 1, 3) := of_decide_eq_true (List.all_eq_true.mp dsX4_isRead_1_ok (172, (.iinc 6 1, 3)) (List.mem_of_getElem? (i := 30) rfl))
theorem dX4_isRead_175 : decode cX4_isRead 175 = .ok (.goto (-53), 3) := of_decide_eq_true (List.all_eq_true.mp dsX4_isRead_1_ok (175, (.goto (-53), 3)) (List.mem_of_getElem? (i := 31) rfl))
theorem dX4_isRead_178 : decode cX4_isRead 178 = .ok (.iconst 0, 1) := of_decide_eq_true (List.all_eq_true.mp dsX4_isRead_1_ok (178, (.iconst 0, 1)) (List.mem_of_getElem? (i := 32) rfl))
theorem dX4_isRead_179 : decode cX4_isRead 179 = .ok (.istore 6, 2) := of_decide_eq_true (List.all_eq_true.mp dsX4_isRead_1_ok (179, (.istore 6, 2)) (List.mem_of_getElem? (i := 33) rfl))
theorem dX4_isRead_181 : decode cX4_isRead 181 = .ok (.iload 6, 2) := of_decide_eq_true (List.all_eq_true.mp dsX4_isRead_1_ok (181, (.iload 6, 2)) (List.mem_of_getElem? (i := 34) rfl))
theorem dX4_isRead_183 : decode cX4_isRead 183 = .ok (.aload_n 2, 1) := of_decide_eq_true (List.all_eq_true.mp dsX4_isRead_1_ok (183, (.aload_n 2, 1)) (List.mem_of_getElem? (i := 35) rfl))
theorem dX4_isRead_184 : decode cX4_isRead 184 = .ok (.getfield 58, 3) := of_decide_eq_true (List.all_eq_true.mp dsX4_isRead_1_ok (184, (.getfield 58, 3)) (List.mem_of_getElem? (i := 36) rfl))
theorem dX4_isRead_187 : decode cX4_isRead 187 = .ok (.if_icmp .ge 55, 3) := of_decide_eq_true (List.all_eq_true.mp dsX4_isRead_1_ok (187, (.if_icmp .ge 55, 3)) (List.mem_of_getElem? (i := 37) rfl))
theorem dX4_isRead_190 : decode cX4_isRead 190 = .ok (.aload_n 1, 1) := of_decide_eq_true (List.all_eq_true.mp dsX4_isRead_1_ok (190, (.aload_n 1, 1)) (List.mem_of_getElem? (i := 38) rfl))
theorem dX4_isRead_191 : decode cX4_isRead 191 = .ok (.getfield 46, 3) := of_decide_eq_true (List.all_eq_true.mp dsX4_isRead_1_ok (191, (.getfield 46, 3)) (List.mem_of_getElem? (i := 39) rfl))
theorem dX4_isRead_194 : decode cX4_isRead 194 = .ok (.iload 6, 2) := of_decide_eq_true (List.all_eq_true.mp dsX4_isRead_1_ok (194, (.iload 6, 2)) (List.mem_of_getElem? (i := 40) rfl))
theorem dX4_isRead_196 : decode cX4_isRead 196 = .ok (.aload_n 0, 1) := of_decide_eq_true (List.all_eq_true.mp dsX4_isRead_1_ok (196, (.aload_n 0, 1)) (List.mem_of_getElem? (i := 41) rfl))
theorem dX4_isRead_197 : decode cX4_isRead 197 = .ok (.bipush 8, 2) := of_decide_eq_true (List.all_eq_true.mp dsX4_isRead_1_ok (197, (.bipush 8, 2)) (List.mem_of_getElem? (i := 42) rfl))
theorem dX4_isRead_199 : decode cX4_isRead 199 = .ok (.aload_n 2, 1) := of_decide_eq_true (List.all_eq_true.mp dsX4_isRead_1_ok (199, (.aload_n 2, 1)) (List.mem_of_getElem? (i := 43) rfl))
theorem dX4_isRead_200 : decode cX4_isRead 200 = .ok (.getfield 53, 3) := of_decide_eq_true (List.all_eq_true.mp dsX4_isRead_1_ok (200, (.getfield 53, 3)) (List.mem_of_getElem? (i := 44) rfl))
theorem dX4_isRead_203 : decode cX4_isRead 203 = .ok (.iadd, 1) := of_decide_eq_true (List.all_eq_true.mp dsX4_isRead_1_ok (203, (.iadd, 1)) (List.mem_of_getElem? (i := 45) rfl))
theorem dX4_isRead_204 : decode cX4_isRead 204 = .ok (.iload 6, 2) := of_decide_eq_true (List.all_eq_true.mp dsX4_isRead_1_ok (204, (.iload 6, 2)) (List.mem_of_getElem? (i := 46) rfl))
theorem dX4_isRead_206 : decode cX4_isRead 206 = .ok (.iadd, 1) := of_decide_eq_true (List.all_eq_true.mp dsX4_isRead_1_ok (206, (.iadd, 1)) (List.mem_of_getElem? (i := 47) rfl))
theorem dX4_isRead_207 : decode cX4_isRead 207 = .ok (.invokevirtual 64, 3) := of_decide_eq_true (List.all_eq_true.mp dsX4_isRead_1_ok (207, (.invokevirtual 64, 3)) (List.mem_of_getElem? (i := 48) rfl))
theorem dX4_isRead_210 : decode cX4_isRead 210 = .ok (.iastore, 1) := of_decide_eq_true (List.all_eq_true.mp dsX4_isRead_1_ok (210, (.iastore, 1)) (List.mem_of_getElem? (i := 49) rfl))
theorem dX4_isRead_211 : decode cX4_isRead 211 = .ok (.iload 5, 2) := of_decide_eq_true (List.all_eq_true.mp dsX4_isRead_1_ok (211, (.iload 5, 2)) (List.mem_of_getElem? (i := 50) rfl))
theorem dX4_isRead_213 : decode cX4_isRead 213 = .ok (.ifCond .eq 20, 3) := of_decide_eq_true (List.all_eq_true.mp dsX4_isRead_1_ok (213, (.ifCond .eq 20, 3)) (List.mem_of_getElem? (i := 51) rfl))
theorem dX4_isRead_216 : decode cX4_isRead 216 = .ok (.aload_n 1, 1) := of_decide_eq_true (List.all_eq_true.mp dsX4_isRead_1_ok (216, (.aload_n 1, 1)) (List.mem_of_getElem? (i := 52) rfl))
theorem dX4_isRead_217 : decode cX4_isRead 217 = .ok (.getfield 46, 3) := of_decide_eq_true (List.all_eq_true.mp dsX4_isRead_1_ok (217, (.getfield 46, 3)) (List.mem_of_getElem? (i := 53) rfl))
theorem dX4_isRead_220 : decode cX4_isRead 220 = .ok (.iload 6, 2) := of_decide_eq_true (List.all_eq_true.mp dsX4_isRead_1_ok (220, (.iload 6, 2)) (List.mem_of_getElem? (i := 54) rfl))
theorem dX4_isRead_222 : decode cX4_isRead 222 = .ok (.iaload, 1) := of_decide_eq_true (List.all_eq_true.mp dsX4_isRead_1_ok (222, (.iaload, 1)) (List.mem_of_getElem? (i := 55) rfl))
theorem dX4_isRead_223 : decode cX4_isRead 223 = .ok (.invokestatic 75, 3) := of_decide_eq_true (List.all_eq_true.mp dsX4_isRead_1_ok (223, (.invokestatic 75, 3)) (List.mem_of_getElem? (i := 56) rfl))
theorem dX4_isRead_226 : decode cX4_isRead 226 = .ok (.ifCond .eq 7, 3) := of_decide_eq_true (List.all_eq_true.mp dsX4_isRead_1_ok (226, (.ifCond .eq 7, 3)) (List.mem_of_getElem? (i := 57) rfl))
theorem dX4_isRead_229 : decode cX4_isRead 229 = .ok (.iconst 1, 1) := of_decide_eq_true (List.all_eq_true.mp dsX4_isRead_1_ok (229, (.iconst 1, 1)) (List.mem_of_getElem? (i := 58) rfl))
theorem dX4_isRead_230 : decode cX4_isRead 230 = .ok (.goto 4, 3) := of_decide_eq_true (List.all_eq_true.mp dsX4_isRead_1_ok (230, (.goto 4, 3)) (List.mem_of_getElem? (i := 59) rfl))
def dsX4_isRead_2 : List (Nat × Instr × Nat) := [(233, (.iconst 0, 1)), (234, (.istore 5, 2)), (236, (.iinc 6 1, 3)), (239, (.goto (-58), 3)), (242, (.iload 4, 2)), (244, (.aload_n 0, 1)), (245, (.iload_n 3, 1)), (246, (.invokevirtual 64, 3)), (249, (.if_icmp .ne 52, 3)), (252, (.iload 5, 2)), (254, (.ifCond .eq 47, 3)), (257, (.aload_n 1, 1)), (258, (.getfield 19, 3)), (261, (.sipush 999, 3)), (264, (.if_icmp .gt 37, 3)), (267, (.aload_n 1, 1)), (268, (.getfield 28, 3)), (271, (.aload_n 2, 1)), (272, (.getfield 79, 3)), (275, (.if_icmp .ge 26, 3)), (278, (.aload_n 1, 1)), (279, (.getfield 31, 3)), (282, (.sipush 999, 3)), (285, (.if_icmp .gt 16, 3)), (288, (.aload_n 1, 1)), (289, (.getfield 34, 3)), (292, (.bipush 20, 2)), (294, (.if_icmp .gt 7, 3)), (297, (.iconst 1, 1)), (298, (.goto 4, 3)), (301, (.iconst 0, 1)), (302, (.ireturn, 1))]
theorem dsX4_isRead_2_ok : (dsX4_isRead_2.all fun q => decide (decode cX4_isRead q.1 = .ok q.2)) = true := by decide +kernel
theorem dX4_isRead_233 : decode cX4_isRead 233 = .ok (.iconst 0, 1) := of_decide_eq_true (List.all_eq_true.mp dsX4_isRead_2_ok (233, (.iconst 0, 1)) (List.mem_of_getElem? (i := 0) rfl))
theorem dX4_isRead_234 : decode cX4_isRead 234 = .ok (.istore 5, 2) := of_decide_eq_true (List.all_eq_true.mp dsX4_isRead_2_ok (234, (.istore 5, 2)) (List.mem_of_getElem? (i := 1) rfl))
theorem dX4_isRead_236 : decode cX4_isRead 236 = .ok (.iinc 6 1, 3) := of_decide_eq_true (List.all_eq_true.mp dsX4_isRead_2_ok (236, (.iinc 6 1, 3)) (List.mem_of_getElem? (i := 2) rfl))
theorem dX4_isRead_239 : decode cX4_isRead 239 = .ok (.goto (-58), 3) := of_decide_eq_true (List.all_eq_true.mp dsX4_isRead_2_ok (239, (.goto (-58), 3)) (List.mem_of_getElem? (i := 3) rfl))
theorem dX4_isRead_242 : decode cX4_isRead 242 = .ok (.iload 4, 2) := of_decide_eq_true (List.all_eq_true.mp dsX4_isRead_2_ok (242, (.iload 4, 2)) (List.mem_of_getElem? (i := 4) rfl))
theorem dX4_isRead_244 : decode cX4_isRead 244 = .ok (.aload_n 0, 1) := of_decide_eq_true (List.all_eq_true.mp dsX4_isRead_2_ok (244, (.aload_n 0, 1)) (List.mem_of_getElem? (i := 5) rfl))
theorem dX4_isRead_245 : decode cX4_isRead 245 = .ok (.iload_n 3, 1) := of_decide_eq_true (List.all_eq_true.mp dsX4_isRead_2_ok (245, (.iload_n 3, 1)) (List.mem_of_getElem? (i := 6) rfl))
theorem dX4_isRead_246 : decode cX4_isRead 246 = .ok (.invokevirtual 64, 3) := of_decide_eq_true (List.all_eq_true.mp dsX4_isRead_2_ok (246, (.invokevirtual 64, 3)) (List.mem_of_getElem? (i := 7) rfl))
theorem dX4_isRead_249 : decode cX4_isRead 249 = .ok (.if_icmp .ne 52, 3) := of_decide_eq_true (List.all_eq_true.mp dsX4_isRead_2_ok (249, (.if_icmp .ne 52, 3)) (List.mem_of_getElem? (i := 8) rfl))
theorem dX4_isRead_252 : decode cX4_isRead 252 = .ok (.iload 5, 2) := of_decide_eq_true (List.all_eq_true.mp dsX4_isRead_2_ok (252, (.iload 5, 2)) (List.mem_of_getElem? (i := 9) rfl))
theorem dX4_isRead_254 : decode cX4_isRead 254 = .ok (.ifCond .eq 47, 3) := of_decide_eq_true (List.all_eq_true.mp dsX4_isRead_2_ok (254, (.ifCond .eq 47, 3)) (List.mem_of_getElem? (i := 10) rfl))
theorem dX4_isRead_257 : decode cX4_isRead 257 = .ok (.aload_n 1, 1) := of_decide_eq_true (List.all_eq_true.mp dsX4_isRead_2_ok (257, (.aload_n 1, 1)) (List.mem_of_getElem? (i := 11) rfl))
theorem dX4_isRead_258 : decode cX4_isRead 258 = .ok (.getfield 19, 3) := of_decide_eq_true (List.all_eq_true.mp dsX4_isRead_2_ok (258, (.getfield 19, 3)) (List.mem_of_getElem? (i := 12) rfl))
theorem dX4_isRead_261 : decode cX4_isRead 261 = .ok (.sipush 999, 3) := of_decide_eq_true (List.all_eq_true.mp dsX4_isRead_2_ok (261, (.sipush 999, 3)) (List.mem_of_getElem? (i := 13) rfl))
theorem dX4_isRead_264 : decode cX4_isRead 264 = .ok (.if_icmp .gt 37, 3) := of_decide_eq_true (List.all_eq_true.mp dsX4_isRead_2_ok (264, (.if_icmp .gt 37, 3)) (List.mem_of_getElem? (i := 14) rfl))
theorem dX4_isRead_267 : decode cX4_isRead 267 = .ok (.aload_n 1, 1) := of_decide_eq_true (List.all_eq_true.mp dsX4_isRead_2_ok (267, (.aload_n 1, 1)) (List.mem_of_getElem? (i := 15) rfl))
theorem dX4_isRead_268 : decode cX4_isRead 268 = .ok (.getfield 28, 3) := of_decide_eq_true (List.all_eq_true.mp dsX4_isRead_2_ok (268, (.getfield 28, 3)) (List.mem_of_getElem? (i := 16) rfl))
theorem dX4_isRead_271 : decode cX4_isRead 271 = .ok (.aload_n 2, 1) := of_decide_eq_true (List.all_eq_true.mp dsX4_isRead_2_ok (271, (.aload_n 2, 1)) (List.mem_of_getElem? (i := 17) rfl))
theorem dX4_isRead_272 : decode cX4_isRead 272 = .ok (.getfield 79, 3) := of_decide_eq_true (List.all_eq_true.mp dsX4_isRead_2_ok (272, (.getfield 79, 3)) (List.mem_of_getElem? (i := 18) rfl))
theorem dX4_isRead_275 : decode cX4_isRead 275 = .ok (.if_icmp .ge 26, 3) := of_decide_eq_true (List.all_eq_true.mp dsX4_isRead_2_ok (275, (.if_icmp .ge 26, 3)) (List.mem_of_getElem? (i := 19) rfl))
theorem dX4_isRead_278 : decode cX4_isRead 278 = .ok (.aload_n 1, 1) := of_decide_eq_true (List.all_eq_true.mp dsX4_isRead_2_ok (278, (.aload_n 1, 1)) (List.mem_of_getElem? (i := 20) rfl))
theorem dX4_isRead_279 : decode cX4_isRead 279 = .ok (.getfield 31, 3) := of_decide_eq_true (List.all_eq_true.mp dsX4_isRead_2_ok (279, (.getfield 31, 3)) (List.mem_of_getElem? (i := 21) rfl))
theorem dX4_isRead_282 : decode cX4_isRead 282 = .ok (.sipush 999, 3) := of_decide_eq_true (List.all_eq_true.mp dsX4_isRead_2_ok (282, (.sipush 999, 3)) (List.mem_of_getElem? (i := 22) rfl))
theorem dX4_isRead_285 : decode cX4_isRead 285 = .ok (.if_icmp .gt 16, 3) := of_decide_eq_true (List.all_eq_true.mp dsX4_isRead_2_ok (285, (.if_icmp .gt 16, 3)) (List.mem_of_getElem? (i := 23) rfl))
theorem dX4_isRead_288 : decode cX4_isRead 288 = .ok (.aload_n 1, 1) := of_decide_eq_true (List.all_eq_true.mp dsX4_isRead_2_ok (288, (.aload_n 1, 1)) (List.mem_of_getElem? (i := 24) rfl))
theorem dX4_isRead_289 : decode cX4_isRead 289 = .ok (.getfield 34, 3) := of_decide_eq_true (List.all_eq_true.mp dsX4_isRead_2_ok (289, (.getfield 34, 3)) (List.mem_of_getElem? (i := 25) rfl))
theorem dX4_isRead_292 : decode cX4_isRead 292 = .ok (.bipush 20, 2) := of_decide_eq_true (List.all_eq_true.mp dsX4_isRead_2_ok (292, (.bipush 20, 2)) (List.mem_of_getElem? (i := 26) rfl))
theorem dX4_isRead_294 : decode cX4_isRead 294 = .ok (.if_icmp .gt 7, 3) := of_decide_eq_true (List.all_eq_true.mp dsX4_isRead_2_ok (294, (.if_icmp .gt 7, 3)) (List.mem_of_getElem? (i := 27) rfl))
theorem dX4_isRead_297 : decode cX4_isRead 297 = .ok (.iconst 1, 1) := of_decide_eq_true (List.all_eq_true.mp dsX4_isRead_2_ok (297, (.iconst 1, 1)) (List.mem_of_getElem? (i := 28) rfl))
theorem dX4_isRead_298 : decode cX4_isRead 298 = .ok (.goto 4, 3) := of_decide_eq_true (List.all_eq_true.mp dsX4_isRead_2_ok (298, (.goto 4, 3)) (List.mem_of_getElem? (i := 29) rfl))
theorem dX4_isRead_301 : decode cX4_isRead 301 = .ok (.iconst 0, 1) := of_decide_eq_true (List.all_eq_true.mp dsX4_isRead_2_ok (301, (.iconst 0, 1)) (List.mem_of_getElem? (i := 30) rfl))
theorem dX4_isRead_302 : decode cX4_isRead 302 = .ok (.ireturn, 1) := of_decide_eq_true (List.all_eq_true.mp dsX4_isRead_2_ok (302, (.ireturn, 1)) (List.mem_of_getElem? (i := 31) rfl))
def fX4_isRead_b234 (N : Nat) (hoI : Nat → Int32) (taI : Nat → Int32) (ta_bytesF : Nat → Int32)  (k181 : ((Nat → Int32) × (Nat → Int32) × (Nat → Int32) × Int32 × Int32 × Int32 × Int32) → Option (Int32 × (Nat → Int32) × (Nat → Int32) × (Nat → Int32))) : ((Nat → Int32) × (Nat → Int32) × (Nat → Int32) × Int32 × Int32 × Int32 × Int32) → Option (Int32 × (Nat → Int32) × (Nat → Int32) × (Nat → Int32)) :=
  fun (moI_234, mo_rowsF_234, mo_talksF_234, x3_234, x4_234, x6_234, y0_234) => k181 (moI_234, mo_rowsF_234, mo_talksF_234, x3_234, x4_234, y0_234, x6_234 + 1)
def fX4_isRead_b233 (N : Nat) (hoI : Nat → Int32) (taI : Nat → Int32) (ta_bytesF : Nat → Int32)  (k181 : ((Nat → Int32) × (Nat → Int32) × (Nat → Int32) × Int32 × Int32 × Int32 × Int32) → Option (Int32 × (Nat → Int32) × (Nat → Int32) × (Nat → Int32))) : ((Nat → Int32) × (Nat → Int32) × (Nat → Int32) × Int32 × Int32 × Int32) → Option (Int32 × (Nat → Int32) × (Nat → Int32) × (Nat → Int32)) :=
  fun (moI_233, mo_rowsF_233, mo_talksF_233, x3_233, x4_233, x6_233) => fX4_isRead_b234 N hoI taI ta_bytesF k181 (moI_233, mo_rowsF_233, mo_talksF_233, x3_233, x4_233, x6_233, 0)
def fX4_isRead_l181 (N : Nat) (hoI : Nat → Int32) (taI : Nat → Int32) (ta_bytesF : Nat → Int32)  (k181 : ((Nat → Int32) × (Nat → Int32) × (Nat → Int32) × Int32 × Int32 × Int32 × Int32) → Option (Int32 × (Nat → Int32) × (Nat → Int32) × (Nat → Int32))) : ((Nat → Int32) × (Nat → Int32) × (Nat → Int32) × Int32 × Int32 × Int32 × Int32) → Option (Int32 × (Nat → Int32) × (Nat → Int32) × (Nat → Int32)) :=
  fun (moI_181, mo_rowsF_181, mo_talksF_181, x3_181, x4_181, x5_181, x6_181) => (if (hoI 6) ≤ x6_181 then (xq_bd (fX9_at N taI ta_bytesF x3_181) fun r_1 => (if x4_181 = r_1 then (if x5_181 = 0 then some ((0, moI_181, mo_rowsF_181, mo_talksF_181)) else (if 999 < (moI_181 0) then some ((0, moI_181, mo_rowsF_181, mo_talksF_181)) else (if (hoI 1) ≤ (moI_181 1) then some ((0, moI_181, mo_rowsF_181, mo_talksF_181)) else (if 999 < (moI_181 2) then some ((0, moI_181, mo_rowsF_181, mo_talksF_181)) else (if 20 < (moI_181 3) then some ((0, moI_181, mo_rowsF_181, mo_talksF_181)) else some ((1, moI_181, mo_rowsF_181, mo_talksF_181))))))) else some ((0, moI_181, mo_rowsF_181, mo_talksF_181)))) else (xq_bd (fX9_at N taI ta_bytesF ((8 + (hoI 5)) + x6_181)) fun r_3 => (xq_bd (xq_ast 6 mo_talksF_181 x6_181 r_3) fun g_5 => (if x5_181 = 0 then fX4_isRead_b233 N hoI taI ta_bytesF k181 (moI_181, mo_rowsF_181, g_5, x3_181, x4_181, x6_181) else (xq_bd (xq_ald 6 g_5 x6_181) fun v_6 => (xq_bd (fX11_isDigit N v_6) fun r_7 => (if r_7 = 0 then fX4_isRead_b233 N hoI taI ta_bytesF k181 (moI_181, mo_rowsF_181, g_5, x3_181, x4_181, x6_181) else fX4_isRead_b234 N hoI taI ta_bytesF k181 (moI_181, mo_rowsF_181, g_5, x3_181, x4_181, x6_181, 1))))))))
def fX4_isRead_b170 (N : Nat) (hoI : Nat → Int32) (taI : Nat → Int32) (ta_bytesF : Nat → Int32)  (k122 : ((Nat → Int32) × (Nat → Int32) × (Nat → Int32) × Int32 × Int32 × Int32 × Int32) → Option (Int32 × (Nat → Int32) × (Nat → Int32) × (Nat → Int32))) : ((Nat → Int32) × (Nat → Int32) × (Nat → Int32) × Int32 × Int32 × Int32 × Int32) → Option (Int32 × (Nat → Int32) × (Nat → Int32) × (Nat → Int32)) :=
  fun (moI_170, mo_rowsF_170, mo_talksF_170, x3_170, x4_170, x6_170, y0_170) => k122 (moI_170, mo_rowsF_170, mo_talksF_170, x3_170, x4_170, y0_170, x6_170 + 1)
def fX4_isRead_b169 (N : Nat) (hoI : Nat → Int32) (taI : Nat → Int32) (ta_bytesF : Nat → Int32)  (k122 : ((Nat → Int32) × (Nat → Int32) × (Nat → Int32) × Int32 × Int32 × Int32 × Int32) → Option (Int32 × (Nat → Int32) × (Nat → Int32) × (Nat → Int32))) : ((Nat → Int32) × (Nat → Int32) × (Nat → Int32) × Int32 × Int32 × Int32) → Option (Int32 × (Nat → Int32) × (Nat → Int32) × (Nat → Int32)) :=
  fun (moI_169, mo_rowsF_169, mo_talksF_169, x3_169, x4_169, x6_169) => fX4_isRead_b170 N hoI taI ta_bytesF k122 (moI_169, mo_rowsF_169, mo_talksF_169, x3_169, x4_169, x6_169, 0)
def fX4_isRead_l122 (N : Nat) (hoI : Nat → Int32) (taI : Nat → Int32) (ta_bytesF : Nat → Int32)  (k122 : ((Nat → Int32) × (Nat → Int32) × (Nat → Int32) × Int32 × Int32 × Int32 × Int32) → Option (Int32 × (Nat → Int32) × (Nat → Int32) × (Nat → Int32))) : ((Nat → Int32) × (Nat → Int32) × (Nat → Int32) × Int32 × Int32 × Int32 × Int32) → Option (Int32 × (Nat → Int32) × (Nat → Int32) × (Nat → Int32)) :=
  fun (moI_122, mo_rowsF_122, mo_talksF_122, x3_122, x4_122, x5_122, x6_122) => (if (hoI 5) ≤ x6_122 then xq_loop (fX4_isRead_l181 N hoI taI ta_bytesF) N (moI_122, mo_rowsF_122, mo_talksF_122, x3_122, x4_122, x5_122, 0) else (xq_bd (fX9_at N taI ta_bytesF (8 + x6_122)) fun r_9 => (xq_bd (xq_ast 7 mo_rowsF_122 x6_122 r_9) fun g_11 => (if x5_122 = 0 then fX4_isRead_b169 N hoI taI ta_bytesF k122 (moI_122, g_11, mo_talksF_122, x3_122, x4_122, x6_122) else (xq_bd (xq_ald 7 g_11 x6_122) fun v_12 => (xq_bd (fX11_isDigit N v_12) fun r_13 => (if r_13 = 0 then fX4_isRead_b169 N hoI taI ta_bytesF k122 (moI_122, g_11, mo_talksF_122, x3_122, x4_122, x6_122) else fX4_isRead_b170 N hoI taI ta_bytesF k122 (moI_122, g_11, mo_talksF_122, x3_122, x4_122, x6_122, 1))))))))
def fX4_isRead_l33 (N : Nat) (hoI : Nat → Int32) (taI : Nat → Int32) (ta_bytesF : Nat → Int32)  (k33 : ((Nat → Int32) × (Nat → Int32) × (Nat → Int32) × Int32 × Int32 × Int32) → Option (Int32 × (Nat → Int32) × (Nat → Int32) × (Nat → Int32))) : ((Nat → Int32) × (Nat → Int32) × (Nat → Int32) × Int32 × Int32 × Int32) → Option (Int32 × (Nat → Int32) × (Nat → Int32) × (Nat → Int32)) :=
  fun (moI_33, mo_rowsF_33, mo_talksF_33, x3_33, x4_33, x5_33) => (if x3_33 ≤ x5_33 then (xq_bd (fX4_twoAt N taI ta_bytesF 0) fun r_15 => (xq_bd (fX4_twoAt N taI ta_bytesF 2) fun r_17 => (xq_bd (fX4_twoAt N taI ta_bytesF 4) fun r_19 => (xq_bd (fX9_at N taI ta_bytesF 6) fun r_21 => (xq_bd (fX9_at N taI ta_bytesF 7) fun r_23 => (xq_bd (fX11_isDigit N r_23) fun r_25 => xq_loop (fX4_isRead_l122 N hoI taI ta_bytesF) N ((va_up (va_up (va_up (va_up (va_up (va_up moI_33 0 r_15) 1 r_17) 2 r_19) 3 r_21) 4 r_23) 5 0), mo_rowsF_33, mo_talksF_33, x3_33, x4_33, r_25, 0))))))) else (xq_bd (fX9_at N taI ta_bytesF x5_33) fun r_27 => (xq_bd (fX4_checkOn N x4_33 r_27) fun r_29 => k33 (moI_33, mo_rowsF_33, mo_talksF_33, x3_33, r_29, x5_33 + 1))))
def fX4_isRead (N : Nat) (hoI : Nat → Int32) (taI : Nat → Int32) (ta_bytesF : Nat → Int32) (moI : Nat → Int32) (mo_rowsF : Nat → Int32) (mo_talksF : Nat → Int32)   : Option (Int32 × (Nat → Int32) × (Nat → Int32) × (Nat → Int32)) :=
  (if (taI 1) = (((8 + (hoI 5)) + (hoI 6)) + 1) then xq_loop (fX4_isRead_l33 N hoI taI ta_bytesF) N (moI, mo_rowsF, mo_talksF, (8 + (hoI 5)) + (hoI 6), 239, 0) else some ((0, moI, mo_rowsF, mo_talksF)))
set_option maxHeartbeats 4000000 in
set_option maxRecDepth 100000 in
theorem kX4_isRead (l : Launch) (dC : Nat → ClassId) (dI : Nat → Nat → Nat) (cI cB cJ cZ cM : ClassId) (z : Nat) (ad : Nat → Nat) (N : Nat) (a_p2 : Nat) (hoI : Nat → Int32) (hoR : Nat → Nat) (a_p0 : Nat) (taI : Nat → Int32) (taR : Nat → Nat) (ta_bytesF : Nat → Int32) (a_p1 : Nat) (moI : Nat → Int32) (moR : Nat → Nat) (mo_rowsF : Nat → Int32) (mo_talksF : Nat → Int32) {r0 : Int32} {r1 : Nat → Int32} {r2 : Nat → Int32} {r3 : Nat → Int32} (hf : fX4_isRead N hoI taI ta_bytesF moI mo_rowsF mo_talksF = some (r0, r1, r2, r3)) : xq_Ct l yX4_isRead wsX4_isRead { frames := 2, cells := 0, slots := 0, locals := 42 } (dC, dI) vwCl (xq_tys cI cB cJ cZ cM) z ad [.ref a_p0, .ref a_p1, .ref a_p2] [(a_p2, .inr (2, oX2 hoI hoR)), (a_p0, .inr (9, oX9 taI taR)), ((taR 0), .inl (cB, 1600, .inl ta_bytesF)), (a_p1, .inr (6, oX6 moI moR)), ((moR 6), .inl (cI, 7, .inl mo_rowsF)), ((moR 7), .inl (cI, 6, .inl mo_talksF))] [(a_p2, .inr (2, oX2 hoI hoR)), (a_p0, .inr (9, oX9 taI taR)), ((taR 0), .inl (cB, 1600, .inl ta_bytesF)), (a_p1, .inr (6, oX6 r1 moR)), ((moR 6), .inl (cI, 7, .inl r2)), ((moR 7), .inl (cI, 6, .inl r3))] (some (.int r0)) := by
  intro sz
  refine Met.ofW (cc := cX4_isRead) (maxL := 7) (ret := (some .boolean)) (by decide) rfl ?_
  intro p e s m args below meth c s₁ B hml hv
  obtain ⟨rfl, hsz, hP, hK, hD0, hE, hz⟩ := hv
  have hx := B.exec
  have hb := B.bytes
  have hr := B.returns
  have hts := atoms_spec (ws := wsX4_isRead) B.pre
  have hown : s.vm.findClass RX4 = some m.cls := findClass_of_methodNamed B.named
  have hlocks := B.notSynchronized
  subst hsz
  have hD := hD0.self (sz := s.heap.size)
  have hN := xq_Env.of hE hz hD0
  generalize hAe : va_A [(a_p2, .inr (2, oX2 hoI hoR)), (a_p0, .inr (9, oX9 taI taR)), ((taR 0), .inl (cB, 1600, .inl ta_bytesF)), (a_p1, .inr (6, oX6 moI moR)), ((moR 6), .inl (cI, 7, .inl mo_rowsF)), ((moR 7), .inl (cI, 6, .inl mo_talksF))] s.heap.size = A at hD hN ⊢
  have hA : ∀ q : Nat, s.heap.size ≤ q → A q := fun q h => by rw [← hAe]; exact Or.inr h
  clear hAe hD0
  have hS : va_S A s.heap s.heap [] := va_S.rf
  have hl := lv_entry ([.ref a_p0, .ref a_p1, .ref a_p2]) (n := 7) (Nat.le_of_ble_eq_true rfl)
  rw [lg_entry_eq]
  generalize (lg_sl ([.ref a_p0, .ref a_p1, .ref a_p2]) ++ List.replicate (7 - (lg_sl ([.ref a_p0, .ref a_p1, .ref a_p2])).length) Slot.unset).toArray = ls at hl ⊢
  have hl : lv_has ls 7 [(0, .ref a_p0), (1, .ref a_p1), (2, .ref a_p2)] := hl
  have hnf47 := va_Nw.use (A := [.ref a_p0, .ref a_p1, .ref a_p2].toArray) rfl (hN.1.1.1 ("DistantVoice$Image", 53, "DistantVoice$House", "ears", "I", "DistantVoice") (List.mem_of_getElem? (i := 47) rfl))
  have hinX2 : ∀ w ∈ wsX20, w ∈ wsX4_isRead := fun w h => List.mem_cons_of_mem _ (List.mem_append_left _ (List.mem_append_left _ (List.mem_append_right _ h)))
  have hnf51 := va_Nw.use (A := [.ref a_p0, .ref a_p1, .ref a_p2].toArray) rfl (hN.1.1.1 ("DistantVoice$Image", 58, "DistantVoice$House", "places", "I", "DistantVoice") (List.mem_of_getElem? (i := 51) rfl))
  have hnf3 := va_Nw.use (A := [.ref a_p0, .ref a_p1, .ref a_p2].toArray) rfl (hN.1.1.1 ("DistantVoice$Image", 61, "DistantVoice$Tape", "length", "I", "DistantVoice") (List.mem_of_getElem? (i := 3) rfl))
  have hinX9 : ∀ w ∈ wsX90, w ∈ wsX4_isRead := fun w h => List.mem_cons_of_mem _ (List.mem_append_left _ (List.mem_append_right _ h))
  have hnf4 := va_Nw.use (A := [.ref a_p0, .ref a_p1, .ref a_p2].toArray) rfl (hN.1.1.1 ("DistantVoice$Image", 19, "DistantVoice$Moment", "night", "I", "DistantVoice") (List.mem_of_getElem? (i := 4) rfl))
  have hinX6 : ∀ w ∈ wsX60, w ∈ wsX4_isRead := fun w h => List.mem_cons_of_mem _ (List.mem_append_right _ h)
  have hnf7 := va_Nw.use (A := [.ref a_p0, .ref a_p1, .ref a_p2].toArray) rfl (hN.1.1.1 ("DistantVoice$Image", 28, "DistantVoice$Moment", "mile", "I", "DistantVoice") (List.mem_of_getElem? (i := 7) rfl))
  have hnf10 := va_Nw.use (A := [.ref a_p0, .ref a_p1, .ref a_p2].toArray) rfl (hN.1.1.1 ("DistantVoice$Image", 31, "DistantVoice$Moment", "rounds", "I", "DistantVoice") (List.mem_of_getElem? (i := 10) rfl))
  have hnf13 := va_Nw.use (A := [.ref a_p0, .ref a_p1, .ref a_p2].toArray) rfl (hN.1.1.1 ("DistantVoice$Image", 34, "DistantVoice$Moment", "talking", "I", "DistantVoice") (List.mem_of_getElem? (i := 13) rfl))
  have hnf16 := va_Nw.use (A := [.ref a_p0, .ref a_p1, .ref a_p2].toArray) rfl (hN.1.1.1 ("DistantVoice$Image", 40, "DistantVoice$Moment", "hush", "I", "DistantVoice") (List.mem_of_getElem? (i := 16) rfl))
  have hnf18 := va_Nw.use (A := [.ref a_p0, .ref a_p1, .ref a_p2].toArray) rfl (hN.1.1.1 ("DistantVoice$Image", 72, "DistantVoice$Moment", "keptCount", "I", "DistantVoice") (List.mem_of_getElem? (i := 18) rfl))
  have hnm8 : va_Nw (.methodLinkNest "DistantVoice$Image" 75 ⟨"DistantVoice", "isDigit", "(I)Z"⟩ "DistantVoice") s := hN.1.1.2 ("DistantVoice$Image", 75, ⟨"DistantVoice", "isDigit", "(I)Z"⟩, "DistantVoice") (List.mem_of_getElem? (i := 8) rfl)
  have hw13 := hts (.initialized RX11) (by decide +kernel)
  have hw14 := hts (.static yX11_isDigit) (by decide +kernel)
  have hnf20 := va_Nw.use (A := [.ref a_p0, .ref a_p1, .ref a_p2].toArray) rfl (hN.1.1.1 ("DistantVoice$Image", 43, "DistantVoice$Moment", "rows", "[I", "DistantVoice") (List.mem_of_getElem? (i := 20) rfl))
  have hnf38 := va_Nw.use (A := [.ref a_p0, .ref a_p1, .ref a_p2].toArray) rfl (hN.1.1.1 ("DistantVoice$Image", 79, "DistantVoice$House", "roundMiles", "I", "DistantVoice") (List.mem_of_getElem? (i := 38) rfl))
  have hnf23 := va_Nw.use (A := [.ref a_p0, .ref a_p1, .ref a_p2].toArray) rfl (hN.1.1.1 ("DistantVoice$Image", 46, "DistantVoice$Moment", "talks", "[I", "DistantVoice") (List.mem_of_getElem? (i := 23) rfl))
  have l181 : ∀ n181 : Nat, ∀ (moI_181 : Nat → Int32) (mo_rowsF_181 : Nat → Int32) (mo_talksF_181 : Nat → Int32) (x3_181 : Int32) (x4_181 : Int32) (x5_181 : Int32) (x6_181 : Int32) (ls : Array Slot) (H : Heap) (locs : List Loc), xq_loop (fX4_isRead_l181 N hoI taI ta_bytesF) n181 (moI_181, mo_rowsF_181, mo_talksF_181, x3_181, x4_181, x5_181, x6_181) = some (r0, r1, r2, r3) → va_P (dC, dI) vwCl [(a_p2, .inr (2, oX2 hoI hoR)), (a_p0, .inr (9, oX9 taI taR)), ((taR 0), .inl (cB, 1600, .inl ta_bytesF)), (a_p1, .inr (6, oX6 moI_181 moR)), ((moR 6), .inl (cI, 7, .inl mo_rowsF_181)), ((moR 7), .inl (cI, 6, .inl mo_talksF_181))] H → va_D A [(a_p2, .inr (2, oX2 hoI hoR)), (a_p0, .inr (9, oX9 taI taR)), ((taR 0), .inl (cB, 1600, .inl ta_bytesF)), (a_p1, .inr (6, oX6 moI_181 moR)), ((moR 6), .inl (cI, 7, .inl mo_rowsF_181)), ((moR 7), .inl (cI, 6, .inl mo_talksF_181))] → va_S A s.heap H locs → lv_has ls 7 [(0, .ref a_p0), (1, .ref a_p1), (2, .ref a_p2), (3, .int x3_181), (4, .int x4_181), (5, .int x5_181), (6, .int x6_181)] → W p l e (headSpec wsX4_isRead { frames := 2, cells := 0, slots := 0, locals := 42 }).room s m [.ref a_p0, .ref a_p1, .ref a_p2].toArray below meth c H locs 0 0 (MQ below (xq_Q (dC, dI) vwCl (xq_tys cI cB cJ cZ cM) A [(a_p2, .inr (2, oX2 hoI hoR)), (a_p0, .inr (9, oX9 taI taR)), ((taR 0), .inl (cB, 1600, .inl ta_bytesF)), (a_p1, .inr (6, oX6 r1 moR)), ((moR 6), .inl (cI, 7, .inl r2)), ((moR 7), .inl (cI, 6, .inl r3))] (some (.int r0))) [.ref a_p0, .ref a_p1, .ref a_p2].toArray s 0 0 A) (F0 m 181 ls []) := by
    intro n181
    induction n181 with
    | zero => intro moI_181 mo_rowsF_181 mo_talksF_181 x3_181 x4_181 x5_181 x6_181 ls H locs hf; cases (show none = some (r0, r1, r2, r3) from hf)
    | succ n181 ih181 =>
      have b234 : ∀ (moI_234 : Nat → Int32) (mo_rowsF_234 : Nat → Int32) (mo_talksF_234 : Nat → Int32) (x3_234 : Int32) (x4_234 : Int32) (x6_234 : Int32) (y0_234 : Int32) (ls : Array Slot) (H : Heap) (locs : List Loc), fX4_isRead_b234 N hoI taI ta_bytesF (xq_loop (fX4_isRead_l181 N hoI taI ta_bytesF) n181) (moI_234, mo_rowsF_234, mo_talksF_234, x3_234, x4_234, x6_234, y0_234) = some (r0, r1, r2, r3) → va_P (dC, dI) vwCl [(a_p2, .inr (2, oX2 hoI hoR)), (a_p0, .inr (9, oX9 taI taR)), ((taR 0), .inl (cB, 1600, .inl ta_bytesF)), (a_p1, .inr (6, oX6 moI_234 moR)), ((moR 6), .inl (cI, 7, .inl mo_rowsF_234)), ((moR 7), .inl (cI, 6, .inl mo_talksF_234))] H → va_D A [(a_p2, .inr (2, oX2 hoI hoR)), (a_p0, .inr (9, oX9 taI taR)), ((taR 0), .inl (cB, 1600, .inl ta_bytesF)), (a_p1, .inr (6, oX6 moI_234 moR)), ((moR 6), .inl (cI, 7, .inl mo_rowsF_234)), ((moR 7), .inl (cI, 6, .inl mo_talksF_234))] → va_S A s.heap H locs → lv_has ls 7 [(0, .ref a_p0), (1, .ref a_p1), (2, .ref a_p2), (3, .int x3_234), (4, .int x4_234), (6, .int x6_234)] → W p l e (headSpec wsX4_isRead { frames := 2, cells := 0, slots := 0, locals := 42 }).room s m [.ref a_p0, .ref a_p1, .ref a_p2].toArray below meth c H locs 0 0 (MQ below (xq_Q (dC, dI) vwCl (xq_tys cI cB cJ cZ cM) A [(a_p2, .inr (2, oX2 hoI hoR)), (a_p0, .inr (9, oX9 taI taR)), ((taR 0), .inl (cB, 1600, .inl ta_bytesF)), (a_p1, .inr (6, oX6 r1 moR)), ((moR 6), .inl (cI, 7, .inl r2)), ((moR 7), .inl (cI, 6, .inl r3))] (some (.int r0))) [.ref a_p0, .ref a_p1, .ref a_p2].toArray s 0 0 A) (F0 m 234 ls [.int y0_234]) := by
        intro moI_234 mo_rowsF_234 mo_talksF_234 x3_234 x4_234 x6_234 y0_234 ls H locs hf hP hD hS hl
        unfold fX4_isRead_b234 at hf
        refine lv_istore (lv' := [(5, .int y0_234), (0, .ref a_p0), (1, .ref a_p1), (2, .ref a_p2), (3, .int x3_234), (4, .int x4_234), (6, .int x6_234)]) hx hb dX4_isRead_234 hl (by decide) rfl (fun ls hl => ?_)
        refine lv_iinc (v := x6_234 + 1) (lv' := [(6, .int (x6_234 + 1)), (5, .int y0_234), (0, .ref a_p0), (1, .ref a_p1), (2, .ref a_p2), (3, .int x3_234), (4, .int x4_234)]) hx hb dX4_isRead_236 hl (k := 6) rfl (congrArg (fun q9 => x6_234 + q9) (by decide : Int32.ofInt 1 = 1)) (by decide) rfl (fun ls hl => ?_)
        refine lv_goto (tgt := 181) hx hb dX4_isRead_239 (by decide) ?_
        exact ih181 moI_234 mo_rowsF_234 mo_talksF_234 x3_234 x4_234 y0_234 (x6_234 + 1) _ _ _ hf hP hD hS (lv_sub hl [2, 3, 4, 5, 6, 1, 0] rfl)
      have b233 : ∀ (moI_233 : Nat → Int32) (mo_rowsF_233 : Nat → Int32) (mo_talksF_233 : Nat → Int32) (x3_233 : Int32) (x4_233 : Int32) (x6_233 : Int32) (ls : Array Slot) (H : Heap) (locs : List Loc), fX4_isRead_b233 N hoI taI ta_bytesF (xq_loop (fX4_isRead_l181 N hoI taI ta_bytesF) n181) (moI_233, mo_rowsF_233, mo_talksF_233, x3_233, x4_233, x6_233) = some (r0, r1, r2, r3) → va_P (dC, dI) vwCl [(a_p2, .inr (2, oX2 hoI hoR)), (a_p0, .inr (9, oX9 taI taR)), ((taR 0), .inl (cB, 1600, .inl ta_bytesF)), (a_p1, .inr (6, oX6 moI_233 moR)), ((moR 6), .inl (cI, 7, .inl mo_rowsF_233)), ((moR 7), .inl (cI, 6, .inl mo_talksF_233))] H → va_D A [(a_p2, .inr (2, oX2 hoI hoR)), (a_p0, .inr (9, oX9 taI taR)), ((taR 0), .inl (cB, 1600, .inl ta_bytesF)), (a_p1, .inr (6, oX6 moI_233 moR)), ((moR 6), .inl (cI, 7, .inl mo_rowsF_233)), ((moR 7), .inl (cI, 6, .inl mo_talksF_233))] → va_S A s.heap H locs → lv_has ls 7 [(0, .ref a_p0), (1, .ref a_p1), (2, .ref a_p2), (3, .int x3_233), (4, .int x4_233), (6, .int x6_233)] → W p l e (headSpec wsX4_isRead { frames := 2, cells := 0, slots := 0, locals := 42 }).room s m [.ref a_p0, .ref a_p1, .ref a_p2].toArray below meth c H locs 0 0 (MQ below (xq_Q (dC, dI) vwCl (xq_tys cI cB cJ cZ cM) A [(a_p2, .inr (2, oX2 hoI hoR)), (a_p0, .inr (9, oX9 taI taR)), ((taR 0), .inl (cB, 1600, .inl ta_bytesF)), (a_p1, .inr (6, oX6 r1 moR)), ((moR 6), .inl (cI, 7, .inl r2)), ((moR 7), .inl (cI, 6, .inl r3))] (some (.int r0))) [.ref a_p0, .ref a_p1, .ref a_p2].toArray s 0 0 A) (F0 m 233 ls []) := by
        intro moI_233 mo_rowsF_233 mo_talksF_233 x3_233 x4_233 x6_233 ls H locs hf hP hD hS hl
        unfold fX4_isRead_b233 at hf
        refine lv_iconst (v := 0) hx hb dX4_isRead_233 (by decide) ?_
        exact b234 moI_233 mo_rowsF_233 mo_talksF_233 x3_233 x4_233 x6_233 0 _ _ _ hf hP hD hS (lv_sub hl [0, 1, 2, 3, 4, 5] rfl)
      intro moI_181 mo_rowsF_181 mo_talksF_181 x3_181 x4_181 x5_181 x6_181 ls H locs hf hP hD hS hl
      have hf : fX4_isRead_l181 N hoI taI ta_bytesF (xq_loop (fX4_isRead_l181 N hoI taI ta_bytesF) n181) (moI_181, mo_rowsF_181, mo_talksF_181, x3_181, x4_181, x5_181, x6_181) = some (r0, r1, r2, r3) := hf
      unfold fX4_isRead_l181 at hf
      refine lv_iload hx hb dX4_isRead_181 (lv_at hl 6 rfl) ?_
      refine lv_aload_n hx hb dX4_isRead_183 rfl (lv_at hl 2 rfl) ?_
      refine va_getN (D := (dC, dI)) (ci := 2) (v := .int (hoI 6)) (C := RX2) (T := TX2) (N := 19) hx hb hts hinX2 hown hK hP 0 rfl rfl 6 (by decide) hnf51 (fun _ h9 => h9) rfl dX4_isRead_184 ?_
      refine lv_icmp_ge (tgt := 242) hx hb dX4_isRead_187 (by decide) (fun c_ => ?_) (fun c_ => ?_)
      · have hf := xq_pos hf c_
        refine lv_iload hx hb dX4_isRead_242 (lv_at hl 4 rfl) ?_
        refine lv_aload_n hx hb dX4_isRead_244 rfl (lv_at hl 0 rfl) ?_
        refine lv_iload_n hx hb dX4_isRead_245 rfl (lv_at hl 3 rfl) ?_
        obtain ⟨r_1, h_2, hf⟩ := xq_bd_some hf
        refine xq_callV (As := [.int x3_181]) (rest := [.int x4_181]) (ci := 9) (q0 := 1) ⟨hx, hb, hml, hown, hts⟩ (kX9_at l dC dI cI cB cJ cZ cM z ad N a_p0 taI taR ta_bytesF x3_181 h_2) (cwV 1 hts gX4_isRead_X9_at rfl rfl rfl (by decide +kernel) ⟨Nat.le_of_ble_eq_true rfl, Nat.le_of_ble_eq_true rfl⟩) hN hK hP hD hS hA [1, 2] (by decide) rfl rfl rfl rfl rfl rfl hl.1 rfl (Nat.le_of_ble_eq_true rfl) dX4_isRead_246 ⟨Nat.zero_le _, Nat.zero_le _⟩ (fun H locs hP hD hS => ?_)
        have hP : va_P (dC, dI) vwCl [(a_p2, .inr (2, oX2 hoI hoR)), (a_p0, .inr (9, oX9 taI taR)), ((taR 0), .inl (cB, 1600, .inl ta_bytesF)), (a_p1, .inr (6, oX6 moI_181 moR)), ((moR 6), .inl (cI, 7, .inl mo_rowsF_181)), ((moR 7), .inl (cI, 6, .inl mo_talksF_181))] H := hP
        have hD : va_D A [(a_p2, .inr (2, oX2 hoI hoR)), (a_p0, .inr (9, oX9 taI taR)), ((taR 0), .inl (cB, 1600, .inl ta_bytesF)), (a_p1, .inr (6, oX6 moI_181 moR)), ((moR 6), .inl (cI, 7, .inl mo_rowsF_181)), ((moR 7), .inl (cI, 6, .inl mo_talksF_181))] := hD
        refine W.eq (g2 := F0 m 249 ls [.int r_1, .int x4_181]) rfl ?_
        refine lv_icmp_ne (tgt := 301) hx hb dX4_isRead_249 (by decide) (fun c_ => ?_) (fun c_ => ?_)
        · have hf := xq_neg hf c_
          refine lv_iconst (v := 0) hx hb dX4_isRead_301 (by decide) ?_
          cases hf
          exact xq_zret hx hb hr (by decide +kernel) hlocks hK hP hD hS dX4_isRead_302
        · have hf := xq_pos hf c_
          refine lv_iload hx hb dX4_isRead_252 (lv_at hl 5 rfl) ?_
          refine lv_if_eq (tgt := 301) hx hb dX4_isRead_254 (by decide) (fun c_ => ?_) (fun c_ => ?_)
          · have hf := xq_pos hf c_
            refine lv_iconst (v := 0) hx hb dX4_isRead_301 (by decide) ?_
            cases hf
            exact xq_zret hx hb hr (by decide +kernel) hlocks hK hP hD hS dX4_isRead_302
          · have hf := xq_neg hf c_
            refine lv_aload_n hx hb dX4_isRead_257 rfl (lv_at hl 1 rfl) ?_
            refine va_getN (D := (dC, dI)) (ci := 6) (v := .int (moI_181 0)) (C := RX6) (T := TX6) (N := 8) hx hb hts hinX6 hown hK hP 3 rfl rfl 0 (by decide) hnf4 (fun _ h9 => h9) rfl dX4_isRead_258 ?_
            refine lv_sipush (v := 999) hx hb dX4_isRead_261 (by decide) ?_
            refine lv_icmp_gt (tgt := 301) hx hb dX4_isRead_264 (by decide) (fun c_ => ?_) (fun c_ => ?_)
            · have hf := xq_pos hf c_
              refine lv_iconst (v := 0) hx hb dX4_isRead_301 (by decide) ?_
              cases hf
              exact xq_zret hx hb hr (by decide +kernel) hlocks hK hP hD hS dX4_isRead_302
            · have hf := xq_neg hf c_
              refine lv_aload_n hx hb dX4_isRead_267 rfl (lv_at hl 1 rfl) ?_
              refine va_getN (D := (dC, dI)) (ci := 6) (v := .int (moI_181 1)) (C := RX6) (T := TX6) (N := 8) hx hb hts hinX6 hown hK hP 3 rfl rfl 1 (by decide) hnf7 (fun _ h9 => h9) rfl dX4_isRead_268 ?_
              refine lv_aload_n hx hb dX4_isRead_271 rfl (lv_at hl 2 rfl) ?_
              refine va_getN (D := (dC, dI)) (ci := 2) (v := .int (hoI 1)) (C := RX2) (T := TX2) (N := 19) hx hb hts hinX2 hown hK hP 0 rfl rfl 1 (by decide) hnf38 (fun _ h9 => h9) rfl dX4_isRead_272 ?_
              refine lv_icmp_ge (tgt := 301) hx hb dX4_isRead_275 (by decide) (fun c_ => ?_) (fun c_ => ?_)
              · have hf := xq_pos hf c_
                refine lv_iconst (v := 0) hx hb dX4_isRead_301 (by decide) ?_
                cases hf
                exact xq_zret hx hb hr (by decide +kernel) hlocks hK hP hD hS dX4_isRead_302
              · have hf := xq_neg hf c_
                refine lv_aload_n hx hb dX4_isRead_278 rfl (lv_at hl 1 rfl) ?_
                refine va_getN (D := (dC, dI)) (ci := 6) (v := .int (moI_181 2)) (C := RX6) (T := TX6) (N := 8) hx hb hts hinX6 hown hK hP 3 rfl rfl 2 (by decide) hnf10 (fun _ h9 => h9) rfl dX4_isRead_279 ?_
                refine lv_sipush (v := 999) hx hb dX4_isRead_282 (by decide) ?_
                refine lv_icmp_gt (tgt := 301) hx hb dX4_isRead_285 (by decide) (fun c_ => ?_) (fun c_ => ?_)
                · have hf := xq_pos hf c_
                  refine lv_iconst (v := 0) hx hb dX4_isRead_301 (by decide) ?_
                  cases hf
                  exact xq_zret hx hb hr (by decide +kernel) hlocks hK hP hD hS dX4_isRead_302
                · have hf := xq_neg hf c_
                  refine lv_aload_n hx hb dX4_isRead_288 rfl (lv_at hl 1 rfl) ?_
                  refine va_getN (D := (dC, dI)) (ci := 6) (v := .int (moI_181 3)) (C := RX6) (T := TX6) (N := 8) hx hb hts hinX6 hown hK hP 3 rfl rfl 3 (by decide) hnf13 (fun _ h9 => h9) rfl dX4_isRead_289 ?_
                  refine lv_bipush (v := 20) hx hb dX4_isRead_292 (by decide) ?_
                  refine lv_icmp_gt (tgt := 301) hx hb dX4_isRead_294 (by decide) (fun c_ => ?_) (fun c_ => ?_)
                  · have hf := xq_pos hf c_
                    refine lv_iconst (v := 0) hx hb dX4_isRead_301 (by decide) ?_
                    cases hf
                    exact xq_zret hx hb hr (by decide +kernel) hlocks hK hP hD hS dX4_isRead_302
                  · have hf := xq_neg hf c_
                    refine lv_iconst (v := 1) hx hb dX4_isRead_297 (by decide) ?_
                    refine lv_goto (tgt := 302) hx hb dX4_isRead_298 (by decide) ?_
                    cases hf
                    exact xq_zret hx hb hr (by decide +kernel) hlocks hK hP hD hS dX4_isRead_302
      · have hf := xq_neg hf c_
        refine lv_aload_n hx hb dX4_isRead_190 rfl (lv_at hl 1 rfl) ?_
        refine va_getN (D := (dC, dI)) (ci := 6) (v := .ref ((moR 7))) (C := RX6) (T := TX6) (N := 8) hx hb hts hinX6 hown hK hP 3 rfl rfl 7 (by decide) hnf23 (fun _ h9 => h9) rfl dX4_isRead_191 ?_
        refine lv_iload hx hb dX4_isRead_194 (lv_at hl 6 rfl) ?_
        refine lv_aload_n hx hb dX4_isRead_196 rfl (lv_at hl 0 rfl) ?_
        refine lv_bipush (v := 8) hx hb dX4_isRead_197 (by decide) ?_
        refine lv_aload_n hx hb dX4_isRead_199 rfl (lv_at hl 2 rfl) ?_
        refine va_getN (D := (dC, dI)) (ci := 2) (v := .int (hoI 5)) (C := RX2) (T := TX2) (N := 19) hx hb hts hinX2 hown hK hP 0 rfl rfl 5 (by decide) hnf47 (fun _ h9 => h9) rfl dX4_isRead_200 ?_
        refine lv_iadd hx hb dX4_isRead_203 ?_
        refine lv_iload hx hb dX4_isRead_204 (lv_at hl 6 rfl) ?_
        refine lv_iadd hx hb dX4_isRead_206 ?_
        obtain ⟨r_3, h_4, hf⟩ := xq_bd_some hf
        refine xq_callV (As := [.int ((8 + (hoI 5)) + x6_181)]) (rest := [.int x6_181, .ref ((moR 7))]) (ci := 9) (q0 := 1) ⟨hx, hb, hml, hown, hts⟩ (kX9_at l dC dI cI cB cJ cZ cM z ad N a_p0 taI taR ta_bytesF ((8 + (hoI 5)) + x6_181) h_4) (cwV 1 hts gX4_isRead_X9_at rfl rfl rfl (by decide +kernel) ⟨Nat.le_of_ble_eq_true rfl, Nat.le_of_ble_eq_true rfl⟩) hN hK hP hD hS hA [1, 2] (by decide) rfl rfl rfl rfl rfl rfl hl.1 rfl (Nat.le_of_ble_eq_true rfl) dX4_isRead_207 ⟨Nat.zero_le _, Nat.zero_le _⟩ (fun H locs hP hD hS => ?_)
        have hP : va_P (dC, dI) vwCl [(a_p2, .inr (2, oX2 hoI hoR)), (a_p0, .inr (9, oX9 taI taR)), ((taR 0), .inl (cB, 1600, .inl ta_bytesF)), (a_p1, .inr (6, oX6 moI_181 moR)), ((moR 6), .inl (cI, 7, .inl mo_rowsF_181)), ((moR 7), .inl (cI, 6, .inl mo_talksF_181))] H := hP
        have hD : va_D A [(a_p2, .inr (2, oX2 hoI hoR)), (a_p0, .inr (9, oX9 taI taR)), ((taR 0), .inl (cB, 1600, .inl ta_bytesF)), (a_p1, .inr (6, oX6 moI_181 moR)), ((moR 6), .inl (cI, 7, .inl mo_rowsF_181)), ((moR 7), .inl (cI, 6, .inl mo_talksF_181))] := hD
        refine W.eq (g2 := F0 m 210 ls [.int r_3, .int x6_181, .ref ((moR 7))]) rfl ?_
        refine xq_iast hx hb hK hP hD hS 5 0 rfl rfl hf dX4_isRead_210 (fun g_5 H locs hf hP hD hS => ?_)
        have hP : va_P (dC, dI) vwCl [(a_p2, .inr (2, oX2 hoI hoR)), (a_p0, .inr (9, oX9 taI taR)), ((taR 0), .inl (cB, 1600, .inl ta_bytesF)), (a_p1, .inr (6, oX6 moI_181 moR)), ((moR 6), .inl (cI, 7, .inl mo_rowsF_181)), ((moR 7), .inl (cI, 6, .inl g_5))] H := hP
        have hD : va_D A [(a_p2, .inr (2, oX2 hoI hoR)), (a_p0, .inr (9, oX9 taI taR)), ((taR 0), .inl (cB, 1600, .inl ta_bytesF)), (a_p1, .inr (6, oX6 moI_181 moR)), ((moR 6), .inl (cI, 7, .inl mo_rowsF_181)), ((moR 7), .inl (cI, 6, .inl g_5))] := hD
        refine lv_iload hx hb dX4_isRead_211 (lv_at hl 5 rfl) ?_
        refine lv_if_eq (tgt := 233) hx hb dX4_isRead_213 (by decide) (fun c_ => ?_) (fun c_ => ?_)
        · have hf := xq_pos hf c_
          exact b233 moI_181 mo_rowsF_181 g_5 x3_181 x4_181 x6_181 _ _ _ hf hP hD hS (lv_sub hl [0, 1, 2, 3, 4, 6] rfl)
        · have hf := xq_neg hf c_
          refine lv_aload_n hx hb dX4_isRead_216 rfl (lv_at hl 1 rfl) ?_
          refine va_getN (D := (dC, dI)) (ci := 6) (v := .ref ((moR 7))) (C := RX6) (T := TX6) (N := 8) hx hb hts hinX6 hown hK hP 3 rfl rfl 7 (by decide) hnf23 (fun _ h9 => h9) rfl dX4_isRead_217 ?_
          refine lv_iload hx hb dX4_isRead_220 (lv_at hl 6 rfl) ?_
          refine xq_iald hx hb hK hP 5 0 rfl rfl hf dX4_isRead_222 (fun v_6 hf => ?_)
          obtain ⟨r_7, h_8, hf⟩ := xq_bd_some hf
          refine xq_callSN (As := [.int v_6]) (rest := []) ⟨hx, hb, hml, hown, hts⟩ (kX11_isDigit l dC dI cI cB cJ cZ cM z ad N v_6 h_8) ⟨va_cnB (host := "DistantVoice") 1 hts gX4_isRead_X11_isDigit_n75 rfl rfl rfl hnm8 hw13 (by decide +kernel) ⟨Nat.le_of_ble_eq_true rfl, Nat.le_of_ble_eq_true rfl⟩, hw14, trivial⟩ hN hK hP hD hS hA [] (by decide) rfl rfl rfl hl.1 rfl (Nat.le_of_ble_eq_true rfl) dX4_isRead_223 ⟨Nat.zero_le _, Nat.zero_le _⟩ (fun H locs hP hD hS => ?_)
          have hP : va_P (dC, dI) vwCl [(a_p2, .inr (2, oX2 hoI hoR)), (a_p0, .inr (9, oX9 taI taR)), ((taR 0), .inl (cB, 1600, .inl ta_bytesF)), (a_p1, .inr (6, oX6 moI_181 moR)), ((moR 6), .inl (cI, 7, .inl mo_rowsF_181)), ((moR 7), .inl (cI, 6, .inl g_5))] H := hP
          have hD : va_D A [(a_p2, .inr (2, oX2 hoI hoR)), (a_p0, .inr (9, oX9 taI taR)), ((taR 0), .inl (cB, 1600, .inl ta_bytesF)), (a_p1, .inr (6, oX6 moI_181 moR)), ((moR 6), .inl (cI, 7, .inl mo_rowsF_181)), ((moR 7), .inl (cI, 6, .inl g_5))] := hD
          refine W.eq (g2 := F0 m 226 ls [.int r_7]) rfl ?_
          refine lv_if_eq (tgt := 233) hx hb dX4_isRead_226 (by decide) (fun c_ => ?_) (fun c_ => ?_)
          · have hf := xq_pos hf c_
            exact b233 moI_181 mo_rowsF_181 g_5 x3_181 x4_181 x6_181 _ _ _ hf hP hD hS (lv_sub hl [0, 1, 2, 3, 4, 6] rfl)
          · have hf := xq_neg hf c_
            refine lv_iconst (v := 1) hx hb dX4_isRead_229 (by decide) ?_
            refine lv_goto (tgt := 234) hx hb dX4_isRead_230 (by decide) ?_
            exact b234 moI_181 mo_rowsF_181 g_5 x3_181 x4_181 x6_181 1 _ _ _ hf hP hD hS (lv_sub hl [0, 1, 2, 3, 4, 6] rfl)
  have l122 : ∀ n122 : Nat, ∀ (moI_122 : Nat → Int32) (mo_rowsF_122 : Nat → Int32) (mo_talksF_122 : Nat → Int32) (x3_122 : Int32) (x4_122 : Int32) (x5_122 : Int32) (x6_122 : Int32) (ls : Array Slot) (H : Heap) (locs : List Loc), xq_loop (fX4_isRead_l122 N hoI taI ta_bytesF) n122 (moI_122, mo_rowsF_122, mo_talksF_122, x3_122, x4_122, x5_122, x6_122) = some (r0, r1, r2, r3) → va_P (dC, dI) vwCl [(a_p2, .inr (2, oX2 hoI hoR)), (a_p0, .inr (9, oX9 taI taR)), ((taR 0), .inl (cB, 1600, .inl ta_bytesF)), (a_p1, .inr (6, oX6 moI_122 moR)), ((moR 6), .inl (cI, 7, .inl mo_rowsF_122)), ((moR 7), .inl (cI, 6, .inl mo_talksF_122))] H → va_D A [(a_p2, .inr (2, oX2 hoI hoR)), (a_p0, .inr (9, oX9 taI taR)), ((taR 0), .inl (cB, 1600, .inl ta_bytesF)), (a_p1, .inr (6, oX6 moI_122 moR)), ((moR 6), .inl (cI, 7, .inl mo_rowsF_122)), ((moR 7), .inl (cI, 6, .inl mo_talksF_122))] → va_S A s.heap H locs → lv_has ls 7 [(0, .ref a_p0), (1, .ref a_p1), (2, .ref a_p2), (3, .int x3_122), (4, .int x4_122), (5, .int x5_122), (6, .int x6_122)] → W p l e (headSpec wsX4_isRead { frames := 2, cells := 0, slots := 0, locals := 42 }).room s m [.ref a_p0, .ref a_p1, .ref a_p2].toArray below meth c H locs 0 0 (MQ below (xq_Q (dC, dI) vwCl (xq_tys cI cB cJ cZ cM) A [(a_p2, .inr (2, oX2 hoI hoR)), (a_p0, .inr (9, oX9 taI taR)), ((taR 0), .inl (cB, 1600, .inl ta_bytesF)), (a_p1, .inr (6, oX6 r1 moR)), ((moR 6), .inl (cI, 7, .inl r2)), ((moR 7), .inl (cI, 6, .inl r3))] (some (.int r0))) [.ref a_p0, .ref a_p1, .ref a_p2].toArray s 0 0 A) (F0 m 122 ls []) := by
    intro n122
    induction n122 with
    | zero => intro moI_122 mo_rowsF_122 mo_talksF_122 x3_122 x4_122 x5_122 x6_122 ls H locs hf; cases (show none = some (r0, r1, r2, r3) from hf)
    | succ n122 ih122 =>
      have b170 : ∀ (moI_170 : Nat → Int32) (mo_rowsF_170 : Nat → Int32) (mo_talksF_170 : Nat → Int32) (x3_170 : Int32) (x4_170 : Int32) (x6_170 : Int32) (y0_170 : Int32) (ls : Array Slot) (H : Heap) (locs : List Loc), fX4_isRead_b170 N hoI taI ta_bytesF (xq_loop (fX4_isRead_l122 N hoI taI ta_bytesF) n122) (moI_170, mo_rowsF_170, mo_talksF_170, x3_170, x4_170, x6_170, y0_170) = some (r0, r1, r2, r3) → va_P (dC, dI) vwCl [(a_p2, .inr (2, oX2 hoI hoR)), (a_p0, .inr (9, oX9 taI taR)), ((taR 0), .inl (cB, 1600, .inl ta_bytesF)), (a_p1, .inr (6, oX6 moI_170 moR)), ((moR 6), .inl (cI, 7, .inl mo_rowsF_170)), ((moR 7), .inl (cI, 6, .inl mo_talksF_170))] H → va_D A [(a_p2, .inr (2, oX2 hoI hoR)), (a_p0, .inr (9, oX9 taI taR)), ((taR 0), .inl (cB, 1600, .inl ta_bytesF)), (a_p1, .inr (6, oX6 moI_170 moR)), ((moR 6), .inl (cI, 7, .inl mo_rowsF_170)), ((moR 7), .inl (cI, 6, .inl mo_talksF_170))] → va_S A s.heap H locs → lv_has ls 7 [(0, .ref a_p0), (1, .ref a_p1), (2, .ref a_p2), (3, .int x3_170), (4, .int x4_170), (6, .int x6_170)] → W p l e (headSpec wsX4_isRead { frames := 2, cells := 0, slots := 0, locals := 42 }).room s m [.ref a_p0, .ref a_p1, .ref a_p2].toArray below meth c H locs 0 0 (MQ below (xq_Q (dC, dI) vwCl (xq_tys cI cB cJ cZ cM) A [(a_p2, .inr (2, oX2 hoI hoR)), (a_p0, .inr (9, oX9 taI taR)), ((taR 0), .inl (cB, 1600, .inl ta_bytesF)), (a_p1, .inr (6, oX6 r1 moR)), ((moR 6), .inl (cI, 7, .inl r2)), ((moR 7), .inl (cI, 6, .inl r3))] (some (.int r0))) [.ref a_p0, .ref a_p1, .ref a_p2].toArray s 0 0 A) (F0 m 170 ls [.int y0_170]) := by
        intro moI_170 mo_rowsF_170 mo_talksF_170 x3_170 x4_170 x6_170 y0_170 ls H locs hf hP hD hS hl
        unfold fX4_isRead_b170 at hf
        refine lv_istore (lv' := [(5, .int y0_170), (0, .ref a_p0), (1, .ref a_p1), (2, .ref a_p2), (3, .int x3_170), (4, .int x4_170), (6, .int x6_170)]) hx hb dX4_isRead_170 hl (by decide) rfl (fun ls hl => ?_)
        refine lv_iinc (v := x6_170 + 1) (lv' := [(6, .int (x6_170 + 1)), (5, .int y0_170), (0, .ref a_p0), (1, .ref a_p1), (2, .ref a_p2), (3, .int x3_170), (4, .int x4_170)]) hx hb dX4_isRead_172 hl (k := 6) rfl (congrArg (fun q9 => x6_170 + q9) (by decide : Int32.ofInt 1 = 1)) (by decide) rfl (fun ls hl => ?_)
        refine lv_goto (tgt := 122) hx hb dX4_isRead_175 (by decide) ?_
        exact ih122 moI_170 mo_rowsF_170 mo_talksF_170 x3_170 x4_170 y0_170 (x6_170 + 1) _ _ _ hf hP hD hS (lv_sub hl [2, 3, 4, 5, 6, 1, 0] rfl)
      have b169 : ∀ (moI_169 : Nat → Int32) (mo_rowsF_169 : Nat → Int32) (mo_talksF_169 : Nat → Int32) (x3_169 : Int32) (x4_169 : Int32) (x6_169 : Int32) (ls : Array Slot) (H : Heap) (locs : List Loc), fX4_isRead_b169 N hoI taI ta_bytesF (xq_loop (fX4_isRead_l122 N hoI taI ta_bytesF) n122) (moI_169, mo_rowsF_169, mo_talksF_169, x3_169, x4_169, x6_169) = some (r0, r1, r2, r3) → va_P (dC, dI) vwCl [(a_p2, .inr (2, oX2 hoI hoR)), (a_p0, .inr (9, oX9 taI taR)), ((taR 0), .inl (cB, 1600, .inl ta_bytesF)), (a_p1, .inr (6, oX6 moI_169 moR)), ((moR 6), .inl (cI, 7, .inl mo_rowsF_169)), ((moR 7), .inl (cI, 6, .inl mo_talksF_169))] H → va_D A [(a_p2, .inr (2, oX2 hoI hoR)), (a_p0, .inr (9, oX9 taI taR)), ((taR 0), .inl (cB, 1600, .inl ta_bytesF)), (a_p1, .inr (6, oX6 moI_169 moR)), ((moR 6), .inl (cI, 7, .inl mo_rowsF_169)), ((moR 7), .inl (cI, 6, .inl mo_talksF_169))] → va_S A s.heap H locs → lv_has ls 7 [(0, .ref a_p0), (1, .ref a_p1), (2, .ref a_p2), (3, .int x3_169), (4, .int x4_169), (6, .int x6_169)] → W p l e (headSpec wsX4_isRead { frames := 2, cells := 0, slots := 0, locals := 42 }).room s m [.ref a_p0, .ref a_p1, .ref a_p2].toArray below meth c H locs 0 0 (MQ below (xq_Q (dC, dI) vwCl (xq_tys cI cB cJ cZ cM) A [(a_p2, .inr (2, oX2 hoI hoR)), (a_p0, .inr (9, oX9 taI taR)), ((taR 0), .inl (cB, 1600, .inl ta_bytesF)), (a_p1, .inr (6, oX6 r1 moR)), ((moR 6), .inl (cI, 7, .inl r2)), ((moR 7), .inl (cI, 6, .inl r3))] (some (.int r0))) [.ref a_p0, .ref a_p1, .ref a_p2].toArray s 0 0 A) (F0 m 169 ls []) := by
        intro moI_169 mo_rowsF_169 mo_talksF_169 x3_169 x4_169 x6_169 ls H locs hf hP hD hS hl
        unfold fX4_isRead_b169 at hf
        refine lv_iconst (v := 0) hx hb dX4_isRead_169 (by decide) ?_
        exact b170 moI_169 mo_rowsF_169 mo_talksF_169 x3_169 x4_169 x6_169 0 _ _ _ hf hP hD hS (lv_sub hl [0, 1, 2, 3, 4, 5] rfl)
      intro moI_122 mo_rowsF_122 mo_talksF_122 x3_122 x4_122 x5_122 x6_122 ls H locs hf hP hD hS hl
      have hf : fX4_isRead_l122 N hoI taI ta_bytesF (xq_loop (fX4_isRead_l122 N hoI taI ta_bytesF) n122) (moI_122, mo_rowsF_122, mo_talksF_122, x3_122, x4_122, x5_122, x6_122) = some (r0, r1, r2, r3) := hf
      unfold fX4_isRead_l122 at hf
      refine lv_iload hx hb dX4_isRead_122 (lv_at hl 6 rfl) ?_
      refine lv_aload_n hx hb dX4_isRead_124 rfl (lv_at hl 2 rfl) ?_
      refine va_getN (D := (dC, dI)) (ci := 2) (v := .int (hoI 5)) (C := RX2) (T := TX2) (N := 19) hx hb hts hinX2 hown hK hP 0 rfl rfl 5 (by decide) hnf47 (fun _ h9 => h9) rfl dX4_isRead_125 ?_
      refine lv_icmp_ge (tgt := 178) hx hb dX4_isRead_128 (by decide) (fun c_ => ?_) (fun c_ => ?_)
      · have hf := xq_pos hf c_
        refine lv_iconst (v := 0) hx hb dX4_isRead_178 (by decide) ?_
        refine lv_istore (lv' := [(6, .int 0), (0, .ref a_p0), (1, .ref a_p1), (2, .ref a_p2), (3, .int x3_122), (4, .int x4_122), (5, .int x5_122)]) hx hb dX4_isRead_179 hl (by decide) rfl (fun ls hl => ?_)
        exact l181 N moI_122 mo_rowsF_122 mo_talksF_122 x3_122 x4_122 x5_122 0 _ _ _ hf hP hD hS (lv_sub hl [1, 2, 3, 4, 5, 6, 0] rfl)
      · have hf := xq_neg hf c_
        refine lv_aload_n hx hb dX4_isRead_131 rfl (lv_at hl 1 rfl) ?_
        refine va_getN (D := (dC, dI)) (ci := 6) (v := .ref ((moR 6))) (C := RX6) (T := TX6) (N := 8) hx hb hts hinX6 hown hK hP 3 rfl rfl 6 (by decide) hnf20 (fun _ h9 => h9) rfl dX4_isRead_132 ?_
        refine lv_iload hx hb dX4_isRead_135 (lv_at hl 6 rfl) ?_
        refine lv_aload_n hx hb dX4_isRead_137 rfl (lv_at hl 0 rfl) ?_
        refine lv_bipush (v := 8) hx hb dX4_isRead_138 (by decide) ?_
        refine lv_iload hx hb dX4_isRead_140 (lv_at hl 6 rfl) ?_
        refine lv_iadd hx hb dX4_isRead_142 ?_
        obtain ⟨r_1, h_2, hf⟩ := xq_bd_some hf
        refine xq_callV (As := [.int (8 + x6_122)]) (rest := [.int x6_122, .ref ((moR 6))]) (ci := 9) (q0 := 1) ⟨hx, hb, hml, hown, hts⟩ (kX9_at l dC dI cI cB cJ cZ cM z ad N a_p0 taI taR ta_bytesF (8 + x6_122) h_2) (cwV 1 hts gX4_isRead_X9_at rfl rfl rfl (by decide +kernel) ⟨Nat.le_of_ble_eq_true rfl, Nat.le_of_ble_eq_true rfl⟩) hN hK hP hD hS hA [1, 2] (by decide) rfl rfl rfl rfl rfl rfl hl.1 rfl (Nat.le_of_ble_eq_true rfl) dX4_isRead_143 ⟨Nat.zero_le _, Nat.zero_le _⟩ (fun H locs hP hD hS => ?_)
        have hP : va_P (dC, dI) vwCl [(a_p2, .inr (2, oX2 hoI hoR)), (a_p0, .inr (9, oX9 taI taR)), ((taR 0), .inl (cB, 1600, .inl ta_bytesF)), (a_p1, .inr (6, oX6 moI_122 moR)), ((moR 6), .inl (cI, 7, .inl mo_rowsF_122)), ((moR 7), .inl (cI, 6, .inl mo_talksF_122))] H := hP
        have hD : va_D A [(a_p2, .inr (2, oX2 hoI hoR)), (a_p0, .inr (9, oX9 taI taR)), ((taR 0), .inl (cB, 1600, .inl ta_bytesF)), (a_p1, .inr (6, oX6 moI_122 moR)), ((moR 6), .inl (cI, 7, .inl mo_rowsF_122)), ((moR 7), .inl (cI, 6, .inl mo_talksF_122))] := hD
        refine W.eq (g2 := F0 m 146 ls [.int r_1, .int x6_122, .ref ((moR 6))]) rfl ?_
        refine xq_iast hx hb hK hP hD hS 4 0 rfl rfl hf dX4_isRead_146 (fun g_3 H locs hf hP hD hS => ?_)
        have hP : va_P (dC, dI) vwCl [(a_p2, .inr (2, oX2 hoI hoR)), (a_p0, .inr (9, oX9 taI taR)), ((taR 0), .inl (cB, 1600, .inl ta_bytesF)), (a_p1, .inr (6, oX6 moI_122 moR)), ((moR 6), .inl (cI, 7, .inl g_3)), ((moR 7), .inl (cI, 6, .inl mo_talksF_122))] H := hP
        have hD : va_D A [(a_p2, .inr (2, oX2 hoI hoR)), (a_p0, .inr (9, oX9 taI taR)), ((taR 0), .inl (cB, 1600, .inl ta_bytesF)), (a_p1, .inr (6, oX6 moI_122 moR)), ((moR 6), .inl (cI, 7, .inl g_3)), ((moR 7), .inl (cI, 6, .inl mo_talksF_122))] := hD
        refine lv_iload hx hb dX4_isRead_147 (lv_at hl 5 rfl) ?_
        refine lv_if_eq (tgt := 169) hx hb dX4_isRead_149 (by decide) (fun c_ => ?_) (fun c_ => ?_)
        · have hf := xq_pos hf c_
          exact b169 moI_122 g_3 mo_talksF_122 x3_122 x4_122 x6_122 _ _ _ hf hP hD hS (lv_sub hl [0, 1, 2, 3, 4, 6] rfl)
        · have hf := xq_neg hf c_
          refine lv_aload_n hx hb dX4_isRead_152 rfl (lv_at hl 1 rfl) ?_
          refine va_getN (D := (dC, dI)) (ci := 6) (v := .ref ((moR 6))) (C := RX6) (T := TX6) (N := 8) hx hb hts hinX6 hown hK hP 3 rfl rfl 6 (by decide) hnf20 (fun _ h9 => h9) rfl dX4_isRead_153 ?_
          refine lv_iload hx hb dX4_isRead_156 (lv_at hl 6 rfl) ?_
          refine xq_iald hx hb hK hP 4 0 rfl rfl hf dX4_isRead_158 (fun v_4 hf => ?_)
          obtain ⟨r_5, h_6, hf⟩ := xq_bd_some hf
          refine xq_callSN (As := [.int v_4]) (rest := []) ⟨hx, hb, hml, hown, hts⟩ (kX11_isDigit l dC dI cI cB cJ cZ cM z ad N v_4 h_6) ⟨va_cnB (host := "DistantVoice") 1 hts gX4_isRead_X11_isDigit_n75 rfl rfl rfl hnm8 hw13 (by decide +kernel) ⟨Nat.le_of_ble_eq_true rfl, Nat.le_of_ble_eq_true rfl⟩, hw14, trivial⟩ hN hK hP hD hS hA [] (by decide) rfl rfl rfl hl.1 rfl (Nat.le_of_ble_eq_true rfl) dX4_isRead_159 ⟨Nat.zero_le _, Nat.zero_le _⟩ (fun H locs hP hD hS => ?_)
          have hP : va_P (dC, dI) vwCl [(a_p2, .inr (2, oX2 hoI hoR)), (a_p0, .inr (9, oX9 taI taR)), ((taR 0), .inl (cB, 1600, .inl ta_bytesF)), (a_p1, .inr (6, oX6 moI_122 moR)), ((moR 6), .inl (cI, 7, .inl g_3)), ((moR 7), .inl (cI, 6, .inl mo_talksF_122))] H := hP
          have hD : va_D A [(a_p2, .inr (2, oX2 hoI hoR)), (a_p0, .inr (9, oX9 taI taR)), ((taR 0), .inl (cB, 1600, .inl ta_bytesF)), (a_p1, .inr (6, oX6 moI_122 moR)), ((moR 6), .inl (cI, 7, .inl g_3)), ((moR 7), .inl (cI, 6, .inl mo_talksF_122))] := hD
          refine W.eq (g2 := F0 m 162 ls [.int r_5]) rfl ?_
          refine lv_if_eq (tgt := 169) hx hb dX4_isRead_162 (by decide) (fun c_ => ?_) (fun c_ => ?_)
          · have hf := xq_pos hf c_
            exact b169 moI_122 g_3 mo_talksF_122 x3_122 x4_122 x6_122 _ _ _ hf hP hD hS (lv_sub hl [0, 1, 2, 3, 4, 6] rfl)
          · have hf := xq_neg hf c_
            refine lv_iconst (v := 1) hx hb dX4_isRead_165 (by decide) ?_
            refine lv_goto (tgt := 170) hx hb dX4_isRead_166 (by decide) ?_
            exact b170 moI_122 g_3 mo_talksF_122 x3_122 x4_122 x6_122 1 _ _ _ hf hP hD hS (lv_sub hl [0, 1, 2, 3, 4, 6] rfl)
  have l33 : ∀ n33 : Nat, ∀ (moI_33 : Nat → Int32) (mo_rowsF_33 : Nat → Int32) (mo_talksF_33 : Nat → Int32) (x3_33 : Int32) (x4_33 : Int32) (x5_33 : Int32) (ls : Array Slot) (H : Heap) (locs : List Loc), xq_loop (fX4_isRead_l33 N hoI taI ta_bytesF) n33 (moI_33, mo_rowsF_33, mo_talksF_33, x3_33, x4_33, x5_33) = some (r0, r1, r2, r3) → va_P (dC, dI) vwCl [(a_p2, .inr (2, oX2 hoI hoR)), (a_p0, .inr (9, oX9 taI taR)), ((taR 0), .inl (cB, 1600, .inl ta_bytesF)), (a_p1, .inr (6, oX6 moI_33 moR)), ((moR 6), .inl (cI, 7, .inl mo_rowsF_33)), ((moR 7), .inl (cI, 6, .inl mo_talksF_33))] H → va_D A [(a_p2, .inr (2, oX2 hoI hoR)), (a_p0, .inr (9, oX9 taI taR)), ((taR 0), .inl (cB, 1600, .inl ta_bytesF)), (a_p1, .inr (6, oX6 moI_33 moR)), ((moR 6), .inl (cI, 7, .inl mo_rowsF_33)), ((moR 7), .inl (cI, 6, .inl mo_talksF_33))] → va_S A s.heap H locs → lv_has ls 7 [(0, .ref a_p0), (1, .ref a_p1), (2, .ref a_p2), (3, .int x3_33), (4, .int x4_33), (5, .int x5_33)] → W p l e (headSpec wsX4_isRead { frames := 2, cells := 0, slots := 0, locals := 42 }).room s m [.ref a_p0, .ref a_p1, .ref a_p2].toArray below meth c H locs 0 0 (MQ below (xq_Q (dC, dI) vwCl (xq_tys cI cB cJ cZ cM) A [(a_p2, .inr (2, oX2 hoI hoR)), (a_p0, .inr (9, oX9 taI taR)), ((taR 0), .inl (cB, 1600, .inl ta_bytesF)), (a_p1, .inr (6, oX6 r1 moR)), ((moR 6), .inl (cI, 7, .inl r2)), ((moR 7), .inl (cI, 6, .inl r3))] (some (.int r0))) [.ref a_p0, .ref a_p1, .ref a_p2].toArray s 0 0 A) (F0 m 33 ls []) := by
    intro n33
    induction n33 with
    | zero => intro moI_33 mo_rowsF_33 mo_talksF_33 x3_33 x4_33 x5_33 ls H locs hf; cases (show none = some (r0, r1, r2, r3) from hf)
    | succ n33 ih33 =>
      intro moI_33 mo_rowsF_33 mo_talksF_33 x3_33 x4_33 x5_33 ls H locs hf hP hD hS hl
      have hf : fX4_isRead_l33 N hoI taI ta_bytesF (xq_loop (fX4_isRead_l33 N hoI taI ta_bytesF) n33) (moI_33, mo_rowsF_33, mo_talksF_33, x3_33, x4_33, x5_33) = some (r0, r1, r2, r3) := hf
      unfold fX4_isRead_l33 at hf
      refine lv_iload hx hb dX4_isRead_33 (lv_at hl 5 rfl) ?_
      refine lv_iload_n hx hb dX4_isRead_35 rfl (lv_at hl 3 rfl) ?_
      refine lv_icmp_ge (tgt := 58) hx hb dX4_isRead_36 (by decide) (fun c_ => ?_) (fun c_ => ?_)
      · have hf := xq_pos hf c_
        refine lv_aload_n hx hb dX4_isRead_58 rfl (lv_at hl 1 rfl) ?_
        refine lv_aload_n hx hb dX4_isRead_59 rfl (lv_at hl 0 rfl) ?_
        refine lv_iconst (v := 0) hx hb dX4_isRead_60 (by decide) ?_
        obtain ⟨r_1, h_2, hf⟩ := xq_bd_some hf
        refine xq_callS (As := [.ref a_p0, .int 0]) (rest := [.ref a_p1]) ⟨hx, hb, hml, hown, hts⟩ (kX4_twoAt l dC dI cI cB cJ cZ cM z ad N a_p0 taI taR ta_bytesF 0 h_2) (va_cwS 2 hts gX4_isRead_X4_twoAt rfl rfl rfl (by decide +kernel) ⟨Nat.le_of_ble_eq_true rfl, Nat.le_of_ble_eq_true rfl⟩) hN hK hP hD hS hA [1, 2] (by decide) rfl rfl rfl hl.1 rfl (Nat.le_of_ble_eq_true rfl) dX4_isRead_61 ⟨Nat.zero_le _, Nat.zero_le _⟩ (fun H locs hP hD hS => ?_)
        have hP : va_P (dC, dI) vwCl [(a_p2, .inr (2, oX2 hoI hoR)), (a_p0, .inr (9, oX9 taI taR)), ((taR 0), .inl (cB, 1600, .inl ta_bytesF)), (a_p1, .inr (6, oX6 moI_33 moR)), ((moR 6), .inl (cI, 7, .inl mo_rowsF_33)), ((moR 7), .inl (cI, 6, .inl mo_talksF_33))] H := hP
        have hD : va_D A [(a_p2, .inr (2, oX2 hoI hoR)), (a_p0, .inr (9, oX9 taI taR)), ((taR 0), .inl (cB, 1600, .inl ta_bytesF)), (a_p1, .inr (6, oX6 moI_33 moR)), ((moR 6), .inl (cI, 7, .inl mo_rowsF_33)), ((moR 7), .inl (cI, 6, .inl mo_talksF_33))] := hD
        refine W.eq (g2 := F0 m 64 ls [.int r_1, .ref a_p1]) rfl ?_
        refine va_putN (D := (dC, dI)) (ci := 6) (v := .int r_1) (ty := .int) (C := RX6) (T := TX6) (N := 8) hx hb hts hinX6 tyX6 tyX6_ok nmX6 hown hK hP hD hS 3 rfl rfl 0 (by decide) hnf4 (fun _ h9 => h9) rfl (by decide +kernel) rfl rfl (Nat.le_of_ble_eq_true rfl) dX4_isRead_64 (fun H locs hP hD hS => ?_)
        have hP : va_P (dC, dI) vwCl [(a_p2, .inr (2, oX2 hoI hoR)), (a_p0, .inr (9, oX9 taI taR)), ((taR 0), .inl (cB, 1600, .inl ta_bytesF)), (a_p1, .inr (6, oX6 (va_up moI_33 0 r_1) moR)), ((moR 6), .inl (cI, 7, .inl mo_rowsF_33)), ((moR 7), .inl (cI, 6, .inl mo_talksF_33))] H := hP
        have hD : va_D A [(a_p2, .inr (2, oX2 hoI hoR)), (a_p0, .inr (9, oX9 taI taR)), ((taR 0), .inl (cB, 1600, .inl ta_bytesF)), (a_p1, .inr (6, oX6 (va_up moI_33 0 r_1) moR)), ((moR 6), .inl (cI, 7, .inl mo_rowsF_33)), ((moR 7), .inl (cI, 6, .inl mo_talksF_33))] := hD
        refine lv_aload_n hx hb dX4_isRead_67 rfl (lv_at hl 1 rfl) ?_
        refine lv_aload_n hx hb dX4_isRead_68 rfl (lv_at hl 0 rfl) ?_
        refine lv_iconst (v := 2) hx hb dX4_isRead_69 (by decide) ?_
        obtain ⟨r_3, h_4, hf⟩ := xq_bd_some hf
        refine xq_callS (As := [.ref a_p0, .int 2]) (rest := [.ref a_p1]) ⟨hx, hb, hml, hown, hts⟩ (kX4_twoAt l dC dI cI cB cJ cZ cM z ad N a_p0 taI taR ta_bytesF 2 h_4) (va_cwS 2 hts gX4_isRead_X4_twoAt rfl rfl rfl (by decide +kernel) ⟨Nat.le_of_ble_eq_true rfl, Nat.le_of_ble_eq_true rfl⟩) hN hK hP hD hS hA [1, 2] (by decide) rfl rfl rfl hl.1 rfl (Nat.le_of_ble_eq_true rfl) dX4_isRead_70 ⟨Nat.zero_le _, Nat.zero_le _⟩ (fun H locs hP hD hS => ?_)
        have hP : va_P (dC, dI) vwCl [(a_p2, .inr (2, oX2 hoI hoR)), (a_p0, .inr (9, oX9 taI taR)), ((taR 0), .inl (cB, 1600, .inl ta_bytesF)), (a_p1, .inr (6, oX6 (va_up moI_33 0 r_1) moR)), ((moR 6), .inl (cI, 7, .inl mo_rowsF_33)), ((moR 7), .inl (cI, 6, .inl mo_talksF_33))] H := hP
        have hD : va_D A [(a_p2, .inr (2, oX2 hoI hoR)), (a_p0, .inr (9, oX9 taI taR)), ((taR 0), .inl (cB, 1600, .inl ta_bytesF)), (a_p1, .inr (6, oX6 (va_up moI_33 0 r_1) moR)), ((moR 6), .inl (cI, 7, .inl mo_rowsF_33)), ((moR 7), .inl (cI, 6, .inl mo_talksF_33))] := hD
        refine W.eq (g2 := F0 m 73 ls [.int r_3, .ref a_p1]) rfl ?_
        refine va_putN (D := (dC, dI)) (ci := 6) (v := .int r_3) (ty := .int) (C := RX6) (T := TX6) (N := 8) hx hb hts hinX6 tyX6 tyX6_ok nmX6 hown hK hP hD hS 3 rfl rfl 1 (by decide) hnf7 (fun _ h9 => h9) rfl (by decide +kernel) rfl rfl (Nat.le_of_ble_eq_true rfl) dX4_isRead_73 (fun H locs hP hD hS => ?_)
        have hP : va_P (dC, dI) vwCl [(a_p2, .inr (2, oX2 hoI hoR)), (a_p0, .inr (9, oX9 taI taR)), ((taR 0), .inl (cB, 1600, .inl ta_bytesF)), (a_p1, .inr (6, oX6 (va_up (va_up moI_33 0 r_1) 1 r_3) moR)), ((moR 6), .inl (cI, 7, .inl mo_rowsF_33)), ((moR 7), .inl (cI, 6, .inl mo_talksF_33))] H := hP
        have hD : va_D A [(a_p2, .inr (2, oX2 hoI hoR)), (a_p0, .inr (9, oX9 taI taR)), ((taR 0), .inl (cB, 1600, .inl ta_bytesF)), (a_p1, .inr (6, oX6 (va_up (va_up moI_33 0 r_1) 1 r_3) moR)), ((moR 6), .inl (cI, 7, .inl mo_rowsF_33)), ((moR 7), .inl (cI, 6, .inl mo_talksF_33))] := hD
        refine lv_aload_n hx hb dX4_isRead_76 rfl (lv_at hl 1 rfl) ?_
        refine lv_aload_n hx hb dX4_isRead_77 rfl (lv_at hl 0 rfl) ?_
        refine lv_iconst (v := 4) hx hb dX4_isRead_78 (by decide) ?_
        obtain ⟨r_5, h_6, hf⟩ := xq_bd_some hf
        refine xq_callS (As := [.ref a_p0, .int 4]) (rest := [.ref a_p1]) ⟨hx, hb, hml, hown, hts⟩ (kX4_twoAt l dC dI cI cB cJ cZ cM z ad N a_p0 taI taR ta_bytesF 4 h_6) (va_cwS 2 hts gX4_isRead_X4_twoAt rfl rfl rfl (by decide +kernel) ⟨Nat.le_of_ble_eq_true rfl, Nat.le_of_ble_eq_true rfl⟩) hN hK hP hD hS hA [1, 2] (by decide) rfl rfl rfl hl.1 rfl (Nat.le_of_ble_eq_true rfl) dX4_isRead_79 ⟨Nat.zero_le _, Nat.zero_le _⟩ (fun H locs hP hD hS => ?_)
        have hP : va_P (dC, dI) vwCl [(a_p2, .inr (2, oX2 hoI hoR)), (a_p0, .inr (9, oX9 taI taR)), ((taR 0), .inl (cB, 1600, .inl ta_bytesF)), (a_p1, .inr (6, oX6 (va_up (va_up moI_33 0 r_1) 1 r_3) moR)), ((moR 6), .inl (cI, 7, .inl mo_rowsF_33)), ((moR 7), .inl (cI, 6, .inl mo_talksF_33))] H := hP
        have hD : va_D A [(a_p2, .inr (2, oX2 hoI hoR)), (a_p0, .inr (9, oX9 taI taR)), ((taR 0), .inl (cB, 1600, .inl ta_bytesF)), (a_p1, .inr (6, oX6 (va_up (va_up moI_33 0 r_1) 1 r_3) moR)), ((moR 6), .inl (cI, 7, .inl mo_rowsF_33)), ((moR 7), .inl (cI, 6, .inl mo_talksF_33))] := hD
        refine W.eq (g2 := F0 m 82 ls [.int r_5, .ref a_p1]) rfl ?_
        refine va_putN (D := (dC, dI)) (ci := 6) (v := .int r_5) (ty := .int) (C := RX6) (T := TX6) (N := 8) hx hb hts hinX6 tyX6 tyX6_ok nmX6 hown hK hP hD hS 3 rfl rfl 2 (by decide) hnf10 (fun _ h9 => h9) rfl (by decide +kernel) rfl rfl (Nat.le_of_ble_eq_true rfl) dX4_isRead_82 (fun H locs hP hD hS => ?_)
        have hP : va_P (dC, dI) vwCl [(a_p2, .inr (2, oX2 hoI hoR)), (a_p0, .inr (9, oX9 taI taR)), ((taR 0), .inl (cB, 1600, .inl ta_bytesF)), (a_p1, .inr (6, oX6 (va_up (va_up (va_up moI_33 0 r_1) 1 r_3) 2 r_5) moR)), ((moR 6), .inl (cI, 7, .inl mo_rowsF_33)), ((moR 7), .inl (cI, 6, .inl mo_talksF_33))] H := hP
        have hD : va_D A [(a_p2, .inr (2, oX2 hoI hoR)), (a_p0, .inr (9, oX9 taI taR)), ((taR 0), .inl (cB, 1600, .inl ta_bytesF)), (a_p1, .inr (6, oX6 (va_up (va_up (va_up moI_33 0 r_1) 1 r_3) 2 r_5) moR)), ((moR 6), .inl (cI, 7, .inl mo_rowsF_33)), ((moR 7), .inl (cI, 6, .inl mo_talksF_33))] := hD
        refine lv_aload_n hx hb dX4_isRead_85 rfl (lv_at hl 1 rfl) ?_
        refine lv_aload_n hx hb dX4_isRead_86 rfl (lv_at hl 0 rfl) ?_
        refine lv_bipush (v := 6) hx hb dX4_isRead_87 (by decide) ?_
        obtain ⟨r_7, h_8, hf⟩ := xq_bd_some hf
        refine xq_callV (As := [.int 6]) (rest := [.ref a_p1]) (ci := 9) (q0 := 1) ⟨hx, hb, hml, hown, hts⟩ (kX9_at l dC dI cI cB cJ cZ cM z ad N a_p0 taI taR ta_bytesF 6 h_8) (cwV 1 hts gX4_isRead_X9_at rfl rfl rfl (by decide +kernel) ⟨Nat.le_of_ble_eq_true rfl, Nat.le_of_ble_eq_true rfl⟩) hN hK hP hD hS hA [1, 2] (by decide) rfl rfl rfl rfl rfl rfl hl.1 rfl (Nat.le_of_ble_eq_true rfl) dX4_isRead_89 ⟨Nat.zero_le _, Nat.zero_le _⟩ (fun H locs hP hD hS => ?_)
        have hP : va_P (dC, dI) vwCl [(a_p2, .inr (2, oX2 hoI hoR)), (a_p0, .inr (9, oX9 taI taR)), ((taR 0), .inl (cB, 1600, .inl ta_bytesF)), (a_p1, .inr (6, oX6 (va_up (va_up (va_up moI_33 0 r_1) 1 r_3) 2 r_5) moR)), ((moR 6), .inl (cI, 7, .inl mo_rowsF_33)), ((moR 7), .inl (cI, 6, .inl mo_talksF_33))] H := hP
        have hD : va_D A [(a_p2, .inr (2, oX2 hoI hoR)), (a_p0, .inr (9, oX9 taI taR)), ((taR 0), .inl (cB, 1600, .inl ta_bytesF)), (a_p1, .inr (6, oX6 (va_up (va_up (va_up moI_33 0 r_1) 1 r_3) 2 r_5) moR)), ((moR 6), .inl (cI, 7, .inl mo_rowsF_33)), ((moR 7), .inl (cI, 6, .inl mo_talksF_33))] := hD
        refine W.eq (g2 := F0 m 92 ls [.int r_7, .ref a_p1]) rfl ?_
        refine va_putN (D := (dC, dI)) (ci := 6) (v := .int r_7) (ty := .int) (C := RX6) (T := TX6) (N := 8) hx hb hts hinX6 tyX6 tyX6_ok nmX6 hown hK hP hD hS 3 rfl rfl 3 (by decide) hnf13 (fun _ h9 => h9) rfl (by decide +kernel) rfl rfl (Nat.le_of_ble_eq_true rfl) dX4_isRead_92 (fun H locs hP hD hS => ?_)
        have hP : va_P (dC, dI) vwCl [(a_p2, .inr (2, oX2 hoI hoR)), (a_p0, .inr (9, oX9 taI taR)), ((taR 0), .inl (cB, 1600, .inl ta_bytesF)), (a_p1, .inr (6, oX6 (va_up (va_up (va_up (va_up moI_33 0 r_1) 1 r_3) 2 r_5) 3 r_7) moR)), ((moR 6), .inl (cI, 7, .inl mo_rowsF_33)), ((moR 7), .inl (cI, 6, .inl mo_talksF_33))] H := hP
        have hD : va_D A [(a_p2, .inr (2, oX2 hoI hoR)), (a_p0, .inr (9, oX9 taI taR)), ((taR 0), .inl (cB, 1600, .inl ta_bytesF)), (a_p1, .inr (6, oX6 (va_up (va_up (va_up (va_up moI_33 0 r_1) 1 r_3) 2 r_5) 3 r_7) moR)), ((moR 6), .inl (cI, 7, .inl mo_rowsF_33)), ((moR 7), .inl (cI, 6, .inl mo_talksF_33))] := hD
        refine lv_aload_n hx hb dX4_isRead_95 rfl (lv_at hl 1 rfl) ?_
        refine lv_aload_n hx hb dX4_isRead_96 rfl (lv_at hl 0 rfl) ?_
        refine lv_bipush (v := 7) hx hb dX4_isRead_97 (by decide) ?_
        obtain ⟨r_9, h_10, hf⟩ := xq_bd_some hf
        refine xq_callV (As := [.int 7]) (rest := [.ref a_p1]) (ci := 9) (q0 := 1) ⟨hx, hb, hml, hown, hts⟩ (kX9_at l dC dI cI cB cJ cZ cM z ad N a_p0 taI taR ta_bytesF 7 h_10) (cwV 1 hts gX4_isRead_X9_at rfl rfl rfl (by decide +kernel) ⟨Nat.le_of_ble_eq_true rfl, Nat.le_of_ble_eq_true rfl⟩) hN hK hP hD hS hA [1, 2] (by decide) rfl rfl rfl rfl rfl rfl hl.1 rfl (Nat.le_of_ble_eq_true rfl) dX4_isRead_99 ⟨Nat.zero_le _, Nat.zero_le _⟩ (fun H locs hP hD hS => ?_)
        have hP : va_P (dC, dI) vwCl [(a_p2, .inr (2, oX2 hoI hoR)), (a_p0, .inr (9, oX9 taI taR)), ((taR 0), .inl (cB, 1600, .inl ta_bytesF)), (a_p1, .inr (6, oX6 (va_up (va_up (va_up (va_up moI_33 0 r_1) 1 r_3) 2 r_5) 3 r_7) moR)), ((moR 6), .inl (cI, 7, .inl mo_rowsF_33)), ((moR 7), .inl (cI, 6, .inl mo_talksF_33))] H := hP
        have hD : va_D A [(a_p2, .inr (2, oX2 hoI hoR)), (a_p0, .inr (9, oX9 taI taR)), ((taR 0), .inl (cB, 1600, .inl ta_bytesF)), (a_p1, .inr (6, oX6 (va_up (va_up (va_up (va_up moI_33 0 r_1) 1 r_3) 2 r_5) 3 r_7) moR)), ((moR 6), .inl (cI, 7, .inl mo_rowsF_33)), ((moR 7), .inl (cI, 6, .inl mo_talksF_33))] := hD
        refine W.eq (g2 := F0 m 102 ls [.int r_9, .ref a_p1]) rfl ?_
        refine va_putN (D := (dC, dI)) (ci := 6) (v := .int r_9) (ty := .int) (C := RX6) (T := TX6) (N := 8) hx hb hts hinX6 tyX6 tyX6_ok nmX6 hown hK hP hD hS 3 rfl rfl 4 (by decide) hnf16 (fun _ h9 => h9) rfl (by decide +kernel) rfl rfl (Nat.le_of_ble_eq_true rfl) dX4_isRead_102 (fun H locs hP hD hS => ?_)
        have hP : va_P (dC, dI) vwCl [(a_p2, .inr (2, oX2 hoI hoR)), (a_p0, .inr (9, oX9 taI taR)), ((taR 0), .inl (cB, 1600, .inl ta_bytesF)), (a_p1, .inr (6, oX6 (va_up (va_up (va_up (va_up (va_up moI_33 0 r_1) 1 r_3) 2 r_5) 3 r_7) 4 r_9) moR)), ((moR 6), .inl (cI, 7, .inl mo_rowsF_33)), ((moR 7), .inl (cI, 6, .inl mo_talksF_33))] H := hP
        have hD : va_D A [(a_p2, .inr (2, oX2 hoI hoR)), (a_p0, .inr (9, oX9 taI taR)), ((taR 0), .inl (cB, 1600, .inl ta_bytesF)), (a_p1, .inr (6, oX6 (va_up (va_up (va_up (va_up (va_up moI_33 0 r_1) 1 r_3) 2 r_5) 3 r_7) 4 r_9) moR)), ((moR 6), .inl (cI, 7, .inl mo_rowsF_33)), ((moR 7), .inl (cI, 6, .inl mo_talksF_33))] := hD
        refine lv_aload_n hx hb dX4_isRead_105 rfl (lv_at hl 1 rfl) ?_
        refine lv_iconst (v := 0) hx hb dX4_isRead_106 (by decide) ?_
        refine va_putN (D := (dC, dI)) (ci := 6) (v := .int 0) (ty := .int) (C := RX6) (T := TX6) (N := 8) hx hb hts hinX6 tyX6 tyX6_ok nmX6 hown hK hP hD hS 3 rfl rfl 5 (by decide) hnf18 (fun _ h9 => h9) rfl (by decide +kernel) rfl rfl (Nat.le_of_ble_eq_true rfl) dX4_isRead_107 (fun H locs hP hD hS => ?_)
        have hP : va_P (dC, dI) vwCl [(a_p2, .inr (2, oX2 hoI hoR)), (a_p0, .inr (9, oX9 taI taR)), ((taR 0), .inl (cB, 1600, .inl ta_bytesF)), (a_p1, .inr (6, oX6 (va_up (va_up (va_up (va_up (va_up (va_up moI_33 0 r_1) 1 r_3) 2 r_5) 3 r_7) 4 r_9) 5 0) moR)), ((moR 6), .inl (cI, 7, .inl mo_rowsF_33)), ((moR 7), .inl (cI, 6, .inl mo_talksF_33))] H := hP
        have hD : va_D A [(a_p2, .inr (2, oX2 hoI hoR)), (a_p0, .inr (9, oX9 taI taR)), ((taR 0), .inl (cB, 1600, .inl ta_bytesF)), (a_p1, .inr (6, oX6 (va_up (va_up (va_up (va_up (va_up (va_up moI_33 0 r_1) 1 r_3) 2 r_5) 3 r_7) 4 r_9) 5 0) moR)), ((moR 6), .inl (cI, 7, .inl mo_rowsF_33)), ((moR 7), .inl (cI, 6, .inl mo_talksF_33))] := hD
        refine lv_aload_n hx hb dX4_isRead_110 rfl (lv_at hl 1 rfl) ?_
        refine va_getN (D := (dC, dI)) (ci := 6) (v := .int r_9) (C := RX6) (T := TX6) (N := 8) hx hb hts hinX6 hown hK hP 3 rfl rfl 4 (by decide) hnf16 (fun _ h9 => h9) rfl dX4_isRead_111 ?_
        obtain ⟨r_11, h_12, hf⟩ := xq_bd_some hf
        refine xq_callSN (As := [.int r_9]) (rest := []) ⟨hx, hb, hml, hown, hts⟩ (kX11_isDigit l dC dI cI cB cJ cZ cM z ad N r_9 h_12) ⟨va_cnB (host := "DistantVoice") 1 hts gX4_isRead_X11_isDigit_n75 rfl rfl rfl hnm8 hw13 (by decide +kernel) ⟨Nat.le_of_ble_eq_true rfl, Nat.le_of_ble_eq_true rfl⟩, hw14, trivial⟩ hN hK hP hD hS hA [] (by decide) rfl rfl rfl hl.1 rfl (Nat.le_of_ble_eq_true rfl) dX4_isRead_114 ⟨Nat.zero_le _, Nat.zero_le _⟩ (fun H locs hP hD hS => ?_)
        have hP : va_P (dC, dI) vwCl [(a_p2, .inr (2, oX2 hoI hoR)), (a_p0, .inr (9, oX9 taI taR)), ((taR 0), .inl (cB, 1600, .inl ta_bytesF)), (a_p1, .inr (6, oX6 (va_up (va_up (va_up (va_up (va_up (va_up moI_33 0 r_1) 1 r_3) 2 r_5) 3 r_7) 4 r_9) 5 0) moR)), ((moR 6), .inl (cI, 7, .inl mo_rowsF_33)), ((moR 7), .inl (cI, 6, .inl mo_talksF_33))] H := hP
        have hD : va_D A [(a_p2, .inr (2, oX2 hoI hoR)), (a_p0, .inr (9, oX9 taI taR)), ((taR 0), .inl (cB, 1600, .inl ta_bytesF)), (a_p1, .inr (6, oX6 (va_up (va_up (va_up (va_up (va_up (va_up moI_33 0 r_1) 1 r_3) 2 r_5) 3 r_7) 4 r_9) 5 0) moR)), ((moR 6), .inl (cI, 7, .inl mo_rowsF_33)), ((moR 7), .inl (cI, 6, .inl mo_talksF_33))] := hD
        refine W.eq (g2 := F0 m 117 ls [.int r_11]) rfl ?_
        refine lv_istore (lv' := [(5, .int r_11), (0, .ref a_p0), (1, .ref a_p1), (2, .ref a_p2), (3, .int x3_33), (4, .int x4_33)]) hx hb dX4_isRead_117 hl (by decide) rfl (fun ls hl => ?_)
        refine lv_iconst (v := 0) hx hb dX4_isRead_119 (by decide) ?_
        refine lv_istore (lv' := [(6, .int 0), (5, .int r_11), (0, .ref a_p0), (1, .ref a_p1), (2, .ref a_p2), (3, .int x3_33), (4, .int x4_33)]) hx hb dX4_isRead_120 hl (by decide) rfl (fun ls hl => ?_)
        exact l122 N ((va_up (va_up (va_up (va_up (va_up (va_up moI_33 0 r_1) 1 r_3) 2 r_5) 3 r_7) 4 r_9) 5 0)) mo_rowsF_33 mo_talksF_33 x3_33 x4_33 r_11 0 _ _ _ hf hP hD hS (lv_sub hl [2, 3, 4, 5, 6, 1, 0] rfl)
      · have hf := xq_neg hf c_
        refine lv_iload hx hb dX4_isRead_39 (lv_at hl 4 rfl) ?_
        refine lv_aload_n hx hb dX4_isRead_41 rfl (lv_at hl 0 rfl) ?_
        refine lv_iload hx hb dX4_isRead_42 (lv_at hl 5 rfl) ?_
        obtain ⟨r_13, h_14, hf⟩ := xq_bd_some hf
        refine xq_callV (As := [.int x5_33]) (rest := [.int x4_33]) (ci := 9) (q0 := 1) ⟨hx, hb, hml, hown, hts⟩ (kX9_at l dC dI cI cB cJ cZ cM z ad N a_p0 taI taR ta_bytesF x5_33 h_14) (cwV 1 hts gX4_isRead_X9_at rfl rfl rfl (by decide +kernel) ⟨Nat.le_of_ble_eq_true rfl, Nat.le_of_ble_eq_true rfl⟩) hN hK hP hD hS hA [1, 2] (by decide) rfl rfl rfl rfl rfl rfl hl.1 rfl (Nat.le_of_ble_eq_true rfl) dX4_isRead_44 ⟨Nat.zero_le _, Nat.zero_le _⟩ (fun H locs hP hD hS => ?_)
        have hP : va_P (dC, dI) vwCl [(a_p2, .inr (2, oX2 hoI hoR)), (a_p0, .inr (9, oX9 taI taR)), ((taR 0), .inl (cB, 1600, .inl ta_bytesF)), (a_p1, .inr (6, oX6 moI_33 moR)), ((moR 6), .inl (cI, 7, .inl mo_rowsF_33)), ((moR 7), .inl (cI, 6, .inl mo_talksF_33))] H := hP
        have hD : va_D A [(a_p2, .inr (2, oX2 hoI hoR)), (a_p0, .inr (9, oX9 taI taR)), ((taR 0), .inl (cB, 1600, .inl ta_bytesF)), (a_p1, .inr (6, oX6 moI_33 moR)), ((moR 6), .inl (cI, 7, .inl mo_rowsF_33)), ((moR 7), .inl (cI, 6, .inl mo_talksF_33))] := hD
        refine W.eq (g2 := F0 m 47 ls [.int r_13, .int x4_33]) rfl ?_
        obtain ⟨r_15, h_16, hf⟩ := xq_bd_some hf
        refine xq_callS (As := [.int x4_33, .int r_13]) (rest := []) ⟨hx, hb, hml, hown, hts⟩ (kX4_checkOn l dC dI cI cB cJ cZ cM z ad N x4_33 r_13 h_16) (va_cwS 2 hts gX4_isRead_X4_checkOn rfl rfl rfl (by decide +kernel) ⟨Nat.le_of_ble_eq_true rfl, Nat.le_of_ble_eq_true rfl⟩) hN hK hP hD hS hA [] (by decide) rfl rfl rfl hl.1 rfl (Nat.le_of_ble_eq_true rfl) dX4_isRead_47 ⟨Nat.zero_le _, Nat.zero_le _⟩ (fun H locs hP hD hS => ?_)
        have hP : va_P (dC, dI) vwCl [(a_p2, .inr (2, oX2 hoI hoR)), (a_p0, .inr (9, oX9 taI taR)), ((taR 0), .inl (cB, 1600, .inl ta_bytesF)), (a_p1, .inr (6, oX6 moI_33 moR)), ((moR 6), .inl (cI, 7, .inl mo_rowsF_33)), ((moR 7), .inl (cI, 6, .inl mo_talksF_33))] H := hP
        have hD : va_D A [(a_p2, .inr (2, oX2 hoI hoR)), (a_p0, .inr (9, oX9 taI taR)), ((taR 0), .inl (cB, 1600, .inl ta_bytesF)), (a_p1, .inr (6, oX6 moI_33 moR)), ((moR 6), .inl (cI, 7, .inl mo_rowsF_33)), ((moR 7), .inl (cI, 6, .inl mo_talksF_33))] := hD
        refine W.eq (g2 := F0 m 50 ls [.int r_15]) rfl ?_
        refine lv_istore (lv' := [(4, .int r_15), (0, .ref a_p0), (1, .ref a_p1), (2, .ref a_p2), (3, .int x3_33), (5, .int x5_33)]) hx hb dX4_isRead_50 hl (by decide) rfl (fun ls hl => ?_)
        refine lv_iinc (v := x5_33 + 1) (lv' := [(5, .int (x5_33 + 1)), (4, .int r_15), (0, .ref a_p0), (1, .ref a_p1), (2, .ref a_p2), (3, .int x3_33)]) hx hb dX4_isRead_52 hl (k := 5) rfl (congrArg (fun q9 => x5_33 + q9) (by decide : Int32.ofInt 1 = 1)) (by decide) rfl (fun ls hl => ?_)
        refine lv_goto (tgt := 33) hx hb dX4_isRead_55 (by decide) ?_
        exact ih33 moI_33 mo_rowsF_33 mo_talksF_33 x3_33 r_15 (x5_33 + 1) _ _ _ hf hP hD hS (lv_sub hl [2, 3, 4, 5, 1, 0] rfl)
  unfold fX4_isRead at hf
  refine lv_bipush (v := 8) hx hb dX4_isRead_0 (by decide) ?_
  refine lv_aload_n hx hb dX4_isRead_2 rfl (lv_at hl 2 rfl) ?_
  refine va_getN (D := (dC, dI)) (ci := 2) (v := .int (hoI 5)) (C := RX2) (T := TX2) (N := 19) hx hb hts hinX2 hown hK hP 0 rfl rfl 5 (by decide) hnf47 (fun _ h9 => h9) rfl dX4_isRead_3 ?_
  refine lv_iadd hx hb dX4_isRead_6 ?_
  refine lv_aload_n hx hb dX4_isRead_7 rfl (lv_at hl 2 rfl) ?_
  refine va_getN (D := (dC, dI)) (ci := 2) (v := .int (hoI 6)) (C := RX2) (T := TX2) (N := 19) hx hb hts hinX2 hown hK hP 0 rfl rfl 6 (by decide) hnf51 (fun _ h9 => h9) rfl dX4_isRead_8 ?_
  refine lv_iadd hx hb dX4_isRead_11 ?_
  refine lv_istore_n (lv' := [(3, .int ((8 + (hoI 5)) + (hoI 6))), (0, .ref a_p0), (1, .ref a_p1), (2, .ref a_p2)]) hx hb dX4_isRead_12 rfl hl (by decide) rfl (fun ls hl => ?_)
  refine lv_aload_n hx hb dX4_isRead_13 rfl (lv_at hl 1 rfl) ?_
  refine va_getN (D := (dC, dI)) (ci := 9) (v := .int (taI 1)) (C := RX9) (T := TX9) (N := 2) hx hb hts hinX9 hown hK hP 1 rfl rfl 1 (by decide) hnf3 (fun _ h9 => h9) rfl dX4_isRead_14 ?_
  refine lv_iload_n hx hb dX4_isRead_17 rfl (lv_at hl 0 rfl) ?_
  refine lv_iconst (v := 1) hx hb dX4_isRead_18 (by decide) ?_
  refine lv_iadd hx hb dX4_isRead_19 ?_
  refine lv_icmp_eq (tgt := 25) hx hb dX4_isRead_20 (by decide) (fun c_ => ?_) (fun c_ => ?_)
  · have hf := xq_pos hf c_
    refine lv_sipush (v := 239) hx hb dX4_isRead_25 (by decide) ?_
    refine lv_istore (lv' := [(4, .int 239), (3, .int ((8 + (hoI 5)) + (hoI 6))), (0, .ref a_p0), (1, .ref a_p1), (2, .ref a_p2)]) hx hb dX4_isRead_28 hl (by decide) rfl (fun ls hl => ?_)
    refine lv_iconst (v := 0) hx hb dX4_isRead_30 (by decide) ?_
    refine lv_istore (lv' := [(5, .int 0), (4, .int 239), (3, .int ((8 + (hoI 5)) + (hoI 6))), (0, .ref a_p0), (1, .ref a_p1), (2, .ref a_p2)]) hx hb dX4_isRead_31 hl (by decide) rfl (fun ls hl => ?_)
    exact l33 N moI mo_rowsF mo_talksF ((8 + (hoI 5)) + (hoI 6)) 239 0 _ _ _ hf hP hD hS (lv_sub hl [3, 4, 5, 2, 1, 0] rfl)
  · have hf := xq_neg hf c_
    refine lv_iconst (v := 0) hx hb dX4_isRead_23 (by decide) ?_
    cases hf
    exact xq_zret hx hb hr (by decide +kernel) hlocks hK hP hD hS dX4_isRead_24
set_option maxRecDepth 20000 in
theorem ggX11_on_X11_hasHouse : GoodIn wsX11_on wsX11_hasHouse := goodIn_r _ [10, 3, 52, 53, 54, 55, 56, 57, 58, 59, 60, 61, 62, 63, 64, 65, 66, 73, 74, 75, 76, 77, 78, 79, 80, 81, 82, 83, 84, 85, 86, 87, 88, 89, 90, 91] rfl (by decide +kernel)
set_option maxRecDepth 20000 in
theorem gX11_on_X11_hasHouse : GoodIn wsX11_on (wsV RX11 212 RX11 yX11_hasHouse wsX11_hasHouse) := goodIn_app (goodIn_of _ (by decide +kernel)) ggX11_on_X11_hasHouse
set_option maxRecDepth 20000 in
theorem ggX11_on_X4_isRead : GoodIn wsX11_on wsX4_isRead := goodIn_r _ [14, 15, 16, 17, 18, 19, 20, 21, 22, 23, 13, 24, 25, 26, 27, 28, 9, 29, 73, 74, 75, 76, 77, 78, 79, 80, 81, 82, 83, 84, 85, 86, 87, 88, 89, 90, 91, 67, 68, 92, 93, 94, 95, 96, 97, 98, 99] rfl (by decide +kernel)
set_option maxRecDepth 20000 in
theorem gX11_on_X4_isRead : GoodIn wsX11_on (va_wsS RX11 328 yX4_isRead wsX4_isRead) := goodIn_app (goodIn_of _ (by decide +kernel)) ggX11_on_X4_isRead
set_option maxRecDepth 20000 in
theorem ggX11_on_X11_refuse : GoodIn wsX11_on wsX11_refuse := goodIn_r _ [33, 34, 52, 53, 54, 55, 56, 57, 58, 59, 60, 61, 62, 63, 64, 65, 66] rfl (by decide +kernel)
set_option maxRecDepth 20000 in
theorem gX11_on_X11_refuse : GoodIn wsX11_on (wsV RX11 101 RX11 yX11_refuse wsX11_refuse) := goodIn_app (goodIn_of _ (by decide +kernel)) ggX11_on_X11_refuse
set_option maxRecDepth 20000 in
theorem ggX11_on_X6_copy : GoodIn wsX11_on wsX6_copy := goodIn_r _ [39, 40, 41, 42, 43, 44, 45, 46, 47, 48, 49, 50, 51, 92, 93, 94, 95, 96, 97, 98, 99] rfl (by decide +kernel)
set_option maxRecDepth 20000 in
theorem gX11_on_X6_copy : GoodIn wsX11_on (wsV RX11 224 RX6 yX6_copy wsX6_copy) := goodIn_app (goodIn_of _ (by decide +kernel)) ggX11_on_X6_copy
def dsX11_on_0 : List (Nat × Instr × Nat) := [(0, (.aload_n 0, 1)), (1, (.invokevirtual 212, 3)), (4, (.ifCond .eq 25, 3)), (7, (.aload_n 0, 1)), (8, (.getfield 10, 3)), (11, (.aload_n 0, 1)), (12, (.getfield 23, 3)), (15, (.aload_n 0, 1)), (16, (.getfield 67, 3)), (19, (.invokestatic 328, 3)), (22, (.ifCond .eq 7, 3)), (25, (.iconst 1, 1)), (26, (.goto 4, 3)), (29, (.iconst 0, 1)), (30, (.istore_n 1, 1)), (31, (.aload_n 0, 1)), (32, (.getfield 10, 3)), (35, (.iconst 0, 1)), (36, (.putfield 90, 3)), (39, (.iload_n 1, 1)), (40, (.ifCond .ne 9, 3)), (43, (.aload_n 0, 1)), (44, (.iconst 5, 1)), (45, (.invokevirtual 101, 3)), (48, (.ireturn, 1)), (49, (.aload_n 0, 1)), (50, (.getfield 19, 3)), (53, (.aload_n 0, 1)), (54, (.getfield 23, 3)), (57, (.invokevirtual 224, 3)), (60, (.aload_n 0, 1)), (61, (.getfield 29, 3)), (64, (.iconst 0, 1)), (65, (.putfield 132, 3)), (68, (.iconst 1, 1)), (69, (.ireturn, 1))]
theorem dsX11_on_0_ok : (dsX11_on_0.all fun q => decide (decode cX11_on q.1 = .ok q.2)) = true := by decide +kernel
theorem dX11_on_0 : decode cX11_on 0 = .ok (.aload_n 0, 1) := of_decide_eq_true (List.all_eq_true.mp dsX11_on_0_ok (0, (.aload_n 0, 1)) (List.mem_of_getElem? (i := 0) rfl))
theorem dX11_on_1 : decode cX11_on 1 = .ok (.invokevirtual 212, 3) := of_decide_eq_true (List.all_eq_true.mp dsX11_on_0_ok (1, (.invokevirtual 212, 3)) (List.mem_of_getElem? (i := 1) rfl))
theorem dX11_on_4 : decode cX11_on 4 = .ok (.ifCond .eq 25, 3) := of_decide_eq_true (List.all_eq_true.mp dsX11_on_0_ok (4, (.ifCond .eq 25, 3)) (List.mem_of_getElem? (i := 2) rfl))
theorem dX11_on_7 : decode cX11_on 7 = .ok (.aload_n 0, 1) := of_decide_eq_true (List.all_eq_true.mp dsX11_on_0_ok (7, (.aload_n 0, 1)) (List.mem_of_getElem? (i := 3) rfl))
theorem dX11_on_8 : decode cX11_on 8 = .ok (.getfield 10, 3) := of_decide_eq_true (List.all_eq_true.mp dsX11_on_0_ok (8, (.getfield 10, 3)) (List.mem_of_getElem? (i := 4) rfl))
theorem dX11_on_11 : decode cX11_on 11 = .ok (.aload_n 0, 1) := of_decide_eq_true (List.all_eq_true.mp dsX11_on_0_ok (11, (.aload_n 0, 1)) (List.mem_of_getElem? (i := 5) rfl))
theorem dX11_on_12 : decode cX11_on 12 = .ok (.getfield 23, 3) := of_decide_eq_true (List.all_eq_true.mp dsX11_on_0_ok (12, (.getfield 23, 3)) (List.mem_of_getElem? (i := 6) rfl))
theorem dX11_on_15 : decode cX11_on 15 = .ok (.aload_n 0, 1) := of_decide_eq_true (List.all_eq_true.mp dsX11_on_0_ok (15, (.aload_n 0, 1)) (List.mem_of_getElem? (i := 7) rfl))
theorem dX11_on_16 : decode cX11_on 16 = .ok (.getfield 67, 3) := of_decide_eq_true (List.all_eq_true.mp dsX11_on_0_ok (16, (.getfield 67, 3)) (List.mem_of_getElem? (i := 8) rfl))
theorem dX11_on_19 : decode cX11_on 19 = .ok (.invokestatic 328, 3) := of_decide_eq_true (List.all_eq_true.mp dsX11_on_0_ok (19, (.invokestatic 328, 3)) (List.mem_of_getElem? (i := 9) rfl))
theorem dX11_on_22 : decode cX11_on 22 = .ok (.ifCond .eq 7, 3) := of_decide_eq_true (List.all_eq_true.mp dsX11_on_0_ok (22, (.ifCond .eq 7, 3)) (List.mem_of_getElem? (i := 10) rfl))
theorem dX11_on_25 : decode cX11_on 25 = .ok (.iconst 1, 1) := of_decide_eq_true (List.all_eq_true.mp dsX11_on_0_ok (25, (.iconst 1, 1)) (List.mem_of_getElem? (i := 11) rfl))
theorem dX11_on_26 : decode cX11_on 26 = .ok (.goto 4, 3) := of_decide_eq_true (List.all_eq_true.mp dsX11_on_0_ok (26, (.goto 4, 3)) (List.mem_of_getElem? (i := 12) rfl))
theorem dX11_on_29 : decode cX11_on 29 = .ok (.iconst 0, 1) := of_decide_eq_true (List.all_eq_true.mp dsX11_on_0_ok (29, (.iconst 0, 1)) (List.mem_of_getElem? (i := 13) rfl))
theorem dX11_on_30 : decode cX11_on 30 = .ok (.istore_n 1, 1) := of_decide_eq_true (List.all_eq_true.mp dsX11_on_0_ok (30, (.istore_n 1, 1)) (List.mem_of_getElem? (i := 14) rfl))
theorem dX11_on_31 : decode cX11_on 31 = .ok (.aload_n 0, 1) := of_decide_eq_true (List.all_eq_true.mp dsX11_on_0_ok (31, (.aload_n 0, 1)) (List.mem_of_getElem? (i := 15) rfl))
theorem dX11_on_32 : decode cX11_on 32 = .ok (.getfield 10, 3) := of_decide_eq_true (List.all_eq_true.mp dsX11_on_0_ok (32, (.getfield 10, 3)) (List.mem_of_getElem? (i := 16) rfl))
theorem dX11_on_35 : decode cX11_on 35 = .ok (.iconst 0, 1) := of_decide_eq_true (List.all_eq_true.mp dsX11_on_0_ok (35, (.iconst 0, 1)) (List.mem_of_getElem? (i := 17) rfl))
theorem dX11_on_36 : decode cX11_on 36 = .ok (.putfield 90, 3) := of_decide_eq_true (List.all_eq_true.mp dsX11_on_0_ok (36, (.putfield 90, 3)) (List.mem_of_getElem? (i := 18) rfl))
theorem dX11_on_39 : decode cX11_on 39 = .ok (.iload_n 1, 1) := of_decide_eq_true (List.all_eq_true.mp dsX11_on_0_ok (39, (.iload_n 1, 1)) (List.mem_of_getElem? (i := 19) rfl))
theorem dX11_on_40 : decode cX11_on 40 = .ok (.ifCond .ne 9, 3) := of_decide_eq_true (List.all_eq_true.mp dsX11_on_0_ok (40, (.ifCond .ne 9, 3)) (List.mem_of_getElem? (i := 20) rfl))
theorem dX11_on_43 : decode cX11_on 43 = .ok (.aload_n 0, 1) := of_decide_eq_true (List.all_eq_true.mp dsX11_on_0_ok (43, (.aload_n 0, 1)) (List.mem_of_getElem? (i := 21) rfl))
theorem dX11_on_44 : decode cX11_on 44 = .ok (.iconst 5, 1) := of_decide_eq_true (List.all_eq_true.mp dsX11_on_0_ok (44, (.iconst 5, 1)) (List.mem_of_getElem? (i := 22) rfl))
theorem dX11_on_45 : decode cX11_on 45 = .ok (.invokevirtual 101, 3) := of_decide_eq_true (List.all_eq_true.mp dsX11_on_0_ok (45, (.invokevirtual 101, 3)) (List.mem_of_getElem? (i := 23) rfl))
theorem dX11_on_48 : decode cX11_on 48 = .ok (.ireturn, 1) := of_decide_eq_true (List.all_eq_true.mp dsX11_on_0_ok (48, (.ireturn, 1)) (List.mem_of_getElem? (i := 24) rfl))
theorem dX11_on_49 : decode cX11_on 49 = .ok (.aload_n 0, 1) := of_decide_eq_true (List.all_eq_true.mp dsX11_on_0_ok (49, (.aload_n 0, 1)) (List.mem_of_getElem? (i := 25) rfl))
theorem dX11_on_50 : decode cX11_on 50 = .ok (.getfield 19, 3) := of_decide_eq_true (List.all_eq_true.mp dsX11_on_0_ok (50, (.getfield 19, 3)) (List.mem_of_getElem? (i := 26) rfl))
theorem dX11_on_53 : decode cX11_on 53 = .ok (.aload_n 0, 1) := of_decide_eq_true (List.all_eq_true.mp dsX11_on_0_ok (53, (.aload_n 0, 1)) (List.mem_of_getElem? (i := 27) rfl))
theorem dX11_on_54 : decode cX11_on 54 = .ok (.getfield 23, 3) := of_decide_eq_true (List.all_eq_true.mp dsX11_on_0_ok (54, (.getfield 23, 3)) (List.mem_of_getElem? (i := 28) rfl))
theorem dX11_on_57 : decode cX11_on 57 = .ok (.invokevirtual 224, 3) := of_decide_eq_true (List.all_eq_true.mp dsX11_on_0_ok (57, (.invokevirtual 224, 3)) (List.mem_of_getElem? (i := 29) rfl))
theorem dX11_on_60 : decode cX11_on 60 = .ok (.aload_n 0, 1) := of_decide_eq_true (List.all_eq_true.mp dsX11_on_0_ok (60, (.aload_n 0, 1)) (List.mem_of_getElem? (i := 30) rfl))
theorem dX11_on_61 : decode cX11_on 61 = .ok (.getfield 29, 3) := of_decide_eq_true (List.all_eq_true.mp dsX11_on_0_ok (61, (.getfield 29, 3)) (List.mem_of_getElem? (i := 31) rfl))
theorem dX11_on_64 : decode cX11_on 64 = .ok (.iconst 0, 1) := of_decide_eq_true (List.all_eq_true.mp dsX11_on_0_ok (64, (.iconst 0, 1)) (List.mem_of_getElem? (i := 32) rfl))
theorem dX11_on_65 : decode cX11_on 65 = .ok (.putfield 132, 3) := of_decide_eq_true (List.all_eq_true.mp dsX11_on_0_ok (65, (.putfield 132, 3)) (List.mem_of_getElem? (i := 33) rfl))
theorem dX11_on_68 : decode cX11_on 68 = .ok (.iconst 1, 1) := of_decide_eq_true (List.all_eq_true.mp dsX11_on_0_ok (68, (.iconst 1, 1)) (List.mem_of_getElem? (i := 34) rfl))
theorem dX11_on_69 : decode cX11_on 69 = .ok (.ireturn, 1) := of_decide_eq_true (List.all_eq_true.mp dsX11_on_0_ok (69, (.ireturn, 1)) (List.mem_of_getElem? (i := 35) rfl))
def fX11_on_b30 (N : Nat) (homeI : Nat → Int32) (tape_bytesF : Nat → Int32)   : ((Nat → Int32) × (Nat → Int32) × (Nat → Int32) × (Nat → Int32) × (Nat → Int32) × (Nat → Int32) × (Nat → Int32) × (Nat → Int32) × (Nat → Int32) × Int32) → Option (Int32 × (Nat → Int32) × (Nat → Int32) × (Nat → Int32) × (Nat → Int32) × (Nat → Int32) × (Nat → Int32) × (Nat → Int32) × (Nat → Int32) × (Nat → Int32)) :=
  fun (tapeI_30, walkI_30, walk_rowsF_30, walk_talksF_30, nowI_30, now_rowsF_30, now_talksF_30, pastI_30, dv_refusedF_30, y0_30) => (if y0_30 = 0 then (xq_bd (fX11_refuse N dv_refusedF_30 5) fun (r_3_0, r_3_1) => (xq_bd (xq_zb r_3_0) fun v_5 => some ((r_3_0, (va_up tapeI_30 1 0), walkI_30, walk_rowsF_30, walk_talksF_30, nowI_30, now_rowsF_30, now_talksF_30, pastI_30, r_3_1)))) else (xq_bd (fX6_copy N walkI_30 nowI_30 walk_rowsF_30 now_rowsF_30 walk_talksF_30 now_talksF_30) fun (r_1_0, r_1_1, r_1_2) => some ((1, (va_up tapeI_30 1 0), walkI_30, walk_rowsF_30, walk_talksF_30, r_1_0, r_1_1, r_1_2, (va_up pastI_30 2 0), dv_refusedF_30))))
def fX11_on_b29 (N : Nat) (homeI : Nat → Int32) (tape_bytesF : Nat → Int32)   : ((Nat → Int32) × (Nat → Int32) × (Nat → Int32) × (Nat → Int32) × (Nat → Int32) × (Nat → Int32) × (Nat → Int32) × (Nat → Int32) × (Nat → Int32)) → Option (Int32 × (Nat → Int32) × (Nat → Int32) × (Nat → Int32) × (Nat → Int32) × (Nat → Int32) × (Nat → Int32) × (Nat → Int32) × (Nat → Int32) × (Nat → Int32)) :=
  fun (tapeI_29, walkI_29, walk_rowsF_29, walk_talksF_29, nowI_29, now_rowsF_29, now_talksF_29, pastI_29, dv_refusedF_29) => fX11_on_b30 N homeI tape_bytesF (tapeI_29, walkI_29, walk_rowsF_29, walk_talksF_29, nowI_29, now_rowsF_29, now_talksF_29, pastI_29, dv_refusedF_29, 0)
def fX11_on (N : Nat) (homeI : Nat → Int32) (tapeI : Nat → Int32) (tape_bytesF : Nat → Int32) (walkI : Nat → Int32) (walk_rowsF : Nat → Int32) (walk_talksF : Nat → Int32) (nowI : Nat → Int32) (now_rowsF : Nat → Int32) (now_talksF : Nat → Int32) (pastI : Nat → Int32) (dv_refusedF : Nat → Int32)   : Option (Int32 × (Nat → Int32) × (Nat → Int32) × (Nat → Int32) × (Nat → Int32) × (Nat → Int32) × (Nat → Int32) × (Nat → Int32) × (Nat → Int32) × (Nat → Int32)) :=
  (xq_bd (fX11_hasHouse N homeI) fun r_1 => (if r_1 = 0 then fX11_on_b29 N homeI tape_bytesF (tapeI, walkI, walk_rowsF, walk_talksF, nowI, now_rowsF, now_talksF, pastI, dv_refusedF) else (xq_bd (fX4_isRead N homeI tapeI tape_bytesF walkI walk_rowsF walk_talksF) fun (r_3_0, r_3_1, r_3_2, r_3_3) => (if r_3_0 = 0 then fX11_on_b29 N homeI tape_bytesF (tapeI, r_3_1, r_3_2, r_3_3, nowI, now_rowsF, now_talksF, pastI, dv_refusedF) else fX11_on_b30 N homeI tape_bytesF (tapeI, r_3_1, r_3_2, r_3_3, nowI, now_rowsF, now_talksF, pastI, dv_refusedF, 1)))))
set_option maxHeartbeats 4000000 in
set_option maxRecDepth 100000 in
theorem kX11_on (l : Launch) (dC : Nat → ClassId) (dI : Nat → Nat → Nat) (cI cB cJ cZ cM : ClassId) (z : Nat) (ad : Nat → Nat) (N : Nat) (a_p0 : Nat) (dvI : Nat → Int32) (dvR : Nat → Nat) (homeI : Nat → Int32) (homeR : Nat → Nat) (tapeI : Nat → Int32) (tapeR : Nat → Nat) (tape_bytesF : Nat → Int32) (walkI : Nat → Int32) (walkR : Nat → Nat) (walk_rowsF : Nat → Int32) (walk_talksF : Nat → Int32) (nowI : Nat → Int32) (nowR : Nat → Nat) (now_rowsF : Nat → Int32) (now_talksF : Nat → Int32) (pastI : Nat → Int32) (pastR : Nat → Nat) (dv_refusedF : Nat → Int32) {r0 : Int32} {r1 : Nat → Int32} {r2 : Nat → Int32} {r3 : Nat → Int32} {r4 : Nat → Int32} {r5 : Nat → Int32} {r6 : Nat → Int32} {r7 : Nat → Int32} {r8 : Nat → Int32} {r9 : Nat → Int32} (hf : fX11_on N homeI tapeI tape_bytesF walkI walk_rowsF walk_talksF nowI now_rowsF now_talksF pastI dv_refusedF = some (r0, r1, r2, r3, r4, r5, r6, r7, r8, r9)) : xq_Ct l yX11_on wsX11_on { frames := 3, cells := 0, slots := 0, locals := 69 } (dC, dI) vwCl (xq_tys cI cB cJ cZ cM) z ad [.ref a_p0] [(a_p0, .inr (11, oX11 dvI dvR)), ((dvR 10), .inr (2, oX2 homeI homeR)), ((dvR 0), .inr (9, oX9 tapeI tapeR)), ((tapeR 0), .inl (cB, 1600, .inl tape_bytesF)), ((dvR 2), .inr (6, oX6 walkI walkR)), ((walkR 6), .inl (cI, 7, .inl walk_rowsF)), ((walkR 7), .inl (cI, 6, .inl walk_talksF)), ((dvR 1), .inr (6, oX6 nowI nowR)), ((nowR 6), .inl (cI, 7, .inl now_rowsF)), ((nowR 7), .inl (cI, 6, .inl now_talksF)), ((dvR 3), .inr (7, oX7 pastI pastR)), ((dvR 9), .inl (cI, 6, .inl dv_refusedF))] [(a_p0, .inr (11, oX11 dvI dvR)), ((dvR 10), .inr (2, oX2 homeI homeR)), ((dvR 0), .inr (9, oX9 r1 tapeR)), ((tapeR 0), .inl (cB, 1600, .inl tape_bytesF)), ((dvR 2), .inr (6, oX6 r2 walkR)), ((walkR 6), .inl (cI, 7, .inl r3)), ((walkR 7), .inl (cI, 6, .inl r4)), ((dvR 1), .inr (6, oX6 r5 nowR)), ((nowR 6), .inl (cI, 7, .inl r6)), ((nowR 7), .inl (cI, 6, .inl r7)), ((dvR 3), .inr (7, oX7 r8 pastR)), ((dvR 9), .inl (cI, 6, .inl r9))] (some (.int r0)) := by
  intro sz
  refine Met.ofW (cc := cX11_on) (maxL := 2) (ret := (some .boolean)) (by decide) rfl ?_
  intro p e s m args below meth c s₁ B hml hv
  obtain ⟨rfl, hsz, hP, hK, hD0, hE, hz⟩ := hv
  have hx := B.exec
  have hb := B.bytes
  have hr := B.returns
  have hts := atoms_spec (ws := wsX11_on) B.pre
  have hown : s.vm.findClass RX11 = some m.cls := findClass_of_methodNamed B.named
  have hlocks := B.notSynchronized
  subst hsz
  have hD := hD0.self (sz := s.heap.size)
  have hN := xq_Env.of hE hz hD0
  generalize hAe : va_A [(a_p0, .inr (11, oX11 dvI dvR)), ((dvR 10), .inr (2, oX2 homeI homeR)), ((dvR 0), .inr (9, oX9 tapeI tapeR)), ((tapeR 0), .inl (cB, 1600, .inl tape_bytesF)), ((dvR 2), .inr (6, oX6 walkI walkR)), ((walkR 6), .inl (cI, 7, .inl walk_rowsF)), ((walkR 7), .inl (cI, 6, .inl walk_talksF)), ((dvR 1), .inr (6, oX6 nowI nowR)), ((nowR 6), .inl (cI, 7, .inl now_rowsF)), ((nowR 7), .inl (cI, 6, .inl now_talksF)), ((dvR 3), .inr (7, oX7 pastI pastR)), ((dvR 9), .inl (cI, 6, .inl dv_refusedF))] s.heap.size = A at hD hN ⊢
  have hA : ∀ q : Nat, s.heap.size ≤ q → A q := fun q h => by rw [← hAe]; exact Or.inr h
  clear hAe hD0
  have hS : va_S A s.heap s.heap [] := va_S.rf
  have hl := lv_entry ([.ref a_p0]) (n := 2) (Nat.le_of_ble_eq_true rfl)
  rw [lg_entry_eq]
  generalize (lg_sl ([.ref a_p0]) ++ List.replicate (2 - (lg_sl ([.ref a_p0])).length) Slot.unset).toArray = ls at hl ⊢
  have hl : lv_has ls 2 [(0, .ref a_p0)] := hl
  have hw0 := hts (.fieldLink RX11 10 "DistantVoice" "tape" "LDistantVoice$Tape;") (by decide +kernel)
  have hinX11 : ∀ w ∈ wsX110, w ∈ wsX11_on := fun w h => List.mem_cons_of_mem _ (List.mem_append_left _ (List.mem_append_left _ (List.mem_append_left _ (List.mem_append_left _ (List.mem_append_right _ h)))))
  have hw2 := hts (.fieldLink RX11 23 "DistantVoice" "walk" "LDistantVoice$Moment;") (by decide +kernel)
  have hw3 := hts (.fieldLink RX11 67 "DistantVoice" "home" "LDistantVoice$House;") (by decide +kernel)
  have hnf2 := va_Nw.use (A := [.ref a_p0].toArray) rfl (hN.1.1.1 ("DistantVoice", 90, "DistantVoice$Tape", "length", "I", "DistantVoice") (List.mem_of_getElem? (i := 2) rfl))
  have hinX9 : ∀ w ∈ wsX90, w ∈ wsX11_on := fun w h => List.mem_cons_of_mem _ (List.mem_append_left _ (List.mem_append_left _ (List.mem_append_left _ (List.mem_append_right _ h))))
  have hw6 := hts (.fieldLink RX11 19 "DistantVoice" "now" "LDistantVoice$Moment;") (by decide +kernel)
  have hw7 := hts (.fieldLink RX11 29 "DistantVoice" "past" "LDistantVoice$Past;") (by decide +kernel)
  have hnf26 := va_Nw.use (A := [.ref a_p0].toArray) rfl (hN.1.1.1 ("DistantVoice", 132, "DistantVoice$Past", "acts", "I", "DistantVoice") (List.mem_of_getElem? (i := 26) rfl))
  have hinX7 : ∀ w ∈ wsX70, w ∈ wsX11_on := fun w h => List.mem_cons_of_mem _ (List.mem_append_left _ (List.mem_append_left _ (List.mem_append_right _ h)))
  have b30 : ∀ (tapeI_30 : Nat → Int32) (walkI_30 : Nat → Int32) (walk_rowsF_30 : Nat → Int32) (walk_talksF_30 : Nat → Int32) (nowI_30 : Nat → Int32) (now_rowsF_30 : Nat → Int32) (now_talksF_30 : Nat → Int32) (pastI_30 : Nat → Int32) (dv_refusedF_30 : Nat → Int32) (y0_30 : Int32) (ls : Array Slot) (H : Heap) (locs : List Loc), fX11_on_b30 N homeI tape_bytesF (tapeI_30, walkI_30, walk_rowsF_30, walk_talksF_30, nowI_30, now_rowsF_30, now_talksF_30, pastI_30, dv_refusedF_30, y0_30) = some (r0, r1, r2, r3, r4, r5, r6, r7, r8, r9) → va_P (dC, dI) vwCl [(a_p0, .inr (11, oX11 dvI dvR)), ((dvR 10), .inr (2, oX2 homeI homeR)), ((dvR 0), .inr (9, oX9 tapeI_30 tapeR)), ((tapeR 0), .inl (cB, 1600, .inl tape_bytesF)), ((dvR 2), .inr (6, oX6 walkI_30 walkR)), ((walkR 6), .inl (cI, 7, .inl walk_rowsF_30)), ((walkR 7), .inl (cI, 6, .inl walk_talksF_30)), ((dvR 1), .inr (6, oX6 nowI_30 nowR)), ((nowR 6), .inl (cI, 7, .inl now_rowsF_30)), ((nowR 7), .inl (cI, 6, .inl now_talksF_30)), ((dvR 3), .inr (7, oX7 pastI_30 pastR)), ((dvR 9), .inl (cI, 6, .inl dv_refusedF_30))] H → va_D A [(a_p0, .inr (11, oX11 dvI dvR)), ((dvR 10), .inr (2, oX2 homeI homeR)), ((dvR 0), .inr (9, oX9 tapeI_30 tapeR)), ((tapeR 0), .inl (cB, 1600, .inl tape_bytesF)), ((dvR 2), .inr (6, oX6 walkI_30 walkR)), ((walkR 6), .inl (cI, 7, .inl walk_rowsF_30)), ((walkR 7), .inl (cI, 6, .inl walk_talksF_30)), ((dvR 1), .inr (6, oX6 nowI_30 nowR)), ((nowR 6), .inl (cI, 7, .inl now_rowsF_30)), ((nowR 7), .inl (cI, 6, .inl now_talksF_30)), ((dvR 3), .inr (7, oX7 pastI_30 pastR)), ((dvR 9), .inl (cI, 6, .inl dv_refusedF_30))] → va_S A s.heap H locs → lv_has ls 2 [(0, .ref a_p0)] → W p l e (headSpec wsX11_on { frames := 3, cells := 0, slots := 0, locals := 69 }).room s m [.ref a_p0].toArray below meth c H locs 0 0 (MQ below (xq_Q (dC, dI) vwCl (xq_tys cI cB cJ cZ cM) A [(a_p0, .inr (11, oX11 dvI dvR)), ((dvR 10), .inr (2, oX2 homeI homeR)), ((dvR 0), .inr (9, oX9 r1 tapeR)), ((tapeR 0), .inl (cB, 1600, .inl tape_bytesF)), ((dvR 2), .inr (6, oX6 r2 walkR)), ((walkR 6), .inl (cI, 7, .inl r3)), ((walkR 7), .inl (cI, 6, .inl r4)), ((dvR 1), .inr (6, oX6 r5 nowR)), ((nowR 6), .inl (cI, 7, .inl r6)), ((nowR 7), .inl (cI, 6, .inl r7)), ((dvR 3), .inr (7, oX7 r8 pastR)), ((dvR 9), .inl (cI, 6, .inl r9))] (some (.int r0))) [.ref a_p0].toArray s 0 0 A) (F0 m 30 ls [.int y0_30]) := by
    intro tapeI_30 walkI_30 walk_rowsF_30 walk_talksF_30 nowI_30 now_rowsF_30 now_talksF_30 pastI_30 dv_refusedF_30 y0_30 ls H locs hf hP hD hS hl
    unfold fX11_on_b30 at hf
    refine lv_istore_n (lv' := [(1, .int y0_30), (0, .ref a_p0)]) hx hb dX11_on_30 rfl hl (by decide) rfl (fun ls hl => ?_)
    refine lv_aload_n hx hb dX11_on_31 rfl (lv_at hl 1 rfl) ?_
    refine va_get (D := (dC, dI)) (ci := 11) (v := .ref ((dvR 0))) (C := RX11) (T := TX11) (N := 15) hx hb hts hinX11 hown hK hP 0 rfl rfl 0 (by decide) hw0 (fun _ h9 => h9) rfl dX11_on_32 ?_
    refine lv_iconst (v := 0) hx hb dX11_on_35 (by decide) ?_
    refine va_putN (D := (dC, dI)) (ci := 9) (v := .int 0) (ty := .int) (C := RX9) (T := TX9) (N := 2) hx hb hts hinX9 tyX9 tyX9_ok nmX9 hown hK hP hD hS 2 rfl rfl 1 (by decide) hnf2 (fun _ h9 => h9) rfl (by decide +kernel) rfl rfl (Nat.le_of_ble_eq_true rfl) dX11_on_36 (fun H locs hP hD hS => ?_)
    have hP : va_P (dC, dI) vwCl [(a_p0, .inr (11, oX11 dvI dvR)), ((dvR 10), .inr (2, oX2 homeI homeR)), ((dvR 0), .inr (9, oX9 (va_up tapeI_30 1 0) tapeR)), ((tapeR 0), .inl (cB, 1600, .inl tape_bytesF)), ((dvR 2), .inr (6, oX6 walkI_30 walkR)), ((walkR 6), .inl (cI, 7, .inl walk_rowsF_30)), ((walkR 7), .inl (cI, 6, .inl walk_talksF_30)), ((dvR 1), .inr (6, oX6 nowI_30 nowR)), ((nowR 6), .inl (cI, 7, .inl now_rowsF_30)), ((nowR 7), .inl (cI, 6, .inl now_talksF_30)), ((dvR 3), .inr (7, oX7 pastI_30 pastR)), ((dvR 9), .inl (cI, 6, .inl dv_refusedF_30))] H := hP
    have hD : va_D A [(a_p0, .inr (11, oX11 dvI dvR)), ((dvR 10), .inr (2, oX2 homeI homeR)), ((dvR 0), .inr (9, oX9 (va_up tapeI_30 1 0) tapeR)), ((tapeR 0), .inl (cB, 1600, .inl tape_bytesF)), ((dvR 2), .inr (6, oX6 walkI_30 walkR)), ((walkR 6), .inl (cI, 7, .inl walk_rowsF_30)), ((walkR 7), .inl (cI, 6, .inl walk_talksF_30)), ((dvR 1), .inr (6, oX6 nowI_30 nowR)), ((nowR 6), .inl (cI, 7, .inl now_rowsF_30)), ((nowR 7), .inl (cI, 6, .inl now_talksF_30)), ((dvR 3), .inr (7, oX7 pastI_30 pastR)), ((dvR 9), .inl (cI, 6, .inl dv_refusedF_30))] := hD
    refine lv_iload_n hx hb dX11_on_39 rfl (lv_at hl 0 rfl) ?_
    refine lv_if_ne (tgt := 49) hx hb dX11_on_40 (by decide) (fun c_ => ?_) (fun c_ => ?_)
    · have hf := xq_neg hf c_
      refine lv_aload_n hx hb dX11_on_49 rfl (lv_at hl 1 rfl) ?_
      refine va_get (D := (dC, dI)) (ci := 11) (v := .ref ((dvR 1))) (C := RX11) (T := TX11) (N := 15) hx hb hts hinX11 hown hK hP 0 rfl rfl 1 (by decide) hw6 (fun _ h9 => h9) rfl dX11_on_50 ?_
      refine lv_aload_n hx hb dX11_on_53 rfl (lv_at hl 1 rfl) ?_
      refine va_get (D := (dC, dI)) (ci := 11) (v := .ref ((dvR 2))) (C := RX11) (T := TX11) (N := 15) hx hb hts hinX11 hown hK hP 0 rfl rfl 2 (by decide) hw2 (fun _ h9 => h9) rfl dX11_on_54 ?_
      obtain ⟨⟨r_1_0, r_1_1, r_1_2⟩, h_2, hf⟩ := xq_bd_some hf
      refine xq_callV (As := [.ref ((dvR 2))]) (rest := []) (ci := 6) (q0 := 7) ⟨hx, hb, hml, hown, hts⟩ (kX6_copy l dC dI cI cB cJ cZ cM z ad N ((dvR 2)) walkI_30 walkR ((dvR 1)) nowI_30 nowR walk_rowsF_30 now_rowsF_30 walk_talksF_30 now_talksF_30 h_2) (cwV 1 hts gX11_on_X6_copy rfl rfl rfl (by decide +kernel) ⟨Nat.le_of_ble_eq_true rfl, Nat.le_of_ble_eq_true rfl⟩) hN hK hP hD hS hA [4, 7, 5, 8, 6, 9] (by decide) rfl rfl rfl rfl rfl rfl hl.1 rfl (Nat.le_of_ble_eq_true rfl) dX11_on_57 ⟨Nat.zero_le _, Nat.zero_le _⟩ (fun H locs hP hD hS => ?_)
      have hP : va_P (dC, dI) vwCl [(a_p0, .inr (11, oX11 dvI dvR)), ((dvR 10), .inr (2, oX2 homeI homeR)), ((dvR 0), .inr (9, oX9 (va_up tapeI_30 1 0) tapeR)), ((tapeR 0), .inl (cB, 1600, .inl tape_bytesF)), ((dvR 2), .inr (6, oX6 walkI_30 walkR)), ((walkR 6), .inl (cI, 7, .inl walk_rowsF_30)), ((walkR 7), .inl (cI, 6, .inl walk_talksF_30)), ((dvR 1), .inr (6, oX6 r_1_0 nowR)), ((nowR 6), .inl (cI, 7, .inl r_1_1)), ((nowR 7), .inl (cI, 6, .inl r_1_2)), ((dvR 3), .inr (7, oX7 pastI_30 pastR)), ((dvR 9), .inl (cI, 6, .inl dv_refusedF_30))] H := hP
      have hD : va_D A [(a_p0, .inr (11, oX11 dvI dvR)), ((dvR 10), .inr (2, oX2 homeI homeR)), ((dvR 0), .inr (9, oX9 (va_up tapeI_30 1 0) tapeR)), ((tapeR 0), .inl (cB, 1600, .inl tape_bytesF)), ((dvR 2), .inr (6, oX6 walkI_30 walkR)), ((walkR 6), .inl (cI, 7, .inl walk_rowsF_30)), ((walkR 7), .inl (cI, 6, .inl walk_talksF_30)), ((dvR 1), .inr (6, oX6 r_1_0 nowR)), ((nowR 6), .inl (cI, 7, .inl r_1_1)), ((nowR 7), .inl (cI, 6, .inl r_1_2)), ((dvR 3), .inr (7, oX7 pastI_30 pastR)), ((dvR 9), .inl (cI, 6, .inl dv_refusedF_30))] := hD
      refine W.eq (g2 := F0 m 60 ls []) rfl ?_
      refine lv_aload_n hx hb dX11_on_60 rfl (lv_at hl 1 rfl) ?_
      refine va_get (D := (dC, dI)) (ci := 11) (v := .ref ((dvR 3))) (C := RX11) (T := TX11) (N := 15) hx hb hts hinX11 hown hK hP 0 rfl rfl 3 (by decide) hw7 (fun _ h9 => h9) rfl dX11_on_61 ?_
      refine lv_iconst (v := 0) hx hb dX11_on_64 (by decide) ?_
      refine va_putN (D := (dC, dI)) (ci := 7) (v := .int 0) (ty := .int) (C := RX7) (T := TX7) (N := 4) hx hb hts hinX7 tyX7 tyX7_ok nmX7 hown hK hP hD hS 10 rfl rfl 2 (by decide) hnf26 (fun _ h9 => h9) rfl (by decide +kernel) rfl rfl (Nat.le_of_ble_eq_true rfl) dX11_on_65 (fun H locs hP hD hS => ?_)
      have hP : va_P (dC, dI) vwCl [(a_p0, .inr (11, oX11 dvI dvR)), ((dvR 10), .inr (2, oX2 homeI homeR)), ((dvR 0), .inr (9, oX9 (va_up tapeI_30 1 0) tapeR)), ((tapeR 0), .inl (cB, 1600, .inl tape_bytesF)), ((dvR 2), .inr (6, oX6 walkI_30 walkR)), ((walkR 6), .inl (cI, 7, .inl walk_rowsF_30)), ((walkR 7), .inl (cI, 6, .inl walk_talksF_30)), ((dvR 1), .inr (6, oX6 r_1_0 nowR)), ((nowR 6), .inl (cI, 7, .inl r_1_1)), ((nowR 7), .inl (cI, 6, .inl r_1_2)), ((dvR 3), .inr (7, oX7 (va_up pastI_30 2 0) pastR)), ((dvR 9), .inl (cI, 6, .inl dv_refusedF_30))] H := hP
      have hD : va_D A [(a_p0, .inr (11, oX11 dvI dvR)), ((dvR 10), .inr (2, oX2 homeI homeR)), ((dvR 0), .inr (9, oX9 (va_up tapeI_30 1 0) tapeR)), ((tapeR 0), .inl (cB, 1600, .inl tape_bytesF)), ((dvR 2), .inr (6, oX6 walkI_30 walkR)), ((walkR 6), .inl (cI, 7, .inl walk_rowsF_30)), ((walkR 7), .inl (cI, 6, .inl walk_talksF_30)), ((dvR 1), .inr (6, oX6 r_1_0 nowR)), ((nowR 6), .inl (cI, 7, .inl r_1_1)), ((nowR 7), .inl (cI, 6, .inl r_1_2)), ((dvR 3), .inr (7, oX7 (va_up pastI_30 2 0) pastR)), ((dvR 9), .inl (cI, 6, .inl dv_refusedF_30))] := hD
      refine lv_iconst (v := 1) hx hb dX11_on_68 (by decide) ?_
      cases hf
      exact xq_zret hx hb hr (by decide +kernel) hlocks hK hP hD hS dX11_on_69
    · have hf := xq_pos hf c_
      refine lv_aload_n hx hb dX11_on_43 rfl (lv_at hl 1 rfl) ?_
      refine lv_iconst (v := 5) hx hb dX11_on_44 (by decide) ?_
      obtain ⟨⟨r_3_0, r_3_1⟩, h_4, hf⟩ := xq_bd_some hf
      refine xq_callV (As := [.int 5]) (rest := []) (ci := 11) (q0 := 0) ⟨hx, hb, hml, hown, hts⟩ (kX11_refuse l dC dI cI cB cJ cZ cM z ad N a_p0 dvI dvR dv_refusedF_30 5 h_4) (cwV 1 hts gX11_on_X11_refuse rfl rfl rfl (by decide +kernel) ⟨Nat.le_of_ble_eq_true rfl, Nat.le_of_ble_eq_true rfl⟩) hN hK hP hD hS hA [0, 11] (by decide) rfl rfl rfl rfl rfl rfl hl.1 rfl (Nat.le_of_ble_eq_true rfl) dX11_on_45 ⟨Nat.zero_le _, Nat.zero_le _⟩ (fun H locs hP hD hS => ?_)
      have hP : va_P (dC, dI) vwCl [(a_p0, .inr (11, oX11 dvI dvR)), ((dvR 10), .inr (2, oX2 homeI homeR)), ((dvR 0), .inr (9, oX9 (va_up tapeI_30 1 0) tapeR)), ((tapeR 0), .inl (cB, 1600, .inl tape_bytesF)), ((dvR 2), .inr (6, oX6 walkI_30 walkR)), ((walkR 6), .inl (cI, 7, .inl walk_rowsF_30)), ((walkR 7), .inl (cI, 6, .inl walk_talksF_30)), ((dvR 1), .inr (6, oX6 nowI_30 nowR)), ((nowR 6), .inl (cI, 7, .inl now_rowsF_30)), ((nowR 7), .inl (cI, 6, .inl now_talksF_30)), ((dvR 3), .inr (7, oX7 pastI_30 pastR)), ((dvR 9), .inl (cI, 6, .inl r_3_1))] H := hP
      have hD : va_D A [(a_p0, .inr (11, oX11 dvI dvR)), ((dvR 10), .inr (2, oX2 homeI homeR)), ((dvR 0), .inr (9, oX9 (va_up tapeI_30 1 0) tapeR)), ((tapeR 0), .inl (cB, 1600, .inl tape_bytesF)), ((dvR 2), .inr (6, oX6 walkI_30 walkR)), ((walkR 6), .inl (cI, 7, .inl walk_rowsF_30)), ((walkR 7), .inl (cI, 6, .inl walk_talksF_30)), ((dvR 1), .inr (6, oX6 nowI_30 nowR)), ((nowR 6), .inl (cI, 7, .inl now_rowsF_30)), ((nowR 7), .inl (cI, 6, .inl now_talksF_30)), ((dvR 3), .inr (7, oX7 pastI_30 pastR)), ((dvR 9), .inl (cI, 6, .inl r_3_1))] := hD
      refine W.eq (g2 := F0 m 48 ls [.int r_3_0]) rfl ?_
      obtain ⟨v_5, hz, hf⟩ := xq_bd_some hf
      obtain ⟨hn9, hf9⟩ := xq_zb_n hz
      obtain rfl := (xq_zb_some hz).2
      cases hf
      exact xq_zret hx hb hr hn9 hlocks hK hP hD hS dX11_on_48
  have b29 : ∀ (tapeI_29 : Nat → Int32) (walkI_29 : Nat → Int32) (walk_rowsF_29 : Nat → Int32) (walk_talksF_29 : Nat → Int32) (nowI_29 : Nat → Int32) (now_rowsF_29 : Nat → Int32) (now_talksF_29 : Nat → Int32) (pastI_29 : Nat → Int32) (dv_refusedF_29 : Nat → Int32) (ls : Array Slot) (H : Heap) (locs : List Loc), fX11_on_b29 N homeI tape_bytesF (tapeI_29, walkI_29, walk_rowsF_29, walk_talksF_29, nowI_29, now_rowsF_29, now_talksF_29, pastI_29, dv_refusedF_29) = some (r0, r1, r2, r3, r4, r5, r6, r7, r8, r9) → va_P (dC, dI) vwCl [(a_p0, .inr (11, oX11 dvI dvR)), ((dvR 10), .inr (2, oX2 homeI homeR)), ((dvR 0), .inr (9, oX9 tapeI_29 tapeR)), ((tapeR 0), .inl (cB, 1600, .inl tape_bytesF)), ((dvR 2), .inr (6, oX6 walkI_29 walkR)), ((walkR 6), .inl (cI, 7, .inl walk_rowsF_29)), ((walkR 7), .inl (cI, 6, .inl walk_talksF_29)), ((dvR 1), .inr (6, oX6 nowI_29 nowR)), ((nowR 6), .inl (cI, 7, .inl now_rowsF_29)), ((nowR 7), .inl (cI, 6, .inl now_talksF_29)), ((dvR 3), .inr (7, oX7 pastI_29 pastR)), ((dvR 9), .inl (cI, 6, .inl dv_refusedF_29))] H → va_D A [(a_p0, .inr (11, oX11 dvI dvR)), ((dvR 10), .inr (2, oX2 homeI homeR)), ((dvR 0), .inr (9, oX9 tapeI_29 tapeR)), ((tapeR 0), .inl (cB, 1600, .inl tape_bytesF)), ((dvR 2), .inr (6, oX6 walkI_29 walkR)), ((walkR 6), .inl (cI, 7, .inl walk_rowsF_29)), ((walkR 7), .inl (cI, 6, .inl walk_talksF_29)), ((dvR 1), .inr (6, oX6 nowI_29 nowR)), ((nowR 6), .inl (cI, 7, .inl now_rowsF_29)), ((nowR 7), .inl (cI, 6, .inl now_talksF_29)), ((dvR 3), .inr (7, oX7 pastI_29 pastR)), ((dvR 9), .inl (cI, 6, .inl dv_refusedF_29))] → va_S A s.heap H locs → lv_has ls 2 [(0, .ref a_p0)] → W p l e (headSpec wsX11_on { frames := 3, cells := 0, slots := 0, locals := 69 }).room s m [.ref a_p0].toArray below meth c H locs 0 0 (MQ below (xq_Q (dC, dI) vwCl (xq_tys cI cB cJ cZ cM) A [(a_p0, .inr (11, oX11 dvI dvR)), ((dvR 10), .inr (2, oX2 homeI homeR)), ((dvR 0), .inr (9, oX9 r1 tapeR)), ((tapeR 0), .inl (cB, 1600, .inl tape_bytesF)), ((dvR 2), .inr (6, oX6 r2 walkR)), ((walkR 6), .inl (cI, 7, .inl r3)), ((walkR 7), .inl (cI, 6, .inl r4)), ((dvR 1), .inr (6, oX6 r5 nowR)), ((nowR 6), .inl (cI, 7, .inl r6)), ((nowR 7), .inl (cI, 6, .inl r7)), ((dvR 3), .inr (7, oX7 r8 pastR)), ((dvR 9), .inl (cI, 6, .inl r9))] (some (.int r0))) [.ref a_p0].toArray s 0 0 A) (F0 m 29 ls []) := by
    intro tapeI_29 walkI_29 walk_rowsF_29 walk_talksF_29 nowI_29 now_rowsF_29 now_talksF_29 pastI_29 dv_refusedF_29 ls H locs hf hP hD hS hl
    unfold fX11_on_b29 at hf
    refine lv_iconst (v := 0) hx hb dX11_on_29 (by decide) ?_
    exact b30 tapeI_29 walkI_29 walk_rowsF_29 walk_talksF_29 nowI_29 now_rowsF_29 now_talksF_29 pastI_29 dv_refusedF_29 0 _ _ _ hf hP hD hS (lv_sub hl [0] rfl)
  unfold fX11_on at hf
  refine lv_aload_n hx hb dX11_on_0 rfl (lv_at hl 0 rfl) ?_
  obtain ⟨r_1, h_2, hf⟩ := xq_bd_some hf
  refine xq_callV (As := []) (rest := []) (ci := 11) (q0 := 0) ⟨hx, hb, hml, hown, hts⟩ (kX11_hasHouse l dC dI cI cB cJ cZ cM z ad N a_p0 dvI dvR homeI homeR h_2) (cwV 0 hts gX11_on_X11_hasHouse rfl rfl rfl (by decide +kernel) ⟨Nat.le_of_ble_eq_true rfl, Nat.le_of_ble_eq_true rfl⟩) hN hK hP hD hS hA [0, 1] (by decide) rfl rfl rfl rfl rfl rfl hl.1 rfl (Nat.le_of_ble_eq_true rfl) dX11_on_1 ⟨Nat.zero_le _, Nat.zero_le _⟩ (fun H locs hP hD hS => ?_)
  have hP : va_P (dC, dI) vwCl [(a_p0, .inr (11, oX11 dvI dvR)), ((dvR 10), .inr (2, oX2 homeI homeR)), ((dvR 0), .inr (9, oX9 tapeI tapeR)), ((tapeR 0), .inl (cB, 1600, .inl tape_bytesF)), ((dvR 2), .inr (6, oX6 walkI walkR)), ((walkR 6), .inl (cI, 7, .inl walk_rowsF)), ((walkR 7), .inl (cI, 6, .inl walk_talksF)), ((dvR 1), .inr (6, oX6 nowI nowR)), ((nowR 6), .inl (cI, 7, .inl now_rowsF)), ((nowR 7), .inl (cI, 6, .inl now_talksF)), ((dvR 3), .inr (7, oX7 pastI pastR)), ((dvR 9), .inl (cI, 6, .inl dv_refusedF))] H := hP
  have hD : va_D A [(a_p0, .inr (11, oX11 dvI dvR)), ((dvR 10), .inr (2, oX2 homeI homeR)), ((dvR 0), .inr (9, oX9 tapeI tapeR)), ((tapeR 0), .inl (cB, 1600, .inl tape_bytesF)), ((dvR 2), .inr (6, oX6 walkI walkR)), ((walkR 6), .inl (cI, 7, .inl walk_rowsF)), ((walkR 7), .inl (cI, 6, .inl walk_talksF)), ((dvR 1), .inr (6, oX6 nowI nowR)), ((nowR 6), .inl (cI, 7, .inl now_rowsF)), ((nowR 7), .inl (cI, 6, .inl now_talksF)), ((dvR 3), .inr (7, oX7 pastI pastR)), ((dvR 9), .inl (cI, 6, .inl dv_refusedF))] := hD
  refine W.eq (g2 := F0 m 4 ls [.int r_1]) rfl ?_
  refine lv_if_eq (tgt := 29) hx hb dX11_on_4 (by decide) (fun c_ => ?_) (fun c_ => ?_)
  · have hf := xq_pos hf c_
    exact b29 tapeI walkI walk_rowsF walk_talksF nowI now_rowsF now_talksF pastI dv_refusedF _ _ _ hf hP hD hS (lv_sub hl [0] rfl)
  · have hf := xq_neg hf c_
    refine lv_aload_n hx hb dX11_on_7 rfl (lv_at hl 0 rfl) ?_
    refine va_get (D := (dC, dI)) (ci := 11) (v := .ref ((dvR 0))) (C := RX11) (T := TX11) (N := 15) hx hb hts hinX11 hown hK hP 0 rfl rfl 0 (by decide) hw0 (fun _ h9 => h9) rfl dX11_on_8 ?_
    refine lv_aload_n hx hb dX11_on_11 rfl (lv_at hl 0 rfl) ?_
    refine va_get (D := (dC, dI)) (ci := 11) (v := .ref ((dvR 2))) (C := RX11) (T := TX11) (N := 15) hx hb hts hinX11 hown hK hP 0 rfl rfl 2 (by decide) hw2 (fun _ h9 => h9) rfl dX11_on_12 ?_
    refine lv_aload_n hx hb dX11_on_15 rfl (lv_at hl 0 rfl) ?_
    refine va_get (D := (dC, dI)) (ci := 11) (v := .ref ((dvR 10))) (C := RX11) (T := TX11) (N := 15) hx hb hts hinX11 hown hK hP 0 rfl rfl 10 (by decide) hw3 (fun _ h9 => h9) rfl dX11_on_16 ?_
    obtain ⟨⟨r_3_0, r_3_1, r_3_2, r_3_3⟩, h_4, hf⟩ := xq_bd_some hf
    refine xq_callS (As := [.ref ((dvR 0)), .ref ((dvR 2)), .ref ((dvR 10))]) (rest := []) ⟨hx, hb, hml, hown, hts⟩ (kX4_isRead l dC dI cI cB cJ cZ cM z ad N ((dvR 10)) homeI homeR ((dvR 0)) tapeI tapeR tape_bytesF ((dvR 2)) walkI walkR walk_rowsF walk_talksF h_4) (va_cwS 3 hts gX11_on_X4_isRead rfl rfl rfl (by decide +kernel) ⟨Nat.le_of_ble_eq_true rfl, Nat.le_of_ble_eq_true rfl⟩) hN hK hP hD hS hA [1, 2, 3, 4, 5, 6] (by decide) rfl rfl rfl hl.1 rfl (Nat.le_of_ble_eq_true rfl) dX11_on_19 ⟨Nat.zero_le _, Nat.zero_le _⟩ (fun H locs hP hD hS => ?_)
    have hP : va_P (dC, dI) vwCl [(a_p0, .inr (11, oX11 dvI dvR)), ((dvR 10), .inr (2, oX2 homeI homeR)), ((dvR 0), .inr (9, oX9 tapeI tapeR)), ((tapeR 0), .inl (cB, 1600, .inl tape_bytesF)), ((dvR 2), .inr (6, oX6 r_3_1 walkR)), ((walkR 6), .inl (cI, 7, .inl r_3_2)), ((walkR 7), .inl (cI, 6, .inl r_3_3)), ((dvR 1), .inr (6, oX6 nowI nowR)), ((nowR 6), .inl (cI, 7, .inl now_rowsF)), ((nowR 7), .inl (cI, 6, .inl now_talksF)), ((dvR 3), .inr (7, oX7 pastI pastR)), ((dvR 9), .inl (cI, 6, .inl dv_refusedF))] H := hP
    have hD : va_D A [(a_p0, .inr (11, oX11 dvI dvR)), ((dvR 10), .inr (2, oX2 homeI homeR)), ((dvR 0), .inr (9, oX9 tapeI tapeR)), ((tapeR 0), .inl (cB, 1600, .inl tape_bytesF)), ((dvR 2), .inr (6, oX6 r_3_1 walkR)), ((walkR 6), .inl (cI, 7, .inl r_3_2)), ((walkR 7), .inl (cI, 6, .inl r_3_3)), ((dvR 1), .inr (6, oX6 nowI nowR)), ((nowR 6), .inl (cI, 7, .inl now_rowsF)), ((nowR 7), .inl (cI, 6, .inl now_talksF)), ((dvR 3), .inr (7, oX7 pastI pastR)), ((dvR 9), .inl (cI, 6, .inl dv_refusedF))] := hD
    refine W.eq (g2 := F0 m 22 ls [.int r_3_0]) rfl ?_
    refine lv_if_eq (tgt := 29) hx hb dX11_on_22 (by decide) (fun c_ => ?_) (fun c_ => ?_)
    · have hf := xq_pos hf c_
      exact b29 tapeI r_3_1 r_3_2 r_3_3 nowI now_rowsF now_talksF pastI dv_refusedF _ _ _ hf hP hD hS (lv_sub hl [0] rfl)
    · have hf := xq_neg hf c_
      refine lv_iconst (v := 1) hx hb dX11_on_25 (by decide) ?_
      refine lv_goto (tgt := 30) hx hb dX11_on_26 (by decide) ?_
      exact b30 tapeI r_3_1 r_3_2 r_3_3 nowI now_rowsF now_talksF pastI dv_refusedF 1 _ _ _ hf hP hD hS (lv_sub hl [0] rfl)
