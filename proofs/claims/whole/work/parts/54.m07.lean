set_option maxRecDepth 20000 in
theorem ggX12_comesOn_X12_twoAt : GoodIn wsX12_comesOn wsX12_twoAt := goodIn_r _ [19, 6, 25, 26, 27, 28, 29, 30, 31, 32, 33, 34, 35, 36, 37, 38, 39, 40, 41, 42, 43, 44, 45, 46, 47, 48, 49, 50, 51, 52, 53, 54, 55, 56, 57, 58, 59, 60, 61, 62, 63, 64, 65, 66, 67, 68, 69, 70, 71, 72, 73, 74, 75, 76, 77, 78, 79, 80, 81, 82, 83, 84, 85, 86, 87, 88, 89, 90, 91, 92, 93, 94] rfl (by decide +kernel)
set_option maxRecDepth 20000 in
theorem gX12_comesOn_X12_twoAt : GoodIn wsX12_comesOn (wsV RX12 512 RX12 yX12_twoAt wsX12_twoAt) := goodIn_app (goodIn_of _ (by decide +kernel)) ggX12_comesOn_X12_twoAt
set_option maxRecDepth 20000 in
theorem ggX12_comesOn_X12_copies : GoodIn wsX12_comesOn wsX12_copies := goodIn_r _ [23, 7, 8, 9, 10, 11, 13, 14, 12, 24, 25, 26, 27, 28, 29, 30, 31, 32, 33, 34, 35, 36, 37, 38, 39, 40, 41, 42, 43, 44, 45, 46, 47, 48, 49, 50, 51, 52, 53, 54, 55, 56, 57, 58, 59, 60, 61, 62, 63, 64, 65, 66, 67, 68, 69, 70, 71, 72, 73, 74, 75, 76, 77, 78, 79, 80, 81, 82, 83, 84, 85, 86, 87, 88, 89, 90, 91, 92, 93, 94] rfl (by decide +kernel)
set_option maxRecDepth 20000 in
theorem gX12_comesOn_X12_copies : GoodIn wsX12_comesOn (wsV RX12 394 RX12 yX12_copies wsX12_copies) := goodIn_app (goodIn_of _ (by decide +kernel)) ggX12_comesOn_X12_copies
def dsX12_comesOn_0 : List (Nat × Instr × Nat) := [(0, (.aload_n 0, 1)), (1, (.getfield 66, 3)), (4, (.aload_n 0, 1)), (5, (.getfield 51, 3)), (8, (.iaload, 1)), (9, (.aload_n 0, 1)), (10, (.getfield 75, 3)), (13, (.aload_n 0, 1)), (14, (.getfield 51, 3)), (17, (.iaload, 1)), (18, (.iadd, 1)), (19, (.istore_n 2, 1)), (20, (.aload_n 0, 1)), (21, (.getfield 144, 3)), (24, (.ifCond .eq 74, 3)), (27, (.iload_n 1, 1)), (28, (.bipush 9, 2)), (30, (.iload_n 2, 1)), (31, (.iadd, 1)), (32, (.if_icmp .ne 66, 3)), (35, (.aload_n 0, 1)), (36, (.iconst 0, 1)), (37, (.invokevirtual 512, 3)), (40, (.sipush 999, 3)), (43, (.if_icmp .gt 55, 3)), (46, (.aload_n 0, 1)), (47, (.iconst 2, 1)), (48, (.invokevirtual 512, 3)), (51, (.aload_n 0, 1)), (52, (.getfield 54, 3)), (55, (.aload_n 0, 1)), (56, (.getfield 51, 3)), (59, (.iaload, 1)), (60, (.if_icmp .ge 38, 3)), (63, (.aload_n 0, 1)), (64, (.iconst 4, 1)), (65, (.invokevirtual 512, 3)), (68, (.sipush 999, 3)), (71, (.if_icmp .gt 27, 3)), (74, (.aload_n 0, 1)), (75, (.getfield 7, 3)), (78, (.bipush 6, 2)), (80, (.iaload, 1)), (81, (.bipush 20, 2)), (83, (.if_icmp .gt 15, 3)), (86, (.aload_n 0, 1)), (87, (.getfield 7, 3)), (90, (.bipush 7, 2)), (92, (.iaload, 1)), (93, (.bipush 9, 2)), (95, (.if_icmp .le 5, 3)), (98, (.iconst 0, 1)), (99, (.ireturn, 1)), (100, (.sipush 239, 3)), (103, (.istore_n 3, 1)), (104, (.iconst 0, 1)), (105, (.istore 4, 2)), (107, (.iload 4, 2)), (109, (.iload_n 1, 1)), (110, (.iconst 1, 1))]
theorem dsX12_comesOn_0_ok : (dsX12_comesOn_0.all fun q => decide (decode cX12_comesOn q.1 = .ok q.2)) = true := by decide +kernel
theorem dX12_comesOn_0 : decode cX12_comesOn 0 = .ok (.aload_n 0, 1) := of_decide_eq_true (List.all_eq_true.mp dsX12_comesOn_0_ok (0, (.aload_n 0, 1)) (List.mem_of_getElem? (i := 0) rfl))
theorem dX12_comesOn_1 : decode cX12_comesOn 1 = .ok (.getfield 66, 3) := of_decide_eq_true (List.all_eq_true.mp dsX12_comesOn_0_ok (1, (.getfield 66, 3)) (List.mem_of_getElem? (i := 1) rfl))
theorem dX12_comesOn_4 : decode cX12_comesOn 4 = .ok (.aload_n 0, 1) := of_decide_eq_true (List.all_eq_true.mp dsX12_comesOn_0_ok (4, (.aload_n 0, 1)) (List.mem_of_getElem? (i := 2) rfl))
theorem dX12_comesOn_5 : decode cX12_comesOn 5 = .ok (.getfield 51, 3) := of_decide_eq_true (List.all_eq_true.mp dsX12_comesOn_0_ok (5, (.getfield 51, 3)) (List.mem_of_getElem? (i := 3) rfl))
theorem dX12_comesOn_8 : decode cX12_comesOn 8 = .ok (.iaload, 1) := of_decide_eq_true (List.all_eq_true.mp dsX12_comesOn_0_ok (8, (.iaload, 1)) (List.mem_of_getElem? (i := 4) rfl))
theorem dX12_comesOn_9 : decode cX12_comesOn 9 = .ok (.aload_n 0, 1) := of_decide_eq_true (List.all_eq_true.mp dsX12_comesOn_0_ok (9, (.aload_n 0, 1)) (List.mem_of_getElem? (i := 5) rfl))
theorem dX12_comesOn_10 : decode cX12_comesOn 10 = .ok (.getfield 75, 3) := of_decide_eq_true (List.all_eq_true.mp dsX12_comesOn_0_ok (10, (.getfield 75, 3)) (List.mem_of_getElem? (i := 6) rfl))
theorem dX12_comesOn_13 : decode cX12_comesOn 13 = .ok (.aload_n 0, 1) := of_decide_eq_true (List.all_eq_true.mp dsX12_comesOn_0_ok (13, (.aload_n 0, 1)) (List.mem_of_getElem? (i := 7) rfl))
theorem dX12_comesOn_14 : decode cX12_comesOn 14 = .ok (.getfield 51, 3) := of_decide_eq_true (List.all_eq_true.mp dsX12_comesOn_0_ok (14, (.getfield 51, 3)) (List.mem_of_getElem? (i := 8) rfl))
theorem dX12_comesOn_17 : decode cX12_comesOn 17 = .ok (.iaload, 1) := of_decide_eq_true (List.all_eq_true.mp dsX12_comesOn_0_ok (17, (.iaload, 1)) (List.mem_of_getElem? (i := 9) rfl))
theorem dX12_comesOn_18 : decode cX12_comesOn 18 = .ok (.iadd, 1) := of_decide_eq_true (List.all_eq_true.mp dsX12_comesOn_0_ok (18, (.iadd, 1)) (List.mem_of_getElem? (i := 10) rfl))
theorem dX12_comesOn_19 : decode cX12_comesOn 19 = .ok (.istore_n 2, 1) := of_decide_eq_true (List.all_eq_true.mp dsX12_comesOn_0_ok (19, (.istore_n 2, 1)) (List.mem_of_getElem? (i := 11) rfl))
theorem dX12_comesOn_20 : decode cX12_comesOn 20 = .ok (.aload_n 0, 1) := of_decide_eq_true (List.all_eq_true.mp dsX12_comesOn_0_ok (20, (.aload_n 0, 1)) (List.mem_of_getElem? (i := 12) rfl))
theorem dX12_comesOn_21 : decode cX12_comesOn 21 = .ok (.getfield 144, 3) := of_decide_eq_true (List.all_eq_true.mp dsX12_comesOn_0_ok (21, (.getfield 144, 3)) (List.mem_of_getElem? (i := 13) rfl))
theorem dX12_comesOn_24 : decode cX12_comesOn 24 = .ok (.ifCond .eq 74, 3) := of_decide_eq_true (List.all_eq_true.mp dsX12_comesOn_0_ok (24, (.ifCond .eq 74, 3)) (List.mem_of_getElem? (i := 14) rfl))
theorem dX12_comesOn_27 : decode cX12_comesOn 27 = .ok (.iload_n 1, 1) := of_decide_eq_true (List.all_eq_true.mp dsX12_comesOn_0_ok (27, (.iload_n 1, 1)) (List.mem_of_getElem? (i := 15) rfl))
theorem dX12_comesOn_28 : decode cX12_comesOn 28 = .ok (.bipush 9, 2) := of_decide_eq_true (List.all_eq_true.mp dsX12_comesOn_0_ok (28, (.bipush 9, 2)) (List.mem_of_getElem? (i := 16) rfl))
theorem dX12_comesOn_30 : decode cX12_comesOn 30 = .ok (.iload_n 2, 1) := of_decide_eq_true (List.all_eq_true.mp dsX12_comesOn_0_ok (30, (.iload_n 2, 1)) (List.mem_of_getElem? (i := 17) rfl))
theorem dX12_comesOn_31 : decode cX12_comesOn 31 = .ok (.iadd, 1) := of_decide_eq_true (List.all_eq_true.mp dsX12_comesOn_0_ok (31, (.iadd, 1)) (List.mem_of_getElem? (i := 18) rfl))
theorem dX12_comesOn_32 : decode cX12_comesOn 32 = .ok (.if_icmp .ne 66, 3) := of_decide_eq_true (List.all_eq_true.mp dsX12_comesOn_0_ok (32, (.if_icmp .ne 66, 3)) (List.mem_of_getElem? (i := 19) rfl))
theorem dX12_comesOn_35 : decode cX12_comesOn 35 = .ok (.aload_n 0, 1) := of_decide_eq_true (List.all_eq_true.mp dsX12_comesOn_0_ok (35, (.aload_n 0, 1)) (List.mem_of_getElem? (i := 20) rfl))
theorem dX12_comesOn_36 : decode cX12_comesOn 36 = .ok (.iconst 0, 1) := of_decide_eq_true (List.all_eq_true.mp dsX12_comesOn_0_ok (36, (.iconst 0, 1)) (List.mem_of_getElem? (i := 21) rfl))
theorem dX12_comesOn_37 : decode cX12_comesOn 37 = .ok (.invokevirtual 512, 3) := of_decide_eq_true (List.all_eq_true.mp dsX12_comesOn_0_ok (37, (.invokevirtual 512, 3)) (List.mem_of_getElem? (i := 22) rfl))
theorem dX12_comesOn_40 : decode cX12_comesOn 40 = .ok (.sipush 999, 3) := of_decide_eq_true (List.all_eq_true.mp dsX12_comesOn_0_ok (40, (.sipush 999, 3)) (List.mem_of_getElem? (i := 23) rfl))
theorem dX12_comesOn_43 : decode cX12_comesOn 43 = .ok (.if_icmp .gt 55, 3) := of_decide_eq_true (List.all_eq_true.mp dsX12_comesOn_0_ok (43, (.if_icmp .gt 55, 3)) (List.mem_of_getElem? (i := 24) rfl))
theorem dX12_comesOn_46 : decode cX12_comesOn 46 = .ok (.aload_n 0, 1) := of_decide_eq_true (List.all_eq_true.mp dsX12_comesOn_0_ok (46, (.aload_n 0, 1)) (List.mem_of_getElem? (i := 25) rfl))
theorem dX12_comesOn_47 : decode cX12_comesOn 47 = .ok (.iconst 2, 1) := of_decide_eq_true (List.all_eq_true.mp dsX12_comesOn_0_ok (47, (.iconst 2, 1)) (List.mem_of_getElem? (i := 26) rfl))
theorem dX12_comesOn_48 : decode cX12_comesOn 48 = .ok (.invokevirtual 512, 3) := of_decide_eq_true (List.all_eq_true.mp dsX12_comesOn_0_ok (48, (.invokevirtual 512, 3)) (List.mem_of_getElem? (i := 27) rfl))
theorem dX12_comesOn_51 : decode cX12_comesOn 51 = .ok (.aload_n 0, 1) := of_decide_eq_true (List.all_eq_true.mp dsX12_comesOn_0_ok (51, (.aload_n 0, 1)) (List.mem_of_getElem? (i := 28) rfl))
theorem dX12_comesOn_52 : decode cX12_comesOn 52 = .ok (.getfield 54, 3) := of_decide_eq_true (List.all_eq_true.mp dsX12_comesOn_0_ok (52, (.getfield 54, 3)) (List.mem_of_getElem? (i := 29) rfl))
theorem dX12_comesOn_55 : decode cX12_comesOn 55 = .ok (.aload_n 0, 1) := of_decide_eq_true (List.all_eq_true.mp dsX12_comesOn_0_ok (55, (.aload_n 0, 1)) (List.mem_of_getElem? (i := 30) rfl))
theorem dX12_comesOn_56 : decode cX12_comesOn 56 = .ok (.getfield 51, 3) := of_decide_eq_true (List.all_eq_true.mp dsX12_comesOn_0_ok (56, (.getfield 51, 3)) (List.mem_of_getElem? (i := 31) rfl))
theorem dX12_comesOn_59 : decode cX12_comesOn 59 = .ok (.iaload, 1) := of_decide_eq_true (List.all_eq_true.mp dsX12_comesOn_0_ok (59, (.iaload, 1)) (List.mem_of_getElem? (i := 32) rfl))
theorem dX12_comesOn_60 : decode cX12_comesOn 60 = .ok (.if_icmp .ge 38, 3) := of_decide_eq_true (List.all_eq_true.mp dsX12_comesOn_0_ok (60, (.if_icmp .ge 38, 3)) (List.mem_of_getElem? (i := 33) rfl))
theorem dX12_comesOn_63 : decode cX12_comesOn 63 = .ok (.aload_n 0, 1) := of_decide_eq_true (List.all_eq_true.mp dsX12_comesOn_0_ok (63, (.aload_n 0, 1)) (List.mem_of_getElem? (i := 34) rfl))
theorem dX12_comesOn_64 : decode cX12_comesOn 64 = .ok (.iconst 4, 1) := of_decide_eq_true (List.all_eq_true.mp dsX12_comesOn_0_ok (64, (.iconst 4, 1)) (List.mem_of_getElem? (i := 35) rfl))
theorem dX12_comesOn_65 : decode cX12_comesOn 65 = .ok (.invokevirtual 512, 3) := of_decide_eq_true (List.all_eq_true.mp dsX12_comesOn_0_ok (65, (.invokevirtual 512, 3)) (List.mem_of_getElem? (i := 36) rfl))
theorem dX12_comesOn_68 : decode cX12_comesOn 68 = .ok (.sipush 999, 3) := of_decide_eq_true (List.all_eq_true.mp dsX12_comesOn_0_ok (68, (.sipush 999, 3)) (List.mem_of_getElem? (i := 37) rfl))
theorem dX12_comesOn_71 : decode cX12_comesOn 71 = .ok (.if_icmp .gt 27, 3) := of_decide_eq_true (List.all_eq_true.mp dsX12_comesOn_0_ok (71, (.if_icmp .gt 27, 3)) (List.mem_of_getElem? (i := 38) rfl))
theorem dX12_comesOn_74 : decode cX12_comesOn 74 = .ok (.aload_n 0, 1) := of_decide_eq_true (List.all_eq_true.mp dsX12_comesOn_0_ok (74, (.aload_n 0, 1)) (List.mem_of_getElem? (i := 39) rfl))
theorem dX12_comesOn_75 : decode cX12_comesOn 75 = .ok (.getfield 7, 3) := of_decide_eq_true (List.all_eq_true.mp dsX12_comesOn_0_ok (75, (.getfield 7, 3)) (List.mem_of_getElem? (i := 40) rfl))
theorem dX12_comesOn_78 : decode cX12_comesOn 78 = .ok (.bipush 6, 2) := of_decide_eq_true (List.all_eq_true.mp dsX12_comesOn_0_ok (78, (.bipush 6, 2)) (List.mem_of_getElem? (i := 41) rfl))
theorem dX12_comesOn_80 : decode cX12_comesOn 80 = .ok (.iaload, 1) := of_decide_eq_true (List.all_eq_true.mp dsX12_comesOn_0_ok (80, (.iaload, 1)) (List.mem_of_getElem? (i := 42) rfl))
theorem dX12_comesOn_81 : decode cX12_comesOn 81 = .ok (.bipush 20, 2) := of_decide_eq_true (List.all_eq_true.mp dsX12_comesOn_0_ok (81, (.bipush 20, 2)) (List.mem_of_getElem? (i := 43) rfl))
theorem dX12_comesOn_83 : decode cX12_comesOn 83 = .ok (.if_icmp .gt 15, 3) := of_decide_eq_true (List.all_eq_true.mp dsX12_comesOn_0_ok (83, (.if_icmp .gt 15, 3)) (List.mem_of_getElem? (i := 44) rfl))
theorem dX12_comesOn_86 : decode cX12_comesOn 86 = .ok (.aload_n 0, 1) := of_decide_eq_true (List.all_eq_true.mp dsX12_comesOn_0_ok (86, (.aload_n 0, 1)) (List.mem_of_getElem? (i := 45) rfl))
theorem dX12_comesOn_87 : decode cX12_comesOn 87 = .ok (.getfield 7, 3) := of_decide_eq_true (List.all_eq_true.mp dsX12_comesOn_0_ok (87, (.getfield 7, 3)) (List.mem_of_getElem? (i := 46) rfl))
theorem dX12_comesOn_90 : decode cX12_comesOn 90 = .ok (.bipush 7, 2) := of_decide_eq_true (List.all_eq_true.mp dsX12_comesOn_0_ok (90, (.bipush 7, 2)) (List.mem_of_getElem? (i := 47) rfl))
theorem dX12_comesOn_92 : decode cX12_comesOn 92 = .ok (.iaload, 1) := of_decide_eq_true (List.all_eq_true.mp dsX12_comesOn_0_ok (92, (.iaload, 1)) (List.mem_of_getElem? (i := 48) rfl))
theorem dX12_comesOn_93 : decode cX12_comesOn 93 = .ok (.bipush 9, 2) := of_decide_eq_true (List.all_eq_true.mp dsX12_comesOn_0_ok (93, (.bipush 9, 2)) (List.mem_of_getElem? (i := 49) rfl))
theorem dX12_comesOn_95 : decode cX12_comesOn 95 = .ok (.if_icmp .le 5, 3) := of_decide_eq_true (List.all_eq_true.mp dsX12_comesOn_0_ok (95, (.if_icmp .le 5, 3)) (List.mem_of_getElem? (i := 50) rfl))
theorem dX12_comesOn_98 : decode cX12_comesOn 98 = .ok (.iconst 0, 1) := of_decide_eq_true (List.all_eq_true.mp dsX12_comesOn_0_ok (98, (.iconst 0, 1)) (List.mem_of_getElem? (i := 51) rfl))
theorem dX12_comesOn_99 : decode cX12_comesOn 99 = .ok (.ireturn, 1) := of_decide_eq_true (List.all_eq_true.mp dsX12_comesOn_0_ok (99, (.ireturn, 1)) (List.mem_of_getElem? (i := 52) rfl))
theorem dX12_comesOn_100 : decode cX12_comesOn 100 = .ok (.sipush 239, 3) := of_decide_eq_true (List.all_eq_true.mp dsX12_comesOn_0_ok (100, (.sipush 239, 3)) (List.mem_of_getElem? (i := 53) rfl))
theorem dX12_comesOn_103 : decode cX12_comesOn 103 = .ok (.istore_n 3, 1) := of_decide_eq_true (List.all_eq_true.mp dsX12_comesOn_0_ok (103, (.istore_n 3, 1)) (List.mem_of_getElem? (i := 54) rfl))
theorem dX12_comesOn_104 : decode cX12_comesOn 104 = .ok (.iconst 0, 1) := of_decide_eq_true (List.all_eq_true.mp dsX12_comesOn_0_ok (104, (.iconst 0, 1)) (List.mem_of_getElem? (i := 55) rfl))
theorem dX12_comesOn_105 : decode cX12_comesOn 105 = .ok (.istore 4, 2) := of_decide_eq_true (List.all_eq_true.mp dsX12_comesOn_0_ok (105, (.istore 4, 2)) (List.mem_of_getElem? (i := 56) rfl))
theorem dX12_comesOn_107 : decode cX12_comesOn 107 = .ok (.iload 4, 2) := of_decide_eq_true (List.all_eq_true.mp dsX12_comesOn_0_ok (107, (.iload 4, 2)) (List.mem_of_getElem? (i := 57) rfl))
theorem dX12_comesOn_109 : decode cX12_comesOn 109 = .ok (.iload_n 1, 1) := of_decide_eq_true (List.all_eq_true.mp dsX12_comesOn_0_ok (109, (.iload_n 1, 1)) (List.mem_of_getElem? (i := 58) rfl))
theorem dX12_comesOn_110 : decode cX12_comesOn 110 = .ok (.iconst 1, 1) := of_decide_eq_true (List.all_eq_true.mp dsX12_comesOn_0_ok (110, (.iconst 1, 1)) (List.mem_of_getElem? (i := 59) rfl))
def dsX12_comesOn_1 : List (Nat × Instr × Nat) := [(111, (.isub, 1)), (112, (.if_icmp .ge 25, 3)), (115, (.iconst 5, 1)), (116, (.iload_n 3, 1)), (117, (.imul, 1)), (118, (.aload_n 0, 1)), (119, (.getfield 7, 3)), (122, (.iload 4, 2)), (124, (.iaload, 1)), (125, (.iadd, 1)), (126, (.sipush 251, 3)), (129, (.irem, 1)), (130, (.istore_n 3, 1)), (131, (.iinc 4 1, 3)), (134, (.goto (-27), 3)), (137, (.aload_n 0, 1)), (138, (.getfield 7, 3)), (141, (.iload_n 1, 1)), (142, (.iconst 1, 1)), (143, (.isub, 1)), (144, (.iaload, 1)), (145, (.iload_n 3, 1)), (146, (.if_icmp .eq 5, 3)), (149, (.iconst 0, 1)), (150, (.ireturn, 1)), (151, (.aload_n 0, 1)), (152, (.iconst 1, 1)), (153, (.iconst 0, 1)), (154, (.invokevirtual 394, 3)), (157, (.aload_n 0, 1)), (158, (.getfield 150, 3)), (161, (.iconst 1, 1)), (162, (.aload_n 0, 1)), (163, (.iconst 0, 1)), (164, (.invokevirtual 512, 3)), (167, (.iastore, 1)), (168, (.aload_n 0, 1)), (169, (.getfield 153, 3)), (172, (.iconst 1, 1)), (173, (.aload_n 0, 1)), (174, (.iconst 2, 1)), (175, (.invokevirtual 512, 3)), (178, (.iastore, 1)), (179, (.aload_n 0, 1)), (180, (.getfield 156, 3)), (183, (.iconst 1, 1)), (184, (.aload_n 0, 1)), (185, (.iconst 4, 1)), (186, (.invokevirtual 512, 3)), (189, (.iastore, 1)), (190, (.aload_n 0, 1)), (191, (.getfield 159, 3)), (194, (.iconst 1, 1)), (195, (.aload_n 0, 1)), (196, (.getfield 7, 3)), (199, (.bipush 6, 2)), (201, (.iaload, 1)), (202, (.iastore, 1)), (203, (.aload_n 0, 1)), (204, (.getfield 162, 3))]
theorem dsX12_comesOn_1_ok : (dsX12_comesOn_1.all fun q => decide (decode cX12_comesOn q.1 = .ok q.2)) = true := by decide +kernel
theorem dX12_comesOn_111 : decode cX12_comesOn 111 = .ok (.isub, 1) := of_decide_eq_true (List.all_eq_true.mp dsX12_comesOn_1_ok (111, (.isub, 1)) (List.mem_of_getElem? (i := 0) rfl))
theorem dX12_comesOn_112 : decode cX12_comesOn 112 = .ok (.if_icmp .ge 25, 3) := of_decide_eq_true (List.all_eq_true.mp dsX12_comesOn_1_ok (112, (.if_icmp .ge 25, 3)) (List.mem_of_getElem? (i := 1) rfl))
theorem dX12_comesOn_115 : decode cX12_comesOn 115 = .ok (.iconst 5, 1) := of_decide_eq_true (List.all_eq_true.mp dsX12_comesOn_1_ok (115, (.iconst 5, 1)) (List.mem_of_getElem? (i := 2) rfl))
theorem dX12_comesOn_116 : decode cX12_comesOn 116 = .ok (.iload_n 3, 1) := of_decide_eq_true (List.all_eq_true.mp dsX12_comesOn_1_ok (116, (.iload_n 3, 1)) (List.mem_of_getElem? (i := 3) rfl))
theorem dX12_comesOn_117 : decode cX12_comesOn 117 = .ok (.imul, 1) := of_decide_eq_true (List.all_eq_true.mp dsX12_comesOn_1_ok (117, (.imul, 1)) (List.mem_of_getElem? (i := 4) rfl))
theorem dX12_comesOn_118 : decode cX12_comesOn 118 = .ok (.aload_n 0, 1) := of_decide_eq_true (List.all_eq_true.mp dsX12_comesOn_1_ok (118, (.aload_n 0, 1)) (List.mem_of_getElem? (i := 5) rfl))
theorem dX12_comesOn_119 : decode cX12_comesOn 119 = .ok (.getfield 7, 3) := of_decide_eq_true (List.all_eq_true.mp dsX12_comesOn_1_ok (119, (.getfield 7, 3)) (List.mem_of_getElem? (i := 6) rfl))
theorem dX12_comesOn_122 : decode cX12_comesOn 122 = .ok (.iload 4, 2) := of_decide_eq_true (List.all_eq_true.mp dsX12_comesOn_1_ok (122, (.iload 4, 2)) (List.mem_of_getElem? (i := 7) rfl))
theorem dX12_comesOn_124 : decode cX12_comesOn 124 = .ok (.iaload, 1) := of_decide_eq_true (List.all_eq_true.mp dsX12_comesOn_1_ok (124, (.iaload, 1)) (List.mem_of_getElem? (i := 8) rfl))
theorem dX12_comesOn_125 : decode cX12_comesOn 125 = .ok (.iadd, 1) := of_decide_eq_true (List.all_eq_true.mp dsX12_comesOn_1_ok (125, (.iadd, 1)) (List.mem_of_getElem? (i := 9) rfl))
theorem dX12_comesOn_126 : decode cX12_comesOn 126 = .ok (.sipush 251, 3) := of_decide_eq_true (List.all_eq_true.mp dsX12_comesOn_1_ok (126, (.sipush 251, 3)) (List.mem_of_getElem? (i := 10) rfl))
theorem dX12_comesOn_129 : decode cX12_comesOn 129 = .ok (.irem, 1) := of_decide_eq_true (List.all_eq_true.mp dsX12_comesOn_1_ok (129, (.irem, 1)) (List.mem_of_getElem? (i := 11) rfl))
theorem dX12_comesOn_130 : decode cX12_comesOn 130 = .ok (.istore_n 3, 1) := of_decide_eq_true (List.all_eq_true.mp dsX12_comesOn_1_ok (130, (.istore_n 3, 1)) (List.mem_of_getElem? (i := 12) rfl))
theorem dX12_comesOn_131 : decode cX12_comesOn 131 = .ok (.iinc 4 1, 3) := of_decide_eq_true (List.all_eq_true.mp dsX12_comesOn_1_ok (131, (.iinc 4 1, 3)) (List.mem_of_getElem? (i := 13) rfl))
theorem dX12_comesOn_134 : decode cX12_comesOn 134 = .ok (.goto (-27), 3) := of_decide_eq_true (List.all_eq_true.mp dsX12_comesOn_1_ok (134, (.goto (-27), 3)) (List.mem_of_getElem? (i := 14) rfl))
theorem dX12_comesOn_137 : decode cX12_comesOn 137 = .ok (.aload_n 0, 1) := of_decide_eq_true (List.all_eq_true.mp dsX12_comesOn_1_ok (137, (.aload_n 0, 1)) (List.mem_of_getElem? (i := 15) rfl))
theorem dX12_comesOn_138 : decode cX12_comesOn 138 = .ok (.getfield 7, 3) := of_decide_eq_true (List.all_eq_true.mp dsX12_comesOn_1_ok (138, (.getfield 7, 3)) (List.mem_of_getElem? (i := 16) rfl))
theorem dX12_comesOn_141 : decode cX12_comesOn 141 = .ok (.iload_n 1, 1) := of_decide_eq_true (List.all_eq_true.mp dsX12_comesOn_1_ok (141, (.iload_n 1, 1)) (List.mem_of_getElem? (i := 17) rfl))
theorem dX12_comesOn_142 : decode cX12_comesOn 142 = .ok (.iconst 1, 1) := of_decide_eq_true (List.all_eq_true.mp dsX12_comesOn_1_ok (142, (.iconst 1, 1)) (List.mem_of_getElem? (i := 18) rfl))
theorem dX12_comesOn_143 : decode cX12_comesOn 143 = .ok (.isub, 1) := of_decide_eq_true (List.all_eq_true.mp dsX12_comesOn_1_ok (143, (.isub, 1)) (List.mem_of_getElem? (i := 19) rfl))
theorem dX12_comesOn_144 : decode cX12_comesOn 144 = .ok (.iaload, 1) := of_decide_eq_true (List.all_eq_true.mp dsX12_comesOn_1_ok (144, (.iaload, 1)) (List.mem_of_getElem? (i := 20) rfl))
theorem dX12_comesOn_145 : decode cX12_comesOn 145 = .ok (.iload_n 3, 1) := of_decide_eq_true (List.all_eq_true.mp dsX12_comesOn_1_ok (145, (.iload_n 3, 1)) (List.mem_of_getElem? (i := 21) rfl))
theorem dX12_comesOn_146 : decode cX12_comesOn 146 = .ok (.if_icmp .eq 5, 3) := of_decide_eq_true (List.all_eq_true.mp dsX12_comesOn_1_ok (146, (.if_icmp .eq 5, 3)) (List.mem_of_getElem? (i := 22) rfl))
theorem dX12_comesOn_149 : decode cX12_comesOn 149 = .ok (.iconst 0, 1) := of_decide_eq_true (List.all_eq_true.mp dsX12_comesOn_1_ok (149, (.iconst 0, 1)) (List.mem_of_getElem? (i := 23) rfl))
theorem dX12_comesOn_150 : decode cX12_comesOn 150 = .ok (.ireturn, 1) := of_decide_eq_true (List.all_eq_true.mp dsX12_comesOn_1_ok (150, (.ireturn, 1)) (List.mem_of_getElem? (i := 24) rfl))
theorem dX12_comesOn_151 : decode cX12_comesOn 151 = .ok (.aload_n 0, 1) := of_decide_eq_true (List.all_eq_true.mp dsX12_comesOn_1_ok (151, (.aload_n 0, 1)) (List.mem_of_getElem? (i := 25) rfl))
theorem dX12_comesOn_152 : decode cX12_comesOn 152 = .ok (.iconst 1, 1) := of_decide_eq_true (List.all_eq_true.mp dsX12_comesOn_1_ok (152, (.iconst 1, 1)) (List.mem_of_getElem? (i := 26) rfl))
theorem dX12_comesOn_153 : decode cX12_comesOn 153 = .ok (.iconst 0, 1) := of_decide_eq_true (List.all_eq_true.mp dsX12_comesOn_1_ok (153, (.iconst 0, 1)) (List.mem_of_getElem? (i := 27) rfl))
theorem dX12_comesOn_154 : decode cX12_comesOn 154 = .ok (.invokevirtual 394, 3) := of_decide_eq_true (List.all_eq_true.mp dsX12_comesOn_1_ok (154, (.invokevirtual 394, 3)) (List.mem_of_getElem? (i := 28) rfl))
theorem dX12_comesOn_157 : decode cX12_comesOn 157 = .ok (.aload_n 0, 1) := of_decide_eq_true (List.all_eq_true.mp dsX12_comesOn_1_ok (157, (.aload_n 0, 1)) (List.mem_of_getElem? (i := 29) rfl))
theorem dX12_comesOn_158 : decode cX12_comesOn 158 = .ok (.getfield 150, 3) := of_decide_eq_true (List.all_eq_true.mp dsX12_comesOn_1_ok (158, (.getfield 150, 3)) (List.mem_of_getElem? (i := 30) rfl))
theorem dX12_comesOn_161 : decode cX12_comesOn 161 = .ok (.iconst 1, 1) := of_decide_eq_true (List.all_eq_true.mp dsX12_comesOn_1_ok (161, (.iconst 1, 1)) (List.mem_of_getElem? (i := 31) rfl))
theorem dX12_comesOn_162 : decode cX12_comesOn 162 = .ok (.aload_n 0, 1) := of_decide_eq_true (List.all_eq_true.mp dsX12_comesOn_1_ok (162, (.aload_n 0, 1)) (List.mem_of_getElem? (i := 32) rfl))
theorem dX12_comesOn_163 : decode cX12_comesOn 163 = .ok (.iconst 0, 1) := of_decide_eq_true (List.all_eq_true.mp dsX12_comesOn_1_ok (163, (.iconst 0, 1)) (List.mem_of_getElem? (i := 33) rfl))
theorem dX12_comesOn_164 : decode cX12_comesOn 164 = .ok (.invokevirtual 512, 3) := of_decide_eq_true (List.all_eq_true.mp dsX12_comesOn_1_ok (164, (.invokevirtual 512, 3)) (List.mem_of_getElem? (i := 34) rfl))
theorem dX12_comesOn_167 : decode cX12_comesOn 167 = .ok (.iastore, 1) := of_decide_eq_true (List.all_eq_true.mp dsX12_comesOn_1_ok (167, (.iastore, 1)) (List.mem_of_getElem? (i := 35) rfl))
theorem dX12_comesOn_168 : decode cX12_comesOn 168 = .ok (.aload_n 0, 1) := of_decide_eq_true (List.all_eq_true.mp dsX12_comesOn_1_ok (168, (.aload_n 0, 1)) (List.mem_of_getElem? (i := 36) rfl))
theorem dX12_comesOn_169 : decode cX12_comesOn 169 = .ok (.getfield 153, 3) := of_decide_eq_true (List.all_eq_true.mp dsX12_comesOn_1_ok (169, (.getfield 153, 3)) (List.mem_of_getElem? (i := 37) rfl))
theorem dX12_comesOn_172 : decode cX12_comesOn 172 = .ok (.iconst 1, 1) := of_decide_eq_true (List.all_eq_true.mp dsX12_comesOn_1_ok (172, (.iconst 1, 1)) (List.mem_of_getElem? (i := 38) rfl))
theorem dX12_comesOn_173 : decode cX12_comesOn 173 = .ok (.aload_n 0, 1) := of_decide_eq_true (List.all_eq_true.mp dsX12_comesOn_1_ok (173, (.aload_n 0, 1)) (List.mem_of_getElem? (i := 39) rfl))
theorem dX12_comesOn_174 : decode cX12_comesOn 174 = .ok (.iconst 2, 1) := of_decide_eq_true (List.all_eq_true.mp dsX12_comesOn_1_ok (174, (.iconst 2, 1)) (List.mem_of_getElem? (i := 40) rfl))
theorem dX12_comesOn_175 : decode cX12_comesOn 175 = .ok (.invokevirtual 512, 3) := of_decide_eq_true (List.all_eq_true.mp dsX12_comesOn_1_ok (175, (.invokevirtual 512, 3)) (List.mem_of_getElem? (i := 41) rfl))
theorem dX12_comesOn_178 : decode cX12_comesOn 178 = .ok (.iastore, 1) := of_decide_eq_true (List.all_eq_true.mp dsX12_comesOn_1_ok (178, (.iastore, 1)) (List.mem_of_getElem? (i := 42) rfl))
theorem dX12_comesOn_179 : decode cX12_comesOn 179 = .ok (.aload_n 0, 1) := of_decide_eq_true (List.all_eq_true.mp dsX12_comesOn_1_ok (179, (.aload_n 0, 1)) (List.mem_of_getElem? (i := 43) rfl))
theorem dX12_comesOn_180 : decode cX12_comesOn 180 = .ok (.getfield 156, 3) := of_decide_eq_true (List.all_eq_true.mp dsX12_comesOn_1_ok (180, (.getfield 156, 3)) (List.mem_of_getElem? (i := 44) rfl))
theorem dX12_comesOn_183 : decode cX12_comesOn 183 = .ok (.iconst 1, 1) := of_decide_eq_true (List.all_eq_true.mp dsX12_comesOn_1_ok (183, (.iconst 1, 1)) (List.mem_of_getElem? (i := 45) rfl))
theorem dX12_comesOn_184 : decode cX12_comesOn 184 = .ok (.aload_n 0, 1) := of_decide_eq_true (List.all_eq_true.mp dsX12_comesOn_1_ok (184, (.aload_n 0, 1)) (List.mem_of_getElem? (i := 46) rfl))
theorem dX12_comesOn_185 : decode cX12_comesOn 185 = .ok (.iconst 4, 1) := of_decide_eq_true (List.all_eq_true.mp dsX12_comesOn_1_ok (185, (.iconst 4, 1)) (List.mem_of_getElem? (i := 47) rfl))
theorem dX12_comesOn_186 : decode cX12_comesOn 186 = .ok (.invokevirtual 512, 3) := of_decide_eq_true (List.all_eq_true.mp dsX12_comesOn_1_ok (186, (.invokevirtual 512, 3)) (List.mem_of_getElem? (i := 48) rfl))
theorem dX12_comesOn_189 : decode cX12_comesOn 189 = .ok (.iastore, 1) := of_decide_eq_true (List.all_eq_true.mp dsX12_comesOn_1_ok (189, (.iastore, 1)) (List.mem_of_getElem? (i := 49) rfl))
theorem dX12_comesOn_190 : decode cX12_comesOn 190 = .ok (.aload_n 0, 1) := of_decide_eq_true (List.all_eq_true.mp dsX12_comesOn_1_ok (190, (.aload_n 0, 1)) (List.mem_of_getElem? (i := 50) rfl))
theorem dX12_comesOn_191 : decode cX12_comesOn 191 = .ok (.getfield 159, 3) := of_decide_eq_true (List.all_eq_true.mp dsX12_comesOn_1_ok (191, (.getfield 159, 3)) (List.mem_of_getElem? (i := 51) rfl))
theorem dX12_comesOn_194 : decode cX12_comesOn 194 = .ok (.iconst 1, 1) := of_decide_eq_true (List.all_eq_true.mp dsX12_comesOn_1_ok (194, (.iconst 1, 1)) (List.mem_of_getElem? (i := 52) rfl))
theorem dX12_comesOn_195 : decode cX12_comesOn 195 = .ok (.aload_n 0, 1) := of_decide_eq_true (List.all_eq_true.mp dsX12_comesOn_1_ok (195, (.aload_n 0, 1)) (List.mem_of_getElem? (i := 53) rfl))
theorem dX12_comesOn_196 : decode cX12_comesOn 196 = .ok (.getfield 7, 3) := of_decide_eq_true (List.all_eq_true.mp dsX12_comesOn_1_ok (196, (.getfield 7, 3)) (List.mem_of_getElem? (i := 54) rfl))
theorem dX12_comesOn_199 : decode cX12_comesOn 199 = .ok (.bipush 6, 2) := of_decide_eq_true (List.all_eq_true.mp dsX12_comesOn_1_ok (199, (.bipush 6, 2)) (List.mem_of_getElem? (i := 55) rfl))
theorem dX12_comesOn_201 : decode cX12_comesOn 201 = .ok (.iaload, 1) := of_decide_eq_true (List.all_eq_true.mp dsX12_comesOn_1_ok (201, (.iaload, 1)) (List.mem_of_getElem? (i := 56) rfl))
theorem dX12_comesOn_202 : decode cX12_comesOn 202 = .ok (.iastore, 1) := of_decide_eq_true (List.all_eq_true.mp dsX12_comesOn_1_ok (202, (.iastore, 1)) (List.mem_of_getElem? (i := 57) rfl))
theorem dX12_comesOn_203 : decode cX12_comesOn 203 = .ok (.aload_n 0, 1) := of_decide_eq_true (List.all_eq_true.mp dsX12_comesOn_1_ok (203, (.aload_n 0, 1)) (List.mem_of_getElem? (i := 58) rfl))
theorem dX12_comesOn_204 : decode cX12_comesOn 204 = .ok (.getfield 162, 3) := of_decide_eq_true (List.all_eq_true.mp dsX12_comesOn_1_ok (204, (.getfield 162, 3)) (List.mem_of_getElem? (i := 59) rfl))
def dsX12_comesOn_2 : List (Nat × Instr × Nat) := [(207, (.iconst 1, 1)), (208, (.aload_n 0, 1)), (209, (.getfield 7, 3)), (212, (.bipush 7, 2)), (214, (.iaload, 1)), (215, (.iastore, 1)), (216, (.aload_n 0, 1)), (217, (.getfield 171, 3)), (220, (.iconst 1, 1)), (221, (.iconst 0, 1)), (222, (.iastore, 1)), (223, (.iconst 0, 1)), (224, (.istore 4, 2)), (226, (.iload 4, 2)), (228, (.iload_n 2, 1)), (229, (.if_icmp .ge 26, 3)), (232, (.aload_n 0, 1)), (233, (.getfield 7, 3)), (236, (.bipush 8, 2)), (238, (.iload 4, 2)), (240, (.iadd, 1)), (241, (.iaload, 1)), (242, (.bipush 9, 2)), (244, (.if_icmp .le 5, 3)), (247, (.iconst 0, 1)), (248, (.ireturn, 1)), (249, (.iinc 4 1, 3)), (252, (.goto (-26), 3)), (255, (.iconst 0, 1)), (256, (.istore 4, 2)), (258, (.iload 4, 2)), (260, (.aload_n 0, 1)), (261, (.getfield 66, 3)), (264, (.aload_n 0, 1)), (265, (.getfield 51, 3)), (268, (.iaload, 1)), (269, (.if_icmp .ge 29, 3)), (272, (.aload_n 0, 1)), (273, (.getfield 165, 3)), (276, (.bipush 7, 2)), (278, (.iload 4, 2)), (280, (.iadd, 1)), (281, (.aload_n 0, 1)), (282, (.getfield 7, 3)), (285, (.bipush 8, 2)), (287, (.iload 4, 2)), (289, (.iadd, 1)), (290, (.iaload, 1)), (291, (.iastore, 1)), (292, (.iinc 4 1, 3)), (295, (.goto (-37), 3)), (298, (.iconst 0, 1)), (299, (.istore 4, 2)), (301, (.iload 4, 2)), (303, (.aload_n 0, 1)), (304, (.getfield 75, 3)), (307, (.aload_n 0, 1)), (308, (.getfield 51, 3)), (311, (.iaload, 1)), (312, (.if_icmp .ge 39, 3))]
theorem dsX12_comesOn_2_ok : (dsX12_comesOn_2.all fun q => decide (decode cX12_comesOn q.1 = .ok q.2)) = true := by decide +kernel
theorem dX12_comesOn_207 : decode cX12_comesOn 207 = .ok (.iconst 1, 1) := of_decide_eq_true (List.all_eq_true.mp dsX12_comesOn_2_ok (207, (.iconst 1, 1)) (List.mem_of_getElem? (i := 0) rfl))
theorem dX12_comesOn_208 : decode cX12_comesOn 208 = .ok (.aload_n 0, 1) := of_decide_eq_true (List.all_eq_true.mp dsX12_comesOn_2_ok (208, (.aload_n 0, 1)) (List.mem_of_getElem? (i := 1) rfl))
theorem dX12_comesOn_209 : decode cX12_comesOn 209 = .ok (.getfield 7, 3) := of_decide_eq_true (List.all_eq_true.mp dsX12_comesOn_2_ok (209, (.getfield 7, 3)) (List.mem_of_getElem? (i := 2) rfl))
theorem dX12_comesOn_212 : decode cX12_comesOn 212 = .ok (.bipush 7, 2) := of_decide_eq_true (List.all_eq_true.mp dsX12_comesOn_2_ok (212, (.bipush 7, 2)) (List.mem_of_getElem? (i := 3) rfl))
theorem dX12_comesOn_214 : decode cX12_comesOn 214 = .ok (.iaload, 1) := of_decide_eq_true (List.all_eq_true.mp dsX12_comesOn_2_ok (214, (.iaload, 1)) (List.mem_of_getElem? (i := 4) rfl))
theorem dX12_comesOn_215 : decode cX12_comesOn 215 = .ok (.iastore, 1) := of_decide_eq_true (List.all_eq_true.mp dsX12_comesOn_2_ok (215, (.iastore, 1)) (List.mem_of_getElem? (i := 5) rfl))
theorem dX12_comesOn_216 : decode cX12_comesOn 216 = .ok (.aload_n 0, 1) := of_decide_eq_true (List.all_eq_true.mp dsX12_comesOn_2_ok (216, (.aload_n 0, 1)) (List.mem_of_getElem? (i := 6) rfl))
theorem dX12_comesOn_217 : decode cX12_comesOn 217 = .ok (.getfield 171, 3) := of_decide_eq_true (List.all_eq_true.mp dsX12_comesOn_2_ok (217, (.getfield 171, 3)) (List.mem_of_getElem? (i := 7) rfl))
theorem dX12_comesOn_220 : decode cX12_comesOn 220 = .ok (.iconst 1, 1) := of_decide_eq_true (List.all_eq_true.mp dsX12_comesOn_2_ok (220, (.iconst 1, 1)) (List.mem_of_getElem? (i := 8) rfl))
theorem dX12_comesOn_221 : decode cX12_comesOn 221 = .ok (.iconst 0, 1) := of_decide_eq_true (List.all_eq_true.mp dsX12_comesOn_2_ok (221, (.iconst 0, 1)) (List.mem_of_getElem? (i := 9) rfl))
theorem dX12_comesOn_222 : decode cX12_comesOn 222 = .ok (.iastore, 1) := of_decide_eq_true (List.all_eq_true.mp dsX12_comesOn_2_ok (222, (.iastore, 1)) (List.mem_of_getElem? (i := 10) rfl))
theorem dX12_comesOn_223 : decode cX12_comesOn 223 = .ok (.iconst 0, 1) := of_decide_eq_true (List.all_eq_true.mp dsX12_comesOn_2_ok (223, (.iconst 0, 1)) (List.mem_of_getElem? (i := 11) rfl))
theorem dX12_comesOn_224 : decode cX12_comesOn 224 = .ok (.istore 4, 2) := of_decide_eq_true (List.all_eq_true.mp dsX12_comesOn_2_ok (224, (.istore 4, 2)) (List.mem_of_getElem? (i := 12) rfl))
theorem dX12_comesOn_226 : decode cX12_comesOn 226 = .ok (.iload 4, 2) := of_decide_eq_true (List.all_eq_true.mp dsX12_comesOn_2_ok (226, (.iload 4, 2)) (List.mem_of_getElem? (i := 13) rfl))
theorem dX12_comesOn_228 : decode cX12_comesOn 228 = .ok (.iload_n 2, 1) := of_decide_eq_true (List.all_eq_true.mp dsX12_comesOn_2_ok (228, (.iload_n 2, 1)) (List.mem_of_getElem? (i := 14) rfl))
theorem dX12_comesOn_229 : decode cX12_comesOn 229 = .ok (.if_icmp .ge 26, 3) := of_decide_eq_true (List.all_eq_true.mp dsX12_comesOn_2_ok (229, (.if_icmp .ge 26, 3)) (List.mem_of_getElem? (i := 15) rfl))
theorem dX12_comesOn_232 : decode cX12_comesOn 232 = .ok (.aload_n 0, 1) := of_decide_eq_true (List.all_eq_true.mp dsX12_comesOn_2_ok (232, (.aload_n 0, 1)) (List.mem_of_getElem? (i := 16) rfl))
theorem dX12_comesOn_233 : decode cX12_comesOn 233 = .ok (.getfield 7, 3) := of_decide_eq_true (List.all_eq_true.mp dsX12_comesOn_2_ok (233, (.getfield 7, 3)) (List.mem_of_getElem? (i := 17) rfl))
theorem dX12_comesOn_236 : decode cX12_comesOn 236 = .ok (.bipush 8, 2) := of_decide_eq_true (List.all_eq_true.mp dsX12_comesOn_2_ok (236, (.bipush 8, 2)) (List.mem_of_getElem? (i := 18) rfl))
theorem dX12_comesOn_238 : decode cX12_comesOn 238 = .ok (.iload 4, 2) := of_decide_eq_true (List.all_eq_true.mp dsX12_comesOn_2_ok (238, (.iload 4, 2)) (List.mem_of_getElem? (i := 19) rfl))
theorem dX12_comesOn_240 : decode cX12_comesOn 240 = .ok (.iadd, 1) := of_decide_eq_true (List.all_eq_true.mp dsX12_comesOn_2_ok (240, (.iadd, 1)) (List.mem_of_getElem? (i := 20) rfl))
theorem dX12_comesOn_241 : decode cX12_comesOn 241 = .ok (.iaload, 1) := of_decide_eq_true (List.all_eq_true.mp dsX12_comesOn_2_ok (241, (.iaload, 1)) (List.mem_of_getElem? (i := 21) rfl))
theorem dX12_comesOn_242 : decode cX12_comesOn 242 = .ok (.bipush 9, 2) := of_decide_eq_true (List.all_eq_true.mp dsX12_comesOn_2_ok (242, (.bipush 9, 2)) (List.mem_of_getElem? (i := 22) rfl))
theorem dX12_comesOn_244 : decode cX12_comesOn 244 = .ok (.if_icmp .le 5, 3) := of_decide_eq_true (List.all_eq_true.mp dsX12_comesOn_2_ok (244, (.if_icmp .le 5, 3)) (List.mem_of_getElem? (i := 23) rfl))
theorem dX12_comesOn_247 : decode cX12_comesOn 247 = .ok (.iconst 0, 1) := of_decide_eq_true (List.all_eq_true.mp dsX12_comesOn_2_ok (247, (.iconst 0, 1)) (List.mem_of_getElem? (i := 24) rfl))
theorem dX12_comesOn_248 : decode cX12_comesOn 248 = .ok (.ireturn, 1) := of_decide_eq_true (List.all_eq_true.mp dsX12_comesOn_2_ok (248, (.ireturn, 1)) (List.mem_of_getElem? (i := 25) rfl))
theorem dX12_comesOn_249 : decode cX12_comesOn 249 = .ok (.iinc 4 1, 3) := of_decide_eq_true (List.all_eq_true.mp dsX12_comesOn_2_ok (249, (.iinc 4 1, 3)) (List.mem_of_getElem? (i := 26) rfl))
theorem dX12_comesOn_252 : decode cX12_comesOn 252 = .ok (.goto (-26), 3) := of_decide_eq_true (List.all_eq_true.mp dsX12_comesOn_2_ok (252, (.goto (-26), 3)) (List.mem_of_getElem? (i := 27) rfl))
theorem dX12_comesOn_255 : decode cX12_comesOn 255 = .ok (.iconst 0, 1) := of_decide_eq_true (List.all_eq_true.mp dsX12_comesOn_2_ok (255, (.iconst 0, 1)) (List.mem_of_getElem? (i := 28) rfl))
theorem dX12_comesOn_256 : decode cX12_comesOn 256 = .ok (.istore 4, 2) := of_decide_eq_true (List.all_eq_true.mp dsX12_comesOn_2_ok (256, (.istore 4, 2)) (List.mem_of_getElem? (i := 29) rfl))
theorem dX12_comesOn_258 : decode cX12_comesOn 258 = .ok (.iload 4, 2) := of_decide_eq_true (List.all_eq_true.mp dsX12_comesOn_2_ok (258, (.iload 4, 2)) (List.mem_of_getElem? (i := 30) rfl))
theorem dX12_comesOn_260 : decode cX12_comesOn 260 = .ok (.aload_n 0, 1) := of_decide_eq_true (List.all_eq_true.mp dsX12_comesOn_2_ok (260, (.aload_n 0, 1)) (List.mem_of_getElem? (i := 31) rfl))
theorem dX12_comesOn_261 : decode cX12_comesOn 261 = .ok (.getfield 66, 3) := of_decide_eq_true (List.all_eq_true.mp dsX12_comesOn_2_ok (261, (.getfield 66, 3)) (List.mem_of_getElem? (i := 32) rfl))
theorem dX12_comesOn_264 : decode cX12_comesOn 264 = .ok (.aload_n 0, 1) := of_decide_eq_true (List.all_eq_true.mp dsX12_comesOn_2_ok (264, (.aload_n 0, 1)) (List.mem_of_getElem? (i := 33) rfl))
theorem dX12_comesOn_265 : decode cX12_comesOn 265 = .ok (.getfield 51, 3) := of_decide_eq_true (List.all_eq_true.mp dsX12_comesOn_2_ok (265, (.getfield 51, 3)) (List.mem_of_getElem? (i := 34) rfl))
theorem dX12_comesOn_268 : decode cX12_comesOn 268 = .ok (.iaload, 1) := of_decide_eq_true (List.all_eq_true.mp dsX12_comesOn_2_ok (268, (.iaload, 1)) (List.mem_of_getElem? (i := 35) rfl))
theorem dX12_comesOn_269 : decode cX12_comesOn 269 = .ok (.if_icmp .ge 29, 3) := of_decide_eq_true (List.all_eq_true.mp dsX12_comesOn_2_ok (269, (.if_icmp .ge 29, 3)) (List.mem_of_getElem? (i := 36) rfl))
theorem dX12_comesOn_272 : decode cX12_comesOn 272 = .ok (.aload_n 0, 1) := of_decide_eq_true (List.all_eq_true.mp dsX12_comesOn_2_ok (272, (.aload_n 0, 1)) (List.mem_of_getElem? (i := 37) rfl))
theorem dX12_comesOn_273 : decode cX12_comesOn 273 = .ok (.getfield 165, 3) := of_decide_eq_true (List.all_eq_true.mp dsX12_comesOn_2_ok (273, (.getfield 165, 3)) (List.mem_of_getElem? (i := 38) rfl))
theorem dX12_comesOn_276 : decode cX12_comesOn 276 = .ok (.bipush 7, 2) := of_decide_eq_true (List.all_eq_true.mp dsX12_comesOn_2_ok (276, (.bipush 7, 2)) (List.mem_of_getElem? (i := 39) rfl))
theorem dX12_comesOn_278 : decode cX12_comesOn 278 = .ok (.iload 4, 2) := of_decide_eq_true (List.all_eq_true.mp dsX12_comesOn_2_ok (278, (.iload 4, 2)) (List.mem_of_getElem? (i := 40) rfl))
theorem dX12_comesOn_280 : decode cX12_comesOn 280 = .ok (.iadd, 1) := of_decide_eq_true (List.all_eq_true.mp dsX12_comesOn_2_ok (280, (.iadd, 1)) (List.mem_of_getElem? (i := 41) rfl))
theorem dX12_comesOn_281 : decode cX12_comesOn 281 = .ok (.aload_n 0, 1) := of_decide_eq_true (List.all_eq_true.mp dsX12_comesOn_2_ok (281, (.aload_n 0, 1)) (List.mem_of_getElem? (i := 42) rfl))
theorem dX12_comesOn_282 : decode cX12_comesOn 282 = .ok (.getfield 7, 3) := of_decide_eq_true (List.all_eq_true.mp dsX12_comesOn_2_ok (282, (.getfield 7, 3)) (List.mem_of_getElem? (i := 43) rfl))
theorem dX12_comesOn_285 : decode cX12_comesOn 285 = .ok (.bipush 8, 2) := of_decide_eq_true (List.all_eq_true.mp dsX12_comesOn_2_ok (285, (.bipush 8, 2)) (List.mem_of_getElem? (i := 44) rfl))
theorem dX12_comesOn_287 : decode cX12_comesOn 287 = .ok (.iload 4, 2) := of_decide_eq_true (List.all_eq_true.mp dsX12_comesOn_2_ok (287, (.iload 4, 2)) (List.mem_of_getElem? (i := 45) rfl))
theorem dX12_comesOn_289 : decode cX12_comesOn 289 = .ok (.iadd, 1) := of_decide_eq_true (List.all_eq_true.mp dsX12_comesOn_2_ok (289, (.iadd, 1)) (List.mem_of_getElem? (i := 46) rfl))
theorem dX12_comesOn_290 : decode cX12_comesOn 290 = .ok (.iaload, 1) := of_decide_eq_true (List.all_eq_true.mp dsX12_comesOn_2_ok (290, (.iaload, 1)) (List.mem_of_getElem? (i := 47) rfl))
theorem dX12_comesOn_291 : decode cX12_comesOn 291 = .ok (.iastore, 1) := of_decide_eq_true (List.all_eq_true.mp dsX12_comesOn_2_ok (291, (.iastore, 1)) (List.mem_of_getElem? (i := 48) rfl))
theorem dX12_comesOn_292 : decode cX12_comesOn 292 = .ok (.iinc 4 1, 3) := of_decide_eq_true (List.all_eq_true.mp dsX12_comesOn_2_ok (292, (.iinc 4 1, 3)) (List.mem_of_getElem? (i := 49) rfl))
theorem dX12_comesOn_295 : decode cX12_comesOn 295 = .ok (.goto (-37), 3) := of_decide_eq_true (List.all_eq_true.mp dsX12_comesOn_2_ok (295, (.goto (-37), 3)) (List.mem_of_getElem? (i := 50) rfl))
theorem dX12_comesOn_298 : decode cX12_comesOn 298 = .ok (.iconst 0, 1) := of_decide_eq_true (List.all_eq_true.mp dsX12_comesOn_2_ok (298, (.iconst 0, 1)) (List.mem_of_getElem? (i := 51) rfl))
theorem dX12_comesOn_299 : decode cX12_comesOn 299 = .ok (.istore 4, 2) := of_decide_eq_true (List.all_eq_true.mp dsX12_comesOn_2_ok (299, (.istore 4, 2)) (List.mem_of_getElem? (i := 52) rfl))
theorem dX12_comesOn_301 : decode cX12_comesOn 301 = .ok (.iload 4, 2) := of_decide_eq_true (List.all_eq_true.mp dsX12_comesOn_2_ok (301, (.iload 4, 2)) (List.mem_of_getElem? (i := 53) rfl))
theorem dX12_comesOn_303 : decode cX12_comesOn 303 = .ok (.aload_n 0, 1) := of_decide_eq_true (List.all_eq_true.mp dsX12_comesOn_2_ok (303, (.aload_n 0, 1)) (List.mem_of_getElem? (i := 54) rfl))
theorem dX12_comesOn_304 : decode cX12_comesOn 304 = .ok (.getfield 75, 3) := of_decide_eq_true (List.all_eq_true.mp dsX12_comesOn_2_ok (304, (.getfield 75, 3)) (List.mem_of_getElem? (i := 55) rfl))
theorem dX12_comesOn_307 : decode cX12_comesOn 307 = .ok (.aload_n 0, 1) := of_decide_eq_true (List.all_eq_true.mp dsX12_comesOn_2_ok (307, (.aload_n 0, 1)) (List.mem_of_getElem? (i := 56) rfl))
theorem dX12_comesOn_308 : decode cX12_comesOn 308 = .ok (.getfield 51, 3) := of_decide_eq_true (List.all_eq_true.mp dsX12_comesOn_2_ok (308, (.getfield 51, 3)) (List.mem_of_getElem? (i := 57) rfl))
theorem dX12_comesOn_311 : decode cX12_comesOn 311 = .ok (.iaload, 1) := of_decide_eq_true (List.all_eq_true.mp dsX12_comesOn_2_ok (311, (.iaload, 1)) (List.mem_of_getElem? (i := 58) rfl))
theorem dX12_comesOn_312 : decode cX12_comesOn 312 = .ok (.if_icmp .ge 39, 3) := of_decide_eq_true (List.all_eq_true.mp dsX12_comesOn_2_ok (312, (.if_icmp .ge 39, 3)) (List.mem_of_getElem? (i := 59) rfl))
def dsX12_comesOn_3 : List (Nat × Instr × Nat) := [(315, (.aload_n 0, 1)), (316, (.getfield 168, 3)), (319, (.bipush 6, 2)), (321, (.iload 4, 2)), (323, (.iadd, 1)), (324, (.aload_n 0, 1)), (325, (.getfield 7, 3)), (328, (.bipush 8, 2)), (330, (.aload_n 0, 1)), (331, (.getfield 66, 3)), (334, (.aload_n 0, 1)), (335, (.getfield 51, 3)), (338, (.iaload, 1)), (339, (.iadd, 1)), (340, (.iload 4, 2)), (342, (.iadd, 1)), (343, (.iaload, 1)), (344, (.iastore, 1)), (345, (.iinc 4 1, 3)), (348, (.goto (-47), 3)), (351, (.iconst 1, 1)), (352, (.ireturn, 1))]
theorem dsX12_comesOn_3_ok : (dsX12_comesOn_3.all fun q => decide (decode cX12_comesOn q.1 = .ok q.2)) = true := by decide +kernel
theorem dX12_comesOn_315 : decode cX12_comesOn 315 = .ok (.aload_n 0, 1) := of_decide_eq_true (List.all_eq_true.mp dsX12_comesOn_3_ok (315, (.aload_n 0, 1)) (List.mem_of_getElem? (i := 0) rfl))
theorem dX12_comesOn_316 : decode cX12_comesOn 316 = .ok (.getfield 168, 3) := of_decide_eq_true (List.all_eq_true.mp dsX12_comesOn_3_ok (316, (.getfield 168, 3)) (List.mem_of_getElem? (i := 1) rfl))
theorem dX12_comesOn_319 : decode cX12_comesOn 319 = .ok (.bipush 6, 2) := of_decide_eq_true (List.all_eq_true.mp dsX12_comesOn_3_ok (319, (.bipush 6, 2)) (List.mem_of_getElem? (i := 2) rfl))
theorem dX12_comesOn_321 : decode cX12_comesOn 321 = .ok (.iload 4, 2) := of_decide_eq_true (List.all_eq_true.mp dsX12_comesOn_3_ok (321, (.iload 4, 2)) (List.mem_of_getElem? (i := 3) rfl))
theorem dX12_comesOn_323 : decode cX12_comesOn 323 = .ok (.iadd, 1) := of_decide_eq_true (List.all_eq_true.mp dsX12_comesOn_3_ok (323, (.iadd, 1)) (List.mem_of_getElem? (i := 4) rfl))
theorem dX12_comesOn_324 : decode cX12_comesOn 324 = .ok (.aload_n 0, 1) := of_decide_eq_true (List.all_eq_true.mp dsX12_comesOn_3_ok (324, (.aload_n 0, 1)) (List.mem_of_getElem? (i := 5) rfl))
theorem dX12_comesOn_325 : decode cX12_comesOn 325 = .ok (.getfield 7, 3) := of_decide_eq_true (List.all_eq_true.mp dsX12_comesOn_3_ok (325, (.getfield 7, 3)) (List.mem_of_getElem? (i := 6) rfl))
theorem dX12_comesOn_328 : decode cX12_comesOn 328 = .ok (.bipush 8, 2) := of_decide_eq_true (List.all_eq_true.mp dsX12_comesOn_3_ok (328, (.bipush 8, 2)) (List.mem_of_getElem? (i := 7) rfl))
theorem dX12_comesOn_330 : decode cX12_comesOn 330 = .ok (.aload_n 0, 1) := of_decide_eq_true (List.all_eq_true.mp dsX12_comesOn_3_ok (330, (.aload_n 0, 1)) (List.mem_of_getElem? (i := 8) rfl))
theorem dX12_comesOn_331 : decode cX12_comesOn 331 = .ok (.getfield 66, 3) := of_decide_eq_true (List.all_eq_true.mp dsX12_comesOn_3_ok (331, (.getfield 66, 3)) (List.mem_of_getElem? (i := 9) rfl))
theorem dX12_comesOn_334 : decode cX12_comesOn 334 = .ok (.aload_n 0, 1) := of_decide_eq_true (List.all_eq_true.mp dsX12_comesOn_3_ok (334, (.aload_n 0, 1)) (List.mem_of_getElem? (i := 10) rfl))
theorem dX12_comesOn_335 : decode cX12_comesOn 335 = .ok (.getfield 51, 3) := of_decide_eq_true (List.all_eq_true.mp dsX12_comesOn_3_ok (335, (.getfield 51, 3)) (List.mem_of_getElem? (i := 11) rfl))
theorem dX12_comesOn_338 : decode cX12_comesOn 338 = .ok (.iaload, 1) := of_decide_eq_true (List.all_eq_true.mp dsX12_comesOn_3_ok (338, (.iaload, 1)) (List.mem_of_getElem? (i := 12) rfl))
theorem dX12_comesOn_339 : decode cX12_comesOn 339 = .ok (.iadd, 1) := of_decide_eq_true (List.all_eq_true.mp dsX12_comesOn_3_ok (339, (.iadd, 1)) (List.mem_of_getElem? (i := 13) rfl))
theorem dX12_comesOn_340 : decode cX12_comesOn 340 = .ok (.iload 4, 2) := of_decide_eq_true (List.all_eq_true.mp dsX12_comesOn_3_ok (340, (.iload 4, 2)) (List.mem_of_getElem? (i := 14) rfl))
theorem dX12_comesOn_342 : decode cX12_comesOn 342 = .ok (.iadd, 1) := of_decide_eq_true (List.all_eq_true.mp dsX12_comesOn_3_ok (342, (.iadd, 1)) (List.mem_of_getElem? (i := 15) rfl))
theorem dX12_comesOn_343 : decode cX12_comesOn 343 = .ok (.iaload, 1) := of_decide_eq_true (List.all_eq_true.mp dsX12_comesOn_3_ok (343, (.iaload, 1)) (List.mem_of_getElem? (i := 16) rfl))
theorem dX12_comesOn_344 : decode cX12_comesOn 344 = .ok (.iastore, 1) := of_decide_eq_true (List.all_eq_true.mp dsX12_comesOn_3_ok (344, (.iastore, 1)) (List.mem_of_getElem? (i := 17) rfl))
theorem dX12_comesOn_345 : decode cX12_comesOn 345 = .ok (.iinc 4 1, 3) := of_decide_eq_true (List.all_eq_true.mp dsX12_comesOn_3_ok (345, (.iinc 4 1, 3)) (List.mem_of_getElem? (i := 18) rfl))
theorem dX12_comesOn_348 : decode cX12_comesOn 348 = .ok (.goto (-47), 3) := of_decide_eq_true (List.all_eq_true.mp dsX12_comesOn_3_ok (348, (.goto (-47), 3)) (List.mem_of_getElem? (i := 19) rfl))
theorem dX12_comesOn_351 : decode cX12_comesOn 351 = .ok (.iconst 1, 1) := of_decide_eq_true (List.all_eq_true.mp dsX12_comesOn_3_ok (351, (.iconst 1, 1)) (List.mem_of_getElem? (i := 20) rfl))
theorem dX12_comesOn_352 : decode cX12_comesOn 352 = .ok (.ireturn, 1) := of_decide_eq_true (List.all_eq_true.mp dsX12_comesOn_3_ok (352, (.ireturn, 1)) (List.mem_of_getElem? (i := 21) rfl))
def fX12_comesOn_l301 (N : Nat) (mmI : Nat → Int32) (mm_earsF : Nat → Int32) (mm_placesF : Nat → Int32) (mm_tapeF : Nat → Int32) (mm_milesToldF : Nat → Int32)  (k301 : ((Nat → Int32) × (Nat → Int32) × (Nat → Int32) × (Nat → Int32) × (Nat → Int32) × (Nat → Int32) × (Nat → Int32) × (Nat → Int32) × (Nat → Int32) × Int32) → Option (Int32 × (Nat → Int32) × (Nat → Int32) × (Nat → Int32) × (Nat → Int32) × (Nat → Int32) × (Nat → Int32) × (Nat → Int32) × (Nat → Int32) × (Nat → Int32))) : ((Nat → Int32) × (Nat → Int32) × (Nat → Int32) × (Nat → Int32) × (Nat → Int32) × (Nat → Int32) × (Nat → Int32) × (Nat → Int32) × (Nat → Int32) × Int32) → Option (Int32 × (Nat → Int32) × (Nat → Int32) × (Nat → Int32) × (Nat → Int32) × (Nat → Int32) × (Nat → Int32) × (Nat → Int32) × (Nat → Int32) × (Nat → Int32)) :=
  fun (mm_nightOfF_301, mm_mileOfF_301, mm_roundsOfF_301, mm_talkingOfF_301, mm_hushOfF_301, mm_rowOfF_301, mm_keptManyF_301, mm_talkOfF_301, mm_keptRowF_301, x4_301) => (xq_bd (xq_ald 2 mm_placesF (mmI 13)) fun v_1 => (if v_1 ≤ x4_301 then some ((1, mm_nightOfF_301, mm_mileOfF_301, mm_roundsOfF_301, mm_talkingOfF_301, mm_hushOfF_301, mm_rowOfF_301, mm_keptManyF_301, mm_talkOfF_301, mm_keptRowF_301)) else (xq_bd (xq_ald 2 mm_earsF (mmI 13)) fun v_2 => (xq_bd (xq_ald 1800 mm_tapeF ((8 + v_2) + x4_301)) fun v_3 => (xq_bd (xq_ast 132 mm_talkOfF_301 (6 + x4_301) v_3) fun g_4 => k301 (mm_nightOfF_301, mm_mileOfF_301, mm_roundsOfF_301, mm_talkingOfF_301, mm_hushOfF_301, mm_rowOfF_301, mm_keptManyF_301, g_4, mm_keptRowF_301, x4_301 + 1))))))
def fX12_comesOn_l258 (N : Nat) (mmI : Nat → Int32) (mm_earsF : Nat → Int32) (mm_placesF : Nat → Int32) (mm_tapeF : Nat → Int32) (mm_milesToldF : Nat → Int32)  (k258 : ((Nat → Int32) × (Nat → Int32) × (Nat → Int32) × (Nat → Int32) × (Nat → Int32) × (Nat → Int32) × (Nat → Int32) × (Nat → Int32) × (Nat → Int32) × Int32) → Option (Int32 × (Nat → Int32) × (Nat → Int32) × (Nat → Int32) × (Nat → Int32) × (Nat → Int32) × (Nat → Int32) × (Nat → Int32) × (Nat → Int32) × (Nat → Int32))) : ((Nat → Int32) × (Nat → Int32) × (Nat → Int32) × (Nat → Int32) × (Nat → Int32) × (Nat → Int32) × (Nat → Int32) × (Nat → Int32) × (Nat → Int32) × Int32) → Option (Int32 × (Nat → Int32) × (Nat → Int32) × (Nat → Int32) × (Nat → Int32) × (Nat → Int32) × (Nat → Int32) × (Nat → Int32) × (Nat → Int32) × (Nat → Int32)) :=
  fun (mm_nightOfF_258, mm_mileOfF_258, mm_roundsOfF_258, mm_talkingOfF_258, mm_hushOfF_258, mm_rowOfF_258, mm_keptManyF_258, mm_talkOfF_258, mm_keptRowF_258, x4_258) => (xq_bd (xq_ald 2 mm_earsF (mmI 13)) fun v_5 => (if v_5 ≤ x4_258 then xq_loop (fX12_comesOn_l301 N mmI mm_earsF mm_placesF mm_tapeF mm_milesToldF) N (mm_nightOfF_258, mm_mileOfF_258, mm_roundsOfF_258, mm_talkingOfF_258, mm_hushOfF_258, mm_rowOfF_258, mm_keptManyF_258, mm_talkOfF_258, mm_keptRowF_258, 0) else (xq_bd (xq_ald 1800 mm_tapeF (8 + x4_258)) fun v_6 => (xq_bd (xq_ast 154 mm_rowOfF_258 (7 + x4_258) v_6) fun g_7 => k258 (mm_nightOfF_258, mm_mileOfF_258, mm_roundsOfF_258, mm_talkingOfF_258, mm_hushOfF_258, g_7, mm_keptManyF_258, mm_talkOfF_258, mm_keptRowF_258, x4_258 + 1)))))
def fX12_comesOn_l226 (N : Nat) (mmI : Nat → Int32) (mm_earsF : Nat → Int32) (mm_placesF : Nat → Int32) (mm_tapeF : Nat → Int32) (mm_milesToldF : Nat → Int32)  (k226 : ((Nat → Int32) × (Nat → Int32) × (Nat → Int32) × (Nat → Int32) × (Nat → Int32) × (Nat → Int32) × (Nat → Int32) × (Nat → Int32) × (Nat → Int32) × Int32 × Int32) → Option (Int32 × (Nat → Int32) × (Nat → Int32) × (Nat → Int32) × (Nat → Int32) × (Nat → Int32) × (Nat → Int32) × (Nat → Int32) × (Nat → Int32) × (Nat → Int32))) : ((Nat → Int32) × (Nat → Int32) × (Nat → Int32) × (Nat → Int32) × (Nat → Int32) × (Nat → Int32) × (Nat → Int32) × (Nat → Int32) × (Nat → Int32) × Int32 × Int32) → Option (Int32 × (Nat → Int32) × (Nat → Int32) × (Nat → Int32) × (Nat → Int32) × (Nat → Int32) × (Nat → Int32) × (Nat → Int32) × (Nat → Int32) × (Nat → Int32)) :=
  fun (mm_nightOfF_226, mm_mileOfF_226, mm_roundsOfF_226, mm_talkingOfF_226, mm_hushOfF_226, mm_rowOfF_226, mm_keptManyF_226, mm_talkOfF_226, mm_keptRowF_226, x2_226, x4_226) => (if x2_226 ≤ x4_226 then xq_loop (fX12_comesOn_l258 N mmI mm_earsF mm_placesF mm_tapeF mm_milesToldF) N (mm_nightOfF_226, mm_mileOfF_226, mm_roundsOfF_226, mm_talkingOfF_226, mm_hushOfF_226, mm_rowOfF_226, mm_keptManyF_226, mm_talkOfF_226, mm_keptRowF_226, 0) else (xq_bd (xq_ald 1800 mm_tapeF (8 + x4_226)) fun v_8 => (if v_8 ≤ 9 then k226 (mm_nightOfF_226, mm_mileOfF_226, mm_roundsOfF_226, mm_talkingOfF_226, mm_hushOfF_226, mm_rowOfF_226, mm_keptManyF_226, mm_talkOfF_226, mm_keptRowF_226, x2_226, x4_226 + 1) else some ((0, mm_nightOfF_226, mm_mileOfF_226, mm_roundsOfF_226, mm_talkingOfF_226, mm_hushOfF_226, mm_rowOfF_226, mm_keptManyF_226, mm_talkOfF_226, mm_keptRowF_226)))))
def fX12_comesOn_l107 (N : Nat) (mmI : Nat → Int32) (mm_earsF : Nat → Int32) (mm_placesF : Nat → Int32) (mm_tapeF : Nat → Int32) (mm_milesToldF : Nat → Int32)  (k107 : ((Nat → Int32) × (Nat → Int32) × (Nat → Int32) × (Nat → Int32) × (Nat → Int32) × (Nat → Int32) × (Nat → Int32) × (Nat → Int32) × (Nat → Int32) × Int32 × Int32 × Int32 × Int32) → Option (Int32 × (Nat → Int32) × (Nat → Int32) × (Nat → Int32) × (Nat → Int32) × (Nat → Int32) × (Nat → Int32) × (Nat → Int32) × (Nat → Int32) × (Nat → Int32))) : ((Nat → Int32) × (Nat → Int32) × (Nat → Int32) × (Nat → Int32) × (Nat → Int32) × (Nat → Int32) × (Nat → Int32) × (Nat → Int32) × (Nat → Int32) × Int32 × Int32 × Int32 × Int32) → Option (Int32 × (Nat → Int32) × (Nat → Int32) × (Nat → Int32) × (Nat → Int32) × (Nat → Int32) × (Nat → Int32) × (Nat → Int32) × (Nat → Int32) × (Nat → Int32)) :=
  fun (mm_nightOfF_107, mm_mileOfF_107, mm_roundsOfF_107, mm_talkingOfF_107, mm_hushOfF_107, mm_rowOfF_107, mm_keptManyF_107, mm_talkOfF_107, mm_keptRowF_107, x1_107, x2_107, x3_107, x4_107) => (if (x1_107 - 1) ≤ x4_107 then (xq_bd (xq_ald 1800 mm_tapeF (x1_107 - 1)) fun v_9 => (if v_9 = x3_107 then (xq_bd (fX12_copies N mm_nightOfF_107 mm_mileOfF_107 mm_roundsOfF_107 mm_talkingOfF_107 mm_hushOfF_107 mm_rowOfF_107 mm_keptManyF_107 mm_talkOfF_107 mm_keptRowF_107 1 0) fun (r_10_0, r_10_1, r_10_2, r_10_3, r_10_4, r_10_5, r_10_6, r_10_7, r_10_8) => (xq_bd (fX12_twoAt N mm_tapeF 0) fun r_12 => (xq_bd (xq_ast 22 r_10_0 1 r_12) fun g_14 => (xq_bd (fX12_twoAt N mm_tapeF 2) fun r_15 => (xq_bd (xq_ast 22 r_10_1 1 r_15) fun g_17 => (xq_bd (fX12_twoAt N mm_tapeF 4) fun r_18 => (xq_bd (xq_ast 22 r_10_2 1 r_18) fun g_20 => (xq_bd (xq_ald 1800 mm_tapeF 6) fun v_21 => (xq_bd (xq_ast 22 r_10_3 1 v_21) fun g_22 => (xq_bd (xq_ald 1800 mm_tapeF 7) fun v_23 => (xq_bd (xq_ast 22 r_10_4 1 v_23) fun g_24 => (xq_bd (xq_ast 22 r_10_6 1 0) fun g_25 => xq_loop (fX12_comesOn_l226 N mmI mm_earsF mm_placesF mm_tapeF mm_milesToldF) N (g_14, g_17, g_20, g_22, g_24, r_10_5, g_25, r_10_7, r_10_8, x2_107, 0))))))))))))) else some ((0, mm_nightOfF_107, mm_mileOfF_107, mm_roundsOfF_107, mm_talkingOfF_107, mm_hushOfF_107, mm_rowOfF_107, mm_keptManyF_107, mm_talkOfF_107, mm_keptRowF_107)))) else (xq_bd (xq_ald 1800 mm_tapeF x4_107) fun v_26 => (xq_bd (xq_rm ((5 * x3_107) + v_26) 251) fun v_27 => k107 (mm_nightOfF_107, mm_mileOfF_107, mm_roundsOfF_107, mm_talkingOfF_107, mm_hushOfF_107, mm_rowOfF_107, mm_keptManyF_107, mm_talkOfF_107, mm_keptRowF_107, x1_107, x2_107, v_27, x4_107 + 1))))
def fX12_comesOn (N : Nat) (mmI : Nat → Int32) (mm_earsF : Nat → Int32) (mm_placesF : Nat → Int32) (mm_tapeF : Nat → Int32) (mm_milesToldF : Nat → Int32) (mm_nightOfF : Nat → Int32) (mm_mileOfF : Nat → Int32) (mm_roundsOfF : Nat → Int32) (mm_talkingOfF : Nat → Int32) (mm_hushOfF : Nat → Int32) (mm_rowOfF : Nat → Int32) (mm_keptManyF : Nat → Int32) (mm_talkOfF : Nat → Int32) (mm_keptRowF : Nat → Int32)  (p1 : Int32) : Option (Int32 × (Nat → Int32) × (Nat → Int32) × (Nat → Int32) × (Nat → Int32) × (Nat → Int32) × (Nat → Int32) × (Nat → Int32) × (Nat → Int32) × (Nat → Int32)) :=
  (xq_bd (xq_ald 2 mm_earsF (mmI 13)) fun v_1 => (xq_bd (xq_ald 2 mm_placesF (mmI 13)) fun v_2 => (if (mmI 43) = 0 then some ((0, mm_nightOfF, mm_mileOfF, mm_roundsOfF, mm_talkingOfF, mm_hushOfF, mm_rowOfF, mm_keptManyF, mm_talkOfF, mm_keptRowF)) else (if p1 = (9 + (v_1 + v_2)) then (xq_bd (fX12_twoAt N mm_tapeF 0) fun r_3 => (if 999 < r_3 then some ((0, mm_nightOfF, mm_mileOfF, mm_roundsOfF, mm_talkingOfF, mm_hushOfF, mm_rowOfF, mm_keptManyF, mm_talkOfF, mm_keptRowF)) else (xq_bd (fX12_twoAt N mm_tapeF 2) fun r_5 => (xq_bd (xq_ald 2 mm_milesToldF (mmI 13)) fun v_7 => (if v_7 ≤ r_5 then some ((0, mm_nightOfF, mm_mileOfF, mm_roundsOfF, mm_talkingOfF, mm_hushOfF, mm_rowOfF, mm_keptManyF, mm_talkOfF, mm_keptRowF)) else (xq_bd (fX12_twoAt N mm_tapeF 4) fun r_8 => (if 999 < r_8 then some ((0, mm_nightOfF, mm_mileOfF, mm_roundsOfF, mm_talkingOfF, mm_hushOfF, mm_rowOfF, mm_keptManyF, mm_talkOfF, mm_keptRowF)) else (xq_bd (xq_ald 1800 mm_tapeF 6) fun v_10 => (if 20 < v_10 then some ((0, mm_nightOfF, mm_mileOfF, mm_roundsOfF, mm_talkingOfF, mm_hushOfF, mm_rowOfF, mm_keptManyF, mm_talkOfF, mm_keptRowF)) else (xq_bd (xq_ald 1800 mm_tapeF 7) fun v_11 => (if v_11 ≤ 9 then xq_loop (fX12_comesOn_l107 N mmI mm_earsF mm_placesF mm_tapeF mm_milesToldF) N (mm_nightOfF, mm_mileOfF, mm_roundsOfF, mm_talkingOfF, mm_hushOfF, mm_rowOfF, mm_keptManyF, mm_talkOfF, mm_keptRowF, p1, v_1 + v_2, 239, 0) else some ((0, mm_nightOfF, mm_mileOfF, mm_roundsOfF, mm_talkingOfF, mm_hushOfF, mm_rowOfF, mm_keptManyF, mm_talkOfF, mm_keptRowF))))))))))))) else some ((0, mm_nightOfF, mm_mileOfF, mm_roundsOfF, mm_talkingOfF, mm_hushOfF, mm_rowOfF, mm_keptManyF, mm_talkOfF, mm_keptRowF))))))
set_option maxHeartbeats 4000000 in
set_option maxRecDepth 100000 in
theorem kX12_comesOn (l : Launch) (dC : Nat → ClassId) (dI : Nat → Nat → Nat) (cI cB cJ cZ cM : ClassId) (z : Nat) (ad : Nat → Nat) (N : Nat) (a_p0 : Nat) (mmI : Nat → Int32) (mmJ : Nat → Int64) (mmR : Nat → Nat) (mm_earsF : Nat → Int32) (mm_placesF : Nat → Int32) (mm_tapeF : Nat → Int32) (mm_milesToldF : Nat → Int32) (mm_nightOfF : Nat → Int32) (mm_mileOfF : Nat → Int32) (mm_roundsOfF : Nat → Int32) (mm_talkingOfF : Nat → Int32) (mm_hushOfF : Nat → Int32) (mm_rowOfF : Nat → Int32) (mm_keptManyF : Nat → Int32) (mm_talkOfF : Nat → Int32) (mm_keptRowF : Nat → Int32) (p1 : Int32) {r0 : Int32} {r1 : Nat → Int32} {r2 : Nat → Int32} {r3 : Nat → Int32} {r4 : Nat → Int32} {r5 : Nat → Int32} {r6 : Nat → Int32} {r7 : Nat → Int32} {r8 : Nat → Int32} {r9 : Nat → Int32} (hf : fX12_comesOn N mmI mm_earsF mm_placesF mm_tapeF mm_milesToldF mm_nightOfF mm_mileOfF mm_roundsOfF mm_talkingOfF mm_hushOfF mm_rowOfF mm_keptManyF mm_talkOfF mm_keptRowF p1 = some (r0, r1, r2, r3, r4, r5, r6, r7, r8, r9)) : xq_Ct l yX12_comesOn wsX12_comesOn { frames := 1, cells := 0, slots := 0, locals := 23 } (dC, dI) vwCl (xq_tys cI cB cJ cZ cM) z ad [.ref a_p0, .int p1] [(a_p0, .inr (12, oX12 mmI mmJ mmR)), ((mmR 18), .inl (cI, 2, .inl mm_earsF)), ((mmR 21), .inl (cI, 2, .inl mm_placesF)), ((mmR 0), .inl (cI, 1800, .inl mm_tapeF)), ((mmR 14), .inl (cI, 2, .inl mm_milesToldF)), ((mmR 45), .inl (cI, 22, .inl mm_nightOfF)), ((mmR 46), .inl (cI, 22, .inl mm_mileOfF)), ((mmR 47), .inl (cI, 22, .inl mm_roundsOfF)), ((mmR 48), .inl (cI, 22, .inl mm_talkingOfF)), ((mmR 49), .inl (cI, 22, .inl mm_hushOfF)), ((mmR 50), .inl (cI, 154, .inl mm_rowOfF)), ((mmR 52), .inl (cI, 22, .inl mm_keptManyF)), ((mmR 51), .inl (cI, 132, .inl mm_talkOfF)), ((mmR 53), .inl (cI, 2640, .inl mm_keptRowF))] [(a_p0, .inr (12, oX12 mmI mmJ mmR)), ((mmR 18), .inl (cI, 2, .inl mm_earsF)), ((mmR 21), .inl (cI, 2, .inl mm_placesF)), ((mmR 0), .inl (cI, 1800, .inl mm_tapeF)), ((mmR 14), .inl (cI, 2, .inl mm_milesToldF)), ((mmR 45), .inl (cI, 22, .inl r1)), ((mmR 46), .inl (cI, 22, .inl r2)), ((mmR 47), .inl (cI, 22, .inl r3)), ((mmR 48), .inl (cI, 22, .inl r4)), ((mmR 49), .inl (cI, 22, .inl r5)), ((mmR 50), .inl (cI, 154, .inl r6)), ((mmR 52), .inl (cI, 22, .inl r7)), ((mmR 51), .inl (cI, 132, .inl r8)), ((mmR 53), .inl (cI, 2640, .inl r9))] (some (.int r0)) := by
  intro sz
  refine Met.ofW (cc := cX12_comesOn) (maxL := 5) (ret := (some .boolean)) (by decide) rfl ?_
  intro p e s m args below meth c s₁ B hml hv
  obtain ⟨rfl, hsz, hP, hK, hD0, hE, hz⟩ := hv
  have hx := B.exec
  have hb := B.bytes
  have hr := B.returns
  have hts := atoms_spec (ws := wsX12_comesOn) B.pre
  have hown : s.vm.findClass RX12 = some m.cls := findClass_of_methodNamed B.named
  have hlocks := B.notSynchronized
  subst hsz
  have hD := hD0.self (sz := s.heap.size)
  have hN := xq_Env.of hE hz hD0
  generalize hAe : va_A [(a_p0, .inr (12, oX12 mmI mmJ mmR)), ((mmR 18), .inl (cI, 2, .inl mm_earsF)), ((mmR 21), .inl (cI, 2, .inl mm_placesF)), ((mmR 0), .inl (cI, 1800, .inl mm_tapeF)), ((mmR 14), .inl (cI, 2, .inl mm_milesToldF)), ((mmR 45), .inl (cI, 22, .inl mm_nightOfF)), ((mmR 46), .inl (cI, 22, .inl mm_mileOfF)), ((mmR 47), .inl (cI, 22, .inl mm_roundsOfF)), ((mmR 48), .inl (cI, 22, .inl mm_talkingOfF)), ((mmR 49), .inl (cI, 22, .inl mm_hushOfF)), ((mmR 50), .inl (cI, 154, .inl mm_rowOfF)), ((mmR 52), .inl (cI, 22, .inl mm_keptManyF)), ((mmR 51), .inl (cI, 132, .inl mm_talkOfF)), ((mmR 53), .inl (cI, 2640, .inl mm_keptRowF))] s.heap.size = A at hD hN ⊢
  have hA : ∀ q : Nat, s.heap.size ≤ q → A q := fun q h => by rw [← hAe]; exact Or.inr h
  clear hAe hD0
  have hS : va_S A s.heap s.heap [] := va_S.rf
  have hl := lv_entry ([.ref a_p0, .int p1]) (n := 5) (Nat.le_of_ble_eq_true rfl)
  rw [lg_entry_eq]
  generalize (lg_sl ([.ref a_p0, .int p1]) ++ List.replicate (5 - (lg_sl ([.ref a_p0, .int p1])).length) Slot.unset).toArray = ls at hl ⊢
  have hl : lv_has ls 5 [(0, .ref a_p0), (1, .int p1)] := hl
  have hw0 := hts (.fieldLink RX12 66 "DistantVoiceModel" "ears" "[I") (by decide +kernel)
  have hinX12 : ∀ w ∈ wsX120, w ∈ wsX12_comesOn := fun w h => List.mem_cons_of_mem _ (List.mem_append_right _ h)
  have hw2 := hts (.fieldLink RX12 51 "DistantVoiceModel" "bank" "I") (by decide +kernel)
  have hw3 := hts (.fieldLink RX12 75 "DistantVoiceModel" "places" "[I") (by decide +kernel)
  have hw4 := hts (.fieldLink RX12 144 "DistantVoiceModel" "isHouse" "Z") (by decide +kernel)
  have hw5 := hts (.fieldLink RX12 54 "DistantVoiceModel" "milesTold" "[I") (by decide +kernel)
  have hw6 := hts (.fieldLink RX12 7 "DistantVoiceModel" "tape" "[I") (by decide +kernel)
  have hw7 := hts (.fieldLink RX12 150 "DistantVoiceModel" "nightOf" "[I") (by decide +kernel)
  have hw8 := hts (.fieldLink RX12 153 "DistantVoiceModel" "mileOf" "[I") (by decide +kernel)
  have hw9 := hts (.fieldLink RX12 156 "DistantVoiceModel" "roundsOf" "[I") (by decide +kernel)
  have hw10 := hts (.fieldLink RX12 159 "DistantVoiceModel" "talkingOf" "[I") (by decide +kernel)
  have hw11 := hts (.fieldLink RX12 162 "DistantVoiceModel" "hushOf" "[I") (by decide +kernel)
  have hw12 := hts (.fieldLink RX12 171 "DistantVoiceModel" "keptMany" "[I") (by decide +kernel)
  have hw13 := hts (.fieldLink RX12 165 "DistantVoiceModel" "rowOf" "[I") (by decide +kernel)
  have hw14 := hts (.fieldLink RX12 168 "DistantVoiceModel" "talkOf" "[I") (by decide +kernel)
  have l301 : ∀ n301 : Nat, ∀ (mm_nightOfF_301 : Nat → Int32) (mm_mileOfF_301 : Nat → Int32) (mm_roundsOfF_301 : Nat → Int32) (mm_talkingOfF_301 : Nat → Int32) (mm_hushOfF_301 : Nat → Int32) (mm_rowOfF_301 : Nat → Int32) (mm_keptManyF_301 : Nat → Int32) (mm_talkOfF_301 : Nat → Int32) (mm_keptRowF_301 : Nat → Int32) (x4_301 : Int32) (ls : Array Slot) (H : Heap) (locs : List Loc), xq_loop (fX12_comesOn_l301 N mmI mm_earsF mm_placesF mm_tapeF mm_milesToldF) n301 (mm_nightOfF_301, mm_mileOfF_301, mm_roundsOfF_301, mm_talkingOfF_301, mm_hushOfF_301, mm_rowOfF_301, mm_keptManyF_301, mm_talkOfF_301, mm_keptRowF_301, x4_301) = some (r0, r1, r2, r3, r4, r5, r6, r7, r8, r9) → va_P (dC, dI) vwCl [(a_p0, .inr (12, oX12 mmI mmJ mmR)), ((mmR 18), .inl (cI, 2, .inl mm_earsF)), ((mmR 21), .inl (cI, 2, .inl mm_placesF)), ((mmR 0), .inl (cI, 1800, .inl mm_tapeF)), ((mmR 14), .inl (cI, 2, .inl mm_milesToldF)), ((mmR 45), .inl (cI, 22, .inl mm_nightOfF_301)), ((mmR 46), .inl (cI, 22, .inl mm_mileOfF_301)), ((mmR 47), .inl (cI, 22, .inl mm_roundsOfF_301)), ((mmR 48), .inl (cI, 22, .inl mm_talkingOfF_301)), ((mmR 49), .inl (cI, 22, .inl mm_hushOfF_301)), ((mmR 50), .inl (cI, 154, .inl mm_rowOfF_301)), ((mmR 52), .inl (cI, 22, .inl mm_keptManyF_301)), ((mmR 51), .inl (cI, 132, .inl mm_talkOfF_301)), ((mmR 53), .inl (cI, 2640, .inl mm_keptRowF_301))] H → va_D A [(a_p0, .inr (12, oX12 mmI mmJ mmR)), ((mmR 18), .inl (cI, 2, .inl mm_earsF)), ((mmR 21), .inl (cI, 2, .inl mm_placesF)), ((mmR 0), .inl (cI, 1800, .inl mm_tapeF)), ((mmR 14), .inl (cI, 2, .inl mm_milesToldF)), ((mmR 45), .inl (cI, 22, .inl mm_nightOfF_301)), ((mmR 46), .inl (cI, 22, .inl mm_mileOfF_301)), ((mmR 47), .inl (cI, 22, .inl mm_roundsOfF_301)), ((mmR 48), .inl (cI, 22, .inl mm_talkingOfF_301)), ((mmR 49), .inl (cI, 22, .inl mm_hushOfF_301)), ((mmR 50), .inl (cI, 154, .inl mm_rowOfF_301)), ((mmR 52), .inl (cI, 22, .inl mm_keptManyF_301)), ((mmR 51), .inl (cI, 132, .inl mm_talkOfF_301)), ((mmR 53), .inl (cI, 2640, .inl mm_keptRowF_301))] → va_S A s.heap H locs → lv_has ls 5 [(0, .ref a_p0), (4, .int x4_301)] → W p l e (headSpec wsX12_comesOn { frames := 1, cells := 0, slots := 0, locals := 23 }).room s m [.ref a_p0, .int p1].toArray below meth c H locs 0 0 (MQ below (xq_Q (dC, dI) vwCl (xq_tys cI cB cJ cZ cM) A [(a_p0, .inr (12, oX12 mmI mmJ mmR)), ((mmR 18), .inl (cI, 2, .inl mm_earsF)), ((mmR 21), .inl (cI, 2, .inl mm_placesF)), ((mmR 0), .inl (cI, 1800, .inl mm_tapeF)), ((mmR 14), .inl (cI, 2, .inl mm_milesToldF)), ((mmR 45), .inl (cI, 22, .inl r1)), ((mmR 46), .inl (cI, 22, .inl r2)), ((mmR 47), .inl (cI, 22, .inl r3)), ((mmR 48), .inl (cI, 22, .inl r4)), ((mmR 49), .inl (cI, 22, .inl r5)), ((mmR 50), .inl (cI, 154, .inl r6)), ((mmR 52), .inl (cI, 22, .inl r7)), ((mmR 51), .inl (cI, 132, .inl r8)), ((mmR 53), .inl (cI, 2640, .inl r9))] (some (.int r0))) [.ref a_p0, .int p1].toArray s 0 0 A) (F0 m 301 ls []) := by
    intro n301
    induction n301 with
    | zero => intro mm_nightOfF_301 mm_mileOfF_301 mm_roundsOfF_301 mm_talkingOfF_301 mm_hushOfF_301 mm_rowOfF_301 mm_keptManyF_301 mm_talkOfF_301 mm_keptRowF_301 x4_301 ls H locs hf; cases (show none = some (r0, r1, r2, r3, r4, r5, r6, r7, r8, r9) from hf)
    | succ n301 ih301 =>
      intro mm_nightOfF_301 mm_mileOfF_301 mm_roundsOfF_301 mm_talkingOfF_301 mm_hushOfF_301 mm_rowOfF_301 mm_keptManyF_301 mm_talkOfF_301 mm_keptRowF_301 x4_301 ls H locs hf hP hD hS hl
      have hf : fX12_comesOn_l301 N mmI mm_earsF mm_placesF mm_tapeF mm_milesToldF (xq_loop (fX12_comesOn_l301 N mmI mm_earsF mm_placesF mm_tapeF mm_milesToldF) n301) (mm_nightOfF_301, mm_mileOfF_301, mm_roundsOfF_301, mm_talkingOfF_301, mm_hushOfF_301, mm_rowOfF_301, mm_keptManyF_301, mm_talkOfF_301, mm_keptRowF_301, x4_301) = some (r0, r1, r2, r3, r4, r5, r6, r7, r8, r9) := hf
      unfold fX12_comesOn_l301 at hf
      refine lv_iload hx hb dX12_comesOn_301 (lv_at hl 1 rfl) ?_
      refine lv_aload_n hx hb dX12_comesOn_303 rfl (lv_at hl 0 rfl) ?_
      refine va_get (D := (dC, dI)) (ci := 12) (v := .ref ((mmR 21))) (C := RX12) (T := TX12) (N := 70) hx hb hts hinX12 hown hK hP 0 rfl rfl 21 (by decide) hw3 (fun _ h9 => h9) rfl dX12_comesOn_304 ?_
      refine lv_aload_n hx hb dX12_comesOn_307 rfl (lv_at hl 0 rfl) ?_
      refine va_get (D := (dC, dI)) (ci := 12) (v := .int (mmI 13)) (C := RX12) (T := TX12) (N := 70) hx hb hts hinX12 hown hK hP 0 rfl rfl 13 (by decide) hw2 (fun _ h9 => h9) rfl dX12_comesOn_308 ?_
      refine xq_iald hx hb hK hP 2 0 rfl rfl hf dX12_comesOn_311 (fun v_1 hf => ?_)
      refine lv_icmp_ge (tgt := 351) hx hb dX12_comesOn_312 (by decide) (fun c_ => ?_) (fun c_ => ?_)
      · have hf := xq_pos hf c_
        refine lv_iconst (v := 1) hx hb dX12_comesOn_351 (by decide) ?_
        have e9 := Option.some.inj hf
        have e9_0 : 1 = r0 := congrArg (fun t => t.1) e9
        have e9_1 : mm_nightOfF_301 = r1 := congrArg (fun t => t.2.1) e9
        have e9_2 : mm_mileOfF_301 = r2 := congrArg (fun t => t.2.2.1) e9
        have e9_3 : mm_roundsOfF_301 = r3 := congrArg (fun t => t.2.2.2.1) e9
        have e9_4 : mm_talkingOfF_301 = r4 := congrArg (fun t => t.2.2.2.2.1) e9
        have e9_5 : mm_hushOfF_301 = r5 := congrArg (fun t => t.2.2.2.2.2.1) e9
        have e9_6 : mm_rowOfF_301 = r6 := congrArg (fun t => t.2.2.2.2.2.2.1) e9
        have e9_7 : mm_keptManyF_301 = r7 := congrArg (fun t => t.2.2.2.2.2.2.2.1) e9
        have e9_8 : mm_talkOfF_301 = r8 := congrArg (fun t => t.2.2.2.2.2.2.2.2.1) e9
        have e9_9 : mm_keptRowF_301 = r9 := congrArg (fun t => t.2.2.2.2.2.2.2.2.2) e9
        clear e9 hf
        try clear l107
        try clear l226
        try clear l258
        try clear l301
        try clear ih107
        try clear ih226
        try clear ih258
        try clear ih301
        subst e9_0
        subst e9_1
        subst e9_2
        subst e9_3
        subst e9_4
        subst e9_5
        subst e9_6
        subst e9_7
        subst e9_8
        subst e9_9
        exact xq_zret hx hb hr (by decide +kernel) hlocks hK hP hD hS dX12_comesOn_352
      · have hf := xq_neg hf c_
        refine lv_aload_n hx hb dX12_comesOn_315 rfl (lv_at hl 0 rfl) ?_
        refine va_get (D := (dC, dI)) (ci := 12) (v := .ref ((mmR 51))) (C := RX12) (T := TX12) (N := 70) hx hb hts hinX12 hown hK hP 0 rfl rfl 51 (by decide) hw14 (fun _ h9 => h9) rfl dX12_comesOn_316 ?_
        refine lv_bipush (v := 6) hx hb dX12_comesOn_319 (by decide) ?_
        refine lv_iload hx hb dX12_comesOn_321 (lv_at hl 1 rfl) ?_
        refine lv_iadd hx hb dX12_comesOn_323 ?_
        refine lv_aload_n hx hb dX12_comesOn_324 rfl (lv_at hl 0 rfl) ?_
        refine va_get (D := (dC, dI)) (ci := 12) (v := .ref ((mmR 0))) (C := RX12) (T := TX12) (N := 70) hx hb hts hinX12 hown hK hP 0 rfl rfl 0 (by decide) hw6 (fun _ h9 => h9) rfl dX12_comesOn_325 ?_
        refine lv_bipush (v := 8) hx hb dX12_comesOn_328 (by decide) ?_
        refine lv_aload_n hx hb dX12_comesOn_330 rfl (lv_at hl 0 rfl) ?_
        refine va_get (D := (dC, dI)) (ci := 12) (v := .ref ((mmR 18))) (C := RX12) (T := TX12) (N := 70) hx hb hts hinX12 hown hK hP 0 rfl rfl 18 (by decide) hw0 (fun _ h9 => h9) rfl dX12_comesOn_331 ?_
        refine lv_aload_n hx hb dX12_comesOn_334 rfl (lv_at hl 0 rfl) ?_
        refine va_get (D := (dC, dI)) (ci := 12) (v := .int (mmI 13)) (C := RX12) (T := TX12) (N := 70) hx hb hts hinX12 hown hK hP 0 rfl rfl 13 (by decide) hw2 (fun _ h9 => h9) rfl dX12_comesOn_335 ?_
        refine xq_iald hx hb hK hP 1 0 rfl rfl hf dX12_comesOn_338 (fun v_2 hf => ?_)
        refine lv_iadd hx hb dX12_comesOn_339 ?_
        refine lv_iload hx hb dX12_comesOn_340 (lv_at hl 1 rfl) ?_
        refine lv_iadd hx hb dX12_comesOn_342 ?_
        refine xq_iald hx hb hK hP 3 0 rfl rfl hf dX12_comesOn_343 (fun v_3 hf => ?_)
        refine xq_iast hx hb hK hP hD hS 12 0 rfl rfl hf dX12_comesOn_344 (fun g_4 H locs hf hP hD hS => ?_)
        have hP : va_P (dC, dI) vwCl [(a_p0, .inr (12, oX12 mmI mmJ mmR)), ((mmR 18), .inl (cI, 2, .inl mm_earsF)), ((mmR 21), .inl (cI, 2, .inl mm_placesF)), ((mmR 0), .inl (cI, 1800, .inl mm_tapeF)), ((mmR 14), .inl (cI, 2, .inl mm_milesToldF)), ((mmR 45), .inl (cI, 22, .inl mm_nightOfF_301)), ((mmR 46), .inl (cI, 22, .inl mm_mileOfF_301)), ((mmR 47), .inl (cI, 22, .inl mm_roundsOfF_301)), ((mmR 48), .inl (cI, 22, .inl mm_talkingOfF_301)), ((mmR 49), .inl (cI, 22, .inl mm_hushOfF_301)), ((mmR 50), .inl (cI, 154, .inl mm_rowOfF_301)), ((mmR 52), .inl (cI, 22, .inl mm_keptManyF_301)), ((mmR 51), .inl (cI, 132, .inl g_4)), ((mmR 53), .inl (cI, 2640, .inl mm_keptRowF_301))] H := hP
        have hD : va_D A [(a_p0, .inr (12, oX12 mmI mmJ mmR)), ((mmR 18), .inl (cI, 2, .inl mm_earsF)), ((mmR 21), .inl (cI, 2, .inl mm_placesF)), ((mmR 0), .inl (cI, 1800, .inl mm_tapeF)), ((mmR 14), .inl (cI, 2, .inl mm_milesToldF)), ((mmR 45), .inl (cI, 22, .inl mm_nightOfF_301)), ((mmR 46), .inl (cI, 22, .inl mm_mileOfF_301)), ((mmR 47), .inl (cI, 22, .inl mm_roundsOfF_301)), ((mmR 48), .inl (cI, 22, .inl mm_talkingOfF_301)), ((mmR 49), .inl (cI, 22, .inl mm_hushOfF_301)), ((mmR 50), .inl (cI, 154, .inl mm_rowOfF_301)), ((mmR 52), .inl (cI, 22, .inl mm_keptManyF_301)), ((mmR 51), .inl (cI, 132, .inl g_4)), ((mmR 53), .inl (cI, 2640, .inl mm_keptRowF_301))] := hD
        refine lv_iinc (v := x4_301 + 1) (lv' := [(4, .int (x4_301 + 1)), (0, .ref a_p0)]) hx hb dX12_comesOn_345 hl (k := 1) rfl (congrArg (fun q9 => x4_301 + q9) (by decide : Int32.ofInt 1 = 1)) (by decide) rfl (fun ls hl => ?_)
        refine lv_goto (tgt := 301) hx hb dX12_comesOn_348 (by decide) ?_
        exact ih301 mm_nightOfF_301 mm_mileOfF_301 mm_roundsOfF_301 mm_talkingOfF_301 mm_hushOfF_301 mm_rowOfF_301 mm_keptManyF_301 g_4 mm_keptRowF_301 (x4_301 + 1) _ _ _ hf hP hD hS (lv_sub hl [1, 0] rfl)
  have l258 : ∀ n258 : Nat, ∀ (mm_nightOfF_258 : Nat → Int32) (mm_mileOfF_258 : Nat → Int32) (mm_roundsOfF_258 : Nat → Int32) (mm_talkingOfF_258 : Nat → Int32) (mm_hushOfF_258 : Nat → Int32) (mm_rowOfF_258 : Nat → Int32) (mm_keptManyF_258 : Nat → Int32) (mm_talkOfF_258 : Nat → Int32) (mm_keptRowF_258 : Nat → Int32) (x4_258 : Int32) (ls : Array Slot) (H : Heap) (locs : List Loc), xq_loop (fX12_comesOn_l258 N mmI mm_earsF mm_placesF mm_tapeF mm_milesToldF) n258 (mm_nightOfF_258, mm_mileOfF_258, mm_roundsOfF_258, mm_talkingOfF_258, mm_hushOfF_258, mm_rowOfF_258, mm_keptManyF_258, mm_talkOfF_258, mm_keptRowF_258, x4_258) = some (r0, r1, r2, r3, r4, r5, r6, r7, r8, r9) → va_P (dC, dI) vwCl [(a_p0, .inr (12, oX12 mmI mmJ mmR)), ((mmR 18), .inl (cI, 2, .inl mm_earsF)), ((mmR 21), .inl (cI, 2, .inl mm_placesF)), ((mmR 0), .inl (cI, 1800, .inl mm_tapeF)), ((mmR 14), .inl (cI, 2, .inl mm_milesToldF)), ((mmR 45), .inl (cI, 22, .inl mm_nightOfF_258)), ((mmR 46), .inl (cI, 22, .inl mm_mileOfF_258)), ((mmR 47), .inl (cI, 22, .inl mm_roundsOfF_258)), ((mmR 48), .inl (cI, 22, .inl mm_talkingOfF_258)), ((mmR 49), .inl (cI, 22, .inl mm_hushOfF_258)), ((mmR 50), .inl (cI, 154, .inl mm_rowOfF_258)), ((mmR 52), .inl (cI, 22, .inl mm_keptManyF_258)), ((mmR 51), .inl (cI, 132, .inl mm_talkOfF_258)), ((mmR 53), .inl (cI, 2640, .inl mm_keptRowF_258))] H → va_D A [(a_p0, .inr (12, oX12 mmI mmJ mmR)), ((mmR 18), .inl (cI, 2, .inl mm_earsF)), ((mmR 21), .inl (cI, 2, .inl mm_placesF)), ((mmR 0), .inl (cI, 1800, .inl mm_tapeF)), ((mmR 14), .inl (cI, 2, .inl mm_milesToldF)), ((mmR 45), .inl (cI, 22, .inl mm_nightOfF_258)), ((mmR 46), .inl (cI, 22, .inl mm_mileOfF_258)), ((mmR 47), .inl (cI, 22, .inl mm_roundsOfF_258)), ((mmR 48), .inl (cI, 22, .inl mm_talkingOfF_258)), ((mmR 49), .inl (cI, 22, .inl mm_hushOfF_258)), ((mmR 50), .inl (cI, 154, .inl mm_rowOfF_258)), ((mmR 52), .inl (cI, 22, .inl mm_keptManyF_258)), ((mmR 51), .inl (cI, 132, .inl mm_talkOfF_258)), ((mmR 53), .inl (cI, 2640, .inl mm_keptRowF_258))] → va_S A s.heap H locs → lv_has ls 5 [(0, .ref a_p0), (4, .int x4_258)] → W p l e (headSpec wsX12_comesOn { frames := 1, cells := 0, slots := 0, locals := 23 }).room s m [.ref a_p0, .int p1].toArray below meth c H locs 0 0 (MQ below (xq_Q (dC, dI) vwCl (xq_tys cI cB cJ cZ cM) A [(a_p0, .inr (12, oX12 mmI mmJ mmR)), ((mmR 18), .inl (cI, 2, .inl mm_earsF)), ((mmR 21), .inl (cI, 2, .inl mm_placesF)), ((mmR 0), .inl (cI, 1800, .inl mm_tapeF)), ((mmR 14), .inl (cI, 2, .inl mm_milesToldF)), ((mmR 45), .inl (cI, 22, .inl r1)), ((mmR 46), .inl (cI, 22, .inl r2)), ((mmR 47), .inl (cI, 22, .inl r3)), ((mmR 48), .inl (cI, 22, .inl r4)), ((mmR 49), .inl (cI, 22, .inl r5)), ((mmR 50), .inl (cI, 154, .inl r6)), ((mmR 52), .inl (cI, 22, .inl r7)), ((mmR 51), .inl (cI, 132, .inl r8)), ((mmR 53), .inl (cI, 2640, .inl r9))] (some (.int r0))) [.ref a_p0, .int p1].toArray s 0 0 A) (F0 m 258 ls []) := by
    intro n258
    induction n258 with
    | zero => intro mm_nightOfF_258 mm_mileOfF_258 mm_roundsOfF_258 mm_talkingOfF_258 mm_hushOfF_258 mm_rowOfF_258 mm_keptManyF_258 mm_talkOfF_258 mm_keptRowF_258 x4_258 ls H locs hf; cases (show none = some (r0, r1, r2, r3, r4, r5, r6, r7, r8, r9) from hf)
    | succ n258 ih258 =>
      intro mm_nightOfF_258 mm_mileOfF_258 mm_roundsOfF_258 mm_talkingOfF_258 mm_hushOfF_258 mm_rowOfF_258 mm_keptManyF_258 mm_talkOfF_258 mm_keptRowF_258 x4_258 ls H locs hf hP hD hS hl
      have hf : fX12_comesOn_l258 N mmI mm_earsF mm_placesF mm_tapeF mm_milesToldF (xq_loop (fX12_comesOn_l258 N mmI mm_earsF mm_placesF mm_tapeF mm_milesToldF) n258) (mm_nightOfF_258, mm_mileOfF_258, mm_roundsOfF_258, mm_talkingOfF_258, mm_hushOfF_258, mm_rowOfF_258, mm_keptManyF_258, mm_talkOfF_258, mm_keptRowF_258, x4_258) = some (r0, r1, r2, r3, r4, r5, r6, r7, r8, r9) := hf
      unfold fX12_comesOn_l258 at hf
      refine lv_iload hx hb dX12_comesOn_258 (lv_at hl 1 rfl) ?_
      refine lv_aload_n hx hb dX12_comesOn_260 rfl (lv_at hl 0 rfl) ?_
      refine va_get (D := (dC, dI)) (ci := 12) (v := .ref ((mmR 18))) (C := RX12) (T := TX12) (N := 70) hx hb hts hinX12 hown hK hP 0 rfl rfl 18 (by decide) hw0 (fun _ h9 => h9) rfl dX12_comesOn_261 ?_
      refine lv_aload_n hx hb dX12_comesOn_264 rfl (lv_at hl 0 rfl) ?_
      refine va_get (D := (dC, dI)) (ci := 12) (v := .int (mmI 13)) (C := RX12) (T := TX12) (N := 70) hx hb hts hinX12 hown hK hP 0 rfl rfl 13 (by decide) hw2 (fun _ h9 => h9) rfl dX12_comesOn_265 ?_
      refine xq_iald hx hb hK hP 1 0 rfl rfl hf dX12_comesOn_268 (fun v_1 hf => ?_)
      refine lv_icmp_ge (tgt := 298) hx hb dX12_comesOn_269 (by decide) (fun c_ => ?_) (fun c_ => ?_)
      · have hf := xq_pos hf c_
        refine lv_iconst (v := 0) hx hb dX12_comesOn_298 (by decide) ?_
        refine lv_istore (lv' := [(4, .int 0), (0, .ref a_p0)]) hx hb dX12_comesOn_299 hl (by decide) rfl (fun ls hl => ?_)
        exact l301 N mm_nightOfF_258 mm_mileOfF_258 mm_roundsOfF_258 mm_talkingOfF_258 mm_hushOfF_258 mm_rowOfF_258 mm_keptManyF_258 mm_talkOfF_258 mm_keptRowF_258 0 _ _ _ hf hP hD hS (lv_sub hl [1, 0] rfl)
      · have hf := xq_neg hf c_
        refine lv_aload_n hx hb dX12_comesOn_272 rfl (lv_at hl 0 rfl) ?_
        refine va_get (D := (dC, dI)) (ci := 12) (v := .ref ((mmR 50))) (C := RX12) (T := TX12) (N := 70) hx hb hts hinX12 hown hK hP 0 rfl rfl 50 (by decide) hw13 (fun _ h9 => h9) rfl dX12_comesOn_273 ?_
        refine lv_bipush (v := 7) hx hb dX12_comesOn_276 (by decide) ?_
        refine lv_iload hx hb dX12_comesOn_278 (lv_at hl 1 rfl) ?_
        refine lv_iadd hx hb dX12_comesOn_280 ?_
        refine lv_aload_n hx hb dX12_comesOn_281 rfl (lv_at hl 0 rfl) ?_
        refine va_get (D := (dC, dI)) (ci := 12) (v := .ref ((mmR 0))) (C := RX12) (T := TX12) (N := 70) hx hb hts hinX12 hown hK hP 0 rfl rfl 0 (by decide) hw6 (fun _ h9 => h9) rfl dX12_comesOn_282 ?_
        refine lv_bipush (v := 8) hx hb dX12_comesOn_285 (by decide) ?_
        refine lv_iload hx hb dX12_comesOn_287 (lv_at hl 1 rfl) ?_
        refine lv_iadd hx hb dX12_comesOn_289 ?_
        refine xq_iald hx hb hK hP 3 0 rfl rfl hf dX12_comesOn_290 (fun v_2 hf => ?_)
        refine xq_iast hx hb hK hP hD hS 10 0 rfl rfl hf dX12_comesOn_291 (fun g_3 H locs hf hP hD hS => ?_)
        have hP : va_P (dC, dI) vwCl [(a_p0, .inr (12, oX12 mmI mmJ mmR)), ((mmR 18), .inl (cI, 2, .inl mm_earsF)), ((mmR 21), .inl (cI, 2, .inl mm_placesF)), ((mmR 0), .inl (cI, 1800, .inl mm_tapeF)), ((mmR 14), .inl (cI, 2, .inl mm_milesToldF)), ((mmR 45), .inl (cI, 22, .inl mm_nightOfF_258)), ((mmR 46), .inl (cI, 22, .inl mm_mileOfF_258)), ((mmR 47), .inl (cI, 22, .inl mm_roundsOfF_258)), ((mmR 48), .inl (cI, 22, .inl mm_talkingOfF_258)), ((mmR 49), .inl (cI, 22, .inl mm_hushOfF_258)), ((mmR 50), .inl (cI, 154, .inl g_3)), ((mmR 52), .inl (cI, 22, .inl mm_keptManyF_258)), ((mmR 51), .inl (cI, 132, .inl mm_talkOfF_258)), ((mmR 53), .inl (cI, 2640, .inl mm_keptRowF_258))] H := hP
        have hD : va_D A [(a_p0, .inr (12, oX12 mmI mmJ mmR)), ((mmR 18), .inl (cI, 2, .inl mm_earsF)), ((mmR 21), .inl (cI, 2, .inl mm_placesF)), ((mmR 0), .inl (cI, 1800, .inl mm_tapeF)), ((mmR 14), .inl (cI, 2, .inl mm_milesToldF)), ((mmR 45), .inl (cI, 22, .inl mm_nightOfF_258)), ((mmR 46), .inl (cI, 22, .inl mm_mileOfF_258)), ((mmR 47), .inl (cI, 22, .inl mm_roundsOfF_258)), ((mmR 48), .inl (cI, 22, .inl mm_talkingOfF_258)), ((mmR 49), .inl (cI, 22, .inl mm_hushOfF_258)), ((mmR 50), .inl (cI, 154, .inl g_3)), ((mmR 52), .inl (cI, 22, .inl mm_keptManyF_258)), ((mmR 51), .inl (cI, 132, .inl mm_talkOfF_258)), ((mmR 53), .inl (cI, 2640, .inl mm_keptRowF_258))] := hD
        refine lv_iinc (v := x4_258 + 1) (lv' := [(4, .int (x4_258 + 1)), (0, .ref a_p0)]) hx hb dX12_comesOn_292 hl (k := 1) rfl (congrArg (fun q9 => x4_258 + q9) (by decide : Int32.ofInt 1 = 1)) (by decide) rfl (fun ls hl => ?_)
        refine lv_goto (tgt := 258) hx hb dX12_comesOn_295 (by decide) ?_
        exact ih258 mm_nightOfF_258 mm_mileOfF_258 mm_roundsOfF_258 mm_talkingOfF_258 mm_hushOfF_258 g_3 mm_keptManyF_258 mm_talkOfF_258 mm_keptRowF_258 (x4_258 + 1) _ _ _ hf hP hD hS (lv_sub hl [1, 0] rfl)
  have l226 : ∀ n226 : Nat, ∀ (mm_nightOfF_226 : Nat → Int32) (mm_mileOfF_226 : Nat → Int32) (mm_roundsOfF_226 : Nat → Int32) (mm_talkingOfF_226 : Nat → Int32) (mm_hushOfF_226 : Nat → Int32) (mm_rowOfF_226 : Nat → Int32) (mm_keptManyF_226 : Nat → Int32) (mm_talkOfF_226 : Nat → Int32) (mm_keptRowF_226 : Nat → Int32) (x2_226 : Int32) (x4_226 : Int32) (ls : Array Slot) (H : Heap) (locs : List Loc), xq_loop (fX12_comesOn_l226 N mmI mm_earsF mm_placesF mm_tapeF mm_milesToldF) n226 (mm_nightOfF_226, mm_mileOfF_226, mm_roundsOfF_226, mm_talkingOfF_226, mm_hushOfF_226, mm_rowOfF_226, mm_keptManyF_226, mm_talkOfF_226, mm_keptRowF_226, x2_226, x4_226) = some (r0, r1, r2, r3, r4, r5, r6, r7, r8, r9) → va_P (dC, dI) vwCl [(a_p0, .inr (12, oX12 mmI mmJ mmR)), ((mmR 18), .inl (cI, 2, .inl mm_earsF)), ((mmR 21), .inl (cI, 2, .inl mm_placesF)), ((mmR 0), .inl (cI, 1800, .inl mm_tapeF)), ((mmR 14), .inl (cI, 2, .inl mm_milesToldF)), ((mmR 45), .inl (cI, 22, .inl mm_nightOfF_226)), ((mmR 46), .inl (cI, 22, .inl mm_mileOfF_226)), ((mmR 47), .inl (cI, 22, .inl mm_roundsOfF_226)), ((mmR 48), .inl (cI, 22, .inl mm_talkingOfF_226)), ((mmR 49), .inl (cI, 22, .inl mm_hushOfF_226)), ((mmR 50), .inl (cI, 154, .inl mm_rowOfF_226)), ((mmR 52), .inl (cI, 22, .inl mm_keptManyF_226)), ((mmR 51), .inl (cI, 132, .inl mm_talkOfF_226)), ((mmR 53), .inl (cI, 2640, .inl mm_keptRowF_226))] H → va_D A [(a_p0, .inr (12, oX12 mmI mmJ mmR)), ((mmR 18), .inl (cI, 2, .inl mm_earsF)), ((mmR 21), .inl (cI, 2, .inl mm_placesF)), ((mmR 0), .inl (cI, 1800, .inl mm_tapeF)), ((mmR 14), .inl (cI, 2, .inl mm_milesToldF)), ((mmR 45), .inl (cI, 22, .inl mm_nightOfF_226)), ((mmR 46), .inl (cI, 22, .inl mm_mileOfF_226)), ((mmR 47), .inl (cI, 22, .inl mm_roundsOfF_226)), ((mmR 48), .inl (cI, 22, .inl mm_talkingOfF_226)), ((mmR 49), .inl (cI, 22, .inl mm_hushOfF_226)), ((mmR 50), .inl (cI, 154, .inl mm_rowOfF_226)), ((mmR 52), .inl (cI, 22, .inl mm_keptManyF_226)), ((mmR 51), .inl (cI, 132, .inl mm_talkOfF_226)), ((mmR 53), .inl (cI, 2640, .inl mm_keptRowF_226))] → va_S A s.heap H locs → lv_has ls 5 [(0, .ref a_p0), (2, .int x2_226), (4, .int x4_226)] → W p l e (headSpec wsX12_comesOn { frames := 1, cells := 0, slots := 0, locals := 23 }).room s m [.ref a_p0, .int p1].toArray below meth c H locs 0 0 (MQ below (xq_Q (dC, dI) vwCl (xq_tys cI cB cJ cZ cM) A [(a_p0, .inr (12, oX12 mmI mmJ mmR)), ((mmR 18), .inl (cI, 2, .inl mm_earsF)), ((mmR 21), .inl (cI, 2, .inl mm_placesF)), ((mmR 0), .inl (cI, 1800, .inl mm_tapeF)), ((mmR 14), .inl (cI, 2, .inl mm_milesToldF)), ((mmR 45), .inl (cI, 22, .inl r1)), ((mmR 46), .inl (cI, 22, .inl r2)), ((mmR 47), .inl (cI, 22, .inl r3)), ((mmR 48), .inl (cI, 22, .inl r4)), ((mmR 49), .inl (cI, 22, .inl r5)), ((mmR 50), .inl (cI, 154, .inl r6)), ((mmR 52), .inl (cI, 22, .inl r7)), ((mmR 51), .inl (cI, 132, .inl r8)), ((mmR 53), .inl (cI, 2640, .inl r9))] (some (.int r0))) [.ref a_p0, .int p1].toArray s 0 0 A) (F0 m 226 ls []) := by
    intro n226
    induction n226 with
    | zero => intro mm_nightOfF_226 mm_mileOfF_226 mm_roundsOfF_226 mm_talkingOfF_226 mm_hushOfF_226 mm_rowOfF_226 mm_keptManyF_226 mm_talkOfF_226 mm_keptRowF_226 x2_226 x4_226 ls H locs hf; cases (show none = some (r0, r1, r2, r3, r4, r5, r6, r7, r8, r9) from hf)
    | succ n226 ih226 =>
      intro mm_nightOfF_226 mm_mileOfF_226 mm_roundsOfF_226 mm_talkingOfF_226 mm_hushOfF_226 mm_rowOfF_226 mm_keptManyF_226 mm_talkOfF_226 mm_keptRowF_226 x2_226 x4_226 ls H locs hf hP hD hS hl
      have hf : fX12_comesOn_l226 N mmI mm_earsF mm_placesF mm_tapeF mm_milesToldF (xq_loop (fX12_comesOn_l226 N mmI mm_earsF mm_placesF mm_tapeF mm_milesToldF) n226) (mm_nightOfF_226, mm_mileOfF_226, mm_roundsOfF_226, mm_talkingOfF_226, mm_hushOfF_226, mm_rowOfF_226, mm_keptManyF_226, mm_talkOfF_226, mm_keptRowF_226, x2_226, x4_226) = some (r0, r1, r2, r3, r4, r5, r6, r7, r8, r9) := hf
      unfold fX12_comesOn_l226 at hf
      refine lv_iload hx hb dX12_comesOn_226 (lv_at hl 2 rfl) ?_
      refine lv_iload_n hx hb dX12_comesOn_228 rfl (lv_at hl 1 rfl) ?_
      refine lv_icmp_ge (tgt := 255) hx hb dX12_comesOn_229 (by decide) (fun c_ => ?_) (fun c_ => ?_)
      · have hf := xq_pos hf c_
        refine lv_iconst (v := 0) hx hb dX12_comesOn_255 (by decide) ?_
        refine lv_istore (lv' := [(4, .int 0), (0, .ref a_p0), (2, .int x2_226)]) hx hb dX12_comesOn_256 hl (by decide) rfl (fun ls hl => ?_)
        exact l258 N mm_nightOfF_226 mm_mileOfF_226 mm_roundsOfF_226 mm_talkingOfF_226 mm_hushOfF_226 mm_rowOfF_226 mm_keptManyF_226 mm_talkOfF_226 mm_keptRowF_226 0 _ _ _ hf hP hD hS (lv_sub hl [1, 0] rfl)
      · have hf := xq_neg hf c_
        refine lv_aload_n hx hb dX12_comesOn_232 rfl (lv_at hl 0 rfl) ?_
        refine va_get (D := (dC, dI)) (ci := 12) (v := .ref ((mmR 0))) (C := RX12) (T := TX12) (N := 70) hx hb hts hinX12 hown hK hP 0 rfl rfl 0 (by decide) hw6 (fun _ h9 => h9) rfl dX12_comesOn_233 ?_
        refine lv_bipush (v := 8) hx hb dX12_comesOn_236 (by decide) ?_
        refine lv_iload hx hb dX12_comesOn_238 (lv_at hl 2 rfl) ?_
        refine lv_iadd hx hb dX12_comesOn_240 ?_
        refine xq_iald hx hb hK hP 3 0 rfl rfl hf dX12_comesOn_241 (fun v_1 hf => ?_)
        refine lv_bipush (v := 9) hx hb dX12_comesOn_242 (by decide) ?_
        refine lv_icmp_le (tgt := 249) hx hb dX12_comesOn_244 (by decide) (fun c_ => ?_) (fun c_ => ?_)
        · have hf := xq_pos hf c_
          refine lv_iinc (v := x4_226 + 1) (lv' := [(4, .int (x4_226 + 1)), (0, .ref a_p0), (2, .int x2_226)]) hx hb dX12_comesOn_249 hl (k := 2) rfl (congrArg (fun q9 => x4_226 + q9) (by decide : Int32.ofInt 1 = 1)) (by decide) rfl (fun ls hl => ?_)
          refine lv_goto (tgt := 226) hx hb dX12_comesOn_252 (by decide) ?_
          exact ih226 mm_nightOfF_226 mm_mileOfF_226 mm_roundsOfF_226 mm_talkingOfF_226 mm_hushOfF_226 mm_rowOfF_226 mm_keptManyF_226 mm_talkOfF_226 mm_keptRowF_226 x2_226 (x4_226 + 1) _ _ _ hf hP hD hS (lv_sub hl [1, 2, 0] rfl)
        · have hf := xq_neg hf c_
          refine lv_iconst (v := 0) hx hb dX12_comesOn_247 (by decide) ?_
          have e9 := Option.some.inj hf
          have e9_0 : 0 = r0 := congrArg (fun t => t.1) e9
          have e9_1 : mm_nightOfF_226 = r1 := congrArg (fun t => t.2.1) e9
          have e9_2 : mm_mileOfF_226 = r2 := congrArg (fun t => t.2.2.1) e9
          have e9_3 : mm_roundsOfF_226 = r3 := congrArg (fun t => t.2.2.2.1) e9
          have e9_4 : mm_talkingOfF_226 = r4 := congrArg (fun t => t.2.2.2.2.1) e9
          have e9_5 : mm_hushOfF_226 = r5 := congrArg (fun t => t.2.2.2.2.2.1) e9
          have e9_6 : mm_rowOfF_226 = r6 := congrArg (fun t => t.2.2.2.2.2.2.1) e9
          have e9_7 : mm_keptManyF_226 = r7 := congrArg (fun t => t.2.2.2.2.2.2.2.1) e9
          have e9_8 : mm_talkOfF_226 = r8 := congrArg (fun t => t.2.2.2.2.2.2.2.2.1) e9
          have e9_9 : mm_keptRowF_226 = r9 := congrArg (fun t => t.2.2.2.2.2.2.2.2.2) e9
          clear e9 hf
          try clear l107
          try clear l226
          try clear l258
          try clear l301
          try clear ih107
          try clear ih226
          try clear ih258
          try clear ih301
          subst e9_0
          subst e9_1
          subst e9_2
          subst e9_3
          subst e9_4
          subst e9_5
          subst e9_6
          subst e9_7
          subst e9_8
          subst e9_9
          exact xq_zret hx hb hr (by decide +kernel) hlocks hK hP hD hS dX12_comesOn_248
  have l107 : ∀ n107 : Nat, ∀ (mm_nightOfF_107 : Nat → Int32) (mm_mileOfF_107 : Nat → Int32) (mm_roundsOfF_107 : Nat → Int32) (mm_talkingOfF_107 : Nat → Int32) (mm_hushOfF_107 : Nat → Int32) (mm_rowOfF_107 : Nat → Int32) (mm_keptManyF_107 : Nat → Int32) (mm_talkOfF_107 : Nat → Int32) (mm_keptRowF_107 : Nat → Int32) (x1_107 : Int32) (x2_107 : Int32) (x3_107 : Int32) (x4_107 : Int32) (ls : Array Slot) (H : Heap) (locs : List Loc), xq_loop (fX12_comesOn_l107 N mmI mm_earsF mm_placesF mm_tapeF mm_milesToldF) n107 (mm_nightOfF_107, mm_mileOfF_107, mm_roundsOfF_107, mm_talkingOfF_107, mm_hushOfF_107, mm_rowOfF_107, mm_keptManyF_107, mm_talkOfF_107, mm_keptRowF_107, x1_107, x2_107, x3_107, x4_107) = some (r0, r1, r2, r3, r4, r5, r6, r7, r8, r9) → va_P (dC, dI) vwCl [(a_p0, .inr (12, oX12 mmI mmJ mmR)), ((mmR 18), .inl (cI, 2, .inl mm_earsF)), ((mmR 21), .inl (cI, 2, .inl mm_placesF)), ((mmR 0), .inl (cI, 1800, .inl mm_tapeF)), ((mmR 14), .inl (cI, 2, .inl mm_milesToldF)), ((mmR 45), .inl (cI, 22, .inl mm_nightOfF_107)), ((mmR 46), .inl (cI, 22, .inl mm_mileOfF_107)), ((mmR 47), .inl (cI, 22, .inl mm_roundsOfF_107)), ((mmR 48), .inl (cI, 22, .inl mm_talkingOfF_107)), ((mmR 49), .inl (cI, 22, .inl mm_hushOfF_107)), ((mmR 50), .inl (cI, 154, .inl mm_rowOfF_107)), ((mmR 52), .inl (cI, 22, .inl mm_keptManyF_107)), ((mmR 51), .inl (cI, 132, .inl mm_talkOfF_107)), ((mmR 53), .inl (cI, 2640, .inl mm_keptRowF_107))] H → va_D A [(a_p0, .inr (12, oX12 mmI mmJ mmR)), ((mmR 18), .inl (cI, 2, .inl mm_earsF)), ((mmR 21), .inl (cI, 2, .inl mm_placesF)), ((mmR 0), .inl (cI, 1800, .inl mm_tapeF)), ((mmR 14), .inl (cI, 2, .inl mm_milesToldF)), ((mmR 45), .inl (cI, 22, .inl mm_nightOfF_107)), ((mmR 46), .inl (cI, 22, .inl mm_mileOfF_107)), ((mmR 47), .inl (cI, 22, .inl mm_roundsOfF_107)), ((mmR 48), .inl (cI, 22, .inl mm_talkingOfF_107)), ((mmR 49), .inl (cI, 22, .inl mm_hushOfF_107)), ((mmR 50), .inl (cI, 154, .inl mm_rowOfF_107)), ((mmR 52), .inl (cI, 22, .inl mm_keptManyF_107)), ((mmR 51), .inl (cI, 132, .inl mm_talkOfF_107)), ((mmR 53), .inl (cI, 2640, .inl mm_keptRowF_107))] → va_S A s.heap H locs → lv_has ls 5 [(0, .ref a_p0), (1, .int x1_107), (2, .int x2_107), (3, .int x3_107), (4, .int x4_107)] → W p l e (headSpec wsX12_comesOn { frames := 1, cells := 0, slots := 0, locals := 23 }).room s m [.ref a_p0, .int p1].toArray below meth c H locs 0 0 (MQ below (xq_Q (dC, dI) vwCl (xq_tys cI cB cJ cZ cM) A [(a_p0, .inr (12, oX12 mmI mmJ mmR)), ((mmR 18), .inl (cI, 2, .inl mm_earsF)), ((mmR 21), .inl (cI, 2, .inl mm_placesF)), ((mmR 0), .inl (cI, 1800, .inl mm_tapeF)), ((mmR 14), .inl (cI, 2, .inl mm_milesToldF)), ((mmR 45), .inl (cI, 22, .inl r1)), ((mmR 46), .inl (cI, 22, .inl r2)), ((mmR 47), .inl (cI, 22, .inl r3)), ((mmR 48), .inl (cI, 22, .inl r4)), ((mmR 49), .inl (cI, 22, .inl r5)), ((mmR 50), .inl (cI, 154, .inl r6)), ((mmR 52), .inl (cI, 22, .inl r7)), ((mmR 51), .inl (cI, 132, .inl r8)), ((mmR 53), .inl (cI, 2640, .inl r9))] (some (.int r0))) [.ref a_p0, .int p1].toArray s 0 0 A) (F0 m 107 ls []) := by
    intro n107
    induction n107 with
    | zero => intro mm_nightOfF_107 mm_mileOfF_107 mm_roundsOfF_107 mm_talkingOfF_107 mm_hushOfF_107 mm_rowOfF_107 mm_keptManyF_107 mm_talkOfF_107 mm_keptRowF_107 x1_107 x2_107 x3_107 x4_107 ls H locs hf; cases (show none = some (r0, r1, r2, r3, r4, r5, r6, r7, r8, r9) from hf)
    | succ n107 ih107 =>
      intro mm_nightOfF_107 mm_mileOfF_107 mm_roundsOfF_107 mm_talkingOfF_107 mm_hushOfF_107 mm_rowOfF_107 mm_keptManyF_107 mm_talkOfF_107 mm_keptRowF_107 x1_107 x2_107 x3_107 x4_107 ls H locs hf hP hD hS hl
      have hf : fX12_comesOn_l107 N mmI mm_earsF mm_placesF mm_tapeF mm_milesToldF (xq_loop (fX12_comesOn_l107 N mmI mm_earsF mm_placesF mm_tapeF mm_milesToldF) n107) (mm_nightOfF_107, mm_mileOfF_107, mm_roundsOfF_107, mm_talkingOfF_107, mm_hushOfF_107, mm_rowOfF_107, mm_keptManyF_107, mm_talkOfF_107, mm_keptRowF_107, x1_107, x2_107, x3_107, x4_107) = some (r0, r1, r2, r3, r4, r5, r6, r7, r8, r9) := hf
      unfold fX12_comesOn_l107 at hf
      refine lv_iload hx hb dX12_comesOn_107 (lv_at hl 4 rfl) ?_
      refine lv_iload_n hx hb dX12_comesOn_109 rfl (lv_at hl 1 rfl) ?_
      refine lv_iconst (v := 1) hx hb dX12_comesOn_110 (by decide) ?_
      refine lv_isub hx hb dX12_comesOn_111 ?_
      refine lv_icmp_ge (tgt := 137) hx hb dX12_comesOn_112 (by decide) (fun c_ => ?_) (fun c_ => ?_)
      · have hf := xq_pos hf c_
        refine lv_aload_n hx hb dX12_comesOn_137 rfl (lv_at hl 0 rfl) ?_
        refine va_get (D := (dC, dI)) (ci := 12) (v := .ref ((mmR 0))) (C := RX12) (T := TX12) (N := 70) hx hb hts hinX12 hown hK hP 0 rfl rfl 0 (by decide) hw6 (fun _ h9 => h9) rfl dX12_comesOn_138 ?_
        refine lv_iload_n hx hb dX12_comesOn_141 rfl (lv_at hl 1 rfl) ?_
        refine lv_iconst (v := 1) hx hb dX12_comesOn_142 (by decide) ?_
        refine lv_isub hx hb dX12_comesOn_143 ?_
        refine xq_iald hx hb hK hP 3 0 rfl rfl hf dX12_comesOn_144 (fun v_1 hf => ?_)
        refine lv_iload_n hx hb dX12_comesOn_145 rfl (lv_at hl 3 rfl) ?_
        refine lv_icmp_eq (tgt := 151) hx hb dX12_comesOn_146 (by decide) (fun c_ => ?_) (fun c_ => ?_)
        · have hf := xq_pos hf c_
          refine lv_aload_n hx hb dX12_comesOn_151 rfl (lv_at hl 0 rfl) ?_
          refine lv_iconst (v := 1) hx hb dX12_comesOn_152 (by decide) ?_
          refine lv_iconst (v := 0) hx hb dX12_comesOn_153 (by decide) ?_
          obtain ⟨⟨r_2_0, r_2_1, r_2_2, r_2_3, r_2_4, r_2_5, r_2_6, r_2_7, r_2_8⟩, h_3, hf⟩ := xq_bd_some hf
          refine xq_callV (As := [.int 1, .int 0]) (rest := []) (ci := 12) (q0 := 0) ⟨hx, hb, hml, hown, hts⟩ (kX12_copies l dC dI cI cB cJ cZ cM z ad N a_p0 mmI mmJ mmR mm_nightOfF_107 mm_mileOfF_107 mm_roundsOfF_107 mm_talkingOfF_107 mm_hushOfF_107 mm_rowOfF_107 mm_keptManyF_107 mm_talkOfF_107 mm_keptRowF_107 1 0 h_3) (cwV 2 hts gX12_comesOn_X12_copies rfl rfl rfl (by decide +kernel) ⟨Nat.le_of_ble_eq_true rfl, Nat.le_of_ble_eq_true rfl⟩) hN hK hP hD hS hA [0, 5, 6, 7, 8, 9, 10, 11, 12, 13] (by decide) rfl rfl rfl rfl rfl rfl hl.1 rfl (Nat.le_of_ble_eq_true rfl) dX12_comesOn_154 ⟨Nat.zero_le _, Nat.zero_le _⟩ (fun H locs hP hD hS => ?_)
          have hP : va_P (dC, dI) vwCl [(a_p0, .inr (12, oX12 mmI mmJ mmR)), ((mmR 18), .inl (cI, 2, .inl mm_earsF)), ((mmR 21), .inl (cI, 2, .inl mm_placesF)), ((mmR 0), .inl (cI, 1800, .inl mm_tapeF)), ((mmR 14), .inl (cI, 2, .inl mm_milesToldF)), ((mmR 45), .inl (cI, 22, .inl r_2_0)), ((mmR 46), .inl (cI, 22, .inl r_2_1)), ((mmR 47), .inl (cI, 22, .inl r_2_2)), ((mmR 48), .inl (cI, 22, .inl r_2_3)), ((mmR 49), .inl (cI, 22, .inl r_2_4)), ((mmR 50), .inl (cI, 154, .inl r_2_5)), ((mmR 52), .inl (cI, 22, .inl r_2_6)), ((mmR 51), .inl (cI, 132, .inl r_2_7)), ((mmR 53), .inl (cI, 2640, .inl r_2_8))] H := hP
          have hD : va_D A [(a_p0, .inr (12, oX12 mmI mmJ mmR)), ((mmR 18), .inl (cI, 2, .inl mm_earsF)), ((mmR 21), .inl (cI, 2, .inl mm_placesF)), ((mmR 0), .inl (cI, 1800, .inl mm_tapeF)), ((mmR 14), .inl (cI, 2, .inl mm_milesToldF)), ((mmR 45), .inl (cI, 22, .inl r_2_0)), ((mmR 46), .inl (cI, 22, .inl r_2_1)), ((mmR 47), .inl (cI, 22, .inl r_2_2)), ((mmR 48), .inl (cI, 22, .inl r_2_3)), ((mmR 49), .inl (cI, 22, .inl r_2_4)), ((mmR 50), .inl (cI, 154, .inl r_2_5)), ((mmR 52), .inl (cI, 22, .inl r_2_6)), ((mmR 51), .inl (cI, 132, .inl r_2_7)), ((mmR 53), .inl (cI, 2640, .inl r_2_8))] := hD
          refine W.eq (g2 := F0 m 157 ls []) rfl ?_
          refine lv_aload_n hx hb dX12_comesOn_157 rfl (lv_at hl 0 rfl) ?_
          refine va_get (D := (dC, dI)) (ci := 12) (v := .ref ((mmR 45))) (C := RX12) (T := TX12) (N := 70) hx hb hts hinX12 hown hK hP 0 rfl rfl 45 (by decide) hw7 (fun _ h9 => h9) rfl dX12_comesOn_158 ?_
          refine lv_iconst (v := 1) hx hb dX12_comesOn_161 (by decide) ?_
          refine lv_aload_n hx hb dX12_comesOn_162 rfl (lv_at hl 0 rfl) ?_
          refine lv_iconst (v := 0) hx hb dX12_comesOn_163 (by decide) ?_
          obtain ⟨r_4, h_5, hf⟩ := xq_bd_some hf
          refine xq_callV (As := [.int 0]) (rest := [.int 1, .ref ((mmR 45))]) (ci := 12) (q0 := 0) ⟨hx, hb, hml, hown, hts⟩ (kX12_twoAt l dC dI cI cB cJ cZ cM z ad N a_p0 mmI mmJ mmR mm_tapeF 0 h_5) (cwV 1 hts gX12_comesOn_X12_twoAt rfl rfl rfl (by decide +kernel) ⟨Nat.le_of_ble_eq_true rfl, Nat.le_of_ble_eq_true rfl⟩) hN hK hP hD hS hA [0, 3] (by decide) rfl rfl rfl rfl rfl rfl hl.1 rfl (Nat.le_of_ble_eq_true rfl) dX12_comesOn_164 ⟨Nat.zero_le _, Nat.zero_le _⟩ (fun H locs hP hD hS => ?_)
          have hP : va_P (dC, dI) vwCl [(a_p0, .inr (12, oX12 mmI mmJ mmR)), ((mmR 18), .inl (cI, 2, .inl mm_earsF)), ((mmR 21), .inl (cI, 2, .inl mm_placesF)), ((mmR 0), .inl (cI, 1800, .inl mm_tapeF)), ((mmR 14), .inl (cI, 2, .inl mm_milesToldF)), ((mmR 45), .inl (cI, 22, .inl r_2_0)), ((mmR 46), .inl (cI, 22, .inl r_2_1)), ((mmR 47), .inl (cI, 22, .inl r_2_2)), ((mmR 48), .inl (cI, 22, .inl r_2_3)), ((mmR 49), .inl (cI, 22, .inl r_2_4)), ((mmR 50), .inl (cI, 154, .inl r_2_5)), ((mmR 52), .inl (cI, 22, .inl r_2_6)), ((mmR 51), .inl (cI, 132, .inl r_2_7)), ((mmR 53), .inl (cI, 2640, .inl r_2_8))] H := hP
          have hD : va_D A [(a_p0, .inr (12, oX12 mmI mmJ mmR)), ((mmR 18), .inl (cI, 2, .inl mm_earsF)), ((mmR 21), .inl (cI, 2, .inl mm_placesF)), ((mmR 0), .inl (cI, 1800, .inl mm_tapeF)), ((mmR 14), .inl (cI, 2, .inl mm_milesToldF)), ((mmR 45), .inl (cI, 22, .inl r_2_0)), ((mmR 46), .inl (cI, 22, .inl r_2_1)), ((mmR 47), .inl (cI, 22, .inl r_2_2)), ((mmR 48), .inl (cI, 22, .inl r_2_3)), ((mmR 49), .inl (cI, 22, .inl r_2_4)), ((mmR 50), .inl (cI, 154, .inl r_2_5)), ((mmR 52), .inl (cI, 22, .inl r_2_6)), ((mmR 51), .inl (cI, 132, .inl r_2_7)), ((mmR 53), .inl (cI, 2640, .inl r_2_8))] := hD
          refine W.eq (g2 := F0 m 167 ls [.int r_4, .int 1, .ref ((mmR 45))]) rfl ?_
          refine xq_iast hx hb hK hP hD hS 5 0 rfl rfl hf dX12_comesOn_167 (fun g_6 H locs hf hP hD hS => ?_)
          have hP : va_P (dC, dI) vwCl [(a_p0, .inr (12, oX12 mmI mmJ mmR)), ((mmR 18), .inl (cI, 2, .inl mm_earsF)), ((mmR 21), .inl (cI, 2, .inl mm_placesF)), ((mmR 0), .inl (cI, 1800, .inl mm_tapeF)), ((mmR 14), .inl (cI, 2, .inl mm_milesToldF)), ((mmR 45), .inl (cI, 22, .inl g_6)), ((mmR 46), .inl (cI, 22, .inl r_2_1)), ((mmR 47), .inl (cI, 22, .inl r_2_2)), ((mmR 48), .inl (cI, 22, .inl r_2_3)), ((mmR 49), .inl (cI, 22, .inl r_2_4)), ((mmR 50), .inl (cI, 154, .inl r_2_5)), ((mmR 52), .inl (cI, 22, .inl r_2_6)), ((mmR 51), .inl (cI, 132, .inl r_2_7)), ((mmR 53), .inl (cI, 2640, .inl r_2_8))] H := hP
          have hD : va_D A [(a_p0, .inr (12, oX12 mmI mmJ mmR)), ((mmR 18), .inl (cI, 2, .inl mm_earsF)), ((mmR 21), .inl (cI, 2, .inl mm_placesF)), ((mmR 0), .inl (cI, 1800, .inl mm_tapeF)), ((mmR 14), .inl (cI, 2, .inl mm_milesToldF)), ((mmR 45), .inl (cI, 22, .inl g_6)), ((mmR 46), .inl (cI, 22, .inl r_2_1)), ((mmR 47), .inl (cI, 22, .inl r_2_2)), ((mmR 48), .inl (cI, 22, .inl r_2_3)), ((mmR 49), .inl (cI, 22, .inl r_2_4)), ((mmR 50), .inl (cI, 154, .inl r_2_5)), ((mmR 52), .inl (cI, 22, .inl r_2_6)), ((mmR 51), .inl (cI, 132, .inl r_2_7)), ((mmR 53), .inl (cI, 2640, .inl r_2_8))] := hD
          refine lv_aload_n hx hb dX12_comesOn_168 rfl (lv_at hl 0 rfl) ?_
          refine va_get (D := (dC, dI)) (ci := 12) (v := .ref ((mmR 46))) (C := RX12) (T := TX12) (N := 70) hx hb hts hinX12 hown hK hP 0 rfl rfl 46 (by decide) hw8 (fun _ h9 => h9) rfl dX12_comesOn_169 ?_
          refine lv_iconst (v := 1) hx hb dX12_comesOn_172 (by decide) ?_
          refine lv_aload_n hx hb dX12_comesOn_173 rfl (lv_at hl 0 rfl) ?_
          refine lv_iconst (v := 2) hx hb dX12_comesOn_174 (by decide) ?_
          obtain ⟨r_7, h_8, hf⟩ := xq_bd_some hf
          refine xq_callV (As := [.int 2]) (rest := [.int 1, .ref ((mmR 46))]) (ci := 12) (q0 := 0) ⟨hx, hb, hml, hown, hts⟩ (kX12_twoAt l dC dI cI cB cJ cZ cM z ad N a_p0 mmI mmJ mmR mm_tapeF 2 h_8) (cwV 1 hts gX12_comesOn_X12_twoAt rfl rfl rfl (by decide +kernel) ⟨Nat.le_of_ble_eq_true rfl, Nat.le_of_ble_eq_true rfl⟩) hN hK hP hD hS hA [0, 3] (by decide) rfl rfl rfl rfl rfl rfl hl.1 rfl (Nat.le_of_ble_eq_true rfl) dX12_comesOn_175 ⟨Nat.zero_le _, Nat.zero_le _⟩ (fun H locs hP hD hS => ?_)
          have hP : va_P (dC, dI) vwCl [(a_p0, .inr (12, oX12 mmI mmJ mmR)), ((mmR 18), .inl (cI, 2, .inl mm_earsF)), ((mmR 21), .inl (cI, 2, .inl mm_placesF)), ((mmR 0), .inl (cI, 1800, .inl mm_tapeF)), ((mmR 14), .inl (cI, 2, .inl mm_milesToldF)), ((mmR 45), .inl (cI, 22, .inl g_6)), ((mmR 46), .inl (cI, 22, .inl r_2_1)), ((mmR 47), .inl (cI, 22, .inl r_2_2)), ((mmR 48), .inl (cI, 22, .inl r_2_3)), ((mmR 49), .inl (cI, 22, .inl r_2_4)), ((mmR 50), .inl (cI, 154, .inl r_2_5)), ((mmR 52), .inl (cI, 22, .inl r_2_6)), ((mmR 51), .inl (cI, 132, .inl r_2_7)), ((mmR 53), .inl (cI, 2640, .inl r_2_8))] H := hP
          have hD : va_D A [(a_p0, .inr (12, oX12 mmI mmJ mmR)), ((mmR 18), .inl (cI, 2, .inl mm_earsF)), ((mmR 21), .inl (cI, 2, .inl mm_placesF)), ((mmR 0), .inl (cI, 1800, .inl mm_tapeF)), ((mmR 14), .inl (cI, 2, .inl mm_milesToldF)), ((mmR 45), .inl (cI, 22, .inl g_6)), ((mmR 46), .inl (cI, 22, .inl r_2_1)), ((mmR 47), .inl (cI, 22, .inl r_2_2)), ((mmR 48), .inl (cI, 22, .inl r_2_3)), ((mmR 49), .inl (cI, 22, .inl r_2_4)), ((mmR 50), .inl (cI, 154, .inl r_2_5)), ((mmR 52), .inl (cI, 22, .inl r_2_6)), ((mmR 51), .inl (cI, 132, .inl r_2_7)), ((mmR 53), .inl (cI, 2640, .inl r_2_8))] := hD
          refine W.eq (g2 := F0 m 178 ls [.int r_7, .int 1, .ref ((mmR 46))]) rfl ?_
          refine xq_iast hx hb hK hP hD hS 6 0 rfl rfl hf dX12_comesOn_178 (fun g_9 H locs hf hP hD hS => ?_)
          have hP : va_P (dC, dI) vwCl [(a_p0, .inr (12, oX12 mmI mmJ mmR)), ((mmR 18), .inl (cI, 2, .inl mm_earsF)), ((mmR 21), .inl (cI, 2, .inl mm_placesF)), ((mmR 0), .inl (cI, 1800, .inl mm_tapeF)), ((mmR 14), .inl (cI, 2, .inl mm_milesToldF)), ((mmR 45), .inl (cI, 22, .inl g_6)), ((mmR 46), .inl (cI, 22, .inl g_9)), ((mmR 47), .inl (cI, 22, .inl r_2_2)), ((mmR 48), .inl (cI, 22, .inl r_2_3)), ((mmR 49), .inl (cI, 22, .inl r_2_4)), ((mmR 50), .inl (cI, 154, .inl r_2_5)), ((mmR 52), .inl (cI, 22, .inl r_2_6)), ((mmR 51), .inl (cI, 132, .inl r_2_7)), ((mmR 53), .inl (cI, 2640, .inl r_2_8))] H := hP
          have hD : va_D A [(a_p0, .inr (12, oX12 mmI mmJ mmR)), ((mmR 18), .inl (cI, 2, .inl mm_earsF)), ((mmR 21), .inl (cI, 2, .inl mm_placesF)), ((mmR 0), .inl (cI, 1800, .inl mm_tapeF)), ((mmR 14), .inl (cI, 2, .inl mm_milesToldF)), ((mmR 45), .inl (cI, 22, .inl g_6)), ((mmR 46), .inl (cI, 22, .inl g_9)), ((mmR 47), .inl (cI, 22, .inl r_2_2)), ((mmR 48), .inl (cI, 22, .inl r_2_3)), ((mmR 49), .inl (cI, 22, .inl r_2_4)), ((mmR 50), .inl (cI, 154, .inl r_2_5)), ((mmR 52), .inl (cI, 22, .inl r_2_6)), ((mmR 51), .inl (cI, 132, .inl r_2_7)), ((mmR 53), .inl (cI, 2640, .inl r_2_8))] := hD
          refine lv_aload_n hx hb dX12_comesOn_179 rfl (lv_at hl 0 rfl) ?_
          refine va_get (D := (dC, dI)) (ci := 12) (v := .ref ((mmR 47))) (C := RX12) (T := TX12) (N := 70) hx hb hts hinX12 hown hK hP 0 rfl rfl 47 (by decide) hw9 (fun _ h9 => h9) rfl dX12_comesOn_180 ?_
          refine lv_iconst (v := 1) hx hb dX12_comesOn_183 (by decide) ?_
          refine lv_aload_n hx hb dX12_comesOn_184 rfl (lv_at hl 0 rfl) ?_
          refine lv_iconst (v := 4) hx hb dX12_comesOn_185 (by decide) ?_
          obtain ⟨r_10, h_11, hf⟩ := xq_bd_some hf
          refine xq_callV (As := [.int 4]) (rest := [.int 1, .ref ((mmR 47))]) (ci := 12) (q0 := 0) ⟨hx, hb, hml, hown, hts⟩ (kX12_twoAt l dC dI cI cB cJ cZ cM z ad N a_p0 mmI mmJ mmR mm_tapeF 4 h_11) (cwV 1 hts gX12_comesOn_X12_twoAt rfl rfl rfl (by decide +kernel) ⟨Nat.le_of_ble_eq_true rfl, Nat.le_of_ble_eq_true rfl⟩) hN hK hP hD hS hA [0, 3] (by decide) rfl rfl rfl rfl rfl rfl hl.1 rfl (Nat.le_of_ble_eq_true rfl) dX12_comesOn_186 ⟨Nat.zero_le _, Nat.zero_le _⟩ (fun H locs hP hD hS => ?_)
          have hP : va_P (dC, dI) vwCl [(a_p0, .inr (12, oX12 mmI mmJ mmR)), ((mmR 18), .inl (cI, 2, .inl mm_earsF)), ((mmR 21), .inl (cI, 2, .inl mm_placesF)), ((mmR 0), .inl (cI, 1800, .inl mm_tapeF)), ((mmR 14), .inl (cI, 2, .inl mm_milesToldF)), ((mmR 45), .inl (cI, 22, .inl g_6)), ((mmR 46), .inl (cI, 22, .inl g_9)), ((mmR 47), .inl (cI, 22, .inl r_2_2)), ((mmR 48), .inl (cI, 22, .inl r_2_3)), ((mmR 49), .inl (cI, 22, .inl r_2_4)), ((mmR 50), .inl (cI, 154, .inl r_2_5)), ((mmR 52), .inl (cI, 22, .inl r_2_6)), ((mmR 51), .inl (cI, 132, .inl r_2_7)), ((mmR 53), .inl (cI, 2640, .inl r_2_8))] H := hP
          have hD : va_D A [(a_p0, .inr (12, oX12 mmI mmJ mmR)), ((mmR 18), .inl (cI, 2, .inl mm_earsF)), ((mmR 21), .inl (cI, 2, .inl mm_placesF)), ((mmR 0), .inl (cI, 1800, .inl mm_tapeF)), ((mmR 14), .inl (cI, 2, .inl mm_milesToldF)), ((mmR 45), .inl (cI, 22, .inl g_6)), ((mmR 46), .inl (cI, 22, .inl g_9)), ((mmR 47), .inl (cI, 22, .inl r_2_2)), ((mmR 48), .inl (cI, 22, .inl r_2_3)), ((mmR 49), .inl (cI, 22, .inl r_2_4)), ((mmR 50), .inl (cI, 154, .inl r_2_5)), ((mmR 52), .inl (cI, 22, .inl r_2_6)), ((mmR 51), .inl (cI, 132, .inl r_2_7)), ((mmR 53), .inl (cI, 2640, .inl r_2_8))] := hD
          refine W.eq (g2 := F0 m 189 ls [.int r_10, .int 1, .ref ((mmR 47))]) rfl ?_
          refine xq_iast hx hb hK hP hD hS 7 0 rfl rfl hf dX12_comesOn_189 (fun g_12 H locs hf hP hD hS => ?_)
          have hP : va_P (dC, dI) vwCl [(a_p0, .inr (12, oX12 mmI mmJ mmR)), ((mmR 18), .inl (cI, 2, .inl mm_earsF)), ((mmR 21), .inl (cI, 2, .inl mm_placesF)), ((mmR 0), .inl (cI, 1800, .inl mm_tapeF)), ((mmR 14), .inl (cI, 2, .inl mm_milesToldF)), ((mmR 45), .inl (cI, 22, .inl g_6)), ((mmR 46), .inl (cI, 22, .inl g_9)), ((mmR 47), .inl (cI, 22, .inl g_12)), ((mmR 48), .inl (cI, 22, .inl r_2_3)), ((mmR 49), .inl (cI, 22, .inl r_2_4)), ((mmR 50), .inl (cI, 154, .inl r_2_5)), ((mmR 52), .inl (cI, 22, .inl r_2_6)), ((mmR 51), .inl (cI, 132, .inl r_2_7)), ((mmR 53), .inl (cI, 2640, .inl r_2_8))] H := hP
          have hD : va_D A [(a_p0, .inr (12, oX12 mmI mmJ mmR)), ((mmR 18), .inl (cI, 2, .inl mm_earsF)), ((mmR 21), .inl (cI, 2, .inl mm_placesF)), ((mmR 0), .inl (cI, 1800, .inl mm_tapeF)), ((mmR 14), .inl (cI, 2, .inl mm_milesToldF)), ((mmR 45), .inl (cI, 22, .inl g_6)), ((mmR 46), .inl (cI, 22, .inl g_9)), ((mmR 47), .inl (cI, 22, .inl g_12)), ((mmR 48), .inl (cI, 22, .inl r_2_3)), ((mmR 49), .inl (cI, 22, .inl r_2_4)), ((mmR 50), .inl (cI, 154, .inl r_2_5)), ((mmR 52), .inl (cI, 22, .inl r_2_6)), ((mmR 51), .inl (cI, 132, .inl r_2_7)), ((mmR 53), .inl (cI, 2640, .inl r_2_8))] := hD
          refine lv_aload_n hx hb dX12_comesOn_190 rfl (lv_at hl 0 rfl) ?_
          refine va_get (D := (dC, dI)) (ci := 12) (v := .ref ((mmR 48))) (C := RX12) (T := TX12) (N := 70) hx hb hts hinX12 hown hK hP 0 rfl rfl 48 (by decide) hw10 (fun _ h9 => h9) rfl dX12_comesOn_191 ?_
          refine lv_iconst (v := 1) hx hb dX12_comesOn_194 (by decide) ?_
          refine lv_aload_n hx hb dX12_comesOn_195 rfl (lv_at hl 0 rfl) ?_
          refine va_get (D := (dC, dI)) (ci := 12) (v := .ref ((mmR 0))) (C := RX12) (T := TX12) (N := 70) hx hb hts hinX12 hown hK hP 0 rfl rfl 0 (by decide) hw6 (fun _ h9 => h9) rfl dX12_comesOn_196 ?_
          refine lv_bipush (v := 6) hx hb dX12_comesOn_199 (by decide) ?_
          refine xq_iald hx hb hK hP 3 0 rfl rfl hf dX12_comesOn_201 (fun v_13 hf => ?_)
          refine xq_iast hx hb hK hP hD hS 8 0 rfl rfl hf dX12_comesOn_202 (fun g_14 H locs hf hP hD hS => ?_)
          have hP : va_P (dC, dI) vwCl [(a_p0, .inr (12, oX12 mmI mmJ mmR)), ((mmR 18), .inl (cI, 2, .inl mm_earsF)), ((mmR 21), .inl (cI, 2, .inl mm_placesF)), ((mmR 0), .inl (cI, 1800, .inl mm_tapeF)), ((mmR 14), .inl (cI, 2, .inl mm_milesToldF)), ((mmR 45), .inl (cI, 22, .inl g_6)), ((mmR 46), .inl (cI, 22, .inl g_9)), ((mmR 47), .inl (cI, 22, .inl g_12)), ((mmR 48), .inl (cI, 22, .inl g_14)), ((mmR 49), .inl (cI, 22, .inl r_2_4)), ((mmR 50), .inl (cI, 154, .inl r_2_5)), ((mmR 52), .inl (cI, 22, .inl r_2_6)), ((mmR 51), .inl (cI, 132, .inl r_2_7)), ((mmR 53), .inl (cI, 2640, .inl r_2_8))] H := hP
          have hD : va_D A [(a_p0, .inr (12, oX12 mmI mmJ mmR)), ((mmR 18), .inl (cI, 2, .inl mm_earsF)), ((mmR 21), .inl (cI, 2, .inl mm_placesF)), ((mmR 0), .inl (cI, 1800, .inl mm_tapeF)), ((mmR 14), .inl (cI, 2, .inl mm_milesToldF)), ((mmR 45), .inl (cI, 22, .inl g_6)), ((mmR 46), .inl (cI, 22, .inl g_9)), ((mmR 47), .inl (cI, 22, .inl g_12)), ((mmR 48), .inl (cI, 22, .inl g_14)), ((mmR 49), .inl (cI, 22, .inl r_2_4)), ((mmR 50), .inl (cI, 154, .inl r_2_5)), ((mmR 52), .inl (cI, 22, .inl r_2_6)), ((mmR 51), .inl (cI, 132, .inl r_2_7)), ((mmR 53), .inl (cI, 2640, .inl r_2_8))] := hD
          refine lv_aload_n hx hb dX12_comesOn_203 rfl (lv_at hl 0 rfl) ?_
          refine va_get (D := (dC, dI)) (ci := 12) (v := .ref ((mmR 49))) (C := RX12) (T := TX12) (N := 70) hx hb hts hinX12 hown hK hP 0 rfl rfl 49 (by decide) hw11 (fun _ h9 => h9) rfl dX12_comesOn_204 ?_
          refine lv_iconst (v := 1) hx hb dX12_comesOn_207 (by decide) ?_
          refine lv_aload_n hx hb dX12_comesOn_208 rfl (lv_at hl 0 rfl) ?_
          refine va_get (D := (dC, dI)) (ci := 12) (v := .ref ((mmR 0))) (C := RX12) (T := TX12) (N := 70) hx hb hts hinX12 hown hK hP 0 rfl rfl 0 (by decide) hw6 (fun _ h9 => h9) rfl dX12_comesOn_209 ?_
          refine lv_bipush (v := 7) hx hb dX12_comesOn_212 (by decide) ?_
          refine xq_iald hx hb hK hP 3 0 rfl rfl hf dX12_comesOn_214 (fun v_15 hf => ?_)
          refine xq_iast hx hb hK hP hD hS 9 0 rfl rfl hf dX12_comesOn_215 (fun g_16 H locs hf hP hD hS => ?_)
          have hP : va_P (dC, dI) vwCl [(a_p0, .inr (12, oX12 mmI mmJ mmR)), ((mmR 18), .inl (cI, 2, .inl mm_earsF)), ((mmR 21), .inl (cI, 2, .inl mm_placesF)), ((mmR 0), .inl (cI, 1800, .inl mm_tapeF)), ((mmR 14), .inl (cI, 2, .inl mm_milesToldF)), ((mmR 45), .inl (cI, 22, .inl g_6)), ((mmR 46), .inl (cI, 22, .inl g_9)), ((mmR 47), .inl (cI, 22, .inl g_12)), ((mmR 48), .inl (cI, 22, .inl g_14)), ((mmR 49), .inl (cI, 22, .inl g_16)), ((mmR 50), .inl (cI, 154, .inl r_2_5)), ((mmR 52), .inl (cI, 22, .inl r_2_6)), ((mmR 51), .inl (cI, 132, .inl r_2_7)), ((mmR 53), .inl (cI, 2640, .inl r_2_8))] H := hP
          have hD : va_D A [(a_p0, .inr (12, oX12 mmI mmJ mmR)), ((mmR 18), .inl (cI, 2, .inl mm_earsF)), ((mmR 21), .inl (cI, 2, .inl mm_placesF)), ((mmR 0), .inl (cI, 1800, .inl mm_tapeF)), ((mmR 14), .inl (cI, 2, .inl mm_milesToldF)), ((mmR 45), .inl (cI, 22, .inl g_6)), ((mmR 46), .inl (cI, 22, .inl g_9)), ((mmR 47), .inl (cI, 22, .inl g_12)), ((mmR 48), .inl (cI, 22, .inl g_14)), ((mmR 49), .inl (cI, 22, .inl g_16)), ((mmR 50), .inl (cI, 154, .inl r_2_5)), ((mmR 52), .inl (cI, 22, .inl r_2_6)), ((mmR 51), .inl (cI, 132, .inl r_2_7)), ((mmR 53), .inl (cI, 2640, .inl r_2_8))] := hD
          refine lv_aload_n hx hb dX12_comesOn_216 rfl (lv_at hl 0 rfl) ?_
          refine va_get (D := (dC, dI)) (ci := 12) (v := .ref ((mmR 52))) (C := RX12) (T := TX12) (N := 70) hx hb hts hinX12 hown hK hP 0 rfl rfl 52 (by decide) hw12 (fun _ h9 => h9) rfl dX12_comesOn_217 ?_
          refine lv_iconst (v := 1) hx hb dX12_comesOn_220 (by decide) ?_
          refine lv_iconst (v := 0) hx hb dX12_comesOn_221 (by decide) ?_
          refine xq_iast hx hb hK hP hD hS 11 0 rfl rfl hf dX12_comesOn_222 (fun g_17 H locs hf hP hD hS => ?_)
          have hP : va_P (dC, dI) vwCl [(a_p0, .inr (12, oX12 mmI mmJ mmR)), ((mmR 18), .inl (cI, 2, .inl mm_earsF)), ((mmR 21), .inl (cI, 2, .inl mm_placesF)), ((mmR 0), .inl (cI, 1800, .inl mm_tapeF)), ((mmR 14), .inl (cI, 2, .inl mm_milesToldF)), ((mmR 45), .inl (cI, 22, .inl g_6)), ((mmR 46), .inl (cI, 22, .inl g_9)), ((mmR 47), .inl (cI, 22, .inl g_12)), ((mmR 48), .inl (cI, 22, .inl g_14)), ((mmR 49), .inl (cI, 22, .inl g_16)), ((mmR 50), .inl (cI, 154, .inl r_2_5)), ((mmR 52), .inl (cI, 22, .inl g_17)), ((mmR 51), .inl (cI, 132, .inl r_2_7)), ((mmR 53), .inl (cI, 2640, .inl r_2_8))] H := hP
          have hD : va_D A [(a_p0, .inr (12, oX12 mmI mmJ mmR)), ((mmR 18), .inl (cI, 2, .inl mm_earsF)), ((mmR 21), .inl (cI, 2, .inl mm_placesF)), ((mmR 0), .inl (cI, 1800, .inl mm_tapeF)), ((mmR 14), .inl (cI, 2, .inl mm_milesToldF)), ((mmR 45), .inl (cI, 22, .inl g_6)), ((mmR 46), .inl (cI, 22, .inl g_9)), ((mmR 47), .inl (cI, 22, .inl g_12)), ((mmR 48), .inl (cI, 22, .inl g_14)), ((mmR 49), .inl (cI, 22, .inl g_16)), ((mmR 50), .inl (cI, 154, .inl r_2_5)), ((mmR 52), .inl (cI, 22, .inl g_17)), ((mmR 51), .inl (cI, 132, .inl r_2_7)), ((mmR 53), .inl (cI, 2640, .inl r_2_8))] := hD
          refine lv_iconst (v := 0) hx hb dX12_comesOn_223 (by decide) ?_
          refine lv_istore (lv' := [(4, .int 0), (0, .ref a_p0), (1, .int x1_107), (2, .int x2_107), (3, .int x3_107)]) hx hb dX12_comesOn_224 hl (by decide) rfl (fun ls hl => ?_)
          exact l226 N g_6 g_9 g_12 g_14 g_16 r_2_5 g_17 r_2_7 r_2_8 x2_107 0 _ _ _ hf hP hD hS (lv_sub hl [1, 3, 0] rfl)
        · have hf := xq_neg hf c_
          refine lv_iconst (v := 0) hx hb dX12_comesOn_149 (by decide) ?_
          have e9 := Option.some.inj hf
          have e9_0 : 0 = r0 := congrArg (fun t => t.1) e9
          have e9_1 : mm_nightOfF_107 = r1 := congrArg (fun t => t.2.1) e9
          have e9_2 : mm_mileOfF_107 = r2 := congrArg (fun t => t.2.2.1) e9
          have e9_3 : mm_roundsOfF_107 = r3 := congrArg (fun t => t.2.2.2.1) e9
          have e9_4 : mm_talkingOfF_107 = r4 := congrArg (fun t => t.2.2.2.2.1) e9
          have e9_5 : mm_hushOfF_107 = r5 := congrArg (fun t => t.2.2.2.2.2.1) e9
          have e9_6 : mm_rowOfF_107 = r6 := congrArg (fun t => t.2.2.2.2.2.2.1) e9
          have e9_7 : mm_keptManyF_107 = r7 := congrArg (fun t => t.2.2.2.2.2.2.2.1) e9
          have e9_8 : mm_talkOfF_107 = r8 := congrArg (fun t => t.2.2.2.2.2.2.2.2.1) e9
          have e9_9 : mm_keptRowF_107 = r9 := congrArg (fun t => t.2.2.2.2.2.2.2.2.2) e9
          clear e9 hf
          try clear l107
          try clear l226
          try clear l258
          try clear l301
          try clear ih107
          try clear ih226
          try clear ih258
          try clear ih301
          subst e9_0
          subst e9_1
          subst e9_2
          subst e9_3
          subst e9_4
          subst e9_5
          subst e9_6
          subst e9_7
          subst e9_8
          subst e9_9
          exact xq_zret hx hb hr (by decide +kernel) hlocks hK hP hD hS dX12_comesOn_150
      · have hf := xq_neg hf c_
        refine lv_iconst (v := 5) hx hb dX12_comesOn_115 (by decide) ?_
        refine lv_iload_n hx hb dX12_comesOn_116 rfl (lv_at hl 3 rfl) ?_
        refine lv_imul hx hb dX12_comesOn_117 ?_
        refine lv_aload_n hx hb dX12_comesOn_118 rfl (lv_at hl 0 rfl) ?_
        refine va_get (D := (dC, dI)) (ci := 12) (v := .ref ((mmR 0))) (C := RX12) (T := TX12) (N := 70) hx hb hts hinX12 hown hK hP 0 rfl rfl 0 (by decide) hw6 (fun _ h9 => h9) rfl dX12_comesOn_119 ?_
        refine lv_iload hx hb dX12_comesOn_122 (lv_at hl 4 rfl) ?_
        refine xq_iald hx hb hK hP 3 0 rfl rfl hf dX12_comesOn_124 (fun v_18 hf => ?_)
        refine lv_iadd hx hb dX12_comesOn_125 ?_
        refine lv_sipush (v := 251) hx hb dX12_comesOn_126 (by decide) ?_
        refine xq_irem hx hb hf dX12_comesOn_129 (fun v_19 hf => ?_)
        refine lv_istore_n (lv' := [(3, .int v_19), (0, .ref a_p0), (1, .int x1_107), (2, .int x2_107), (4, .int x4_107)]) hx hb dX12_comesOn_130 rfl hl (by decide) rfl (fun ls hl => ?_)
        refine lv_iinc (v := x4_107 + 1) (lv' := [(4, .int (x4_107 + 1)), (3, .int v_19), (0, .ref a_p0), (1, .int x1_107), (2, .int x2_107)]) hx hb dX12_comesOn_131 hl (k := 4) rfl (congrArg (fun q9 => x4_107 + q9) (by decide : Int32.ofInt 1 = 1)) (by decide) rfl (fun ls hl => ?_)
        refine lv_goto (tgt := 107) hx hb dX12_comesOn_134 (by decide) ?_
        exact ih107 mm_nightOfF_107 mm_mileOfF_107 mm_roundsOfF_107 mm_talkingOfF_107 mm_hushOfF_107 mm_rowOfF_107 mm_keptManyF_107 mm_talkOfF_107 mm_keptRowF_107 x1_107 x2_107 v_19 (x4_107 + 1) _ _ _ hf hP hD hS (lv_sub hl [2, 3, 4, 1, 0] rfl)
  unfold fX12_comesOn at hf
  refine lv_aload_n hx hb dX12_comesOn_0 rfl (lv_at hl 0 rfl) ?_
  refine va_get (D := (dC, dI)) (ci := 12) (v := .ref ((mmR 18))) (C := RX12) (T := TX12) (N := 70) hx hb hts hinX12 hown hK hP 0 rfl rfl 18 (by decide) hw0 (fun _ h9 => h9) rfl dX12_comesOn_1 ?_
  refine lv_aload_n hx hb dX12_comesOn_4 rfl (lv_at hl 0 rfl) ?_
  refine va_get (D := (dC, dI)) (ci := 12) (v := .int (mmI 13)) (C := RX12) (T := TX12) (N := 70) hx hb hts hinX12 hown hK hP 0 rfl rfl 13 (by decide) hw2 (fun _ h9 => h9) rfl dX12_comesOn_5 ?_
  refine xq_iald hx hb hK hP 1 0 rfl rfl hf dX12_comesOn_8 (fun v_1 hf => ?_)
  refine lv_aload_n hx hb dX12_comesOn_9 rfl (lv_at hl 0 rfl) ?_
  refine va_get (D := (dC, dI)) (ci := 12) (v := .ref ((mmR 21))) (C := RX12) (T := TX12) (N := 70) hx hb hts hinX12 hown hK hP 0 rfl rfl 21 (by decide) hw3 (fun _ h9 => h9) rfl dX12_comesOn_10 ?_
  refine lv_aload_n hx hb dX12_comesOn_13 rfl (lv_at hl 0 rfl) ?_
  refine va_get (D := (dC, dI)) (ci := 12) (v := .int (mmI 13)) (C := RX12) (T := TX12) (N := 70) hx hb hts hinX12 hown hK hP 0 rfl rfl 13 (by decide) hw2 (fun _ h9 => h9) rfl dX12_comesOn_14 ?_
  refine xq_iald hx hb hK hP 2 0 rfl rfl hf dX12_comesOn_17 (fun v_2 hf => ?_)
  refine lv_iadd hx hb dX12_comesOn_18 ?_
  refine lv_istore_n (lv' := [(2, .int (v_1 + v_2)), (0, .ref a_p0), (1, .int p1)]) hx hb dX12_comesOn_19 rfl hl (by decide) rfl (fun ls hl => ?_)
  refine lv_aload_n hx hb dX12_comesOn_20 rfl (lv_at hl 1 rfl) ?_
  refine va_get (D := (dC, dI)) (ci := 12) (v := .int (mmI 43)) (C := RX12) (T := TX12) (N := 70) hx hb hts hinX12 hown hK hP 0 rfl rfl 43 (by decide) hw4 (fun _ h9 => h9) rfl dX12_comesOn_21 ?_
  refine lv_if_eq (tgt := 98) hx hb dX12_comesOn_24 (by decide) (fun c_ => ?_) (fun c_ => ?_)
  · have hf := xq_pos hf c_
    refine lv_iconst (v := 0) hx hb dX12_comesOn_98 (by decide) ?_
    have e9 := Option.some.inj hf
    have e9_0 : 0 = r0 := congrArg (fun t => t.1) e9
    have e9_1 : mm_nightOfF = r1 := congrArg (fun t => t.2.1) e9
    have e9_2 : mm_mileOfF = r2 := congrArg (fun t => t.2.2.1) e9
    have e9_3 : mm_roundsOfF = r3 := congrArg (fun t => t.2.2.2.1) e9
    have e9_4 : mm_talkingOfF = r4 := congrArg (fun t => t.2.2.2.2.1) e9
    have e9_5 : mm_hushOfF = r5 := congrArg (fun t => t.2.2.2.2.2.1) e9
    have e9_6 : mm_rowOfF = r6 := congrArg (fun t => t.2.2.2.2.2.2.1) e9
    have e9_7 : mm_keptManyF = r7 := congrArg (fun t => t.2.2.2.2.2.2.2.1) e9
    have e9_8 : mm_talkOfF = r8 := congrArg (fun t => t.2.2.2.2.2.2.2.2.1) e9
    have e9_9 : mm_keptRowF = r9 := congrArg (fun t => t.2.2.2.2.2.2.2.2.2) e9
    clear e9 hf
    try clear l107
    try clear l226
    try clear l258
    try clear l301
    try clear ih107
    try clear ih226
    try clear ih258
    try clear ih301
    subst e9_0
    subst e9_1
    subst e9_2
    subst e9_3
    subst e9_4
    subst e9_5
    subst e9_6
    subst e9_7
    subst e9_8
    subst e9_9
    exact xq_zret hx hb hr (by decide +kernel) hlocks hK hP hD hS dX12_comesOn_99
  · have hf := xq_neg hf c_
    refine lv_iload_n hx hb dX12_comesOn_27 rfl (lv_at hl 2 rfl) ?_
    refine lv_bipush (v := 9) hx hb dX12_comesOn_28 (by decide) ?_
    refine lv_iload_n hx hb dX12_comesOn_30 rfl (lv_at hl 0 rfl) ?_
    refine lv_iadd hx hb dX12_comesOn_31 ?_
    refine lv_icmp_ne (tgt := 98) hx hb dX12_comesOn_32 (by decide) (fun c_ => ?_) (fun c_ => ?_)
    · have hf := xq_neg hf c_
      refine lv_iconst (v := 0) hx hb dX12_comesOn_98 (by decide) ?_
      have e9 := Option.some.inj hf
      have e9_0 : 0 = r0 := congrArg (fun t => t.1) e9
      have e9_1 : mm_nightOfF = r1 := congrArg (fun t => t.2.1) e9
      have e9_2 : mm_mileOfF = r2 := congrArg (fun t => t.2.2.1) e9
      have e9_3 : mm_roundsOfF = r3 := congrArg (fun t => t.2.2.2.1) e9
      have e9_4 : mm_talkingOfF = r4 := congrArg (fun t => t.2.2.2.2.1) e9
      have e9_5 : mm_hushOfF = r5 := congrArg (fun t => t.2.2.2.2.2.1) e9
      have e9_6 : mm_rowOfF = r6 := congrArg (fun t => t.2.2.2.2.2.2.1) e9
      have e9_7 : mm_keptManyF = r7 := congrArg (fun t => t.2.2.2.2.2.2.2.1) e9
      have e9_8 : mm_talkOfF = r8 := congrArg (fun t => t.2.2.2.2.2.2.2.2.1) e9
      have e9_9 : mm_keptRowF = r9 := congrArg (fun t => t.2.2.2.2.2.2.2.2.2) e9
      clear e9 hf
      try clear l107
      try clear l226
      try clear l258
      try clear l301
      try clear ih107
      try clear ih226
      try clear ih258
      try clear ih301
      subst e9_0
      subst e9_1
      subst e9_2
      subst e9_3
      subst e9_4
      subst e9_5
      subst e9_6
      subst e9_7
      subst e9_8
      subst e9_9
      exact xq_zret hx hb hr (by decide +kernel) hlocks hK hP hD hS dX12_comesOn_99
    · have hf := xq_pos hf c_
      refine lv_aload_n hx hb dX12_comesOn_35 rfl (lv_at hl 1 rfl) ?_
      refine lv_iconst (v := 0) hx hb dX12_comesOn_36 (by decide) ?_
      obtain ⟨r_3, h_4, hf⟩ := xq_bd_some hf
      refine xq_callV (As := [.int 0]) (rest := []) (ci := 12) (q0 := 0) ⟨hx, hb, hml, hown, hts⟩ (kX12_twoAt l dC dI cI cB cJ cZ cM z ad N a_p0 mmI mmJ mmR mm_tapeF 0 h_4) (cwV 1 hts gX12_comesOn_X12_twoAt rfl rfl rfl (by decide +kernel) ⟨Nat.le_of_ble_eq_true rfl, Nat.le_of_ble_eq_true rfl⟩) hN hK hP hD hS hA [0, 3] (by decide) rfl rfl rfl rfl rfl rfl hl.1 rfl (Nat.le_of_ble_eq_true rfl) dX12_comesOn_37 ⟨Nat.zero_le _, Nat.zero_le _⟩ (fun H locs hP hD hS => ?_)
      have hP : va_P (dC, dI) vwCl [(a_p0, .inr (12, oX12 mmI mmJ mmR)), ((mmR 18), .inl (cI, 2, .inl mm_earsF)), ((mmR 21), .inl (cI, 2, .inl mm_placesF)), ((mmR 0), .inl (cI, 1800, .inl mm_tapeF)), ((mmR 14), .inl (cI, 2, .inl mm_milesToldF)), ((mmR 45), .inl (cI, 22, .inl mm_nightOfF)), ((mmR 46), .inl (cI, 22, .inl mm_mileOfF)), ((mmR 47), .inl (cI, 22, .inl mm_roundsOfF)), ((mmR 48), .inl (cI, 22, .inl mm_talkingOfF)), ((mmR 49), .inl (cI, 22, .inl mm_hushOfF)), ((mmR 50), .inl (cI, 154, .inl mm_rowOfF)), ((mmR 52), .inl (cI, 22, .inl mm_keptManyF)), ((mmR 51), .inl (cI, 132, .inl mm_talkOfF)), ((mmR 53), .inl (cI, 2640, .inl mm_keptRowF))] H := hP
      have hD : va_D A [(a_p0, .inr (12, oX12 mmI mmJ mmR)), ((mmR 18), .inl (cI, 2, .inl mm_earsF)), ((mmR 21), .inl (cI, 2, .inl mm_placesF)), ((mmR 0), .inl (cI, 1800, .inl mm_tapeF)), ((mmR 14), .inl (cI, 2, .inl mm_milesToldF)), ((mmR 45), .inl (cI, 22, .inl mm_nightOfF)), ((mmR 46), .inl (cI, 22, .inl mm_mileOfF)), ((mmR 47), .inl (cI, 22, .inl mm_roundsOfF)), ((mmR 48), .inl (cI, 22, .inl mm_talkingOfF)), ((mmR 49), .inl (cI, 22, .inl mm_hushOfF)), ((mmR 50), .inl (cI, 154, .inl mm_rowOfF)), ((mmR 52), .inl (cI, 22, .inl mm_keptManyF)), ((mmR 51), .inl (cI, 132, .inl mm_talkOfF)), ((mmR 53), .inl (cI, 2640, .inl mm_keptRowF))] := hD
      refine W.eq (g2 := F0 m 40 ls [.int r_3]) rfl ?_
      refine lv_sipush (v := 999) hx hb dX12_comesOn_40 (by decide) ?_
      refine lv_icmp_gt (tgt := 98) hx hb dX12_comesOn_43 (by decide) (fun c_ => ?_) (fun c_ => ?_)
      · have hf := xq_pos hf c_
        refine lv_iconst (v := 0) hx hb dX12_comesOn_98 (by decide) ?_
        have e9 := Option.some.inj hf
        have e9_0 : 0 = r0 := congrArg (fun t => t.1) e9
        have e9_1 : mm_nightOfF = r1 := congrArg (fun t => t.2.1) e9
        have e9_2 : mm_mileOfF = r2 := congrArg (fun t => t.2.2.1) e9
        have e9_3 : mm_roundsOfF = r3 := congrArg (fun t => t.2.2.2.1) e9
        have e9_4 : mm_talkingOfF = r4 := congrArg (fun t => t.2.2.2.2.1) e9
        have e9_5 : mm_hushOfF = r5 := congrArg (fun t => t.2.2.2.2.2.1) e9
        have e9_6 : mm_rowOfF = r6 := congrArg (fun t => t.2.2.2.2.2.2.1) e9
        have e9_7 : mm_keptManyF = r7 := congrArg (fun t => t.2.2.2.2.2.2.2.1) e9
        have e9_8 : mm_talkOfF = r8 := congrArg (fun t => t.2.2.2.2.2.2.2.2.1) e9
        have e9_9 : mm_keptRowF = r9 := congrArg (fun t => t.2.2.2.2.2.2.2.2.2) e9
        clear e9 hf
        try clear l107
        try clear l226
        try clear l258
        try clear l301
        try clear ih107
        try clear ih226
        try clear ih258
        try clear ih301
        subst e9_0
        subst e9_1
        subst e9_2
        subst e9_3
        subst e9_4
        subst e9_5
        subst e9_6
        subst e9_7
        subst e9_8
        subst e9_9
        exact xq_zret hx hb hr (by decide +kernel) hlocks hK hP hD hS dX12_comesOn_99
      · have hf := xq_neg hf c_
        refine lv_aload_n hx hb dX12_comesOn_46 rfl (lv_at hl 1 rfl) ?_
        refine lv_iconst (v := 2) hx hb dX12_comesOn_47 (by decide) ?_
        obtain ⟨r_5, h_6, hf⟩ := xq_bd_some hf
        refine xq_callV (As := [.int 2]) (rest := []) (ci := 12) (q0 := 0) ⟨hx, hb, hml, hown, hts⟩ (kX12_twoAt l dC dI cI cB cJ cZ cM z ad N a_p0 mmI mmJ mmR mm_tapeF 2 h_6) (cwV 1 hts gX12_comesOn_X12_twoAt rfl rfl rfl (by decide +kernel) ⟨Nat.le_of_ble_eq_true rfl, Nat.le_of_ble_eq_true rfl⟩) hN hK hP hD hS hA [0, 3] (by decide) rfl rfl rfl rfl rfl rfl hl.1 rfl (Nat.le_of_ble_eq_true rfl) dX12_comesOn_48 ⟨Nat.zero_le _, Nat.zero_le _⟩ (fun H locs hP hD hS => ?_)
        have hP : va_P (dC, dI) vwCl [(a_p0, .inr (12, oX12 mmI mmJ mmR)), ((mmR 18), .inl (cI, 2, .inl mm_earsF)), ((mmR 21), .inl (cI, 2, .inl mm_placesF)), ((mmR 0), .inl (cI, 1800, .inl mm_tapeF)), ((mmR 14), .inl (cI, 2, .inl mm_milesToldF)), ((mmR 45), .inl (cI, 22, .inl mm_nightOfF)), ((mmR 46), .inl (cI, 22, .inl mm_mileOfF)), ((mmR 47), .inl (cI, 22, .inl mm_roundsOfF)), ((mmR 48), .inl (cI, 22, .inl mm_talkingOfF)), ((mmR 49), .inl (cI, 22, .inl mm_hushOfF)), ((mmR 50), .inl (cI, 154, .inl mm_rowOfF)), ((mmR 52), .inl (cI, 22, .inl mm_keptManyF)), ((mmR 51), .inl (cI, 132, .inl mm_talkOfF)), ((mmR 53), .inl (cI, 2640, .inl mm_keptRowF))] H := hP
        have hD : va_D A [(a_p0, .inr (12, oX12 mmI mmJ mmR)), ((mmR 18), .inl (cI, 2, .inl mm_earsF)), ((mmR 21), .inl (cI, 2, .inl mm_placesF)), ((mmR 0), .inl (cI, 1800, .inl mm_tapeF)), ((mmR 14), .inl (cI, 2, .inl mm_milesToldF)), ((mmR 45), .inl (cI, 22, .inl mm_nightOfF)), ((mmR 46), .inl (cI, 22, .inl mm_mileOfF)), ((mmR 47), .inl (cI, 22, .inl mm_roundsOfF)), ((mmR 48), .inl (cI, 22, .inl mm_talkingOfF)), ((mmR 49), .inl (cI, 22, .inl mm_hushOfF)), ((mmR 50), .inl (cI, 154, .inl mm_rowOfF)), ((mmR 52), .inl (cI, 22, .inl mm_keptManyF)), ((mmR 51), .inl (cI, 132, .inl mm_talkOfF)), ((mmR 53), .inl (cI, 2640, .inl mm_keptRowF))] := hD
        refine W.eq (g2 := F0 m 51 ls [.int r_5]) rfl ?_
        refine lv_aload_n hx hb dX12_comesOn_51 rfl (lv_at hl 1 rfl) ?_
        refine va_get (D := (dC, dI)) (ci := 12) (v := .ref ((mmR 14))) (C := RX12) (T := TX12) (N := 70) hx hb hts hinX12 hown hK hP 0 rfl rfl 14 (by decide) hw5 (fun _ h9 => h9) rfl dX12_comesOn_52 ?_
        refine lv_aload_n hx hb dX12_comesOn_55 rfl (lv_at hl 1 rfl) ?_
        refine va_get (D := (dC, dI)) (ci := 12) (v := .int (mmI 13)) (C := RX12) (T := TX12) (N := 70) hx hb hts hinX12 hown hK hP 0 rfl rfl 13 (by decide) hw2 (fun _ h9 => h9) rfl dX12_comesOn_56 ?_
        refine xq_iald hx hb hK hP 4 0 rfl rfl hf dX12_comesOn_59 (fun v_7 hf => ?_)
        refine lv_icmp_ge (tgt := 98) hx hb dX12_comesOn_60 (by decide) (fun c_ => ?_) (fun c_ => ?_)
        · have hf := xq_pos hf c_
          refine lv_iconst (v := 0) hx hb dX12_comesOn_98 (by decide) ?_
          have e9 := Option.some.inj hf
          have e9_0 : 0 = r0 := congrArg (fun t => t.1) e9
          have e9_1 : mm_nightOfF = r1 := congrArg (fun t => t.2.1) e9
          have e9_2 : mm_mileOfF = r2 := congrArg (fun t => t.2.2.1) e9
          have e9_3 : mm_roundsOfF = r3 := congrArg (fun t => t.2.2.2.1) e9
          have e9_4 : mm_talkingOfF = r4 := congrArg (fun t => t.2.2.2.2.1) e9
          have e9_5 : mm_hushOfF = r5 := congrArg (fun t => t.2.2.2.2.2.1) e9
          have e9_6 : mm_rowOfF = r6 := congrArg (fun t => t.2.2.2.2.2.2.1) e9
          have e9_7 : mm_keptManyF = r7 := congrArg (fun t => t.2.2.2.2.2.2.2.1) e9
          have e9_8 : mm_talkOfF = r8 := congrArg (fun t => t.2.2.2.2.2.2.2.2.1) e9
          have e9_9 : mm_keptRowF = r9 := congrArg (fun t => t.2.2.2.2.2.2.2.2.2) e9
          clear e9 hf
          try clear l107
          try clear l226
          try clear l258
          try clear l301
          try clear ih107
          try clear ih226
          try clear ih258
          try clear ih301
          subst e9_0
          subst e9_1
          subst e9_2
          subst e9_3
          subst e9_4
          subst e9_5
          subst e9_6
          subst e9_7
          subst e9_8
          subst e9_9
          exact xq_zret hx hb hr (by decide +kernel) hlocks hK hP hD hS dX12_comesOn_99
        · have hf := xq_neg hf c_
          refine lv_aload_n hx hb dX12_comesOn_63 rfl (lv_at hl 1 rfl) ?_
          refine lv_iconst (v := 4) hx hb dX12_comesOn_64 (by decide) ?_
          obtain ⟨r_8, h_9, hf⟩ := xq_bd_some hf
          refine xq_callV (As := [.int 4]) (rest := []) (ci := 12) (q0 := 0) ⟨hx, hb, hml, hown, hts⟩ (kX12_twoAt l dC dI cI cB cJ cZ cM z ad N a_p0 mmI mmJ mmR mm_tapeF 4 h_9) (cwV 1 hts gX12_comesOn_X12_twoAt rfl rfl rfl (by decide +kernel) ⟨Nat.le_of_ble_eq_true rfl, Nat.le_of_ble_eq_true rfl⟩) hN hK hP hD hS hA [0, 3] (by decide) rfl rfl rfl rfl rfl rfl hl.1 rfl (Nat.le_of_ble_eq_true rfl) dX12_comesOn_65 ⟨Nat.zero_le _, Nat.zero_le _⟩ (fun H locs hP hD hS => ?_)
          have hP : va_P (dC, dI) vwCl [(a_p0, .inr (12, oX12 mmI mmJ mmR)), ((mmR 18), .inl (cI, 2, .inl mm_earsF)), ((mmR 21), .inl (cI, 2, .inl mm_placesF)), ((mmR 0), .inl (cI, 1800, .inl mm_tapeF)), ((mmR 14), .inl (cI, 2, .inl mm_milesToldF)), ((mmR 45), .inl (cI, 22, .inl mm_nightOfF)), ((mmR 46), .inl (cI, 22, .inl mm_mileOfF)), ((mmR 47), .inl (cI, 22, .inl mm_roundsOfF)), ((mmR 48), .inl (cI, 22, .inl mm_talkingOfF)), ((mmR 49), .inl (cI, 22, .inl mm_hushOfF)), ((mmR 50), .inl (cI, 154, .inl mm_rowOfF)), ((mmR 52), .inl (cI, 22, .inl mm_keptManyF)), ((mmR 51), .inl (cI, 132, .inl mm_talkOfF)), ((mmR 53), .inl (cI, 2640, .inl mm_keptRowF))] H := hP
          have hD : va_D A [(a_p0, .inr (12, oX12 mmI mmJ mmR)), ((mmR 18), .inl (cI, 2, .inl mm_earsF)), ((mmR 21), .inl (cI, 2, .inl mm_placesF)), ((mmR 0), .inl (cI, 1800, .inl mm_tapeF)), ((mmR 14), .inl (cI, 2, .inl mm_milesToldF)), ((mmR 45), .inl (cI, 22, .inl mm_nightOfF)), ((mmR 46), .inl (cI, 22, .inl mm_mileOfF)), ((mmR 47), .inl (cI, 22, .inl mm_roundsOfF)), ((mmR 48), .inl (cI, 22, .inl mm_talkingOfF)), ((mmR 49), .inl (cI, 22, .inl mm_hushOfF)), ((mmR 50), .inl (cI, 154, .inl mm_rowOfF)), ((mmR 52), .inl (cI, 22, .inl mm_keptManyF)), ((mmR 51), .inl (cI, 132, .inl mm_talkOfF)), ((mmR 53), .inl (cI, 2640, .inl mm_keptRowF))] := hD
          refine W.eq (g2 := F0 m 68 ls [.int r_8]) rfl ?_
          refine lv_sipush (v := 999) hx hb dX12_comesOn_68 (by decide) ?_
          refine lv_icmp_gt (tgt := 98) hx hb dX12_comesOn_71 (by decide) (fun c_ => ?_) (fun c_ => ?_)
          · have hf := xq_pos hf c_
            refine lv_iconst (v := 0) hx hb dX12_comesOn_98 (by decide) ?_
            have e9 := Option.some.inj hf
            have e9_0 : 0 = r0 := congrArg (fun t => t.1) e9
            have e9_1 : mm_nightOfF = r1 := congrArg (fun t => t.2.1) e9
            have e9_2 : mm_mileOfF = r2 := congrArg (fun t => t.2.2.1) e9
            have e9_3 : mm_roundsOfF = r3 := congrArg (fun t => t.2.2.2.1) e9
            have e9_4 : mm_talkingOfF = r4 := congrArg (fun t => t.2.2.2.2.1) e9
            have e9_5 : mm_hushOfF = r5 := congrArg (fun t => t.2.2.2.2.2.1) e9
            have e9_6 : mm_rowOfF = r6 := congrArg (fun t => t.2.2.2.2.2.2.1) e9
            have e9_7 : mm_keptManyF = r7 := congrArg (fun t => t.2.2.2.2.2.2.2.1) e9
            have e9_8 : mm_talkOfF = r8 := congrArg (fun t => t.2.2.2.2.2.2.2.2.1) e9
            have e9_9 : mm_keptRowF = r9 := congrArg (fun t => t.2.2.2.2.2.2.2.2.2) e9
            clear e9 hf
            try clear l107
            try clear l226
            try clear l258
            try clear l301
            try clear ih107
            try clear ih226
            try clear ih258
            try clear ih301
            subst e9_0
            subst e9_1
            subst e9_2
            subst e9_3
            subst e9_4
            subst e9_5
            subst e9_6
            subst e9_7
            subst e9_8
            subst e9_9
            exact xq_zret hx hb hr (by decide +kernel) hlocks hK hP hD hS dX12_comesOn_99
          · have hf := xq_neg hf c_
            refine lv_aload_n hx hb dX12_comesOn_74 rfl (lv_at hl 1 rfl) ?_
            refine va_get (D := (dC, dI)) (ci := 12) (v := .ref ((mmR 0))) (C := RX12) (T := TX12) (N := 70) hx hb hts hinX12 hown hK hP 0 rfl rfl 0 (by decide) hw6 (fun _ h9 => h9) rfl dX12_comesOn_75 ?_
            refine lv_bipush (v := 6) hx hb dX12_comesOn_78 (by decide) ?_
            refine xq_iald hx hb hK hP 3 0 rfl rfl hf dX12_comesOn_80 (fun v_10 hf => ?_)
            refine lv_bipush (v := 20) hx hb dX12_comesOn_81 (by decide) ?_
            refine lv_icmp_gt (tgt := 98) hx hb dX12_comesOn_83 (by decide) (fun c_ => ?_) (fun c_ => ?_)
            · have hf := xq_pos hf c_
              refine lv_iconst (v := 0) hx hb dX12_comesOn_98 (by decide) ?_
              have e9 := Option.some.inj hf
              have e9_0 : 0 = r0 := congrArg (fun t => t.1) e9
              have e9_1 : mm_nightOfF = r1 := congrArg (fun t => t.2.1) e9
              have e9_2 : mm_mileOfF = r2 := congrArg (fun t => t.2.2.1) e9
              have e9_3 : mm_roundsOfF = r3 := congrArg (fun t => t.2.2.2.1) e9
              have e9_4 : mm_talkingOfF = r4 := congrArg (fun t => t.2.2.2.2.1) e9
              have e9_5 : mm_hushOfF = r5 := congrArg (fun t => t.2.2.2.2.2.1) e9
              have e9_6 : mm_rowOfF = r6 := congrArg (fun t => t.2.2.2.2.2.2.1) e9
              have e9_7 : mm_keptManyF = r7 := congrArg (fun t => t.2.2.2.2.2.2.2.1) e9
              have e9_8 : mm_talkOfF = r8 := congrArg (fun t => t.2.2.2.2.2.2.2.2.1) e9
              have e9_9 : mm_keptRowF = r9 := congrArg (fun t => t.2.2.2.2.2.2.2.2.2) e9
              clear e9 hf
              try clear l107
              try clear l226
              try clear l258
              try clear l301
              try clear ih107
              try clear ih226
              try clear ih258
              try clear ih301
              subst e9_0
              subst e9_1
              subst e9_2
              subst e9_3
              subst e9_4
              subst e9_5
              subst e9_6
              subst e9_7
              subst e9_8
              subst e9_9
              exact xq_zret hx hb hr (by decide +kernel) hlocks hK hP hD hS dX12_comesOn_99
            · have hf := xq_neg hf c_
              refine lv_aload_n hx hb dX12_comesOn_86 rfl (lv_at hl 1 rfl) ?_
              refine va_get (D := (dC, dI)) (ci := 12) (v := .ref ((mmR 0))) (C := RX12) (T := TX12) (N := 70) hx hb hts hinX12 hown hK hP 0 rfl rfl 0 (by decide) hw6 (fun _ h9 => h9) rfl dX12_comesOn_87 ?_
              refine lv_bipush (v := 7) hx hb dX12_comesOn_90 (by decide) ?_
              refine xq_iald hx hb hK hP 3 0 rfl rfl hf dX12_comesOn_92 (fun v_11 hf => ?_)
              refine lv_bipush (v := 9) hx hb dX12_comesOn_93 (by decide) ?_
              refine lv_icmp_le (tgt := 100) hx hb dX12_comesOn_95 (by decide) (fun c_ => ?_) (fun c_ => ?_)
              · have hf := xq_pos hf c_
                refine lv_sipush (v := 239) hx hb dX12_comesOn_100 (by decide) ?_
                refine lv_istore_n (lv' := [(3, .int 239), (2, .int (v_1 + v_2)), (0, .ref a_p0), (1, .int p1)]) hx hb dX12_comesOn_103 rfl hl (by decide) rfl (fun ls hl => ?_)
                refine lv_iconst (v := 0) hx hb dX12_comesOn_104 (by decide) ?_
                refine lv_istore (lv' := [(4, .int 0), (3, .int 239), (2, .int (v_1 + v_2)), (0, .ref a_p0), (1, .int p1)]) hx hb dX12_comesOn_105 hl (by decide) rfl (fun ls hl => ?_)
                exact l107 N mm_nightOfF mm_mileOfF mm_roundsOfF mm_talkingOfF mm_hushOfF mm_rowOfF mm_keptManyF mm_talkOfF mm_keptRowF p1 (v_1 + v_2) 239 0 _ _ _ hf hP hD hS (lv_sub hl [3, 4, 2, 1, 0] rfl)
              · have hf := xq_neg hf c_
                refine lv_iconst (v := 0) hx hb dX12_comesOn_98 (by decide) ?_
                have e9 := Option.some.inj hf
                have e9_0 : 0 = r0 := congrArg (fun t => t.1) e9
                have e9_1 : mm_nightOfF = r1 := congrArg (fun t => t.2.1) e9
                have e9_2 : mm_mileOfF = r2 := congrArg (fun t => t.2.2.1) e9
                have e9_3 : mm_roundsOfF = r3 := congrArg (fun t => t.2.2.2.1) e9
                have e9_4 : mm_talkingOfF = r4 := congrArg (fun t => t.2.2.2.2.1) e9
                have e9_5 : mm_hushOfF = r5 := congrArg (fun t => t.2.2.2.2.2.1) e9
                have e9_6 : mm_rowOfF = r6 := congrArg (fun t => t.2.2.2.2.2.2.1) e9
                have e9_7 : mm_keptManyF = r7 := congrArg (fun t => t.2.2.2.2.2.2.2.1) e9
                have e9_8 : mm_talkOfF = r8 := congrArg (fun t => t.2.2.2.2.2.2.2.2.1) e9
                have e9_9 : mm_keptRowF = r9 := congrArg (fun t => t.2.2.2.2.2.2.2.2.2) e9
                clear e9 hf
                try clear l107
                try clear l226
                try clear l258
                try clear l301
                try clear ih107
                try clear ih226
                try clear ih258
                try clear ih301
                subst e9_0
                subst e9_1
                subst e9_2
                subst e9_3
                subst e9_4
                subst e9_5
                subst e9_6
                subst e9_7
                subst e9_8
                subst e9_9
                exact xq_zret hx hb hr (by decide +kernel) hlocks hK hP hD hS dX12_comesOn_99
set_option maxRecDepth 20000 in
theorem ggX12_on_X12_comesOn : GoodIn wsX12_on wsX12_comesOn := goodIn_r _ [7, 8, 9, 10, 11, 12, 13, 14, 15, 16, 17, 18, 19, 20, 21, 22, 23, 24, 6, 25, 26, 27, 28, 29, 30, 36, 37, 38, 39, 40, 41, 42, 43, 44, 45, 46, 47, 48, 49, 50, 51, 52, 53, 54, 55, 56, 57, 58, 59, 60, 61, 62, 63, 64, 65, 66, 67, 68, 69, 70, 71, 72, 73, 74, 75, 76, 77, 78, 79, 80, 81, 82, 83, 84, 85, 86, 87, 88, 89, 90, 91, 92, 93, 94, 95, 96, 97, 98, 99, 100, 101, 102, 103, 104, 105] rfl (by decide +kernel)
set_option maxRecDepth 20000 in
theorem gX12_on_X12_comesOn : GoodIn wsX12_on (wsV RX12 515 RX12 yX12_comesOn wsX12_comesOn) := goodIn_app (goodIn_of _ (by decide +kernel)) ggX12_on_X12_comesOn
set_option maxRecDepth 20000 in
theorem ggX12_on_X12_refuses : GoodIn wsX12_on wsX12_refuses := goodIn_r _ [34, 35, 36, 37, 38, 39, 40, 41, 42, 43, 44, 45, 46, 47, 48, 49, 50, 51, 52, 53, 54, 55, 56, 57, 58, 59, 60, 61, 62, 63, 64, 65, 66, 67, 68, 69, 70, 71, 72, 73, 74, 75, 76, 77, 78, 79, 80, 81, 82, 83, 84, 85, 86, 87, 88, 89, 90, 91, 92, 93, 94, 95, 96, 97, 98, 99, 100, 101, 102, 103, 104, 105] rfl (by decide +kernel)
set_option maxRecDepth 20000 in
theorem gX12_on_X12_refuses : GoodIn wsX12_on (wsV RX12 225 RX12 yX12_refuses wsX12_refuses) := goodIn_app (goodIn_of _ (by decide +kernel)) ggX12_on_X12_refuses
set_option maxRecDepth 20000 in
theorem ggX12_on_X12_copies : GoodIn wsX12_on wsX12_copies := goodIn_r _ [29, 14, 15, 16, 17, 18, 20, 21, 19, 30, 36, 37, 38, 39, 40, 41, 42, 43, 44, 45, 46, 47, 48, 49, 50, 51, 52, 53, 54, 55, 56, 57, 58, 59, 60, 61, 62, 63, 64, 65, 66, 67, 68, 69, 70, 71, 72, 73, 74, 75, 76, 77, 78, 79, 80, 81, 82, 83, 84, 85, 86, 87, 88, 89, 90, 91, 92, 93, 94, 95, 96, 97, 98, 99, 100, 101, 102, 103, 104, 105] rfl (by decide +kernel)
set_option maxRecDepth 20000 in
theorem gX12_on_X12_copies : GoodIn wsX12_on (wsV RX12 394 RX12 yX12_copies wsX12_copies) := goodIn_app (goodIn_of _ (by decide +kernel)) ggX12_on_X12_copies
def dsX12_on_0 : List (Nat × Instr × Nat) := [(0, (.aload_n 0, 1)), (1, (.getfield 13, 3)), (4, (.istore_n 1, 1)), (5, (.aload_n 0, 1)), (6, (.iconst 0, 1)), (7, (.putfield 13, 3)), (10, (.aload_n 0, 1)), (11, (.iload_n 1, 1)), (12, (.invokevirtual 515, 3)), (15, (.ifCond .ne 17, 3)), (18, (.aload_n 0, 1)), (19, (.iconst 5, 1)), (20, (.invokevirtual 225, 3)), (23, (.ifCond .lt 7, 3)), (26, (.iconst 1, 1)), (27, (.goto 4, 3)), (30, (.iconst 0, 1)), (31, (.ireturn, 1)), (32, (.aload_n 0, 1)), (33, (.iconst 0, 1)), (34, (.iconst 1, 1)), (35, (.invokevirtual 394, 3)), (38, (.aload_n 0, 1)), (39, (.iconst 0, 1)), (40, (.putfield 180, 3)), (43, (.iconst 1, 1)), (44, (.ireturn, 1))]
theorem dsX12_on_0_ok : (dsX12_on_0.all fun q => decide (decode cX12_on q.1 = .ok q.2)) = true := by decide +kernel
theorem dX12_on_0 : decode cX12_on 0 = .ok (.aload_n 0, 1) := of_decide_eq_true (List.all_eq_true.mp dsX12_on_0_ok (0, (.aload_n 0, 1)) (List.mem_of_getElem? (i := 0) rfl))
theorem dX12_on_1 : decode cX12_on 1 = .ok (.getfield 13, 3) := of_decide_eq_true (List.all_eq_true.mp dsX12_on_0_ok (1, (.getfield 13, 3)) (List.mem_of_getElem? (i := 1) rfl))
theorem dX12_on_4 : decode cX12_on 4 = .ok (.istore_n 1, 1) := of_decide_eq_true (List.all_eq_true.mp dsX12_on_0_ok (4, (.istore_n 1, 1)) (List.mem_of_getElem? (i := 2) rfl))
theorem dX12_on_5 : decode cX12_on 5 = .ok (.aload_n 0, 1) := of_decide_eq_true (List.all_eq_true.mp dsX12_on_0_ok (5, (.aload_n 0, 1)) (List.mem_of_getElem? (i := 3) rfl))
theorem dX12_on_6 : decode cX12_on 6 = .ok (.iconst 0, 1) := of_decide_eq_true (List.all_eq_true.mp dsX12_on_0_ok (6, (.iconst 0, 1)) (List.mem_of_getElem? (i := 4) rfl))
theorem dX12_on_7 : decode cX12_on 7 = .ok (.putfield 13, 3) := of_decide_eq_true (List.all_eq_true.mp dsX12_on_0_ok (7, (.putfield 13, 3)) (List.mem_of_getElem? (i := 5) rfl))
theorem dX12_on_10 : decode cX12_on 10 = .ok (.aload_n 0, 1) := of_decide_eq_true (List.all_eq_true.mp dsX12_on_0_ok (10, (.aload_n 0, 1)) (List.mem_of_getElem? (i := 6) rfl))
theorem dX12_on_11 : decode cX12_on 11 = .ok (.iload_n 1, 1) := of_decide_eq_true (List.all_eq_true.mp dsX12_on_0_ok (11, (.iload_n 1, 1)) (List.mem_of_getElem? (i := 7) rfl))
theorem dX12_on_12 : decode cX12_on 12 = .ok (.invokevirtual 515, 3) := of_decide_eq_true (List.all_eq_true.mp dsX12_on_0_ok (12, (.invokevirtual 515, 3)) (List.mem_of_getElem? (i := 8) rfl))
theorem dX12_on_15 : decode cX12_on 15 = .ok (.ifCond .ne 17, 3) := of_decide_eq_true (List.all_eq_true.mp dsX12_on_0_ok (15, (.ifCond .ne 17, 3)) (List.mem_of_getElem? (i := 9) rfl))
theorem dX12_on_18 : decode cX12_on 18 = .ok (.aload_n 0, 1) := of_decide_eq_true (List.all_eq_true.mp dsX12_on_0_ok (18, (.aload_n 0, 1)) (List.mem_of_getElem? (i := 10) rfl))
theorem dX12_on_19 : decode cX12_on 19 = .ok (.iconst 5, 1) := of_decide_eq_true (List.all_eq_true.mp dsX12_on_0_ok (19, (.iconst 5, 1)) (List.mem_of_getElem? (i := 11) rfl))
theorem dX12_on_20 : decode cX12_on 20 = .ok (.invokevirtual 225, 3) := of_decide_eq_true (List.all_eq_true.mp dsX12_on_0_ok (20, (.invokevirtual 225, 3)) (List.mem_of_getElem? (i := 12) rfl))
theorem dX12_on_23 : decode cX12_on 23 = .ok (.ifCond .lt 7, 3) := of_decide_eq_true (List.all_eq_true.mp dsX12_on_0_ok (23, (.ifCond .lt 7, 3)) (List.mem_of_getElem? (i := 13) rfl))
theorem dX12_on_26 : decode cX12_on 26 = .ok (.iconst 1, 1) := of_decide_eq_true (List.all_eq_true.mp dsX12_on_0_ok (26, (.iconst 1, 1)) (List.mem_of_getElem? (i := 14) rfl))
theorem dX12_on_27 : decode cX12_on 27 = .ok (.goto 4, 3) := of_decide_eq_true (List.all_eq_true.mp dsX12_on_0_ok (27, (.goto 4, 3)) (List.mem_of_getElem? (i := 15) rfl))
theorem dX12_on_30 : decode cX12_on 30 = .ok (.iconst 0, 1) := of_decide_eq_true (List.all_eq_true.mp dsX12_on_0_ok (30, (.iconst 0, 1)) (List.mem_of_getElem? (i := 16) rfl))
theorem dX12_on_31 : decode cX12_on 31 = .ok (.ireturn, 1) := of_decide_eq_true (List.all_eq_true.mp dsX12_on_0_ok (31, (.ireturn, 1)) (List.mem_of_getElem? (i := 17) rfl))
theorem dX12_on_32 : decode cX12_on 32 = .ok (.aload_n 0, 1) := of_decide_eq_true (List.all_eq_true.mp dsX12_on_0_ok (32, (.aload_n 0, 1)) (List.mem_of_getElem? (i := 18) rfl))
theorem dX12_on_33 : decode cX12_on 33 = .ok (.iconst 0, 1) := of_decide_eq_true (List.all_eq_true.mp dsX12_on_0_ok (33, (.iconst 0, 1)) (List.mem_of_getElem? (i := 19) rfl))
theorem dX12_on_34 : decode cX12_on 34 = .ok (.iconst 1, 1) := of_decide_eq_true (List.all_eq_true.mp dsX12_on_0_ok (34, (.iconst 1, 1)) (List.mem_of_getElem? (i := 20) rfl))
theorem dX12_on_35 : decode cX12_on 35 = .ok (.invokevirtual 394, 3) := of_decide_eq_true (List.all_eq_true.mp dsX12_on_0_ok (35, (.invokevirtual 394, 3)) (List.mem_of_getElem? (i := 21) rfl))
theorem dX12_on_38 : decode cX12_on 38 = .ok (.aload_n 0, 1) := of_decide_eq_true (List.all_eq_true.mp dsX12_on_0_ok (38, (.aload_n 0, 1)) (List.mem_of_getElem? (i := 22) rfl))
theorem dX12_on_39 : decode cX12_on 39 = .ok (.iconst 0, 1) := of_decide_eq_true (List.all_eq_true.mp dsX12_on_0_ok (39, (.iconst 0, 1)) (List.mem_of_getElem? (i := 23) rfl))
theorem dX12_on_40 : decode cX12_on 40 = .ok (.putfield 180, 3) := of_decide_eq_true (List.all_eq_true.mp dsX12_on_0_ok (40, (.putfield 180, 3)) (List.mem_of_getElem? (i := 24) rfl))
theorem dX12_on_43 : decode cX12_on 43 = .ok (.iconst 1, 1) := of_decide_eq_true (List.all_eq_true.mp dsX12_on_0_ok (43, (.iconst 1, 1)) (List.mem_of_getElem? (i := 25) rfl))
theorem dX12_on_44 : decode cX12_on 44 = .ok (.ireturn, 1) := of_decide_eq_true (List.all_eq_true.mp dsX12_on_0_ok (44, (.ireturn, 1)) (List.mem_of_getElem? (i := 26) rfl))
def fX12_on (N : Nat) (mmI : Nat → Int32) (mm_earsF : Nat → Int32) (mm_placesF : Nat → Int32) (mm_tapeF : Nat → Int32) (mm_milesToldF : Nat → Int32) (mm_nightOfF : Nat → Int32) (mm_mileOfF : Nat → Int32) (mm_roundsOfF : Nat → Int32) (mm_talkingOfF : Nat → Int32) (mm_hushOfF : Nat → Int32) (mm_rowOfF : Nat → Int32) (mm_keptManyF : Nat → Int32) (mm_talkOfF : Nat → Int32) (mm_keptRowF : Nat → Int32) (mm_refusedF : Nat → Int32)   : Option (Int32 × (Nat → Int32) × (Nat → Int32) × (Nat → Int32) × (Nat → Int32) × (Nat → Int32) × (Nat → Int32) × (Nat → Int32) × (Nat → Int32) × (Nat → Int32) × (Nat → Int32) × (Nat → Int32)) :=
  (xq_bd (fX12_comesOn N ((va_up mmI 1 0)) mm_earsF mm_placesF mm_tapeF mm_milesToldF mm_nightOfF mm_mileOfF mm_roundsOfF mm_talkingOfF mm_hushOfF mm_rowOfF mm_keptManyF mm_talkOfF mm_keptRowF (mmI 1)) fun (r_1_0, r_1_1, r_1_2, r_1_3, r_1_4, r_1_5, r_1_6, r_1_7, r_1_8, r_1_9) => (if r_1_0 = 0 then (xq_bd (fX12_refuses N mm_refusedF 5) fun (r_5_0, r_5_1) => (if r_5_0 < 0 then some ((0, (va_up mmI 1 0), r_1_1, r_1_2, r_1_3, r_1_4, r_1_5, r_1_6, r_1_7, r_1_8, r_1_9, r_5_1)) else some ((1, (va_up mmI 1 0), r_1_1, r_1_2, r_1_3, r_1_4, r_1_5, r_1_6, r_1_7, r_1_8, r_1_9, r_5_1)))) else (xq_bd (fX12_copies N r_1_1 r_1_2 r_1_3 r_1_4 r_1_5 r_1_6 r_1_7 r_1_8 r_1_9 0 1) fun (r_3_0, r_3_1, r_3_2, r_3_3, r_3_4, r_3_5, r_3_6, r_3_7, r_3_8) => some ((1, (va_up (va_up mmI 1 0) 55 0), r_3_0, r_3_1, r_3_2, r_3_3, r_3_4, r_3_5, r_3_6, r_3_7, r_3_8, mm_refusedF)))))
set_option maxHeartbeats 4000000 in
set_option maxRecDepth 100000 in
theorem kX12_on (l : Launch) (dC : Nat → ClassId) (dI : Nat → Nat → Nat) (cI cB cJ cZ cM : ClassId) (z : Nat) (ad : Nat → Nat) (N : Nat) (a_p0 : Nat) (mmI : Nat → Int32) (mmJ : Nat → Int64) (mmR : Nat → Nat) (mm_earsF : Nat → Int32) (mm_placesF : Nat → Int32) (mm_tapeF : Nat → Int32) (mm_milesToldF : Nat → Int32) (mm_nightOfF : Nat → Int32) (mm_mileOfF : Nat → Int32) (mm_roundsOfF : Nat → Int32) (mm_talkingOfF : Nat → Int32) (mm_hushOfF : Nat → Int32) (mm_rowOfF : Nat → Int32) (mm_keptManyF : Nat → Int32) (mm_talkOfF : Nat → Int32) (mm_keptRowF : Nat → Int32) (mm_refusedF : Nat → Int32) {r0 : Int32} {r1 : Nat → Int32} {r2 : Nat → Int32} {r3 : Nat → Int32} {r4 : Nat → Int32} {r5 : Nat → Int32} {r6 : Nat → Int32} {r7 : Nat → Int32} {r8 : Nat → Int32} {r9 : Nat → Int32} {r10 : Nat → Int32} {r11 : Nat → Int32} (hf : fX12_on N mmI mm_earsF mm_placesF mm_tapeF mm_milesToldF mm_nightOfF mm_mileOfF mm_roundsOfF mm_talkingOfF mm_hushOfF mm_rowOfF mm_keptManyF mm_talkOfF mm_keptRowF mm_refusedF = some (r0, r1, r2, r3, r4, r5, r6, r7, r8, r9, r10, r11)) : xq_Ct l yX12_on wsX12_on { frames := 2, cells := 0, slots := 0, locals := 47 } (dC, dI) vwCl (xq_tys cI cB cJ cZ cM) z ad [.ref a_p0] [(a_p0, .inr (12, oX12 mmI mmJ mmR)), ((mmR 18), .inl (cI, 2, .inl mm_earsF)), ((mmR 21), .inl (cI, 2, .inl mm_placesF)), ((mmR 0), .inl (cI, 1800, .inl mm_tapeF)), ((mmR 14), .inl (cI, 2, .inl mm_milesToldF)), ((mmR 45), .inl (cI, 22, .inl mm_nightOfF)), ((mmR 46), .inl (cI, 22, .inl mm_mileOfF)), ((mmR 47), .inl (cI, 22, .inl mm_roundsOfF)), ((mmR 48), .inl (cI, 22, .inl mm_talkingOfF)), ((mmR 49), .inl (cI, 22, .inl mm_hushOfF)), ((mmR 50), .inl (cI, 154, .inl mm_rowOfF)), ((mmR 52), .inl (cI, 22, .inl mm_keptManyF)), ((mmR 51), .inl (cI, 132, .inl mm_talkOfF)), ((mmR 53), .inl (cI, 2640, .inl mm_keptRowF)), ((mmR 44), .inl (cI, 6, .inl mm_refusedF))] [(a_p0, .inr (12, oX12 r1 mmJ mmR)), ((mmR 18), .inl (cI, 2, .inl mm_earsF)), ((mmR 21), .inl (cI, 2, .inl mm_placesF)), ((mmR 0), .inl (cI, 1800, .inl mm_tapeF)), ((mmR 14), .inl (cI, 2, .inl mm_milesToldF)), ((mmR 45), .inl (cI, 22, .inl r2)), ((mmR 46), .inl (cI, 22, .inl r3)), ((mmR 47), .inl (cI, 22, .inl r4)), ((mmR 48), .inl (cI, 22, .inl r5)), ((mmR 49), .inl (cI, 22, .inl r6)), ((mmR 50), .inl (cI, 154, .inl r7)), ((mmR 52), .inl (cI, 22, .inl r8)), ((mmR 51), .inl (cI, 132, .inl r9)), ((mmR 53), .inl (cI, 2640, .inl r10)), ((mmR 44), .inl (cI, 6, .inl r11))] (some (.int r0)) := by
  intro sz
  refine Met.ofW (cc := cX12_on) (maxL := 2) (ret := (some .boolean)) (by decide) rfl ?_
  intro p e s m args below meth c s₁ B hml hv
  obtain ⟨rfl, hsz, hP, hK, hD0, hE, hz⟩ := hv
  have hx := B.exec
  have hb := B.bytes
  have hr := B.returns
  have hts := atoms_spec (ws := wsX12_on) B.pre
  have hown : s.vm.findClass RX12 = some m.cls := findClass_of_methodNamed B.named
  have hlocks := B.notSynchronized
  subst hsz
  have hD := hD0.self (sz := s.heap.size)
  have hN := xq_Env.of hE hz hD0
  generalize hAe : va_A [(a_p0, .inr (12, oX12 mmI mmJ mmR)), ((mmR 18), .inl (cI, 2, .inl mm_earsF)), ((mmR 21), .inl (cI, 2, .inl mm_placesF)), ((mmR 0), .inl (cI, 1800, .inl mm_tapeF)), ((mmR 14), .inl (cI, 2, .inl mm_milesToldF)), ((mmR 45), .inl (cI, 22, .inl mm_nightOfF)), ((mmR 46), .inl (cI, 22, .inl mm_mileOfF)), ((mmR 47), .inl (cI, 22, .inl mm_roundsOfF)), ((mmR 48), .inl (cI, 22, .inl mm_talkingOfF)), ((mmR 49), .inl (cI, 22, .inl mm_hushOfF)), ((mmR 50), .inl (cI, 154, .inl mm_rowOfF)), ((mmR 52), .inl (cI, 22, .inl mm_keptManyF)), ((mmR 51), .inl (cI, 132, .inl mm_talkOfF)), ((mmR 53), .inl (cI, 2640, .inl mm_keptRowF)), ((mmR 44), .inl (cI, 6, .inl mm_refusedF))] s.heap.size = A at hD hN ⊢
  have hA : ∀ q : Nat, s.heap.size ≤ q → A q := fun q h => by rw [← hAe]; exact Or.inr h
  clear hAe hD0
  have hS : va_S A s.heap s.heap [] := va_S.rf
  have hl := lv_entry ([.ref a_p0]) (n := 2) (Nat.le_of_ble_eq_true rfl)
  rw [lg_entry_eq]
  generalize (lg_sl ([.ref a_p0]) ++ List.replicate (2 - (lg_sl ([.ref a_p0])).length) Slot.unset).toArray = ls at hl ⊢
  have hl : lv_has ls 2 [(0, .ref a_p0)] := hl
  have hw0 := hts (.fieldLink RX12 13 "DistantVoiceModel" "taped" "I") (by decide +kernel)
  have hinX12 : ∀ w ∈ wsX120, w ∈ wsX12_on := fun w h => List.mem_cons_of_mem _ (List.mem_append_right _ h)
  have hw2 := hts (.fieldLink RX12 180 "DistantVoiceModel" "undos" "I") (by decide +kernel)
  unfold fX12_on at hf
  refine lv_aload_n hx hb dX12_on_0 rfl (lv_at hl 0 rfl) ?_
  refine va_get (D := (dC, dI)) (ci := 12) (v := .int (mmI 1)) (C := RX12) (T := TX12) (N := 70) hx hb hts hinX12 hown hK hP 0 rfl rfl 1 (by decide) hw0 (fun _ h9 => h9) rfl dX12_on_1 ?_
  refine lv_istore_n (lv' := [(1, .int (mmI 1)), (0, .ref a_p0)]) hx hb dX12_on_4 rfl hl (by decide) rfl (fun ls hl => ?_)
  refine lv_aload_n hx hb dX12_on_5 rfl (lv_at hl 1 rfl) ?_
  refine lv_iconst (v := 0) hx hb dX12_on_6 (by decide) ?_
  refine va_put (D := (dC, dI)) (ci := 12) (v := .int 0) (ty := .int) (C := RX12) (T := TX12) (N := 70) hx hb hts hinX12 tyX12 tyX12_ok nmX12 hown hK hP hD hS 0 rfl rfl 1 (by decide) hw0 (fun _ h9 => h9) rfl (by decide +kernel) rfl rfl (Nat.le_of_ble_eq_true rfl) dX12_on_7 (fun H locs hP hD hS => ?_)
  have hP : va_P (dC, dI) vwCl [(a_p0, .inr (12, oX12 (va_up mmI 1 0) mmJ mmR)), ((mmR 18), .inl (cI, 2, .inl mm_earsF)), ((mmR 21), .inl (cI, 2, .inl mm_placesF)), ((mmR 0), .inl (cI, 1800, .inl mm_tapeF)), ((mmR 14), .inl (cI, 2, .inl mm_milesToldF)), ((mmR 45), .inl (cI, 22, .inl mm_nightOfF)), ((mmR 46), .inl (cI, 22, .inl mm_mileOfF)), ((mmR 47), .inl (cI, 22, .inl mm_roundsOfF)), ((mmR 48), .inl (cI, 22, .inl mm_talkingOfF)), ((mmR 49), .inl (cI, 22, .inl mm_hushOfF)), ((mmR 50), .inl (cI, 154, .inl mm_rowOfF)), ((mmR 52), .inl (cI, 22, .inl mm_keptManyF)), ((mmR 51), .inl (cI, 132, .inl mm_talkOfF)), ((mmR 53), .inl (cI, 2640, .inl mm_keptRowF)), ((mmR 44), .inl (cI, 6, .inl mm_refusedF))] H := hP
  have hD : va_D A [(a_p0, .inr (12, oX12 (va_up mmI 1 0) mmJ mmR)), ((mmR 18), .inl (cI, 2, .inl mm_earsF)), ((mmR 21), .inl (cI, 2, .inl mm_placesF)), ((mmR 0), .inl (cI, 1800, .inl mm_tapeF)), ((mmR 14), .inl (cI, 2, .inl mm_milesToldF)), ((mmR 45), .inl (cI, 22, .inl mm_nightOfF)), ((mmR 46), .inl (cI, 22, .inl mm_mileOfF)), ((mmR 47), .inl (cI, 22, .inl mm_roundsOfF)), ((mmR 48), .inl (cI, 22, .inl mm_talkingOfF)), ((mmR 49), .inl (cI, 22, .inl mm_hushOfF)), ((mmR 50), .inl (cI, 154, .inl mm_rowOfF)), ((mmR 52), .inl (cI, 22, .inl mm_keptManyF)), ((mmR 51), .inl (cI, 132, .inl mm_talkOfF)), ((mmR 53), .inl (cI, 2640, .inl mm_keptRowF)), ((mmR 44), .inl (cI, 6, .inl mm_refusedF))] := hD
  refine lv_aload_n hx hb dX12_on_10 rfl (lv_at hl 1 rfl) ?_
  refine lv_iload_n hx hb dX12_on_11 rfl (lv_at hl 0 rfl) ?_
  obtain ⟨⟨r_1_0, r_1_1, r_1_2, r_1_3, r_1_4, r_1_5, r_1_6, r_1_7, r_1_8, r_1_9⟩, h_2, hf⟩ := xq_bd_some hf
  refine xq_callV (As := [.int (mmI 1)]) (rest := []) (ci := 12) (q0 := 0) ⟨hx, hb, hml, hown, hts⟩ (kX12_comesOn l dC dI cI cB cJ cZ cM z ad N a_p0 ((va_up mmI 1 0)) mmJ mmR mm_earsF mm_placesF mm_tapeF mm_milesToldF mm_nightOfF mm_mileOfF mm_roundsOfF mm_talkingOfF mm_hushOfF mm_rowOfF mm_keptManyF mm_talkOfF mm_keptRowF (mmI 1) h_2) (cwV 1 hts gX12_on_X12_comesOn rfl rfl rfl (by decide +kernel) ⟨Nat.le_of_ble_eq_true rfl, Nat.le_of_ble_eq_true rfl⟩) hN hK hP hD hS hA [0, 1, 2, 3, 4, 5, 6, 7, 8, 9, 10, 11, 12, 13] (by decide) rfl rfl rfl rfl rfl rfl hl.1 rfl (Nat.le_of_ble_eq_true rfl) dX12_on_12 ⟨Nat.zero_le _, Nat.zero_le _⟩ (fun H locs hP hD hS => ?_)
  have hP : va_P (dC, dI) vwCl [(a_p0, .inr (12, oX12 (va_up mmI 1 0) mmJ mmR)), ((mmR 18), .inl (cI, 2, .inl mm_earsF)), ((mmR 21), .inl (cI, 2, .inl mm_placesF)), ((mmR 0), .inl (cI, 1800, .inl mm_tapeF)), ((mmR 14), .inl (cI, 2, .inl mm_milesToldF)), ((mmR 45), .inl (cI, 22, .inl r_1_1)), ((mmR 46), .inl (cI, 22, .inl r_1_2)), ((mmR 47), .inl (cI, 22, .inl r_1_3)), ((mmR 48), .inl (cI, 22, .inl r_1_4)), ((mmR 49), .inl (cI, 22, .inl r_1_5)), ((mmR 50), .inl (cI, 154, .inl r_1_6)), ((mmR 52), .inl (cI, 22, .inl r_1_7)), ((mmR 51), .inl (cI, 132, .inl r_1_8)), ((mmR 53), .inl (cI, 2640, .inl r_1_9)), ((mmR 44), .inl (cI, 6, .inl mm_refusedF))] H := hP
  have hD : va_D A [(a_p0, .inr (12, oX12 (va_up mmI 1 0) mmJ mmR)), ((mmR 18), .inl (cI, 2, .inl mm_earsF)), ((mmR 21), .inl (cI, 2, .inl mm_placesF)), ((mmR 0), .inl (cI, 1800, .inl mm_tapeF)), ((mmR 14), .inl (cI, 2, .inl mm_milesToldF)), ((mmR 45), .inl (cI, 22, .inl r_1_1)), ((mmR 46), .inl (cI, 22, .inl r_1_2)), ((mmR 47), .inl (cI, 22, .inl r_1_3)), ((mmR 48), .inl (cI, 22, .inl r_1_4)), ((mmR 49), .inl (cI, 22, .inl r_1_5)), ((mmR 50), .inl (cI, 154, .inl r_1_6)), ((mmR 52), .inl (cI, 22, .inl r_1_7)), ((mmR 51), .inl (cI, 132, .inl r_1_8)), ((mmR 53), .inl (cI, 2640, .inl r_1_9)), ((mmR 44), .inl (cI, 6, .inl mm_refusedF))] := hD
  refine W.eq (g2 := F0 m 15 ls [.int r_1_0]) rfl ?_
  refine lv_if_ne (tgt := 32) hx hb dX12_on_15 (by decide) (fun c_ => ?_) (fun c_ => ?_)
  · have hf := xq_neg hf c_
    refine lv_aload_n hx hb dX12_on_32 rfl (lv_at hl 1 rfl) ?_
    refine lv_iconst (v := 0) hx hb dX12_on_33 (by decide) ?_
    refine lv_iconst (v := 1) hx hb dX12_on_34 (by decide) ?_
    obtain ⟨⟨r_3_0, r_3_1, r_3_2, r_3_3, r_3_4, r_3_5, r_3_6, r_3_7, r_3_8⟩, h_4, hf⟩ := xq_bd_some hf
    refine xq_callV (As := [.int 0, .int 1]) (rest := []) (ci := 12) (q0 := 0) ⟨hx, hb, hml, hown, hts⟩ (kX12_copies l dC dI cI cB cJ cZ cM z ad N a_p0 ((va_up mmI 1 0)) mmJ mmR r_1_1 r_1_2 r_1_3 r_1_4 r_1_5 r_1_6 r_1_7 r_1_8 r_1_9 0 1 h_4) (cwV 2 hts gX12_on_X12_copies rfl rfl rfl (by decide +kernel) ⟨Nat.le_of_ble_eq_true rfl, Nat.le_of_ble_eq_true rfl⟩) hN hK hP hD hS hA [0, 5, 6, 7, 8, 9, 10, 11, 12, 13] (by decide) rfl rfl rfl rfl rfl rfl hl.1 rfl (Nat.le_of_ble_eq_true rfl) dX12_on_35 ⟨Nat.zero_le _, Nat.zero_le _⟩ (fun H locs hP hD hS => ?_)
    have hP : va_P (dC, dI) vwCl [(a_p0, .inr (12, oX12 (va_up mmI 1 0) mmJ mmR)), ((mmR 18), .inl (cI, 2, .inl mm_earsF)), ((mmR 21), .inl (cI, 2, .inl mm_placesF)), ((mmR 0), .inl (cI, 1800, .inl mm_tapeF)), ((mmR 14), .inl (cI, 2, .inl mm_milesToldF)), ((mmR 45), .inl (cI, 22, .inl r_3_0)), ((mmR 46), .inl (cI, 22, .inl r_3_1)), ((mmR 47), .inl (cI, 22, .inl r_3_2)), ((mmR 48), .inl (cI, 22, .inl r_3_3)), ((mmR 49), .inl (cI, 22, .inl r_3_4)), ((mmR 50), .inl (cI, 154, .inl r_3_5)), ((mmR 52), .inl (cI, 22, .inl r_3_6)), ((mmR 51), .inl (cI, 132, .inl r_3_7)), ((mmR 53), .inl (cI, 2640, .inl r_3_8)), ((mmR 44), .inl (cI, 6, .inl mm_refusedF))] H := hP
    have hD : va_D A [(a_p0, .inr (12, oX12 (va_up mmI 1 0) mmJ mmR)), ((mmR 18), .inl (cI, 2, .inl mm_earsF)), ((mmR 21), .inl (cI, 2, .inl mm_placesF)), ((mmR 0), .inl (cI, 1800, .inl mm_tapeF)), ((mmR 14), .inl (cI, 2, .inl mm_milesToldF)), ((mmR 45), .inl (cI, 22, .inl r_3_0)), ((mmR 46), .inl (cI, 22, .inl r_3_1)), ((mmR 47), .inl (cI, 22, .inl r_3_2)), ((mmR 48), .inl (cI, 22, .inl r_3_3)), ((mmR 49), .inl (cI, 22, .inl r_3_4)), ((mmR 50), .inl (cI, 154, .inl r_3_5)), ((mmR 52), .inl (cI, 22, .inl r_3_6)), ((mmR 51), .inl (cI, 132, .inl r_3_7)), ((mmR 53), .inl (cI, 2640, .inl r_3_8)), ((mmR 44), .inl (cI, 6, .inl mm_refusedF))] := hD
    refine W.eq (g2 := F0 m 38 ls []) rfl ?_
    refine lv_aload_n hx hb dX12_on_38 rfl (lv_at hl 1 rfl) ?_
    refine lv_iconst (v := 0) hx hb dX12_on_39 (by decide) ?_
    refine va_put (D := (dC, dI)) (ci := 12) (v := .int 0) (ty := .int) (C := RX12) (T := TX12) (N := 70) hx hb hts hinX12 tyX12 tyX12_ok nmX12 hown hK hP hD hS 0 rfl rfl 55 (by decide) hw2 (fun _ h9 => h9) rfl (by decide +kernel) rfl rfl (Nat.le_of_ble_eq_true rfl) dX12_on_40 (fun H locs hP hD hS => ?_)
    have hP : va_P (dC, dI) vwCl [(a_p0, .inr (12, oX12 (va_up (va_up mmI 1 0) 55 0) mmJ mmR)), ((mmR 18), .inl (cI, 2, .inl mm_earsF)), ((mmR 21), .inl (cI, 2, .inl mm_placesF)), ((mmR 0), .inl (cI, 1800, .inl mm_tapeF)), ((mmR 14), .inl (cI, 2, .inl mm_milesToldF)), ((mmR 45), .inl (cI, 22, .inl r_3_0)), ((mmR 46), .inl (cI, 22, .inl r_3_1)), ((mmR 47), .inl (cI, 22, .inl r_3_2)), ((mmR 48), .inl (cI, 22, .inl r_3_3)), ((mmR 49), .inl (cI, 22, .inl r_3_4)), ((mmR 50), .inl (cI, 154, .inl r_3_5)), ((mmR 52), .inl (cI, 22, .inl r_3_6)), ((mmR 51), .inl (cI, 132, .inl r_3_7)), ((mmR 53), .inl (cI, 2640, .inl r_3_8)), ((mmR 44), .inl (cI, 6, .inl mm_refusedF))] H := hP
    have hD : va_D A [(a_p0, .inr (12, oX12 (va_up (va_up mmI 1 0) 55 0) mmJ mmR)), ((mmR 18), .inl (cI, 2, .inl mm_earsF)), ((mmR 21), .inl (cI, 2, .inl mm_placesF)), ((mmR 0), .inl (cI, 1800, .inl mm_tapeF)), ((mmR 14), .inl (cI, 2, .inl mm_milesToldF)), ((mmR 45), .inl (cI, 22, .inl r_3_0)), ((mmR 46), .inl (cI, 22, .inl r_3_1)), ((mmR 47), .inl (cI, 22, .inl r_3_2)), ((mmR 48), .inl (cI, 22, .inl r_3_3)), ((mmR 49), .inl (cI, 22, .inl r_3_4)), ((mmR 50), .inl (cI, 154, .inl r_3_5)), ((mmR 52), .inl (cI, 22, .inl r_3_6)), ((mmR 51), .inl (cI, 132, .inl r_3_7)), ((mmR 53), .inl (cI, 2640, .inl r_3_8)), ((mmR 44), .inl (cI, 6, .inl mm_refusedF))] := hD
    refine lv_iconst (v := 1) hx hb dX12_on_43 (by decide) ?_
    have e9 := Option.some.inj hf
    have e9_0 : 1 = r0 := congrArg (fun t => t.1) e9
    have e9_1 : (va_up (va_up mmI 1 0) 55 0) = r1 := congrArg (fun t => t.2.1) e9
    have e9_2 : r_3_0 = r2 := congrArg (fun t => t.2.2.1) e9
    have e9_3 : r_3_1 = r3 := congrArg (fun t => t.2.2.2.1) e9
    have e9_4 : r_3_2 = r4 := congrArg (fun t => t.2.2.2.2.1) e9
    have e9_5 : r_3_3 = r5 := congrArg (fun t => t.2.2.2.2.2.1) e9
    have e9_6 : r_3_4 = r6 := congrArg (fun t => t.2.2.2.2.2.2.1) e9
    have e9_7 : r_3_5 = r7 := congrArg (fun t => t.2.2.2.2.2.2.2.1) e9
    have e9_8 : r_3_6 = r8 := congrArg (fun t => t.2.2.2.2.2.2.2.2.1) e9
    have e9_9 : r_3_7 = r9 := congrArg (fun t => t.2.2.2.2.2.2.2.2.2.1) e9
    have e9_10 : r_3_8 = r10 := congrArg (fun t => t.2.2.2.2.2.2.2.2.2.2.1) e9
    have e9_11 : mm_refusedF = r11 := congrArg (fun t => t.2.2.2.2.2.2.2.2.2.2.2) e9
    clear e9 hf
    subst e9_0
    subst e9_1
    subst e9_2
    subst e9_3
    subst e9_4
    subst e9_5
    subst e9_6
    subst e9_7
    subst e9_8
    subst e9_9
    subst e9_10
    subst e9_11
    exact xq_zret hx hb hr (by decide +kernel) hlocks hK hP hD hS dX12_on_44
  · have hf := xq_pos hf c_
    refine lv_aload_n hx hb dX12_on_18 rfl (lv_at hl 1 rfl) ?_
    refine lv_iconst (v := 5) hx hb dX12_on_19 (by decide) ?_
    obtain ⟨⟨r_5_0, r_5_1⟩, h_6, hf⟩ := xq_bd_some hf
    refine xq_callV (As := [.int 5]) (rest := []) (ci := 12) (q0 := 0) ⟨hx, hb, hml, hown, hts⟩ (kX12_refuses l dC dI cI cB cJ cZ cM z ad N a_p0 ((va_up mmI 1 0)) mmJ mmR mm_refusedF 5 h_6) (cwV 1 hts gX12_on_X12_refuses rfl rfl rfl (by decide +kernel) ⟨Nat.le_of_ble_eq_true rfl, Nat.le_of_ble_eq_true rfl⟩) hN hK hP hD hS hA [0, 14] (by decide) rfl rfl rfl rfl rfl rfl hl.1 rfl (Nat.le_of_ble_eq_true rfl) dX12_on_20 ⟨Nat.zero_le _, Nat.zero_le _⟩ (fun H locs hP hD hS => ?_)
    have hP : va_P (dC, dI) vwCl [(a_p0, .inr (12, oX12 (va_up mmI 1 0) mmJ mmR)), ((mmR 18), .inl (cI, 2, .inl mm_earsF)), ((mmR 21), .inl (cI, 2, .inl mm_placesF)), ((mmR 0), .inl (cI, 1800, .inl mm_tapeF)), ((mmR 14), .inl (cI, 2, .inl mm_milesToldF)), ((mmR 45), .inl (cI, 22, .inl r_1_1)), ((mmR 46), .inl (cI, 22, .inl r_1_2)), ((mmR 47), .inl (cI, 22, .inl r_1_3)), ((mmR 48), .inl (cI, 22, .inl r_1_4)), ((mmR 49), .inl (cI, 22, .inl r_1_5)), ((mmR 50), .inl (cI, 154, .inl r_1_6)), ((mmR 52), .inl (cI, 22, .inl r_1_7)), ((mmR 51), .inl (cI, 132, .inl r_1_8)), ((mmR 53), .inl (cI, 2640, .inl r_1_9)), ((mmR 44), .inl (cI, 6, .inl r_5_1))] H := hP
    have hD : va_D A [(a_p0, .inr (12, oX12 (va_up mmI 1 0) mmJ mmR)), ((mmR 18), .inl (cI, 2, .inl mm_earsF)), ((mmR 21), .inl (cI, 2, .inl mm_placesF)), ((mmR 0), .inl (cI, 1800, .inl mm_tapeF)), ((mmR 14), .inl (cI, 2, .inl mm_milesToldF)), ((mmR 45), .inl (cI, 22, .inl r_1_1)), ((mmR 46), .inl (cI, 22, .inl r_1_2)), ((mmR 47), .inl (cI, 22, .inl r_1_3)), ((mmR 48), .inl (cI, 22, .inl r_1_4)), ((mmR 49), .inl (cI, 22, .inl r_1_5)), ((mmR 50), .inl (cI, 154, .inl r_1_6)), ((mmR 52), .inl (cI, 22, .inl r_1_7)), ((mmR 51), .inl (cI, 132, .inl r_1_8)), ((mmR 53), .inl (cI, 2640, .inl r_1_9)), ((mmR 44), .inl (cI, 6, .inl r_5_1))] := hD
    refine W.eq (g2 := F0 m 23 ls [.int r_5_0]) rfl ?_
    refine lv_if_lt (tgt := 30) hx hb dX12_on_23 (by decide) (fun c_ => ?_) (fun c_ => ?_)
    · have hf := xq_pos hf c_
      refine lv_iconst (v := 0) hx hb dX12_on_30 (by decide) ?_
      have e9 := Option.some.inj hf
      have e9_0 : 0 = r0 := congrArg (fun t => t.1) e9
      have e9_1 : (va_up mmI 1 0) = r1 := congrArg (fun t => t.2.1) e9
      have e9_2 : r_1_1 = r2 := congrArg (fun t => t.2.2.1) e9
      have e9_3 : r_1_2 = r3 := congrArg (fun t => t.2.2.2.1) e9
      have e9_4 : r_1_3 = r4 := congrArg (fun t => t.2.2.2.2.1) e9
      have e9_5 : r_1_4 = r5 := congrArg (fun t => t.2.2.2.2.2.1) e9
      have e9_6 : r_1_5 = r6 := congrArg (fun t => t.2.2.2.2.2.2.1) e9
      have e9_7 : r_1_6 = r7 := congrArg (fun t => t.2.2.2.2.2.2.2.1) e9
      have e9_8 : r_1_7 = r8 := congrArg (fun t => t.2.2.2.2.2.2.2.2.1) e9
      have e9_9 : r_1_8 = r9 := congrArg (fun t => t.2.2.2.2.2.2.2.2.2.1) e9
      have e9_10 : r_1_9 = r10 := congrArg (fun t => t.2.2.2.2.2.2.2.2.2.2.1) e9
      have e9_11 : r_5_1 = r11 := congrArg (fun t => t.2.2.2.2.2.2.2.2.2.2.2) e9
      clear e9 hf
      subst e9_0
      subst e9_1
      subst e9_2
      subst e9_3
      subst e9_4
      subst e9_5
      subst e9_6
      subst e9_7
      subst e9_8
      subst e9_9
      subst e9_10
      subst e9_11
      exact xq_zret hx hb hr (by decide +kernel) hlocks hK hP hD hS dX12_on_31
    · have hf := xq_neg hf c_
      refine lv_iconst (v := 1) hx hb dX12_on_26 (by decide) ?_
      refine lv_goto (tgt := 31) hx hb dX12_on_27 (by decide) ?_
      have e9 := Option.some.inj hf
      have e9_0 : 1 = r0 := congrArg (fun t => t.1) e9
      have e9_1 : (va_up mmI 1 0) = r1 := congrArg (fun t => t.2.1) e9
      have e9_2 : r_1_1 = r2 := congrArg (fun t => t.2.2.1) e9
      have e9_3 : r_1_2 = r3 := congrArg (fun t => t.2.2.2.1) e9
      have e9_4 : r_1_3 = r4 := congrArg (fun t => t.2.2.2.2.1) e9
      have e9_5 : r_1_4 = r5 := congrArg (fun t => t.2.2.2.2.2.1) e9
      have e9_6 : r_1_5 = r6 := congrArg (fun t => t.2.2.2.2.2.2.1) e9
      have e9_7 : r_1_6 = r7 := congrArg (fun t => t.2.2.2.2.2.2.2.1) e9
      have e9_8 : r_1_7 = r8 := congrArg (fun t => t.2.2.2.2.2.2.2.2.1) e9
      have e9_9 : r_1_8 = r9 := congrArg (fun t => t.2.2.2.2.2.2.2.2.2.1) e9
      have e9_10 : r_1_9 = r10 := congrArg (fun t => t.2.2.2.2.2.2.2.2.2.2.1) e9
      have e9_11 : r_5_1 = r11 := congrArg (fun t => t.2.2.2.2.2.2.2.2.2.2.2) e9
      clear e9 hf
      subst e9_0
      subst e9_1
      subst e9_2
      subst e9_3
      subst e9_4
      subst e9_5
      subst e9_6
      subst e9_7
      subst e9_8
      subst e9_9
      subst e9_10
      subst e9_11
      exact xq_zret hx hb hr (by decide +kernel) hlocks hK hP hD hS dX12_on_31
set_option maxRecDepth 20000 in
theorem ggX12_later_X12_isAhead : GoodIn wsX12_later wsX12_isAhead := goodIn_r _ [8, 9, 10, 11, 12, 7, 13, 102, 103, 104, 105, 106, 107, 108, 109, 110, 111, 112, 113, 114, 115, 116, 117, 118, 119, 120, 121, 122, 123, 124, 125, 126, 127, 128, 129, 130, 131, 132, 133, 134, 135, 136, 137, 138, 139, 140, 141, 142, 143, 144, 145, 146, 147, 148, 149, 150, 151, 152, 153, 154, 155, 156, 157, 158, 159, 160, 161, 162, 163, 164, 165, 166, 167, 168, 169, 170, 171] rfl (by decide +kernel)
set_option maxRecDepth 20000 in
theorem gX12_later_X12_isAhead : GoodIn wsX12_later (wsV RX12 465 RX12 yX12_isAhead wsX12_isAhead) := goodIn_app (goodIn_of _ (by decide +kernel)) ggX12_later_X12_isAhead
set_option maxRecDepth 20000 in
theorem ggX12_later_X12_is : GoodIn wsX12_later wsX12_is := goodIn_r _ [13] rfl (by decide +kernel)
set_option maxRecDepth 20000 in
theorem gX12_later_X12_is : GoodIn wsX12_later (va_wsS RX12 301 yX12_is wsX12_is) := goodIn_app (goodIn_of _ (by decide +kernel)) ggX12_later_X12_is
set_option maxRecDepth 20000 in
theorem ggX12_later_X12_copies : GoodIn wsX12_later wsX12_copies := goodIn_r _ [17, 10, 1, 2, 3, 18, 19, 20, 21, 22, 102, 103, 104, 105, 106, 107, 108, 109, 110, 111, 112, 113, 114, 115, 116, 117, 118, 119, 120, 121, 122, 123, 124, 125, 126, 127, 128, 129, 130, 131, 132, 133, 134, 135, 136, 137, 138, 139, 140, 141, 142, 143, 144, 145, 146, 147, 148, 149, 150, 151, 152, 153, 154, 155, 156, 157, 158, 159, 160, 161, 162, 163, 164, 165, 166, 167, 168, 169, 170, 171] rfl (by decide +kernel)
set_option maxRecDepth 20000 in
theorem gX12_later_X12_copies : GoodIn wsX12_later (wsV RX12 394 RX12 yX12_copies wsX12_copies) := goodIn_app (goodIn_of _ (by decide +kernel)) ggX12_later_X12_copies
set_option maxRecDepth 20000 in
theorem ggX12_later_X12_runsOn : GoodIn wsX12_later wsX12_runsOn := goodIn_r _ [26, 27, 28, 29, 7, 30, 18, 31, 32, 33, 34, 3, 35, 36, 19, 10, 37, 38, 39, 40, 1, 41, 2, 42, 43, 44, 45, 46, 47, 48, 49, 50, 51, 52, 53, 54, 55, 56, 57, 58, 59, 60, 61, 62, 63, 64, 65, 66, 67, 68, 69, 70, 71, 72, 73, 74, 75, 76, 77, 78, 79, 80, 81, 82, 83, 20, 84, 85, 86, 87, 88, 89, 90, 91, 92, 93, 94, 95, 96, 97, 98, 99, 100, 101, 21, 22, 102, 103, 104, 105, 106, 107, 108, 109, 110, 111, 112, 113, 114, 115, 116, 117, 118, 119, 120, 121, 122, 123, 124, 125, 126, 127, 128, 129, 130, 131, 132, 133, 134, 135, 136, 137, 138, 139, 140, 141, 142, 143, 144, 145, 146, 147, 148, 149, 150, 151, 152, 153, 154, 155, 156, 157, 158, 159, 160, 161, 162, 163, 164, 165, 166, 167, 168, 169, 170, 171] rfl (by decide +kernel)
set_option maxRecDepth 20000 in
theorem gX12_later_X12_runsOn : GoodIn wsX12_later (wsV RX12 468 RX12 yX12_runsOn wsX12_runsOn) := goodIn_app (goodIn_of _ (by decide +kernel)) ggX12_later_X12_runsOn
def dsX12_later_0 : List (Nat × Instr × Nat) := [(0, (.aload_n 0, 1)), (1, (.iload_n 1, 1)), (2, (.iconst 0, 1)), (3, (.bipush 60, 2)), (5, (.invokevirtual 465, 3)), (8, (.ifCond .eq 12, 3)), (11, (.iload_n 2, 1)), (12, (.iconst 0, 1)), (13, (.iconst 2, 1)), (14, (.invokestatic 301, 3)), (17, (.ifCond .ne 5, 3)), (20, (.iconst (-1), 1)), (21, (.ireturn, 1)), (22, (.aload_n 0, 1)), (23, (.iconst 1, 1)), (24, (.iconst 0, 1)), (25, (.invokevirtual 394, 3)), (28, (.aload_n 0, 1)), (29, (.iload_n 1, 1)), (30, (.invokevirtual 468, 3)), (33, (.iload_n 2, 1)), (34, (.ifCond .ne 12, 3)), (37, (.aload_n 0, 1)), (38, (.getfield 153, 3)), (41, (.iconst 1, 1)), (42, (.iaload, 1)), (43, (.goto 23, 3)), (46, (.iload_n 2, 1)), (47, (.iconst 1, 1)), (48, (.if_icmp .ne 12, 3)), (51, (.aload_n 0, 1)), (52, (.getfield 156, 3)), (55, (.iconst 1, 1)), (56, (.iaload, 1)), (57, (.goto 9, 3)), (60, (.aload_n 0, 1)), (61, (.getfield 159, 3)), (64, (.iconst 1, 1)), (65, (.iaload, 1)), (66, (.ireturn, 1))]
theorem dsX12_later_0_ok : (dsX12_later_0.all fun q => decide (decode cX12_later q.1 = .ok q.2)) = true := by decide +kernel
theorem dX12_later_0 : decode cX12_later 0 = .ok (.aload_n 0, 1) := of_decide_eq_true (List.all_eq_true.mp dsX12_later_0_ok (0, (.aload_n 0, 1)) (List.mem_of_getElem? (i := 0) rfl))
theorem dX12_later_1 : decode cX12_later 1 = .ok (.iload_n 1, 1) := of_decide_eq_true (List.all_eq_true.mp dsX12_later_0_ok (1, (.iload_n 1, 1)) (List.mem_of_getElem? (i := 1) rfl))
theorem dX12_later_2 : decode cX12_later 2 = .ok (.iconst 0, 1) := of_decide_eq_true (List.all_eq_true.mp dsX12_later_0_ok (2, (.iconst 0, 1)) (List.mem_of_getElem? (i := 2) rfl))
theorem dX12_later_3 : decode cX12_later 3 = .ok (.bipush 60, 2) := of_decide_eq_true (List.all_eq_true.mp dsX12_later_0_ok (3, (.bipush 60, 2)) (List.mem_of_getElem? (i := 3) rfl))
theorem dX12_later_5 : decode cX12_later 5 = .ok (.invokevirtual 465, 3) := of_decide_eq_true (List.all_eq_true.mp dsX12_later_0_ok (5, (.invokevirtual 465, 3)) (List.mem_of_getElem? (i := 4) rfl))
theorem dX12_later_8 : decode cX12_later 8 = .ok (.ifCond .eq 12, 3) := of_decide_eq_true (List.all_eq_true.mp dsX12_later_0_ok (8, (.ifCond .eq 12, 3)) (List.mem_of_getElem? (i := 5) rfl))
theorem dX12_later_11 : decode cX12_later 11 = .ok (.iload_n 2, 1) := of_decide_eq_true (List.all_eq_true.mp dsX12_later_0_ok (11, (.iload_n 2, 1)) (List.mem_of_getElem? (i := 6) rfl))
theorem dX12_later_12 : decode cX12_later 12 = .ok (.iconst 0, 1) := of_decide_eq_true (List.all_eq_true.mp dsX12_later_0_ok (12, (.iconst 0, 1)) (List.mem_of_getElem? (i := 7) rfl))
theorem dX12_later_13 : decode cX12_later 13 = .ok (.iconst 2, 1) := of_decide_eq_true (List.all_eq_true.mp dsX12_later_0_ok (13, (.iconst 2, 1)) (List.mem_of_getElem? (i := 8) rfl))
theorem dX12_later_14 : decode cX12_later 14 = .ok (.invokestatic 301, 3) := of_decide_eq_true (List.all_eq_true.mp dsX12_later_0_ok (14, (.invokestatic 301, 3)) (List.mem_of_getElem? (i := 9) rfl))
theorem dX12_later_17 : decode cX12_later 17 = .ok (.ifCond .ne 5, 3) := of_decide_eq_true (List.all_eq_true.mp dsX12_later_0_ok (17, (.ifCond .ne 5, 3)) (List.mem_of_getElem? (i := 10) rfl))
theorem dX12_later_20 : decode cX12_later 20 = .ok (.iconst (-1), 1) := of_decide_eq_true (List.all_eq_true.mp dsX12_later_0_ok (20, (.iconst (-1), 1)) (List.mem_of_getElem? (i := 11) rfl))
theorem dX12_later_21 : decode cX12_later 21 = .ok (.ireturn, 1) := of_decide_eq_true (List.all_eq_true.mp dsX12_later_0_ok (21, (.ireturn, 1)) (List.mem_of_getElem? (i := 12) rfl))
theorem dX12_later_22 : decode cX12_later 22 = .ok (.aload_n 0, 1) := of_decide_eq_true (List.all_eq_true.mp dsX12_later_0_ok (22, (.aload_n 0, 1)) (List.mem_of_getElem? (i := 13) rfl))
theorem dX12_later_23 : decode cX12_later 23 = .ok (.iconst 1, 1) := of_decide_eq_true (List.all_eq_true.mp dsX12_later_0_ok (23, (.iconst 1, 1)) (List.mem_of_getElem? (i := 14) rfl))
theorem dX12_later_24 : decode cX12_later 24 = .ok (.iconst 0, 1) := of_decide_eq_true (List.all_eq_true.mp dsX12_later_0_ok (24, (.iconst 0, 1)) (List.mem_of_getElem? (i := 15) rfl))
theorem dX12_later_25 : decode cX12_later 25 = .ok (.invokevirtual 394, 3) := of_decide_eq_true (List.all_eq_true.mp dsX12_later_0_ok (25, (.invokevirtual 394, 3)) (List.mem_of_getElem? (i := 16) rfl))
theorem dX12_later_28 : decode cX12_later 28 = .ok (.aload_n 0, 1) := of_decide_eq_true (List.all_eq_true.mp dsX12_later_0_ok (28, (.aload_n 0, 1)) (List.mem_of_getElem? (i := 17) rfl))
theorem dX12_later_29 : decode cX12_later 29 = .ok (.iload_n 1, 1) := of_decide_eq_true (List.all_eq_true.mp dsX12_later_0_ok (29, (.iload_n 1, 1)) (List.mem_of_getElem? (i := 18) rfl))
theorem dX12_later_30 : decode cX12_later 30 = .ok (.invokevirtual 468, 3) := of_decide_eq_true (List.all_eq_true.mp dsX12_later_0_ok (30, (.invokevirtual 468, 3)) (List.mem_of_getElem? (i := 19) rfl))
theorem dX12_later_33 : decode cX12_later 33 = .ok (.iload_n 2, 1) := of_decide_eq_true (List.all_eq_true.mp dsX12_later_0_ok (33, (.iload_n 2, 1)) (List.mem_of_getElem? (i := 20) rfl))
theorem dX12_later_34 : decode cX12_later 34 = .ok (.ifCond .ne 12, 3) := of_decide_eq_true (List.all_eq_true.mp dsX12_later_0_ok (34, (.ifCond .ne 12, 3)) (List.mem_of_getElem? (i := 21) rfl))
theorem dX12_later_37 : decode cX12_later 37 = .ok (.aload_n 0, 1) := of_decide_eq_true (List.all_eq_true.mp dsX12_later_0_ok (37, (.aload_n 0, 1)) (List.mem_of_getElem? (i := 22) rfl))
theorem dX12_later_38 : decode cX12_later 38 = .ok (.getfield 153, 3) := of_decide_eq_true (List.all_eq_true.mp dsX12_later_0_ok (38, (.getfield 153, 3)) (List.mem_of_getElem? (i := 23) rfl))
theorem dX12_later_41 : decode cX12_later 41 = .ok (.iconst 1, 1) := of_decide_eq_true (List.all_eq_true.mp dsX12_later_0_ok (41, (.iconst 1, 1)) (List.mem_of_getElem? (i := 24) rfl))
theorem dX12_later_42 : decode cX12_later 42 = .ok (.iaload, 1) := of_decide_eq_true (List.all_eq_true.mp dsX12_later_0_ok (42, (.iaload, 1)) (List.mem_of_getElem? (i := 25) rfl))
theorem dX12_later_43 : decode cX12_later 43 = .ok (.goto 23, 3) := of_decide_eq_true (List.all_eq_true.mp dsX12_later_0_ok (43, (.goto 23, 3)) (List.mem_of_getElem? (i := 26) rfl))
theorem dX12_later_46 : decode cX12_later 46 = .ok (.iload_n 2, 1) := of_decide_eq_true (List.all_eq_true.mp dsX12_later_0_ok (46, (.iload_n 2, 1)) (List.mem_of_getElem? (i := 27) rfl))
theorem dX12_later_47 : decode cX12_later 47 = .ok (.iconst 1, 1) := of_decide_eq_true (List.all_eq_true.mp dsX12_later_0_ok (47, (.iconst 1, 1)) (List.mem_of_getElem? (i := 28) rfl))
theorem dX12_later_48 : decode cX12_later 48 = .ok (.if_icmp .ne 12, 3) := of_decide_eq_true (List.all_eq_true.mp dsX12_later_0_ok (48, (.if_icmp .ne 12, 3)) (List.mem_of_getElem? (i := 29) rfl))
theorem dX12_later_51 : decode cX12_later 51 = .ok (.aload_n 0, 1) := of_decide_eq_true (List.all_eq_true.mp dsX12_later_0_ok (51, (.aload_n 0, 1)) (List.mem_of_getElem? (i := 30) rfl))
theorem dX12_later_52 : decode cX12_later 52 = .ok (.getfield 156, 3) := of_decide_eq_true (List.all_eq_true.mp dsX12_later_0_ok (52, (.getfield 156, 3)) (List.mem_of_getElem? (i := 31) rfl))
theorem dX12_later_55 : decode cX12_later 55 = .ok (.iconst 1, 1) := of_decide_eq_true (List.all_eq_true.mp dsX12_later_0_ok (55, (.iconst 1, 1)) (List.mem_of_getElem? (i := 32) rfl))
theorem dX12_later_56 : decode cX12_later 56 = .ok (.iaload, 1) := of_decide_eq_true (List.all_eq_true.mp dsX12_later_0_ok (56, (.iaload, 1)) (List.mem_of_getElem? (i := 33) rfl))
theorem dX12_later_57 : decode cX12_later 57 = .ok (.goto 9, 3) := of_decide_eq_true (List.all_eq_true.mp dsX12_later_0_ok (57, (.goto 9, 3)) (List.mem_of_getElem? (i := 34) rfl))
theorem dX12_later_60 : decode cX12_later 60 = .ok (.aload_n 0, 1) := of_decide_eq_true (List.all_eq_true.mp dsX12_later_0_ok (60, (.aload_n 0, 1)) (List.mem_of_getElem? (i := 35) rfl))
theorem dX12_later_61 : decode cX12_later 61 = .ok (.getfield 159, 3) := of_decide_eq_true (List.all_eq_true.mp dsX12_later_0_ok (61, (.getfield 159, 3)) (List.mem_of_getElem? (i := 36) rfl))
theorem dX12_later_64 : decode cX12_later 64 = .ok (.iconst 1, 1) := of_decide_eq_true (List.all_eq_true.mp dsX12_later_0_ok (64, (.iconst 1, 1)) (List.mem_of_getElem? (i := 37) rfl))
theorem dX12_later_65 : decode cX12_later 65 = .ok (.iaload, 1) := of_decide_eq_true (List.all_eq_true.mp dsX12_later_0_ok (65, (.iaload, 1)) (List.mem_of_getElem? (i := 38) rfl))
theorem dX12_later_66 : decode cX12_later 66 = .ok (.ireturn, 1) := of_decide_eq_true (List.all_eq_true.mp dsX12_later_0_ok (66, (.ireturn, 1)) (List.mem_of_getElem? (i := 39) rfl))
def fX12_later (N : Nat) (mmI : Nat → Int32) (mm_nightOfF : Nat → Int32) (mm_mileOfF : Nat → Int32) (mm_roundsOfF : Nat → Int32) (mm_talkingOfF : Nat → Int32) (mm_hushOfF : Nat → Int32) (mm_rowOfF : Nat → Int32) (mm_keptManyF : Nat → Int32) (mm_talkOfF : Nat → Int32) (mm_keptRowF : Nat → Int32) (mm_sumFromF : Nat → Int32) (mm_askedF : Nat → Int32) (mm_sumBehindF : Nat → Int32) (mm_stackL : Nat → Int64) (mm_codeSortF : Nat → Int32) (mm_codeValueF : Nat → Int32) (mm_milesToldF : Nat → Int32) (mm_placesF : Nat → Int32) (mm_placeAtF : Nat → Int32) (mm_earsF : Nat → Int32) (mm_heardFromF : Nat → Int32) (mm_sharpOfF : Nat → Int32)  (p1 : Int32) (p2 : Int32) : Option (Int32 × (Nat → Int32) × (Nat → Int32) × (Nat → Int32) × (Nat → Int32) × (Nat → Int32) × (Nat → Int32) × (Nat → Int32) × (Nat → Int32) × (Nat → Int32) × (Nat → Int32) × (Nat → Int64) × (Nat → Int32)) :=
  (xq_bd (fX12_isAhead N mmI mm_nightOfF p1 0 60) fun r_1 => (if r_1 = 0 then some (((-1), mm_nightOfF, mm_mileOfF, mm_roundsOfF, mm_talkingOfF, mm_hushOfF, mm_rowOfF, mm_keptManyF, mm_talkOfF, mm_keptRowF, mm_askedF, mm_stackL, mm_heardFromF)) else (xq_bd (fX12_is N p2 0 2) fun r_3 => (if r_3 = 0 then some (((-1), mm_nightOfF, mm_mileOfF, mm_roundsOfF, mm_talkingOfF, mm_hushOfF, mm_rowOfF, mm_keptManyF, mm_talkOfF, mm_keptRowF, mm_askedF, mm_stackL, mm_heardFromF)) else (xq_bd (fX12_copies N mm_nightOfF mm_mileOfF mm_roundsOfF mm_talkingOfF mm_hushOfF mm_rowOfF mm_keptManyF mm_talkOfF mm_keptRowF 1 0) fun (r_5_0, r_5_1, r_5_2, r_5_3, r_5_4, r_5_5, r_5_6, r_5_7, r_5_8) => (xq_bd (fX12_runsOn N mmI r_5_4 r_5_3 mm_sumFromF r_5_0 mm_askedF r_5_1 r_5_2 mm_sumBehindF mm_stackL mm_codeSortF mm_codeValueF mm_milesToldF mm_placesF mm_placeAtF r_5_7 mm_earsF mm_heardFromF mm_sharpOfF r_5_5 r_5_6 r_5_8 p1) fun (r_7_0, r_7_1, r_7_2, r_7_3, r_7_4, r_7_5, r_7_6, r_7_7, r_7_8) => (if p2 = 0 then (xq_bd (xq_ald 22 r_7_3 1) fun v_11 => some ((v_11, r_7_1, r_7_3, r_7_4, r_7_0, r_5_4, r_5_5, r_7_7, r_5_7, r_7_8, r_7_2, r_7_5, r_7_6))) else (if p2 = 1 then (xq_bd (xq_ald 22 r_7_4 1) fun v_10 => some ((v_10, r_7_1, r_7_3, r_7_4, r_7_0, r_5_4, r_5_5, r_7_7, r_5_7, r_7_8, r_7_2, r_7_5, r_7_6))) else (xq_bd (xq_ald 22 r_7_0 1) fun v_9 => some ((v_9, r_7_1, r_7_3, r_7_4, r_7_0, r_5_4, r_5_5, r_7_7, r_5_7, r_7_8, r_7_2, r_7_5, r_7_6)))))))))))
set_option maxHeartbeats 4000000 in
set_option maxRecDepth 100000 in
theorem kX12_later (l : Launch) (dC : Nat → ClassId) (dI : Nat → Nat → Nat) (cI cB cJ cZ cM : ClassId) (z : Nat) (ad : Nat → Nat) (N : Nat) (a_p0 : Nat) (mmI : Nat → Int32) (mmJ : Nat → Int64) (mmR : Nat → Nat) (mm_nightOfF : Nat → Int32) (mm_mileOfF : Nat → Int32) (mm_roundsOfF : Nat → Int32) (mm_talkingOfF : Nat → Int32) (mm_hushOfF : Nat → Int32) (mm_rowOfF : Nat → Int32) (mm_keptManyF : Nat → Int32) (mm_talkOfF : Nat → Int32) (mm_keptRowF : Nat → Int32) (mm_sumFromF : Nat → Int32) (mm_askedF : Nat → Int32) (mm_sumBehindF : Nat → Int32) (mm_stackL : Nat → Int64) (mm_codeSortF : Nat → Int32) (mm_codeValueF : Nat → Int32) (mm_milesToldF : Nat → Int32) (mm_placesF : Nat → Int32) (mm_placeAtF : Nat → Int32) (mm_earsF : Nat → Int32) (mm_heardFromF : Nat → Int32) (mm_sharpOfF : Nat → Int32) (p1 : Int32) (p2 : Int32) {r0 : Int32} {r1 : Nat → Int32} {r2 : Nat → Int32} {r3 : Nat → Int32} {r4 : Nat → Int32} {r5 : Nat → Int32} {r6 : Nat → Int32} {r7 : Nat → Int32} {r8 : Nat → Int32} {r9 : Nat → Int32} {r10 : Nat → Int32} {r11 : Nat → Int64} {r12 : Nat → Int32} (hf : fX12_later N mmI mm_nightOfF mm_mileOfF mm_roundsOfF mm_talkingOfF mm_hushOfF mm_rowOfF mm_keptManyF mm_talkOfF mm_keptRowF mm_sumFromF mm_askedF mm_sumBehindF mm_stackL mm_codeSortF mm_codeValueF mm_milesToldF mm_placesF mm_placeAtF mm_earsF mm_heardFromF mm_sharpOfF p1 p2 = some (r0, r1, r2, r3, r4, r5, r6, r7, r8, r9, r10, r11, r12)) : xq_Ct l yX12_later wsX12_later { frames := 8, cells := 0, slots := 0, locals := 189 } (dC, dI) vwCl (xq_tys cI cB cJ cZ cM) z ad [.ref a_p0, .int p1, .int p2] [(a_p0, .inr (12, oX12 mmI mmJ mmR)), ((mmR 45), .inl (cI, 22, .inl mm_nightOfF)), ((mmR 46), .inl (cI, 22, .inl mm_mileOfF)), ((mmR 47), .inl (cI, 22, .inl mm_roundsOfF)), ((mmR 48), .inl (cI, 22, .inl mm_talkingOfF)), ((mmR 49), .inl (cI, 22, .inl mm_hushOfF)), ((mmR 50), .inl (cI, 154, .inl mm_rowOfF)), ((mmR 52), .inl (cI, 22, .inl mm_keptManyF)), ((mmR 51), .inl (cI, 132, .inl mm_talkOfF)), ((mmR 53), .inl (cI, 2640, .inl mm_keptRowF)), ((mmR 24), .inl (cI, 6, .inl mm_sumFromF)), ((mmR 58), .inl (cI, 12, .inl mm_askedF)), ((mmR 25), .inl (cI, 6, .inl mm_sumBehindF)), ((mmR 57), .inl (cJ, 500, .inr (.inl mm_stackL))), ((mmR 26), .inl (cI, 3200, .inl mm_codeSortF)), ((mmR 27), .inl (cI, 3200, .inl mm_codeValueF)), ((mmR 14), .inl (cI, 2, .inl mm_milesToldF)), ((mmR 21), .inl (cI, 2, .inl mm_placesF)), ((mmR 22), .inl (cI, 12, .inl mm_placeAtF)), ((mmR 18), .inl (cI, 2, .inl mm_earsF)), ((mmR 59), .inl (cI, 70, .inl mm_heardFromF)), ((mmR 20), .inl (cI, 14, .inl mm_sharpOfF))] [(a_p0, .inr (12, oX12 mmI mmJ mmR)), ((mmR 45), .inl (cI, 22, .inl r1)), ((mmR 46), .inl (cI, 22, .inl r2)), ((mmR 47), .inl (cI, 22, .inl r3)), ((mmR 48), .inl (cI, 22, .inl r4)), ((mmR 49), .inl (cI, 22, .inl r5)), ((mmR 50), .inl (cI, 154, .inl r6)), ((mmR 52), .inl (cI, 22, .inl r7)), ((mmR 51), .inl (cI, 132, .inl r8)), ((mmR 53), .inl (cI, 2640, .inl r9)), ((mmR 24), .inl (cI, 6, .inl mm_sumFromF)), ((mmR 58), .inl (cI, 12, .inl r10)), ((mmR 25), .inl (cI, 6, .inl mm_sumBehindF)), ((mmR 57), .inl (cJ, 500, .inr (.inl r11))), ((mmR 26), .inl (cI, 3200, .inl mm_codeSortF)), ((mmR 27), .inl (cI, 3200, .inl mm_codeValueF)), ((mmR 14), .inl (cI, 2, .inl mm_milesToldF)), ((mmR 21), .inl (cI, 2, .inl mm_placesF)), ((mmR 22), .inl (cI, 12, .inl mm_placeAtF)), ((mmR 18), .inl (cI, 2, .inl mm_earsF)), ((mmR 59), .inl (cI, 70, .inl r12)), ((mmR 20), .inl (cI, 14, .inl mm_sharpOfF))] (some (.int r0)) := by
  intro sz
  refine Met.ofW (cc := cX12_later) (maxL := 3) (ret := (some .int)) (by decide) rfl ?_
  intro p e s m args below meth c s₁ B hml hv
  obtain ⟨rfl, hsz, hP, hK, hD0, hE, hz⟩ := hv
  have hx := B.exec
  have hb := B.bytes
  have hr := B.returns
  have hts := atoms_spec (ws := wsX12_later) B.pre
  have hown : s.vm.findClass RX12 = some m.cls := findClass_of_methodNamed B.named
  have hlocks := B.notSynchronized
  subst hsz
  have hD := hD0.self (sz := s.heap.size)
  have hN := xq_Env.of hE hz hD0
  generalize hAe : va_A [(a_p0, .inr (12, oX12 mmI mmJ mmR)), ((mmR 45), .inl (cI, 22, .inl mm_nightOfF)), ((mmR 46), .inl (cI, 22, .inl mm_mileOfF)), ((mmR 47), .inl (cI, 22, .inl mm_roundsOfF)), ((mmR 48), .inl (cI, 22, .inl mm_talkingOfF)), ((mmR 49), .inl (cI, 22, .inl mm_hushOfF)), ((mmR 50), .inl (cI, 154, .inl mm_rowOfF)), ((mmR 52), .inl (cI, 22, .inl mm_keptManyF)), ((mmR 51), .inl (cI, 132, .inl mm_talkOfF)), ((mmR 53), .inl (cI, 2640, .inl mm_keptRowF)), ((mmR 24), .inl (cI, 6, .inl mm_sumFromF)), ((mmR 58), .inl (cI, 12, .inl mm_askedF)), ((mmR 25), .inl (cI, 6, .inl mm_sumBehindF)), ((mmR 57), .inl (cJ, 500, .inr (.inl mm_stackL))), ((mmR 26), .inl (cI, 3200, .inl mm_codeSortF)), ((mmR 27), .inl (cI, 3200, .inl mm_codeValueF)), ((mmR 14), .inl (cI, 2, .inl mm_milesToldF)), ((mmR 21), .inl (cI, 2, .inl mm_placesF)), ((mmR 22), .inl (cI, 12, .inl mm_placeAtF)), ((mmR 18), .inl (cI, 2, .inl mm_earsF)), ((mmR 59), .inl (cI, 70, .inl mm_heardFromF)), ((mmR 20), .inl (cI, 14, .inl mm_sharpOfF))] s.heap.size = A at hD hN ⊢
  have hA : ∀ q : Nat, s.heap.size ≤ q → A q := fun q h => by rw [← hAe]; exact Or.inr h
  clear hAe hD0
  have hS : va_S A s.heap s.heap [] := va_S.rf
  have hl := lv_entry ([.ref a_p0, .int p1, .int p2]) (n := 3) (Nat.le_of_ble_eq_true rfl)
  rw [lg_entry_eq]
  generalize (lg_sl ([.ref a_p0, .int p1, .int p2]) ++ List.replicate (3 - (lg_sl ([.ref a_p0, .int p1, .int p2])).length) Slot.unset).toArray = ls at hl ⊢
  have hl : lv_has ls 3 [(0, .ref a_p0), (1, .int p1), (2, .int p2)] := hl
  have hw0 := hts (.fieldLink RX12 159 "DistantVoiceModel" "talkingOf" "[I") (by decide +kernel)
  have hinX12 : ∀ w ∈ wsX120, w ∈ wsX12_later := fun w h => List.mem_cons_of_mem _ (List.mem_append_right _ h)
  have hw2 := hts (.fieldLink RX12 156 "DistantVoiceModel" "roundsOf" "[I") (by decide +kernel)
  have hw3 := hts (.fieldLink RX12 153 "DistantVoiceModel" "mileOf" "[I") (by decide +kernel)
  unfold fX12_later at hf
  refine lv_aload_n hx hb dX12_later_0 rfl (lv_at hl 0 rfl) ?_
  refine lv_iload_n hx hb dX12_later_1 rfl (lv_at hl 1 rfl) ?_
  refine lv_iconst (v := 0) hx hb dX12_later_2 (by decide) ?_
  refine lv_bipush (v := 60) hx hb dX12_later_3 (by decide) ?_
  obtain ⟨r_1, h_2, hf⟩ := xq_bd_some hf
  refine xq_callV (As := [.int p1, .int 0, .int 60]) (rest := []) (ci := 12) (q0 := 0) ⟨hx, hb, hml, hown, hts⟩ (kX12_isAhead l dC dI cI cB cJ cZ cM z ad N a_p0 mmI mmJ mmR mm_nightOfF p1 0 60 h_2) (cwV 3 hts gX12_later_X12_isAhead rfl rfl rfl (by decide +kernel) ⟨Nat.le_of_ble_eq_true rfl, Nat.le_of_ble_eq_true rfl⟩) hN hK hP hD hS hA [0, 1] (by decide) rfl rfl rfl rfl rfl rfl hl.1 rfl (Nat.le_of_ble_eq_true rfl) dX12_later_5 ⟨Nat.zero_le _, Nat.zero_le _⟩ (fun H locs hP hD hS => ?_)
  have hP : va_P (dC, dI) vwCl [(a_p0, .inr (12, oX12 mmI mmJ mmR)), ((mmR 45), .inl (cI, 22, .inl mm_nightOfF)), ((mmR 46), .inl (cI, 22, .inl mm_mileOfF)), ((mmR 47), .inl (cI, 22, .inl mm_roundsOfF)), ((mmR 48), .inl (cI, 22, .inl mm_talkingOfF)), ((mmR 49), .inl (cI, 22, .inl mm_hushOfF)), ((mmR 50), .inl (cI, 154, .inl mm_rowOfF)), ((mmR 52), .inl (cI, 22, .inl mm_keptManyF)), ((mmR 51), .inl (cI, 132, .inl mm_talkOfF)), ((mmR 53), .inl (cI, 2640, .inl mm_keptRowF)), ((mmR 24), .inl (cI, 6, .inl mm_sumFromF)), ((mmR 58), .inl (cI, 12, .inl mm_askedF)), ((mmR 25), .inl (cI, 6, .inl mm_sumBehindF)), ((mmR 57), .inl (cJ, 500, .inr (.inl mm_stackL))), ((mmR 26), .inl (cI, 3200, .inl mm_codeSortF)), ((mmR 27), .inl (cI, 3200, .inl mm_codeValueF)), ((mmR 14), .inl (cI, 2, .inl mm_milesToldF)), ((mmR 21), .inl (cI, 2, .inl mm_placesF)), ((mmR 22), .inl (cI, 12, .inl mm_placeAtF)), ((mmR 18), .inl (cI, 2, .inl mm_earsF)), ((mmR 59), .inl (cI, 70, .inl mm_heardFromF)), ((mmR 20), .inl (cI, 14, .inl mm_sharpOfF))] H := hP
  have hD : va_D A [(a_p0, .inr (12, oX12 mmI mmJ mmR)), ((mmR 45), .inl (cI, 22, .inl mm_nightOfF)), ((mmR 46), .inl (cI, 22, .inl mm_mileOfF)), ((mmR 47), .inl (cI, 22, .inl mm_roundsOfF)), ((mmR 48), .inl (cI, 22, .inl mm_talkingOfF)), ((mmR 49), .inl (cI, 22, .inl mm_hushOfF)), ((mmR 50), .inl (cI, 154, .inl mm_rowOfF)), ((mmR 52), .inl (cI, 22, .inl mm_keptManyF)), ((mmR 51), .inl (cI, 132, .inl mm_talkOfF)), ((mmR 53), .inl (cI, 2640, .inl mm_keptRowF)), ((mmR 24), .inl (cI, 6, .inl mm_sumFromF)), ((mmR 58), .inl (cI, 12, .inl mm_askedF)), ((mmR 25), .inl (cI, 6, .inl mm_sumBehindF)), ((mmR 57), .inl (cJ, 500, .inr (.inl mm_stackL))), ((mmR 26), .inl (cI, 3200, .inl mm_codeSortF)), ((mmR 27), .inl (cI, 3200, .inl mm_codeValueF)), ((mmR 14), .inl (cI, 2, .inl mm_milesToldF)), ((mmR 21), .inl (cI, 2, .inl mm_placesF)), ((mmR 22), .inl (cI, 12, .inl mm_placeAtF)), ((mmR 18), .inl (cI, 2, .inl mm_earsF)), ((mmR 59), .inl (cI, 70, .inl mm_heardFromF)), ((mmR 20), .inl (cI, 14, .inl mm_sharpOfF))] := hD
  refine W.eq (g2 := F0 m 8 ls [.int r_1]) rfl ?_
  refine lv_if_eq (tgt := 20) hx hb dX12_later_8 (by decide) (fun c_ => ?_) (fun c_ => ?_)
  · have hf := xq_pos hf c_
    refine lv_iconst (v := (-1)) hx hb dX12_later_20 (by decide) ?_
    have e9 := Option.some.inj hf
    have e9_0 : (-1) = r0 := congrArg (fun t => t.1) e9
    have e9_1 : mm_nightOfF = r1 := congrArg (fun t => t.2.1) e9
    have e9_2 : mm_mileOfF = r2 := congrArg (fun t => t.2.2.1) e9
    have e9_3 : mm_roundsOfF = r3 := congrArg (fun t => t.2.2.2.1) e9
    have e9_4 : mm_talkingOfF = r4 := congrArg (fun t => t.2.2.2.2.1) e9
    have e9_5 : mm_hushOfF = r5 := congrArg (fun t => t.2.2.2.2.2.1) e9
    have e9_6 : mm_rowOfF = r6 := congrArg (fun t => t.2.2.2.2.2.2.1) e9
    have e9_7 : mm_keptManyF = r7 := congrArg (fun t => t.2.2.2.2.2.2.2.1) e9
    have e9_8 : mm_talkOfF = r8 := congrArg (fun t => t.2.2.2.2.2.2.2.2.1) e9
    have e9_9 : mm_keptRowF = r9 := congrArg (fun t => t.2.2.2.2.2.2.2.2.2.1) e9
    have e9_10 : mm_askedF = r10 := congrArg (fun t => t.2.2.2.2.2.2.2.2.2.2.1) e9
    have e9_11 : mm_stackL = r11 := congrArg (fun t => t.2.2.2.2.2.2.2.2.2.2.2.1) e9
    have e9_12 : mm_heardFromF = r12 := congrArg (fun t => t.2.2.2.2.2.2.2.2.2.2.2.2) e9
    clear e9 hf
    subst e9_0
    subst e9_1
    subst e9_2
    subst e9_3
    subst e9_4
    subst e9_5
    subst e9_6
    subst e9_7
    subst e9_8
    subst e9_9
    subst e9_10
    subst e9_11
    subst e9_12
    exact xq_iret hx hb hr hlocks hK hP hD hS dX12_later_21
  · have hf := xq_neg hf c_
    refine lv_iload_n hx hb dX12_later_11 rfl (lv_at hl 2 rfl) ?_
    refine lv_iconst (v := 0) hx hb dX12_later_12 (by decide) ?_
    refine lv_iconst (v := 2) hx hb dX12_later_13 (by decide) ?_
    obtain ⟨r_3, h_4, hf⟩ := xq_bd_some hf
    refine xq_callS (As := [.int p2, .int 0, .int 2]) (rest := []) ⟨hx, hb, hml, hown, hts⟩ (kX12_is l dC dI cI cB cJ cZ cM z ad N p2 0 2 h_4) (va_cwS 3 hts gX12_later_X12_is rfl rfl rfl (by decide +kernel) ⟨Nat.le_of_ble_eq_true rfl, Nat.le_of_ble_eq_true rfl⟩) hN hK hP hD hS hA [] (by decide) rfl rfl rfl hl.1 rfl (Nat.le_of_ble_eq_true rfl) dX12_later_14 ⟨Nat.zero_le _, Nat.zero_le _⟩ (fun H locs hP hD hS => ?_)
    have hP : va_P (dC, dI) vwCl [(a_p0, .inr (12, oX12 mmI mmJ mmR)), ((mmR 45), .inl (cI, 22, .inl mm_nightOfF)), ((mmR 46), .inl (cI, 22, .inl mm_mileOfF)), ((mmR 47), .inl (cI, 22, .inl mm_roundsOfF)), ((mmR 48), .inl (cI, 22, .inl mm_talkingOfF)), ((mmR 49), .inl (cI, 22, .inl mm_hushOfF)), ((mmR 50), .inl (cI, 154, .inl mm_rowOfF)), ((mmR 52), .inl (cI, 22, .inl mm_keptManyF)), ((mmR 51), .inl (cI, 132, .inl mm_talkOfF)), ((mmR 53), .inl (cI, 2640, .inl mm_keptRowF)), ((mmR 24), .inl (cI, 6, .inl mm_sumFromF)), ((mmR 58), .inl (cI, 12, .inl mm_askedF)), ((mmR 25), .inl (cI, 6, .inl mm_sumBehindF)), ((mmR 57), .inl (cJ, 500, .inr (.inl mm_stackL))), ((mmR 26), .inl (cI, 3200, .inl mm_codeSortF)), ((mmR 27), .inl (cI, 3200, .inl mm_codeValueF)), ((mmR 14), .inl (cI, 2, .inl mm_milesToldF)), ((mmR 21), .inl (cI, 2, .inl mm_placesF)), ((mmR 22), .inl (cI, 12, .inl mm_placeAtF)), ((mmR 18), .inl (cI, 2, .inl mm_earsF)), ((mmR 59), .inl (cI, 70, .inl mm_heardFromF)), ((mmR 20), .inl (cI, 14, .inl mm_sharpOfF))] H := hP
    have hD : va_D A [(a_p0, .inr (12, oX12 mmI mmJ mmR)), ((mmR 45), .inl (cI, 22, .inl mm_nightOfF)), ((mmR 46), .inl (cI, 22, .inl mm_mileOfF)), ((mmR 47), .inl (cI, 22, .inl mm_roundsOfF)), ((mmR 48), .inl (cI, 22, .inl mm_talkingOfF)), ((mmR 49), .inl (cI, 22, .inl mm_hushOfF)), ((mmR 50), .inl (cI, 154, .inl mm_rowOfF)), ((mmR 52), .inl (cI, 22, .inl mm_keptManyF)), ((mmR 51), .inl (cI, 132, .inl mm_talkOfF)), ((mmR 53), .inl (cI, 2640, .inl mm_keptRowF)), ((mmR 24), .inl (cI, 6, .inl mm_sumFromF)), ((mmR 58), .inl (cI, 12, .inl mm_askedF)), ((mmR 25), .inl (cI, 6, .inl mm_sumBehindF)), ((mmR 57), .inl (cJ, 500, .inr (.inl mm_stackL))), ((mmR 26), .inl (cI, 3200, .inl mm_codeSortF)), ((mmR 27), .inl (cI, 3200, .inl mm_codeValueF)), ((mmR 14), .inl (cI, 2, .inl mm_milesToldF)), ((mmR 21), .inl (cI, 2, .inl mm_placesF)), ((mmR 22), .inl (cI, 12, .inl mm_placeAtF)), ((mmR 18), .inl (cI, 2, .inl mm_earsF)), ((mmR 59), .inl (cI, 70, .inl mm_heardFromF)), ((mmR 20), .inl (cI, 14, .inl mm_sharpOfF))] := hD
    refine W.eq (g2 := F0 m 17 ls [.int r_3]) rfl ?_
    refine lv_if_ne (tgt := 22) hx hb dX12_later_17 (by decide) (fun c_ => ?_) (fun c_ => ?_)
    · have hf := xq_neg hf c_
      refine lv_aload_n hx hb dX12_later_22 rfl (lv_at hl 0 rfl) ?_
      refine lv_iconst (v := 1) hx hb dX12_later_23 (by decide) ?_
      refine lv_iconst (v := 0) hx hb dX12_later_24 (by decide) ?_
      obtain ⟨⟨r_5_0, r_5_1, r_5_2, r_5_3, r_5_4, r_5_5, r_5_6, r_5_7, r_5_8⟩, h_6, hf⟩ := xq_bd_some hf
      refine xq_callV (As := [.int 1, .int 0]) (rest := []) (ci := 12) (q0 := 0) ⟨hx, hb, hml, hown, hts⟩ (kX12_copies l dC dI cI cB cJ cZ cM z ad N a_p0 mmI mmJ mmR mm_nightOfF mm_mileOfF mm_roundsOfF mm_talkingOfF mm_hushOfF mm_rowOfF mm_keptManyF mm_talkOfF mm_keptRowF 1 0 h_6) (cwV 2 hts gX12_later_X12_copies rfl rfl rfl (by decide +kernel) ⟨Nat.le_of_ble_eq_true rfl, Nat.le_of_ble_eq_true rfl⟩) hN hK hP hD hS hA [0, 1, 2, 3, 4, 5, 6, 7, 8, 9] (by decide) rfl rfl rfl rfl rfl rfl hl.1 rfl (Nat.le_of_ble_eq_true rfl) dX12_later_25 ⟨Nat.zero_le _, Nat.zero_le _⟩ (fun H locs hP hD hS => ?_)
      have hP : va_P (dC, dI) vwCl [(a_p0, .inr (12, oX12 mmI mmJ mmR)), ((mmR 45), .inl (cI, 22, .inl r_5_0)), ((mmR 46), .inl (cI, 22, .inl r_5_1)), ((mmR 47), .inl (cI, 22, .inl r_5_2)), ((mmR 48), .inl (cI, 22, .inl r_5_3)), ((mmR 49), .inl (cI, 22, .inl r_5_4)), ((mmR 50), .inl (cI, 154, .inl r_5_5)), ((mmR 52), .inl (cI, 22, .inl r_5_6)), ((mmR 51), .inl (cI, 132, .inl r_5_7)), ((mmR 53), .inl (cI, 2640, .inl r_5_8)), ((mmR 24), .inl (cI, 6, .inl mm_sumFromF)), ((mmR 58), .inl (cI, 12, .inl mm_askedF)), ((mmR 25), .inl (cI, 6, .inl mm_sumBehindF)), ((mmR 57), .inl (cJ, 500, .inr (.inl mm_stackL))), ((mmR 26), .inl (cI, 3200, .inl mm_codeSortF)), ((mmR 27), .inl (cI, 3200, .inl mm_codeValueF)), ((mmR 14), .inl (cI, 2, .inl mm_milesToldF)), ((mmR 21), .inl (cI, 2, .inl mm_placesF)), ((mmR 22), .inl (cI, 12, .inl mm_placeAtF)), ((mmR 18), .inl (cI, 2, .inl mm_earsF)), ((mmR 59), .inl (cI, 70, .inl mm_heardFromF)), ((mmR 20), .inl (cI, 14, .inl mm_sharpOfF))] H := hP
      have hD : va_D A [(a_p0, .inr (12, oX12 mmI mmJ mmR)), ((mmR 45), .inl (cI, 22, .inl r_5_0)), ((mmR 46), .inl (cI, 22, .inl r_5_1)), ((mmR 47), .inl (cI, 22, .inl r_5_2)), ((mmR 48), .inl (cI, 22, .inl r_5_3)), ((mmR 49), .inl (cI, 22, .inl r_5_4)), ((mmR 50), .inl (cI, 154, .inl r_5_5)), ((mmR 52), .inl (cI, 22, .inl r_5_6)), ((mmR 51), .inl (cI, 132, .inl r_5_7)), ((mmR 53), .inl (cI, 2640, .inl r_5_8)), ((mmR 24), .inl (cI, 6, .inl mm_sumFromF)), ((mmR 58), .inl (cI, 12, .inl mm_askedF)), ((mmR 25), .inl (cI, 6, .inl mm_sumBehindF)), ((mmR 57), .inl (cJ, 500, .inr (.inl mm_stackL))), ((mmR 26), .inl (cI, 3200, .inl mm_codeSortF)), ((mmR 27), .inl (cI, 3200, .inl mm_codeValueF)), ((mmR 14), .inl (cI, 2, .inl mm_milesToldF)), ((mmR 21), .inl (cI, 2, .inl mm_placesF)), ((mmR 22), .inl (cI, 12, .inl mm_placeAtF)), ((mmR 18), .inl (cI, 2, .inl mm_earsF)), ((mmR 59), .inl (cI, 70, .inl mm_heardFromF)), ((mmR 20), .inl (cI, 14, .inl mm_sharpOfF))] := hD
      refine W.eq (g2 := F0 m 28 ls []) rfl ?_
      refine lv_aload_n hx hb dX12_later_28 rfl (lv_at hl 0 rfl) ?_
      refine lv_iload_n hx hb dX12_later_29 rfl (lv_at hl 1 rfl) ?_
      obtain ⟨⟨r_7_0, r_7_1, r_7_2, r_7_3, r_7_4, r_7_5, r_7_6, r_7_7, r_7_8⟩, h_8, hf⟩ := xq_bd_some hf
      refine xq_callV (As := [.int p1]) (rest := []) (ci := 12) (q0 := 0) ⟨hx, hb, hml, hown, hts⟩ (kX12_runsOn l dC dI cI cB cJ cZ cM z ad N a_p0 mmI mmJ mmR r_5_4 r_5_3 mm_sumFromF r_5_0 mm_askedF r_5_1 r_5_2 mm_sumBehindF mm_stackL mm_codeSortF mm_codeValueF mm_milesToldF mm_placesF mm_placeAtF r_5_7 mm_earsF mm_heardFromF mm_sharpOfF r_5_5 r_5_6 r_5_8 p1 h_8) (cwV 1 hts gX12_later_X12_runsOn rfl rfl rfl (by decide +kernel) ⟨Nat.le_of_ble_eq_true rfl, Nat.le_of_ble_eq_true rfl⟩) hN hK hP hD hS hA [0, 5, 4, 10, 1, 11, 2, 3, 12, 13, 14, 15, 16, 17, 18, 8, 19, 20, 21, 6, 7, 9] (by decide) rfl rfl rfl rfl rfl rfl hl.1 rfl (Nat.le_of_ble_eq_true rfl) dX12_later_30 ⟨Nat.zero_le _, Nat.zero_le _⟩ (fun H locs hP hD hS => ?_)
      have hP : va_P (dC, dI) vwCl [(a_p0, .inr (12, oX12 mmI mmJ mmR)), ((mmR 45), .inl (cI, 22, .inl r_7_1)), ((mmR 46), .inl (cI, 22, .inl r_7_3)), ((mmR 47), .inl (cI, 22, .inl r_7_4)), ((mmR 48), .inl (cI, 22, .inl r_7_0)), ((mmR 49), .inl (cI, 22, .inl r_5_4)), ((mmR 50), .inl (cI, 154, .inl r_5_5)), ((mmR 52), .inl (cI, 22, .inl r_7_7)), ((mmR 51), .inl (cI, 132, .inl r_5_7)), ((mmR 53), .inl (cI, 2640, .inl r_7_8)), ((mmR 24), .inl (cI, 6, .inl mm_sumFromF)), ((mmR 58), .inl (cI, 12, .inl r_7_2)), ((mmR 25), .inl (cI, 6, .inl mm_sumBehindF)), ((mmR 57), .inl (cJ, 500, .inr (.inl r_7_5))), ((mmR 26), .inl (cI, 3200, .inl mm_codeSortF)), ((mmR 27), .inl (cI, 3200, .inl mm_codeValueF)), ((mmR 14), .inl (cI, 2, .inl mm_milesToldF)), ((mmR 21), .inl (cI, 2, .inl mm_placesF)), ((mmR 22), .inl (cI, 12, .inl mm_placeAtF)), ((mmR 18), .inl (cI, 2, .inl mm_earsF)), ((mmR 59), .inl (cI, 70, .inl r_7_6)), ((mmR 20), .inl (cI, 14, .inl mm_sharpOfF))] H := hP
      have hD : va_D A [(a_p0, .inr (12, oX12 mmI mmJ mmR)), ((mmR 45), .inl (cI, 22, .inl r_7_1)), ((mmR 46), .inl (cI, 22, .inl r_7_3)), ((mmR 47), .inl (cI, 22, .inl r_7_4)), ((mmR 48), .inl (cI, 22, .inl r_7_0)), ((mmR 49), .inl (cI, 22, .inl r_5_4)), ((mmR 50), .inl (cI, 154, .inl r_5_5)), ((mmR 52), .inl (cI, 22, .inl r_7_7)), ((mmR 51), .inl (cI, 132, .inl r_5_7)), ((mmR 53), .inl (cI, 2640, .inl r_7_8)), ((mmR 24), .inl (cI, 6, .inl mm_sumFromF)), ((mmR 58), .inl (cI, 12, .inl r_7_2)), ((mmR 25), .inl (cI, 6, .inl mm_sumBehindF)), ((mmR 57), .inl (cJ, 500, .inr (.inl r_7_5))), ((mmR 26), .inl (cI, 3200, .inl mm_codeSortF)), ((mmR 27), .inl (cI, 3200, .inl mm_codeValueF)), ((mmR 14), .inl (cI, 2, .inl mm_milesToldF)), ((mmR 21), .inl (cI, 2, .inl mm_placesF)), ((mmR 22), .inl (cI, 12, .inl mm_placeAtF)), ((mmR 18), .inl (cI, 2, .inl mm_earsF)), ((mmR 59), .inl (cI, 70, .inl r_7_6)), ((mmR 20), .inl (cI, 14, .inl mm_sharpOfF))] := hD
      refine W.eq (g2 := F0 m 33 ls []) rfl ?_
      refine lv_iload_n hx hb dX12_later_33 rfl (lv_at hl 2 rfl) ?_
      refine lv_if_ne (tgt := 46) hx hb dX12_later_34 (by decide) (fun c_ => ?_) (fun c_ => ?_)
      · have hf := xq_neg hf c_
        refine lv_iload_n hx hb dX12_later_46 rfl (lv_at hl 2 rfl) ?_
        refine lv_iconst (v := 1) hx hb dX12_later_47 (by decide) ?_
        refine lv_icmp_ne (tgt := 60) hx hb dX12_later_48 (by decide) (fun c_ => ?_) (fun c_ => ?_)
        · have hf := xq_neg hf c_
          refine lv_aload_n hx hb dX12_later_60 rfl (lv_at hl 0 rfl) ?_
          refine va_get (D := (dC, dI)) (ci := 12) (v := .ref ((mmR 48))) (C := RX12) (T := TX12) (N := 70) hx hb hts hinX12 hown hK hP 0 rfl rfl 48 (by decide) hw0 (fun _ h9 => h9) rfl dX12_later_61 ?_
          refine lv_iconst (v := 1) hx hb dX12_later_64 (by decide) ?_
          refine xq_iald hx hb hK hP 4 0 rfl rfl hf dX12_later_65 (fun v_9 hf => ?_)
          have e9 := Option.some.inj hf
          have e9_0 : v_9 = r0 := congrArg (fun t => t.1) e9
          have e9_1 : r_7_1 = r1 := congrArg (fun t => t.2.1) e9
          have e9_2 : r_7_3 = r2 := congrArg (fun t => t.2.2.1) e9
          have e9_3 : r_7_4 = r3 := congrArg (fun t => t.2.2.2.1) e9
          have e9_4 : r_7_0 = r4 := congrArg (fun t => t.2.2.2.2.1) e9
          have e9_5 : r_5_4 = r5 := congrArg (fun t => t.2.2.2.2.2.1) e9
          have e9_6 : r_5_5 = r6 := congrArg (fun t => t.2.2.2.2.2.2.1) e9
          have e9_7 : r_7_7 = r7 := congrArg (fun t => t.2.2.2.2.2.2.2.1) e9
          have e9_8 : r_5_7 = r8 := congrArg (fun t => t.2.2.2.2.2.2.2.2.1) e9
          have e9_9 : r_7_8 = r9 := congrArg (fun t => t.2.2.2.2.2.2.2.2.2.1) e9
          have e9_10 : r_7_2 = r10 := congrArg (fun t => t.2.2.2.2.2.2.2.2.2.2.1) e9
          have e9_11 : r_7_5 = r11 := congrArg (fun t => t.2.2.2.2.2.2.2.2.2.2.2.1) e9
          have e9_12 : r_7_6 = r12 := congrArg (fun t => t.2.2.2.2.2.2.2.2.2.2.2.2) e9
          clear e9 hf
          subst e9_0
          subst e9_1
          subst e9_2
          subst e9_3
          subst e9_4
          subst e9_5
          subst e9_6
          subst e9_7
          subst e9_8
          subst e9_9
          subst e9_10
          subst e9_11
          subst e9_12
          exact xq_iret hx hb hr hlocks hK hP hD hS dX12_later_66
        · have hf := xq_pos hf c_
          refine lv_aload_n hx hb dX12_later_51 rfl (lv_at hl 0 rfl) ?_
          refine va_get (D := (dC, dI)) (ci := 12) (v := .ref ((mmR 47))) (C := RX12) (T := TX12) (N := 70) hx hb hts hinX12 hown hK hP 0 rfl rfl 47 (by decide) hw2 (fun _ h9 => h9) rfl dX12_later_52 ?_
          refine lv_iconst (v := 1) hx hb dX12_later_55 (by decide) ?_
          refine xq_iald hx hb hK hP 3 0 rfl rfl hf dX12_later_56 (fun v_10 hf => ?_)
          refine lv_goto (tgt := 66) hx hb dX12_later_57 (by decide) ?_
          have e9 := Option.some.inj hf
          have e9_0 : v_10 = r0 := congrArg (fun t => t.1) e9
          have e9_1 : r_7_1 = r1 := congrArg (fun t => t.2.1) e9
          have e9_2 : r_7_3 = r2 := congrArg (fun t => t.2.2.1) e9
          have e9_3 : r_7_4 = r3 := congrArg (fun t => t.2.2.2.1) e9
          have e9_4 : r_7_0 = r4 := congrArg (fun t => t.2.2.2.2.1) e9
          have e9_5 : r_5_4 = r5 := congrArg (fun t => t.2.2.2.2.2.1) e9
          have e9_6 : r_5_5 = r6 := congrArg (fun t => t.2.2.2.2.2.2.1) e9
          have e9_7 : r_7_7 = r7 := congrArg (fun t => t.2.2.2.2.2.2.2.1) e9
          have e9_8 : r_5_7 = r8 := congrArg (fun t => t.2.2.2.2.2.2.2.2.1) e9
          have e9_9 : r_7_8 = r9 := congrArg (fun t => t.2.2.2.2.2.2.2.2.2.1) e9
          have e9_10 : r_7_2 = r10 := congrArg (fun t => t.2.2.2.2.2.2.2.2.2.2.1) e9
          have e9_11 : r_7_5 = r11 := congrArg (fun t => t.2.2.2.2.2.2.2.2.2.2.2.1) e9
          have e9_12 : r_7_6 = r12 := congrArg (fun t => t.2.2.2.2.2.2.2.2.2.2.2.2) e9
          clear e9 hf
          subst e9_0
          subst e9_1
          subst e9_2
          subst e9_3
          subst e9_4
          subst e9_5
          subst e9_6
          subst e9_7
          subst e9_8
          subst e9_9
          subst e9_10
          subst e9_11
          subst e9_12
          exact xq_iret hx hb hr hlocks hK hP hD hS dX12_later_66
      · have hf := xq_pos hf c_
        refine lv_aload_n hx hb dX12_later_37 rfl (lv_at hl 0 rfl) ?_
        refine va_get (D := (dC, dI)) (ci := 12) (v := .ref ((mmR 46))) (C := RX12) (T := TX12) (N := 70) hx hb hts hinX12 hown hK hP 0 rfl rfl 46 (by decide) hw3 (fun _ h9 => h9) rfl dX12_later_38 ?_
        refine lv_iconst (v := 1) hx hb dX12_later_41 (by decide) ?_
        refine xq_iald hx hb hK hP 2 0 rfl rfl hf dX12_later_42 (fun v_11 hf => ?_)
        refine lv_goto (tgt := 66) hx hb dX12_later_43 (by decide) ?_
        have e9 := Option.some.inj hf
        have e9_0 : v_11 = r0 := congrArg (fun t => t.1) e9
        have e9_1 : r_7_1 = r1 := congrArg (fun t => t.2.1) e9
        have e9_2 : r_7_3 = r2 := congrArg (fun t => t.2.2.1) e9
        have e9_3 : r_7_4 = r3 := congrArg (fun t => t.2.2.2.1) e9
        have e9_4 : r_7_0 = r4 := congrArg (fun t => t.2.2.2.2.1) e9
        have e9_5 : r_5_4 = r5 := congrArg (fun t => t.2.2.2.2.2.1) e9
        have e9_6 : r_5_5 = r6 := congrArg (fun t => t.2.2.2.2.2.2.1) e9
        have e9_7 : r_7_7 = r7 := congrArg (fun t => t.2.2.2.2.2.2.2.1) e9
        have e9_8 : r_5_7 = r8 := congrArg (fun t => t.2.2.2.2.2.2.2.2.1) e9
        have e9_9 : r_7_8 = r9 := congrArg (fun t => t.2.2.2.2.2.2.2.2.2.1) e9
        have e9_10 : r_7_2 = r10 := congrArg (fun t => t.2.2.2.2.2.2.2.2.2.2.1) e9
        have e9_11 : r_7_5 = r11 := congrArg (fun t => t.2.2.2.2.2.2.2.2.2.2.2.1) e9
        have e9_12 : r_7_6 = r12 := congrArg (fun t => t.2.2.2.2.2.2.2.2.2.2.2.2) e9
        clear e9 hf
        subst e9_0
        subst e9_1
        subst e9_2
        subst e9_3
        subst e9_4
        subst e9_5
        subst e9_6
        subst e9_7
        subst e9_8
        subst e9_9
        subst e9_10
        subst e9_11
        subst e9_12
        exact xq_iret hx hb hr hlocks hK hP hD hS dX12_later_66
    · have hf := xq_pos hf c_
      refine lv_iconst (v := (-1)) hx hb dX12_later_20 (by decide) ?_
      have e9 := Option.some.inj hf
      have e9_0 : (-1) = r0 := congrArg (fun t => t.1) e9
      have e9_1 : mm_nightOfF = r1 := congrArg (fun t => t.2.1) e9
      have e9_2 : mm_mileOfF = r2 := congrArg (fun t => t.2.2.1) e9
      have e9_3 : mm_roundsOfF = r3 := congrArg (fun t => t.2.2.2.1) e9
      have e9_4 : mm_talkingOfF = r4 := congrArg (fun t => t.2.2.2.2.1) e9
      have e9_5 : mm_hushOfF = r5 := congrArg (fun t => t.2.2.2.2.2.1) e9
      have e9_6 : mm_rowOfF = r6 := congrArg (fun t => t.2.2.2.2.2.2.1) e9
      have e9_7 : mm_keptManyF = r7 := congrArg (fun t => t.2.2.2.2.2.2.2.1) e9
      have e9_8 : mm_talkOfF = r8 := congrArg (fun t => t.2.2.2.2.2.2.2.2.1) e9
      have e9_9 : mm_keptRowF = r9 := congrArg (fun t => t.2.2.2.2.2.2.2.2.2.1) e9
      have e9_10 : mm_askedF = r10 := congrArg (fun t => t.2.2.2.2.2.2.2.2.2.2.1) e9
      have e9_11 : mm_stackL = r11 := congrArg (fun t => t.2.2.2.2.2.2.2.2.2.2.2.1) e9
      have e9_12 : mm_heardFromF = r12 := congrArg (fun t => t.2.2.2.2.2.2.2.2.2.2.2.2) e9
      clear e9 hf
      subst e9_0
      subst e9_1
      subst e9_2
      subst e9_3
      subst e9_4
      subst e9_5
      subst e9_6
      subst e9_7
      subst e9_8
      subst e9_9
      subst e9_10
      subst e9_11
      subst e9_12
      exact xq_iret hx hb hr hlocks hK hP hD hS dX12_later_21
set_option maxRecDepth 20000 in
theorem ggX12_round_X12_is : GoodIn wsX12_round wsX12_is := goodIn_r _ [5] rfl (by decide +kernel)
set_option maxRecDepth 20000 in
theorem gX12_round_X12_is : GoodIn wsX12_round (va_wsS RX12 301 yX12_is wsX12_is) := goodIn_app (goodIn_of _ (by decide +kernel)) ggX12_round_X12_is
set_option maxRecDepth 20000 in
theorem ggX12_round_X12_copies : GoodIn wsX12_round wsX12_copies := goodIn_r _ [9, 10, 11, 1, 12, 13, 14, 15, 16, 17, 98, 99, 100, 101, 102, 103, 104, 105, 106, 107, 108, 109, 110, 111, 112, 113, 114, 115, 116, 117, 118, 119, 120, 121, 122, 123, 124, 125, 126, 127, 128, 129, 130, 131, 132, 133, 134, 135, 136, 137, 138, 139, 140, 141, 142, 143, 144, 145, 146, 147, 148, 149, 150, 151, 152, 153, 154, 155, 156, 157, 158, 159, 160, 161, 162, 163, 164, 165, 166, 167] rfl (by decide +kernel)
set_option maxRecDepth 20000 in
theorem gX12_round_X12_copies : GoodIn wsX12_round (wsV RX12 394 RX12 yX12_copies wsX12_copies) := goodIn_app (goodIn_of _ (by decide +kernel)) ggX12_round_X12_copies
set_option maxRecDepth 20000 in
theorem ggX12_round_X12_isAhead : GoodIn wsX12_round wsX12_isAhead := goodIn_r _ [21, 22, 10, 2, 3, 4, 5, 98, 99, 100, 101, 102, 103, 104, 105, 106, 107, 108, 109, 110, 111, 112, 113, 114, 115, 116, 117, 118, 119, 120, 121, 122, 123, 124, 125, 126, 127, 128, 129, 130, 131, 132, 133, 134, 135, 136, 137, 138, 139, 140, 141, 142, 143, 144, 145, 146, 147, 148, 149, 150, 151, 152, 153, 154, 155, 156, 157, 158, 159, 160, 161, 162, 163, 164, 165, 166, 167] rfl (by decide +kernel)
set_option maxRecDepth 20000 in
theorem gX12_round_X12_isAhead : GoodIn wsX12_round (wsV RX12 465 RX12 yX12_isAhead wsX12_isAhead) := goodIn_app (goodIn_of _ (by decide +kernel)) ggX12_round_X12_isAhead
set_option maxRecDepth 20000 in
theorem ggX12_round_X12_passes : GoodIn wsX12_round wsX12_passes := goodIn_r _ [26, 13, 27, 28, 29, 4, 30, 12, 31, 32, 14, 10, 33, 34, 35, 36, 11, 37, 1, 38, 39, 40, 41, 42, 43, 44, 45, 46, 47, 48, 49, 50, 51, 52, 53, 54, 55, 56, 57, 58, 59, 60, 61, 62, 63, 64, 65, 66, 67, 68, 69, 70, 71, 72, 73, 74, 75, 76, 77, 78, 79, 15, 80, 81, 82, 83, 84, 85, 86, 87, 88, 89, 90, 91, 92, 93, 94, 95, 96, 97, 16, 17, 98, 99, 100, 101, 102, 103, 104, 105, 106, 107, 108, 109, 110, 111, 112, 113, 114, 115, 116, 117, 118, 119, 120, 121, 122, 123, 124, 125, 126, 127, 128, 129, 130, 131, 132, 133, 134, 135, 136, 137, 138, 139, 140, 141, 142, 143, 144, 145, 146, 147, 148, 149, 150, 151, 152, 153, 154, 155, 156, 157, 158, 159, 160, 161, 162, 163, 164, 165, 166, 167] rfl (by decide +kernel)
set_option maxRecDepth 20000 in
theorem gX12_round_X12_passes : GoodIn wsX12_round (wsV RX12 462 RX12 yX12_passes wsX12_passes) := goodIn_app (goodIn_of _ (by decide +kernel)) ggX12_round_X12_passes
def dsX12_round_0 : List (Nat × Instr × Nat) := [(0, (.iload_n 1, 1)), (1, (.iconst 0, 1)), (2, (.sipush 999, 3)), (5, (.invokestatic 301, 3)), (8, (.ifCond .ne 5, 3)), (11, (.iconst (-1), 1)), (12, (.ireturn, 1)), (13, (.aload_n 0, 1)), (14, (.iconst 1, 1)), (15, (.iconst 0, 1)), (16, (.invokevirtual 394, 3)), (19, (.iconst 0, 1)), (20, (.istore_n 2, 1)), (21, (.aload_n 0, 1)), (22, (.iload_n 2, 1)), (23, (.iconst 0, 1)), (24, (.bipush 60, 2)), (26, (.invokevirtual 465, 3)), (29, (.ifCond .eq 27, 3)), (32, (.aload_n 0, 1)), (33, (.getfield 156, 3)), (36, (.iconst 1, 1)), (37, (.iaload, 1)), (38, (.iload_n 1, 1)), (39, (.if_icmp .lt 5, 3)), (42, (.iload_n 2, 1)), (43, (.ireturn, 1)), (44, (.aload_n 0, 1)), (45, (.iconst 1, 1)), (46, (.invokevirtual 462, 3)), (49, (.pop, 1)), (50, (.iinc 2 1, 3)), (53, (.goto (-32), 3)), (56, (.iconst (-1), 1)), (57, (.ireturn, 1))]
theorem dsX12_round_0_ok : (dsX12_round_0.all fun q => decide (decode cX12_round q.1 = .ok q.2)) = true := by decide +kernel
theorem dX12_round_0 : decode cX12_round 0 = .ok (.iload_n 1, 1) := of_decide_eq_true (List.all_eq_true.mp dsX12_round_0_ok (0, (.iload_n 1, 1)) (List.mem_of_getElem? (i := 0) rfl))
theorem dX12_round_1 : decode cX12_round 1 = .ok (.iconst 0, 1) := of_decide_eq_true (List.all_eq_true.mp dsX12_round_0_ok (1, (.iconst 0, 1)) (List.mem_of_getElem? (i := 1) rfl))
theorem dX12_round_2 : decode cX12_round 2 = .ok (.sipush 999, 3) := of_decide_eq_true (List.all_eq_true.mp dsX12_round_0_ok (2, (.sipush 999, 3)) (List.mem_of_getElem? (i := 2) rfl))
theorem dX12_round_5 : decode cX12_round 5 = .ok (.invokestatic 301, 3) := of_decide_eq_true (List.all_eq_true.mp dsX12_round_0_ok (5, (.invokestatic 301, 3)) (List.mem_of_getElem? (i := 3) rfl))
theorem dX12_round_8 : decode cX12_round 8 = .ok (.ifCond .ne 5, 3) := of_decide_eq_true (List.all_eq_true.mp dsX12_round_0_ok (8, (.ifCond .ne 5, 3)) (List.mem_of_getElem? (i := 4) rfl))
theorem dX12_round_11 : decode cX12_round 11 = .ok (.iconst (-1), 1) := of_decide_eq_true (List.all_eq_true.mp dsX12_round_0_ok (11, (.iconst (-1), 1)) (List.mem_of_getElem? (i := 5) rfl))
theorem dX12_round_12 : decode cX12_round 12 = .ok (.ireturn, 1) := of_decide_eq_true (List.all_eq_true.mp dsX12_round_0_ok (12, (.ireturn, 1)) (List.mem_of_getElem? (i := 6) rfl))
theorem dX12_round_13 : decode cX12_round 13 = .ok (.aload_n 0, 1) := of_decide_eq_true (List.all_eq_true.mp dsX12_round_0_ok (13, (.aload_n 0, 1)) (List.mem_of_getElem? (i := 7) rfl))
theorem dX12_round_14 : decode cX12_round 14 = .ok (.iconst 1, 1) := of_decide_eq_true (List.all_eq_true.mp dsX12_round_0_ok (14, (.iconst 1, 1)) (List.mem_of_getElem? (i := 8) rfl))
theorem dX12_round_15 : decode cX12_round 15 = .ok (.iconst 0, 1) := of_decide_eq_true (List.all_eq_true.mp dsX12_round_0_ok (15, (.iconst 0, 1)) (List.mem_of_getElem? (i := 9) rfl))
theorem dX12_round_16 : decode cX12_round 16 = .ok (.invokevirtual 394, 3) := of_decide_eq_true (List.all_eq_true.mp dsX12_round_0_ok (16, (.invokevirtual 394, 3)) (List.mem_of_getElem? (i := 10) rfl))
theorem dX12_round_19 : decode cX12_round 19 = .ok (.iconst 0, 1) := of_decide_eq_true (List.all_eq_true.mp dsX12_round_0_ok (19, (.iconst 0, 1)) (List.mem_of_getElem? (i := 11) rfl))
theorem dX12_round_20 : decode cX12_round 20 = .ok (.istore_n 2, 1) := of_decide_eq_true (List.all_eq_true.mp dsX12_round_0_ok (20, (.istore_n 2, 1)) (List.mem_of_getElem? (i := 12) rfl))
theorem dX12_round_21 : decode cX12_round 21 = .ok (.aload_n 0, 1) := of_decide_eq_true (List.all_eq_true.mp dsX12_round_0_ok (21, (.aload_n 0, 1)) (List.mem_of_getElem? (i := 13) rfl))
theorem dX12_round_22 : decode cX12_round 22 = .ok (.iload_n 2, 1) := of_decide_eq_true (List.all_eq_true.mp dsX12_round_0_ok (22, (.iload_n 2, 1)) (List.mem_of_getElem? (i := 14) rfl))
theorem dX12_round_23 : decode cX12_round 23 = .ok (.iconst 0, 1) := of_decide_eq_true (List.all_eq_true.mp dsX12_round_0_ok (23, (.iconst 0, 1)) (List.mem_of_getElem? (i := 15) rfl))
theorem dX12_round_24 : decode cX12_round 24 = .ok (.bipush 60, 2) := of_decide_eq_true (List.all_eq_true.mp dsX12_round_0_ok (24, (.bipush 60, 2)) (List.mem_of_getElem? (i := 16) rfl))
theorem dX12_round_26 : decode cX12_round 26 = .ok (.invokevirtual 465, 3) := of_decide_eq_true (List.all_eq_true.mp dsX12_round_0_ok (26, (.invokevirtual 465, 3)) (List.mem_of_getElem? (i := 17) rfl))
theorem dX12_round_29 : decode cX12_round 29 = .ok (.ifCond .eq 27, 3) := of_decide_eq_true (List.all_eq_true.mp dsX12_round_0_ok (29, (.ifCond .eq 27, 3)) (List.mem_of_getElem? (i := 18) rfl))
theorem dX12_round_32 : decode cX12_round 32 = .ok (.aload_n 0, 1) := of_decide_eq_true (List.all_eq_true.mp dsX12_round_0_ok (32, (.aload_n 0, 1)) (List.mem_of_getElem? (i := 19) rfl))
theorem dX12_round_33 : decode cX12_round 33 = .ok (.getfield 156, 3) := of_decide_eq_true (List.all_eq_true.mp dsX12_round_0_ok (33, (.getfield 156, 3)) (List.mem_of_getElem? (i := 20) rfl))
theorem dX12_round_36 : decode cX12_round 36 = .ok (.iconst 1, 1) := of_decide_eq_true (List.all_eq_true.mp dsX12_round_0_ok (36, (.iconst 1, 1)) (List.mem_of_getElem? (i := 21) rfl))
theorem dX12_round_37 : decode cX12_round 37 = .ok (.iaload, 1) := of_decide_eq_true (List.all_eq_true.mp dsX12_round_0_ok (37, (.iaload, 1)) (List.mem_of_getElem? (i := 22) rfl))
theorem dX12_round_38 : decode cX12_round 38 = .ok (.iload_n 1, 1) := of_decide_eq_true (List.all_eq_true.mp dsX12_round_0_ok (38, (.iload_n 1, 1)) (List.mem_of_getElem? (i := 23) rfl))
theorem dX12_round_39 : decode cX12_round 39 = .ok (.if_icmp .lt 5, 3) := of_decide_eq_true (List.all_eq_true.mp dsX12_round_0_ok (39, (.if_icmp .lt 5, 3)) (List.mem_of_getElem? (i := 24) rfl))
theorem dX12_round_42 : decode cX12_round 42 = .ok (.iload_n 2, 1) := of_decide_eq_true (List.all_eq_true.mp dsX12_round_0_ok (42, (.iload_n 2, 1)) (List.mem_of_getElem? (i := 25) rfl))
theorem dX12_round_43 : decode cX12_round 43 = .ok (.ireturn, 1) := of_decide_eq_true (List.all_eq_true.mp dsX12_round_0_ok (43, (.ireturn, 1)) (List.mem_of_getElem? (i := 26) rfl))
theorem dX12_round_44 : decode cX12_round 44 = .ok (.aload_n 0, 1) := of_decide_eq_true (List.all_eq_true.mp dsX12_round_0_ok (44, (.aload_n 0, 1)) (List.mem_of_getElem? (i := 27) rfl))
theorem dX12_round_45 : decode cX12_round 45 = .ok (.iconst 1, 1) := of_decide_eq_true (List.all_eq_true.mp dsX12_round_0_ok (45, (.iconst 1, 1)) (List.mem_of_getElem? (i := 28) rfl))
theorem dX12_round_46 : decode cX12_round 46 = .ok (.invokevirtual 462, 3) := of_decide_eq_true (List.all_eq_true.mp dsX12_round_0_ok (46, (.invokevirtual 462, 3)) (List.mem_of_getElem? (i := 29) rfl))
theorem dX12_round_49 : decode cX12_round 49 = .ok (.pop, 1) := of_decide_eq_true (List.all_eq_true.mp dsX12_round_0_ok (49, (.pop, 1)) (List.mem_of_getElem? (i := 30) rfl))
theorem dX12_round_50 : decode cX12_round 50 = .ok (.iinc 2 1, 3) := of_decide_eq_true (List.all_eq_true.mp dsX12_round_0_ok (50, (.iinc 2 1, 3)) (List.mem_of_getElem? (i := 31) rfl))
theorem dX12_round_53 : decode cX12_round 53 = .ok (.goto (-32), 3) := of_decide_eq_true (List.all_eq_true.mp dsX12_round_0_ok (53, (.goto (-32), 3)) (List.mem_of_getElem? (i := 32) rfl))
theorem dX12_round_56 : decode cX12_round 56 = .ok (.iconst (-1), 1) := of_decide_eq_true (List.all_eq_true.mp dsX12_round_0_ok (56, (.iconst (-1), 1)) (List.mem_of_getElem? (i := 33) rfl))
theorem dX12_round_57 : decode cX12_round 57 = .ok (.ireturn, 1) := of_decide_eq_true (List.all_eq_true.mp dsX12_round_0_ok (57, (.ireturn, 1)) (List.mem_of_getElem? (i := 34) rfl))
def fX12_round_l21 (N : Nat) (mmI : Nat → Int32) (mm_sumFromF : Nat → Int32) (mm_sumBehindF : Nat → Int32) (mm_codeSortF : Nat → Int32) (mm_codeValueF : Nat → Int32) (mm_milesToldF : Nat → Int32) (mm_placesF : Nat → Int32) (mm_placeAtF : Nat → Int32) (mm_earsF : Nat → Int32) (mm_sharpOfF : Nat → Int32)  (k21 : ((Nat → Int32) × (Nat → Int32) × (Nat → Int32) × (Nat → Int32) × (Nat → Int32) × (Nat → Int32) × (Nat → Int32) × (Nat → Int32) × (Nat → Int32) × (Nat → Int32) × (Nat → Int64) × (Nat → Int32) × Int32 × Int32) → Option (Int32 × (Nat → Int32) × (Nat → Int32) × (Nat → Int32) × (Nat → Int32) × (Nat → Int32) × (Nat → Int32) × (Nat → Int32) × (Nat → Int32) × (Nat → Int32) × (Nat → Int32) × (Nat → Int64) × (Nat → Int32))) : ((Nat → Int32) × (Nat → Int32) × (Nat → Int32) × (Nat → Int32) × (Nat → Int32) × (Nat → Int32) × (Nat → Int32) × (Nat → Int32) × (Nat → Int32) × (Nat → Int32) × (Nat → Int64) × (Nat → Int32) × Int32 × Int32) → Option (Int32 × (Nat → Int32) × (Nat → Int32) × (Nat → Int32) × (Nat → Int32) × (Nat → Int32) × (Nat → Int32) × (Nat → Int32) × (Nat → Int32) × (Nat → Int32) × (Nat → Int32) × (Nat → Int64) × (Nat → Int32)) :=
  fun (mm_nightOfF_21, mm_mileOfF_21, mm_roundsOfF_21, mm_talkingOfF_21, mm_hushOfF_21, mm_rowOfF_21, mm_keptManyF_21, mm_talkOfF_21, mm_keptRowF_21, mm_askedF_21, mm_stackL_21, mm_heardFromF_21, x1_21, x2_21) => (xq_bd (fX12_isAhead N mmI mm_nightOfF_21 x2_21 0 60) fun r_1 => (if r_1 = 0 then some (((-1), mm_nightOfF_21, mm_mileOfF_21, mm_roundsOfF_21, mm_talkingOfF_21, mm_hushOfF_21, mm_rowOfF_21, mm_keptManyF_21, mm_talkOfF_21, mm_keptRowF_21, mm_askedF_21, mm_stackL_21, mm_heardFromF_21)) else (xq_bd (xq_ald 22 mm_roundsOfF_21 1) fun v_3 => (if v_3 < x1_21 then (xq_bd (fX12_passes N mmI mm_hushOfF_21 mm_talkingOfF_21 mm_sumFromF mm_nightOfF_21 mm_askedF_21 mm_mileOfF_21 mm_roundsOfF_21 mm_sumBehindF mm_stackL_21 mm_codeSortF mm_codeValueF mm_milesToldF mm_placesF mm_placeAtF mm_talkOfF_21 mm_earsF mm_heardFromF_21 mm_sharpOfF mm_rowOfF_21 mm_keptManyF_21 mm_keptRowF_21 1) fun (r_4_0, r_4_1, r_4_2, r_4_3, r_4_4, r_4_5, r_4_6, r_4_7, r_4_8, r_4_9) => k21 (r_4_2, r_4_4, r_4_5, r_4_1, mm_hushOfF_21, mm_rowOfF_21, r_4_8, mm_talkOfF_21, r_4_9, r_4_3, r_4_6, r_4_7, x1_21, x2_21 + 1)) else some ((x2_21, mm_nightOfF_21, mm_mileOfF_21, mm_roundsOfF_21, mm_talkingOfF_21, mm_hushOfF_21, mm_rowOfF_21, mm_keptManyF_21, mm_talkOfF_21, mm_keptRowF_21, mm_askedF_21, mm_stackL_21, mm_heardFromF_21))))))
def fX12_round (N : Nat) (mmI : Nat → Int32) (mm_nightOfF : Nat → Int32) (mm_mileOfF : Nat → Int32) (mm_roundsOfF : Nat → Int32) (mm_talkingOfF : Nat → Int32) (mm_hushOfF : Nat → Int32) (mm_rowOfF : Nat → Int32) (mm_keptManyF : Nat → Int32) (mm_talkOfF : Nat → Int32) (mm_keptRowF : Nat → Int32) (mm_sumFromF : Nat → Int32) (mm_askedF : Nat → Int32) (mm_sumBehindF : Nat → Int32) (mm_stackL : Nat → Int64) (mm_codeSortF : Nat → Int32) (mm_codeValueF : Nat → Int32) (mm_milesToldF : Nat → Int32) (mm_placesF : Nat → Int32) (mm_placeAtF : Nat → Int32) (mm_earsF : Nat → Int32) (mm_heardFromF : Nat → Int32) (mm_sharpOfF : Nat → Int32)  (p1 : Int32) : Option (Int32 × (Nat → Int32) × (Nat → Int32) × (Nat → Int32) × (Nat → Int32) × (Nat → Int32) × (Nat → Int32) × (Nat → Int32) × (Nat → Int32) × (Nat → Int32) × (Nat → Int32) × (Nat → Int64) × (Nat → Int32)) :=
  (xq_bd (fX12_is N p1 0 999) fun r_1 => (if r_1 = 0 then some (((-1), mm_nightOfF, mm_mileOfF, mm_roundsOfF, mm_talkingOfF, mm_hushOfF, mm_rowOfF, mm_keptManyF, mm_talkOfF, mm_keptRowF, mm_askedF, mm_stackL, mm_heardFromF)) else (xq_bd (fX12_copies N mm_nightOfF mm_mileOfF mm_roundsOfF mm_talkingOfF mm_hushOfF mm_rowOfF mm_keptManyF mm_talkOfF mm_keptRowF 1 0) fun (r_3_0, r_3_1, r_3_2, r_3_3, r_3_4, r_3_5, r_3_6, r_3_7, r_3_8) => xq_loop (fX12_round_l21 N mmI mm_sumFromF mm_sumBehindF mm_codeSortF mm_codeValueF mm_milesToldF mm_placesF mm_placeAtF mm_earsF mm_sharpOfF) N (r_3_0, r_3_1, r_3_2, r_3_3, r_3_4, r_3_5, r_3_6, r_3_7, r_3_8, mm_askedF, mm_stackL, mm_heardFromF, p1, 0))))
set_option maxHeartbeats 4000000 in
set_option maxRecDepth 100000 in
theorem kX12_round (l : Launch) (dC : Nat → ClassId) (dI : Nat → Nat → Nat) (cI cB cJ cZ cM : ClassId) (z : Nat) (ad : Nat → Nat) (N : Nat) (a_p0 : Nat) (mmI : Nat → Int32) (mmJ : Nat → Int64) (mmR : Nat → Nat) (mm_nightOfF : Nat → Int32) (mm_mileOfF : Nat → Int32) (mm_roundsOfF : Nat → Int32) (mm_talkingOfF : Nat → Int32) (mm_hushOfF : Nat → Int32) (mm_rowOfF : Nat → Int32) (mm_keptManyF : Nat → Int32) (mm_talkOfF : Nat → Int32) (mm_keptRowF : Nat → Int32) (mm_sumFromF : Nat → Int32) (mm_askedF : Nat → Int32) (mm_sumBehindF : Nat → Int32) (mm_stackL : Nat → Int64) (mm_codeSortF : Nat → Int32) (mm_codeValueF : Nat → Int32) (mm_milesToldF : Nat → Int32) (mm_placesF : Nat → Int32) (mm_placeAtF : Nat → Int32) (mm_earsF : Nat → Int32) (mm_heardFromF : Nat → Int32) (mm_sharpOfF : Nat → Int32) (p1 : Int32) {r0 : Int32} {r1 : Nat → Int32} {r2 : Nat → Int32} {r3 : Nat → Int32} {r4 : Nat → Int32} {r5 : Nat → Int32} {r6 : Nat → Int32} {r7 : Nat → Int32} {r8 : Nat → Int32} {r9 : Nat → Int32} {r10 : Nat → Int32} {r11 : Nat → Int64} {r12 : Nat → Int32} (hf : fX12_round N mmI mm_nightOfF mm_mileOfF mm_roundsOfF mm_talkingOfF mm_hushOfF mm_rowOfF mm_keptManyF mm_talkOfF mm_keptRowF mm_sumFromF mm_askedF mm_sumBehindF mm_stackL mm_codeSortF mm_codeValueF mm_milesToldF mm_placesF mm_placeAtF mm_earsF mm_heardFromF mm_sharpOfF p1 = some (r0, r1, r2, r3, r4, r5, r6, r7, r8, r9, r10, r11, r12)) : xq_Ct l yX12_round wsX12_round { frames := 7, cells := 0, slots := 0, locals := 167 } (dC, dI) vwCl (xq_tys cI cB cJ cZ cM) z ad [.ref a_p0, .int p1] [(a_p0, .inr (12, oX12 mmI mmJ mmR)), ((mmR 45), .inl (cI, 22, .inl mm_nightOfF)), ((mmR 46), .inl (cI, 22, .inl mm_mileOfF)), ((mmR 47), .inl (cI, 22, .inl mm_roundsOfF)), ((mmR 48), .inl (cI, 22, .inl mm_talkingOfF)), ((mmR 49), .inl (cI, 22, .inl mm_hushOfF)), ((mmR 50), .inl (cI, 154, .inl mm_rowOfF)), ((mmR 52), .inl (cI, 22, .inl mm_keptManyF)), ((mmR 51), .inl (cI, 132, .inl mm_talkOfF)), ((mmR 53), .inl (cI, 2640, .inl mm_keptRowF)), ((mmR 24), .inl (cI, 6, .inl mm_sumFromF)), ((mmR 58), .inl (cI, 12, .inl mm_askedF)), ((mmR 25), .inl (cI, 6, .inl mm_sumBehindF)), ((mmR 57), .inl (cJ, 500, .inr (.inl mm_stackL))), ((mmR 26), .inl (cI, 3200, .inl mm_codeSortF)), ((mmR 27), .inl (cI, 3200, .inl mm_codeValueF)), ((mmR 14), .inl (cI, 2, .inl mm_milesToldF)), ((mmR 21), .inl (cI, 2, .inl mm_placesF)), ((mmR 22), .inl (cI, 12, .inl mm_placeAtF)), ((mmR 18), .inl (cI, 2, .inl mm_earsF)), ((mmR 59), .inl (cI, 70, .inl mm_heardFromF)), ((mmR 20), .inl (cI, 14, .inl mm_sharpOfF))] [(a_p0, .inr (12, oX12 mmI mmJ mmR)), ((mmR 45), .inl (cI, 22, .inl r1)), ((mmR 46), .inl (cI, 22, .inl r2)), ((mmR 47), .inl (cI, 22, .inl r3)), ((mmR 48), .inl (cI, 22, .inl r4)), ((mmR 49), .inl (cI, 22, .inl r5)), ((mmR 50), .inl (cI, 154, .inl r6)), ((mmR 52), .inl (cI, 22, .inl r7)), ((mmR 51), .inl (cI, 132, .inl r8)), ((mmR 53), .inl (cI, 2640, .inl r9)), ((mmR 24), .inl (cI, 6, .inl mm_sumFromF)), ((mmR 58), .inl (cI, 12, .inl r10)), ((mmR 25), .inl (cI, 6, .inl mm_sumBehindF)), ((mmR 57), .inl (cJ, 500, .inr (.inl r11))), ((mmR 26), .inl (cI, 3200, .inl mm_codeSortF)), ((mmR 27), .inl (cI, 3200, .inl mm_codeValueF)), ((mmR 14), .inl (cI, 2, .inl mm_milesToldF)), ((mmR 21), .inl (cI, 2, .inl mm_placesF)), ((mmR 22), .inl (cI, 12, .inl mm_placeAtF)), ((mmR 18), .inl (cI, 2, .inl mm_earsF)), ((mmR 59), .inl (cI, 70, .inl r12)), ((mmR 20), .inl (cI, 14, .inl mm_sharpOfF))] (some (.int r0)) := by
  intro sz
  refine Met.ofW (cc := cX12_round) (maxL := 3) (ret := (some .int)) (by decide) rfl ?_
  intro p e s m args below meth c s₁ B hml hv
  obtain ⟨rfl, hsz, hP, hK, hD0, hE, hz⟩ := hv
  have hx := B.exec
  have hb := B.bytes
  have hr := B.returns
  have hts := atoms_spec (ws := wsX12_round) B.pre
  have hown : s.vm.findClass RX12 = some m.cls := findClass_of_methodNamed B.named
  have hlocks := B.notSynchronized
  subst hsz
  have hD := hD0.self (sz := s.heap.size)
  have hN := xq_Env.of hE hz hD0
  generalize hAe : va_A [(a_p0, .inr (12, oX12 mmI mmJ mmR)), ((mmR 45), .inl (cI, 22, .inl mm_nightOfF)), ((mmR 46), .inl (cI, 22, .inl mm_mileOfF)), ((mmR 47), .inl (cI, 22, .inl mm_roundsOfF)), ((mmR 48), .inl (cI, 22, .inl mm_talkingOfF)), ((mmR 49), .inl (cI, 22, .inl mm_hushOfF)), ((mmR 50), .inl (cI, 154, .inl mm_rowOfF)), ((mmR 52), .inl (cI, 22, .inl mm_keptManyF)), ((mmR 51), .inl (cI, 132, .inl mm_talkOfF)), ((mmR 53), .inl (cI, 2640, .inl mm_keptRowF)), ((mmR 24), .inl (cI, 6, .inl mm_sumFromF)), ((mmR 58), .inl (cI, 12, .inl mm_askedF)), ((mmR 25), .inl (cI, 6, .inl mm_sumBehindF)), ((mmR 57), .inl (cJ, 500, .inr (.inl mm_stackL))), ((mmR 26), .inl (cI, 3200, .inl mm_codeSortF)), ((mmR 27), .inl (cI, 3200, .inl mm_codeValueF)), ((mmR 14), .inl (cI, 2, .inl mm_milesToldF)), ((mmR 21), .inl (cI, 2, .inl mm_placesF)), ((mmR 22), .inl (cI, 12, .inl mm_placeAtF)), ((mmR 18), .inl (cI, 2, .inl mm_earsF)), ((mmR 59), .inl (cI, 70, .inl mm_heardFromF)), ((mmR 20), .inl (cI, 14, .inl mm_sharpOfF))] s.heap.size = A at hD hN ⊢
  have hA : ∀ q : Nat, s.heap.size ≤ q → A q := fun q h => by rw [← hAe]; exact Or.inr h
  clear hAe hD0
  have hS : va_S A s.heap s.heap [] := va_S.rf
  have hl := lv_entry ([.ref a_p0, .int p1]) (n := 3) (Nat.le_of_ble_eq_true rfl)
  rw [lg_entry_eq]
  generalize (lg_sl ([.ref a_p0, .int p1]) ++ List.replicate (3 - (lg_sl ([.ref a_p0, .int p1])).length) Slot.unset).toArray = ls at hl ⊢
  have hl : lv_has ls 3 [(0, .ref a_p0), (1, .int p1)] := hl
  have hw0 := hts (.fieldLink RX12 156 "DistantVoiceModel" "roundsOf" "[I") (by decide +kernel)
  have hinX12 : ∀ w ∈ wsX120, w ∈ wsX12_round := fun w h => List.mem_cons_of_mem _ (List.mem_append_right _ h)
  have l21 : ∀ n21 : Nat, ∀ (mm_nightOfF_21 : Nat → Int32) (mm_mileOfF_21 : Nat → Int32) (mm_roundsOfF_21 : Nat → Int32) (mm_talkingOfF_21 : Nat → Int32) (mm_hushOfF_21 : Nat → Int32) (mm_rowOfF_21 : Nat → Int32) (mm_keptManyF_21 : Nat → Int32) (mm_talkOfF_21 : Nat → Int32) (mm_keptRowF_21 : Nat → Int32) (mm_askedF_21 : Nat → Int32) (mm_stackL_21 : Nat → Int64) (mm_heardFromF_21 : Nat → Int32) (x1_21 : Int32) (x2_21 : Int32) (ls : Array Slot) (H : Heap) (locs : List Loc), xq_loop (fX12_round_l21 N mmI mm_sumFromF mm_sumBehindF mm_codeSortF mm_codeValueF mm_milesToldF mm_placesF mm_placeAtF mm_earsF mm_sharpOfF) n21 (mm_nightOfF_21, mm_mileOfF_21, mm_roundsOfF_21, mm_talkingOfF_21, mm_hushOfF_21, mm_rowOfF_21, mm_keptManyF_21, mm_talkOfF_21, mm_keptRowF_21, mm_askedF_21, mm_stackL_21, mm_heardFromF_21, x1_21, x2_21) = some (r0, r1, r2, r3, r4, r5, r6, r7, r8, r9, r10, r11, r12) → va_P (dC, dI) vwCl [(a_p0, .inr (12, oX12 mmI mmJ mmR)), ((mmR 45), .inl (cI, 22, .inl mm_nightOfF_21)), ((mmR 46), .inl (cI, 22, .inl mm_mileOfF_21)), ((mmR 47), .inl (cI, 22, .inl mm_roundsOfF_21)), ((mmR 48), .inl (cI, 22, .inl mm_talkingOfF_21)), ((mmR 49), .inl (cI, 22, .inl mm_hushOfF_21)), ((mmR 50), .inl (cI, 154, .inl mm_rowOfF_21)), ((mmR 52), .inl (cI, 22, .inl mm_keptManyF_21)), ((mmR 51), .inl (cI, 132, .inl mm_talkOfF_21)), ((mmR 53), .inl (cI, 2640, .inl mm_keptRowF_21)), ((mmR 24), .inl (cI, 6, .inl mm_sumFromF)), ((mmR 58), .inl (cI, 12, .inl mm_askedF_21)), ((mmR 25), .inl (cI, 6, .inl mm_sumBehindF)), ((mmR 57), .inl (cJ, 500, .inr (.inl mm_stackL_21))), ((mmR 26), .inl (cI, 3200, .inl mm_codeSortF)), ((mmR 27), .inl (cI, 3200, .inl mm_codeValueF)), ((mmR 14), .inl (cI, 2, .inl mm_milesToldF)), ((mmR 21), .inl (cI, 2, .inl mm_placesF)), ((mmR 22), .inl (cI, 12, .inl mm_placeAtF)), ((mmR 18), .inl (cI, 2, .inl mm_earsF)), ((mmR 59), .inl (cI, 70, .inl mm_heardFromF_21)), ((mmR 20), .inl (cI, 14, .inl mm_sharpOfF))] H → va_D A [(a_p0, .inr (12, oX12 mmI mmJ mmR)), ((mmR 45), .inl (cI, 22, .inl mm_nightOfF_21)), ((mmR 46), .inl (cI, 22, .inl mm_mileOfF_21)), ((mmR 47), .inl (cI, 22, .inl mm_roundsOfF_21)), ((mmR 48), .inl (cI, 22, .inl mm_talkingOfF_21)), ((mmR 49), .inl (cI, 22, .inl mm_hushOfF_21)), ((mmR 50), .inl (cI, 154, .inl mm_rowOfF_21)), ((mmR 52), .inl (cI, 22, .inl mm_keptManyF_21)), ((mmR 51), .inl (cI, 132, .inl mm_talkOfF_21)), ((mmR 53), .inl (cI, 2640, .inl mm_keptRowF_21)), ((mmR 24), .inl (cI, 6, .inl mm_sumFromF)), ((mmR 58), .inl (cI, 12, .inl mm_askedF_21)), ((mmR 25), .inl (cI, 6, .inl mm_sumBehindF)), ((mmR 57), .inl (cJ, 500, .inr (.inl mm_stackL_21))), ((mmR 26), .inl (cI, 3200, .inl mm_codeSortF)), ((mmR 27), .inl (cI, 3200, .inl mm_codeValueF)), ((mmR 14), .inl (cI, 2, .inl mm_milesToldF)), ((mmR 21), .inl (cI, 2, .inl mm_placesF)), ((mmR 22), .inl (cI, 12, .inl mm_placeAtF)), ((mmR 18), .inl (cI, 2, .inl mm_earsF)), ((mmR 59), .inl (cI, 70, .inl mm_heardFromF_21)), ((mmR 20), .inl (cI, 14, .inl mm_sharpOfF))] → va_S A s.heap H locs → lv_has ls 3 [(0, .ref a_p0), (1, .int x1_21), (2, .int x2_21)] → W p l e (headSpec wsX12_round { frames := 7, cells := 0, slots := 0, locals := 167 }).room s m [.ref a_p0, .int p1].toArray below meth c H locs 0 0 (MQ below (xq_Q (dC, dI) vwCl (xq_tys cI cB cJ cZ cM) A [(a_p0, .inr (12, oX12 mmI mmJ mmR)), ((mmR 45), .inl (cI, 22, .inl r1)), ((mmR 46), .inl (cI, 22, .inl r2)), ((mmR 47), .inl (cI, 22, .inl r3)), ((mmR 48), .inl (cI, 22, .inl r4)), ((mmR 49), .inl (cI, 22, .inl r5)), ((mmR 50), .inl (cI, 154, .inl r6)), ((mmR 52), .inl (cI, 22, .inl r7)), ((mmR 51), .inl (cI, 132, .inl r8)), ((mmR 53), .inl (cI, 2640, .inl r9)), ((mmR 24), .inl (cI, 6, .inl mm_sumFromF)), ((mmR 58), .inl (cI, 12, .inl r10)), ((mmR 25), .inl (cI, 6, .inl mm_sumBehindF)), ((mmR 57), .inl (cJ, 500, .inr (.inl r11))), ((mmR 26), .inl (cI, 3200, .inl mm_codeSortF)), ((mmR 27), .inl (cI, 3200, .inl mm_codeValueF)), ((mmR 14), .inl (cI, 2, .inl mm_milesToldF)), ((mmR 21), .inl (cI, 2, .inl mm_placesF)), ((mmR 22), .inl (cI, 12, .inl mm_placeAtF)), ((mmR 18), .inl (cI, 2, .inl mm_earsF)), ((mmR 59), .inl (cI, 70, .inl r12)), ((mmR 20), .inl (cI, 14, .inl mm_sharpOfF))] (some (.int r0))) [.ref a_p0, .int p1].toArray s 0 0 A) (F0 m 21 ls []) := by
    intro n21
    induction n21 with
    | zero => intro mm_nightOfF_21 mm_mileOfF_21 mm_roundsOfF_21 mm_talkingOfF_21 mm_hushOfF_21 mm_rowOfF_21 mm_keptManyF_21 mm_talkOfF_21 mm_keptRowF_21 mm_askedF_21 mm_stackL_21 mm_heardFromF_21 x1_21 x2_21 ls H locs hf; cases (show none = some (r0, r1, r2, r3, r4, r5, r6, r7, r8, r9, r10, r11, r12) from hf)
    | succ n21 ih21 =>
      intro mm_nightOfF_21 mm_mileOfF_21 mm_roundsOfF_21 mm_talkingOfF_21 mm_hushOfF_21 mm_rowOfF_21 mm_keptManyF_21 mm_talkOfF_21 mm_keptRowF_21 mm_askedF_21 mm_stackL_21 mm_heardFromF_21 x1_21 x2_21 ls H locs hf hP hD hS hl
      have hf : fX12_round_l21 N mmI mm_sumFromF mm_sumBehindF mm_codeSortF mm_codeValueF mm_milesToldF mm_placesF mm_placeAtF mm_earsF mm_sharpOfF (xq_loop (fX12_round_l21 N mmI mm_sumFromF mm_sumBehindF mm_codeSortF mm_codeValueF mm_milesToldF mm_placesF mm_placeAtF mm_earsF mm_sharpOfF) n21) (mm_nightOfF_21, mm_mileOfF_21, mm_roundsOfF_21, mm_talkingOfF_21, mm_hushOfF_21, mm_rowOfF_21, mm_keptManyF_21, mm_talkOfF_21, mm_keptRowF_21, mm_askedF_21, mm_stackL_21, mm_heardFromF_21, x1_21, x2_21) = some (r0, r1, r2, r3, r4, r5, r6, r7, r8, r9, r10, r11, r12) := hf
      unfold fX12_round_l21 at hf
      refine lv_aload_n hx hb dX12_round_21 rfl (lv_at hl 0 rfl) ?_
      refine lv_iload_n hx hb dX12_round_22 rfl (lv_at hl 2 rfl) ?_
      refine lv_iconst (v := 0) hx hb dX12_round_23 (by decide) ?_
      refine lv_bipush (v := 60) hx hb dX12_round_24 (by decide) ?_
      obtain ⟨r_1, h_2, hf⟩ := xq_bd_some hf
      refine xq_callV (As := [.int x2_21, .int 0, .int 60]) (rest := []) (ci := 12) (q0 := 0) ⟨hx, hb, hml, hown, hts⟩ (kX12_isAhead l dC dI cI cB cJ cZ cM z ad N a_p0 mmI mmJ mmR mm_nightOfF_21 x2_21 0 60 h_2) (cwV 3 hts gX12_round_X12_isAhead rfl rfl rfl (by decide +kernel) ⟨Nat.le_of_ble_eq_true rfl, Nat.le_of_ble_eq_true rfl⟩) hN hK hP hD hS hA [0, 1] (by decide) rfl rfl rfl rfl rfl rfl hl.1 rfl (Nat.le_of_ble_eq_true rfl) dX12_round_26 ⟨Nat.zero_le _, Nat.zero_le _⟩ (fun H locs hP hD hS => ?_)
      have hP : va_P (dC, dI) vwCl [(a_p0, .inr (12, oX12 mmI mmJ mmR)), ((mmR 45), .inl (cI, 22, .inl mm_nightOfF_21)), ((mmR 46), .inl (cI, 22, .inl mm_mileOfF_21)), ((mmR 47), .inl (cI, 22, .inl mm_roundsOfF_21)), ((mmR 48), .inl (cI, 22, .inl mm_talkingOfF_21)), ((mmR 49), .inl (cI, 22, .inl mm_hushOfF_21)), ((mmR 50), .inl (cI, 154, .inl mm_rowOfF_21)), ((mmR 52), .inl (cI, 22, .inl mm_keptManyF_21)), ((mmR 51), .inl (cI, 132, .inl mm_talkOfF_21)), ((mmR 53), .inl (cI, 2640, .inl mm_keptRowF_21)), ((mmR 24), .inl (cI, 6, .inl mm_sumFromF)), ((mmR 58), .inl (cI, 12, .inl mm_askedF_21)), ((mmR 25), .inl (cI, 6, .inl mm_sumBehindF)), ((mmR 57), .inl (cJ, 500, .inr (.inl mm_stackL_21))), ((mmR 26), .inl (cI, 3200, .inl mm_codeSortF)), ((mmR 27), .inl (cI, 3200, .inl mm_codeValueF)), ((mmR 14), .inl (cI, 2, .inl mm_milesToldF)), ((mmR 21), .inl (cI, 2, .inl mm_placesF)), ((mmR 22), .inl (cI, 12, .inl mm_placeAtF)), ((mmR 18), .inl (cI, 2, .inl mm_earsF)), ((mmR 59), .inl (cI, 70, .inl mm_heardFromF_21)), ((mmR 20), .inl (cI, 14, .inl mm_sharpOfF))] H := hP
      have hD : va_D A [(a_p0, .inr (12, oX12 mmI mmJ mmR)), ((mmR 45), .inl (cI, 22, .inl mm_nightOfF_21)), ((mmR 46), .inl (cI, 22, .inl mm_mileOfF_21)), ((mmR 47), .inl (cI, 22, .inl mm_roundsOfF_21)), ((mmR 48), .inl (cI, 22, .inl mm_talkingOfF_21)), ((mmR 49), .inl (cI, 22, .inl mm_hushOfF_21)), ((mmR 50), .inl (cI, 154, .inl mm_rowOfF_21)), ((mmR 52), .inl (cI, 22, .inl mm_keptManyF_21)), ((mmR 51), .inl (cI, 132, .inl mm_talkOfF_21)), ((mmR 53), .inl (cI, 2640, .inl mm_keptRowF_21)), ((mmR 24), .inl (cI, 6, .inl mm_sumFromF)), ((mmR 58), .inl (cI, 12, .inl mm_askedF_21)), ((mmR 25), .inl (cI, 6, .inl mm_sumBehindF)), ((mmR 57), .inl (cJ, 500, .inr (.inl mm_stackL_21))), ((mmR 26), .inl (cI, 3200, .inl mm_codeSortF)), ((mmR 27), .inl (cI, 3200, .inl mm_codeValueF)), ((mmR 14), .inl (cI, 2, .inl mm_milesToldF)), ((mmR 21), .inl (cI, 2, .inl mm_placesF)), ((mmR 22), .inl (cI, 12, .inl mm_placeAtF)), ((mmR 18), .inl (cI, 2, .inl mm_earsF)), ((mmR 59), .inl (cI, 70, .inl mm_heardFromF_21)), ((mmR 20), .inl (cI, 14, .inl mm_sharpOfF))] := hD
      refine W.eq (g2 := F0 m 29 ls [.int r_1]) rfl ?_
      refine lv_if_eq (tgt := 56) hx hb dX12_round_29 (by decide) (fun c_ => ?_) (fun c_ => ?_)
      · have hf := xq_pos hf c_
        refine lv_iconst (v := (-1)) hx hb dX12_round_56 (by decide) ?_
        have e9 := Option.some.inj hf
        have e9_0 : (-1) = r0 := congrArg (fun t => t.1) e9
        have e9_1 : mm_nightOfF_21 = r1 := congrArg (fun t => t.2.1) e9
        have e9_2 : mm_mileOfF_21 = r2 := congrArg (fun t => t.2.2.1) e9
        have e9_3 : mm_roundsOfF_21 = r3 := congrArg (fun t => t.2.2.2.1) e9
        have e9_4 : mm_talkingOfF_21 = r4 := congrArg (fun t => t.2.2.2.2.1) e9
        have e9_5 : mm_hushOfF_21 = r5 := congrArg (fun t => t.2.2.2.2.2.1) e9
        have e9_6 : mm_rowOfF_21 = r6 := congrArg (fun t => t.2.2.2.2.2.2.1) e9
        have e9_7 : mm_keptManyF_21 = r7 := congrArg (fun t => t.2.2.2.2.2.2.2.1) e9
        have e9_8 : mm_talkOfF_21 = r8 := congrArg (fun t => t.2.2.2.2.2.2.2.2.1) e9
        have e9_9 : mm_keptRowF_21 = r9 := congrArg (fun t => t.2.2.2.2.2.2.2.2.2.1) e9
        have e9_10 : mm_askedF_21 = r10 := congrArg (fun t => t.2.2.2.2.2.2.2.2.2.2.1) e9
        have e9_11 : mm_stackL_21 = r11 := congrArg (fun t => t.2.2.2.2.2.2.2.2.2.2.2.1) e9
        have e9_12 : mm_heardFromF_21 = r12 := congrArg (fun t => t.2.2.2.2.2.2.2.2.2.2.2.2) e9
        clear e9 hf
        try clear l21
        try clear ih21
        subst e9_0
        subst e9_1
        subst e9_2
        subst e9_3
        subst e9_4
        subst e9_5
        subst e9_6
        subst e9_7
        subst e9_8
        subst e9_9
        subst e9_10
        subst e9_11
        subst e9_12
        exact xq_iret hx hb hr hlocks hK hP hD hS dX12_round_57
      · have hf := xq_neg hf c_
        refine lv_aload_n hx hb dX12_round_32 rfl (lv_at hl 0 rfl) ?_
        refine va_get (D := (dC, dI)) (ci := 12) (v := .ref ((mmR 47))) (C := RX12) (T := TX12) (N := 70) hx hb hts hinX12 hown hK hP 0 rfl rfl 47 (by decide) hw0 (fun _ h9 => h9) rfl dX12_round_33 ?_
        refine lv_iconst (v := 1) hx hb dX12_round_36 (by decide) ?_
        refine xq_iald hx hb hK hP 3 0 rfl rfl hf dX12_round_37 (fun v_3 hf => ?_)
        refine lv_iload_n hx hb dX12_round_38 rfl (lv_at hl 1 rfl) ?_
        refine lv_icmp_lt (tgt := 44) hx hb dX12_round_39 (by decide) (fun c_ => ?_) (fun c_ => ?_)
        · have hf := xq_pos hf c_
          refine lv_aload_n hx hb dX12_round_44 rfl (lv_at hl 0 rfl) ?_
          refine lv_iconst (v := 1) hx hb dX12_round_45 (by decide) ?_
          obtain ⟨⟨r_4_0, r_4_1, r_4_2, r_4_3, r_4_4, r_4_5, r_4_6, r_4_7, r_4_8, r_4_9⟩, h_5, hf⟩ := xq_bd_some hf
          refine xq_callV (As := [.int 1]) (rest := []) (ci := 12) (q0 := 0) ⟨hx, hb, hml, hown, hts⟩ (kX12_passes l dC dI cI cB cJ cZ cM z ad N a_p0 mmI mmJ mmR mm_hushOfF_21 mm_talkingOfF_21 mm_sumFromF mm_nightOfF_21 mm_askedF_21 mm_mileOfF_21 mm_roundsOfF_21 mm_sumBehindF mm_stackL_21 mm_codeSortF mm_codeValueF mm_milesToldF mm_placesF mm_placeAtF mm_talkOfF_21 mm_earsF mm_heardFromF_21 mm_sharpOfF mm_rowOfF_21 mm_keptManyF_21 mm_keptRowF_21 1 h_5) (cwV 1 hts gX12_round_X12_passes rfl rfl rfl (by decide +kernel) ⟨Nat.le_of_ble_eq_true rfl, Nat.le_of_ble_eq_true rfl⟩) hN hK hP hD hS hA [0, 5, 4, 10, 1, 11, 2, 3, 12, 13, 14, 15, 16, 17, 18, 8, 19, 20, 21, 6, 7, 9] (by decide) rfl rfl rfl rfl rfl rfl hl.1 rfl (Nat.le_of_ble_eq_true rfl) dX12_round_46 ⟨Nat.zero_le _, Nat.zero_le _⟩ (fun H locs hP hD hS => ?_)
          have hP : va_P (dC, dI) vwCl [(a_p0, .inr (12, oX12 mmI mmJ mmR)), ((mmR 45), .inl (cI, 22, .inl r_4_2)), ((mmR 46), .inl (cI, 22, .inl r_4_4)), ((mmR 47), .inl (cI, 22, .inl r_4_5)), ((mmR 48), .inl (cI, 22, .inl r_4_1)), ((mmR 49), .inl (cI, 22, .inl mm_hushOfF_21)), ((mmR 50), .inl (cI, 154, .inl mm_rowOfF_21)), ((mmR 52), .inl (cI, 22, .inl r_4_8)), ((mmR 51), .inl (cI, 132, .inl mm_talkOfF_21)), ((mmR 53), .inl (cI, 2640, .inl r_4_9)), ((mmR 24), .inl (cI, 6, .inl mm_sumFromF)), ((mmR 58), .inl (cI, 12, .inl r_4_3)), ((mmR 25), .inl (cI, 6, .inl mm_sumBehindF)), ((mmR 57), .inl (cJ, 500, .inr (.inl r_4_6))), ((mmR 26), .inl (cI, 3200, .inl mm_codeSortF)), ((mmR 27), .inl (cI, 3200, .inl mm_codeValueF)), ((mmR 14), .inl (cI, 2, .inl mm_milesToldF)), ((mmR 21), .inl (cI, 2, .inl mm_placesF)), ((mmR 22), .inl (cI, 12, .inl mm_placeAtF)), ((mmR 18), .inl (cI, 2, .inl mm_earsF)), ((mmR 59), .inl (cI, 70, .inl r_4_7)), ((mmR 20), .inl (cI, 14, .inl mm_sharpOfF))] H := hP
          have hD : va_D A [(a_p0, .inr (12, oX12 mmI mmJ mmR)), ((mmR 45), .inl (cI, 22, .inl r_4_2)), ((mmR 46), .inl (cI, 22, .inl r_4_4)), ((mmR 47), .inl (cI, 22, .inl r_4_5)), ((mmR 48), .inl (cI, 22, .inl r_4_1)), ((mmR 49), .inl (cI, 22, .inl mm_hushOfF_21)), ((mmR 50), .inl (cI, 154, .inl mm_rowOfF_21)), ((mmR 52), .inl (cI, 22, .inl r_4_8)), ((mmR 51), .inl (cI, 132, .inl mm_talkOfF_21)), ((mmR 53), .inl (cI, 2640, .inl r_4_9)), ((mmR 24), .inl (cI, 6, .inl mm_sumFromF)), ((mmR 58), .inl (cI, 12, .inl r_4_3)), ((mmR 25), .inl (cI, 6, .inl mm_sumBehindF)), ((mmR 57), .inl (cJ, 500, .inr (.inl r_4_6))), ((mmR 26), .inl (cI, 3200, .inl mm_codeSortF)), ((mmR 27), .inl (cI, 3200, .inl mm_codeValueF)), ((mmR 14), .inl (cI, 2, .inl mm_milesToldF)), ((mmR 21), .inl (cI, 2, .inl mm_placesF)), ((mmR 22), .inl (cI, 12, .inl mm_placeAtF)), ((mmR 18), .inl (cI, 2, .inl mm_earsF)), ((mmR 59), .inl (cI, 70, .inl r_4_7)), ((mmR 20), .inl (cI, 14, .inl mm_sharpOfF))] := hD
          refine W.eq (g2 := F0 m 49 ls [.int r_4_0]) rfl ?_
          refine lv_pop hx hb dX12_round_49 rfl ?_
          refine lv_iinc (v := x2_21 + 1) (lv' := [(2, .int (x2_21 + 1)), (0, .ref a_p0), (1, .int x1_21)]) hx hb dX12_round_50 hl (k := 2) rfl (congrArg (fun q9 => x2_21 + q9) (by decide : Int32.ofInt 1 = 1)) (by decide) rfl (fun ls hl => ?_)
          refine lv_goto (tgt := 21) hx hb dX12_round_53 (by decide) ?_
          exact ih21 r_4_2 r_4_4 r_4_5 r_4_1 mm_hushOfF_21 mm_rowOfF_21 r_4_8 mm_talkOfF_21 r_4_9 r_4_3 r_4_6 r_4_7 x1_21 (x2_21 + 1) _ _ _ hf hP hD hS (lv_sub hl [1, 2, 0] rfl)
        · have hf := xq_neg hf c_
          refine lv_iload_n hx hb dX12_round_42 rfl (lv_at hl 2 rfl) ?_
          have e9 := Option.some.inj hf
          have e9_0 : x2_21 = r0 := congrArg (fun t => t.1) e9
          have e9_1 : mm_nightOfF_21 = r1 := congrArg (fun t => t.2.1) e9
          have e9_2 : mm_mileOfF_21 = r2 := congrArg (fun t => t.2.2.1) e9
          have e9_3 : mm_roundsOfF_21 = r3 := congrArg (fun t => t.2.2.2.1) e9
          have e9_4 : mm_talkingOfF_21 = r4 := congrArg (fun t => t.2.2.2.2.1) e9
          have e9_5 : mm_hushOfF_21 = r5 := congrArg (fun t => t.2.2.2.2.2.1) e9
          have e9_6 : mm_rowOfF_21 = r6 := congrArg (fun t => t.2.2.2.2.2.2.1) e9
          have e9_7 : mm_keptManyF_21 = r7 := congrArg (fun t => t.2.2.2.2.2.2.2.1) e9
          have e9_8 : mm_talkOfF_21 = r8 := congrArg (fun t => t.2.2.2.2.2.2.2.2.1) e9
          have e9_9 : mm_keptRowF_21 = r9 := congrArg (fun t => t.2.2.2.2.2.2.2.2.2.1) e9
          have e9_10 : mm_askedF_21 = r10 := congrArg (fun t => t.2.2.2.2.2.2.2.2.2.2.1) e9
          have e9_11 : mm_stackL_21 = r11 := congrArg (fun t => t.2.2.2.2.2.2.2.2.2.2.2.1) e9
          have e9_12 : mm_heardFromF_21 = r12 := congrArg (fun t => t.2.2.2.2.2.2.2.2.2.2.2.2) e9
          clear e9 hf
          try clear l21
          try clear ih21
          subst e9_0
          subst e9_1
          subst e9_2
          subst e9_3
          subst e9_4
          subst e9_5
          subst e9_6
          subst e9_7
          subst e9_8
          subst e9_9
          subst e9_10
          subst e9_11
          subst e9_12
          exact xq_iret hx hb hr hlocks hK hP hD hS dX12_round_43
  unfold fX12_round at hf
  refine lv_iload_n hx hb dX12_round_0 rfl (lv_at hl 1 rfl) ?_
  refine lv_iconst (v := 0) hx hb dX12_round_1 (by decide) ?_
  refine lv_sipush (v := 999) hx hb dX12_round_2 (by decide) ?_
  obtain ⟨r_1, h_2, hf⟩ := xq_bd_some hf
  refine xq_callS (As := [.int p1, .int 0, .int 999]) (rest := []) ⟨hx, hb, hml, hown, hts⟩ (kX12_is l dC dI cI cB cJ cZ cM z ad N p1 0 999 h_2) (va_cwS 3 hts gX12_round_X12_is rfl rfl rfl (by decide +kernel) ⟨Nat.le_of_ble_eq_true rfl, Nat.le_of_ble_eq_true rfl⟩) hN hK hP hD hS hA [] (by decide) rfl rfl rfl hl.1 rfl (Nat.le_of_ble_eq_true rfl) dX12_round_5 ⟨Nat.zero_le _, Nat.zero_le _⟩ (fun H locs hP hD hS => ?_)
  have hP : va_P (dC, dI) vwCl [(a_p0, .inr (12, oX12 mmI mmJ mmR)), ((mmR 45), .inl (cI, 22, .inl mm_nightOfF)), ((mmR 46), .inl (cI, 22, .inl mm_mileOfF)), ((mmR 47), .inl (cI, 22, .inl mm_roundsOfF)), ((mmR 48), .inl (cI, 22, .inl mm_talkingOfF)), ((mmR 49), .inl (cI, 22, .inl mm_hushOfF)), ((mmR 50), .inl (cI, 154, .inl mm_rowOfF)), ((mmR 52), .inl (cI, 22, .inl mm_keptManyF)), ((mmR 51), .inl (cI, 132, .inl mm_talkOfF)), ((mmR 53), .inl (cI, 2640, .inl mm_keptRowF)), ((mmR 24), .inl (cI, 6, .inl mm_sumFromF)), ((mmR 58), .inl (cI, 12, .inl mm_askedF)), ((mmR 25), .inl (cI, 6, .inl mm_sumBehindF)), ((mmR 57), .inl (cJ, 500, .inr (.inl mm_stackL))), ((mmR 26), .inl (cI, 3200, .inl mm_codeSortF)), ((mmR 27), .inl (cI, 3200, .inl mm_codeValueF)), ((mmR 14), .inl (cI, 2, .inl mm_milesToldF)), ((mmR 21), .inl (cI, 2, .inl mm_placesF)), ((mmR 22), .inl (cI, 12, .inl mm_placeAtF)), ((mmR 18), .inl (cI, 2, .inl mm_earsF)), ((mmR 59), .inl (cI, 70, .inl mm_heardFromF)), ((mmR 20), .inl (cI, 14, .inl mm_sharpOfF))] H := hP
  have hD : va_D A [(a_p0, .inr (12, oX12 mmI mmJ mmR)), ((mmR 45), .inl (cI, 22, .inl mm_nightOfF)), ((mmR 46), .inl (cI, 22, .inl mm_mileOfF)), ((mmR 47), .inl (cI, 22, .inl mm_roundsOfF)), ((mmR 48), .inl (cI, 22, .inl mm_talkingOfF)), ((mmR 49), .inl (cI, 22, .inl mm_hushOfF)), ((mmR 50), .inl (cI, 154, .inl mm_rowOfF)), ((mmR 52), .inl (cI, 22, .inl mm_keptManyF)), ((mmR 51), .inl (cI, 132, .inl mm_talkOfF)), ((mmR 53), .inl (cI, 2640, .inl mm_keptRowF)), ((mmR 24), .inl (cI, 6, .inl mm_sumFromF)), ((mmR 58), .inl (cI, 12, .inl mm_askedF)), ((mmR 25), .inl (cI, 6, .inl mm_sumBehindF)), ((mmR 57), .inl (cJ, 500, .inr (.inl mm_stackL))), ((mmR 26), .inl (cI, 3200, .inl mm_codeSortF)), ((mmR 27), .inl (cI, 3200, .inl mm_codeValueF)), ((mmR 14), .inl (cI, 2, .inl mm_milesToldF)), ((mmR 21), .inl (cI, 2, .inl mm_placesF)), ((mmR 22), .inl (cI, 12, .inl mm_placeAtF)), ((mmR 18), .inl (cI, 2, .inl mm_earsF)), ((mmR 59), .inl (cI, 70, .inl mm_heardFromF)), ((mmR 20), .inl (cI, 14, .inl mm_sharpOfF))] := hD
  refine W.eq (g2 := F0 m 8 ls [.int r_1]) rfl ?_
  refine lv_if_ne (tgt := 13) hx hb dX12_round_8 (by decide) (fun c_ => ?_) (fun c_ => ?_)
  · have hf := xq_neg hf c_
    refine lv_aload_n hx hb dX12_round_13 rfl (lv_at hl 0 rfl) ?_
    refine lv_iconst (v := 1) hx hb dX12_round_14 (by decide) ?_
    refine lv_iconst (v := 0) hx hb dX12_round_15 (by decide) ?_
    obtain ⟨⟨r_3_0, r_3_1, r_3_2, r_3_3, r_3_4, r_3_5, r_3_6, r_3_7, r_3_8⟩, h_4, hf⟩ := xq_bd_some hf
    refine xq_callV (As := [.int 1, .int 0]) (rest := []) (ci := 12) (q0 := 0) ⟨hx, hb, hml, hown, hts⟩ (kX12_copies l dC dI cI cB cJ cZ cM z ad N a_p0 mmI mmJ mmR mm_nightOfF mm_mileOfF mm_roundsOfF mm_talkingOfF mm_hushOfF mm_rowOfF mm_keptManyF mm_talkOfF mm_keptRowF 1 0 h_4) (cwV 2 hts gX12_round_X12_copies rfl rfl rfl (by decide +kernel) ⟨Nat.le_of_ble_eq_true rfl, Nat.le_of_ble_eq_true rfl⟩) hN hK hP hD hS hA [0, 1, 2, 3, 4, 5, 6, 7, 8, 9] (by decide) rfl rfl rfl rfl rfl rfl hl.1 rfl (Nat.le_of_ble_eq_true rfl) dX12_round_16 ⟨Nat.zero_le _, Nat.zero_le _⟩ (fun H locs hP hD hS => ?_)
    have hP : va_P (dC, dI) vwCl [(a_p0, .inr (12, oX12 mmI mmJ mmR)), ((mmR 45), .inl (cI, 22, .inl r_3_0)), ((mmR 46), .inl (cI, 22, .inl r_3_1)), ((mmR 47), .inl (cI, 22, .inl r_3_2)), ((mmR 48), .inl (cI, 22, .inl r_3_3)), ((mmR 49), .inl (cI, 22, .inl r_3_4)), ((mmR 50), .inl (cI, 154, .inl r_3_5)), ((mmR 52), .inl (cI, 22, .inl r_3_6)), ((mmR 51), .inl (cI, 132, .inl r_3_7)), ((mmR 53), .inl (cI, 2640, .inl r_3_8)), ((mmR 24), .inl (cI, 6, .inl mm_sumFromF)), ((mmR 58), .inl (cI, 12, .inl mm_askedF)), ((mmR 25), .inl (cI, 6, .inl mm_sumBehindF)), ((mmR 57), .inl (cJ, 500, .inr (.inl mm_stackL))), ((mmR 26), .inl (cI, 3200, .inl mm_codeSortF)), ((mmR 27), .inl (cI, 3200, .inl mm_codeValueF)), ((mmR 14), .inl (cI, 2, .inl mm_milesToldF)), ((mmR 21), .inl (cI, 2, .inl mm_placesF)), ((mmR 22), .inl (cI, 12, .inl mm_placeAtF)), ((mmR 18), .inl (cI, 2, .inl mm_earsF)), ((mmR 59), .inl (cI, 70, .inl mm_heardFromF)), ((mmR 20), .inl (cI, 14, .inl mm_sharpOfF))] H := hP
    have hD : va_D A [(a_p0, .inr (12, oX12 mmI mmJ mmR)), ((mmR 45), .inl (cI, 22, .inl r_3_0)), ((mmR 46), .inl (cI, 22, .inl r_3_1)), ((mmR 47), .inl (cI, 22, .inl r_3_2)), ((mmR 48), .inl (cI, 22, .inl r_3_3)), ((mmR 49), .inl (cI, 22, .inl r_3_4)), ((mmR 50), .inl (cI, 154, .inl r_3_5)), ((mmR 52), .inl (cI, 22, .inl r_3_6)), ((mmR 51), .inl (cI, 132, .inl r_3_7)), ((mmR 53), .inl (cI, 2640, .inl r_3_8)), ((mmR 24), .inl (cI, 6, .inl mm_sumFromF)), ((mmR 58), .inl (cI, 12, .inl mm_askedF)), ((mmR 25), .inl (cI, 6, .inl mm_sumBehindF)), ((mmR 57), .inl (cJ, 500, .inr (.inl mm_stackL))), ((mmR 26), .inl (cI, 3200, .inl mm_codeSortF)), ((mmR 27), .inl (cI, 3200, .inl mm_codeValueF)), ((mmR 14), .inl (cI, 2, .inl mm_milesToldF)), ((mmR 21), .inl (cI, 2, .inl mm_placesF)), ((mmR 22), .inl (cI, 12, .inl mm_placeAtF)), ((mmR 18), .inl (cI, 2, .inl mm_earsF)), ((mmR 59), .inl (cI, 70, .inl mm_heardFromF)), ((mmR 20), .inl (cI, 14, .inl mm_sharpOfF))] := hD
    refine W.eq (g2 := F0 m 19 ls []) rfl ?_
    refine lv_iconst (v := 0) hx hb dX12_round_19 (by decide) ?_
    refine lv_istore_n (lv' := [(2, .int 0), (0, .ref a_p0), (1, .int p1)]) hx hb dX12_round_20 rfl hl (by decide) rfl (fun ls hl => ?_)
    exact l21 N r_3_0 r_3_1 r_3_2 r_3_3 r_3_4 r_3_5 r_3_6 r_3_7 r_3_8 mm_askedF mm_stackL mm_heardFromF p1 0 _ _ _ hf hP hD hS (lv_sub hl [1, 2, 0] rfl)
  · have hf := xq_pos hf c_
    refine lv_iconst (v := (-1)) hx hb dX12_round_11 (by decide) ?_
    have e9 := Option.some.inj hf
    have e9_0 : (-1) = r0 := congrArg (fun t => t.1) e9
    have e9_1 : mm_nightOfF = r1 := congrArg (fun t => t.2.1) e9
    have e9_2 : mm_mileOfF = r2 := congrArg (fun t => t.2.2.1) e9
    have e9_3 : mm_roundsOfF = r3 := congrArg (fun t => t.2.2.2.1) e9
    have e9_4 : mm_talkingOfF = r4 := congrArg (fun t => t.2.2.2.2.1) e9
    have e9_5 : mm_hushOfF = r5 := congrArg (fun t => t.2.2.2.2.2.1) e9
    have e9_6 : mm_rowOfF = r6 := congrArg (fun t => t.2.2.2.2.2.2.1) e9
    have e9_7 : mm_keptManyF = r7 := congrArg (fun t => t.2.2.2.2.2.2.2.1) e9
    have e9_8 : mm_talkOfF = r8 := congrArg (fun t => t.2.2.2.2.2.2.2.2.1) e9
    have e9_9 : mm_keptRowF = r9 := congrArg (fun t => t.2.2.2.2.2.2.2.2.2.1) e9
    have e9_10 : mm_askedF = r10 := congrArg (fun t => t.2.2.2.2.2.2.2.2.2.2.1) e9
    have e9_11 : mm_stackL = r11 := congrArg (fun t => t.2.2.2.2.2.2.2.2.2.2.2.1) e9
    have e9_12 : mm_heardFromF = r12 := congrArg (fun t => t.2.2.2.2.2.2.2.2.2.2.2.2) e9
    clear e9 hf
    try clear l21
    try clear ih21
    subst e9_0
    subst e9_1
    subst e9_2
    subst e9_3
    subst e9_4
    subst e9_5
    subst e9_6
    subst e9_7
    subst e9_8
    subst e9_9
    subst e9_10
    subst e9_11
    subst e9_12
    exact xq_iret hx hb hr hlocks hK hP hD hS dX12_round_12
set_option maxRecDepth 20000 in
theorem ggX12_heard_X12_is : GoodIn wsX12_heard wsX12_is := goodIn_r _ [4] rfl (by decide +kernel)
set_option maxRecDepth 20000 in
theorem gX12_heard_X12_is : GoodIn wsX12_heard (va_wsS RX12 301 yX12_is wsX12_is) := goodIn_app (goodIn_of _ (by decide +kernel)) ggX12_heard_X12_is
set_option maxRecDepth 20000 in
theorem ggX12_heard_X12_isAhead : GoodIn wsX12_heard wsX12_isAhead := goodIn_r _ [8, 9, 10, 1, 2, 3, 4, 102, 103, 104, 105, 106, 107, 108, 109, 110, 111, 112, 113, 114, 115, 116, 117, 118, 119, 120, 121, 122, 123, 124, 125, 126, 127, 128, 129, 130, 131, 132, 133, 134, 135, 136, 137, 138, 139, 140, 141, 142, 143, 144, 145, 146, 147, 148, 149, 150, 151, 152, 153, 154, 155, 156, 157, 158, 159, 160, 161, 162, 163, 164, 165, 166, 167, 168, 169, 170, 171] rfl (by decide +kernel)
set_option maxRecDepth 20000 in
theorem gX12_heard_X12_isAhead : GoodIn wsX12_heard (wsV RX12 465 RX12 yX12_isAhead wsX12_isAhead) := goodIn_app (goodIn_of _ (by decide +kernel)) ggX12_heard_X12_isAhead
set_option maxRecDepth 20000 in
theorem ggX12_heard_X12_copies : GoodIn wsX12_heard wsX12_copies := goodIn_r _ [14, 10, 15, 16, 17, 18, 19, 20, 21, 22, 102, 103, 104, 105, 106, 107, 108, 109, 110, 111, 112, 113, 114, 115, 116, 117, 118, 119, 120, 121, 122, 123, 124, 125, 126, 127, 128, 129, 130, 131, 132, 133, 134, 135, 136, 137, 138, 139, 140, 141, 142, 143, 144, 145, 146, 147, 148, 149, 150, 151, 152, 153, 154, 155, 156, 157, 158, 159, 160, 161, 162, 163, 164, 165, 166, 167, 168, 169, 170, 171] rfl (by decide +kernel)
set_option maxRecDepth 20000 in
theorem gX12_heard_X12_copies : GoodIn wsX12_heard (wsV RX12 394 RX12 yX12_copies wsX12_copies) := goodIn_app (goodIn_of _ (by decide +kernel)) ggX12_heard_X12_copies
set_option maxRecDepth 20000 in
theorem ggX12_heard_X12_runsOn : GoodIn wsX12_heard wsX12_runsOn := goodIn_r _ [26, 27, 28, 29, 3, 30, 18, 31, 32, 33, 34, 17, 35, 36, 19, 10, 37, 38, 39, 40, 15, 41, 16, 42, 43, 44, 45, 46, 47, 48, 49, 50, 51, 52, 53, 54, 55, 56, 57, 58, 59, 60, 61, 62, 63, 64, 65, 66, 67, 68, 69, 70, 71, 72, 73, 74, 75, 76, 77, 78, 79, 80, 81, 82, 83, 20, 84, 85, 86, 87, 88, 89, 90, 91, 92, 93, 94, 95, 96, 97, 98, 99, 100, 101, 21, 22, 102, 103, 104, 105, 106, 107, 108, 109, 110, 111, 112, 113, 114, 115, 116, 117, 118, 119, 120, 121, 122, 123, 124, 125, 126, 127, 128, 129, 130, 131, 132, 133, 134, 135, 136, 137, 138, 139, 140, 141, 142, 143, 144, 145, 146, 147, 148, 149, 150, 151, 152, 153, 154, 155, 156, 157, 158, 159, 160, 161, 162, 163, 164, 165, 166, 167, 168, 169, 170, 171] rfl (by decide +kernel)
set_option maxRecDepth 20000 in
theorem gX12_heard_X12_runsOn : GoodIn wsX12_heard (wsV RX12 468 RX12 yX12_runsOn wsX12_runsOn) := goodIn_app (goodIn_of _ (by decide +kernel)) ggX12_heard_X12_runsOn
set_option maxRecDepth 20000 in
theorem ggX12_heard_X12_passes : GoodIn wsX12_heard wsX12_passes := goodIn_r _ [30, 18, 31, 32, 33, 3, 34, 17, 35, 36, 19, 10, 37, 38, 39, 40, 15, 41, 16, 42, 43, 44, 45, 46, 47, 48, 49, 50, 51, 52, 53, 54, 55, 56, 57, 58, 59, 60, 61, 62, 63, 64, 65, 66, 67, 68, 69, 70, 71, 72, 73, 74, 75, 76, 77, 78, 79, 80, 81, 82, 83, 20, 84, 85, 86, 87, 88, 89, 90, 91, 92, 93, 94, 95, 96, 97, 98, 99, 100, 101, 21, 22, 102, 103, 104, 105, 106, 107, 108, 109, 110, 111, 112, 113, 114, 115, 116, 117, 118, 119, 120, 121, 122, 123, 124, 125, 126, 127, 128, 129, 130, 131, 132, 133, 134, 135, 136, 137, 138, 139, 140, 141, 142, 143, 144, 145, 146, 147, 148, 149, 150, 151, 152, 153, 154, 155, 156, 157, 158, 159, 160, 161, 162, 163, 164, 165, 166, 167, 168, 169, 170, 171] rfl (by decide +kernel)
set_option maxRecDepth 20000 in
theorem gX12_heard_X12_passes : GoodIn wsX12_heard (wsV RX12 462 RX12 yX12_passes wsX12_passes) := goodIn_app (goodIn_of _ (by decide +kernel)) ggX12_heard_X12_passes
def dsX12_heard_0 : List (Nat × Instr × Nat) := [(0, (.iload_n 1, 1)), (1, (.iconst 0, 1)), (2, (.bipush 59, 2)), (4, (.invokestatic 301, 3)), (7, (.ifCond .eq 16, 3)), (10, (.aload_n 0, 1)), (11, (.iload_n 1, 1)), (12, (.iconst 1, 1)), (13, (.iadd, 1)), (14, (.iconst 1, 1)), (15, (.bipush 60, 2)), (17, (.invokevirtual 465, 3)), (20, (.ifCond .ne 5, 3)), (23, (.iconst (-1), 1)), (24, (.ireturn, 1)), (25, (.aload_n 0, 1)), (26, (.iconst 1, 1)), (27, (.iconst 0, 1)), (28, (.invokevirtual 394, 3)), (31, (.aload_n 0, 1)), (32, (.iload_n 1, 1)), (33, (.invokevirtual 468, 3)), (36, (.aload_n 0, 1)), (37, (.iconst 1, 1)), (38, (.invokevirtual 462, 3)), (41, (.ireturn, 1))]
theorem dsX12_heard_0_ok : (dsX12_heard_0.all fun q => decide (decode cX12_heard q.1 = .ok q.2)) = true := by decide +kernel
theorem dX12_heard_0 : decode cX12_heard 0 = .ok (.iload_n 1, 1) := of_decide_eq_true (List.all_eq_true.mp dsX12_heard_0_ok (0, (.iload_n 1, 1)) (List.mem_of_getElem? (i := 0) rfl))
theorem dX12_heard_1 : decode cX12_heard 1 = .ok (.iconst 0, 1) := of_decide_eq_true (List.all_eq_true.mp dsX12_heard_0_ok (1, (.iconst 0, 1)) (List.mem_of_getElem? (i := 1) rfl))
theorem dX12_heard_2 : decode cX12_heard 2 = .ok (.bipush 59, 2) := of_decide_eq_true (List.all_eq_true.mp dsX12_heard_0_ok (2, (.bipush 59, 2)) (List.mem_of_getElem? (i := 2) rfl))
theorem dX12_heard_4 : decode cX12_heard 4 = .ok (.invokestatic 301, 3) := of_decide_eq_true (List.all_eq_true.mp dsX12_heard_0_ok (4, (.invokestatic 301, 3)) (List.mem_of_getElem? (i := 3) rfl))
theorem dX12_heard_7 : decode cX12_heard 7 = .ok (.ifCond .eq 16, 3) := of_decide_eq_true (List.all_eq_true.mp dsX12_heard_0_ok (7, (.ifCond .eq 16, 3)) (List.mem_of_getElem? (i := 4) rfl))
theorem dX12_heard_10 : decode cX12_heard 10 = .ok (.aload_n 0, 1) := of_decide_eq_true (List.all_eq_true.mp dsX12_heard_0_ok (10, (.aload_n 0, 1)) (List.mem_of_getElem? (i := 5) rfl))
theorem dX12_heard_11 : decode cX12_heard 11 = .ok (.iload_n 1, 1) := of_decide_eq_true (List.all_eq_true.mp dsX12_heard_0_ok (11, (.iload_n 1, 1)) (List.mem_of_getElem? (i := 6) rfl))
theorem dX12_heard_12 : decode cX12_heard 12 = .ok (.iconst 1, 1) := of_decide_eq_true (List.all_eq_true.mp dsX12_heard_0_ok (12, (.iconst 1, 1)) (List.mem_of_getElem? (i := 7) rfl))
theorem dX12_heard_13 : decode cX12_heard 13 = .ok (.iadd, 1) := of_decide_eq_true (List.all_eq_true.mp dsX12_heard_0_ok (13, (.iadd, 1)) (List.mem_of_getElem? (i := 8) rfl))
theorem dX12_heard_14 : decode cX12_heard 14 = .ok (.iconst 1, 1) := of_decide_eq_true (List.all_eq_true.mp dsX12_heard_0_ok (14, (.iconst 1, 1)) (List.mem_of_getElem? (i := 9) rfl))
theorem dX12_heard_15 : decode cX12_heard 15 = .ok (.bipush 60, 2) := of_decide_eq_true (List.all_eq_true.mp dsX12_heard_0_ok (15, (.bipush 60, 2)) (List.mem_of_getElem? (i := 10) rfl))
theorem dX12_heard_17 : decode cX12_heard 17 = .ok (.invokevirtual 465, 3) := of_decide_eq_true (List.all_eq_true.mp dsX12_heard_0_ok (17, (.invokevirtual 465, 3)) (List.mem_of_getElem? (i := 11) rfl))
theorem dX12_heard_20 : decode cX12_heard 20 = .ok (.ifCond .ne 5, 3) := of_decide_eq_true (List.all_eq_true.mp dsX12_heard_0_ok (20, (.ifCond .ne 5, 3)) (List.mem_of_getElem? (i := 12) rfl))
theorem dX12_heard_23 : decode cX12_heard 23 = .ok (.iconst (-1), 1) := of_decide_eq_true (List.all_eq_true.mp dsX12_heard_0_ok (23, (.iconst (-1), 1)) (List.mem_of_getElem? (i := 13) rfl))
theorem dX12_heard_24 : decode cX12_heard 24 = .ok (.ireturn, 1) := of_decide_eq_true (List.all_eq_true.mp dsX12_heard_0_ok (24, (.ireturn, 1)) (List.mem_of_getElem? (i := 14) rfl))
theorem dX12_heard_25 : decode cX12_heard 25 = .ok (.aload_n 0, 1) := of_decide_eq_true (List.all_eq_true.mp dsX12_heard_0_ok (25, (.aload_n 0, 1)) (List.mem_of_getElem? (i := 15) rfl))
theorem dX12_heard_26 : decode cX12_heard 26 = .ok (.iconst 1, 1) := of_decide_eq_true (List.all_eq_true.mp dsX12_heard_0_ok (26, (.iconst 1, 1)) (List.mem_of_getElem? (i := 16) rfl))
theorem dX12_heard_27 : decode cX12_heard 27 = .ok (.iconst 0, 1) := of_decide_eq_true (List.all_eq_true.mp dsX12_heard_0_ok (27, (.iconst 0, 1)) (List.mem_of_getElem? (i := 17) rfl))
theorem dX12_heard_28 : decode cX12_heard 28 = .ok (.invokevirtual 394, 3) := of_decide_eq_true (List.all_eq_true.mp dsX12_heard_0_ok (28, (.invokevirtual 394, 3)) (List.mem_of_getElem? (i := 18) rfl))
theorem dX12_heard_31 : decode cX12_heard 31 = .ok (.aload_n 0, 1) := of_decide_eq_true (List.all_eq_true.mp dsX12_heard_0_ok (31, (.aload_n 0, 1)) (List.mem_of_getElem? (i := 19) rfl))
theorem dX12_heard_32 : decode cX12_heard 32 = .ok (.iload_n 1, 1) := of_decide_eq_true (List.all_eq_true.mp dsX12_heard_0_ok (32, (.iload_n 1, 1)) (List.mem_of_getElem? (i := 20) rfl))
theorem dX12_heard_33 : decode cX12_heard 33 = .ok (.invokevirtual 468, 3) := of_decide_eq_true (List.all_eq_true.mp dsX12_heard_0_ok (33, (.invokevirtual 468, 3)) (List.mem_of_getElem? (i := 21) rfl))
theorem dX12_heard_36 : decode cX12_heard 36 = .ok (.aload_n 0, 1) := of_decide_eq_true (List.all_eq_true.mp dsX12_heard_0_ok (36, (.aload_n 0, 1)) (List.mem_of_getElem? (i := 22) rfl))
theorem dX12_heard_37 : decode cX12_heard 37 = .ok (.iconst 1, 1) := of_decide_eq_true (List.all_eq_true.mp dsX12_heard_0_ok (37, (.iconst 1, 1)) (List.mem_of_getElem? (i := 23) rfl))
theorem dX12_heard_38 : decode cX12_heard 38 = .ok (.invokevirtual 462, 3) := of_decide_eq_true (List.all_eq_true.mp dsX12_heard_0_ok (38, (.invokevirtual 462, 3)) (List.mem_of_getElem? (i := 24) rfl))
theorem dX12_heard_41 : decode cX12_heard 41 = .ok (.ireturn, 1) := of_decide_eq_true (List.all_eq_true.mp dsX12_heard_0_ok (41, (.ireturn, 1)) (List.mem_of_getElem? (i := 25) rfl))
def fX12_heard (N : Nat) (mmI : Nat → Int32) (mm_nightOfF : Nat → Int32) (mm_mileOfF : Nat → Int32) (mm_roundsOfF : Nat → Int32) (mm_talkingOfF : Nat → Int32) (mm_hushOfF : Nat → Int32) (mm_rowOfF : Nat → Int32) (mm_keptManyF : Nat → Int32) (mm_talkOfF : Nat → Int32) (mm_keptRowF : Nat → Int32) (mm_sumFromF : Nat → Int32) (mm_askedF : Nat → Int32) (mm_sumBehindF : Nat → Int32) (mm_stackL : Nat → Int64) (mm_codeSortF : Nat → Int32) (mm_codeValueF : Nat → Int32) (mm_milesToldF : Nat → Int32) (mm_placesF : Nat → Int32) (mm_placeAtF : Nat → Int32) (mm_earsF : Nat → Int32) (mm_heardFromF : Nat → Int32) (mm_sharpOfF : Nat → Int32)  (p1 : Int32) : Option (Int32 × (Nat → Int32) × (Nat → Int32) × (Nat → Int32) × (Nat → Int32) × (Nat → Int32) × (Nat → Int32) × (Nat → Int32) × (Nat → Int32) × (Nat → Int32) × (Nat → Int32) × (Nat → Int64) × (Nat → Int32)) :=
  (xq_bd (fX12_is N p1 0 59) fun r_1 => (if r_1 = 0 then some (((-1), mm_nightOfF, mm_mileOfF, mm_roundsOfF, mm_talkingOfF, mm_hushOfF, mm_rowOfF, mm_keptManyF, mm_talkOfF, mm_keptRowF, mm_askedF, mm_stackL, mm_heardFromF)) else (xq_bd (fX12_isAhead N mmI mm_nightOfF (p1 + 1) 1 60) fun r_3 => (if r_3 = 0 then some (((-1), mm_nightOfF, mm_mileOfF, mm_roundsOfF, mm_talkingOfF, mm_hushOfF, mm_rowOfF, mm_keptManyF, mm_talkOfF, mm_keptRowF, mm_askedF, mm_stackL, mm_heardFromF)) else (xq_bd (fX12_copies N mm_nightOfF mm_mileOfF mm_roundsOfF mm_talkingOfF mm_hushOfF mm_rowOfF mm_keptManyF mm_talkOfF mm_keptRowF 1 0) fun (r_5_0, r_5_1, r_5_2, r_5_3, r_5_4, r_5_5, r_5_6, r_5_7, r_5_8) => (xq_bd (fX12_runsOn N mmI r_5_4 r_5_3 mm_sumFromF r_5_0 mm_askedF r_5_1 r_5_2 mm_sumBehindF mm_stackL mm_codeSortF mm_codeValueF mm_milesToldF mm_placesF mm_placeAtF r_5_7 mm_earsF mm_heardFromF mm_sharpOfF r_5_5 r_5_6 r_5_8 p1) fun (r_7_0, r_7_1, r_7_2, r_7_3, r_7_4, r_7_5, r_7_6, r_7_7, r_7_8) => (xq_bd (fX12_passes N mmI r_5_4 r_7_0 mm_sumFromF r_7_1 r_7_2 r_7_3 r_7_4 mm_sumBehindF r_7_5 mm_codeSortF mm_codeValueF mm_milesToldF mm_placesF mm_placeAtF r_5_7 mm_earsF r_7_6 mm_sharpOfF r_5_5 r_7_7 r_7_8 1) fun (r_9_0, r_9_1, r_9_2, r_9_3, r_9_4, r_9_5, r_9_6, r_9_7, r_9_8, r_9_9) => some ((r_9_0, r_9_2, r_9_4, r_9_5, r_9_1, r_5_4, r_5_5, r_9_8, r_5_7, r_9_9, r_9_3, r_9_6, r_9_7)))))))))
set_option maxHeartbeats 4000000 in
set_option maxRecDepth 100000 in
theorem kX12_heard (l : Launch) (dC : Nat → ClassId) (dI : Nat → Nat → Nat) (cI cB cJ cZ cM : ClassId) (z : Nat) (ad : Nat → Nat) (N : Nat) (a_p0 : Nat) (mmI : Nat → Int32) (mmJ : Nat → Int64) (mmR : Nat → Nat) (mm_nightOfF : Nat → Int32) (mm_mileOfF : Nat → Int32) (mm_roundsOfF : Nat → Int32) (mm_talkingOfF : Nat → Int32) (mm_hushOfF : Nat → Int32) (mm_rowOfF : Nat → Int32) (mm_keptManyF : Nat → Int32) (mm_talkOfF : Nat → Int32) (mm_keptRowF : Nat → Int32) (mm_sumFromF : Nat → Int32) (mm_askedF : Nat → Int32) (mm_sumBehindF : Nat → Int32) (mm_stackL : Nat → Int64) (mm_codeSortF : Nat → Int32) (mm_codeValueF : Nat → Int32) (mm_milesToldF : Nat → Int32) (mm_placesF : Nat → Int32) (mm_placeAtF : Nat → Int32) (mm_earsF : Nat → Int32) (mm_heardFromF : Nat → Int32) (mm_sharpOfF : Nat → Int32) (p1 : Int32) {r0 : Int32} {r1 : Nat → Int32} {r2 : Nat → Int32} {r3 : Nat → Int32} {r4 : Nat → Int32} {r5 : Nat → Int32} {r6 : Nat → Int32} {r7 : Nat → Int32} {r8 : Nat → Int32} {r9 : Nat → Int32} {r10 : Nat → Int32} {r11 : Nat → Int64} {r12 : Nat → Int32} (hf : fX12_heard N mmI mm_nightOfF mm_mileOfF mm_roundsOfF mm_talkingOfF mm_hushOfF mm_rowOfF mm_keptManyF mm_talkOfF mm_keptRowF mm_sumFromF mm_askedF mm_sumBehindF mm_stackL mm_codeSortF mm_codeValueF mm_milesToldF mm_placesF mm_placeAtF mm_earsF mm_heardFromF mm_sharpOfF p1 = some (r0, r1, r2, r3, r4, r5, r6, r7, r8, r9, r10, r11, r12)) : xq_Ct l yX12_heard wsX12_heard { frames := 8, cells := 0, slots := 0, locals := 189 } (dC, dI) vwCl (xq_tys cI cB cJ cZ cM) z ad [.ref a_p0, .int p1] [(a_p0, .inr (12, oX12 mmI mmJ mmR)), ((mmR 45), .inl (cI, 22, .inl mm_nightOfF)), ((mmR 46), .inl (cI, 22, .inl mm_mileOfF)), ((mmR 47), .inl (cI, 22, .inl mm_roundsOfF)), ((mmR 48), .inl (cI, 22, .inl mm_talkingOfF)), ((mmR 49), .inl (cI, 22, .inl mm_hushOfF)), ((mmR 50), .inl (cI, 154, .inl mm_rowOfF)), ((mmR 52), .inl (cI, 22, .inl mm_keptManyF)), ((mmR 51), .inl (cI, 132, .inl mm_talkOfF)), ((mmR 53), .inl (cI, 2640, .inl mm_keptRowF)), ((mmR 24), .inl (cI, 6, .inl mm_sumFromF)), ((mmR 58), .inl (cI, 12, .inl mm_askedF)), ((mmR 25), .inl (cI, 6, .inl mm_sumBehindF)), ((mmR 57), .inl (cJ, 500, .inr (.inl mm_stackL))), ((mmR 26), .inl (cI, 3200, .inl mm_codeSortF)), ((mmR 27), .inl (cI, 3200, .inl mm_codeValueF)), ((mmR 14), .inl (cI, 2, .inl mm_milesToldF)), ((mmR 21), .inl (cI, 2, .inl mm_placesF)), ((mmR 22), .inl (cI, 12, .inl mm_placeAtF)), ((mmR 18), .inl (cI, 2, .inl mm_earsF)), ((mmR 59), .inl (cI, 70, .inl mm_heardFromF)), ((mmR 20), .inl (cI, 14, .inl mm_sharpOfF))] [(a_p0, .inr (12, oX12 mmI mmJ mmR)), ((mmR 45), .inl (cI, 22, .inl r1)), ((mmR 46), .inl (cI, 22, .inl r2)), ((mmR 47), .inl (cI, 22, .inl r3)), ((mmR 48), .inl (cI, 22, .inl r4)), ((mmR 49), .inl (cI, 22, .inl r5)), ((mmR 50), .inl (cI, 154, .inl r6)), ((mmR 52), .inl (cI, 22, .inl r7)), ((mmR 51), .inl (cI, 132, .inl r8)), ((mmR 53), .inl (cI, 2640, .inl r9)), ((mmR 24), .inl (cI, 6, .inl mm_sumFromF)), ((mmR 58), .inl (cI, 12, .inl r10)), ((mmR 25), .inl (cI, 6, .inl mm_sumBehindF)), ((mmR 57), .inl (cJ, 500, .inr (.inl r11))), ((mmR 26), .inl (cI, 3200, .inl mm_codeSortF)), ((mmR 27), .inl (cI, 3200, .inl mm_codeValueF)), ((mmR 14), .inl (cI, 2, .inl mm_milesToldF)), ((mmR 21), .inl (cI, 2, .inl mm_placesF)), ((mmR 22), .inl (cI, 12, .inl mm_placeAtF)), ((mmR 18), .inl (cI, 2, .inl mm_earsF)), ((mmR 59), .inl (cI, 70, .inl r12)), ((mmR 20), .inl (cI, 14, .inl mm_sharpOfF))] (some (.int r0)) := by
  intro sz
  refine Met.ofW (cc := cX12_heard) (maxL := 2) (ret := (some .int)) (by decide) rfl ?_
  intro p e s m args below meth c s₁ B hml hv
  obtain ⟨rfl, hsz, hP, hK, hD0, hE, hz⟩ := hv
  have hx := B.exec
  have hb := B.bytes
  have hr := B.returns
  have hts := atoms_spec (ws := wsX12_heard) B.pre
  have hown : s.vm.findClass RX12 = some m.cls := findClass_of_methodNamed B.named
  have hlocks := B.notSynchronized
  subst hsz
  have hD := hD0.self (sz := s.heap.size)
  have hN := xq_Env.of hE hz hD0
  generalize hAe : va_A [(a_p0, .inr (12, oX12 mmI mmJ mmR)), ((mmR 45), .inl (cI, 22, .inl mm_nightOfF)), ((mmR 46), .inl (cI, 22, .inl mm_mileOfF)), ((mmR 47), .inl (cI, 22, .inl mm_roundsOfF)), ((mmR 48), .inl (cI, 22, .inl mm_talkingOfF)), ((mmR 49), .inl (cI, 22, .inl mm_hushOfF)), ((mmR 50), .inl (cI, 154, .inl mm_rowOfF)), ((mmR 52), .inl (cI, 22, .inl mm_keptManyF)), ((mmR 51), .inl (cI, 132, .inl mm_talkOfF)), ((mmR 53), .inl (cI, 2640, .inl mm_keptRowF)), ((mmR 24), .inl (cI, 6, .inl mm_sumFromF)), ((mmR 58), .inl (cI, 12, .inl mm_askedF)), ((mmR 25), .inl (cI, 6, .inl mm_sumBehindF)), ((mmR 57), .inl (cJ, 500, .inr (.inl mm_stackL))), ((mmR 26), .inl (cI, 3200, .inl mm_codeSortF)), ((mmR 27), .inl (cI, 3200, .inl mm_codeValueF)), ((mmR 14), .inl (cI, 2, .inl mm_milesToldF)), ((mmR 21), .inl (cI, 2, .inl mm_placesF)), ((mmR 22), .inl (cI, 12, .inl mm_placeAtF)), ((mmR 18), .inl (cI, 2, .inl mm_earsF)), ((mmR 59), .inl (cI, 70, .inl mm_heardFromF)), ((mmR 20), .inl (cI, 14, .inl mm_sharpOfF))] s.heap.size = A at hD hN ⊢
  have hA : ∀ q : Nat, s.heap.size ≤ q → A q := fun q h => by rw [← hAe]; exact Or.inr h
  clear hAe hD0
  have hS : va_S A s.heap s.heap [] := va_S.rf
  have hl := lv_entry ([.ref a_p0, .int p1]) (n := 2) (Nat.le_of_ble_eq_true rfl)
  rw [lg_entry_eq]
  generalize (lg_sl ([.ref a_p0, .int p1]) ++ List.replicate (2 - (lg_sl ([.ref a_p0, .int p1])).length) Slot.unset).toArray = ls at hl ⊢
  have hl : lv_has ls 2 [(0, .ref a_p0), (1, .int p1)] := hl
  unfold fX12_heard at hf
  refine lv_iload_n hx hb dX12_heard_0 rfl (lv_at hl 1 rfl) ?_
  refine lv_iconst (v := 0) hx hb dX12_heard_1 (by decide) ?_
  refine lv_bipush (v := 59) hx hb dX12_heard_2 (by decide) ?_
  obtain ⟨r_1, h_2, hf⟩ := xq_bd_some hf
  refine xq_callS (As := [.int p1, .int 0, .int 59]) (rest := []) ⟨hx, hb, hml, hown, hts⟩ (kX12_is l dC dI cI cB cJ cZ cM z ad N p1 0 59 h_2) (va_cwS 3 hts gX12_heard_X12_is rfl rfl rfl (by decide +kernel) ⟨Nat.le_of_ble_eq_true rfl, Nat.le_of_ble_eq_true rfl⟩) hN hK hP hD hS hA [] (by decide) rfl rfl rfl hl.1 rfl (Nat.le_of_ble_eq_true rfl) dX12_heard_4 ⟨Nat.zero_le _, Nat.zero_le _⟩ (fun H locs hP hD hS => ?_)
  have hP : va_P (dC, dI) vwCl [(a_p0, .inr (12, oX12 mmI mmJ mmR)), ((mmR 45), .inl (cI, 22, .inl mm_nightOfF)), ((mmR 46), .inl (cI, 22, .inl mm_mileOfF)), ((mmR 47), .inl (cI, 22, .inl mm_roundsOfF)), ((mmR 48), .inl (cI, 22, .inl mm_talkingOfF)), ((mmR 49), .inl (cI, 22, .inl mm_hushOfF)), ((mmR 50), .inl (cI, 154, .inl mm_rowOfF)), ((mmR 52), .inl (cI, 22, .inl mm_keptManyF)), ((mmR 51), .inl (cI, 132, .inl mm_talkOfF)), ((mmR 53), .inl (cI, 2640, .inl mm_keptRowF)), ((mmR 24), .inl (cI, 6, .inl mm_sumFromF)), ((mmR 58), .inl (cI, 12, .inl mm_askedF)), ((mmR 25), .inl (cI, 6, .inl mm_sumBehindF)), ((mmR 57), .inl (cJ, 500, .inr (.inl mm_stackL))), ((mmR 26), .inl (cI, 3200, .inl mm_codeSortF)), ((mmR 27), .inl (cI, 3200, .inl mm_codeValueF)), ((mmR 14), .inl (cI, 2, .inl mm_milesToldF)), ((mmR 21), .inl (cI, 2, .inl mm_placesF)), ((mmR 22), .inl (cI, 12, .inl mm_placeAtF)), ((mmR 18), .inl (cI, 2, .inl mm_earsF)), ((mmR 59), .inl (cI, 70, .inl mm_heardFromF)), ((mmR 20), .inl (cI, 14, .inl mm_sharpOfF))] H := hP
  have hD : va_D A [(a_p0, .inr (12, oX12 mmI mmJ mmR)), ((mmR 45), .inl (cI, 22, .inl mm_nightOfF)), ((mmR 46), .inl (cI, 22, .inl mm_mileOfF)), ((mmR 47), .inl (cI, 22, .inl mm_roundsOfF)), ((mmR 48), .inl (cI, 22, .inl mm_talkingOfF)), ((mmR 49), .inl (cI, 22, .inl mm_hushOfF)), ((mmR 50), .inl (cI, 154, .inl mm_rowOfF)), ((mmR 52), .inl (cI, 22, .inl mm_keptManyF)), ((mmR 51), .inl (cI, 132, .inl mm_talkOfF)), ((mmR 53), .inl (cI, 2640, .inl mm_keptRowF)), ((mmR 24), .inl (cI, 6, .inl mm_sumFromF)), ((mmR 58), .inl (cI, 12, .inl mm_askedF)), ((mmR 25), .inl (cI, 6, .inl mm_sumBehindF)), ((mmR 57), .inl (cJ, 500, .inr (.inl mm_stackL))), ((mmR 26), .inl (cI, 3200, .inl mm_codeSortF)), ((mmR 27), .inl (cI, 3200, .inl mm_codeValueF)), ((mmR 14), .inl (cI, 2, .inl mm_milesToldF)), ((mmR 21), .inl (cI, 2, .inl mm_placesF)), ((mmR 22), .inl (cI, 12, .inl mm_placeAtF)), ((mmR 18), .inl (cI, 2, .inl mm_earsF)), ((mmR 59), .inl (cI, 70, .inl mm_heardFromF)), ((mmR 20), .inl (cI, 14, .inl mm_sharpOfF))] := hD
  refine W.eq (g2 := F0 m 7 ls [.int r_1]) rfl ?_
  refine lv_if_eq (tgt := 23) hx hb dX12_heard_7 (by decide) (fun c_ => ?_) (fun c_ => ?_)
  · have hf := xq_pos hf c_
    refine lv_iconst (v := (-1)) hx hb dX12_heard_23 (by decide) ?_
    have e9 := Option.some.inj hf
    have e9_0 : (-1) = r0 := congrArg (fun t => t.1) e9
    have e9_1 : mm_nightOfF = r1 := congrArg (fun t => t.2.1) e9
    have e9_2 : mm_mileOfF = r2 := congrArg (fun t => t.2.2.1) e9
    have e9_3 : mm_roundsOfF = r3 := congrArg (fun t => t.2.2.2.1) e9
    have e9_4 : mm_talkingOfF = r4 := congrArg (fun t => t.2.2.2.2.1) e9
    have e9_5 : mm_hushOfF = r5 := congrArg (fun t => t.2.2.2.2.2.1) e9
    have e9_6 : mm_rowOfF = r6 := congrArg (fun t => t.2.2.2.2.2.2.1) e9
    have e9_7 : mm_keptManyF = r7 := congrArg (fun t => t.2.2.2.2.2.2.2.1) e9
    have e9_8 : mm_talkOfF = r8 := congrArg (fun t => t.2.2.2.2.2.2.2.2.1) e9
    have e9_9 : mm_keptRowF = r9 := congrArg (fun t => t.2.2.2.2.2.2.2.2.2.1) e9
    have e9_10 : mm_askedF = r10 := congrArg (fun t => t.2.2.2.2.2.2.2.2.2.2.1) e9
    have e9_11 : mm_stackL = r11 := congrArg (fun t => t.2.2.2.2.2.2.2.2.2.2.2.1) e9
    have e9_12 : mm_heardFromF = r12 := congrArg (fun t => t.2.2.2.2.2.2.2.2.2.2.2.2) e9
    clear e9 hf
    subst e9_0
    subst e9_1
    subst e9_2
    subst e9_3
    subst e9_4
    subst e9_5
    subst e9_6
    subst e9_7
    subst e9_8
    subst e9_9
    subst e9_10
    subst e9_11
    subst e9_12
    exact xq_iret hx hb hr hlocks hK hP hD hS dX12_heard_24
  · have hf := xq_neg hf c_
    refine lv_aload_n hx hb dX12_heard_10 rfl (lv_at hl 0 rfl) ?_
    refine lv_iload_n hx hb dX12_heard_11 rfl (lv_at hl 1 rfl) ?_
    refine lv_iconst (v := 1) hx hb dX12_heard_12 (by decide) ?_
    refine lv_iadd hx hb dX12_heard_13 ?_
    refine lv_iconst (v := 1) hx hb dX12_heard_14 (by decide) ?_
    refine lv_bipush (v := 60) hx hb dX12_heard_15 (by decide) ?_
    obtain ⟨r_3, h_4, hf⟩ := xq_bd_some hf
    refine xq_callV (As := [.int (p1 + 1), .int 1, .int 60]) (rest := []) (ci := 12) (q0 := 0) ⟨hx, hb, hml, hown, hts⟩ (kX12_isAhead l dC dI cI cB cJ cZ cM z ad N a_p0 mmI mmJ mmR mm_nightOfF (p1 + 1) 1 60 h_4) (cwV 3 hts gX12_heard_X12_isAhead rfl rfl rfl (by decide +kernel) ⟨Nat.le_of_ble_eq_true rfl, Nat.le_of_ble_eq_true rfl⟩) hN hK hP hD hS hA [0, 1] (by decide) rfl rfl rfl rfl rfl rfl hl.1 rfl (Nat.le_of_ble_eq_true rfl) dX12_heard_17 ⟨Nat.zero_le _, Nat.zero_le _⟩ (fun H locs hP hD hS => ?_)
    have hP : va_P (dC, dI) vwCl [(a_p0, .inr (12, oX12 mmI mmJ mmR)), ((mmR 45), .inl (cI, 22, .inl mm_nightOfF)), ((mmR 46), .inl (cI, 22, .inl mm_mileOfF)), ((mmR 47), .inl (cI, 22, .inl mm_roundsOfF)), ((mmR 48), .inl (cI, 22, .inl mm_talkingOfF)), ((mmR 49), .inl (cI, 22, .inl mm_hushOfF)), ((mmR 50), .inl (cI, 154, .inl mm_rowOfF)), ((mmR 52), .inl (cI, 22, .inl mm_keptManyF)), ((mmR 51), .inl (cI, 132, .inl mm_talkOfF)), ((mmR 53), .inl (cI, 2640, .inl mm_keptRowF)), ((mmR 24), .inl (cI, 6, .inl mm_sumFromF)), ((mmR 58), .inl (cI, 12, .inl mm_askedF)), ((mmR 25), .inl (cI, 6, .inl mm_sumBehindF)), ((mmR 57), .inl (cJ, 500, .inr (.inl mm_stackL))), ((mmR 26), .inl (cI, 3200, .inl mm_codeSortF)), ((mmR 27), .inl (cI, 3200, .inl mm_codeValueF)), ((mmR 14), .inl (cI, 2, .inl mm_milesToldF)), ((mmR 21), .inl (cI, 2, .inl mm_placesF)), ((mmR 22), .inl (cI, 12, .inl mm_placeAtF)), ((mmR 18), .inl (cI, 2, .inl mm_earsF)), ((mmR 59), .inl (cI, 70, .inl mm_heardFromF)), ((mmR 20), .inl (cI, 14, .inl mm_sharpOfF))] H := hP
    have hD : va_D A [(a_p0, .inr (12, oX12 mmI mmJ mmR)), ((mmR 45), .inl (cI, 22, .inl mm_nightOfF)), ((mmR 46), .inl (cI, 22, .inl mm_mileOfF)), ((mmR 47), .inl (cI, 22, .inl mm_roundsOfF)), ((mmR 48), .inl (cI, 22, .inl mm_talkingOfF)), ((mmR 49), .inl (cI, 22, .inl mm_hushOfF)), ((mmR 50), .inl (cI, 154, .inl mm_rowOfF)), ((mmR 52), .inl (cI, 22, .inl mm_keptManyF)), ((mmR 51), .inl (cI, 132, .inl mm_talkOfF)), ((mmR 53), .inl (cI, 2640, .inl mm_keptRowF)), ((mmR 24), .inl (cI, 6, .inl mm_sumFromF)), ((mmR 58), .inl (cI, 12, .inl mm_askedF)), ((mmR 25), .inl (cI, 6, .inl mm_sumBehindF)), ((mmR 57), .inl (cJ, 500, .inr (.inl mm_stackL))), ((mmR 26), .inl (cI, 3200, .inl mm_codeSortF)), ((mmR 27), .inl (cI, 3200, .inl mm_codeValueF)), ((mmR 14), .inl (cI, 2, .inl mm_milesToldF)), ((mmR 21), .inl (cI, 2, .inl mm_placesF)), ((mmR 22), .inl (cI, 12, .inl mm_placeAtF)), ((mmR 18), .inl (cI, 2, .inl mm_earsF)), ((mmR 59), .inl (cI, 70, .inl mm_heardFromF)), ((mmR 20), .inl (cI, 14, .inl mm_sharpOfF))] := hD
    refine W.eq (g2 := F0 m 20 ls [.int r_3]) rfl ?_
    refine lv_if_ne (tgt := 25) hx hb dX12_heard_20 (by decide) (fun c_ => ?_) (fun c_ => ?_)
    · have hf := xq_neg hf c_
      refine lv_aload_n hx hb dX12_heard_25 rfl (lv_at hl 0 rfl) ?_
      refine lv_iconst (v := 1) hx hb dX12_heard_26 (by decide) ?_
      refine lv_iconst (v := 0) hx hb dX12_heard_27 (by decide) ?_
      obtain ⟨⟨r_5_0, r_5_1, r_5_2, r_5_3, r_5_4, r_5_5, r_5_6, r_5_7, r_5_8⟩, h_6, hf⟩ := xq_bd_some hf
      refine xq_callV (As := [.int 1, .int 0]) (rest := []) (ci := 12) (q0 := 0) ⟨hx, hb, hml, hown, hts⟩ (kX12_copies l dC dI cI cB cJ cZ cM z ad N a_p0 mmI mmJ mmR mm_nightOfF mm_mileOfF mm_roundsOfF mm_talkingOfF mm_hushOfF mm_rowOfF mm_keptManyF mm_talkOfF mm_keptRowF 1 0 h_6) (cwV 2 hts gX12_heard_X12_copies rfl rfl rfl (by decide +kernel) ⟨Nat.le_of_ble_eq_true rfl, Nat.le_of_ble_eq_true rfl⟩) hN hK hP hD hS hA [0, 1, 2, 3, 4, 5, 6, 7, 8, 9] (by decide) rfl rfl rfl rfl rfl rfl hl.1 rfl (Nat.le_of_ble_eq_true rfl) dX12_heard_28 ⟨Nat.zero_le _, Nat.zero_le _⟩ (fun H locs hP hD hS => ?_)
      have hP : va_P (dC, dI) vwCl [(a_p0, .inr (12, oX12 mmI mmJ mmR)), ((mmR 45), .inl (cI, 22, .inl r_5_0)), ((mmR 46), .inl (cI, 22, .inl r_5_1)), ((mmR 47), .inl (cI, 22, .inl r_5_2)), ((mmR 48), .inl (cI, 22, .inl r_5_3)), ((mmR 49), .inl (cI, 22, .inl r_5_4)), ((mmR 50), .inl (cI, 154, .inl r_5_5)), ((mmR 52), .inl (cI, 22, .inl r_5_6)), ((mmR 51), .inl (cI, 132, .inl r_5_7)), ((mmR 53), .inl (cI, 2640, .inl r_5_8)), ((mmR 24), .inl (cI, 6, .inl mm_sumFromF)), ((mmR 58), .inl (cI, 12, .inl mm_askedF)), ((mmR 25), .inl (cI, 6, .inl mm_sumBehindF)), ((mmR 57), .inl (cJ, 500, .inr (.inl mm_stackL))), ((mmR 26), .inl (cI, 3200, .inl mm_codeSortF)), ((mmR 27), .inl (cI, 3200, .inl mm_codeValueF)), ((mmR 14), .inl (cI, 2, .inl mm_milesToldF)), ((mmR 21), .inl (cI, 2, .inl mm_placesF)), ((mmR 22), .inl (cI, 12, .inl mm_placeAtF)), ((mmR 18), .inl (cI, 2, .inl mm_earsF)), ((mmR 59), .inl (cI, 70, .inl mm_heardFromF)), ((mmR 20), .inl (cI, 14, .inl mm_sharpOfF))] H := hP
      have hD : va_D A [(a_p0, .inr (12, oX12 mmI mmJ mmR)), ((mmR 45), .inl (cI, 22, .inl r_5_0)), ((mmR 46), .inl (cI, 22, .inl r_5_1)), ((mmR 47), .inl (cI, 22, .inl r_5_2)), ((mmR 48), .inl (cI, 22, .inl r_5_3)), ((mmR 49), .inl (cI, 22, .inl r_5_4)), ((mmR 50), .inl (cI, 154, .inl r_5_5)), ((mmR 52), .inl (cI, 22, .inl r_5_6)), ((mmR 51), .inl (cI, 132, .inl r_5_7)), ((mmR 53), .inl (cI, 2640, .inl r_5_8)), ((mmR 24), .inl (cI, 6, .inl mm_sumFromF)), ((mmR 58), .inl (cI, 12, .inl mm_askedF)), ((mmR 25), .inl (cI, 6, .inl mm_sumBehindF)), ((mmR 57), .inl (cJ, 500, .inr (.inl mm_stackL))), ((mmR 26), .inl (cI, 3200, .inl mm_codeSortF)), ((mmR 27), .inl (cI, 3200, .inl mm_codeValueF)), ((mmR 14), .inl (cI, 2, .inl mm_milesToldF)), ((mmR 21), .inl (cI, 2, .inl mm_placesF)), ((mmR 22), .inl (cI, 12, .inl mm_placeAtF)), ((mmR 18), .inl (cI, 2, .inl mm_earsF)), ((mmR 59), .inl (cI, 70, .inl mm_heardFromF)), ((mmR 20), .inl (cI, 14, .inl mm_sharpOfF))] := hD
      refine W.eq (g2 := F0 m 31 ls []) rfl ?_
      refine lv_aload_n hx hb dX12_heard_31 rfl (lv_at hl 0 rfl) ?_
      refine lv_iload_n hx hb dX12_heard_32 rfl (lv_at hl 1 rfl) ?_
      obtain ⟨⟨r_7_0, r_7_1, r_7_2, r_7_3, r_7_4, r_7_5, r_7_6, r_7_7, r_7_8⟩, h_8, hf⟩ := xq_bd_some hf
      refine xq_callV (As := [.int p1]) (rest := []) (ci := 12) (q0 := 0) ⟨hx, hb, hml, hown, hts⟩ (kX12_runsOn l dC dI cI cB cJ cZ cM z ad N a_p0 mmI mmJ mmR r_5_4 r_5_3 mm_sumFromF r_5_0 mm_askedF r_5_1 r_5_2 mm_sumBehindF mm_stackL mm_codeSortF mm_codeValueF mm_milesToldF mm_placesF mm_placeAtF r_5_7 mm_earsF mm_heardFromF mm_sharpOfF r_5_5 r_5_6 r_5_8 p1 h_8) (cwV 1 hts gX12_heard_X12_runsOn rfl rfl rfl (by decide +kernel) ⟨Nat.le_of_ble_eq_true rfl, Nat.le_of_ble_eq_true rfl⟩) hN hK hP hD hS hA [0, 5, 4, 10, 1, 11, 2, 3, 12, 13, 14, 15, 16, 17, 18, 8, 19, 20, 21, 6, 7, 9] (by decide) rfl rfl rfl rfl rfl rfl hl.1 rfl (Nat.le_of_ble_eq_true rfl) dX12_heard_33 ⟨Nat.zero_le _, Nat.zero_le _⟩ (fun H locs hP hD hS => ?_)
      have hP : va_P (dC, dI) vwCl [(a_p0, .inr (12, oX12 mmI mmJ mmR)), ((mmR 45), .inl (cI, 22, .inl r_7_1)), ((mmR 46), .inl (cI, 22, .inl r_7_3)), ((mmR 47), .inl (cI, 22, .inl r_7_4)), ((mmR 48), .inl (cI, 22, .inl r_7_0)), ((mmR 49), .inl (cI, 22, .inl r_5_4)), ((mmR 50), .inl (cI, 154, .inl r_5_5)), ((mmR 52), .inl (cI, 22, .inl r_7_7)), ((mmR 51), .inl (cI, 132, .inl r_5_7)), ((mmR 53), .inl (cI, 2640, .inl r_7_8)), ((mmR 24), .inl (cI, 6, .inl mm_sumFromF)), ((mmR 58), .inl (cI, 12, .inl r_7_2)), ((mmR 25), .inl (cI, 6, .inl mm_sumBehindF)), ((mmR 57), .inl (cJ, 500, .inr (.inl r_7_5))), ((mmR 26), .inl (cI, 3200, .inl mm_codeSortF)), ((mmR 27), .inl (cI, 3200, .inl mm_codeValueF)), ((mmR 14), .inl (cI, 2, .inl mm_milesToldF)), ((mmR 21), .inl (cI, 2, .inl mm_placesF)), ((mmR 22), .inl (cI, 12, .inl mm_placeAtF)), ((mmR 18), .inl (cI, 2, .inl mm_earsF)), ((mmR 59), .inl (cI, 70, .inl r_7_6)), ((mmR 20), .inl (cI, 14, .inl mm_sharpOfF))] H := hP
      have hD : va_D A [(a_p0, .inr (12, oX12 mmI mmJ mmR)), ((mmR 45), .inl (cI, 22, .inl r_7_1)), ((mmR 46), .inl (cI, 22, .inl r_7_3)), ((mmR 47), .inl (cI, 22, .inl r_7_4)), ((mmR 48), .inl (cI, 22, .inl r_7_0)), ((mmR 49), .inl (cI, 22, .inl r_5_4)), ((mmR 50), .inl (cI, 154, .inl r_5_5)), ((mmR 52), .inl (cI, 22, .inl r_7_7)), ((mmR 51), .inl (cI, 132, .inl r_5_7)), ((mmR 53), .inl (cI, 2640, .inl r_7_8)), ((mmR 24), .inl (cI, 6, .inl mm_sumFromF)), ((mmR 58), .inl (cI, 12, .inl r_7_2)), ((mmR 25), .inl (cI, 6, .inl mm_sumBehindF)), ((mmR 57), .inl (cJ, 500, .inr (.inl r_7_5))), ((mmR 26), .inl (cI, 3200, .inl mm_codeSortF)), ((mmR 27), .inl (cI, 3200, .inl mm_codeValueF)), ((mmR 14), .inl (cI, 2, .inl mm_milesToldF)), ((mmR 21), .inl (cI, 2, .inl mm_placesF)), ((mmR 22), .inl (cI, 12, .inl mm_placeAtF)), ((mmR 18), .inl (cI, 2, .inl mm_earsF)), ((mmR 59), .inl (cI, 70, .inl r_7_6)), ((mmR 20), .inl (cI, 14, .inl mm_sharpOfF))] := hD
      refine W.eq (g2 := F0 m 36 ls []) rfl ?_
      refine lv_aload_n hx hb dX12_heard_36 rfl (lv_at hl 0 rfl) ?_
      refine lv_iconst (v := 1) hx hb dX12_heard_37 (by decide) ?_
      obtain ⟨⟨r_9_0, r_9_1, r_9_2, r_9_3, r_9_4, r_9_5, r_9_6, r_9_7, r_9_8, r_9_9⟩, h_10, hf⟩ := xq_bd_some hf
      refine xq_callV (As := [.int 1]) (rest := []) (ci := 12) (q0 := 0) ⟨hx, hb, hml, hown, hts⟩ (kX12_passes l dC dI cI cB cJ cZ cM z ad N a_p0 mmI mmJ mmR r_5_4 r_7_0 mm_sumFromF r_7_1 r_7_2 r_7_3 r_7_4 mm_sumBehindF r_7_5 mm_codeSortF mm_codeValueF mm_milesToldF mm_placesF mm_placeAtF r_5_7 mm_earsF r_7_6 mm_sharpOfF r_5_5 r_7_7 r_7_8 1 h_10) (cwV 1 hts gX12_heard_X12_passes rfl rfl rfl (by decide +kernel) ⟨Nat.le_of_ble_eq_true rfl, Nat.le_of_ble_eq_true rfl⟩) hN hK hP hD hS hA [0, 5, 4, 10, 1, 11, 2, 3, 12, 13, 14, 15, 16, 17, 18, 8, 19, 20, 21, 6, 7, 9] (by decide) rfl rfl rfl rfl rfl rfl hl.1 rfl (Nat.le_of_ble_eq_true rfl) dX12_heard_38 ⟨Nat.zero_le _, Nat.zero_le _⟩ (fun H locs hP hD hS => ?_)
      have hP : va_P (dC, dI) vwCl [(a_p0, .inr (12, oX12 mmI mmJ mmR)), ((mmR 45), .inl (cI, 22, .inl r_9_2)), ((mmR 46), .inl (cI, 22, .inl r_9_4)), ((mmR 47), .inl (cI, 22, .inl r_9_5)), ((mmR 48), .inl (cI, 22, .inl r_9_1)), ((mmR 49), .inl (cI, 22, .inl r_5_4)), ((mmR 50), .inl (cI, 154, .inl r_5_5)), ((mmR 52), .inl (cI, 22, .inl r_9_8)), ((mmR 51), .inl (cI, 132, .inl r_5_7)), ((mmR 53), .inl (cI, 2640, .inl r_9_9)), ((mmR 24), .inl (cI, 6, .inl mm_sumFromF)), ((mmR 58), .inl (cI, 12, .inl r_9_3)), ((mmR 25), .inl (cI, 6, .inl mm_sumBehindF)), ((mmR 57), .inl (cJ, 500, .inr (.inl r_9_6))), ((mmR 26), .inl (cI, 3200, .inl mm_codeSortF)), ((mmR 27), .inl (cI, 3200, .inl mm_codeValueF)), ((mmR 14), .inl (cI, 2, .inl mm_milesToldF)), ((mmR 21), .inl (cI, 2, .inl mm_placesF)), ((mmR 22), .inl (cI, 12, .inl mm_placeAtF)), ((mmR 18), .inl (cI, 2, .inl mm_earsF)), ((mmR 59), .inl (cI, 70, .inl r_9_7)), ((mmR 20), .inl (cI, 14, .inl mm_sharpOfF))] H := hP
      have hD : va_D A [(a_p0, .inr (12, oX12 mmI mmJ mmR)), ((mmR 45), .inl (cI, 22, .inl r_9_2)), ((mmR 46), .inl (cI, 22, .inl r_9_4)), ((mmR 47), .inl (cI, 22, .inl r_9_5)), ((mmR 48), .inl (cI, 22, .inl r_9_1)), ((mmR 49), .inl (cI, 22, .inl r_5_4)), ((mmR 50), .inl (cI, 154, .inl r_5_5)), ((mmR 52), .inl (cI, 22, .inl r_9_8)), ((mmR 51), .inl (cI, 132, .inl r_5_7)), ((mmR 53), .inl (cI, 2640, .inl r_9_9)), ((mmR 24), .inl (cI, 6, .inl mm_sumFromF)), ((mmR 58), .inl (cI, 12, .inl r_9_3)), ((mmR 25), .inl (cI, 6, .inl mm_sumBehindF)), ((mmR 57), .inl (cJ, 500, .inr (.inl r_9_6))), ((mmR 26), .inl (cI, 3200, .inl mm_codeSortF)), ((mmR 27), .inl (cI, 3200, .inl mm_codeValueF)), ((mmR 14), .inl (cI, 2, .inl mm_milesToldF)), ((mmR 21), .inl (cI, 2, .inl mm_placesF)), ((mmR 22), .inl (cI, 12, .inl mm_placeAtF)), ((mmR 18), .inl (cI, 2, .inl mm_earsF)), ((mmR 59), .inl (cI, 70, .inl r_9_7)), ((mmR 20), .inl (cI, 14, .inl mm_sharpOfF))] := hD
      refine W.eq (g2 := F0 m 41 ls [.int r_9_0]) rfl ?_
      have e9 := Option.some.inj hf
      have e9_0 : r_9_0 = r0 := congrArg (fun t => t.1) e9
      have e9_1 : r_9_2 = r1 := congrArg (fun t => t.2.1) e9
      have e9_2 : r_9_4 = r2 := congrArg (fun t => t.2.2.1) e9
      have e9_3 : r_9_5 = r3 := congrArg (fun t => t.2.2.2.1) e9
      have e9_4 : r_9_1 = r4 := congrArg (fun t => t.2.2.2.2.1) e9
      have e9_5 : r_5_4 = r5 := congrArg (fun t => t.2.2.2.2.2.1) e9
      have e9_6 : r_5_5 = r6 := congrArg (fun t => t.2.2.2.2.2.2.1) e9
      have e9_7 : r_9_8 = r7 := congrArg (fun t => t.2.2.2.2.2.2.2.1) e9
      have e9_8 : r_5_7 = r8 := congrArg (fun t => t.2.2.2.2.2.2.2.2.1) e9
      have e9_9 : r_9_9 = r9 := congrArg (fun t => t.2.2.2.2.2.2.2.2.2.1) e9
      have e9_10 : r_9_3 = r10 := congrArg (fun t => t.2.2.2.2.2.2.2.2.2.2.1) e9
      have e9_11 : r_9_6 = r11 := congrArg (fun t => t.2.2.2.2.2.2.2.2.2.2.2.1) e9
      have e9_12 : r_9_7 = r12 := congrArg (fun t => t.2.2.2.2.2.2.2.2.2.2.2.2) e9
      clear e9 hf
      subst e9_0
      subst e9_1
      subst e9_2
      subst e9_3
      subst e9_4
      subst e9_5
      subst e9_6
      subst e9_7
      subst e9_8
      subst e9_9
      subst e9_10
      subst e9_11
      subst e9_12
      exact xq_iret hx hb hr hlocks hK hP hD hS dX12_heard_41
    · have hf := xq_pos hf c_
      refine lv_iconst (v := (-1)) hx hb dX12_heard_23 (by decide) ?_
      have e9 := Option.some.inj hf
      have e9_0 : (-1) = r0 := congrArg (fun t => t.1) e9
      have e9_1 : mm_nightOfF = r1 := congrArg (fun t => t.2.1) e9
      have e9_2 : mm_mileOfF = r2 := congrArg (fun t => t.2.2.1) e9
      have e9_3 : mm_roundsOfF = r3 := congrArg (fun t => t.2.2.2.1) e9
      have e9_4 : mm_talkingOfF = r4 := congrArg (fun t => t.2.2.2.2.1) e9
      have e9_5 : mm_hushOfF = r5 := congrArg (fun t => t.2.2.2.2.2.1) e9
      have e9_6 : mm_rowOfF = r6 := congrArg (fun t => t.2.2.2.2.2.2.1) e9
      have e9_7 : mm_keptManyF = r7 := congrArg (fun t => t.2.2.2.2.2.2.2.1) e9
      have e9_8 : mm_talkOfF = r8 := congrArg (fun t => t.2.2.2.2.2.2.2.2.1) e9
      have e9_9 : mm_keptRowF = r9 := congrArg (fun t => t.2.2.2.2.2.2.2.2.2.1) e9
      have e9_10 : mm_askedF = r10 := congrArg (fun t => t.2.2.2.2.2.2.2.2.2.2.1) e9
      have e9_11 : mm_stackL = r11 := congrArg (fun t => t.2.2.2.2.2.2.2.2.2.2.2.1) e9
      have e9_12 : mm_heardFromF = r12 := congrArg (fun t => t.2.2.2.2.2.2.2.2.2.2.2.2) e9
      clear e9 hf
      subst e9_0
      subst e9_1
      subst e9_2
      subst e9_3
      subst e9_4
      subst e9_5
      subst e9_6
      subst e9_7
      subst e9_8
      subst e9_9
      subst e9_10
      subst e9_11
      subst e9_12
      exact xq_iret hx hb hr hlocks hK hP hD hS dX12_heard_24
set_option maxRecDepth 20000 in
theorem ggX12_timesHeard_X12_passes : GoodIn wsX12_timesHeard wsX12_passes := goodIn_r _ [5, 6, 7, 8, 9, 4, 10, 11, 12, 13, 14, 15, 16, 17, 18, 19, 20, 21, 22, 23, 24, 25, 26, 27, 28, 29, 30, 31, 32, 33, 34, 35, 36, 37, 38, 39, 40, 41, 42, 43, 44, 45, 46, 47, 48, 49, 50, 51, 52, 53, 54, 55, 56, 57, 58, 59, 60, 61, 62, 63, 64, 65, 66, 67, 68, 69, 70, 71, 72, 73, 74, 75, 76, 77, 78, 79, 80, 81, 82, 83, 84, 85, 89, 90, 91, 92, 93, 94, 95, 96, 97, 98, 99, 100, 101, 102, 103, 104, 105, 106, 107, 108, 109, 110, 111, 112, 113, 114, 115, 116, 117, 118, 119, 120, 121, 122, 123, 124, 125, 126, 127, 128, 129, 130, 131, 132, 133, 134, 135, 136, 137, 138, 139, 140, 141, 142, 143, 144, 145, 146, 147, 148, 149, 150, 151, 152, 153, 154, 155, 156, 157, 158] rfl (by decide +kernel)
set_option maxRecDepth 20000 in
theorem gX12_timesHeard_X12_passes : GoodIn wsX12_timesHeard (wsV RX12 462 RX12 yX12_passes wsX12_passes) := goodIn_app (goodIn_of _ (by decide +kernel)) ggX12_timesHeard_X12_passes
set_option maxRecDepth 20000 in
theorem ggX12_timesHeard_X12_has2 : GoodIn wsX12_timesHeard wsX12_has2 := goodIn_r _ [88] rfl (by decide +kernel)
set_option maxRecDepth 20000 in
theorem gX12_timesHeard_X12_has2 : GoodIn wsX12_timesHeard (va_wsS RX12 471 yX12_has2 wsX12_has2) := goodIn_app (goodIn_of _ (by decide +kernel)) ggX12_timesHeard_X12_has2
def dsX12_timesHeard_0 : List (Nat × Instr × Nat) := [(0, (.iconst 0, 1)), (1, (.istore_n 3, 1)), (2, (.iconst 0, 1)), (3, (.istore 4, 2)), (5, (.iload 4, 2)), (7, (.iload_n 2, 1)), (8, (.if_icmp .ge 29, 3)), (11, (.iload_n 3, 1)), (12, (.aload_n 0, 1)), (13, (.iconst 1, 1)), (14, (.invokevirtual 462, 3)), (17, (.iload_n 1, 1)), (18, (.invokestatic 471, 3)), (21, (.ifCond .eq 7, 3)), (24, (.iconst 1, 1)), (25, (.goto 4, 3)), (28, (.iconst 0, 1)), (29, (.iadd, 1)), (30, (.istore_n 3, 1)), (31, (.iinc 4 1, 3)), (34, (.goto (-29), 3)), (37, (.iload_n 3, 1)), (38, (.ireturn, 1))]
theorem dsX12_timesHeard_0_ok : (dsX12_timesHeard_0.all fun q => decide (decode cX12_timesHeard q.1 = .ok q.2)) = true := by decide +kernel
theorem dX12_timesHeard_0 : decode cX12_timesHeard 0 = .ok (.iconst 0, 1) := of_decide_eq_true (List.all_eq_true.mp dsX12_timesHeard_0_ok (0, (.iconst 0, 1)) (List.mem_of_getElem? (i := 0) rfl))
theorem dX12_timesHeard_1 : decode cX12_timesHeard 1 = .ok (.istore_n 3, 1) := of_decide_eq_true (List.all_eq_true.mp dsX12_timesHeard_0_ok (1, (.istore_n 3, 1)) (List.mem_of_getElem? (i := 1) rfl))
theorem dX12_timesHeard_2 : decode cX12_timesHeard 2 = .ok (.iconst 0, 1) := of_decide_eq_true (List.all_eq_true.mp dsX12_timesHeard_0_ok (2, (.iconst 0, 1)) (List.mem_of_getElem? (i := 2) rfl))
theorem dX12_timesHeard_3 : decode cX12_timesHeard 3 = .ok (.istore 4, 2) := of_decide_eq_true (List.all_eq_true.mp dsX12_timesHeard_0_ok (3, (.istore 4, 2)) (List.mem_of_getElem? (i := 3) rfl))
theorem dX12_timesHeard_5 : decode cX12_timesHeard 5 = .ok (.iload 4, 2) := of_decide_eq_true (List.all_eq_true.mp dsX12_timesHeard_0_ok (5, (.iload 4, 2)) (List.mem_of_getElem? (i := 4) rfl))
theorem dX12_timesHeard_7 : decode cX12_timesHeard 7 = .ok (.iload_n 2, 1) := of_decide_eq_true (List.all_eq_true.mp dsX12_timesHeard_0_ok (7, (.iload_n 2, 1)) (List.mem_of_getElem? (i := 5) rfl))
theorem dX12_timesHeard_8 : decode cX12_timesHeard 8 = .ok (.if_icmp .ge 29, 3) := of_decide_eq_true (List.all_eq_true.mp dsX12_timesHeard_0_ok (8, (.if_icmp .ge 29, 3)) (List.mem_of_getElem? (i := 6) rfl))
theorem dX12_timesHeard_11 : decode cX12_timesHeard 11 = .ok (.iload_n 3, 1) := of_decide_eq_true (List.all_eq_true.mp dsX12_timesHeard_0_ok (11, (.iload_n 3, 1)) (List.mem_of_getElem? (i := 7) rfl))
theorem dX12_timesHeard_12 : decode cX12_timesHeard 12 = .ok (.aload_n 0, 1) := of_decide_eq_true (List.all_eq_true.mp dsX12_timesHeard_0_ok (12, (.aload_n 0, 1)) (List.mem_of_getElem? (i := 8) rfl))
theorem dX12_timesHeard_13 : decode cX12_timesHeard 13 = .ok (.iconst 1, 1) := of_decide_eq_true (List.all_eq_true.mp dsX12_timesHeard_0_ok (13, (.iconst 1, 1)) (List.mem_of_getElem? (i := 9) rfl))
theorem dX12_timesHeard_14 : decode cX12_timesHeard 14 = .ok (.invokevirtual 462, 3) := of_decide_eq_true (List.all_eq_true.mp dsX12_timesHeard_0_ok (14, (.invokevirtual 462, 3)) (List.mem_of_getElem? (i := 10) rfl))
theorem dX12_timesHeard_17 : decode cX12_timesHeard 17 = .ok (.iload_n 1, 1) := of_decide_eq_true (List.all_eq_true.mp dsX12_timesHeard_0_ok (17, (.iload_n 1, 1)) (List.mem_of_getElem? (i := 11) rfl))
theorem dX12_timesHeard_18 : decode cX12_timesHeard 18 = .ok (.invokestatic 471, 3) := of_decide_eq_true (List.all_eq_true.mp dsX12_timesHeard_0_ok (18, (.invokestatic 471, 3)) (List.mem_of_getElem? (i := 12) rfl))
theorem dX12_timesHeard_21 : decode cX12_timesHeard 21 = .ok (.ifCond .eq 7, 3) := of_decide_eq_true (List.all_eq_true.mp dsX12_timesHeard_0_ok (21, (.ifCond .eq 7, 3)) (List.mem_of_getElem? (i := 13) rfl))
theorem dX12_timesHeard_24 : decode cX12_timesHeard 24 = .ok (.iconst 1, 1) := of_decide_eq_true (List.all_eq_true.mp dsX12_timesHeard_0_ok (24, (.iconst 1, 1)) (List.mem_of_getElem? (i := 14) rfl))
theorem dX12_timesHeard_25 : decode cX12_timesHeard 25 = .ok (.goto 4, 3) := of_decide_eq_true (List.all_eq_true.mp dsX12_timesHeard_0_ok (25, (.goto 4, 3)) (List.mem_of_getElem? (i := 15) rfl))
theorem dX12_timesHeard_28 : decode cX12_timesHeard 28 = .ok (.iconst 0, 1) := of_decide_eq_true (List.all_eq_true.mp dsX12_timesHeard_0_ok (28, (.iconst 0, 1)) (List.mem_of_getElem? (i := 16) rfl))
theorem dX12_timesHeard_29 : decode cX12_timesHeard 29 = .ok (.iadd, 1) := of_decide_eq_true (List.all_eq_true.mp dsX12_timesHeard_0_ok (29, (.iadd, 1)) (List.mem_of_getElem? (i := 17) rfl))
theorem dX12_timesHeard_30 : decode cX12_timesHeard 30 = .ok (.istore_n 3, 1) := of_decide_eq_true (List.all_eq_true.mp dsX12_timesHeard_0_ok (30, (.istore_n 3, 1)) (List.mem_of_getElem? (i := 18) rfl))
theorem dX12_timesHeard_31 : decode cX12_timesHeard 31 = .ok (.iinc 4 1, 3) := of_decide_eq_true (List.all_eq_true.mp dsX12_timesHeard_0_ok (31, (.iinc 4 1, 3)) (List.mem_of_getElem? (i := 19) rfl))
theorem dX12_timesHeard_34 : decode cX12_timesHeard 34 = .ok (.goto (-29), 3) := of_decide_eq_true (List.all_eq_true.mp dsX12_timesHeard_0_ok (34, (.goto (-29), 3)) (List.mem_of_getElem? (i := 20) rfl))
theorem dX12_timesHeard_37 : decode cX12_timesHeard 37 = .ok (.iload_n 3, 1) := of_decide_eq_true (List.all_eq_true.mp dsX12_timesHeard_0_ok (37, (.iload_n 3, 1)) (List.mem_of_getElem? (i := 21) rfl))
theorem dX12_timesHeard_38 : decode cX12_timesHeard 38 = .ok (.ireturn, 1) := of_decide_eq_true (List.all_eq_true.mp dsX12_timesHeard_0_ok (38, (.ireturn, 1)) (List.mem_of_getElem? (i := 22) rfl))
def fX12_timesHeard_b29 (N : Nat) (mmI : Nat → Int32) (mm_hushOfF : Nat → Int32) (mm_sumFromF : Nat → Int32) (mm_sumBehindF : Nat → Int32) (mm_codeSortF : Nat → Int32) (mm_codeValueF : Nat → Int32) (mm_milesToldF : Nat → Int32) (mm_placesF : Nat → Int32) (mm_placeAtF : Nat → Int32) (mm_talkOfF : Nat → Int32) (mm_earsF : Nat → Int32) (mm_sharpOfF : Nat → Int32) (mm_rowOfF : Nat → Int32)  (k5 : ((Nat → Int32) × (Nat → Int32) × (Nat → Int32) × (Nat → Int32) × (Nat → Int32) × (Nat → Int64) × (Nat → Int32) × (Nat → Int32) × (Nat → Int32) × Int32 × Int32 × Int32 × Int32) → Option (Int32 × (Nat → Int32) × (Nat → Int32) × (Nat → Int32) × (Nat → Int32) × (Nat → Int32) × (Nat → Int64) × (Nat → Int32) × (Nat → Int32) × (Nat → Int32))) : ((Nat → Int32) × (Nat → Int32) × (Nat → Int32) × (Nat → Int32) × (Nat → Int32) × (Nat → Int64) × (Nat → Int32) × (Nat → Int32) × (Nat → Int32) × Int32 × Int32 × Int32 × Int32 × Int32) → Option (Int32 × (Nat → Int32) × (Nat → Int32) × (Nat → Int32) × (Nat → Int32) × (Nat → Int32) × (Nat → Int64) × (Nat → Int32) × (Nat → Int32) × (Nat → Int32)) :=
  fun (mm_talkingOfF_29, mm_nightOfF_29, mm_askedF_29, mm_mileOfF_29, mm_roundsOfF_29, mm_stackL_29, mm_heardFromF_29, mm_keptManyF_29, mm_keptRowF_29, x1_29, x2_29, x4_29, y0_29, y1_29) => k5 (mm_talkingOfF_29, mm_nightOfF_29, mm_askedF_29, mm_mileOfF_29, mm_roundsOfF_29, mm_stackL_29, mm_heardFromF_29, mm_keptManyF_29, mm_keptRowF_29, x1_29, x2_29, y0_29 + y1_29, x4_29 + 1)
def fX12_timesHeard_l5 (N : Nat) (mmI : Nat → Int32) (mm_hushOfF : Nat → Int32) (mm_sumFromF : Nat → Int32) (mm_sumBehindF : Nat → Int32) (mm_codeSortF : Nat → Int32) (mm_codeValueF : Nat → Int32) (mm_milesToldF : Nat → Int32) (mm_placesF : Nat → Int32) (mm_placeAtF : Nat → Int32) (mm_talkOfF : Nat → Int32) (mm_earsF : Nat → Int32) (mm_sharpOfF : Nat → Int32) (mm_rowOfF : Nat → Int32)  (k5 : ((Nat → Int32) × (Nat → Int32) × (Nat → Int32) × (Nat → Int32) × (Nat → Int32) × (Nat → Int64) × (Nat → Int32) × (Nat → Int32) × (Nat → Int32) × Int32 × Int32 × Int32 × Int32) → Option (Int32 × (Nat → Int32) × (Nat → Int32) × (Nat → Int32) × (Nat → Int32) × (Nat → Int32) × (Nat → Int64) × (Nat → Int32) × (Nat → Int32) × (Nat → Int32))) : ((Nat → Int32) × (Nat → Int32) × (Nat → Int32) × (Nat → Int32) × (Nat → Int32) × (Nat → Int64) × (Nat → Int32) × (Nat → Int32) × (Nat → Int32) × Int32 × Int32 × Int32 × Int32) → Option (Int32 × (Nat → Int32) × (Nat → Int32) × (Nat → Int32) × (Nat → Int32) × (Nat → Int32) × (Nat → Int64) × (Nat → Int32) × (Nat → Int32) × (Nat → Int32)) :=
  fun (mm_talkingOfF_5, mm_nightOfF_5, mm_askedF_5, mm_mileOfF_5, mm_roundsOfF_5, mm_stackL_5, mm_heardFromF_5, mm_keptManyF_5, mm_keptRowF_5, x1_5, x2_5, x3_5, x4_5) => (if x2_5 ≤ x4_5 then some ((x3_5, mm_talkingOfF_5, mm_nightOfF_5, mm_askedF_5, mm_mileOfF_5, mm_roundsOfF_5, mm_stackL_5, mm_heardFromF_5, mm_keptManyF_5, mm_keptRowF_5)) else (xq_bd (fX12_passes N mmI mm_hushOfF mm_talkingOfF_5 mm_sumFromF mm_nightOfF_5 mm_askedF_5 mm_mileOfF_5 mm_roundsOfF_5 mm_sumBehindF mm_stackL_5 mm_codeSortF mm_codeValueF mm_milesToldF mm_placesF mm_placeAtF mm_talkOfF mm_earsF mm_heardFromF_5 mm_sharpOfF mm_rowOfF mm_keptManyF_5 mm_keptRowF_5 1) fun (r_1_0, r_1_1, r_1_2, r_1_3, r_1_4, r_1_5, r_1_6, r_1_7, r_1_8, r_1_9) => (xq_bd (fX12_has2 N r_1_0 x1_5) fun r_3 => (if r_3 = 0 then fX12_timesHeard_b29 N mmI mm_hushOfF mm_sumFromF mm_sumBehindF mm_codeSortF mm_codeValueF mm_milesToldF mm_placesF mm_placeAtF mm_talkOfF mm_earsF mm_sharpOfF mm_rowOfF k5 (r_1_1, r_1_2, r_1_3, r_1_4, r_1_5, r_1_6, r_1_7, r_1_8, r_1_9, x1_5, x2_5, x4_5, x3_5, 0) else fX12_timesHeard_b29 N mmI mm_hushOfF mm_sumFromF mm_sumBehindF mm_codeSortF mm_codeValueF mm_milesToldF mm_placesF mm_placeAtF mm_talkOfF mm_earsF mm_sharpOfF mm_rowOfF k5 (r_1_1, r_1_2, r_1_3, r_1_4, r_1_5, r_1_6, r_1_7, r_1_8, r_1_9, x1_5, x2_5, x4_5, x3_5, 1)))))
def fX12_timesHeard (N : Nat) (mmI : Nat → Int32) (mm_hushOfF : Nat → Int32) (mm_talkingOfF : Nat → Int32) (mm_sumFromF : Nat → Int32) (mm_nightOfF : Nat → Int32) (mm_askedF : Nat → Int32) (mm_mileOfF : Nat → Int32) (mm_roundsOfF : Nat → Int32) (mm_sumBehindF : Nat → Int32) (mm_stackL : Nat → Int64) (mm_codeSortF : Nat → Int32) (mm_codeValueF : Nat → Int32) (mm_milesToldF : Nat → Int32) (mm_placesF : Nat → Int32) (mm_placeAtF : Nat → Int32) (mm_talkOfF : Nat → Int32) (mm_earsF : Nat → Int32) (mm_heardFromF : Nat → Int32) (mm_sharpOfF : Nat → Int32) (mm_rowOfF : Nat → Int32) (mm_keptManyF : Nat → Int32) (mm_keptRowF : Nat → Int32)  (p1 : Int32) (p2 : Int32) : Option (Int32 × (Nat → Int32) × (Nat → Int32) × (Nat → Int32) × (Nat → Int32) × (Nat → Int32) × (Nat → Int64) × (Nat → Int32) × (Nat → Int32) × (Nat → Int32)) :=
  xq_loop (fX12_timesHeard_l5 N mmI mm_hushOfF mm_sumFromF mm_sumBehindF mm_codeSortF mm_codeValueF mm_milesToldF mm_placesF mm_placeAtF mm_talkOfF mm_earsF mm_sharpOfF mm_rowOfF) N (mm_talkingOfF, mm_nightOfF, mm_askedF, mm_mileOfF, mm_roundsOfF, mm_stackL, mm_heardFromF, mm_keptManyF, mm_keptRowF, p1, p2, 0, 0)
set_option maxHeartbeats 4000000 in
set_option maxRecDepth 100000 in
theorem kX12_timesHeard (l : Launch) (dC : Nat → ClassId) (dI : Nat → Nat → Nat) (cI cB cJ cZ cM : ClassId) (z : Nat) (ad : Nat → Nat) (N : Nat) (a_p0 : Nat) (mmI : Nat → Int32) (mmJ : Nat → Int64) (mmR : Nat → Nat) (mm_hushOfF : Nat → Int32) (mm_talkingOfF : Nat → Int32) (mm_sumFromF : Nat → Int32) (mm_nightOfF : Nat → Int32) (mm_askedF : Nat → Int32) (mm_mileOfF : Nat → Int32) (mm_roundsOfF : Nat → Int32) (mm_sumBehindF : Nat → Int32) (mm_stackL : Nat → Int64) (mm_codeSortF : Nat → Int32) (mm_codeValueF : Nat → Int32) (mm_milesToldF : Nat → Int32) (mm_placesF : Nat → Int32) (mm_placeAtF : Nat → Int32) (mm_talkOfF : Nat → Int32) (mm_earsF : Nat → Int32) (mm_heardFromF : Nat → Int32) (mm_sharpOfF : Nat → Int32) (mm_rowOfF : Nat → Int32) (mm_keptManyF : Nat → Int32) (mm_keptRowF : Nat → Int32) (p1 : Int32) (p2 : Int32) {r0 : Int32} {r1 : Nat → Int32} {r2 : Nat → Int32} {r3 : Nat → Int32} {r4 : Nat → Int32} {r5 : Nat → Int32} {r6 : Nat → Int64} {r7 : Nat → Int32} {r8 : Nat → Int32} {r9 : Nat → Int32} (hf : fX12_timesHeard N mmI mm_hushOfF mm_talkingOfF mm_sumFromF mm_nightOfF mm_askedF mm_mileOfF mm_roundsOfF mm_sumBehindF mm_stackL mm_codeSortF mm_codeValueF mm_milesToldF mm_placesF mm_placeAtF mm_talkOfF mm_earsF mm_heardFromF mm_sharpOfF mm_rowOfF mm_keptManyF mm_keptRowF p1 p2 = some (r0, r1, r2, r3, r4, r5, r6, r7, r8, r9)) : xq_Ct l yX12_timesHeard wsX12_timesHeard { frames := 7, cells := 0, slots := 0, locals := 167 } (dC, dI) vwCl (xq_tys cI cB cJ cZ cM) z ad [.ref a_p0, .int p1, .int p2] [(a_p0, .inr (12, oX12 mmI mmJ mmR)), ((mmR 49), .inl (cI, 22, .inl mm_hushOfF)), ((mmR 48), .inl (cI, 22, .inl mm_talkingOfF)), ((mmR 24), .inl (cI, 6, .inl mm_sumFromF)), ((mmR 45), .inl (cI, 22, .inl mm_nightOfF)), ((mmR 58), .inl (cI, 12, .inl mm_askedF)), ((mmR 46), .inl (cI, 22, .inl mm_mileOfF)), ((mmR 47), .inl (cI, 22, .inl mm_roundsOfF)), ((mmR 25), .inl (cI, 6, .inl mm_sumBehindF)), ((mmR 57), .inl (cJ, 500, .inr (.inl mm_stackL))), ((mmR 26), .inl (cI, 3200, .inl mm_codeSortF)), ((mmR 27), .inl (cI, 3200, .inl mm_codeValueF)), ((mmR 14), .inl (cI, 2, .inl mm_milesToldF)), ((mmR 21), .inl (cI, 2, .inl mm_placesF)), ((mmR 22), .inl (cI, 12, .inl mm_placeAtF)), ((mmR 51), .inl (cI, 132, .inl mm_talkOfF)), ((mmR 18), .inl (cI, 2, .inl mm_earsF)), ((mmR 59), .inl (cI, 70, .inl mm_heardFromF)), ((mmR 20), .inl (cI, 14, .inl mm_sharpOfF)), ((mmR 50), .inl (cI, 154, .inl mm_rowOfF)), ((mmR 52), .inl (cI, 22, .inl mm_keptManyF)), ((mmR 53), .inl (cI, 2640, .inl mm_keptRowF))] [(a_p0, .inr (12, oX12 mmI mmJ mmR)), ((mmR 49), .inl (cI, 22, .inl mm_hushOfF)), ((mmR 48), .inl (cI, 22, .inl r1)), ((mmR 24), .inl (cI, 6, .inl mm_sumFromF)), ((mmR 45), .inl (cI, 22, .inl r2)), ((mmR 58), .inl (cI, 12, .inl r3)), ((mmR 46), .inl (cI, 22, .inl r4)), ((mmR 47), .inl (cI, 22, .inl r5)), ((mmR 25), .inl (cI, 6, .inl mm_sumBehindF)), ((mmR 57), .inl (cJ, 500, .inr (.inl r6))), ((mmR 26), .inl (cI, 3200, .inl mm_codeSortF)), ((mmR 27), .inl (cI, 3200, .inl mm_codeValueF)), ((mmR 14), .inl (cI, 2, .inl mm_milesToldF)), ((mmR 21), .inl (cI, 2, .inl mm_placesF)), ((mmR 22), .inl (cI, 12, .inl mm_placeAtF)), ((mmR 51), .inl (cI, 132, .inl mm_talkOfF)), ((mmR 18), .inl (cI, 2, .inl mm_earsF)), ((mmR 59), .inl (cI, 70, .inl r7)), ((mmR 20), .inl (cI, 14, .inl mm_sharpOfF)), ((mmR 50), .inl (cI, 154, .inl mm_rowOfF)), ((mmR 52), .inl (cI, 22, .inl r8)), ((mmR 53), .inl (cI, 2640, .inl r9))] (some (.int r0)) := by
  intro sz
  refine Met.ofW (cc := cX12_timesHeard) (maxL := 5) (ret := (some .int)) (by decide) rfl ?_
  intro p e s m args below meth c s₁ B hml hv
  obtain ⟨rfl, hsz, hP, hK, hD0, hE, hz⟩ := hv
  have hx := B.exec
  have hb := B.bytes
  have hr := B.returns
  have hts := atoms_spec (ws := wsX12_timesHeard) B.pre
  have hown : s.vm.findClass RX12 = some m.cls := findClass_of_methodNamed B.named
  have hlocks := B.notSynchronized
  subst hsz
  have hD := hD0.self (sz := s.heap.size)
  have hN := xq_Env.of hE hz hD0
  generalize hAe : va_A [(a_p0, .inr (12, oX12 mmI mmJ mmR)), ((mmR 49), .inl (cI, 22, .inl mm_hushOfF)), ((mmR 48), .inl (cI, 22, .inl mm_talkingOfF)), ((mmR 24), .inl (cI, 6, .inl mm_sumFromF)), ((mmR 45), .inl (cI, 22, .inl mm_nightOfF)), ((mmR 58), .inl (cI, 12, .inl mm_askedF)), ((mmR 46), .inl (cI, 22, .inl mm_mileOfF)), ((mmR 47), .inl (cI, 22, .inl mm_roundsOfF)), ((mmR 25), .inl (cI, 6, .inl mm_sumBehindF)), ((mmR 57), .inl (cJ, 500, .inr (.inl mm_stackL))), ((mmR 26), .inl (cI, 3200, .inl mm_codeSortF)), ((mmR 27), .inl (cI, 3200, .inl mm_codeValueF)), ((mmR 14), .inl (cI, 2, .inl mm_milesToldF)), ((mmR 21), .inl (cI, 2, .inl mm_placesF)), ((mmR 22), .inl (cI, 12, .inl mm_placeAtF)), ((mmR 51), .inl (cI, 132, .inl mm_talkOfF)), ((mmR 18), .inl (cI, 2, .inl mm_earsF)), ((mmR 59), .inl (cI, 70, .inl mm_heardFromF)), ((mmR 20), .inl (cI, 14, .inl mm_sharpOfF)), ((mmR 50), .inl (cI, 154, .inl mm_rowOfF)), ((mmR 52), .inl (cI, 22, .inl mm_keptManyF)), ((mmR 53), .inl (cI, 2640, .inl mm_keptRowF))] s.heap.size = A at hD hN ⊢
  have hA : ∀ q : Nat, s.heap.size ≤ q → A q := fun q h => by rw [← hAe]; exact Or.inr h
  clear hAe hD0
  have hS : va_S A s.heap s.heap [] := va_S.rf
  have hl := lv_entry ([.ref a_p0, .int p1, .int p2]) (n := 5) (Nat.le_of_ble_eq_true rfl)
  rw [lg_entry_eq]
  generalize (lg_sl ([.ref a_p0, .int p1, .int p2]) ++ List.replicate (5 - (lg_sl ([.ref a_p0, .int p1, .int p2])).length) Slot.unset).toArray = ls at hl ⊢
  have hl : lv_has ls 5 [(0, .ref a_p0), (1, .int p1), (2, .int p2)] := hl
  have l5 : ∀ n5 : Nat, ∀ (mm_talkingOfF_5 : Nat → Int32) (mm_nightOfF_5 : Nat → Int32) (mm_askedF_5 : Nat → Int32) (mm_mileOfF_5 : Nat → Int32) (mm_roundsOfF_5 : Nat → Int32) (mm_stackL_5 : Nat → Int64) (mm_heardFromF_5 : Nat → Int32) (mm_keptManyF_5 : Nat → Int32) (mm_keptRowF_5 : Nat → Int32) (x1_5 : Int32) (x2_5 : Int32) (x3_5 : Int32) (x4_5 : Int32) (ls : Array Slot) (H : Heap) (locs : List Loc), xq_loop (fX12_timesHeard_l5 N mmI mm_hushOfF mm_sumFromF mm_sumBehindF mm_codeSortF mm_codeValueF mm_milesToldF mm_placesF mm_placeAtF mm_talkOfF mm_earsF mm_sharpOfF mm_rowOfF) n5 (mm_talkingOfF_5, mm_nightOfF_5, mm_askedF_5, mm_mileOfF_5, mm_roundsOfF_5, mm_stackL_5, mm_heardFromF_5, mm_keptManyF_5, mm_keptRowF_5, x1_5, x2_5, x3_5, x4_5) = some (r0, r1, r2, r3, r4, r5, r6, r7, r8, r9) → va_P (dC, dI) vwCl [(a_p0, .inr (12, oX12 mmI mmJ mmR)), ((mmR 49), .inl (cI, 22, .inl mm_hushOfF)), ((mmR 48), .inl (cI, 22, .inl mm_talkingOfF_5)), ((mmR 24), .inl (cI, 6, .inl mm_sumFromF)), ((mmR 45), .inl (cI, 22, .inl mm_nightOfF_5)), ((mmR 58), .inl (cI, 12, .inl mm_askedF_5)), ((mmR 46), .inl (cI, 22, .inl mm_mileOfF_5)), ((mmR 47), .inl (cI, 22, .inl mm_roundsOfF_5)), ((mmR 25), .inl (cI, 6, .inl mm_sumBehindF)), ((mmR 57), .inl (cJ, 500, .inr (.inl mm_stackL_5))), ((mmR 26), .inl (cI, 3200, .inl mm_codeSortF)), ((mmR 27), .inl (cI, 3200, .inl mm_codeValueF)), ((mmR 14), .inl (cI, 2, .inl mm_milesToldF)), ((mmR 21), .inl (cI, 2, .inl mm_placesF)), ((mmR 22), .inl (cI, 12, .inl mm_placeAtF)), ((mmR 51), .inl (cI, 132, .inl mm_talkOfF)), ((mmR 18), .inl (cI, 2, .inl mm_earsF)), ((mmR 59), .inl (cI, 70, .inl mm_heardFromF_5)), ((mmR 20), .inl (cI, 14, .inl mm_sharpOfF)), ((mmR 50), .inl (cI, 154, .inl mm_rowOfF)), ((mmR 52), .inl (cI, 22, .inl mm_keptManyF_5)), ((mmR 53), .inl (cI, 2640, .inl mm_keptRowF_5))] H → va_D A [(a_p0, .inr (12, oX12 mmI mmJ mmR)), ((mmR 49), .inl (cI, 22, .inl mm_hushOfF)), ((mmR 48), .inl (cI, 22, .inl mm_talkingOfF_5)), ((mmR 24), .inl (cI, 6, .inl mm_sumFromF)), ((mmR 45), .inl (cI, 22, .inl mm_nightOfF_5)), ((mmR 58), .inl (cI, 12, .inl mm_askedF_5)), ((mmR 46), .inl (cI, 22, .inl mm_mileOfF_5)), ((mmR 47), .inl (cI, 22, .inl mm_roundsOfF_5)), ((mmR 25), .inl (cI, 6, .inl mm_sumBehindF)), ((mmR 57), .inl (cJ, 500, .inr (.inl mm_stackL_5))), ((mmR 26), .inl (cI, 3200, .inl mm_codeSortF)), ((mmR 27), .inl (cI, 3200, .inl mm_codeValueF)), ((mmR 14), .inl (cI, 2, .inl mm_milesToldF)), ((mmR 21), .inl (cI, 2, .inl mm_placesF)), ((mmR 22), .inl (cI, 12, .inl mm_placeAtF)), ((mmR 51), .inl (cI, 132, .inl mm_talkOfF)), ((mmR 18), .inl (cI, 2, .inl mm_earsF)), ((mmR 59), .inl (cI, 70, .inl mm_heardFromF_5)), ((mmR 20), .inl (cI, 14, .inl mm_sharpOfF)), ((mmR 50), .inl (cI, 154, .inl mm_rowOfF)), ((mmR 52), .inl (cI, 22, .inl mm_keptManyF_5)), ((mmR 53), .inl (cI, 2640, .inl mm_keptRowF_5))] → va_S A s.heap H locs → lv_has ls 5 [(0, .ref a_p0), (1, .int x1_5), (2, .int x2_5), (3, .int x3_5), (4, .int x4_5)] → W p l e (headSpec wsX12_timesHeard { frames := 7, cells := 0, slots := 0, locals := 167 }).room s m [.ref a_p0, .int p1, .int p2].toArray below meth c H locs 0 0 (MQ below (xq_Q (dC, dI) vwCl (xq_tys cI cB cJ cZ cM) A [(a_p0, .inr (12, oX12 mmI mmJ mmR)), ((mmR 49), .inl (cI, 22, .inl mm_hushOfF)), ((mmR 48), .inl (cI, 22, .inl r1)), ((mmR 24), .inl (cI, 6, .inl mm_sumFromF)), ((mmR 45), .inl (cI, 22, .inl r2)), ((mmR 58), .inl (cI, 12, .inl r3)), ((mmR 46), .inl (cI, 22, .inl r4)), ((mmR 47), .inl (cI, 22, .inl r5)), ((mmR 25), .inl (cI, 6, .inl mm_sumBehindF)), ((mmR 57), .inl (cJ, 500, .inr (.inl r6))), ((mmR 26), .inl (cI, 3200, .inl mm_codeSortF)), ((mmR 27), .inl (cI, 3200, .inl mm_codeValueF)), ((mmR 14), .inl (cI, 2, .inl mm_milesToldF)), ((mmR 21), .inl (cI, 2, .inl mm_placesF)), ((mmR 22), .inl (cI, 12, .inl mm_placeAtF)), ((mmR 51), .inl (cI, 132, .inl mm_talkOfF)), ((mmR 18), .inl (cI, 2, .inl mm_earsF)), ((mmR 59), .inl (cI, 70, .inl r7)), ((mmR 20), .inl (cI, 14, .inl mm_sharpOfF)), ((mmR 50), .inl (cI, 154, .inl mm_rowOfF)), ((mmR 52), .inl (cI, 22, .inl r8)), ((mmR 53), .inl (cI, 2640, .inl r9))] (some (.int r0))) [.ref a_p0, .int p1, .int p2].toArray s 0 0 A) (F0 m 5 ls []) := by
    intro n5
    induction n5 with
    | zero => intro mm_talkingOfF_5 mm_nightOfF_5 mm_askedF_5 mm_mileOfF_5 mm_roundsOfF_5 mm_stackL_5 mm_heardFromF_5 mm_keptManyF_5 mm_keptRowF_5 x1_5 x2_5 x3_5 x4_5 ls H locs hf; cases (show none = some (r0, r1, r2, r3, r4, r5, r6, r7, r8, r9) from hf)
    | succ n5 ih5 =>
      have b29 : ∀ (mm_talkingOfF_29 : Nat → Int32) (mm_nightOfF_29 : Nat → Int32) (mm_askedF_29 : Nat → Int32) (mm_mileOfF_29 : Nat → Int32) (mm_roundsOfF_29 : Nat → Int32) (mm_stackL_29 : Nat → Int64) (mm_heardFromF_29 : Nat → Int32) (mm_keptManyF_29 : Nat → Int32) (mm_keptRowF_29 : Nat → Int32) (x1_29 : Int32) (x2_29 : Int32) (x4_29 : Int32) (y0_29 : Int32) (y1_29 : Int32) (ls : Array Slot) (H : Heap) (locs : List Loc), fX12_timesHeard_b29 N mmI mm_hushOfF mm_sumFromF mm_sumBehindF mm_codeSortF mm_codeValueF mm_milesToldF mm_placesF mm_placeAtF mm_talkOfF mm_earsF mm_sharpOfF mm_rowOfF (xq_loop (fX12_timesHeard_l5 N mmI mm_hushOfF mm_sumFromF mm_sumBehindF mm_codeSortF mm_codeValueF mm_milesToldF mm_placesF mm_placeAtF mm_talkOfF mm_earsF mm_sharpOfF mm_rowOfF) n5) (mm_talkingOfF_29, mm_nightOfF_29, mm_askedF_29, mm_mileOfF_29, mm_roundsOfF_29, mm_stackL_29, mm_heardFromF_29, mm_keptManyF_29, mm_keptRowF_29, x1_29, x2_29, x4_29, y0_29, y1_29) = some (r0, r1, r2, r3, r4, r5, r6, r7, r8, r9) → va_P (dC, dI) vwCl [(a_p0, .inr (12, oX12 mmI mmJ mmR)), ((mmR 49), .inl (cI, 22, .inl mm_hushOfF)), ((mmR 48), .inl (cI, 22, .inl mm_talkingOfF_29)), ((mmR 24), .inl (cI, 6, .inl mm_sumFromF)), ((mmR 45), .inl (cI, 22, .inl mm_nightOfF_29)), ((mmR 58), .inl (cI, 12, .inl mm_askedF_29)), ((mmR 46), .inl (cI, 22, .inl mm_mileOfF_29)), ((mmR 47), .inl (cI, 22, .inl mm_roundsOfF_29)), ((mmR 25), .inl (cI, 6, .inl mm_sumBehindF)), ((mmR 57), .inl (cJ, 500, .inr (.inl mm_stackL_29))), ((mmR 26), .inl (cI, 3200, .inl mm_codeSortF)), ((mmR 27), .inl (cI, 3200, .inl mm_codeValueF)), ((mmR 14), .inl (cI, 2, .inl mm_milesToldF)), ((mmR 21), .inl (cI, 2, .inl mm_placesF)), ((mmR 22), .inl (cI, 12, .inl mm_placeAtF)), ((mmR 51), .inl (cI, 132, .inl mm_talkOfF)), ((mmR 18), .inl (cI, 2, .inl mm_earsF)), ((mmR 59), .inl (cI, 70, .inl mm_heardFromF_29)), ((mmR 20), .inl (cI, 14, .inl mm_sharpOfF)), ((mmR 50), .inl (cI, 154, .inl mm_rowOfF)), ((mmR 52), .inl (cI, 22, .inl mm_keptManyF_29)), ((mmR 53), .inl (cI, 2640, .inl mm_keptRowF_29))] H → va_D A [(a_p0, .inr (12, oX12 mmI mmJ mmR)), ((mmR 49), .inl (cI, 22, .inl mm_hushOfF)), ((mmR 48), .inl (cI, 22, .inl mm_talkingOfF_29)), ((mmR 24), .inl (cI, 6, .inl mm_sumFromF)), ((mmR 45), .inl (cI, 22, .inl mm_nightOfF_29)), ((mmR 58), .inl (cI, 12, .inl mm_askedF_29)), ((mmR 46), .inl (cI, 22, .inl mm_mileOfF_29)), ((mmR 47), .inl (cI, 22, .inl mm_roundsOfF_29)), ((mmR 25), .inl (cI, 6, .inl mm_sumBehindF)), ((mmR 57), .inl (cJ, 500, .inr (.inl mm_stackL_29))), ((mmR 26), .inl (cI, 3200, .inl mm_codeSortF)), ((mmR 27), .inl (cI, 3200, .inl mm_codeValueF)), ((mmR 14), .inl (cI, 2, .inl mm_milesToldF)), ((mmR 21), .inl (cI, 2, .inl mm_placesF)), ((mmR 22), .inl (cI, 12, .inl mm_placeAtF)), ((mmR 51), .inl (cI, 132, .inl mm_talkOfF)), ((mmR 18), .inl (cI, 2, .inl mm_earsF)), ((mmR 59), .inl (cI, 70, .inl mm_heardFromF_29)), ((mmR 20), .inl (cI, 14, .inl mm_sharpOfF)), ((mmR 50), .inl (cI, 154, .inl mm_rowOfF)), ((mmR 52), .inl (cI, 22, .inl mm_keptManyF_29)), ((mmR 53), .inl (cI, 2640, .inl mm_keptRowF_29))] → va_S A s.heap H locs → lv_has ls 5 [(0, .ref a_p0), (1, .int x1_29), (2, .int x2_29), (4, .int x4_29)] → W p l e (headSpec wsX12_timesHeard { frames := 7, cells := 0, slots := 0, locals := 167 }).room s m [.ref a_p0, .int p1, .int p2].toArray below meth c H locs 0 0 (MQ below (xq_Q (dC, dI) vwCl (xq_tys cI cB cJ cZ cM) A [(a_p0, .inr (12, oX12 mmI mmJ mmR)), ((mmR 49), .inl (cI, 22, .inl mm_hushOfF)), ((mmR 48), .inl (cI, 22, .inl r1)), ((mmR 24), .inl (cI, 6, .inl mm_sumFromF)), ((mmR 45), .inl (cI, 22, .inl r2)), ((mmR 58), .inl (cI, 12, .inl r3)), ((mmR 46), .inl (cI, 22, .inl r4)), ((mmR 47), .inl (cI, 22, .inl r5)), ((mmR 25), .inl (cI, 6, .inl mm_sumBehindF)), ((mmR 57), .inl (cJ, 500, .inr (.inl r6))), ((mmR 26), .inl (cI, 3200, .inl mm_codeSortF)), ((mmR 27), .inl (cI, 3200, .inl mm_codeValueF)), ((mmR 14), .inl (cI, 2, .inl mm_milesToldF)), ((mmR 21), .inl (cI, 2, .inl mm_placesF)), ((mmR 22), .inl (cI, 12, .inl mm_placeAtF)), ((mmR 51), .inl (cI, 132, .inl mm_talkOfF)), ((mmR 18), .inl (cI, 2, .inl mm_earsF)), ((mmR 59), .inl (cI, 70, .inl r7)), ((mmR 20), .inl (cI, 14, .inl mm_sharpOfF)), ((mmR 50), .inl (cI, 154, .inl mm_rowOfF)), ((mmR 52), .inl (cI, 22, .inl r8)), ((mmR 53), .inl (cI, 2640, .inl r9))] (some (.int r0))) [.ref a_p0, .int p1, .int p2].toArray s 0 0 A) (F0 m 29 ls [.int y1_29, .int y0_29]) := by
        intro mm_talkingOfF_29 mm_nightOfF_29 mm_askedF_29 mm_mileOfF_29 mm_roundsOfF_29 mm_stackL_29 mm_heardFromF_29 mm_keptManyF_29 mm_keptRowF_29 x1_29 x2_29 x4_29 y0_29 y1_29 ls H locs hf hP hD hS hl
        unfold fX12_timesHeard_b29 at hf
        refine lv_iadd hx hb dX12_timesHeard_29 ?_
        refine lv_istore_n (lv' := [(3, .int (y0_29 + y1_29)), (0, .ref a_p0), (1, .int x1_29), (2, .int x2_29), (4, .int x4_29)]) hx hb dX12_timesHeard_30 rfl hl (by decide) rfl (fun ls hl => ?_)
        refine lv_iinc (v := x4_29 + 1) (lv' := [(4, .int (x4_29 + 1)), (3, .int (y0_29 + y1_29)), (0, .ref a_p0), (1, .int x1_29), (2, .int x2_29)]) hx hb dX12_timesHeard_31 hl (k := 4) rfl (congrArg (fun q9 => x4_29 + q9) (by decide : Int32.ofInt 1 = 1)) (by decide) rfl (fun ls hl => ?_)
        refine lv_goto (tgt := 5) hx hb dX12_timesHeard_34 (by decide) ?_
        exact ih5 mm_talkingOfF_29 mm_nightOfF_29 mm_askedF_29 mm_mileOfF_29 mm_roundsOfF_29 mm_stackL_29 mm_heardFromF_29 mm_keptManyF_29 mm_keptRowF_29 x1_29 x2_29 (y0_29 + y1_29) (x4_29 + 1) _ _ _ hf hP hD hS (lv_sub hl [2, 3, 4, 1, 0] rfl)
      intro mm_talkingOfF_5 mm_nightOfF_5 mm_askedF_5 mm_mileOfF_5 mm_roundsOfF_5 mm_stackL_5 mm_heardFromF_5 mm_keptManyF_5 mm_keptRowF_5 x1_5 x2_5 x3_5 x4_5 ls H locs hf hP hD hS hl
      have hf : fX12_timesHeard_l5 N mmI mm_hushOfF mm_sumFromF mm_sumBehindF mm_codeSortF mm_codeValueF mm_milesToldF mm_placesF mm_placeAtF mm_talkOfF mm_earsF mm_sharpOfF mm_rowOfF (xq_loop (fX12_timesHeard_l5 N mmI mm_hushOfF mm_sumFromF mm_sumBehindF mm_codeSortF mm_codeValueF mm_milesToldF mm_placesF mm_placeAtF mm_talkOfF mm_earsF mm_sharpOfF mm_rowOfF) n5) (mm_talkingOfF_5, mm_nightOfF_5, mm_askedF_5, mm_mileOfF_5, mm_roundsOfF_5, mm_stackL_5, mm_heardFromF_5, mm_keptManyF_5, mm_keptRowF_5, x1_5, x2_5, x3_5, x4_5) = some (r0, r1, r2, r3, r4, r5, r6, r7, r8, r9) := hf
      unfold fX12_timesHeard_l5 at hf
      refine lv_iload hx hb dX12_timesHeard_5 (lv_at hl 4 rfl) ?_
      refine lv_iload_n hx hb dX12_timesHeard_7 rfl (lv_at hl 2 rfl) ?_
      refine lv_icmp_ge (tgt := 37) hx hb dX12_timesHeard_8 (by decide) (fun c_ => ?_) (fun c_ => ?_)
      · have hf := xq_pos hf c_
        refine lv_iload_n hx hb dX12_timesHeard_37 rfl (lv_at hl 3 rfl) ?_
        have e9 := Option.some.inj hf
        have e9_0 : x3_5 = r0 := congrArg (fun t => t.1) e9
        have e9_1 : mm_talkingOfF_5 = r1 := congrArg (fun t => t.2.1) e9
        have e9_2 : mm_nightOfF_5 = r2 := congrArg (fun t => t.2.2.1) e9
        have e9_3 : mm_askedF_5 = r3 := congrArg (fun t => t.2.2.2.1) e9
        have e9_4 : mm_mileOfF_5 = r4 := congrArg (fun t => t.2.2.2.2.1) e9
        have e9_5 : mm_roundsOfF_5 = r5 := congrArg (fun t => t.2.2.2.2.2.1) e9
        have e9_6 : mm_stackL_5 = r6 := congrArg (fun t => t.2.2.2.2.2.2.1) e9
        have e9_7 : mm_heardFromF_5 = r7 := congrArg (fun t => t.2.2.2.2.2.2.2.1) e9
        have e9_8 : mm_keptManyF_5 = r8 := congrArg (fun t => t.2.2.2.2.2.2.2.2.1) e9
        have e9_9 : mm_keptRowF_5 = r9 := congrArg (fun t => t.2.2.2.2.2.2.2.2.2) e9
        clear e9 hf
        try clear b29
        try clear l5
        try clear ih5
        subst e9_0
        subst e9_1
        subst e9_2
        subst e9_3
        subst e9_4
        subst e9_5
        subst e9_6
        subst e9_7
        subst e9_8
        subst e9_9
        exact xq_iret hx hb hr hlocks hK hP hD hS dX12_timesHeard_38
      · have hf := xq_neg hf c_
        refine lv_iload_n hx hb dX12_timesHeard_11 rfl (lv_at hl 3 rfl) ?_
        refine lv_aload_n hx hb dX12_timesHeard_12 rfl (lv_at hl 0 rfl) ?_
        refine lv_iconst (v := 1) hx hb dX12_timesHeard_13 (by decide) ?_
        obtain ⟨⟨r_1_0, r_1_1, r_1_2, r_1_3, r_1_4, r_1_5, r_1_6, r_1_7, r_1_8, r_1_9⟩, h_2, hf⟩ := xq_bd_some hf
        refine xq_callV (As := [.int 1]) (rest := [.int x3_5]) (ci := 12) (q0 := 0) ⟨hx, hb, hml, hown, hts⟩ (kX12_passes l dC dI cI cB cJ cZ cM z ad N a_p0 mmI mmJ mmR mm_hushOfF mm_talkingOfF_5 mm_sumFromF mm_nightOfF_5 mm_askedF_5 mm_mileOfF_5 mm_roundsOfF_5 mm_sumBehindF mm_stackL_5 mm_codeSortF mm_codeValueF mm_milesToldF mm_placesF mm_placeAtF mm_talkOfF mm_earsF mm_heardFromF_5 mm_sharpOfF mm_rowOfF mm_keptManyF_5 mm_keptRowF_5 1 h_2) (cwV 1 hts gX12_timesHeard_X12_passes rfl rfl rfl (by decide +kernel) ⟨Nat.le_of_ble_eq_true rfl, Nat.le_of_ble_eq_true rfl⟩) hN hK hP hD hS hA [0, 1, 2, 3, 4, 5, 6, 7, 8, 9, 10, 11, 12, 13, 14, 15, 16, 17, 18, 19, 20, 21] (by decide) rfl rfl rfl rfl rfl rfl hl.1 rfl (Nat.le_of_ble_eq_true rfl) dX12_timesHeard_14 ⟨Nat.zero_le _, Nat.zero_le _⟩ (fun H locs hP hD hS => ?_)
        have hP : va_P (dC, dI) vwCl [(a_p0, .inr (12, oX12 mmI mmJ mmR)), ((mmR 49), .inl (cI, 22, .inl mm_hushOfF)), ((mmR 48), .inl (cI, 22, .inl r_1_1)), ((mmR 24), .inl (cI, 6, .inl mm_sumFromF)), ((mmR 45), .inl (cI, 22, .inl r_1_2)), ((mmR 58), .inl (cI, 12, .inl r_1_3)), ((mmR 46), .inl (cI, 22, .inl r_1_4)), ((mmR 47), .inl (cI, 22, .inl r_1_5)), ((mmR 25), .inl (cI, 6, .inl mm_sumBehindF)), ((mmR 57), .inl (cJ, 500, .inr (.inl r_1_6))), ((mmR 26), .inl (cI, 3200, .inl mm_codeSortF)), ((mmR 27), .inl (cI, 3200, .inl mm_codeValueF)), ((mmR 14), .inl (cI, 2, .inl mm_milesToldF)), ((mmR 21), .inl (cI, 2, .inl mm_placesF)), ((mmR 22), .inl (cI, 12, .inl mm_placeAtF)), ((mmR 51), .inl (cI, 132, .inl mm_talkOfF)), ((mmR 18), .inl (cI, 2, .inl mm_earsF)), ((mmR 59), .inl (cI, 70, .inl r_1_7)), ((mmR 20), .inl (cI, 14, .inl mm_sharpOfF)), ((mmR 50), .inl (cI, 154, .inl mm_rowOfF)), ((mmR 52), .inl (cI, 22, .inl r_1_8)), ((mmR 53), .inl (cI, 2640, .inl r_1_9))] H := hP
        have hD : va_D A [(a_p0, .inr (12, oX12 mmI mmJ mmR)), ((mmR 49), .inl (cI, 22, .inl mm_hushOfF)), ((mmR 48), .inl (cI, 22, .inl r_1_1)), ((mmR 24), .inl (cI, 6, .inl mm_sumFromF)), ((mmR 45), .inl (cI, 22, .inl r_1_2)), ((mmR 58), .inl (cI, 12, .inl r_1_3)), ((mmR 46), .inl (cI, 22, .inl r_1_4)), ((mmR 47), .inl (cI, 22, .inl r_1_5)), ((mmR 25), .inl (cI, 6, .inl mm_sumBehindF)), ((mmR 57), .inl (cJ, 500, .inr (.inl r_1_6))), ((mmR 26), .inl (cI, 3200, .inl mm_codeSortF)), ((mmR 27), .inl (cI, 3200, .inl mm_codeValueF)), ((mmR 14), .inl (cI, 2, .inl mm_milesToldF)), ((mmR 21), .inl (cI, 2, .inl mm_placesF)), ((mmR 22), .inl (cI, 12, .inl mm_placeAtF)), ((mmR 51), .inl (cI, 132, .inl mm_talkOfF)), ((mmR 18), .inl (cI, 2, .inl mm_earsF)), ((mmR 59), .inl (cI, 70, .inl r_1_7)), ((mmR 20), .inl (cI, 14, .inl mm_sharpOfF)), ((mmR 50), .inl (cI, 154, .inl mm_rowOfF)), ((mmR 52), .inl (cI, 22, .inl r_1_8)), ((mmR 53), .inl (cI, 2640, .inl r_1_9))] := hD
        refine W.eq (g2 := F0 m 17 ls [.int r_1_0, .int x3_5]) rfl ?_
        refine lv_iload_n hx hb dX12_timesHeard_17 rfl (lv_at hl 1 rfl) ?_
        obtain ⟨r_3, h_4, hf⟩ := xq_bd_some hf
        refine xq_callS (As := [.int r_1_0, .int x1_5]) (rest := [.int x3_5]) ⟨hx, hb, hml, hown, hts⟩ (kX12_has2 l dC dI cI cB cJ cZ cM z ad N r_1_0 x1_5 h_4) (va_cwS 2 hts gX12_timesHeard_X12_has2 rfl rfl rfl (by decide +kernel) ⟨Nat.le_of_ble_eq_true rfl, Nat.le_of_ble_eq_true rfl⟩) hN hK hP hD hS hA [] (by decide) rfl rfl rfl hl.1 rfl (Nat.le_of_ble_eq_true rfl) dX12_timesHeard_18 ⟨Nat.zero_le _, Nat.zero_le _⟩ (fun H locs hP hD hS => ?_)
        have hP : va_P (dC, dI) vwCl [(a_p0, .inr (12, oX12 mmI mmJ mmR)), ((mmR 49), .inl (cI, 22, .inl mm_hushOfF)), ((mmR 48), .inl (cI, 22, .inl r_1_1)), ((mmR 24), .inl (cI, 6, .inl mm_sumFromF)), ((mmR 45), .inl (cI, 22, .inl r_1_2)), ((mmR 58), .inl (cI, 12, .inl r_1_3)), ((mmR 46), .inl (cI, 22, .inl r_1_4)), ((mmR 47), .inl (cI, 22, .inl r_1_5)), ((mmR 25), .inl (cI, 6, .inl mm_sumBehindF)), ((mmR 57), .inl (cJ, 500, .inr (.inl r_1_6))), ((mmR 26), .inl (cI, 3200, .inl mm_codeSortF)), ((mmR 27), .inl (cI, 3200, .inl mm_codeValueF)), ((mmR 14), .inl (cI, 2, .inl mm_milesToldF)), ((mmR 21), .inl (cI, 2, .inl mm_placesF)), ((mmR 22), .inl (cI, 12, .inl mm_placeAtF)), ((mmR 51), .inl (cI, 132, .inl mm_talkOfF)), ((mmR 18), .inl (cI, 2, .inl mm_earsF)), ((mmR 59), .inl (cI, 70, .inl r_1_7)), ((mmR 20), .inl (cI, 14, .inl mm_sharpOfF)), ((mmR 50), .inl (cI, 154, .inl mm_rowOfF)), ((mmR 52), .inl (cI, 22, .inl r_1_8)), ((mmR 53), .inl (cI, 2640, .inl r_1_9))] H := hP
        have hD : va_D A [(a_p0, .inr (12, oX12 mmI mmJ mmR)), ((mmR 49), .inl (cI, 22, .inl mm_hushOfF)), ((mmR 48), .inl (cI, 22, .inl r_1_1)), ((mmR 24), .inl (cI, 6, .inl mm_sumFromF)), ((mmR 45), .inl (cI, 22, .inl r_1_2)), ((mmR 58), .inl (cI, 12, .inl r_1_3)), ((mmR 46), .inl (cI, 22, .inl r_1_4)), ((mmR 47), .inl (cI, 22, .inl r_1_5)), ((mmR 25), .inl (cI, 6, .inl mm_sumBehindF)), ((mmR 57), .inl (cJ, 500, .inr (.inl r_1_6))), ((mmR 26), .inl (cI, 3200, .inl mm_codeSortF)), ((mmR 27), .inl (cI, 3200, .inl mm_codeValueF)), ((mmR 14), .inl (cI, 2, .inl mm_milesToldF)), ((mmR 21), .inl (cI, 2, .inl mm_placesF)), ((mmR 22), .inl (cI, 12, .inl mm_placeAtF)), ((mmR 51), .inl (cI, 132, .inl mm_talkOfF)), ((mmR 18), .inl (cI, 2, .inl mm_earsF)), ((mmR 59), .inl (cI, 70, .inl r_1_7)), ((mmR 20), .inl (cI, 14, .inl mm_sharpOfF)), ((mmR 50), .inl (cI, 154, .inl mm_rowOfF)), ((mmR 52), .inl (cI, 22, .inl r_1_8)), ((mmR 53), .inl (cI, 2640, .inl r_1_9))] := hD
        refine W.eq (g2 := F0 m 21 ls [.int r_3, .int x3_5]) rfl ?_
        refine lv_if_eq (tgt := 28) hx hb dX12_timesHeard_21 (by decide) (fun c_ => ?_) (fun c_ => ?_)
        · have hf := xq_pos hf c_
          refine lv_iconst (v := 0) hx hb dX12_timesHeard_28 (by decide) ?_
          exact b29 r_1_1 r_1_2 r_1_3 r_1_4 r_1_5 r_1_6 r_1_7 r_1_8 r_1_9 x1_5 x2_5 x4_5 x3_5 0 _ _ _ hf hP hD hS (lv_sub hl [0, 1, 2, 4] rfl)
        · have hf := xq_neg hf c_
          refine lv_iconst (v := 1) hx hb dX12_timesHeard_24 (by decide) ?_
          refine lv_goto (tgt := 29) hx hb dX12_timesHeard_25 (by decide) ?_
          exact b29 r_1_1 r_1_2 r_1_3 r_1_4 r_1_5 r_1_6 r_1_7 r_1_8 r_1_9 x1_5 x2_5 x4_5 x3_5 1 _ _ _ hf hP hD hS (lv_sub hl [0, 1, 2, 4] rfl)
  unfold fX12_timesHeard at hf
  refine lv_iconst (v := 0) hx hb dX12_timesHeard_0 (by decide) ?_
  refine lv_istore_n (lv' := [(3, .int 0), (0, .ref a_p0), (1, .int p1), (2, .int p2)]) hx hb dX12_timesHeard_1 rfl hl (by decide) rfl (fun ls hl => ?_)
  refine lv_iconst (v := 0) hx hb dX12_timesHeard_2 (by decide) ?_
  refine lv_istore (lv' := [(4, .int 0), (3, .int 0), (0, .ref a_p0), (1, .int p1), (2, .int p2)]) hx hb dX12_timesHeard_3 hl (by decide) rfl (fun ls hl => ?_)
  exact l5 N mm_talkingOfF mm_nightOfF mm_askedF mm_mileOfF mm_roundsOfF mm_stackL mm_heardFromF mm_keptManyF mm_keptRowF p1 p2 0 0 _ _ _ hf hP hD hS (lv_sub hl [2, 3, 4, 1, 0] rfl)
set_option maxRecDepth 20000 in
theorem ggX12_often_X12_isEar : GoodIn wsX12_often wsX12_isEar := goodIn_r _ [5, 6, 7, 109, 110, 111, 112, 113, 114, 115, 116, 117, 118, 119, 120, 121, 122, 123, 124, 125, 126, 127, 128, 129, 130, 131, 132, 133, 134, 135, 136, 137, 138, 139, 140, 141, 142, 143, 144, 145, 146, 147, 148, 149, 150, 151, 152, 153, 154, 155, 156, 157, 158, 159, 160, 161, 162, 163, 164, 165, 166, 167, 168, 169, 170, 171, 172, 173, 174, 175, 176, 177, 178] rfl (by decide +kernel)
set_option maxRecDepth 20000 in
theorem gX12_often_X12_isEar : GoodIn wsX12_often (wsV RX12 454 RX12 yX12_isEar wsX12_isEar) := goodIn_app (goodIn_of _ (by decide +kernel)) ggX12_often_X12_isEar
set_option maxRecDepth 20000 in
theorem ggX12_often_X12_isAhead : GoodIn wsX12_often wsX12_isAhead := goodIn_r _ [11, 12, 13, 14, 15, 4, 16, 109, 110, 111, 112, 113, 114, 115, 116, 117, 118, 119, 120, 121, 122, 123, 124, 125, 126, 127, 128, 129, 130, 131, 132, 133, 134, 135, 136, 137, 138, 139, 140, 141, 142, 143, 144, 145, 146, 147, 148, 149, 150, 151, 152, 153, 154, 155, 156, 157, 158, 159, 160, 161, 162, 163, 164, 165, 166, 167, 168, 169, 170, 171, 172, 173, 174, 175, 176, 177, 178] rfl (by decide +kernel)
set_option maxRecDepth 20000 in
theorem gX12_often_X12_isAhead : GoodIn wsX12_often (wsV RX12 465 RX12 yX12_isAhead wsX12_isAhead) := goodIn_app (goodIn_of _ (by decide +kernel)) ggX12_often_X12_isAhead
set_option maxRecDepth 20000 in
theorem ggX12_often_X12_copies : GoodIn wsX12_often wsX12_copies := goodIn_r _ [20, 13, 21, 22, 23, 24, 25, 26, 27, 28, 109, 110, 111, 112, 113, 114, 115, 116, 117, 118, 119, 120, 121, 122, 123, 124, 125, 126, 127, 128, 129, 130, 131, 132, 133, 134, 135, 136, 137, 138, 139, 140, 141, 142, 143, 144, 145, 146, 147, 148, 149, 150, 151, 152, 153, 154, 155, 156, 157, 158, 159, 160, 161, 162, 163, 164, 165, 166, 167, 168, 169, 170, 171, 172, 173, 174, 175, 176, 177, 178] rfl (by decide +kernel)
set_option maxRecDepth 20000 in
theorem gX12_often_X12_copies : GoodIn wsX12_often (wsV RX12 394 RX12 yX12_copies wsX12_copies) := goodIn_app (goodIn_of _ (by decide +kernel)) ggX12_often_X12_copies
set_option maxRecDepth 20000 in
theorem ggX12_often_X12_timesHeard : GoodIn wsX12_often wsX12_timesHeard := goodIn_r _ [32, 33, 34, 35, 4, 36, 24, 37, 38, 39, 40, 23, 6, 7, 25, 13, 41, 42, 43, 44, 21, 45, 22, 46, 47, 48, 49, 50, 51, 52, 53, 54, 55, 56, 57, 58, 59, 60, 61, 62, 63, 64, 65, 66, 67, 68, 69, 70, 71, 72, 73, 74, 75, 76, 77, 78, 79, 80, 81, 82, 83, 84, 85, 86, 87, 26, 88, 89, 90, 91, 92, 93, 94, 95, 96, 97, 98, 99, 100, 101, 102, 103, 104, 105, 27, 28, 106, 107, 108, 109, 110, 111, 112, 113, 114, 115, 116, 117, 118, 119, 120, 121, 122, 123, 124, 125, 126, 127, 128, 129, 130, 131, 132, 133, 134, 135, 136, 137, 138, 139, 140, 141, 142, 143, 144, 145, 146, 147, 148, 149, 150, 151, 152, 153, 154, 155, 156, 157, 158, 159, 160, 161, 162, 163, 164, 165, 166, 167, 168, 169, 170, 171, 172, 173, 174, 175, 176, 177, 178] rfl (by decide +kernel)
set_option maxRecDepth 20000 in
theorem gX12_often_X12_timesHeard : GoodIn wsX12_often (wsV RX12 475 RX12 yX12_timesHeard wsX12_timesHeard) := goodIn_app (goodIn_of _ (by decide +kernel)) ggX12_often_X12_timesHeard
def dsX12_often_0 : List (Nat × Instr × Nat) := [(0, (.aload_n 0, 1)), (1, (.iload_n 1, 1)), (2, (.invokevirtual 454, 3)), (5, (.ifCond .eq 14, 3)), (8, (.aload_n 0, 1)), (9, (.iload_n 2, 1)), (10, (.iconst 0, 1)), (11, (.bipush 60, 2)), (13, (.invokevirtual 465, 3)), (16, (.ifCond .ne 5, 3)), (19, (.iconst (-1), 1)), (20, (.ireturn, 1)), (21, (.aload_n 0, 1)), (22, (.iconst 1, 1)), (23, (.iconst 0, 1)), (24, (.invokevirtual 394, 3)), (27, (.aload_n 0, 1)), (28, (.iload_n 1, 1)), (29, (.iload_n 2, 1)), (30, (.invokevirtual 475, 3)), (33, (.ireturn, 1))]
theorem dsX12_often_0_ok : (dsX12_often_0.all fun q => decide (decode cX12_often q.1 = .ok q.2)) = true := by decide +kernel
theorem dX12_often_0 : decode cX12_often 0 = .ok (.aload_n 0, 1) := of_decide_eq_true (List.all_eq_true.mp dsX12_often_0_ok (0, (.aload_n 0, 1)) (List.mem_of_getElem? (i := 0) rfl))
theorem dX12_often_1 : decode cX12_often 1 = .ok (.iload_n 1, 1) := of_decide_eq_true (List.all_eq_true.mp dsX12_often_0_ok (1, (.iload_n 1, 1)) (List.mem_of_getElem? (i := 1) rfl))
theorem dX12_often_2 : decode cX12_often 2 = .ok (.invokevirtual 454, 3) := of_decide_eq_true (List.all_eq_true.mp dsX12_often_0_ok (2, (.invokevirtual 454, 3)) (List.mem_of_getElem? (i := 2) rfl))
theorem dX12_often_5 : decode cX12_often 5 = .ok (.ifCond .eq 14, 3) := of_decide_eq_true (List.all_eq_true.mp dsX12_often_0_ok (5, (.ifCond .eq 14, 3)) (List.mem_of_getElem? (i := 3) rfl))
theorem dX12_often_8 : decode cX12_often 8 = .ok (.aload_n 0, 1) := of_decide_eq_true (List.all_eq_true.mp dsX12_often_0_ok (8, (.aload_n 0, 1)) (List.mem_of_getElem? (i := 4) rfl))
theorem dX12_often_9 : decode cX12_often 9 = .ok (.iload_n 2, 1) := of_decide_eq_true (List.all_eq_true.mp dsX12_often_0_ok (9, (.iload_n 2, 1)) (List.mem_of_getElem? (i := 5) rfl))
theorem dX12_often_10 : decode cX12_often 10 = .ok (.iconst 0, 1) := of_decide_eq_true (List.all_eq_true.mp dsX12_often_0_ok (10, (.iconst 0, 1)) (List.mem_of_getElem? (i := 6) rfl))
theorem dX12_often_11 : decode cX12_often 11 = .ok (.bipush 60, 2) := of_decide_eq_true (List.all_eq_true.mp dsX12_often_0_ok (11, (.bipush 60, 2)) (List.mem_of_getElem? (i := 7) rfl))
theorem dX12_often_13 : decode cX12_often 13 = .ok (.invokevirtual 465, 3) := of_decide_eq_true (List.all_eq_true.mp dsX12_often_0_ok (13, (.invokevirtual 465, 3)) (List.mem_of_getElem? (i := 8) rfl))
theorem dX12_often_16 : decode cX12_often 16 = .ok (.ifCond .ne 5, 3) := of_decide_eq_true (List.all_eq_true.mp dsX12_often_0_ok (16, (.ifCond .ne 5, 3)) (List.mem_of_getElem? (i := 9) rfl))
theorem dX12_often_19 : decode cX12_often 19 = .ok (.iconst (-1), 1) := of_decide_eq_true (List.all_eq_true.mp dsX12_often_0_ok (19, (.iconst (-1), 1)) (List.mem_of_getElem? (i := 10) rfl))
theorem dX12_often_20 : decode cX12_often 20 = .ok (.ireturn, 1) := of_decide_eq_true (List.all_eq_true.mp dsX12_often_0_ok (20, (.ireturn, 1)) (List.mem_of_getElem? (i := 11) rfl))
theorem dX12_often_21 : decode cX12_often 21 = .ok (.aload_n 0, 1) := of_decide_eq_true (List.all_eq_true.mp dsX12_often_0_ok (21, (.aload_n 0, 1)) (List.mem_of_getElem? (i := 12) rfl))
theorem dX12_often_22 : decode cX12_often 22 = .ok (.iconst 1, 1) := of_decide_eq_true (List.all_eq_true.mp dsX12_often_0_ok (22, (.iconst 1, 1)) (List.mem_of_getElem? (i := 13) rfl))
theorem dX12_often_23 : decode cX12_often 23 = .ok (.iconst 0, 1) := of_decide_eq_true (List.all_eq_true.mp dsX12_often_0_ok (23, (.iconst 0, 1)) (List.mem_of_getElem? (i := 14) rfl))
theorem dX12_often_24 : decode cX12_often 24 = .ok (.invokevirtual 394, 3) := of_decide_eq_true (List.all_eq_true.mp dsX12_often_0_ok (24, (.invokevirtual 394, 3)) (List.mem_of_getElem? (i := 15) rfl))
theorem dX12_often_27 : decode cX12_often 27 = .ok (.aload_n 0, 1) := of_decide_eq_true (List.all_eq_true.mp dsX12_often_0_ok (27, (.aload_n 0, 1)) (List.mem_of_getElem? (i := 16) rfl))
theorem dX12_often_28 : decode cX12_often 28 = .ok (.iload_n 1, 1) := of_decide_eq_true (List.all_eq_true.mp dsX12_often_0_ok (28, (.iload_n 1, 1)) (List.mem_of_getElem? (i := 17) rfl))
theorem dX12_often_29 : decode cX12_often 29 = .ok (.iload_n 2, 1) := of_decide_eq_true (List.all_eq_true.mp dsX12_often_0_ok (29, (.iload_n 2, 1)) (List.mem_of_getElem? (i := 18) rfl))
theorem dX12_often_30 : decode cX12_often 30 = .ok (.invokevirtual 475, 3) := of_decide_eq_true (List.all_eq_true.mp dsX12_often_0_ok (30, (.invokevirtual 475, 3)) (List.mem_of_getElem? (i := 19) rfl))
theorem dX12_often_33 : decode cX12_often 33 = .ok (.ireturn, 1) := of_decide_eq_true (List.all_eq_true.mp dsX12_often_0_ok (33, (.ireturn, 1)) (List.mem_of_getElem? (i := 20) rfl))
def fX12_often (N : Nat) (mmI : Nat → Int32) (mm_earsF : Nat → Int32) (mm_nightOfF : Nat → Int32) (mm_mileOfF : Nat → Int32) (mm_roundsOfF : Nat → Int32) (mm_talkingOfF : Nat → Int32) (mm_hushOfF : Nat → Int32) (mm_rowOfF : Nat → Int32) (mm_keptManyF : Nat → Int32) (mm_talkOfF : Nat → Int32) (mm_keptRowF : Nat → Int32) (mm_sumFromF : Nat → Int32) (mm_askedF : Nat → Int32) (mm_sumBehindF : Nat → Int32) (mm_stackL : Nat → Int64) (mm_codeSortF : Nat → Int32) (mm_codeValueF : Nat → Int32) (mm_milesToldF : Nat → Int32) (mm_placesF : Nat → Int32) (mm_placeAtF : Nat → Int32) (mm_heardFromF : Nat → Int32) (mm_sharpOfF : Nat → Int32)  (p1 : Int32) (p2 : Int32) : Option (Int32 × (Nat → Int32) × (Nat → Int32) × (Nat → Int32) × (Nat → Int32) × (Nat → Int32) × (Nat → Int32) × (Nat → Int32) × (Nat → Int32) × (Nat → Int32) × (Nat → Int32) × (Nat → Int64) × (Nat → Int32)) :=
  (xq_bd (fX12_isEar N mmI mm_earsF p1) fun r_1 => (if r_1 = 0 then some (((-1), mm_nightOfF, mm_mileOfF, mm_roundsOfF, mm_talkingOfF, mm_hushOfF, mm_rowOfF, mm_keptManyF, mm_talkOfF, mm_keptRowF, mm_askedF, mm_stackL, mm_heardFromF)) else (xq_bd (fX12_isAhead N mmI mm_nightOfF p2 0 60) fun r_3 => (if r_3 = 0 then some (((-1), mm_nightOfF, mm_mileOfF, mm_roundsOfF, mm_talkingOfF, mm_hushOfF, mm_rowOfF, mm_keptManyF, mm_talkOfF, mm_keptRowF, mm_askedF, mm_stackL, mm_heardFromF)) else (xq_bd (fX12_copies N mm_nightOfF mm_mileOfF mm_roundsOfF mm_talkingOfF mm_hushOfF mm_rowOfF mm_keptManyF mm_talkOfF mm_keptRowF 1 0) fun (r_5_0, r_5_1, r_5_2, r_5_3, r_5_4, r_5_5, r_5_6, r_5_7, r_5_8) => (xq_bd (fX12_timesHeard N mmI r_5_4 r_5_3 mm_sumFromF r_5_0 mm_askedF r_5_1 r_5_2 mm_sumBehindF mm_stackL mm_codeSortF mm_codeValueF mm_milesToldF mm_placesF mm_placeAtF r_5_7 mm_earsF mm_heardFromF mm_sharpOfF r_5_5 r_5_6 r_5_8 p1 p2) fun (r_7_0, r_7_1, r_7_2, r_7_3, r_7_4, r_7_5, r_7_6, r_7_7, r_7_8, r_7_9) => some ((r_7_0, r_7_2, r_7_4, r_7_5, r_7_1, r_5_4, r_5_5, r_7_8, r_5_7, r_7_9, r_7_3, r_7_6, r_7_7))))))))
set_option maxHeartbeats 4000000 in
set_option maxRecDepth 100000 in
theorem kX12_often (l : Launch) (dC : Nat → ClassId) (dI : Nat → Nat → Nat) (cI cB cJ cZ cM : ClassId) (z : Nat) (ad : Nat → Nat) (N : Nat) (a_p0 : Nat) (mmI : Nat → Int32) (mmJ : Nat → Int64) (mmR : Nat → Nat) (mm_earsF : Nat → Int32) (mm_nightOfF : Nat → Int32) (mm_mileOfF : Nat → Int32) (mm_roundsOfF : Nat → Int32) (mm_talkingOfF : Nat → Int32) (mm_hushOfF : Nat → Int32) (mm_rowOfF : Nat → Int32) (mm_keptManyF : Nat → Int32) (mm_talkOfF : Nat → Int32) (mm_keptRowF : Nat → Int32) (mm_sumFromF : Nat → Int32) (mm_askedF : Nat → Int32) (mm_sumBehindF : Nat → Int32) (mm_stackL : Nat → Int64) (mm_codeSortF : Nat → Int32) (mm_codeValueF : Nat → Int32) (mm_milesToldF : Nat → Int32) (mm_placesF : Nat → Int32) (mm_placeAtF : Nat → Int32) (mm_heardFromF : Nat → Int32) (mm_sharpOfF : Nat → Int32) (p1 : Int32) (p2 : Int32) {r0 : Int32} {r1 : Nat → Int32} {r2 : Nat → Int32} {r3 : Nat → Int32} {r4 : Nat → Int32} {r5 : Nat → Int32} {r6 : Nat → Int32} {r7 : Nat → Int32} {r8 : Nat → Int32} {r9 : Nat → Int32} {r10 : Nat → Int32} {r11 : Nat → Int64} {r12 : Nat → Int32} (hf : fX12_often N mmI mm_earsF mm_nightOfF mm_mileOfF mm_roundsOfF mm_talkingOfF mm_hushOfF mm_rowOfF mm_keptManyF mm_talkOfF mm_keptRowF mm_sumFromF mm_askedF mm_sumBehindF mm_stackL mm_codeSortF mm_codeValueF mm_milesToldF mm_placesF mm_placeAtF mm_heardFromF mm_sharpOfF p1 p2 = some (r0, r1, r2, r3, r4, r5, r6, r7, r8, r9, r10, r11, r12)) : xq_Ct l yX12_often wsX12_often { frames := 8, cells := 0, slots := 0, locals := 191 } (dC, dI) vwCl (xq_tys cI cB cJ cZ cM) z ad [.ref a_p0, .int p1, .int p2] [(a_p0, .inr (12, oX12 mmI mmJ mmR)), ((mmR 18), .inl (cI, 2, .inl mm_earsF)), ((mmR 45), .inl (cI, 22, .inl mm_nightOfF)), ((mmR 46), .inl (cI, 22, .inl mm_mileOfF)), ((mmR 47), .inl (cI, 22, .inl mm_roundsOfF)), ((mmR 48), .inl (cI, 22, .inl mm_talkingOfF)), ((mmR 49), .inl (cI, 22, .inl mm_hushOfF)), ((mmR 50), .inl (cI, 154, .inl mm_rowOfF)), ((mmR 52), .inl (cI, 22, .inl mm_keptManyF)), ((mmR 51), .inl (cI, 132, .inl mm_talkOfF)), ((mmR 53), .inl (cI, 2640, .inl mm_keptRowF)), ((mmR 24), .inl (cI, 6, .inl mm_sumFromF)), ((mmR 58), .inl (cI, 12, .inl mm_askedF)), ((mmR 25), .inl (cI, 6, .inl mm_sumBehindF)), ((mmR 57), .inl (cJ, 500, .inr (.inl mm_stackL))), ((mmR 26), .inl (cI, 3200, .inl mm_codeSortF)), ((mmR 27), .inl (cI, 3200, .inl mm_codeValueF)), ((mmR 14), .inl (cI, 2, .inl mm_milesToldF)), ((mmR 21), .inl (cI, 2, .inl mm_placesF)), ((mmR 22), .inl (cI, 12, .inl mm_placeAtF)), ((mmR 59), .inl (cI, 70, .inl mm_heardFromF)), ((mmR 20), .inl (cI, 14, .inl mm_sharpOfF))] [(a_p0, .inr (12, oX12 mmI mmJ mmR)), ((mmR 18), .inl (cI, 2, .inl mm_earsF)), ((mmR 45), .inl (cI, 22, .inl r1)), ((mmR 46), .inl (cI, 22, .inl r2)), ((mmR 47), .inl (cI, 22, .inl r3)), ((mmR 48), .inl (cI, 22, .inl r4)), ((mmR 49), .inl (cI, 22, .inl r5)), ((mmR 50), .inl (cI, 154, .inl r6)), ((mmR 52), .inl (cI, 22, .inl r7)), ((mmR 51), .inl (cI, 132, .inl r8)), ((mmR 53), .inl (cI, 2640, .inl r9)), ((mmR 24), .inl (cI, 6, .inl mm_sumFromF)), ((mmR 58), .inl (cI, 12, .inl r10)), ((mmR 25), .inl (cI, 6, .inl mm_sumBehindF)), ((mmR 57), .inl (cJ, 500, .inr (.inl r11))), ((mmR 26), .inl (cI, 3200, .inl mm_codeSortF)), ((mmR 27), .inl (cI, 3200, .inl mm_codeValueF)), ((mmR 14), .inl (cI, 2, .inl mm_milesToldF)), ((mmR 21), .inl (cI, 2, .inl mm_placesF)), ((mmR 22), .inl (cI, 12, .inl mm_placeAtF)), ((mmR 59), .inl (cI, 70, .inl r12)), ((mmR 20), .inl (cI, 14, .inl mm_sharpOfF))] (some (.int r0)) := by
  intro sz
  refine Met.ofW (cc := cX12_often) (maxL := 3) (ret := (some .int)) (by decide) rfl ?_
  intro p e s m args below meth c s₁ B hml hv
  obtain ⟨rfl, hsz, hP, hK, hD0, hE, hz⟩ := hv
  have hx := B.exec
  have hb := B.bytes
  have hr := B.returns
  have hts := atoms_spec (ws := wsX12_often) B.pre
  have hown : s.vm.findClass RX12 = some m.cls := findClass_of_methodNamed B.named
  have hlocks := B.notSynchronized
  subst hsz
  have hD := hD0.self (sz := s.heap.size)
  have hN := xq_Env.of hE hz hD0
  generalize hAe : va_A [(a_p0, .inr (12, oX12 mmI mmJ mmR)), ((mmR 18), .inl (cI, 2, .inl mm_earsF)), ((mmR 45), .inl (cI, 22, .inl mm_nightOfF)), ((mmR 46), .inl (cI, 22, .inl mm_mileOfF)), ((mmR 47), .inl (cI, 22, .inl mm_roundsOfF)), ((mmR 48), .inl (cI, 22, .inl mm_talkingOfF)), ((mmR 49), .inl (cI, 22, .inl mm_hushOfF)), ((mmR 50), .inl (cI, 154, .inl mm_rowOfF)), ((mmR 52), .inl (cI, 22, .inl mm_keptManyF)), ((mmR 51), .inl (cI, 132, .inl mm_talkOfF)), ((mmR 53), .inl (cI, 2640, .inl mm_keptRowF)), ((mmR 24), .inl (cI, 6, .inl mm_sumFromF)), ((mmR 58), .inl (cI, 12, .inl mm_askedF)), ((mmR 25), .inl (cI, 6, .inl mm_sumBehindF)), ((mmR 57), .inl (cJ, 500, .inr (.inl mm_stackL))), ((mmR 26), .inl (cI, 3200, .inl mm_codeSortF)), ((mmR 27), .inl (cI, 3200, .inl mm_codeValueF)), ((mmR 14), .inl (cI, 2, .inl mm_milesToldF)), ((mmR 21), .inl (cI, 2, .inl mm_placesF)), ((mmR 22), .inl (cI, 12, .inl mm_placeAtF)), ((mmR 59), .inl (cI, 70, .inl mm_heardFromF)), ((mmR 20), .inl (cI, 14, .inl mm_sharpOfF))] s.heap.size = A at hD hN ⊢
  have hA : ∀ q : Nat, s.heap.size ≤ q → A q := fun q h => by rw [← hAe]; exact Or.inr h
  clear hAe hD0
  have hS : va_S A s.heap s.heap [] := va_S.rf
  have hl := lv_entry ([.ref a_p0, .int p1, .int p2]) (n := 3) (Nat.le_of_ble_eq_true rfl)
  rw [lg_entry_eq]
  generalize (lg_sl ([.ref a_p0, .int p1, .int p2]) ++ List.replicate (3 - (lg_sl ([.ref a_p0, .int p1, .int p2])).length) Slot.unset).toArray = ls at hl ⊢
  have hl : lv_has ls 3 [(0, .ref a_p0), (1, .int p1), (2, .int p2)] := hl
  unfold fX12_often at hf
  refine lv_aload_n hx hb dX12_often_0 rfl (lv_at hl 0 rfl) ?_
  refine lv_iload_n hx hb dX12_often_1 rfl (lv_at hl 1 rfl) ?_
  obtain ⟨r_1, h_2, hf⟩ := xq_bd_some hf
  refine xq_callV (As := [.int p1]) (rest := []) (ci := 12) (q0 := 0) ⟨hx, hb, hml, hown, hts⟩ (kX12_isEar l dC dI cI cB cJ cZ cM z ad N a_p0 mmI mmJ mmR mm_earsF p1 h_2) (cwV 1 hts gX12_often_X12_isEar rfl rfl rfl (by decide +kernel) ⟨Nat.le_of_ble_eq_true rfl, Nat.le_of_ble_eq_true rfl⟩) hN hK hP hD hS hA [0, 1] (by decide) rfl rfl rfl rfl rfl rfl hl.1 rfl (Nat.le_of_ble_eq_true rfl) dX12_often_2 ⟨Nat.zero_le _, Nat.zero_le _⟩ (fun H locs hP hD hS => ?_)
  have hP : va_P (dC, dI) vwCl [(a_p0, .inr (12, oX12 mmI mmJ mmR)), ((mmR 18), .inl (cI, 2, .inl mm_earsF)), ((mmR 45), .inl (cI, 22, .inl mm_nightOfF)), ((mmR 46), .inl (cI, 22, .inl mm_mileOfF)), ((mmR 47), .inl (cI, 22, .inl mm_roundsOfF)), ((mmR 48), .inl (cI, 22, .inl mm_talkingOfF)), ((mmR 49), .inl (cI, 22, .inl mm_hushOfF)), ((mmR 50), .inl (cI, 154, .inl mm_rowOfF)), ((mmR 52), .inl (cI, 22, .inl mm_keptManyF)), ((mmR 51), .inl (cI, 132, .inl mm_talkOfF)), ((mmR 53), .inl (cI, 2640, .inl mm_keptRowF)), ((mmR 24), .inl (cI, 6, .inl mm_sumFromF)), ((mmR 58), .inl (cI, 12, .inl mm_askedF)), ((mmR 25), .inl (cI, 6, .inl mm_sumBehindF)), ((mmR 57), .inl (cJ, 500, .inr (.inl mm_stackL))), ((mmR 26), .inl (cI, 3200, .inl mm_codeSortF)), ((mmR 27), .inl (cI, 3200, .inl mm_codeValueF)), ((mmR 14), .inl (cI, 2, .inl mm_milesToldF)), ((mmR 21), .inl (cI, 2, .inl mm_placesF)), ((mmR 22), .inl (cI, 12, .inl mm_placeAtF)), ((mmR 59), .inl (cI, 70, .inl mm_heardFromF)), ((mmR 20), .inl (cI, 14, .inl mm_sharpOfF))] H := hP
  have hD : va_D A [(a_p0, .inr (12, oX12 mmI mmJ mmR)), ((mmR 18), .inl (cI, 2, .inl mm_earsF)), ((mmR 45), .inl (cI, 22, .inl mm_nightOfF)), ((mmR 46), .inl (cI, 22, .inl mm_mileOfF)), ((mmR 47), .inl (cI, 22, .inl mm_roundsOfF)), ((mmR 48), .inl (cI, 22, .inl mm_talkingOfF)), ((mmR 49), .inl (cI, 22, .inl mm_hushOfF)), ((mmR 50), .inl (cI, 154, .inl mm_rowOfF)), ((mmR 52), .inl (cI, 22, .inl mm_keptManyF)), ((mmR 51), .inl (cI, 132, .inl mm_talkOfF)), ((mmR 53), .inl (cI, 2640, .inl mm_keptRowF)), ((mmR 24), .inl (cI, 6, .inl mm_sumFromF)), ((mmR 58), .inl (cI, 12, .inl mm_askedF)), ((mmR 25), .inl (cI, 6, .inl mm_sumBehindF)), ((mmR 57), .inl (cJ, 500, .inr (.inl mm_stackL))), ((mmR 26), .inl (cI, 3200, .inl mm_codeSortF)), ((mmR 27), .inl (cI, 3200, .inl mm_codeValueF)), ((mmR 14), .inl (cI, 2, .inl mm_milesToldF)), ((mmR 21), .inl (cI, 2, .inl mm_placesF)), ((mmR 22), .inl (cI, 12, .inl mm_placeAtF)), ((mmR 59), .inl (cI, 70, .inl mm_heardFromF)), ((mmR 20), .inl (cI, 14, .inl mm_sharpOfF))] := hD
  refine W.eq (g2 := F0 m 5 ls [.int r_1]) rfl ?_
  refine lv_if_eq (tgt := 19) hx hb dX12_often_5 (by decide) (fun c_ => ?_) (fun c_ => ?_)
  · have hf := xq_pos hf c_
    refine lv_iconst (v := (-1)) hx hb dX12_often_19 (by decide) ?_
    have e9 := Option.some.inj hf
    have e9_0 : (-1) = r0 := congrArg (fun t => t.1) e9
    have e9_1 : mm_nightOfF = r1 := congrArg (fun t => t.2.1) e9
    have e9_2 : mm_mileOfF = r2 := congrArg (fun t => t.2.2.1) e9
    have e9_3 : mm_roundsOfF = r3 := congrArg (fun t => t.2.2.2.1) e9
    have e9_4 : mm_talkingOfF = r4 := congrArg (fun t => t.2.2.2.2.1) e9
    have e9_5 : mm_hushOfF = r5 := congrArg (fun t => t.2.2.2.2.2.1) e9
    have e9_6 : mm_rowOfF = r6 := congrArg (fun t => t.2.2.2.2.2.2.1) e9
    have e9_7 : mm_keptManyF = r7 := congrArg (fun t => t.2.2.2.2.2.2.2.1) e9
    have e9_8 : mm_talkOfF = r8 := congrArg (fun t => t.2.2.2.2.2.2.2.2.1) e9
    have e9_9 : mm_keptRowF = r9 := congrArg (fun t => t.2.2.2.2.2.2.2.2.2.1) e9
    have e9_10 : mm_askedF = r10 := congrArg (fun t => t.2.2.2.2.2.2.2.2.2.2.1) e9
    have e9_11 : mm_stackL = r11 := congrArg (fun t => t.2.2.2.2.2.2.2.2.2.2.2.1) e9
    have e9_12 : mm_heardFromF = r12 := congrArg (fun t => t.2.2.2.2.2.2.2.2.2.2.2.2) e9
    clear e9 hf
    subst e9_0
    subst e9_1
    subst e9_2
    subst e9_3
    subst e9_4
    subst e9_5
    subst e9_6
    subst e9_7
    subst e9_8
    subst e9_9
    subst e9_10
    subst e9_11
    subst e9_12
    exact xq_iret hx hb hr hlocks hK hP hD hS dX12_often_20
  · have hf := xq_neg hf c_
    refine lv_aload_n hx hb dX12_often_8 rfl (lv_at hl 0 rfl) ?_
    refine lv_iload_n hx hb dX12_often_9 rfl (lv_at hl 2 rfl) ?_
    refine lv_iconst (v := 0) hx hb dX12_often_10 (by decide) ?_
    refine lv_bipush (v := 60) hx hb dX12_often_11 (by decide) ?_
    obtain ⟨r_3, h_4, hf⟩ := xq_bd_some hf
    refine xq_callV (As := [.int p2, .int 0, .int 60]) (rest := []) (ci := 12) (q0 := 0) ⟨hx, hb, hml, hown, hts⟩ (kX12_isAhead l dC dI cI cB cJ cZ cM z ad N a_p0 mmI mmJ mmR mm_nightOfF p2 0 60 h_4) (cwV 3 hts gX12_often_X12_isAhead rfl rfl rfl (by decide +kernel) ⟨Nat.le_of_ble_eq_true rfl, Nat.le_of_ble_eq_true rfl⟩) hN hK hP hD hS hA [0, 2] (by decide) rfl rfl rfl rfl rfl rfl hl.1 rfl (Nat.le_of_ble_eq_true rfl) dX12_often_13 ⟨Nat.zero_le _, Nat.zero_le _⟩ (fun H locs hP hD hS => ?_)
    have hP : va_P (dC, dI) vwCl [(a_p0, .inr (12, oX12 mmI mmJ mmR)), ((mmR 18), .inl (cI, 2, .inl mm_earsF)), ((mmR 45), .inl (cI, 22, .inl mm_nightOfF)), ((mmR 46), .inl (cI, 22, .inl mm_mileOfF)), ((mmR 47), .inl (cI, 22, .inl mm_roundsOfF)), ((mmR 48), .inl (cI, 22, .inl mm_talkingOfF)), ((mmR 49), .inl (cI, 22, .inl mm_hushOfF)), ((mmR 50), .inl (cI, 154, .inl mm_rowOfF)), ((mmR 52), .inl (cI, 22, .inl mm_keptManyF)), ((mmR 51), .inl (cI, 132, .inl mm_talkOfF)), ((mmR 53), .inl (cI, 2640, .inl mm_keptRowF)), ((mmR 24), .inl (cI, 6, .inl mm_sumFromF)), ((mmR 58), .inl (cI, 12, .inl mm_askedF)), ((mmR 25), .inl (cI, 6, .inl mm_sumBehindF)), ((mmR 57), .inl (cJ, 500, .inr (.inl mm_stackL))), ((mmR 26), .inl (cI, 3200, .inl mm_codeSortF)), ((mmR 27), .inl (cI, 3200, .inl mm_codeValueF)), ((mmR 14), .inl (cI, 2, .inl mm_milesToldF)), ((mmR 21), .inl (cI, 2, .inl mm_placesF)), ((mmR 22), .inl (cI, 12, .inl mm_placeAtF)), ((mmR 59), .inl (cI, 70, .inl mm_heardFromF)), ((mmR 20), .inl (cI, 14, .inl mm_sharpOfF))] H := hP
    have hD : va_D A [(a_p0, .inr (12, oX12 mmI mmJ mmR)), ((mmR 18), .inl (cI, 2, .inl mm_earsF)), ((mmR 45), .inl (cI, 22, .inl mm_nightOfF)), ((mmR 46), .inl (cI, 22, .inl mm_mileOfF)), ((mmR 47), .inl (cI, 22, .inl mm_roundsOfF)), ((mmR 48), .inl (cI, 22, .inl mm_talkingOfF)), ((mmR 49), .inl (cI, 22, .inl mm_hushOfF)), ((mmR 50), .inl (cI, 154, .inl mm_rowOfF)), ((mmR 52), .inl (cI, 22, .inl mm_keptManyF)), ((mmR 51), .inl (cI, 132, .inl mm_talkOfF)), ((mmR 53), .inl (cI, 2640, .inl mm_keptRowF)), ((mmR 24), .inl (cI, 6, .inl mm_sumFromF)), ((mmR 58), .inl (cI, 12, .inl mm_askedF)), ((mmR 25), .inl (cI, 6, .inl mm_sumBehindF)), ((mmR 57), .inl (cJ, 500, .inr (.inl mm_stackL))), ((mmR 26), .inl (cI, 3200, .inl mm_codeSortF)), ((mmR 27), .inl (cI, 3200, .inl mm_codeValueF)), ((mmR 14), .inl (cI, 2, .inl mm_milesToldF)), ((mmR 21), .inl (cI, 2, .inl mm_placesF)), ((mmR 22), .inl (cI, 12, .inl mm_placeAtF)), ((mmR 59), .inl (cI, 70, .inl mm_heardFromF)), ((mmR 20), .inl (cI, 14, .inl mm_sharpOfF))] := hD
    refine W.eq (g2 := F0 m 16 ls [.int r_3]) rfl ?_
    refine lv_if_ne (tgt := 21) hx hb dX12_often_16 (by decide) (fun c_ => ?_) (fun c_ => ?_)
    · have hf := xq_neg hf c_
      refine lv_aload_n hx hb dX12_often_21 rfl (lv_at hl 0 rfl) ?_
      refine lv_iconst (v := 1) hx hb dX12_often_22 (by decide) ?_
      refine lv_iconst (v := 0) hx hb dX12_often_23 (by decide) ?_
      obtain ⟨⟨r_5_0, r_5_1, r_5_2, r_5_3, r_5_4, r_5_5, r_5_6, r_5_7, r_5_8⟩, h_6, hf⟩ := xq_bd_some hf
      refine xq_callV (As := [.int 1, .int 0]) (rest := []) (ci := 12) (q0 := 0) ⟨hx, hb, hml, hown, hts⟩ (kX12_copies l dC dI cI cB cJ cZ cM z ad N a_p0 mmI mmJ mmR mm_nightOfF mm_mileOfF mm_roundsOfF mm_talkingOfF mm_hushOfF mm_rowOfF mm_keptManyF mm_talkOfF mm_keptRowF 1 0 h_6) (cwV 2 hts gX12_often_X12_copies rfl rfl rfl (by decide +kernel) ⟨Nat.le_of_ble_eq_true rfl, Nat.le_of_ble_eq_true rfl⟩) hN hK hP hD hS hA [0, 2, 3, 4, 5, 6, 7, 8, 9, 10] (by decide) rfl rfl rfl rfl rfl rfl hl.1 rfl (Nat.le_of_ble_eq_true rfl) dX12_often_24 ⟨Nat.zero_le _, Nat.zero_le _⟩ (fun H locs hP hD hS => ?_)
      have hP : va_P (dC, dI) vwCl [(a_p0, .inr (12, oX12 mmI mmJ mmR)), ((mmR 18), .inl (cI, 2, .inl mm_earsF)), ((mmR 45), .inl (cI, 22, .inl r_5_0)), ((mmR 46), .inl (cI, 22, .inl r_5_1)), ((mmR 47), .inl (cI, 22, .inl r_5_2)), ((mmR 48), .inl (cI, 22, .inl r_5_3)), ((mmR 49), .inl (cI, 22, .inl r_5_4)), ((mmR 50), .inl (cI, 154, .inl r_5_5)), ((mmR 52), .inl (cI, 22, .inl r_5_6)), ((mmR 51), .inl (cI, 132, .inl r_5_7)), ((mmR 53), .inl (cI, 2640, .inl r_5_8)), ((mmR 24), .inl (cI, 6, .inl mm_sumFromF)), ((mmR 58), .inl (cI, 12, .inl mm_askedF)), ((mmR 25), .inl (cI, 6, .inl mm_sumBehindF)), ((mmR 57), .inl (cJ, 500, .inr (.inl mm_stackL))), ((mmR 26), .inl (cI, 3200, .inl mm_codeSortF)), ((mmR 27), .inl (cI, 3200, .inl mm_codeValueF)), ((mmR 14), .inl (cI, 2, .inl mm_milesToldF)), ((mmR 21), .inl (cI, 2, .inl mm_placesF)), ((mmR 22), .inl (cI, 12, .inl mm_placeAtF)), ((mmR 59), .inl (cI, 70, .inl mm_heardFromF)), ((mmR 20), .inl (cI, 14, .inl mm_sharpOfF))] H := hP
      have hD : va_D A [(a_p0, .inr (12, oX12 mmI mmJ mmR)), ((mmR 18), .inl (cI, 2, .inl mm_earsF)), ((mmR 45), .inl (cI, 22, .inl r_5_0)), ((mmR 46), .inl (cI, 22, .inl r_5_1)), ((mmR 47), .inl (cI, 22, .inl r_5_2)), ((mmR 48), .inl (cI, 22, .inl r_5_3)), ((mmR 49), .inl (cI, 22, .inl r_5_4)), ((mmR 50), .inl (cI, 154, .inl r_5_5)), ((mmR 52), .inl (cI, 22, .inl r_5_6)), ((mmR 51), .inl (cI, 132, .inl r_5_7)), ((mmR 53), .inl (cI, 2640, .inl r_5_8)), ((mmR 24), .inl (cI, 6, .inl mm_sumFromF)), ((mmR 58), .inl (cI, 12, .inl mm_askedF)), ((mmR 25), .inl (cI, 6, .inl mm_sumBehindF)), ((mmR 57), .inl (cJ, 500, .inr (.inl mm_stackL))), ((mmR 26), .inl (cI, 3200, .inl mm_codeSortF)), ((mmR 27), .inl (cI, 3200, .inl mm_codeValueF)), ((mmR 14), .inl (cI, 2, .inl mm_milesToldF)), ((mmR 21), .inl (cI, 2, .inl mm_placesF)), ((mmR 22), .inl (cI, 12, .inl mm_placeAtF)), ((mmR 59), .inl (cI, 70, .inl mm_heardFromF)), ((mmR 20), .inl (cI, 14, .inl mm_sharpOfF))] := hD
      refine W.eq (g2 := F0 m 27 ls []) rfl ?_
      refine lv_aload_n hx hb dX12_often_27 rfl (lv_at hl 0 rfl) ?_
      refine lv_iload_n hx hb dX12_often_28 rfl (lv_at hl 1 rfl) ?_
      refine lv_iload_n hx hb dX12_often_29 rfl (lv_at hl 2 rfl) ?_
      obtain ⟨⟨r_7_0, r_7_1, r_7_2, r_7_3, r_7_4, r_7_5, r_7_6, r_7_7, r_7_8, r_7_9⟩, h_8, hf⟩ := xq_bd_some hf
      refine xq_callV (As := [.int p1, .int p2]) (rest := []) (ci := 12) (q0 := 0) ⟨hx, hb, hml, hown, hts⟩ (kX12_timesHeard l dC dI cI cB cJ cZ cM z ad N a_p0 mmI mmJ mmR r_5_4 r_5_3 mm_sumFromF r_5_0 mm_askedF r_5_1 r_5_2 mm_sumBehindF mm_stackL mm_codeSortF mm_codeValueF mm_milesToldF mm_placesF mm_placeAtF r_5_7 mm_earsF mm_heardFromF mm_sharpOfF r_5_5 r_5_6 r_5_8 p1 p2 h_8) (cwV 2 hts gX12_often_X12_timesHeard rfl rfl rfl (by decide +kernel) ⟨Nat.le_of_ble_eq_true rfl, Nat.le_of_ble_eq_true rfl⟩) hN hK hP hD hS hA [0, 6, 5, 11, 2, 12, 3, 4, 13, 14, 15, 16, 17, 18, 19, 9, 1, 20, 21, 7, 8, 10] (by decide) rfl rfl rfl rfl rfl rfl hl.1 rfl (Nat.le_of_ble_eq_true rfl) dX12_often_30 ⟨Nat.zero_le _, Nat.zero_le _⟩ (fun H locs hP hD hS => ?_)
      have hP : va_P (dC, dI) vwCl [(a_p0, .inr (12, oX12 mmI mmJ mmR)), ((mmR 18), .inl (cI, 2, .inl mm_earsF)), ((mmR 45), .inl (cI, 22, .inl r_7_2)), ((mmR 46), .inl (cI, 22, .inl r_7_4)), ((mmR 47), .inl (cI, 22, .inl r_7_5)), ((mmR 48), .inl (cI, 22, .inl r_7_1)), ((mmR 49), .inl (cI, 22, .inl r_5_4)), ((mmR 50), .inl (cI, 154, .inl r_5_5)), ((mmR 52), .inl (cI, 22, .inl r_7_8)), ((mmR 51), .inl (cI, 132, .inl r_5_7)), ((mmR 53), .inl (cI, 2640, .inl r_7_9)), ((mmR 24), .inl (cI, 6, .inl mm_sumFromF)), ((mmR 58), .inl (cI, 12, .inl r_7_3)), ((mmR 25), .inl (cI, 6, .inl mm_sumBehindF)), ((mmR 57), .inl (cJ, 500, .inr (.inl r_7_6))), ((mmR 26), .inl (cI, 3200, .inl mm_codeSortF)), ((mmR 27), .inl (cI, 3200, .inl mm_codeValueF)), ((mmR 14), .inl (cI, 2, .inl mm_milesToldF)), ((mmR 21), .inl (cI, 2, .inl mm_placesF)), ((mmR 22), .inl (cI, 12, .inl mm_placeAtF)), ((mmR 59), .inl (cI, 70, .inl r_7_7)), ((mmR 20), .inl (cI, 14, .inl mm_sharpOfF))] H := hP
      have hD : va_D A [(a_p0, .inr (12, oX12 mmI mmJ mmR)), ((mmR 18), .inl (cI, 2, .inl mm_earsF)), ((mmR 45), .inl (cI, 22, .inl r_7_2)), ((mmR 46), .inl (cI, 22, .inl r_7_4)), ((mmR 47), .inl (cI, 22, .inl r_7_5)), ((mmR 48), .inl (cI, 22, .inl r_7_1)), ((mmR 49), .inl (cI, 22, .inl r_5_4)), ((mmR 50), .inl (cI, 154, .inl r_5_5)), ((mmR 52), .inl (cI, 22, .inl r_7_8)), ((mmR 51), .inl (cI, 132, .inl r_5_7)), ((mmR 53), .inl (cI, 2640, .inl r_7_9)), ((mmR 24), .inl (cI, 6, .inl mm_sumFromF)), ((mmR 58), .inl (cI, 12, .inl r_7_3)), ((mmR 25), .inl (cI, 6, .inl mm_sumBehindF)), ((mmR 57), .inl (cJ, 500, .inr (.inl r_7_6))), ((mmR 26), .inl (cI, 3200, .inl mm_codeSortF)), ((mmR 27), .inl (cI, 3200, .inl mm_codeValueF)), ((mmR 14), .inl (cI, 2, .inl mm_milesToldF)), ((mmR 21), .inl (cI, 2, .inl mm_placesF)), ((mmR 22), .inl (cI, 12, .inl mm_placeAtF)), ((mmR 59), .inl (cI, 70, .inl r_7_7)), ((mmR 20), .inl (cI, 14, .inl mm_sharpOfF))] := hD
      refine W.eq (g2 := F0 m 33 ls [.int r_7_0]) rfl ?_
      have e9 := Option.some.inj hf
      have e9_0 : r_7_0 = r0 := congrArg (fun t => t.1) e9
      have e9_1 : r_7_2 = r1 := congrArg (fun t => t.2.1) e9
      have e9_2 : r_7_4 = r2 := congrArg (fun t => t.2.2.1) e9
      have e9_3 : r_7_5 = r3 := congrArg (fun t => t.2.2.2.1) e9
      have e9_4 : r_7_1 = r4 := congrArg (fun t => t.2.2.2.2.1) e9
      have e9_5 : r_5_4 = r5 := congrArg (fun t => t.2.2.2.2.2.1) e9
      have e9_6 : r_5_5 = r6 := congrArg (fun t => t.2.2.2.2.2.2.1) e9
      have e9_7 : r_7_8 = r7 := congrArg (fun t => t.2.2.2.2.2.2.2.1) e9
      have e9_8 : r_5_7 = r8 := congrArg (fun t => t.2.2.2.2.2.2.2.2.1) e9
      have e9_9 : r_7_9 = r9 := congrArg (fun t => t.2.2.2.2.2.2.2.2.2.1) e9
      have e9_10 : r_7_3 = r10 := congrArg (fun t => t.2.2.2.2.2.2.2.2.2.2.1) e9
      have e9_11 : r_7_6 = r11 := congrArg (fun t => t.2.2.2.2.2.2.2.2.2.2.2.1) e9
      have e9_12 : r_7_7 = r12 := congrArg (fun t => t.2.2.2.2.2.2.2.2.2.2.2.2) e9
      clear e9 hf
      subst e9_0
      subst e9_1
      subst e9_2
      subst e9_3
      subst e9_4
      subst e9_5
      subst e9_6
      subst e9_7
      subst e9_8
      subst e9_9
      subst e9_10
      subst e9_11
      subst e9_12
      exact xq_iret hx hb hr hlocks hK hP hD hS dX12_often_33
    · have hf := xq_pos hf c_
      refine lv_iconst (v := (-1)) hx hb dX12_often_19 (by decide) ?_
      have e9 := Option.some.inj hf
      have e9_0 : (-1) = r0 := congrArg (fun t => t.1) e9
      have e9_1 : mm_nightOfF = r1 := congrArg (fun t => t.2.1) e9
      have e9_2 : mm_mileOfF = r2 := congrArg (fun t => t.2.2.1) e9
      have e9_3 : mm_roundsOfF = r3 := congrArg (fun t => t.2.2.2.1) e9
      have e9_4 : mm_talkingOfF = r4 := congrArg (fun t => t.2.2.2.2.1) e9
      have e9_5 : mm_hushOfF = r5 := congrArg (fun t => t.2.2.2.2.2.1) e9
      have e9_6 : mm_rowOfF = r6 := congrArg (fun t => t.2.2.2.2.2.2.1) e9
      have e9_7 : mm_keptManyF = r7 := congrArg (fun t => t.2.2.2.2.2.2.2.1) e9
      have e9_8 : mm_talkOfF = r8 := congrArg (fun t => t.2.2.2.2.2.2.2.2.1) e9
      have e9_9 : mm_keptRowF = r9 := congrArg (fun t => t.2.2.2.2.2.2.2.2.2.1) e9
      have e9_10 : mm_askedF = r10 := congrArg (fun t => t.2.2.2.2.2.2.2.2.2.2.1) e9
      have e9_11 : mm_stackL = r11 := congrArg (fun t => t.2.2.2.2.2.2.2.2.2.2.2.1) e9
      have e9_12 : mm_heardFromF = r12 := congrArg (fun t => t.2.2.2.2.2.2.2.2.2.2.2.2) e9
      clear e9 hf
      subst e9_0
      subst e9_1
      subst e9_2
      subst e9_3
      subst e9_4
      subst e9_5
      subst e9_6
      subst e9_7
      subst e9_8
      subst e9_9
      subst e9_10
      subst e9_11
      subst e9_12
      exact xq_iret hx hb hr hlocks hK hP hD hS dX12_often_20
