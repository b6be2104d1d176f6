set_option maxRecDepth 20000 in
theorem ggX10_ownWord_J0_length_8abf5 : GoodIn wsX10_ownWord wsJ0_length_8abf5 := goodIn_r _ [6, 7, 8, 9, 10, 5, 11, 12, 13] rfl (by decide +kernel)
set_option maxRecDepth 20000 in
theorem gX10_ownWord_J0_length_8abf5 : GoodIn wsX10_ownWord (wsV RX10 92 RJ0 yJ0_length_8abf5 wsJ0_length_8abf5) := goodIn_app (goodIn_of _ (by decide +kernel)) ggX10_ownWord_J0_length_8abf5
set_option maxRecDepth 20000 in
theorem ggX10_ownWord_J0_charAt_5068e : GoodIn wsX10_ownWord wsJ0_charAt_5068e := goodIn_r _ [17, 7, 18, 19, 20, 5, 21, 12, 13, 22, 23, 24, 25, 26, 27, 28, 29, 30, 31, 32, 33, 34, 35, 36, 37, 38, 39, 40, 41, 42, 43, 44, 45, 46, 47, 48, 49, 50] rfl (by decide +kernel)
set_option maxRecDepth 20000 in
theorem gX10_ownWord_J0_charAt_5068e : GoodIn wsX10_ownWord (wsV RX10 95 RJ0 yJ0_charAt_5068e wsJ0_charAt_5068e) := goodIn_app (goodIn_of _ (by decide +kernel)) ggX10_ownWord_J0_charAt_5068e
set_option maxRecDepth 20000 in
theorem ggX10_ownWord_X9_at : GoodIn wsX10_ownWord wsX9_at := goodIn_r _ [55, 56, 57, 66, 67] rfl (by decide +kernel)
set_option maxRecDepth 20000 in
theorem gX10_ownWord_X9_at : GoodIn wsX10_ownWord (wsV RX10 43 RX9 yX9_at wsX9_at) := goodIn_app (goodIn_of _ (by decide +kernel)) ggX10_ownWord_X9_at
def dsX10_ownWord_0 : List (Nat × Instr × Nat) := [(0, (.iconst 0, 1)), (1, (.istore_n 3, 1)), (2, (.iload_n 1, 1)), (3, (.istore 4, 2)), (5, (.iconst 1, 1)), (6, (.istore 5, 2)), (8, (.iconst 0, 1)), (9, (.istore 6, 2)), (11, (.iload 6, 2)), (13, (.ldc 90, 2)), (15, (.invokevirtual 92, 3)), (18, (.if_icmp .ge 85, 3)), (21, (.ldc 90, 2)), (23, (.iload 6, 2)), (25, (.invokevirtual 95, 3)), (28, (.istore 7, 2)), (30, (.iload 7, 2)), (32, (.bipush 32, 2)), (34, (.if_icmp .eq 41, 3)), (37, (.iload 5, 2)), (39, (.ifCond .eq 27, 3)), (42, (.iload 4, 2)), (44, (.iload_n 2, 1)), (45, (.if_icmp .ge 21, 3)), (48, (.aload_n 0, 1)), (49, (.getfield 24, 3)), (52, (.iload 4, 2)), (54, (.invokevirtual 43, 3)), (57, (.iload 7, 2)), (59, (.if_icmp .ne 7, 3)), (62, (.iconst 1, 1)), (63, (.goto 4, 3)), (66, (.iconst 0, 1)), (67, (.istore 5, 2)), (69, (.iinc 4 1, 3)), (72, (.goto 25, 3)), (75, (.iload 5, 2)), (77, (.ifCond .eq 11, 3)), (80, (.iload 4, 2)), (82, (.iload_n 2, 1)), (83, (.if_icmp .ne 5, 3)), (86, (.iload_n 3, 1)), (87, (.ireturn, 1)), (88, (.iinc 3 1, 3)), (91, (.iload_n 1, 1)), (92, (.istore 4, 2)), (94, (.iconst 1, 1)), (95, (.istore 5, 2)), (97, (.iinc 6 1, 3)), (100, (.goto (-89), 3)), (103, (.iconst (-1), 1)), (104, (.ireturn, 1))]
theorem dsX10_ownWord_0_ok : (dsX10_ownWord_0.all fun q => decide (decode cX10_ownWord q.1 = .ok q.2)) = true := by decide +kernel
theorem dX10_ownWord_0 : decode cX10_ownWord 0 = .ok (.iconst 0, 1) := of_decide_eq_true (List.all_eq_true.mp dsX10_ownWord_0_ok (0, (.iconst 0, 1)) (List.mem_of_getElem? (i := 0) rfl))
theorem dX10_ownWord_1 : decode cX10_ownWord 1 = .ok (.istore_n 3, 1) := of_decide_eq_true (List.all_eq_true.mp dsX10_ownWord_0_ok (1, (.istore_n 3, 1)) (List.mem_of_getElem? (i := 1) rfl))
theorem dX10_ownWord_2 : decode cX10_ownWord 2 = .ok (.iload_n 1, 1) := of_decide_eq_true (List.all_eq_true.mp dsX10_ownWord_0_ok (2, (.iload_n 1, 1)) (List.mem_of_getElem? (i := 2) rfl))
theorem dX10_ownWord_3 : decode cX10_ownWord 3 = .ok (.istore 4, 2) := of_decide_eq_true (List.all_eq_true.mp dsX10_ownWord_0_ok (3, (.istore 4, 2)) (List.mem_of_getElem? (i := 3) rfl))
theorem dX10_ownWord_5 : decode cX10_ownWord 5 = .ok (.iconst 1, 1) := of_decide_eq_true (List.all_eq_true.mp dsX10_ownWord_0_ok (5, (.iconst 1, 1)) (List.mem_of_getElem? (i := 4) rfl))
theorem dX10_ownWord_6 : decode cX10_ownWord 6 = .ok (.istore 5, 2) := of_decide_eq_true (List.all_eq_true.mp dsX10_ownWord_0_ok (6, (.istore 5, 2)) (List.mem_of_getElem? (i := 5) rfl))
theorem dX10_ownWord_8 : decode cX10_ownWord 8 = .ok (.iconst 0, 1) := of_decide_eq_true (List.all_eq_true.mp dsX10_ownWord_0_ok (8, (.iconst 0, 1)) (List.mem_of_getElem? (i := 6) rfl))
theorem dX10_ownWord_9 : decode cX10_ownWord 9 = .ok (.istore 6, 2) := of_decide_eq_true (List.all_eq_true.mp dsX10_ownWord_0_ok (9, (.istore 6, 2)) (List.mem_of_getElem? (i := 7) rfl))
theorem dX10_ownWord_11 : decode cX10_ownWord 11 = .ok (.iload 6, 2) := of_decide_eq_true (List.all_eq_true.mp dsX10_ownWord_0_ok (11, (.iload 6, 2)) (List.mem_of_getElem? (i := 8) rfl))
theorem dX10_ownWord_13 : decode cX10_ownWord 13 = .ok (.ldc 90, 2) := of_decide_eq_true (List.all_eq_true.mp dsX10_ownWord_0_ok (13, (.ldc 90, 2)) (List.mem_of_getElem? (i := 9) rfl))
theorem dX10_ownWord_15 : decode cX10_ownWord 15 = .ok (.invokevirtual 92, 3) := of_decide_eq_true (List.all_eq_true.mp dsX10_ownWord_0_ok (15, (.invokevirtual 92, 3)) (List.mem_of_getElem? (i := 10) rfl))
theorem dX10_ownWord_18 : decode cX10_ownWord 18 = .ok (.if_icmp .ge 85, 3) := of_decide_eq_true (List.all_eq_true.mp dsX10_ownWord_0_ok (18, (.if_icmp .ge 85, 3)) (List.mem_of_getElem? (i := 11) rfl))
theorem dX10_ownWord_21 : decode cX10_ownWord 21 = .ok (.ldc 90, 2) := of_decide_eq_true (List.all_eq_true.mp dsX10_ownWord_0_ok (21, (.ldc 90, 2)) (List.mem_of_getElem? (i := 12) rfl))
theorem dX10_ownWord_23 : decode cX10_ownWord 23 = .ok (.iload 6, 2) := of_decide_eq_true (List.all_eq_true.mp dsX10_ownWord_0_ok (23, (.iload 6, 2)) (List.mem_of_getElem? (i := 13) rfl))
theorem dX10_ownWord_25 : decode cX10_ownWord 25 = .ok (.invokevirtual 95, 3) := of_decide_eq_true (List.all_eq_true.mp dsX10_ownWord_0_ok (25, (.invokevirtual 95, 3)) (List.mem_of_getElem? (i := 14) rfl))
theorem dX10_ownWord_28 : decode cX10_ownWord 28 = .ok (.istore 7, 2) := of_decide_eq_true (List.all_eq_true.mp dsX10_ownWord_0_ok (28, (.istore 7, 2)) (List.mem_of_getElem? (i := 15) rfl))
theorem dX10_ownWord_30 : decode cX10_ownWord 30 = .ok (.iload 7, 2) := of_decide_eq_true (List.all_eq_true.mp dsX10_ownWord_0_ok (30, (.iload 7, 2)) (List.mem_of_getElem? (i := 16) rfl))
theorem dX10_ownWord_32 : decode cX10_ownWord 32 = .ok (.bipush 32, 2) := of_decide_eq_true (List.all_eq_true.mp dsX10_ownWord_0_ok (32, (.bipush 32, 2)) (List.mem_of_getElem? (i := 17) rfl))
theorem dX10_ownWord_34 : decode cX10_ownWord 34 = .ok (.if_icmp .eq 41, 3) := of_decide_eq_true (List.all_eq_true.mp dsX10_ownWord_0_ok (34, (.if_icmp .eq 41, 3)) (List.mem_of_getElem? (i := 18) rfl))
theorem dX10_ownWord_37 : decode cX10_ownWord 37 = .ok (.iload 5, 2) := of_decide_eq_true (List.all_eq_true.mp dsX10_ownWord_0_ok (37, (.iload 5, 2)) (List.mem_of_getElem? (i := 19) rfl))
theorem dX10_ownWord_39 : decode cX10_ownWord 39 = .ok (.ifCond .eq 27, 3) := of_decide_eq_true (List.all_eq_true.mp dsX10_ownWord_0_ok (39, (.ifCond .eq 27, 3)) (List.mem_of_getElem? (i := 20) rfl))
theorem dX10_ownWord_42 : decode cX10_ownWord 42 = .ok (.iload 4, 2) := of_decide_eq_true (List.all_eq_true.mp dsX10_ownWord_0_ok (42, (.iload 4, 2)) (List.mem_of_getElem? (i := 21) rfl))
theorem dX10_ownWord_44 : decode cX10_ownWord 44 = .ok (.iload_n 2, 1) := of_decide_eq_true (List.all_eq_true.mp dsX10_ownWord_0_ok (44, (.iload_n 2, 1)) (List.mem_of_getElem? (i := 22) rfl))
theorem dX10_ownWord_45 : decode cX10_ownWord 45 = .ok (.if_icmp .ge 21, 3) := of_decide_eq_true (List.all_eq_true.mp dsX10_ownWord_0_ok (45, (.if_icmp .ge 21, 3)) (List.mem_of_getElem? (i := 23) rfl))
theorem dX10_ownWord_48 : decode cX10_ownWord 48 = .ok (.aload_n 0, 1) := of_decide_eq_true (List.all_eq_true.mp dsX10_ownWord_0_ok (48, (.aload_n 0, 1)) (List.mem_of_getElem? (i := 24) rfl))
theorem dX10_ownWord_49 : decode cX10_ownWord 49 = .ok (.getfield 24, 3) := of_decide_eq_true (List.all_eq_true.mp dsX10_ownWord_0_ok (49, (.getfield 24, 3)) (List.mem_of_getElem? (i := 25) rfl))
theorem dX10_ownWord_52 : decode cX10_ownWord 52 = .ok (.iload 4, 2) := of_decide_eq_true (List.all_eq_true.mp dsX10_ownWord_0_ok (52, (.iload 4, 2)) (List.mem_of_getElem? (i := 26) rfl))
theorem dX10_ownWord_54 : decode cX10_ownWord 54 = .ok (.invokevirtual 43, 3) := of_decide_eq_true (List.all_eq_true.mp dsX10_ownWord_0_ok (54, (.invokevirtual 43, 3)) (List.mem_of_getElem? (i := 27) rfl))
theorem dX10_ownWord_57 : decode cX10_ownWord 57 = .ok (.iload 7, 2) := of_decide_eq_true (List.all_eq_true.mp dsX10_ownWord_0_ok (57, (.iload 7, 2)) (List.mem_of_getElem? (i := 28) rfl))
theorem dX10_ownWord_59 : decode cX10_ownWord 59 = .ok (.if_icmp .ne 7, 3) := of_decide_eq_true (List.all_eq_true.mp dsX10_ownWord_0_ok (59, (.if_icmp .ne 7, 3)) (List.mem_of_getElem? (i := 29) rfl))
theorem dX10_ownWord_62 : decode cX10_ownWord 62 = .ok (.iconst 1, 1) := of_decide_eq_true (List.all_eq_true.mp dsX10_ownWord_0_ok (62, (.iconst 1, 1)) (List.mem_of_getElem? (i := 30) rfl))
theorem dX10_ownWord_63 : decode cX10_ownWord 63 = .ok (.goto 4, 3) := of_decide_eq_true (List.all_eq_true.mp dsX10_ownWord_0_ok (63, (.goto 4, 3)) (List.mem_of_getElem? (i := 31) rfl))
theorem dX10_ownWord_66 : decode cX10_ownWord 66 = .ok (.iconst 0, 1) := of_decide_eq_true (List.all_eq_true.mp dsX10_ownWord_0_ok (66, (.iconst 0, 1)) (List.mem_of_getElem? (i := 32) rfl))
theorem dX10_ownWord_67 : decode cX10_ownWord 67 = .ok (.istore 5, 2) := of_decide_eq_true (List.all_eq_true.mp dsX10_ownWord_0_ok (67, (.istore 5, 2)) (List.mem_of_getElem? (i := 33) rfl))
theorem dX10_ownWord_69 : decode cX10_ownWord 69 = .ok (.iinc 4 1, 3) := of_decide_eq_true (List.all_eq_true.mp dsX10_ownWord_0_ok (69, (.iinc 4 1, 3)) (List.mem_of_getElem? (i := 34) rfl))
theorem dX10_ownWord_72 : decode cX10_ownWord 72 = .ok (.goto 25, 3) := of_decide_eq_true (List.all_eq_true.mp dsX10_ownWord_0_ok (72, (.goto 25, 3)) (List.mem_of_getElem? (i := 35) rfl))
theorem dX10_ownWord_75 : decode cX10_ownWord 75 = .ok (.iload 5, 2) := of_decide_eq_true (List.all_eq_true.mp dsX10_ownWord_0_ok (75, (.iload 5, 2)) (List.mem_of_getElem? (i := 36) rfl))
theorem dX10_ownWord_77 : decode cX10_ownWord 77 = .ok (.ifCond .eq 11, 3) := of_decide_eq_true (List.all_eq_true.mp dsX10_ownWord_0_ok (77, (.ifCond .eq 11, 3)) (List.mem_of_getElem? (i := 37) rfl))
theorem dX10_ownWord_80 : decode cX10_ownWord 80 = .ok (.iload 4, 2) := of_decide_eq_true (List.all_eq_true.mp dsX10_ownWord_0_ok (80, (.iload 4, 2)) (List.mem_of_getElem? (i := 38) rfl))
theorem dX10_ownWord_82 : decode cX10_ownWord 82 = .ok (.iload_n 2, 1) := of_decide_eq_true (List.all_eq_true.mp dsX10_ownWord_0_ok (82, (.iload_n 2, 1)) (List.mem_of_getElem? (i := 39) rfl))
theorem dX10_ownWord_83 : decode cX10_ownWord 83 = .ok (.if_icmp .ne 5, 3) := of_decide_eq_true (List.all_eq_true.mp dsX10_ownWord_0_ok (83, (.if_icmp .ne 5, 3)) (List.mem_of_getElem? (i := 40) rfl))
theorem dX10_ownWord_86 : decode cX10_ownWord 86 = .ok (.iload_n 3, 1) := of_decide_eq_true (List.all_eq_true.mp dsX10_ownWord_0_ok (86, (.iload_n 3, 1)) (List.mem_of_getElem? (i := 41) rfl))
theorem dX10_ownWord_87 : decode cX10_ownWord 87 = .ok (.ireturn, 1) := of_decide_eq_true (List.all_eq_true.mp dsX10_ownWord_0_ok (87, (.ireturn, 1)) (List.mem_of_getElem? (i := 42) rfl))
theorem dX10_ownWord_88 : decode cX10_ownWord 88 = .ok (.iinc 3 1, 3) := of_decide_eq_true (List.all_eq_true.mp dsX10_ownWord_0_ok (88, (.iinc 3 1, 3)) (List.mem_of_getElem? (i := 43) rfl))
theorem dX10_ownWord_91 : decode cX10_ownWord 91 = .ok (.iload_n 1, 1) := of_decide_eq_true (List.all_eq_true.mp dsX10_ownWord_0_ok (91, (.iload_n 1, 1)) (List.mem_of_getElem? (i := 44) rfl))
theorem dX10_ownWord_92 : decode cX10_ownWord 92 = .ok (.istore 4, 2) := of_decide_eq_true (List.all_eq_true.mp dsX10_ownWord_0_ok (92, (.istore 4, 2)) (List.mem_of_getElem? (i := 45) rfl))
theorem dX10_ownWord_94 : decode cX10_ownWord 94 = .ok (.iconst 1, 1) := of_decide_eq_true (List.all_eq_true.mp dsX10_ownWord_0_ok (94, (.iconst 1, 1)) (List.mem_of_getElem? (i := 46) rfl))
theorem dX10_ownWord_95 : decode cX10_ownWord 95 = .ok (.istore 5, 2) := of_decide_eq_true (List.all_eq_true.mp dsX10_ownWord_0_ok (95, (.istore 5, 2)) (List.mem_of_getElem? (i := 47) rfl))
theorem dX10_ownWord_97 : decode cX10_ownWord 97 = .ok (.iinc 6 1, 3) := of_decide_eq_true (List.all_eq_true.mp dsX10_ownWord_0_ok (97, (.iinc 6 1, 3)) (List.mem_of_getElem? (i := 48) rfl))
theorem dX10_ownWord_100 : decode cX10_ownWord 100 = .ok (.goto (-89), 3) := of_decide_eq_true (List.all_eq_true.mp dsX10_ownWord_0_ok (100, (.goto (-89), 3)) (List.mem_of_getElem? (i := 49) rfl))
theorem dX10_ownWord_103 : decode cX10_ownWord 103 = .ok (.iconst (-1), 1) := of_decide_eq_true (List.all_eq_true.mp dsX10_ownWord_0_ok (103, (.iconst (-1), 1)) (List.mem_of_getElem? (i := 50) rfl))
theorem dX10_ownWord_104 : decode cX10_ownWord 104 = .ok (.ireturn, 1) := of_decide_eq_true (List.all_eq_true.mp dsX10_ownWord_0_ok (104, (.ireturn, 1)) (List.mem_of_getElem? (i := 51) rfl))
def fX10_ownWord_b97 (N : Nat) (tapeI : Nat → Int32) (tape_bytesF : Nat → Int32)  (k11 : (Int32 × Int32 × Int32 × Int32 × Int32 × Int32) → Option (Int32)) : (Int32 × Int32 × Int32 × Int32 × Int32 × Int32) → Option (Int32) :=
  fun (x1_97, x2_97, x3_97, x4_97, x5_97, x6_97) => k11 (x1_97, x2_97, x3_97, x4_97, x5_97, x6_97 + 1)
def fX10_ownWord_b88 (N : Nat) (tapeI : Nat → Int32) (tape_bytesF : Nat → Int32)  (k11 : (Int32 × Int32 × Int32 × Int32 × Int32 × Int32) → Option (Int32)) : (Int32 × Int32 × Int32 × Int32) → Option (Int32) :=
  fun (x1_88, x2_88, x3_88, x6_88) => fX10_ownWord_b97 N tapeI tape_bytesF k11 (x1_88, x2_88, x3_88 + 1, x1_88, 1, x6_88)
def fX10_ownWord_b67 (N : Nat) (tapeI : Nat → Int32) (tape_bytesF : Nat → Int32)  (k11 : (Int32 × Int32 × Int32 × Int32 × Int32 × Int32) → Option (Int32)) : (Int32 × Int32 × Int32 × Int32 × Int32 × Int32) → Option (Int32) :=
  fun (x1_67, x2_67, x3_67, x4_67, x6_67, y0_67) => fX10_ownWord_b97 N tapeI tape_bytesF k11 (x1_67, x2_67, x3_67, x4_67 + 1, y0_67, x6_67)
def fX10_ownWord_b66 (N : Nat) (tapeI : Nat → Int32) (tape_bytesF : Nat → Int32)  (k11 : (Int32 × Int32 × Int32 × Int32 × Int32 × Int32) → Option (Int32)) : (Int32 × Int32 × Int32 × Int32 × Int32) → Option (Int32) :=
  fun (x1_66, x2_66, x3_66, x4_66, x6_66) => fX10_ownWord_b67 N tapeI tape_bytesF k11 (x1_66, x2_66, x3_66, x4_66, x6_66, 0)
def fX10_ownWord_l11 (N : Nat) (tapeI : Nat → Int32) (tape_bytesF : Nat → Int32)  (k11 : (Int32 × Int32 × Int32 × Int32 × Int32 × Int32) → Option (Int32)) : (Int32 × Int32 × Int32 × Int32 × Int32 × Int32) → Option (Int32) :=
  fun (x1_11, x2_11, x3_11, x4_11, x5_11, x6_11) => (xq_bd (fJ0_length_8abf5_s1 N) fun r_1 => (if r_1 ≤ x6_11 then some ((-1)) else (xq_bd (fJ0_charAt_5068e_s1 N x6_11) fun r_3 => (if r_3 = 32 then (if x5_11 = 0 then fX10_ownWord_b88 N tapeI tape_bytesF k11 (x1_11, x2_11, x3_11, x6_11) else (if x4_11 = x2_11 then some x3_11 else fX10_ownWord_b88 N tapeI tape_bytesF k11 (x1_11, x2_11, x3_11, x6_11))) else (if x5_11 = 0 then fX10_ownWord_b66 N tapeI tape_bytesF k11 (x1_11, x2_11, x3_11, x4_11, x6_11) else (if x2_11 ≤ x4_11 then fX10_ownWord_b66 N tapeI tape_bytesF k11 (x1_11, x2_11, x3_11, x4_11, x6_11) else (xq_bd (fX9_at N tapeI tape_bytesF x4_11) fun r_5 => (if r_5 = r_3 then fX10_ownWord_b67 N tapeI tape_bytesF k11 (x1_11, x2_11, x3_11, x4_11, x6_11, 1) else fX10_ownWord_b66 N tapeI tape_bytesF k11 (x1_11, x2_11, x3_11, x4_11, x6_11)))))))))
def fX10_ownWord (N : Nat) (tapeI : Nat → Int32) (tape_bytesF : Nat → Int32)  (p1 : Int32) (p2 : Int32) : Option (Int32) :=
  xq_loop (fX10_ownWord_l11 N tapeI tape_bytesF) N (p1, p2, 0, p1, 1, 0)
set_option maxHeartbeats 4000000 in
set_option maxRecDepth 100000 in
theorem kX10_ownWord (l : Launch) (dC : Nat → ClassId) (dI : Nat → Nat → Nat) (cI cB cJ cZ cM : ClassId) (z : Nat) (ad : Nat → Nat) (N : Nat) (a_p0 : Nat) (txI : Nat → Int32) (txR : Nat → Nat) (tapeI : Nat → Int32) (tapeR : Nat → Nat) (tape_bytesF : Nat → Int32) (p1 : Int32) (p2 : Int32) {r0 : Int32} (hf : fX10_ownWord N tapeI tape_bytesF p1 p2 = some r0) : xq_Ct l yX10_ownWord wsX10_ownWord { frames := 4, cells := 0, slots := 0, locals := 85 } (dC, dI) vwCl (xq_tys cI cB cJ cZ cM) z ad [.ref a_p0, .int p1, .int p2] [(a_p0, .inr (10, oX10 txI txR)), ((txR 0), .inr (9, oX9 tapeI tapeR)), ((tapeR 0), .inl (cB, 1600, .inl tape_bytesF))] [(a_p0, .inr (10, oX10 txI txR)), ((txR 0), .inr (9, oX9 tapeI tapeR)), ((tapeR 0), .inl (cB, 1600, .inl tape_bytesF))] (some (.int r0)) := by
  intro sz
  refine Met.ofW (cc := cX10_ownWord) (maxL := 8) (ret := (some .int)) (by decide) rfl ?_
  intro p e s m args below meth c s₁ B hml hv
  obtain ⟨rfl, hsz, hP, hK, hD0, hE, hz⟩ := hv
  have hx := B.exec
  have hb := B.bytes
  have hr := B.returns
  have hts := atoms_spec (ws := wsX10_ownWord) B.pre
  have hown : s.vm.findClass RX10 = some m.cls := findClass_of_methodNamed B.named
  have hlocks := B.notSynchronized
  subst hsz
  have hD := hD0.self (sz := s.heap.size)
  have hN := xq_Env.of hE hz hD0
  generalize hAe : va_A [(a_p0, .inr (10, oX10 txI txR)), ((txR 0), .inr (9, oX9 tapeI tapeR)), ((tapeR 0), .inl (cB, 1600, .inl tape_bytesF))] s.heap.size = A at hD hN ⊢
  have hA : ∀ q : Nat, s.heap.size ≤ q → A q := fun q h => by rw [← hAe]; exact Or.inr h
  clear hAe hD0
  have hS : va_S A s.heap s.heap [] := va_S.rf
  have hl := lv_entry ([.ref a_p0, .int p1, .int p2]) (n := 8) (Nat.le_of_ble_eq_true rfl)
  rw [lg_entry_eq]
  generalize (lg_sl ([.ref a_p0, .int p1, .int p2]) ++ List.replicate (8 - (lg_sl ([.ref a_p0, .int p1, .int p2])).length) Slot.unset).toArray = ls at hl ⊢
  have hl : lv_has ls 8 [(0, .ref a_p0), (1, .int p1), (2, .int p2)] := hl
  have hw0 := hts (.fieldLink RX10 24 "DistantVoice$Text" "tape" "LDistantVoice$Tape;") (by decide +kernel)
  have hinX10 : ∀ w ∈ wsX100, w ∈ wsX10_ownWord := fun w h => List.mem_cons_of_mem _ (List.mem_append_left _ (List.mem_append_right _ h))
  have l11 : ∀ n11 : Nat, ∀ (x1_11 : Int32) (x2_11 : Int32) (x3_11 : Int32) (x4_11 : Int32) (x5_11 : Int32) (x6_11 : Int32) (ls : Array Slot) (H : Heap) (locs : List Loc), xq_loop (fX10_ownWord_l11 N tapeI tape_bytesF) n11 (x1_11, x2_11, x3_11, x4_11, x5_11, x6_11) = some r0 → va_P (dC, dI) vwCl [(a_p0, .inr (10, oX10 txI txR)), ((txR 0), .inr (9, oX9 tapeI tapeR)), ((tapeR 0), .inl (cB, 1600, .inl tape_bytesF))] H → va_D A [(a_p0, .inr (10, oX10 txI txR)), ((txR 0), .inr (9, oX9 tapeI tapeR)), ((tapeR 0), .inl (cB, 1600, .inl tape_bytesF))] → va_S A s.heap H locs → lv_has ls 8 [(0, .ref a_p0), (1, .int x1_11), (2, .int x2_11), (3, .int x3_11), (4, .int x4_11), (5, .int x5_11), (6, .int x6_11)] → W p l e (headSpec wsX10_ownWord { frames := 4, cells := 0, slots := 0, locals := 85 }).room s m [.ref a_p0, .int p1, .int p2].toArray below meth c H locs 0 0 (MQ below (xq_Q (dC, dI) vwCl (xq_tys cI cB cJ cZ cM) A [(a_p0, .inr (10, oX10 txI txR)), ((txR 0), .inr (9, oX9 tapeI tapeR)), ((tapeR 0), .inl (cB, 1600, .inl tape_bytesF))] (some (.int r0))) [.ref a_p0, .int p1, .int p2].toArray s 0 0 A) (F0 m 11 ls []) := by
    intro n11
    induction n11 with
    | zero => intro x1_11 x2_11 x3_11 x4_11 x5_11 x6_11 ls H locs hf; cases (show none = some r0 from hf)
    | succ n11 ih11 =>
      have b97 : ∀ (x1_97 : Int32) (x2_97 : Int32) (x3_97 : Int32) (x4_97 : Int32) (x5_97 : Int32) (x6_97 : Int32) (ls : Array Slot) (H : Heap) (locs : List Loc), fX10_ownWord_b97 N tapeI tape_bytesF (xq_loop (fX10_ownWord_l11 N tapeI tape_bytesF) n11) (x1_97, x2_97, x3_97, x4_97, x5_97, x6_97) = some r0 → va_P (dC, dI) vwCl [(a_p0, .inr (10, oX10 txI txR)), ((txR 0), .inr (9, oX9 tapeI tapeR)), ((tapeR 0), .inl (cB, 1600, .inl tape_bytesF))] H → va_D A [(a_p0, .inr (10, oX10 txI txR)), ((txR 0), .inr (9, oX9 tapeI tapeR)), ((tapeR 0), .inl (cB, 1600, .inl tape_bytesF))] → va_S A s.heap H locs → lv_has ls 8 [(0, .ref a_p0), (1, .int x1_97), (2, .int x2_97), (3, .int x3_97), (4, .int x4_97), (5, .int x5_97), (6, .int x6_97)] → W p l e (headSpec wsX10_ownWord { frames := 4, cells := 0, slots := 0, locals := 85 }).room s m [.ref a_p0, .int p1, .int p2].toArray below meth c H locs 0 0 (MQ below (xq_Q (dC, dI) vwCl (xq_tys cI cB cJ cZ cM) A [(a_p0, .inr (10, oX10 txI txR)), ((txR 0), .inr (9, oX9 tapeI tapeR)), ((tapeR 0), .inl (cB, 1600, .inl tape_bytesF))] (some (.int r0))) [.ref a_p0, .int p1, .int p2].toArray s 0 0 A) (F0 m 97 ls []) := by
        intro x1_97 x2_97 x3_97 x4_97 x5_97 x6_97 ls H locs hf hP hD hS hl
        unfold fX10_ownWord_b97 at hf
        refine lv_iinc (v := x6_97 + 1) (lv' := [(6, .int (x6_97 + 1)), (0, .ref a_p0), (1, .int x1_97), (2, .int x2_97), (3, .int x3_97), (4, .int x4_97), (5, .int x5_97)]) hx hb dX10_ownWord_97 hl (k := 6) rfl (congrArg (fun q9 => x6_97 + q9) (by decide : Int32.ofInt 1 = 1)) (by decide) rfl (fun ls hl => ?_)
        refine lv_goto (tgt := 11) hx hb dX10_ownWord_100 (by decide) ?_
        exact ih11 x1_97 x2_97 x3_97 x4_97 x5_97 (x6_97 + 1) _ _ _ hf hP hD hS (lv_sub hl [1, 2, 3, 4, 5, 6, 0] rfl)
      have b88 : ∀ (x1_88 : Int32) (x2_88 : Int32) (x3_88 : Int32) (x6_88 : Int32) (ls : Array Slot) (H : Heap) (locs : List Loc), fX10_ownWord_b88 N tapeI tape_bytesF (xq_loop (fX10_ownWord_l11 N tapeI tape_bytesF) n11) (x1_88, x2_88, x3_88, x6_88) = some r0 → va_P (dC, dI) vwCl [(a_p0, .inr (10, oX10 txI txR)), ((txR 0), .inr (9, oX9 tapeI tapeR)), ((tapeR 0), .inl (cB, 1600, .inl tape_bytesF))] H → va_D A [(a_p0, .inr (10, oX10 txI txR)), ((txR 0), .inr (9, oX9 tapeI tapeR)), ((tapeR 0), .inl (cB, 1600, .inl tape_bytesF))] → va_S A s.heap H locs → lv_has ls 8 [(0, .ref a_p0), (1, .int x1_88), (2, .int x2_88), (3, .int x3_88), (6, .int x6_88)] → W p l e (headSpec wsX10_ownWord { frames := 4, cells := 0, slots := 0, locals := 85 }).room s m [.ref a_p0, .int p1, .int p2].toArray below meth c H locs 0 0 (MQ below (xq_Q (dC, dI) vwCl (xq_tys cI cB cJ cZ cM) A [(a_p0, .inr (10, oX10 txI txR)), ((txR 0), .inr (9, oX9 tapeI tapeR)), ((tapeR 0), .inl (cB, 1600, .inl tape_bytesF))] (some (.int r0))) [.ref a_p0, .int p1, .int p2].toArray s 0 0 A) (F0 m 88 ls []) := by
        intro x1_88 x2_88 x3_88 x6_88 ls H locs hf hP hD hS hl
        unfold fX10_ownWord_b88 at hf
        refine lv_iinc (v := x3_88 + 1) (lv' := [(3, .int (x3_88 + 1)), (0, .ref a_p0), (1, .int x1_88), (2, .int x2_88), (6, .int x6_88)]) hx hb dX10_ownWord_88 hl (k := 3) rfl (congrArg (fun q9 => x3_88 + q9) (by decide : Int32.ofInt 1 = 1)) (by decide) rfl (fun ls hl => ?_)
        refine lv_iload_n hx hb dX10_ownWord_91 rfl (lv_at hl 2 rfl) ?_
        refine lv_istore (lv' := [(4, .int x1_88), (3, .int (x3_88 + 1)), (0, .ref a_p0), (1, .int x1_88), (2, .int x2_88), (6, .int x6_88)]) hx hb dX10_ownWord_92 hl (by decide) rfl (fun ls hl => ?_)
        refine lv_iconst (v := 1) hx hb dX10_ownWord_94 (by decide) ?_
        refine lv_istore (lv' := [(5, .int 1), (4, .int x1_88), (3, .int (x3_88 + 1)), (0, .ref a_p0), (1, .int x1_88), (2, .int x2_88), (6, .int x6_88)]) hx hb dX10_ownWord_95 hl (by decide) rfl (fun ls hl => ?_)
        exact b97 x1_88 x2_88 (x3_88 + 1) x1_88 1 x6_88 _ _ _ hf hP hD hS (lv_sub hl [3, 4, 5, 2, 1, 0, 6] rfl)
      have b67 : ∀ (x1_67 : Int32) (x2_67 : Int32) (x3_67 : Int32) (x4_67 : Int32) (x6_67 : Int32) (y0_67 : Int32) (ls : Array Slot) (H : Heap) (locs : List Loc), fX10_ownWord_b67 N tapeI tape_bytesF (xq_loop (fX10_ownWord_l11 N tapeI tape_bytesF) n11) (x1_67, x2_67, x3_67, x4_67, x6_67, y0_67) = some r0 → va_P (dC, dI) vwCl [(a_p0, .inr (10, oX10 txI txR)), ((txR 0), .inr (9, oX9 tapeI tapeR)), ((tapeR 0), .inl (cB, 1600, .inl tape_bytesF))] H → va_D A [(a_p0, .inr (10, oX10 txI txR)), ((txR 0), .inr (9, oX9 tapeI tapeR)), ((tapeR 0), .inl (cB, 1600, .inl tape_bytesF))] → va_S A s.heap H locs → lv_has ls 8 [(0, .ref a_p0), (1, .int x1_67), (2, .int x2_67), (3, .int x3_67), (4, .int x4_67), (6, .int x6_67)] → W p l e (headSpec wsX10_ownWord { frames := 4, cells := 0, slots := 0, locals := 85 }).room s m [.ref a_p0, .int p1, .int p2].toArray below meth c H locs 0 0 (MQ below (xq_Q (dC, dI) vwCl (xq_tys cI cB cJ cZ cM) A [(a_p0, .inr (10, oX10 txI txR)), ((txR 0), .inr (9, oX9 tapeI tapeR)), ((tapeR 0), .inl (cB, 1600, .inl tape_bytesF))] (some (.int r0))) [.ref a_p0, .int p1, .int p2].toArray s 0 0 A) (F0 m 67 ls [.int y0_67]) := by
        intro x1_67 x2_67 x3_67 x4_67 x6_67 y0_67 ls H locs hf hP hD hS hl
        unfold fX10_ownWord_b67 at hf
        refine lv_istore (lv' := [(5, .int y0_67), (0, .ref a_p0), (1, .int x1_67), (2, .int x2_67), (3, .int x3_67), (4, .int x4_67), (6, .int x6_67)]) hx hb dX10_ownWord_67 hl (by decide) rfl (fun ls hl => ?_)
        refine lv_iinc (v := x4_67 + 1) (lv' := [(4, .int (x4_67 + 1)), (5, .int y0_67), (0, .ref a_p0), (1, .int x1_67), (2, .int x2_67), (3, .int x3_67), (6, .int x6_67)]) hx hb dX10_ownWord_69 hl (k := 5) rfl (congrArg (fun q9 => x4_67 + q9) (by decide : Int32.ofInt 1 = 1)) (by decide) rfl (fun ls hl => ?_)
        refine lv_goto (tgt := 97) hx hb dX10_ownWord_72 (by decide) ?_
        exact b97 x1_67 x2_67 x3_67 (x4_67 + 1) y0_67 x6_67 _ _ _ hf hP hD hS (lv_sub hl [2, 3, 4, 5, 0, 1, 6] rfl)
      have b66 : ∀ (x1_66 : Int32) (x2_66 : Int32) (x3_66 : Int32) (x4_66 : Int32) (x6_66 : Int32) (ls : Array Slot) (H : Heap) (locs : List Loc), fX10_ownWord_b66 N tapeI tape_bytesF (xq_loop (fX10_ownWord_l11 N tapeI tape_bytesF) n11) (x1_66, x2_66, x3_66, x4_66, x6_66) = some r0 → va_P (dC, dI) vwCl [(a_p0, .inr (10, oX10 txI txR)), ((txR 0), .inr (9, oX9 tapeI tapeR)), ((tapeR 0), .inl (cB, 1600, .inl tape_bytesF))] H → va_D A [(a_p0, .inr (10, oX10 txI txR)), ((txR 0), .inr (9, oX9 tapeI tapeR)), ((tapeR 0), .inl (cB, 1600, .inl tape_bytesF))] → va_S A s.heap H locs → lv_has ls 8 [(0, .ref a_p0), (1, .int x1_66), (2, .int x2_66), (3, .int x3_66), (4, .int x4_66), (6, .int x6_66)] → W p l e (headSpec wsX10_ownWord { frames := 4, cells := 0, slots := 0, locals := 85 }).room s m [.ref a_p0, .int p1, .int p2].toArray below meth c H locs 0 0 (MQ below (xq_Q (dC, dI) vwCl (xq_tys cI cB cJ cZ cM) A [(a_p0, .inr (10, oX10 txI txR)), ((txR 0), .inr (9, oX9 tapeI tapeR)), ((tapeR 0), .inl (cB, 1600, .inl tape_bytesF))] (some (.int r0))) [.ref a_p0, .int p1, .int p2].toArray s 0 0 A) (F0 m 66 ls []) := by
        intro x1_66 x2_66 x3_66 x4_66 x6_66 ls H locs hf hP hD hS hl
        unfold fX10_ownWord_b66 at hf
        refine lv_iconst (v := 0) hx hb dX10_ownWord_66 (by decide) ?_
        exact b67 x1_66 x2_66 x3_66 x4_66 x6_66 0 _ _ _ hf hP hD hS (lv_sub hl [0, 1, 2, 3, 4, 5] rfl)
      intro x1_11 x2_11 x3_11 x4_11 x5_11 x6_11 ls H locs hf hP hD hS hl
      have hf : fX10_ownWord_l11 N tapeI tape_bytesF (xq_loop (fX10_ownWord_l11 N tapeI tape_bytesF) n11) (x1_11, x2_11, x3_11, x4_11, x5_11, x6_11) = some r0 := hf
      unfold fX10_ownWord_l11 at hf
      refine lv_iload hx hb dX10_ownWord_11 (lv_at hl 6 rfl) ?_
      refine va_ldcS hx hb hown hN.1.2.2.2.2.1 dX10_ownWord_13 ?_
      obtain ⟨r_1, h_2, hf⟩ := xq_bd_some hf
      refine xq_callVS (As := []) (rest := [.int x6_11]) ⟨hx, hb, hml, hown, hts⟩ (kJ0_length_8abf5_s1 l dC dI cI cB cJ cZ cM z ad N h_2) (cwV 0 hts gX10_ownWord_J0_length_8abf5 rfl rfl rfl (by decide +kernel) ⟨Nat.le_of_ble_eq_true rfl, Nat.le_of_ble_eq_true rfl⟩) hN hK hP hD hS hA [] (by decide) rfl rfl (vk_recv (hN.1.2.2.1.narrow hN.2.2) (i := 1) (by decide) hS) rfl hl.1 rfl (Nat.le_of_ble_eq_true rfl) dX10_ownWord_15 ⟨Nat.zero_le _, Nat.zero_le _⟩ (fun H locs hP hD hS => ?_)
      have hP : va_P (dC, dI) vwCl [(a_p0, .inr (10, oX10 txI txR)), ((txR 0), .inr (9, oX9 tapeI tapeR)), ((tapeR 0), .inl (cB, 1600, .inl tape_bytesF))] H := hP
      have hD : va_D A [(a_p0, .inr (10, oX10 txI txR)), ((txR 0), .inr (9, oX9 tapeI tapeR)), ((tapeR 0), .inl (cB, 1600, .inl tape_bytesF))] := hD
      refine W.eq (g2 := F0 m 18 ls [.int r_1, .int x6_11]) rfl ?_
      refine lv_icmp_ge (tgt := 103) hx hb dX10_ownWord_18 (by decide) (fun c_ => ?_) (fun c_ => ?_)
      · have hf := xq_pos hf c_
        refine lv_iconst (v := (-1)) hx hb dX10_ownWord_103 (by decide) ?_
        cases hf
        exact xq_iret hx hb hr hlocks hK hP hD hS dX10_ownWord_104
      · have hf := xq_neg hf c_
        refine va_ldcS hx hb hown hN.1.2.2.2.2.1 dX10_ownWord_21 ?_
        refine lv_iload hx hb dX10_ownWord_23 (lv_at hl 6 rfl) ?_
        obtain ⟨r_3, h_4, hf⟩ := xq_bd_some hf
        refine xq_callVS (As := [.int x6_11]) (rest := []) ⟨hx, hb, hml, hown, hts⟩ (kJ0_charAt_5068e_s1 l dC dI cI cB cJ cZ cM z ad N x6_11 h_4) (cwV 1 hts gX10_ownWord_J0_charAt_5068e rfl rfl rfl (by decide +kernel) ⟨Nat.le_of_ble_eq_true rfl, Nat.le_of_ble_eq_true rfl⟩) hN hK hP hD hS hA [] (by decide) rfl rfl (vk_recv (hN.1.2.2.1.narrow hN.2.2) (i := 1) (by decide) hS) rfl hl.1 rfl (Nat.le_of_ble_eq_true rfl) dX10_ownWord_25 ⟨Nat.zero_le _, Nat.zero_le _⟩ (fun H locs hP hD hS => ?_)
        have hP : va_P (dC, dI) vwCl [(a_p0, .inr (10, oX10 txI txR)), ((txR 0), .inr (9, oX9 tapeI tapeR)), ((tapeR 0), .inl (cB, 1600, .inl tape_bytesF))] H := hP
        have hD : va_D A [(a_p0, .inr (10, oX10 txI txR)), ((txR 0), .inr (9, oX9 tapeI tapeR)), ((tapeR 0), .inl (cB, 1600, .inl tape_bytesF))] := hD
        refine W.eq (g2 := F0 m 28 ls [.int r_3]) rfl ?_
        refine lv_istore (lv' := [(7, .int r_3), (0, .ref a_p0), (1, .int x1_11), (2, .int x2_11), (3, .int x3_11), (4, .int x4_11), (5, .int x5_11), (6, .int x6_11)]) hx hb dX10_ownWord_28 hl (by decide) rfl (fun ls hl => ?_)
        refine lv_iload hx hb dX10_ownWord_30 (lv_at hl 0 rfl) ?_
        refine lv_bipush (v := 32) hx hb dX10_ownWord_32 (by decide) ?_
        refine lv_icmp_eq (tgt := 75) hx hb dX10_ownWord_34 (by decide) (fun c_ => ?_) (fun c_ => ?_)
        · have hf := xq_pos hf c_
          refine lv_iload hx hb dX10_ownWord_75 (lv_at hl 6 rfl) ?_
          refine lv_if_eq (tgt := 88) hx hb dX10_ownWord_77 (by decide) (fun c_ => ?_) (fun c_ => ?_)
          · have hf := xq_pos hf c_
            exact b88 x1_11 x2_11 x3_11 x6_11 _ _ _ hf hP hD hS (lv_sub hl [1, 2, 3, 4, 7] rfl)
          · have hf := xq_neg hf c_
            refine lv_iload hx hb dX10_ownWord_80 (lv_at hl 5 rfl) ?_
            refine lv_iload_n hx hb dX10_ownWord_82 rfl (lv_at hl 3 rfl) ?_
            refine lv_icmp_ne (tgt := 88) hx hb dX10_ownWord_83 (by decide) (fun c_ => ?_) (fun c_ => ?_)
            · have hf := xq_neg hf c_
              exact b88 x1_11 x2_11 x3_11 x6_11 _ _ _ hf hP hD hS (lv_sub hl [1, 2, 3, 4, 7] rfl)
            · have hf := xq_pos hf c_
              refine lv_iload_n hx hb dX10_ownWord_86 rfl (lv_at hl 4 rfl) ?_
              cases hf
              exact xq_iret hx hb hr hlocks hK hP hD hS dX10_ownWord_87
        · have hf := xq_neg hf c_
          refine lv_iload hx hb dX10_ownWord_37 (lv_at hl 6 rfl) ?_
          refine lv_if_eq (tgt := 66) hx hb dX10_ownWord_39 (by decide) (fun c_ => ?_) (fun c_ => ?_)
          · have hf := xq_pos hf c_
            exact b66 x1_11 x2_11 x3_11 x4_11 x6_11 _ _ _ hf hP hD hS (lv_sub hl [1, 2, 3, 4, 5, 7] rfl)
          · have hf := xq_neg hf c_
            refine lv_iload hx hb dX10_ownWord_42 (lv_at hl 5 rfl) ?_
            refine lv_iload_n hx hb dX10_ownWord_44 rfl (lv_at hl 3 rfl) ?_
            refine lv_icmp_ge (tgt := 66) hx hb dX10_ownWord_45 (by decide) (fun c_ => ?_) (fun c_ => ?_)
            · have hf := xq_pos hf c_
              exact b66 x1_11 x2_11 x3_11 x4_11 x6_11 _ _ _ hf hP hD hS (lv_sub hl [1, 2, 3, 4, 5, 7] rfl)
            · have hf := xq_neg hf c_
              refine lv_aload_n hx hb dX10_ownWord_48 rfl (lv_at hl 1 rfl) ?_
              refine va_get (D := (dC, dI)) (ci := 10) (v := .ref ((txR 0))) (C := RX10) (T := TX10) (N := 8) hx hb hts hinX10 hown hK hP 0 rfl rfl 0 (by decide) hw0 (fun _ h9 => h9) rfl dX10_ownWord_49 ?_
              refine lv_iload hx hb dX10_ownWord_52 (lv_at hl 5 rfl) ?_
              obtain ⟨r_5, h_6, hf⟩ := xq_bd_some hf
              refine xq_callV (As := [.int x4_11]) (rest := []) (ci := 9) (q0 := 1) ⟨hx, hb, hml, hown, hts⟩ (kX9_at l dC dI cI cB cJ cZ cM z ad N ((txR 0)) tapeI tapeR tape_bytesF x4_11 h_6) (cwV 1 hts gX10_ownWord_X9_at rfl rfl rfl (by decide +kernel) ⟨Nat.le_of_ble_eq_true rfl, Nat.le_of_ble_eq_true rfl⟩) hN hK hP hD hS hA [1, 2] (by decide) rfl rfl rfl rfl rfl rfl hl.1 rfl (Nat.le_of_ble_eq_true rfl) dX10_ownWord_54 ⟨Nat.zero_le _, Nat.zero_le _⟩ (fun H locs hP hD hS => ?_)
              have hP : va_P (dC, dI) vwCl [(a_p0, .inr (10, oX10 txI txR)), ((txR 0), .inr (9, oX9 tapeI tapeR)), ((tapeR 0), .inl (cB, 1600, .inl tape_bytesF))] H := hP
              have hD : va_D A [(a_p0, .inr (10, oX10 txI txR)), ((txR 0), .inr (9, oX9 tapeI tapeR)), ((tapeR 0), .inl (cB, 1600, .inl tape_bytesF))] := hD
              refine W.eq (g2 := F0 m 57 ls [.int r_5]) rfl ?_
              refine lv_iload hx hb dX10_ownWord_57 (lv_at hl 0 rfl) ?_
              refine lv_icmp_ne (tgt := 66) hx hb dX10_ownWord_59 (by decide) (fun c_ => ?_) (fun c_ => ?_)
              · have hf := xq_neg hf c_
                exact b66 x1_11 x2_11 x3_11 x4_11 x6_11 _ _ _ hf hP hD hS (lv_sub hl [1, 2, 3, 4, 5, 7] rfl)
              · have hf := xq_pos hf c_
                refine lv_iconst (v := 1) hx hb dX10_ownWord_62 (by decide) ?_
                refine lv_goto (tgt := 67) hx hb dX10_ownWord_63 (by decide) ?_
                exact b67 x1_11 x2_11 x3_11 x4_11 x6_11 1 _ _ _ hf hP hD hS (lv_sub hl [1, 2, 3, 4, 5, 7] rfl)
  unfold fX10_ownWord at hf
  refine lv_iconst (v := 0) hx hb dX10_ownWord_0 (by decide) ?_
  refine lv_istore_n (lv' := [(3, .int 0), (0, .ref a_p0), (1, .int p1), (2, .int p2)]) hx hb dX10_ownWord_1 rfl hl (by decide) rfl (fun ls hl => ?_)
  refine lv_iload_n hx hb dX10_ownWord_2 rfl (lv_at hl 2 rfl) ?_
  refine lv_istore (lv' := [(4, .int p1), (3, .int 0), (0, .ref a_p0), (1, .int p1), (2, .int p2)]) hx hb dX10_ownWord_3 hl (by decide) rfl (fun ls hl => ?_)
  refine lv_iconst (v := 1) hx hb dX10_ownWord_5 (by decide) ?_
  refine lv_istore (lv' := [(5, .int 1), (4, .int p1), (3, .int 0), (0, .ref a_p0), (1, .int p1), (2, .int p2)]) hx hb dX10_ownWord_6 hl (by decide) rfl (fun ls hl => ?_)
  refine lv_iconst (v := 0) hx hb dX10_ownWord_8 (by decide) ?_
  refine lv_istore (lv' := [(6, .int 0), (5, .int 1), (4, .int p1), (3, .int 0), (0, .ref a_p0), (1, .int p1), (2, .int p2)]) hx hb dX10_ownWord_9 hl (by decide) rfl (fun ls hl => ?_)
  exact l11 N p1 p2 0 p1 1 0 _ _ _ hf hP hD hS (lv_sub hl [4, 5, 6, 3, 2, 1, 0] rfl)
set_option maxRecDepth 20000 in
theorem ggX10_addWord_X10_ownWord : GoodIn wsX10_addWord wsX10_ownWord := goodIn_r _ [5, 6, 7, 8, 9, 10, 11, 12, 13, 14, 15, 16, 17, 18, 19, 20, 21, 22, 23, 24, 25, 26, 27, 28, 29, 30, 31, 32, 33, 34, 35, 36, 37, 38, 39, 40, 41, 42, 43, 44, 45, 46, 47, 48, 49, 50, 51, 52, 53, 54, 55, 56, 57, 58, 59, 60, 61, 62, 75, 76, 77, 78, 79, 80, 81, 82, 83, 84] rfl (by decide +kernel)
set_option maxRecDepth 20000 in
theorem gX10_addWord_X10_ownWord : GoodIn wsX10_addWord (wsV RX10 84 RX10 yX10_ownWord wsX10_ownWord) := goodIn_app (goodIn_of _ (by decide +kernel)) ggX10_addWord_X10_ownWord
set_option maxRecDepth 20000 in
theorem ggX10_addWord_X10_nameOf : GoodIn wsX10_addWord wsX10_nameOf := goodIn_r _ [66, 6, 56, 57, 58, 59, 60, 61, 62, 75, 76, 77, 78, 79, 80, 81, 82, 83, 84] rfl (by decide +kernel)
set_option maxRecDepth 20000 in
theorem gX10_addWord_X10_nameOf : GoodIn wsX10_addWord (wsV RX10 87 RX10 yX10_nameOf wsX10_nameOf) := goodIn_app (goodIn_of _ (by decide +kernel)) ggX10_addWord_X10_nameOf
set_option maxRecDepth 20000 in
theorem ggX10_addWord_X10_addPiece : GoodIn wsX10_addWord wsX10_addPiece := goodIn_r _ [70, 71, 72, 73, 74, 75, 76, 77, 78, 79, 80, 81, 82] rfl (by decide +kernel)
set_option maxRecDepth 20000 in
theorem gX10_addWord_X10_addPiece : GoodIn wsX10_addWord (wsV RX10 55 RX10 yX10_addPiece wsX10_addPiece) := goodIn_app (goodIn_of _ (by decide +kernel)) ggX10_addWord_X10_addPiece
def dsX10_addWord_0 : List (Nat × Instr × Nat) := [(0, (.aload_n 0, 1)), (1, (.iload_n 1, 1)), (2, (.iload_n 2, 1)), (3, (.invokevirtual 84, 3)), (6, (.istore_n 3, 1)), (7, (.aload_n 0, 1)), (8, (.iload_n 3, 1)), (9, (.iconst (-1), 1)), (10, (.if_icmp .ne 8, 3)), (13, (.bipush (-4), 2)), (15, (.goto 8, 3)), (18, (.sipush 300, 3)), (21, (.iload_n 3, 1)), (22, (.iadd, 1)), (23, (.iload_n 1, 1)), (24, (.aload_n 0, 1)), (25, (.iload_n 1, 1)), (26, (.iload_n 2, 1)), (27, (.invokevirtual 87, 3)), (30, (.invokevirtual 55, 3)), (33, (.return_, 1))]
theorem dsX10_addWord_0_ok : (dsX10_addWord_0.all fun q => decide (decode cX10_addWord q.1 = .ok q.2)) = true := by decide +kernel
theorem dX10_addWord_0 : decode cX10_addWord 0 = .ok (.aload_n 0, 1) := of_decide_eq_true (List.all_eq_true.mp dsX10_addWord_0_ok (0, (.aload_n 0, 1)) (List.mem_of_getElem? (i := 0) rfl))
theorem dX10_addWord_1 : decode cX10_addWord 1 = .ok (.iload_n 1, 1) := of_decide_eq_true (List.all_eq_true.mp dsX10_addWord_0_ok (1, (.iload_n 1, 1)) (List.mem_of_getElem? (i := 1) rfl))
theorem dX10_addWord_2 : decode cX10_addWord 2 = .ok (.iload_n 2, 1) := of_decide_eq_true (List.all_eq_true.mp dsX10_addWord_0_ok (2, (.iload_n 2, 1)) (List.mem_of_getElem? (i := 2) rfl))
theorem dX10_addWord_3 : decode cX10_addWord 3 = .ok (.invokevirtual 84, 3) := of_decide_eq_true (List.all_eq_true.mp dsX10_addWord_0_ok (3, (.invokevirtual 84, 3)) (List.mem_of_getElem? (i := 3) rfl))
theorem dX10_addWord_6 : decode cX10_addWord 6 = .ok (.istore_n 3, 1) := of_decide_eq_true (List.all_eq_true.mp dsX10_addWord_0_ok (6, (.istore_n 3, 1)) (List.mem_of_getElem? (i := 4) rfl))
theorem dX10_addWord_7 : decode cX10_addWord 7 = .ok (.aload_n 0, 1) := of_decide_eq_true (List.all_eq_true.mp dsX10_addWord_0_ok (7, (.aload_n 0, 1)) (List.mem_of_getElem? (i := 5) rfl))
theorem dX10_addWord_8 : decode cX10_addWord 8 = .ok (.iload_n 3, 1) := of_decide_eq_true (List.all_eq_true.mp dsX10_addWord_0_ok (8, (.iload_n 3, 1)) (List.mem_of_getElem? (i := 6) rfl))
theorem dX10_addWord_9 : decode cX10_addWord 9 = .ok (.iconst (-1), 1) := of_decide_eq_true (List.all_eq_true.mp dsX10_addWord_0_ok (9, (.iconst (-1), 1)) (List.mem_of_getElem? (i := 7) rfl))
theorem dX10_addWord_10 : decode cX10_addWord 10 = .ok (.if_icmp .ne 8, 3) := of_decide_eq_true (List.all_eq_true.mp dsX10_addWord_0_ok (10, (.if_icmp .ne 8, 3)) (List.mem_of_getElem? (i := 8) rfl))
theorem dX10_addWord_13 : decode cX10_addWord 13 = .ok (.bipush (-4), 2) := of_decide_eq_true (List.all_eq_true.mp dsX10_addWord_0_ok (13, (.bipush (-4), 2)) (List.mem_of_getElem? (i := 9) rfl))
theorem dX10_addWord_15 : decode cX10_addWord 15 = .ok (.goto 8, 3) := of_decide_eq_true (List.all_eq_true.mp dsX10_addWord_0_ok (15, (.goto 8, 3)) (List.mem_of_getElem? (i := 10) rfl))
theorem dX10_addWord_18 : decode cX10_addWord 18 = .ok (.sipush 300, 3) := of_decide_eq_true (List.all_eq_true.mp dsX10_addWord_0_ok (18, (.sipush 300, 3)) (List.mem_of_getElem? (i := 11) rfl))
theorem dX10_addWord_21 : decode cX10_addWord 21 = .ok (.iload_n 3, 1) := of_decide_eq_true (List.all_eq_true.mp dsX10_addWord_0_ok (21, (.iload_n 3, 1)) (List.mem_of_getElem? (i := 12) rfl))
theorem dX10_addWord_22 : decode cX10_addWord 22 = .ok (.iadd, 1) := of_decide_eq_true (List.all_eq_true.mp dsX10_addWord_0_ok (22, (.iadd, 1)) (List.mem_of_getElem? (i := 13) rfl))
theorem dX10_addWord_23 : decode cX10_addWord 23 = .ok (.iload_n 1, 1) := of_decide_eq_true (List.all_eq_true.mp dsX10_addWord_0_ok (23, (.iload_n 1, 1)) (List.mem_of_getElem? (i := 14) rfl))
theorem dX10_addWord_24 : decode cX10_addWord 24 = .ok (.aload_n 0, 1) := of_decide_eq_true (List.all_eq_true.mp dsX10_addWord_0_ok (24, (.aload_n 0, 1)) (List.mem_of_getElem? (i := 15) rfl))
theorem dX10_addWord_25 : decode cX10_addWord 25 = .ok (.iload_n 1, 1) := of_decide_eq_true (List.all_eq_true.mp dsX10_addWord_0_ok (25, (.iload_n 1, 1)) (List.mem_of_getElem? (i := 16) rfl))
theorem dX10_addWord_26 : decode cX10_addWord 26 = .ok (.iload_n 2, 1) := of_decide_eq_true (List.all_eq_true.mp dsX10_addWord_0_ok (26, (.iload_n 2, 1)) (List.mem_of_getElem? (i := 17) rfl))
theorem dX10_addWord_27 : decode cX10_addWord 27 = .ok (.invokevirtual 87, 3) := of_decide_eq_true (List.all_eq_true.mp dsX10_addWord_0_ok (27, (.invokevirtual 87, 3)) (List.mem_of_getElem? (i := 18) rfl))
theorem dX10_addWord_30 : decode cX10_addWord 30 = .ok (.invokevirtual 55, 3) := of_decide_eq_true (List.all_eq_true.mp dsX10_addWord_0_ok (30, (.invokevirtual 55, 3)) (List.mem_of_getElem? (i := 19) rfl))
theorem dX10_addWord_33 : decode cX10_addWord 33 = .ok (.return_, 1) := of_decide_eq_true (List.all_eq_true.mp dsX10_addWord_0_ok (33, (.return_, 1)) (List.mem_of_getElem? (i := 20) rfl))
def fX10_addWord_b23 (N : Nat) (tapeI : Nat → Int32) (tape_bytesF : Nat → Int32) (tx_kindsN : Nat) (tx_startsN : Nat) (tx_valuesN : Nat)  : ((Nat → Int32) × (Nat → Int32) × (Nat → Int32) × (Nat → Int32) × Int32 × Int32 × Int32) → Option ((Nat → Int32) × (Nat → Int32) × (Nat → Int32) × (Nat → Int32)) :=
  fun (txI_23, tx_kindsF_23, tx_startsF_23, tx_valuesF_23, x1_23, x2_23, y1_23) => (xq_bd (fX10_nameOf N tapeI tape_bytesF x1_23 x2_23) fun r_1 => (xq_bd (fX10_addPiece N txI_23 tx_kindsF_23 tx_startsF_23 tx_valuesF_23 tx_kindsN tx_startsN tx_valuesN y1_23 x1_23 r_1) fun (r_3_0, r_3_1, r_3_2, r_3_3) => some ((r_3_0, r_3_1, r_3_2, r_3_3))))
def fX10_addWord (N : Nat) (txI : Nat → Int32) (tapeI : Nat → Int32) (tape_bytesF : Nat → Int32) (tx_kindsF : Nat → Int32) (tx_startsF : Nat → Int32) (tx_valuesF : Nat → Int32) (tx_kindsN : Nat) (tx_startsN : Nat) (tx_valuesN : Nat) (p1 : Int32) (p2 : Int32) : Option ((Nat → Int32) × (Nat → Int32) × (Nat → Int32) × (Nat → Int32)) :=
  (xq_bd (fX10_ownWord N tapeI tape_bytesF p1 p2) fun r_1 => (if r_1 = ((-1)) then fX10_addWord_b23 N tapeI tape_bytesF tx_kindsN tx_startsN tx_valuesN (txI, tx_kindsF, tx_startsF, tx_valuesF, p1, p2, (-4)) else fX10_addWord_b23 N tapeI tape_bytesF tx_kindsN tx_startsN tx_valuesN (txI, tx_kindsF, tx_startsF, tx_valuesF, p1, p2, 300 + r_1)))
set_option maxHeartbeats 4000000 in
set_option maxRecDepth 100000 in
theorem kX10_addWord (l : Launch) (dC : Nat → ClassId) (dI : Nat → Nat → Nat) (cI cB cJ cZ cM : ClassId) (z : Nat) (ad : Nat → Nat) (N : Nat) (a_p0 : Nat) (txI : Nat → Int32) (txR : Nat → Nat) (tapeI : Nat → Int32) (tapeR : Nat → Nat) (tape_bytesF : Nat → Int32) (tx_kindsF : Nat → Int32) (tx_kindsN : Nat) (tx_startsF : Nat → Int32) (tx_startsN : Nat) (tx_valuesF : Nat → Int32) (tx_valuesN : Nat) (p1 : Int32) (p2 : Int32) {r0 : Nat → Int32} {r1 : Nat → Int32} {r2 : Nat → Int32} {r3 : Nat → Int32} (hf : fX10_addWord N txI tapeI tape_bytesF tx_kindsF tx_startsF tx_valuesF tx_kindsN tx_startsN tx_valuesN p1 p2 = some (r0, r1, r2, r3)) : xq_Ct l yX10_addWord wsX10_addWord { frames := 5, cells := 0, slots := 0, locals := 112 } (dC, dI) vwCl (xq_tys cI cB cJ cZ cM) z ad [.ref a_p0, .int p1, .int p2] [(a_p0, .inr (10, oX10 txI txR)), ((txR 0), .inr (9, oX9 tapeI tapeR)), ((tapeR 0), .inl (cB, 1600, .inl tape_bytesF)), ((txR 1), .inl (cI, tx_kindsN, .inl tx_kindsF)), ((txR 2), .inl (cI, tx_startsN, .inl tx_startsF)), ((txR 3), .inl (cI, tx_valuesN, .inl tx_valuesF))] [(a_p0, .inr (10, oX10 r0 txR)), ((txR 0), .inr (9, oX9 tapeI tapeR)), ((tapeR 0), .inl (cB, 1600, .inl tape_bytesF)), ((txR 1), .inl (cI, tx_kindsN, .inl r1)), ((txR 2), .inl (cI, tx_startsN, .inl r2)), ((txR 3), .inl (cI, tx_valuesN, .inl r3))] none := by
  intro sz
  refine Met.ofW (cc := cX10_addWord) (maxL := 4) (ret := none) (by decide) rfl ?_
  intro p e s m args below meth c s₁ B hml hv
  obtain ⟨rfl, hsz, hP, hK, hD0, hE, hz⟩ := hv
  have hx := B.exec
  have hb := B.bytes
  have hr := B.returns
  have hts := atoms_spec (ws := wsX10_addWord) B.pre
  have hown : s.vm.findClass RX10 = some m.cls := findClass_of_methodNamed B.named
  have hlocks := B.notSynchronized
  subst hsz
  have hD := hD0.self (sz := s.heap.size)
  have hN := xq_Env.of hE hz hD0
  generalize hAe : va_A [(a_p0, .inr (10, oX10 txI txR)), ((txR 0), .inr (9, oX9 tapeI tapeR)), ((tapeR 0), .inl (cB, 1600, .inl tape_bytesF)), ((txR 1), .inl (cI, tx_kindsN, .inl tx_kindsF)), ((txR 2), .inl (cI, tx_startsN, .inl tx_startsF)), ((txR 3), .inl (cI, tx_valuesN, .inl tx_valuesF))] s.heap.size = A at hD hN ⊢
  have hA : ∀ q : Nat, s.heap.size ≤ q → A q := fun q h => by rw [← hAe]; exact Or.inr h
  clear hAe hD0
  have hS : va_S A s.heap s.heap [] := va_S.rf
  have hl := lv_entry ([.ref a_p0, .int p1, .int p2]) (n := 4) (Nat.le_of_ble_eq_true rfl)
  rw [lg_entry_eq]
  generalize (lg_sl ([.ref a_p0, .int p1, .int p2]) ++ List.replicate (4 - (lg_sl ([.ref a_p0, .int p1, .int p2])).length) Slot.unset).toArray = ls at hl ⊢
  have hl : lv_has ls 4 [(0, .ref a_p0), (1, .int p1), (2, .int p2)] := hl
  have b23 : ∀ (txI_23 : Nat → Int32) (tx_kindsF_23 : Nat → Int32) (tx_startsF_23 : Nat → Int32) (tx_valuesF_23 : Nat → Int32) (x1_23 : Int32) (x2_23 : Int32) (y1_23 : Int32) (ls : Array Slot) (H : Heap) (locs : List Loc), fX10_addWord_b23 N tapeI tape_bytesF tx_kindsN tx_startsN tx_valuesN (txI_23, tx_kindsF_23, tx_startsF_23, tx_valuesF_23, x1_23, x2_23, y1_23) = some (r0, r1, r2, r3) → va_P (dC, dI) vwCl [(a_p0, .inr (10, oX10 txI_23 txR)), ((txR 0), .inr (9, oX9 tapeI tapeR)), ((tapeR 0), .inl (cB, 1600, .inl tape_bytesF)), ((txR 1), .inl (cI, tx_kindsN, .inl tx_kindsF_23)), ((txR 2), .inl (cI, tx_startsN, .inl tx_startsF_23)), ((txR 3), .inl (cI, tx_valuesN, .inl tx_valuesF_23))] H → va_D A [(a_p0, .inr (10, oX10 txI_23 txR)), ((txR 0), .inr (9, oX9 tapeI tapeR)), ((tapeR 0), .inl (cB, 1600, .inl tape_bytesF)), ((txR 1), .inl (cI, tx_kindsN, .inl tx_kindsF_23)), ((txR 2), .inl (cI, tx_startsN, .inl tx_startsF_23)), ((txR 3), .inl (cI, tx_valuesN, .inl tx_valuesF_23))] → va_S A s.heap H locs → lv_has ls 4 [(0, .ref a_p0), (1, .int x1_23), (2, .int x2_23)] → W p l e (headSpec wsX10_addWord { frames := 5, cells := 0, slots := 0, locals := 112 }).room s m [.ref a_p0, .int p1, .int p2].toArray below meth c H locs 0 0 (MQ below (xq_Q (dC, dI) vwCl (xq_tys cI cB cJ cZ cM) A [(a_p0, .inr (10, oX10 r0 txR)), ((txR 0), .inr (9, oX9 tapeI tapeR)), ((tapeR 0), .inl (cB, 1600, .inl tape_bytesF)), ((txR 1), .inl (cI, tx_kindsN, .inl r1)), ((txR 2), .inl (cI, tx_startsN, .inl r2)), ((txR 3), .inl (cI, tx_valuesN, .inl r3))] none) [.ref a_p0, .int p1, .int p2].toArray s 0 0 A) (F0 m 23 ls [.int y1_23, .ref a_p0]) := by
    intro txI_23 tx_kindsF_23 tx_startsF_23 tx_valuesF_23 x1_23 x2_23 y1_23 ls H locs hf hP hD hS hl
    unfold fX10_addWord_b23 at hf
    refine lv_iload_n hx hb dX10_addWord_23 rfl (lv_at hl 1 rfl) ?_
    refine lv_aload_n hx hb dX10_addWord_24 rfl (lv_at hl 0 rfl) ?_
    refine lv_iload_n hx hb dX10_addWord_25 rfl (lv_at hl 1 rfl) ?_
    refine lv_iload_n hx hb dX10_addWord_26 rfl (lv_at hl 2 rfl) ?_
    obtain ⟨r_1, h_2, hf⟩ := xq_bd_some hf
    refine xq_callV (As := [.int x1_23, .int x2_23]) (rest := [.int x1_23, .int y1_23, .ref a_p0]) (ci := 10) (q0 := 0) ⟨hx, hb, hml, hown, hts⟩ (kX10_nameOf l dC dI cI cB cJ cZ cM z ad N a_p0 txI_23 txR tapeI tapeR tape_bytesF x1_23 x2_23 h_2) (cwV 2 hts gX10_addWord_X10_nameOf rfl rfl rfl (by decide +kernel) ⟨Nat.le_of_ble_eq_true rfl, Nat.le_of_ble_eq_true rfl⟩) hN hK hP hD hS hA [0, 1, 2] (by decide) rfl rfl rfl rfl rfl rfl hl.1 rfl (Nat.le_of_ble_eq_true rfl) dX10_addWord_27 ⟨Nat.zero_le _, Nat.zero_le _⟩ (fun H locs hP hD hS => ?_)
    have hP : va_P (dC, dI) vwCl [(a_p0, .inr (10, oX10 txI_23 txR)), ((txR 0), .inr (9, oX9 tapeI tapeR)), ((tapeR 0), .inl (cB, 1600, .inl tape_bytesF)), ((txR 1), .inl (cI, tx_kindsN, .inl tx_kindsF_23)), ((txR 2), .inl (cI, tx_startsN, .inl tx_startsF_23)), ((txR 3), .inl (cI, tx_valuesN, .inl tx_valuesF_23))] H := hP
    have hD : va_D A [(a_p0, .inr (10, oX10 txI_23 txR)), ((txR 0), .inr (9, oX9 tapeI tapeR)), ((tapeR 0), .inl (cB, 1600, .inl tape_bytesF)), ((txR 1), .inl (cI, tx_kindsN, .inl tx_kindsF_23)), ((txR 2), .inl (cI, tx_startsN, .inl tx_startsF_23)), ((txR 3), .inl (cI, tx_valuesN, .inl tx_valuesF_23))] := hD
    refine W.eq (g2 := F0 m 30 ls [.int r_1, .int x1_23, .int y1_23, .ref a_p0]) rfl ?_
    obtain ⟨⟨r_3_0, r_3_1, r_3_2, r_3_3⟩, h_4, hf⟩ := xq_bd_some hf
    refine xq_callV (As := [.int y1_23, .int x1_23, .int r_1]) (rest := []) (ci := 10) (q0 := 0) ⟨hx, hb, hml, hown, hts⟩ (kX10_addPiece l dC dI cI cB cJ cZ cM z ad N a_p0 txI_23 txR tx_kindsF_23 tx_kindsN tx_startsF_23 tx_startsN tx_valuesF_23 tx_valuesN y1_23 x1_23 r_1 h_4) (cwV 3 hts gX10_addWord_X10_addPiece rfl rfl rfl (by decide +kernel) ⟨Nat.le_of_ble_eq_true rfl, Nat.le_of_ble_eq_true rfl⟩) hN hK hP hD hS hA [0, 3, 4, 5] (by decide) rfl rfl rfl rfl rfl rfl hl.1 rfl (Nat.le_of_ble_eq_true rfl) dX10_addWord_30 ⟨Nat.zero_le _, Nat.zero_le _⟩ (fun H locs hP hD hS => ?_)
    have hP : va_P (dC, dI) vwCl [(a_p0, .inr (10, oX10 r_3_0 txR)), ((txR 0), .inr (9, oX9 tapeI tapeR)), ((tapeR 0), .inl (cB, 1600, .inl tape_bytesF)), ((txR 1), .inl (cI, tx_kindsN, .inl r_3_1)), ((txR 2), .inl (cI, tx_startsN, .inl r_3_2)), ((txR 3), .inl (cI, tx_valuesN, .inl r_3_3))] H := hP
    have hD : va_D A [(a_p0, .inr (10, oX10 r_3_0 txR)), ((txR 0), .inr (9, oX9 tapeI tapeR)), ((tapeR 0), .inl (cB, 1600, .inl tape_bytesF)), ((txR 1), .inl (cI, tx_kindsN, .inl r_3_1)), ((txR 2), .inl (cI, tx_startsN, .inl r_3_2)), ((txR 3), .inl (cI, tx_valuesN, .inl r_3_3))] := hD
    refine W.eq (g2 := F0 m 33 ls []) rfl ?_
    cases hf
    exact xq_vret hx hb hr hlocks hK hP hD hS dX10_addWord_33
  unfold fX10_addWord at hf
  refine lv_aload_n hx hb dX10_addWord_0 rfl (lv_at hl 0 rfl) ?_
  refine lv_iload_n hx hb dX10_addWord_1 rfl (lv_at hl 1 rfl) ?_
  refine lv_iload_n hx hb dX10_addWord_2 rfl (lv_at hl 2 rfl) ?_
  obtain ⟨r_1, h_2, hf⟩ := xq_bd_some hf
  refine xq_callV (As := [.int p1, .int p2]) (rest := []) (ci := 10) (q0 := 0) ⟨hx, hb, hml, hown, hts⟩ (kX10_ownWord l dC dI cI cB cJ cZ cM z ad N a_p0 txI txR tapeI tapeR tape_bytesF p1 p2 h_2) (cwV 2 hts gX10_addWord_X10_ownWord rfl rfl rfl (by decide +kernel) ⟨Nat.le_of_ble_eq_true rfl, Nat.le_of_ble_eq_true rfl⟩) hN hK hP hD hS hA [0, 1, 2] (by decide) rfl rfl rfl rfl rfl rfl hl.1 rfl (Nat.le_of_ble_eq_true rfl) dX10_addWord_3 ⟨Nat.zero_le _, Nat.zero_le _⟩ (fun H locs hP hD hS => ?_)
  have hP : va_P (dC, dI) vwCl [(a_p0, .inr (10, oX10 txI txR)), ((txR 0), .inr (9, oX9 tapeI tapeR)), ((tapeR 0), .inl (cB, 1600, .inl tape_bytesF)), ((txR 1), .inl (cI, tx_kindsN, .inl tx_kindsF)), ((txR 2), .inl (cI, tx_startsN, .inl tx_startsF)), ((txR 3), .inl (cI, tx_valuesN, .inl tx_valuesF))] H := hP
  have hD : va_D A [(a_p0, .inr (10, oX10 txI txR)), ((txR 0), .inr (9, oX9 tapeI tapeR)), ((tapeR 0), .inl (cB, 1600, .inl tape_bytesF)), ((txR 1), .inl (cI, tx_kindsN, .inl tx_kindsF)), ((txR 2), .inl (cI, tx_startsN, .inl tx_startsF)), ((txR 3), .inl (cI, tx_valuesN, .inl tx_valuesF))] := hD
  refine W.eq (g2 := F0 m 6 ls [.int r_1]) rfl ?_
  refine lv_istore_n (lv' := [(3, .int r_1), (0, .ref a_p0), (1, .int p1), (2, .int p2)]) hx hb dX10_addWord_6 rfl hl (by decide) rfl (fun ls hl => ?_)
  refine lv_aload_n hx hb dX10_addWord_7 rfl (lv_at hl 1 rfl) ?_
  refine lv_iload_n hx hb dX10_addWord_8 rfl (lv_at hl 0 rfl) ?_
  refine lv_iconst (v := (-1)) hx hb dX10_addWord_9 (by decide) ?_
  refine lv_icmp_ne (tgt := 18) hx hb dX10_addWord_10 (by decide) (fun c_ => ?_) (fun c_ => ?_)
  · have hf := xq_neg hf c_
    refine lv_sipush (v := 300) hx hb dX10_addWord_18 (by decide) ?_
    refine lv_iload_n hx hb dX10_addWord_21 rfl (lv_at hl 0 rfl) ?_
    refine lv_iadd hx hb dX10_addWord_22 ?_
    exact b23 txI tx_kindsF tx_startsF tx_valuesF p1 p2 (300 + r_1) _ _ _ hf hP hD hS (lv_sub hl [1, 2, 3] rfl)
  · have hf := xq_pos hf c_
    refine lv_bipush (v := (-4)) hx hb dX10_addWord_13 (by decide) ?_
    refine lv_goto (tgt := 23) hx hb dX10_addWord_15 (by decide) ?_
    exact b23 txI tx_kindsF tx_startsF tx_valuesF p1 p2 ((-4)) _ _ _ hf hP hD hS (lv_sub hl [1, 2, 3] rfl)
set_option maxRecDepth 20000 in
theorem ggX10_readPiece_X9_at : GoodIn wsX10_readPiece wsX9_at := goodIn_r _ [6, 7, 8, 162, 163] rfl (by decide +kernel)
set_option maxRecDepth 20000 in
theorem gX10_readPiece_X9_at : GoodIn wsX10_readPiece (wsV RX10 43 RX9 yX9_at wsX9_at) := goodIn_app (goodIn_of _ (by decide +kernel)) ggX10_readPiece_X9_at
set_option maxRecDepth 20000 in
theorem ggX10_readPiece_X10_addPiece : GoodIn wsX10_readPiece wsX10_addPiece := goodIn_r _ [13, 14, 15, 16, 17, 154, 155, 156, 157, 158, 159, 160, 161] rfl (by decide +kernel)
set_option maxRecDepth 20000 in
theorem gX10_readPiece_X10_addPiece : GoodIn wsX10_readPiece (wsV RX10 55 RX10 yX10_addPiece wsX10_addPiece) := goodIn_app (goodIn_of _ (by decide +kernel)) ggX10_readPiece_X10_addPiece
set_option maxRecDepth 20000 in
theorem ggX10_readPiece_X10_isLetter : GoodIn wsX10_readPiece wsX10_isLetter := goodIn_r _ [20] rfl (by decide +kernel)
set_option maxRecDepth 20000 in
theorem gX10_readPiece_X10_isLetter : GoodIn wsX10_readPiece (va_wsS RX10 59 yX10_isLetter wsX10_isLetter) := goodIn_app (goodIn_of _ (by decide +kernel)) ggX10_readPiece_X10_isLetter
set_option maxRecDepth 20000 in
theorem ggX10_readPiece_X10_isFigure : GoodIn wsX10_readPiece wsX10_isFigure := goodIn_r _ [23] rfl (by decide +kernel)
set_option maxRecDepth 20000 in
theorem gX10_readPiece_X10_isFigure : GoodIn wsX10_readPiece (va_wsS RX10 62 yX10_isFigure wsX10_isFigure) := goodIn_app (goodIn_of _ (by decide +kernel)) ggX10_readPiece_X10_isFigure
set_option maxRecDepth 20000 in
theorem ggX10_readPiece_J0_indexOf_0f7a4 : GoodIn wsX10_readPiece wsJ0_indexOf_0f7a4 := goodIn_r _ [28, 29, 30, 31, 27, 32, 33, 34, 35, 36, 37, 38, 39, 40, 41, 42, 43, 44, 45, 46, 47, 48, 49, 50, 51, 52, 53, 54, 55, 56, 57, 58, 59, 60, 61, 62, 63, 64, 65, 66, 67, 68, 69, 70, 71, 72, 73, 74, 75, 76, 77, 78, 79, 80, 81, 82, 83, 84, 85, 86, 87, 88, 89, 90, 91, 92, 93, 94, 95, 96, 97, 98, 99, 100, 101, 102, 103, 104, 105, 106, 107, 108, 109, 110, 111, 112] rfl (by decide +kernel)
set_option maxRecDepth 20000 in
theorem gX10_readPiece_J0_indexOf_0f7a4 : GoodIn wsX10_readPiece (wsV RX10 67 RJ0 yJ0_indexOf_0f7a4 wsJ0_indexOf_0f7a4) := goodIn_app (goodIn_of _ (by decide +kernel)) ggX10_readPiece_J0_indexOf_0f7a4
set_option maxRecDepth 20000 in
theorem ggX10_readPiece_X10_endsInWordOrNumber : GoodIn wsX10_readPiece wsX10_endsInWordOrNumber := goodIn_r _ [116, 14, 15, 154, 155, 156, 157, 158, 159, 160, 161] rfl (by decide +kernel)
set_option maxRecDepth 20000 in
theorem gX10_readPiece_X10_endsInWordOrNumber : GoodIn wsX10_readPiece (wsV RX10 72 RX10 yX10_endsInWordOrNumber wsX10_endsInWordOrNumber) := goodIn_app (goodIn_of _ (by decide +kernel)) ggX10_readPiece_X10_endsInWordOrNumber
set_option maxRecDepth 20000 in
theorem ggX10_readPiece_X10_addWord : GoodIn wsX10_readPiece wsX10_addWord := goodIn_r _ [120, 121, 122, 123, 12, 124, 1, 125, 41, 42, 27, 43, 33, 44, 45, 46, 47, 38, 39, 126, 127, 128, 129, 34, 35, 36, 37, 130, 131, 50, 132, 133, 134, 135, 84, 136, 137, 87, 138, 139, 140, 67, 141, 142, 143, 144, 78, 79, 80, 145, 92, 93, 94, 95, 96, 97, 2, 3, 4, 5, 6, 7, 8, 146, 147, 148, 149, 9, 10, 11, 13, 14, 15, 16, 17, 154, 155, 156, 157, 158, 159, 160, 161, 162, 163] rfl (by decide +kernel)
set_option maxRecDepth 20000 in
theorem gX10_readPiece_X10_addWord : GoodIn wsX10_readPiece (wsV RX10 76 RX10 yX10_addWord wsX10_addWord) := goodIn_app (goodIn_of _ (by decide +kernel)) ggX10_readPiece_X10_addWord
set_option maxRecDepth 20000 in
theorem ggX10_readPiece_X10_numberOf : GoodIn wsX10_readPiece wsX10_numberOf := goodIn_r _ [153, 1, 2, 3, 4, 5, 6, 7, 8, 154, 155, 156, 157, 158, 159, 160, 161, 162, 163] rfl (by decide +kernel)
set_option maxRecDepth 20000 in
theorem gX10_readPiece_X10_numberOf : GoodIn wsX10_readPiece (wsV RX10 80 RX10 yX10_numberOf wsX10_numberOf) := goodIn_app (goodIn_of _ (by decide +kernel)) ggX10_readPiece_X10_numberOf
def dsX10_readPiece_0 : List (Nat × Instr × Nat) := [(0, (.aload_n 0, 1)), (1, (.getfield 24, 3)), (4, (.iload_n 1, 1)), (5, (.invokevirtual 43, 3)), (8, (.istore_n 3, 1)), (9, (.iload_n 3, 1)), (10, (.iconst (-1), 1)), (11, (.if_icmp .ne 12, 3)), (14, (.aload_n 0, 1)), (15, (.iconst (-1), 1)), (16, (.iload_n 1, 1)), (17, (.iconst 0, 1)), (18, (.invokevirtual 55, 3)), (21, (.iload_n 1, 1)), (22, (.ireturn, 1)), (23, (.iload_n 3, 1)), (24, (.invokestatic 59, 3)), (27, (.istore 4, 2)), (29, (.iload 4, 2)), (31, (.ifCond .ne 36, 3)), (34, (.iload_n 3, 1)), (35, (.invokestatic 62, 3)), (38, (.ifCond .ne 29, 3)), (41, (.aload_n 0, 1)), (42, (.ldc 65, 2)), (44, (.iload_n 3, 1)), (45, (.i2c, 1)), (46, (.invokevirtual 67, 3)), (49, (.ifCond .ge 8, 3)), (52, (.bipush (-2), 2)), (54, (.goto 4, 3)), (57, (.iload_n 3, 1)), (58, (.iload_n 1, 1)), (59, (.iload_n 1, 1)), (60, (.invokevirtual 55, 3)), (63, (.iload_n 1, 1)), (64, (.iconst 1, 1)), (65, (.iadd, 1)), (66, (.ireturn, 1)), (67, (.iload_n 1, 1)), (68, (.istore 5, 2)), (70, (.iload 5, 2)), (72, (.aload_n 0, 1)), (73, (.getfield 24, 3)), (76, (.getfield 28, 3)), (79, (.if_icmp .ge 47, 3)), (82, (.iload 4, 2)), (84, (.ifCond .eq 21, 3)), (87, (.aload_n 0, 1)), (88, (.getfield 24, 3)), (91, (.iload 5, 2)), (93, (.invokevirtual 43, 3)), (96, (.invokestatic 59, 3)), (99, (.ifCond .eq 27, 3)), (102, (.goto 18, 3)), (105, (.aload_n 0, 1)), (106, (.getfield 24, 3)), (109, (.iload 5, 2)), (111, (.invokevirtual 43, 3)), (114, (.invokestatic 62, 3))]
theorem dsX10_readPiece_0_ok : (dsX10_readPiece_0.all fun q => decide (decode cX10_readPiece q.1 = .ok q.2)) = true := by decide +kernel
theorem dX10_readPiece_0 : decode cX10_readPiece 0 = .ok (.aload_n 0, 1) := of_decide_eq_true (List.all_eq_true.mp dsX10_readPiece_0_ok (0, (.aload_n 0, 1)) (List.mem_of_getElem? (i := 0) rfl))
theorem dX10_readPiece_1 : decode cX10_readPiece 1 = .ok (.getfield 24, 3) := of_decide_eq_true (List.all_eq_true.mp dsX10_readPiece_0_ok (1, (.getfield 24, 3)) (List.mem_of_getElem? (i := 1) rfl))
theorem dX10_readPiece_4 : decode cX10_readPiece 4 = .ok (.iload_n 1, 1) := of_decide_eq_true (List.all_eq_true.mp dsX10_readPiece_0_ok (4, (.iload_n 1, 1)) (List.mem_of_getElem? (i := 2) rfl))
theorem dX10_readPiece_5 : decode cX10_readPiece 5 = .ok (.invokevirtual 43, 3) := of_decide_eq_true (List.all_eq_true.mp dsX10_readPiece_0_ok (5, (.invokevirtual 43, 3)) (List.mem_of_getElem? (i := 3) rfl))
theorem dX10_readPiece_8 : decode cX10_readPiece 8 = .ok (.istore_n 3, 1) := of_decide_eq_true (List.all_eq_true.mp dsX10_readPiece_0_ok (8, (.istore_n 3, 1)) (List.mem_of_getElem? (i := 4) rfl))
theorem dX10_readPiece_9 : decode cX10_readPiece 9 = .ok (.iload_n 3, 1) := of_decide_eq_true (List.all_eq_true.mp dsX10_readPiece_0_ok (9, (.iload_n 3, 1)) (List.mem_of_getElem? (i := 5) rfl))
theorem dX10_readPiece_10 : decode cX10_readPiece 10 = .ok (.iconst (-1), 1) := of_decide_eq_true (List.all_eq_true.mp dsX10_readPiece_0_ok (10, (.iconst (-1), 1)) (List.mem_of_getElem? (i := 6) rfl))
theorem dX10_readPiece_11 : decode cX10_readPiece 11 = .ok (.if_icmp .ne 12, 3) := of_decide_eq_true (List.all_eq_true.mp dsX10_readPiece_0_ok (11, (.if_icmp .ne 12, 3)) (List.mem_of_getElem? (i := 7) rfl))
theorem dX10_readPiece_14 : decode cX10_readPiece 14 = .ok (.aload_n 0, 1) := of_decide_eq_true (List.all_eq_true.mp dsX10_readPiece_0_ok (14, (.aload_n 0, 1)) (List.mem_of_getElem? (i := 8) rfl))
theorem dX10_readPiece_15 : decode cX10_readPiece 15 = .ok (.iconst (-1), 1) := of_decide_eq_true (List.all_eq_true.mp dsX10_readPiece_0_ok (15, (.iconst (-1), 1)) (List.mem_of_getElem? (i := 9) rfl))
theorem dX10_readPiece_16 : decode cX10_readPiece 16 = .ok (.iload_n 1, 1) := of_decide_eq_true (List.all_eq_true.mp dsX10_readPiece_0_ok (16, (.iload_n 1, 1)) (List.mem_of_getElem? (i := 10) rfl))
theorem dX10_readPiece_17 : decode cX10_readPiece 17 = .ok (.iconst 0, 1) := of_decide_eq_true (List.all_eq_true.mp dsX10_readPiece_0_ok (17, (.iconst 0, 1)) (List.mem_of_getElem? (i := 11) rfl))
theorem dX10_readPiece_18 : decode cX10_readPiece 18 = .ok (.invokevirtual 55, 3) := of_decide_eq_true (List.all_eq_true.mp dsX10_readPiece_0_ok (18, (.invokevirtual 55, 3)) (List.mem_of_getElem? (i := 12) rfl))
theorem dX10_readPiece_21 : decode cX10_readPiece 21 = .ok (.iload_n 1, 1) := of_decide_eq_true (List.all_eq_true.mp dsX10_readPiece_0_ok (21, (.iload_n 1, 1)) (List.mem_of_getElem? (i := 13) rfl))
theorem dX10_readPiece_22 : decode cX10_readPiece 22 = .ok (.ireturn, 1) := of_decide_eq_true (List.all_eq_true.mp dsX10_readPiece_0_ok (22, (.ireturn, 1)) (List.mem_of_getElem? (i := 14) rfl))
theorem dX10_readPiece_23 : decode cX10_readPiece 23 = .ok (.iload_n 3, 1) := of_decide_eq_true (List.all_eq_true.mp dsX10_readPiece_0_ok (23, (.iload_n 3, 1)) (List.mem_of_getElem? (i := 15) rfl))
theorem dX10_readPiece_24 : decode cX10_readPiece 24 = .ok (.invokestatic 59, 3) := of_decide_eq_true (List.all_eq_true.mp dsX10_readPiece_0_ok (24, (.invokestatic 59, 3)) (List.mem_of_getElem? (i := 16) rfl))
theorem dX10_readPiece_27 : decode cX10_readPiece 27 = .ok (.istore 4, 2) := of_decide_eq_true (List.all_eq_true.mp dsX10_readPiece_0_ok (27, (.istore 4, 2)) (List.mem_of_getElem? (i := 17) rfl))
theorem dX10_readPiece_29 : decode cX10_readPiece 29 = .ok (.iload 4, 2) := of_decide_eq_true (List.all_eq_true.mp dsX10_readPiece_0_ok (29, (.iload 4, 2)) (List.mem_of_getElem? (i := 18) rfl))
theorem dX10_readPiece_31 : decode cX10_readPiece 31 = .ok (.ifCond .ne 36, 3) := of_decide_eq_true (List.all_eq_true.mp dsX10_readPiece_0_ok (31, (.ifCond .ne 36, 3)) (List.mem_of_getElem? (i := 19) rfl))
theorem dX10_readPiece_34 : decode cX10_readPiece 34 = .ok (.iload_n 3, 1) := of_decide_eq_true (List.all_eq_true.mp dsX10_readPiece_0_ok (34, (.iload_n 3, 1)) (List.mem_of_getElem? (i := 20) rfl))
theorem dX10_readPiece_35 : decode cX10_readPiece 35 = .ok (.invokestatic 62, 3) := of_decide_eq_true (List.all_eq_true.mp dsX10_readPiece_0_ok (35, (.invokestatic 62, 3)) (List.mem_of_getElem? (i := 21) rfl))
theorem dX10_readPiece_38 : decode cX10_readPiece 38 = .ok (.ifCond .ne 29, 3) := of_decide_eq_true (List.all_eq_true.mp dsX10_readPiece_0_ok (38, (.ifCond .ne 29, 3)) (List.mem_of_getElem? (i := 22) rfl))
theorem dX10_readPiece_41 : decode cX10_readPiece 41 = .ok (.aload_n 0, 1) := of_decide_eq_true (List.all_eq_true.mp dsX10_readPiece_0_ok (41, (.aload_n 0, 1)) (List.mem_of_getElem? (i := 23) rfl))
theorem dX10_readPiece_42 : decode cX10_readPiece 42 = .ok (.ldc 65, 2) := of_decide_eq_true (List.all_eq_true.mp dsX10_readPiece_0_ok (42, (.ldc 65, 2)) (List.mem_of_getElem? (i := 24) rfl))
theorem dX10_readPiece_44 : decode cX10_readPiece 44 = .ok (.iload_n 3, 1) := of_decide_eq_true (List.all_eq_true.mp dsX10_readPiece_0_ok (44, (.iload_n 3, 1)) (List.mem_of_getElem? (i := 25) rfl))
theorem dX10_readPiece_45 : decode cX10_readPiece 45 = .ok (.i2c, 1) := of_decide_eq_true (List.all_eq_true.mp dsX10_readPiece_0_ok (45, (.i2c, 1)) (List.mem_of_getElem? (i := 26) rfl))
theorem dX10_readPiece_46 : decode cX10_readPiece 46 = .ok (.invokevirtual 67, 3) := of_decide_eq_true (List.all_eq_true.mp dsX10_readPiece_0_ok (46, (.invokevirtual 67, 3)) (List.mem_of_getElem? (i := 27) rfl))
theorem dX10_readPiece_49 : decode cX10_readPiece 49 = .ok (.ifCond .ge 8, 3) := of_decide_eq_true (List.all_eq_true.mp dsX10_readPiece_0_ok (49, (.ifCond .ge 8, 3)) (List.mem_of_getElem? (i := 28) rfl))
theorem dX10_readPiece_52 : decode cX10_readPiece 52 = .ok (.bipush (-2), 2) := of_decide_eq_true (List.all_eq_true.mp dsX10_readPiece_0_ok (52, (.bipush (-2), 2)) (List.mem_of_getElem? (i := 29) rfl))
theorem dX10_readPiece_54 : decode cX10_readPiece 54 = .ok (.goto 4, 3) := of_decide_eq_true (List.all_eq_true.mp dsX10_readPiece_0_ok (54, (.goto 4, 3)) (List.mem_of_getElem? (i := 30) rfl))
theorem dX10_readPiece_57 : decode cX10_readPiece 57 = .ok (.iload_n 3, 1) := of_decide_eq_true (List.all_eq_true.mp dsX10_readPiece_0_ok (57, (.iload_n 3, 1)) (List.mem_of_getElem? (i := 31) rfl))
theorem dX10_readPiece_58 : decode cX10_readPiece 58 = .ok (.iload_n 1, 1) := of_decide_eq_true (List.all_eq_true.mp dsX10_readPiece_0_ok (58, (.iload_n 1, 1)) (List.mem_of_getElem? (i := 32) rfl))
theorem dX10_readPiece_59 : decode cX10_readPiece 59 = .ok (.iload_n 1, 1) := of_decide_eq_true (List.all_eq_true.mp dsX10_readPiece_0_ok (59, (.iload_n 1, 1)) (List.mem_of_getElem? (i := 33) rfl))
theorem dX10_readPiece_60 : decode cX10_readPiece 60 = .ok (.invokevirtual 55, 3) := of_decide_eq_true (List.all_eq_true.mp dsX10_readPiece_0_ok (60, (.invokevirtual 55, 3)) (List.mem_of_getElem? (i := 34) rfl))
theorem dX10_readPiece_63 : decode cX10_readPiece 63 = .ok (.iload_n 1, 1) := of_decide_eq_true (List.all_eq_true.mp dsX10_readPiece_0_ok (63, (.iload_n 1, 1)) (List.mem_of_getElem? (i := 35) rfl))
theorem dX10_readPiece_64 : decode cX10_readPiece 64 = .ok (.iconst 1, 1) := of_decide_eq_true (List.all_eq_true.mp dsX10_readPiece_0_ok (64, (.iconst 1, 1)) (List.mem_of_getElem? (i := 36) rfl))
theorem dX10_readPiece_65 : decode cX10_readPiece 65 = .ok (.iadd, 1) := of_decide_eq_true (List.all_eq_true.mp dsX10_readPiece_0_ok (65, (.iadd, 1)) (List.mem_of_getElem? (i := 37) rfl))
theorem dX10_readPiece_66 : decode cX10_readPiece 66 = .ok (.ireturn, 1) := of_decide_eq_true (List.all_eq_true.mp dsX10_readPiece_0_ok (66, (.ireturn, 1)) (List.mem_of_getElem? (i := 38) rfl))
theorem dX10_readPiece_67 : decode cX10_readPiece 67 = .ok (.iload_n 1, 1) := of_decide_eq_true (List.all_eq_true.mp dsX10_readPiece_0_ok (67, (.iload_n 1, 1)) (List.mem_of_getElem? (i := 39) rfl))
theorem dX10_readPiece_68 : decode cX10_readPiece 68 = .ok (.istore 5, 2) := of_decide_eq_true (List.all_eq_true.mp dsX10_readPiece_0_ok (68, (.istore 5, 2)) (List.mem_of_getElem? (i := 40) rfl))
theorem dX10_readPiece_70 : decode cX10_readPiece 70 = .ok (.iload 5, 2) := of_decide_eq_true (List.all_eq_true.mp dsX10_readPiece_0_ok (70, (.iload 5, 2)) (List.mem_of_getElem? (i := 41) rfl))
theorem dX10_readPiece_72 : decode cX10_readPiece 72 = .ok (.aload_n 0, 1) := of_decide_eq_true (List.all_eq_true.mp dsX10_readPiece_0_ok (72, (.aload_n 0, 1)) (List.mem_of_getElem? (i := 42) rfl))
theorem dX10_readPiece_73 : decode cX10_readPiece 73 = .ok (.getfield 24, 3) := of_decide_eq_true (List.all_eq_true.mp dsX10_readPiece_0_ok (73, (.getfield 24, 3)) (List.mem_of_getElem? (i := 43) rfl))
theorem dX10_readPiece_76 : decode cX10_readPiece 76 = .ok (.getfield 28, 3) := of_decide_eq_true (List.all_eq_true.mp dsX10_readPiece_0_ok (76, (.getfield 28, 3)) (List.mem_of_getElem? (i := 44) rfl))
theorem dX10_readPiece_79 : decode cX10_readPiece 79 = .ok (.if_icmp .ge 47, 3) := of_decide_eq_true (List.all_eq_true.mp dsX10_readPiece_0_ok (79, (.if_icmp .ge 47, 3)) (List.mem_of_getElem? (i := 45) rfl))
theorem dX10_readPiece_82 : decode cX10_readPiece 82 = .ok (.iload 4, 2) := of_decide_eq_true (List.all_eq_true.mp dsX10_readPiece_0_ok (82, (.iload 4, 2)) (List.mem_of_getElem? (i := 46) rfl))
theorem dX10_readPiece_84 : decode cX10_readPiece 84 = .ok (.ifCond .eq 21, 3) := of_decide_eq_true (List.all_eq_true.mp dsX10_readPiece_0_ok (84, (.ifCond .eq 21, 3)) (List.mem_of_getElem? (i := 47) rfl))
theorem dX10_readPiece_87 : decode cX10_readPiece 87 = .ok (.aload_n 0, 1) := of_decide_eq_true (List.all_eq_true.mp dsX10_readPiece_0_ok (87, (.aload_n 0, 1)) (List.mem_of_getElem? (i := 48) rfl))
theorem dX10_readPiece_88 : decode cX10_readPiece 88 = .ok (.getfield 24, 3) := of_decide_eq_true (List.all_eq_true.mp dsX10_readPiece_0_ok (88, (.getfield 24, 3)) (List.mem_of_getElem? (i := 49) rfl))
theorem dX10_readPiece_91 : decode cX10_readPiece 91 = .ok (.iload 5, 2) := of_decide_eq_true (List.all_eq_true.mp dsX10_readPiece_0_ok (91, (.iload 5, 2)) (List.mem_of_getElem? (i := 50) rfl))
theorem dX10_readPiece_93 : decode cX10_readPiece 93 = .ok (.invokevirtual 43, 3) := of_decide_eq_true (List.all_eq_true.mp dsX10_readPiece_0_ok (93, (.invokevirtual 43, 3)) (List.mem_of_getElem? (i := 51) rfl))
theorem dX10_readPiece_96 : decode cX10_readPiece 96 = .ok (.invokestatic 59, 3) := of_decide_eq_true (List.all_eq_true.mp dsX10_readPiece_0_ok (96, (.invokestatic 59, 3)) (List.mem_of_getElem? (i := 52) rfl))
theorem dX10_readPiece_99 : decode cX10_readPiece 99 = .ok (.ifCond .eq 27, 3) := of_decide_eq_true (List.all_eq_true.mp dsX10_readPiece_0_ok (99, (.ifCond .eq 27, 3)) (List.mem_of_getElem? (i := 53) rfl))
theorem dX10_readPiece_102 : decode cX10_readPiece 102 = .ok (.goto 18, 3) := of_decide_eq_true (List.all_eq_true.mp dsX10_readPiece_0_ok (102, (.goto 18, 3)) (List.mem_of_getElem? (i := 54) rfl))
theorem dX10_readPiece_105 : decode cX10_readPiece 105 = .ok (.aload_n 0, 1) := of_decide_eq_true (List.all_eq_true.mp dsX10_readPiece_0_ok (105, (.aload_n 0, 1)) (List.mem_of_getElem? (i := 55) rfl))
theorem dX10_readPiece_106 : decode cX10_readPiece 106 = .ok (.getfield 24, 3) := of_decide_eq_true (List.all_eq_true.mp dsX10_readPiece_0_ok (106, (.getfield 24, 3)) (List.mem_of_getElem? (i := 56) rfl))
theorem dX10_readPiece_109 : decode cX10_readPiece 109 = .ok (.iload 5, 2) := of_decide_eq_true (List.all_eq_true.mp dsX10_readPiece_0_ok (109, (.iload 5, 2)) (List.mem_of_getElem? (i := 57) rfl))
theorem dX10_readPiece_111 : decode cX10_readPiece 111 = .ok (.invokevirtual 43, 3) := of_decide_eq_true (List.all_eq_true.mp dsX10_readPiece_0_ok (111, (.invokevirtual 43, 3)) (List.mem_of_getElem? (i := 58) rfl))
theorem dX10_readPiece_114 : decode cX10_readPiece 114 = .ok (.invokestatic 62, 3) := of_decide_eq_true (List.all_eq_true.mp dsX10_readPiece_0_ok (114, (.invokestatic 62, 3)) (List.mem_of_getElem? (i := 59) rfl))
def dsX10_readPiece_1 : List (Nat × Instr × Nat) := [(117, (.ifCond .eq 9, 3)), (120, (.iinc 5 1, 3)), (123, (.goto (-53), 3)), (126, (.iload 4, 2)), (128, (.ifCond .eq 8, 3)), (131, (.bipush 6, 2)), (133, (.goto 4, 3)), (136, (.iconst 4, 1)), (137, (.istore 6, 2)), (139, (.iload_n 2, 1)), (140, (.ifCond .eq 21, 3)), (143, (.aload_n 0, 1)), (144, (.invokevirtual 72, 3)), (147, (.ifCond .eq 14, 3)), (150, (.aload_n 0, 1)), (151, (.bipush (-2), 2)), (153, (.iload_n 1, 1)), (154, (.iload_n 1, 1)), (155, (.invokevirtual 55, 3)), (158, (.goto 55, 3)), (161, (.iload 5, 2)), (163, (.iload_n 1, 1)), (164, (.isub, 1)), (165, (.iload 6, 2)), (167, (.if_icmp .le 17, 3)), (170, (.aload_n 0, 1)), (171, (.bipush (-2), 2)), (173, (.iload_n 1, 1)), (174, (.iload_n 1, 1)), (175, (.iload 6, 2)), (177, (.iadd, 1)), (178, (.invokevirtual 55, 3)), (181, (.goto 32, 3)), (184, (.iload 4, 2)), (186, (.ifCond .eq 13, 3)), (189, (.aload_n 0, 1)), (190, (.iload_n 1, 1)), (191, (.iload 5, 2)), (193, (.invokevirtual 76, 3)), (196, (.goto 17, 3)), (199, (.aload_n 0, 1)), (200, (.bipush (-3), 2)), (202, (.iload_n 1, 1)), (203, (.aload_n 0, 1)), (204, (.iload_n 1, 1)), (205, (.iload 5, 2)), (207, (.invokevirtual 80, 3)), (210, (.invokevirtual 55, 3)), (213, (.iload 5, 2)), (215, (.ireturn, 1))]
theorem dsX10_readPiece_1_ok : (dsX10_readPiece_1.all fun q => decide (decode cX10_readPiece q.1 = .ok q.2)) = true := by decide +kernel
theorem dX10_readPiece_117 : decode cX10_readPiece 117 = .ok (.ifCond .eq 9, 3) := of_decide_eq_true (List.all_eq_true.mp dsX10_readPiece_1_ok (117, (.ifCond .eq 9, 3)) (List.mem_of_getElem? (i := 0) rfl))
theorem dX10_readPiece_120 : decode cX10_readPiece 120 = .ok (.iinc 5 1, 3) := of_decide_eq_true (List.all_eq_true.mp dsX10_readPiece_1_ok (120, (.iinc 5 1, 3)) (List.mem_of_getElem? (i := 1) rfl))
theorem dX10_readPiece_123 : decode cX10_readPiece 123 = .ok (.goto (-53), 3) := of_decide_eq_true (List.all_eq_true.mp dsX10_readPiece_1_ok (123, (.goto (-53), 3)) (List.mem_of_getElem? (i := 2) rfl))
theorem dX10_readPiece_126 : decode cX10_readPiece 126 = .ok (.iload 4, 2) := of_decide_eq_true (List.all_eq_true.mp dsX10_readPiece_1_ok (126, (.iload 4, 2)) (List.mem_of_getElem? (i := 3) rfl))
theorem dX10_readPiece_128 : decode cX10_readPiece 128 = .ok (.ifCond .eq 8, 3) := of_decide_eq_true (List.all_eq_true.mp dsX10_readPiece_1_ok (128, (.ifCond .eq 8, 3)) (List.mem_of_getElem? (i := 4) rfl))
theorem dX10_readPiece_131 : decode cX10_readPiece 131 = .ok (.bipush 6, 2) := of_decide_eq_true (List.all_eq_true.mp dsX10_readPiece_1_ok (131, (.bipush 6, 2)) (List.mem_of_getElem? (i := 5) rfl))
theorem dX10_readPiece_133 : decode cX10_readPiece 133 = .ok (.goto 4, 3) := of_decide_eq_true (List.all_eq_true.mp dsX10_readPiece_1_ok (133, (.goto 4, 3)) (List.mem_of_getElem? (i := 6) rfl))
theorem dX10_readPiece_136 : decode cX10_readPiece 136 = .ok (.iconst 4, 1) := of_decide_eq_true (List.all_eq_true.mp dsX10_readPiece_1_ok (136, (.iconst 4, 1)) (List.mem_of_getElem? (i := 7) rfl))
theorem dX10_readPiece_137 : decode cX10_readPiece 137 = .ok (.istore 6, 2) := of_decide_eq_true (List.all_eq_true.mp dsX10_readPiece_1_ok (137, (.istore 6, 2)) (List.mem_of_getElem? (i := 8) rfl))
theorem dX10_readPiece_139 : decode cX10_readPiece 139 = .ok (.iload_n 2, 1) := of_decide_eq_true (List.all_eq_true.mp dsX10_readPiece_1_ok (139, (.iload_n 2, 1)) (List.mem_of_getElem? (i := 9) rfl))
theorem dX10_readPiece_140 : decode cX10_readPiece 140 = .ok (.ifCond .eq 21, 3) := of_decide_eq_true (List.all_eq_true.mp dsX10_readPiece_1_ok (140, (.ifCond .eq 21, 3)) (List.mem_of_getElem? (i := 10) rfl))
theorem dX10_readPiece_143 : decode cX10_readPiece 143 = .ok (.aload_n 0, 1) := of_decide_eq_true (List.all_eq_true.mp dsX10_readPiece_1_ok (143, (.aload_n 0, 1)) (List.mem_of_getElem? (i := 11) rfl))
theorem dX10_readPiece_144 : decode cX10_readPiece 144 = .ok (.invokevirtual 72, 3) := of_decide_eq_true (List.all_eq_true.mp dsX10_readPiece_1_ok (144, (.invokevirtual 72, 3)) (List.mem_of_getElem? (i := 12) rfl))
theorem dX10_readPiece_147 : decode cX10_readPiece 147 = .ok (.ifCond .eq 14, 3) := of_decide_eq_true (List.all_eq_true.mp dsX10_readPiece_1_ok (147, (.ifCond .eq 14, 3)) (List.mem_of_getElem? (i := 13) rfl))
theorem dX10_readPiece_150 : decode cX10_readPiece 150 = .ok (.aload_n 0, 1) := of_decide_eq_true (List.all_eq_true.mp dsX10_readPiece_1_ok (150, (.aload_n 0, 1)) (List.mem_of_getElem? (i := 14) rfl))
theorem dX10_readPiece_151 : decode cX10_readPiece 151 = .ok (.bipush (-2), 2) := of_decide_eq_true (List.all_eq_true.mp dsX10_readPiece_1_ok (151, (.bipush (-2), 2)) (List.mem_of_getElem? (i := 15) rfl))
theorem dX10_readPiece_153 : decode cX10_readPiece 153 = .ok (.iload_n 1, 1) := of_decide_eq_true (List.all_eq_true.mp dsX10_readPiece_1_ok (153, (.iload_n 1, 1)) (List.mem_of_getElem? (i := 16) rfl))
theorem dX10_readPiece_154 : decode cX10_readPiece 154 = .ok (.iload_n 1, 1) := of_decide_eq_true (List.all_eq_true.mp dsX10_readPiece_1_ok (154, (.iload_n 1, 1)) (List.mem_of_getElem? (i := 17) rfl))
theorem dX10_readPiece_155 : decode cX10_readPiece 155 = .ok (.invokevirtual 55, 3) := of_decide_eq_true (List.all_eq_true.mp dsX10_readPiece_1_ok (155, (.invokevirtual 55, 3)) (List.mem_of_getElem? (i := 18) rfl))
theorem dX10_readPiece_158 : decode cX10_readPiece 158 = .ok (.goto 55, 3) := of_decide_eq_true (List.all_eq_true.mp dsX10_readPiece_1_ok (158, (.goto 55, 3)) (List.mem_of_getElem? (i := 19) rfl))
theorem dX10_readPiece_161 : decode cX10_readPiece 161 = .ok (.iload 5, 2) := of_decide_eq_true (List.all_eq_true.mp dsX10_readPiece_1_ok (161, (.iload 5, 2)) (List.mem_of_getElem? (i := 20) rfl))
theorem dX10_readPiece_163 : decode cX10_readPiece 163 = .ok (.iload_n 1, 1) := of_decide_eq_true (List.all_eq_true.mp dsX10_readPiece_1_ok (163, (.iload_n 1, 1)) (List.mem_of_getElem? (i := 21) rfl))
theorem dX10_readPiece_164 : decode cX10_readPiece 164 = .ok (.isub, 1) := of_decide_eq_true (List.all_eq_true.mp dsX10_readPiece_1_ok (164, (.isub, 1)) (List.mem_of_getElem? (i := 22) rfl))
theorem dX10_readPiece_165 : decode cX10_readPiece 165 = .ok (.iload 6, 2) := of_decide_eq_true (List.all_eq_true.mp dsX10_readPiece_1_ok (165, (.iload 6, 2)) (List.mem_of_getElem? (i := 23) rfl))
theorem dX10_readPiece_167 : decode cX10_readPiece 167 = .ok (.if_icmp .le 17, 3) := of_decide_eq_true (List.all_eq_true.mp dsX10_readPiece_1_ok (167, (.if_icmp .le 17, 3)) (List.mem_of_getElem? (i := 24) rfl))
theorem dX10_readPiece_170 : decode cX10_readPiece 170 = .ok (.aload_n 0, 1) := of_decide_eq_true (List.all_eq_true.mp dsX10_readPiece_1_ok (170, (.aload_n 0, 1)) (List.mem_of_getElem? (i := 25) rfl))
theorem dX10_readPiece_171 : decode cX10_readPiece 171 = .ok (.bipush (-2), 2) := of_decide_eq_true (List.all_eq_true.mp dsX10_readPiece_1_ok (171, (.bipush (-2), 2)) (List.mem_of_getElem? (i := 26) rfl))
theorem dX10_readPiece_173 : decode cX10_readPiece 173 = .ok (.iload_n 1, 1) := of_decide_eq_true (List.all_eq_true.mp dsX10_readPiece_1_ok (173, (.iload_n 1, 1)) (List.mem_of_getElem? (i := 27) rfl))
theorem dX10_readPiece_174 : decode cX10_readPiece 174 = .ok (.iload_n 1, 1) := of_decide_eq_true (List.all_eq_true.mp dsX10_readPiece_1_ok (174, (.iload_n 1, 1)) (List.mem_of_getElem? (i := 28) rfl))
theorem dX10_readPiece_175 : decode cX10_readPiece 175 = .ok (.iload 6, 2) := of_decide_eq_true (List.all_eq_true.mp dsX10_readPiece_1_ok (175, (.iload 6, 2)) (List.mem_of_getElem? (i := 29) rfl))
theorem dX10_readPiece_177 : decode cX10_readPiece 177 = .ok (.iadd, 1) := of_decide_eq_true (List.all_eq_true.mp dsX10_readPiece_1_ok (177, (.iadd, 1)) (List.mem_of_getElem? (i := 30) rfl))
theorem dX10_readPiece_178 : decode cX10_readPiece 178 = .ok (.invokevirtual 55, 3) := of_decide_eq_true (List.all_eq_true.mp dsX10_readPiece_1_ok (178, (.invokevirtual 55, 3)) (List.mem_of_getElem? (i := 31) rfl))
theorem dX10_readPiece_181 : decode cX10_readPiece 181 = .ok (.goto 32, 3) := of_decide_eq_true (List.all_eq_true.mp dsX10_readPiece_1_ok (181, (.goto 32, 3)) (List.mem_of_getElem? (i := 32) rfl))
theorem dX10_readPiece_184 : decode cX10_readPiece 184 = .ok (.iload 4, 2) := of_decide_eq_true (List.all_eq_true.mp dsX10_readPiece_1_ok (184, (.iload 4, 2)) (List.mem_of_getElem? (i := 33) rfl))
theorem dX10_readPiece_186 : decode cX10_readPiece 186 = .ok (.ifCond .eq 13, 3) := of_decide_eq_true (List.all_eq_true.mp dsX10_readPiece_1_ok (186, (.ifCond .eq 13, 3)) (List.mem_of_getElem? (i := 34) rfl))
theorem dX10_readPiece_189 : decode cX10_readPiece 189 = .ok (.aload_n 0, 1) := of_decide_eq_true (List.all_eq_true.mp dsX10_readPiece_1_ok (189, (.aload_n 0, 1)) (List.mem_of_getElem? (i := 35) rfl))
theorem dX10_readPiece_190 : decode cX10_readPiece 190 = .ok (.iload_n 1, 1) := of_decide_eq_true (List.all_eq_true.mp dsX10_readPiece_1_ok (190, (.iload_n 1, 1)) (List.mem_of_getElem? (i := 36) rfl))
theorem dX10_readPiece_191 : decode cX10_readPiece 191 = .ok (.iload 5, 2) := of_decide_eq_true (List.all_eq_true.mp dsX10_readPiece_1_ok (191, (.iload 5, 2)) (List.mem_of_getElem? (i := 37) rfl))
theorem dX10_readPiece_193 : decode cX10_readPiece 193 = .ok (.invokevirtual 76, 3) := of_decide_eq_true (List.all_eq_true.mp dsX10_readPiece_1_ok (193, (.invokevirtual 76, 3)) (List.mem_of_getElem? (i := 38) rfl))
theorem dX10_readPiece_196 : decode cX10_readPiece 196 = .ok (.goto 17, 3) := of_decide_eq_true (List.all_eq_true.mp dsX10_readPiece_1_ok (196, (.goto 17, 3)) (List.mem_of_getElem? (i := 39) rfl))
theorem dX10_readPiece_199 : decode cX10_readPiece 199 = .ok (.aload_n 0, 1) := of_decide_eq_true (List.all_eq_true.mp dsX10_readPiece_1_ok (199, (.aload_n 0, 1)) (List.mem_of_getElem? (i := 40) rfl))
theorem dX10_readPiece_200 : decode cX10_readPiece 200 = .ok (.bipush (-3), 2) := of_decide_eq_true (List.all_eq_true.mp dsX10_readPiece_1_ok (200, (.bipush (-3), 2)) (List.mem_of_getElem? (i := 41) rfl))
theorem dX10_readPiece_202 : decode cX10_readPiece 202 = .ok (.iload_n 1, 1) := of_decide_eq_true (List.all_eq_true.mp dsX10_readPiece_1_ok (202, (.iload_n 1, 1)) (List.mem_of_getElem? (i := 42) rfl))
theorem dX10_readPiece_203 : decode cX10_readPiece 203 = .ok (.aload_n 0, 1) := of_decide_eq_true (List.all_eq_true.mp dsX10_readPiece_1_ok (203, (.aload_n 0, 1)) (List.mem_of_getElem? (i := 43) rfl))
theorem dX10_readPiece_204 : decode cX10_readPiece 204 = .ok (.iload_n 1, 1) := of_decide_eq_true (List.all_eq_true.mp dsX10_readPiece_1_ok (204, (.iload_n 1, 1)) (List.mem_of_getElem? (i := 44) rfl))
theorem dX10_readPiece_205 : decode cX10_readPiece 205 = .ok (.iload 5, 2) := of_decide_eq_true (List.all_eq_true.mp dsX10_readPiece_1_ok (205, (.iload 5, 2)) (List.mem_of_getElem? (i := 45) rfl))
theorem dX10_readPiece_207 : decode cX10_readPiece 207 = .ok (.invokevirtual 80, 3) := of_decide_eq_true (List.all_eq_true.mp dsX10_readPiece_1_ok (207, (.invokevirtual 80, 3)) (List.mem_of_getElem? (i := 46) rfl))
theorem dX10_readPiece_210 : decode cX10_readPiece 210 = .ok (.invokevirtual 55, 3) := of_decide_eq_true (List.all_eq_true.mp dsX10_readPiece_1_ok (210, (.invokevirtual 55, 3)) (List.mem_of_getElem? (i := 47) rfl))
theorem dX10_readPiece_213 : decode cX10_readPiece 213 = .ok (.iload 5, 2) := of_decide_eq_true (List.all_eq_true.mp dsX10_readPiece_1_ok (213, (.iload 5, 2)) (List.mem_of_getElem? (i := 48) rfl))
theorem dX10_readPiece_215 : decode cX10_readPiece 215 = .ok (.ireturn, 1) := of_decide_eq_true (List.all_eq_true.mp dsX10_readPiece_1_ok (215, (.ireturn, 1)) (List.mem_of_getElem? (i := 49) rfl))
def fX10_readPiece_b161 (N : Nat) (tapeI : Nat → Int32) (tape_bytesF : Nat → Int32) (tx_kindsN : Nat) (tx_startsN : Nat) (tx_valuesN : Nat)  : ((Nat → Int32) × (Nat → Int32) × (Nat → Int32) × (Nat → Int32) × Int32 × Int32 × Int32 × Int32) → Option (Int32 × (Nat → Int32) × (Nat → Int32) × (Nat → Int32) × (Nat → Int32)) :=
  fun (txI_161, tx_kindsF_161, tx_startsF_161, tx_valuesF_161, x1_161, x4_161, x5_161, x6_161) => (if (x5_161 - x1_161) ≤ x6_161 then (if x4_161 = 0 then (xq_bd (fX10_numberOf N tapeI tape_bytesF x1_161 x5_161) fun r_1 => (xq_bd (fX10_addPiece N txI_161 tx_kindsF_161 tx_startsF_161 tx_valuesF_161 tx_kindsN tx_startsN tx_valuesN ((-3)) x1_161 r_1) fun (r_3_0, r_3_1, r_3_2, r_3_3) => some ((x5_161, r_3_0, r_3_1, r_3_2, r_3_3)))) else (xq_bd (fX10_addWord N txI_161 tapeI tape_bytesF tx_kindsF_161 tx_startsF_161 tx_valuesF_161 tx_kindsN tx_startsN tx_valuesN x1_161 x5_161) fun (r_5_0, r_5_1, r_5_2, r_5_3) => some ((x5_161, r_5_0, r_5_1, r_5_2, r_5_3)))) else (xq_bd (fX10_addPiece N txI_161 tx_kindsF_161 tx_startsF_161 tx_valuesF_161 tx_kindsN tx_startsN tx_valuesN ((-2)) x1_161 (x1_161 + x6_161)) fun (r_7_0, r_7_1, r_7_2, r_7_3) => some ((x5_161, r_7_0, r_7_1, r_7_2, r_7_3))))
def fX10_readPiece_b137 (N : Nat) (tapeI : Nat → Int32) (tape_bytesF : Nat → Int32) (tx_kindsN : Nat) (tx_startsN : Nat) (tx_valuesN : Nat)  : ((Nat → Int32) × (Nat → Int32) × (Nat → Int32) × (Nat → Int32) × Int32 × Int32 × Int32 × Int32 × Int32) → Option (Int32 × (Nat → Int32) × (Nat → Int32) × (Nat → Int32) × (Nat → Int32)) :=
  fun (txI_137, tx_kindsF_137, tx_startsF_137, tx_valuesF_137, x1_137, x2_137, x4_137, x5_137, y0_137) => (if x2_137 = 0 then fX10_readPiece_b161 N tapeI tape_bytesF tx_kindsN tx_startsN tx_valuesN (txI_137, tx_kindsF_137, tx_startsF_137, tx_valuesF_137, x1_137, x4_137, x5_137, y0_137) else (xq_bd (fX10_endsInWordOrNumber N txI_137 tx_kindsF_137 tx_kindsN) fun r_9 => (if r_9 = 0 then fX10_readPiece_b161 N tapeI tape_bytesF tx_kindsN tx_startsN tx_valuesN (txI_137, tx_kindsF_137, tx_startsF_137, tx_valuesF_137, x1_137, x4_137, x5_137, y0_137) else (xq_bd (fX10_addPiece N txI_137 tx_kindsF_137 tx_startsF_137 tx_valuesF_137 tx_kindsN tx_startsN tx_valuesN ((-2)) x1_137 x1_137) fun (r_11_0, r_11_1, r_11_2, r_11_3) => some ((x5_137, r_11_0, r_11_1, r_11_2, r_11_3))))))
def fX10_readPiece_b126 (N : Nat) (tapeI : Nat → Int32) (tape_bytesF : Nat → Int32) (tx_kindsN : Nat) (tx_startsN : Nat) (tx_valuesN : Nat)  : ((Nat → Int32) × (Nat → Int32) × (Nat → Int32) × (Nat → Int32) × Int32 × Int32 × Int32 × Int32) → Option (Int32 × (Nat → Int32) × (Nat → Int32) × (Nat → Int32) × (Nat → Int32)) :=
  fun (txI_126, tx_kindsF_126, tx_startsF_126, tx_valuesF_126, x1_126, x2_126, x4_126, x5_126) => (if x4_126 = 0 then fX10_readPiece_b137 N tapeI tape_bytesF tx_kindsN tx_startsN tx_valuesN (txI_126, tx_kindsF_126, tx_startsF_126, tx_valuesF_126, x1_126, x2_126, x4_126, x5_126, 4) else fX10_readPiece_b137 N tapeI tape_bytesF tx_kindsN tx_startsN tx_valuesN (txI_126, tx_kindsF_126, tx_startsF_126, tx_valuesF_126, x1_126, x2_126, x4_126, x5_126, 6))
def fX10_readPiece_b120 (N : Nat) (tapeI : Nat → Int32) (tape_bytesF : Nat → Int32) (tx_kindsN : Nat) (tx_startsN : Nat) (tx_valuesN : Nat) (k70 : ((Nat → Int32) × (Nat → Int32) × (Nat → Int32) × (Nat → Int32) × Int32 × Int32 × Int32 × Int32) → Option (Int32 × (Nat → Int32) × (Nat → Int32) × (Nat → Int32) × (Nat → Int32))) : ((Nat → Int32) × (Nat → Int32) × (Nat → Int32) × (Nat → Int32) × Int32 × Int32 × Int32 × Int32) → Option (Int32 × (Nat → Int32) × (Nat → Int32) × (Nat → Int32) × (Nat → Int32)) :=
  fun (txI_120, tx_kindsF_120, tx_startsF_120, tx_valuesF_120, x1_120, x2_120, x4_120, x5_120) => k70 (txI_120, tx_kindsF_120, tx_startsF_120, tx_valuesF_120, x1_120, x2_120, x4_120, x5_120 + 1)
def fX10_readPiece_l70 (N : Nat) (tapeI : Nat → Int32) (tape_bytesF : Nat → Int32) (tx_kindsN : Nat) (tx_startsN : Nat) (tx_valuesN : Nat) (k70 : ((Nat → Int32) × (Nat → Int32) × (Nat → Int32) × (Nat → Int32) × Int32 × Int32 × Int32 × Int32) → Option (Int32 × (Nat → Int32) × (Nat → Int32) × (Nat → Int32) × (Nat → Int32))) : ((Nat → Int32) × (Nat → Int32) × (Nat → Int32) × (Nat → Int32) × Int32 × Int32 × Int32 × Int32) → Option (Int32 × (Nat → Int32) × (Nat → Int32) × (Nat → Int32) × (Nat → Int32)) :=
  fun (txI_70, tx_kindsF_70, tx_startsF_70, tx_valuesF_70, x1_70, x2_70, x4_70, x5_70) => (if (tapeI 1) ≤ x5_70 then fX10_readPiece_b126 N tapeI tape_bytesF tx_kindsN tx_startsN tx_valuesN (txI_70, tx_kindsF_70, tx_startsF_70, tx_valuesF_70, x1_70, x2_70, x4_70, x5_70) else (if x4_70 = 0 then (xq_bd (fX9_at N tapeI tape_bytesF x5_70) fun r_13 => (xq_bd (fX10_isFigure N r_13) fun r_15 => (if r_15 = 0 then fX10_readPiece_b126 N tapeI tape_bytesF tx_kindsN tx_startsN tx_valuesN (txI_70, tx_kindsF_70, tx_startsF_70, tx_valuesF_70, x1_70, x2_70, x4_70, x5_70) else fX10_readPiece_b120 N tapeI tape_bytesF tx_kindsN tx_startsN tx_valuesN k70 (txI_70, tx_kindsF_70, tx_startsF_70, tx_valuesF_70, x1_70, x2_70, x4_70, x5_70)))) else (xq_bd (fX9_at N tapeI tape_bytesF x5_70) fun r_17 => (xq_bd (fX10_isLetter N r_17) fun r_19 => (if r_19 = 0 then fX10_readPiece_b126 N tapeI tape_bytesF tx_kindsN tx_startsN tx_valuesN (txI_70, tx_kindsF_70, tx_startsF_70, tx_valuesF_70, x1_70, x2_70, x4_70, x5_70) else fX10_readPiece_b120 N tapeI tape_bytesF tx_kindsN tx_startsN tx_valuesN k70 (txI_70, tx_kindsF_70, tx_startsF_70, tx_valuesF_70, x1_70, x2_70, x4_70, x5_70))))))
def fX10_readPiece_b67 (N : Nat) (tapeI : Nat → Int32) (tape_bytesF : Nat → Int32) (tx_kindsN : Nat) (tx_startsN : Nat) (tx_valuesN : Nat)  : ((Nat → Int32) × (Nat → Int32) × (Nat → Int32) × (Nat → Int32) × Int32 × Int32 × Int32) → Option (Int32 × (Nat → Int32) × (Nat → Int32) × (Nat → Int32) × (Nat → Int32)) :=
  fun (txI_67, tx_kindsF_67, tx_startsF_67, tx_valuesF_67, x1_67, x2_67, x4_67) => xq_loop (fX10_readPiece_l70 N tapeI tape_bytesF tx_kindsN tx_startsN tx_valuesN) N (txI_67, tx_kindsF_67, tx_startsF_67, tx_valuesF_67, x1_67, x2_67, x4_67, x1_67)
def fX10_readPiece_b58 (N : Nat) (tapeI : Nat → Int32) (tape_bytesF : Nat → Int32) (tx_kindsN : Nat) (tx_startsN : Nat) (tx_valuesN : Nat)  : ((Nat → Int32) × (Nat → Int32) × (Nat → Int32) × (Nat → Int32) × Int32 × Int32) → Option (Int32 × (Nat → Int32) × (Nat → Int32) × (Nat → Int32) × (Nat → Int32)) :=
  fun (txI_58, tx_kindsF_58, tx_startsF_58, tx_valuesF_58, x1_58, y1_58) => (xq_bd (fX10_addPiece N txI_58 tx_kindsF_58 tx_startsF_58 tx_valuesF_58 tx_kindsN tx_startsN tx_valuesN y1_58 x1_58 x1_58) fun (r_21_0, r_21_1, r_21_2, r_21_3) => some ((x1_58 + 1, r_21_0, r_21_1, r_21_2, r_21_3)))
def fX10_readPiece (N : Nat) (txI : Nat → Int32) (tapeI : Nat → Int32) (tape_bytesF : Nat → Int32) (tx_kindsF : Nat → Int32) (tx_startsF : Nat → Int32) (tx_valuesF : Nat → Int32) (tx_kindsN : Nat) (tx_startsN : Nat) (tx_valuesN : Nat) (p1 : Int32) (p2 : Int32) : Option (Int32 × (Nat → Int32) × (Nat → Int32) × (Nat → Int32) × (Nat → Int32)) :=
  (xq_bd (fX9_at N tapeI tape_bytesF p1) fun r_1 => (if r_1 = ((-1)) then (xq_bd (fX10_addPiece N txI tx_kindsF tx_startsF tx_valuesF tx_kindsN tx_startsN tx_valuesN ((-1)) p1 0) fun (r_9_0, r_9_1, r_9_2, r_9_3) => some ((p1, r_9_0, r_9_1, r_9_2, r_9_3))) else (xq_bd (fX10_isLetter N r_1) fun r_3 => (if r_3 = 0 then (xq_bd (fX10_isFigure N r_1) fun r_5 => (if r_5 = 0 then (xq_bd (fJ0_indexOf_0f7a4_s0 N ((r_1.toUInt32 % 65536).toInt32)) fun r_7 => (if 0 ≤ r_7 then fX10_readPiece_b58 N tapeI tape_bytesF tx_kindsN tx_startsN tx_valuesN (txI, tx_kindsF, tx_startsF, tx_valuesF, p1, r_1) else fX10_readPiece_b58 N tapeI tape_bytesF tx_kindsN tx_startsN tx_valuesN (txI, tx_kindsF, tx_startsF, tx_valuesF, p1, (-2)))) else fX10_readPiece_b67 N tapeI tape_bytesF tx_kindsN tx_startsN tx_valuesN (txI, tx_kindsF, tx_startsF, tx_valuesF, p1, p2, r_3))) else fX10_readPiece_b67 N tapeI tape_bytesF tx_kindsN tx_startsN tx_valuesN (txI, tx_kindsF, tx_startsF, tx_valuesF, p1, p2, r_3)))))
set_option maxHeartbeats 4000000 in
set_option maxRecDepth 100000 in
theorem kX10_readPiece (l : Launch) (dC : Nat → ClassId) (dI : Nat → Nat → Nat) (cI cB cJ cZ cM : ClassId) (z : Nat) (ad : Nat → Nat) (N : Nat) (a_p0 : Nat) (txI : Nat → Int32) (txR : Nat → Nat) (tapeI : Nat → Int32) (tapeR : Nat → Nat) (tape_bytesF : Nat → Int32) (tx_kindsF : Nat → Int32) (tx_kindsN : Nat) (tx_startsF : Nat → Int32) (tx_startsN : Nat) (tx_valuesF : Nat → Int32) (tx_valuesN : Nat) (p1 : Int32) (p2 : Int32) {r0 : Int32} {r1 : Nat → Int32} {r2 : Nat → Int32} {r3 : Nat → Int32} {r4 : Nat → Int32} (hf : fX10_readPiece N txI tapeI tape_bytesF tx_kindsF tx_startsF tx_valuesF tx_kindsN tx_startsN tx_valuesN p1 p2 = some (r0, r1, r2, r3, r4)) : xq_Ct l yX10_readPiece wsX10_readPiece { frames := 6, cells := 0, slots := 0, locals := 135 } (dC, dI) vwCl (xq_tys cI cB cJ cZ cM) z ad [.ref a_p0, .int p1, .int p2] [(a_p0, .inr (10, oX10 txI txR)), ((txR 0), .inr (9, oX9 tapeI tapeR)), ((tapeR 0), .inl (cB, 1600, .inl tape_bytesF)), ((txR 1), .inl (cI, tx_kindsN, .inl tx_kindsF)), ((txR 2), .inl (cI, tx_startsN, .inl tx_startsF)), ((txR 3), .inl (cI, tx_valuesN, .inl tx_valuesF))] [(a_p0, .inr (10, oX10 r1 txR)), ((txR 0), .inr (9, oX9 tapeI tapeR)), ((tapeR 0), .inl (cB, 1600, .inl tape_bytesF)), ((txR 1), .inl (cI, tx_kindsN, .inl r2)), ((txR 2), .inl (cI, tx_startsN, .inl r3)), ((txR 3), .inl (cI, tx_valuesN, .inl r4))] (some (.int r0)) := by
  intro sz
  refine Met.ofW (cc := cX10_readPiece) (maxL := 7) (ret := (some .int)) (by decide) rfl ?_
  intro p e s m args below meth c s₁ B hml hv
  obtain ⟨rfl, hsz, hP, hK, hD0, hE, hz⟩ := hv
  have hx := B.exec
  have hb := B.bytes
  have hr := B.returns
  have hts := atoms_spec (ws := wsX10_readPiece) B.pre
  have hown : s.vm.findClass RX10 = some m.cls := findClass_of_methodNamed B.named
  have hlocks := B.notSynchronized
  subst hsz
  have hD := hD0.self (sz := s.heap.size)
  have hN := xq_Env.of hE hz hD0
  generalize hAe : va_A [(a_p0, .inr (10, oX10 txI txR)), ((txR 0), .inr (9, oX9 tapeI tapeR)), ((tapeR 0), .inl (cB, 1600, .inl tape_bytesF)), ((txR 1), .inl (cI, tx_kindsN, .inl tx_kindsF)), ((txR 2), .inl (cI, tx_startsN, .inl tx_startsF)), ((txR 3), .inl (cI, tx_valuesN, .inl tx_valuesF))] s.heap.size = A at hD hN ⊢
  have hA : ∀ q : Nat, s.heap.size ≤ q → A q := fun q h => by rw [← hAe]; exact Or.inr h
  clear hAe hD0
  have hS : va_S A s.heap s.heap [] := va_S.rf
  have hl := lv_entry ([.ref a_p0, .int p1, .int p2]) (n := 7) (Nat.le_of_ble_eq_true rfl)
  rw [lg_entry_eq]
  generalize (lg_sl ([.ref a_p0, .int p1, .int p2]) ++ List.replicate (7 - (lg_sl ([.ref a_p0, .int p1, .int p2])).length) Slot.unset).toArray = ls at hl ⊢
  have hl : lv_has ls 7 [(0, .ref a_p0), (1, .int p1), (2, .int p2)] := hl
  have hw0 := hts (.fieldLink RX10 24 "DistantVoice$Text" "tape" "LDistantVoice$Tape;") (by decide +kernel)
  have hinX10 : ∀ w ∈ wsX100, w ∈ wsX10_readPiece := fun w h => List.mem_cons_of_mem _ (List.mem_append_left _ (List.mem_append_right _ h))
  have hnf0 := va_Nw.use (A := [.ref a_p0, .int p1, .int p2].toArray) rfl (hN.1.1.1 ("DistantVoice$Text", 28, "DistantVoice$Tape", "length", "I", "DistantVoice") (List.mem_of_getElem? (i := 0) rfl))
  have hinX9 : ∀ w ∈ wsX90, w ∈ wsX10_readPiece := fun w h => List.mem_cons_of_mem _ (List.mem_append_right _ h)
  have b161 : ∀ (txI_161 : Nat → Int32) (tx_kindsF_161 : Nat → Int32) (tx_startsF_161 : Nat → Int32) (tx_valuesF_161 : Nat → Int32) (x1_161 : Int32) (x4_161 : Int32) (x5_161 : Int32) (x6_161 : Int32) (ls : Array Slot) (H : Heap) (locs : List Loc), fX10_readPiece_b161 N tapeI tape_bytesF tx_kindsN tx_startsN tx_valuesN (txI_161, tx_kindsF_161, tx_startsF_161, tx_valuesF_161, x1_161, x4_161, x5_161, x6_161) = some (r0, r1, r2, r3, r4) → va_P (dC, dI) vwCl [(a_p0, .inr (10, oX10 txI_161 txR)), ((txR 0), .inr (9, oX9 tapeI tapeR)), ((tapeR 0), .inl (cB, 1600, .inl tape_bytesF)), ((txR 1), .inl (cI, tx_kindsN, .inl tx_kindsF_161)), ((txR 2), .inl (cI, tx_startsN, .inl tx_startsF_161)), ((txR 3), .inl (cI, tx_valuesN, .inl tx_valuesF_161))] H → va_D A [(a_p0, .inr (10, oX10 txI_161 txR)), ((txR 0), .inr (9, oX9 tapeI tapeR)), ((tapeR 0), .inl (cB, 1600, .inl tape_bytesF)), ((txR 1), .inl (cI, tx_kindsN, .inl tx_kindsF_161)), ((txR 2), .inl (cI, tx_startsN, .inl tx_startsF_161)), ((txR 3), .inl (cI, tx_valuesN, .inl tx_valuesF_161))] → va_S A s.heap H locs → lv_has ls 7 [(0, .ref a_p0), (1, .int x1_161), (4, .int x4_161), (5, .int x5_161), (6, .int x6_161)] → W p l e (headSpec wsX10_readPiece { frames := 6, cells := 0, slots := 0, locals := 135 }).room s m [.ref a_p0, .int p1, .int p2].toArray below meth c H locs 0 0 (MQ below (xq_Q (dC, dI) vwCl (xq_tys cI cB cJ cZ cM) A [(a_p0, .inr (10, oX10 r1 txR)), ((txR 0), .inr (9, oX9 tapeI tapeR)), ((tapeR 0), .inl (cB, 1600, .inl tape_bytesF)), ((txR 1), .inl (cI, tx_kindsN, .inl r2)), ((txR 2), .inl (cI, tx_startsN, .inl r3)), ((txR 3), .inl (cI, tx_valuesN, .inl r4))] (some (.int r0))) [.ref a_p0, .int p1, .int p2].toArray s 0 0 A) (F0 m 161 ls []) := by
    intro txI_161 tx_kindsF_161 tx_startsF_161 tx_valuesF_161 x1_161 x4_161 x5_161 x6_161 ls H locs hf hP hD hS hl
    unfold fX10_readPiece_b161 at hf
    refine lv_iload hx hb dX10_readPiece_161 (lv_at hl 3 rfl) ?_
    refine lv_iload_n hx hb dX10_readPiece_163 rfl (lv_at hl 1 rfl) ?_
    refine lv_isub hx hb dX10_readPiece_164 ?_
    refine lv_iload hx hb dX10_readPiece_165 (lv_at hl 4 rfl) ?_
    refine lv_icmp_le (tgt := 184) hx hb dX10_readPiece_167 (by decide) (fun c_ => ?_) (fun c_ => ?_)
    · have hf := xq_pos hf c_
      refine lv_iload hx hb dX10_readPiece_184 (lv_at hl 2 rfl) ?_
      refine lv_if_eq (tgt := 199) hx hb dX10_readPiece_186 (by decide) (fun c_ => ?_) (fun c_ => ?_)
      · have hf := xq_pos hf c_
        refine lv_aload_n hx hb dX10_readPiece_199 rfl (lv_at hl 0 rfl) ?_
        refine lv_bipush (v := (-3)) hx hb dX10_readPiece_200 (by decide) ?_
        refine lv_iload_n hx hb dX10_readPiece_202 rfl (lv_at hl 1 rfl) ?_
        refine lv_aload_n hx hb dX10_readPiece_203 rfl (lv_at hl 0 rfl) ?_
        refine lv_iload_n hx hb dX10_readPiece_204 rfl (lv_at hl 1 rfl) ?_
        refine lv_iload hx hb dX10_readPiece_205 (lv_at hl 3 rfl) ?_
        obtain ⟨r_1, h_2, hf⟩ := xq_bd_some hf
        refine xq_callV (As := [.int x1_161, .int x5_161]) (rest := [.int x1_161, .int ((-3)), .ref a_p0]) (ci := 10) (q0 := 0) ⟨hx, hb, hml, hown, hts⟩ (kX10_numberOf l dC dI cI cB cJ cZ cM z ad N a_p0 txI_161 txR tapeI tapeR tape_bytesF x1_161 x5_161 h_2) (cwV 2 hts gX10_readPiece_X10_numberOf rfl rfl rfl (by decide +kernel) ⟨Nat.le_of_ble_eq_true rfl, Nat.le_of_ble_eq_true rfl⟩) hN hK hP hD hS hA [0, 1, 2] (by decide) rfl rfl rfl rfl rfl rfl hl.1 rfl (Nat.le_of_ble_eq_true rfl) dX10_readPiece_207 ⟨Nat.zero_le _, Nat.zero_le _⟩ (fun H locs hP hD hS => ?_)
        have hP : va_P (dC, dI) vwCl [(a_p0, .inr (10, oX10 txI_161 txR)), ((txR 0), .inr (9, oX9 tapeI tapeR)), ((tapeR 0), .inl (cB, 1600, .inl tape_bytesF)), ((txR 1), .inl (cI, tx_kindsN, .inl tx_kindsF_161)), ((txR 2), .inl (cI, tx_startsN, .inl tx_startsF_161)), ((txR 3), .inl (cI, tx_valuesN, .inl tx_valuesF_161))] H := hP
        have hD : va_D A [(a_p0, .inr (10, oX10 txI_161 txR)), ((txR 0), .inr (9, oX9 tapeI tapeR)), ((tapeR 0), .inl (cB, 1600, .inl tape_bytesF)), ((txR 1), .inl (cI, tx_kindsN, .inl tx_kindsF_161)), ((txR 2), .inl (cI, tx_startsN, .inl tx_startsF_161)), ((txR 3), .inl (cI, tx_valuesN, .inl tx_valuesF_161))] := hD
        refine W.eq (g2 := F0 m 210 ls [.int r_1, .int x1_161, .int ((-3)), .ref a_p0]) rfl ?_
        obtain ⟨⟨r_3_0, r_3_1, r_3_2, r_3_3⟩, h_4, hf⟩ := xq_bd_some hf
        refine xq_callV (As := [.int ((-3)), .int x1_161, .int r_1]) (rest := []) (ci := 10) (q0 := 0) ⟨hx, hb, hml, hown, hts⟩ (kX10_addPiece l dC dI cI cB cJ cZ cM z ad N a_p0 txI_161 txR tx_kindsF_161 tx_kindsN tx_startsF_161 tx_startsN tx_valuesF_161 tx_valuesN ((-3)) x1_161 r_1 h_4) (cwV 3 hts gX10_readPiece_X10_addPiece rfl rfl rfl (by decide +kernel) ⟨Nat.le_of_ble_eq_true rfl, Nat.le_of_ble_eq_true rfl⟩) hN hK hP hD hS hA [0, 3, 4, 5] (by decide) rfl rfl rfl rfl rfl rfl hl.1 rfl (Nat.le_of_ble_eq_true rfl) dX10_readPiece_210 ⟨Nat.zero_le _, Nat.zero_le _⟩ (fun H locs hP hD hS => ?_)
        have hP : va_P (dC, dI) vwCl [(a_p0, .inr (10, oX10 r_3_0 txR)), ((txR 0), .inr (9, oX9 tapeI tapeR)), ((tapeR 0), .inl (cB, 1600, .inl tape_bytesF)), ((txR 1), .inl (cI, tx_kindsN, .inl r_3_1)), ((txR 2), .inl (cI, tx_startsN, .inl r_3_2)), ((txR 3), .inl (cI, tx_valuesN, .inl r_3_3))] H := hP
        have hD : va_D A [(a_p0, .inr (10, oX10 r_3_0 txR)), ((txR 0), .inr (9, oX9 tapeI tapeR)), ((tapeR 0), .inl (cB, 1600, .inl tape_bytesF)), ((txR 1), .inl (cI, tx_kindsN, .inl r_3_1)), ((txR 2), .inl (cI, tx_startsN, .inl r_3_2)), ((txR 3), .inl (cI, tx_valuesN, .inl r_3_3))] := hD
        refine W.eq (g2 := F0 m 213 ls []) rfl ?_
        refine lv_iload hx hb dX10_readPiece_213 (lv_at hl 3 rfl) ?_
        cases hf
        exact xq_iret hx hb hr hlocks hK hP hD hS dX10_readPiece_215
      · have hf := xq_neg hf c_
        refine lv_aload_n hx hb dX10_readPiece_189 rfl (lv_at hl 0 rfl) ?_
        refine lv_iload_n hx hb dX10_readPiece_190 rfl (lv_at hl 1 rfl) ?_
        refine lv_iload hx hb dX10_readPiece_191 (lv_at hl 3 rfl) ?_
        obtain ⟨⟨r_5_0, r_5_1, r_5_2, r_5_3⟩, h_6, hf⟩ := xq_bd_some hf
        refine xq_callV (As := [.int x1_161, .int x5_161]) (rest := []) (ci := 10) (q0 := 0) ⟨hx, hb, hml, hown, hts⟩ (kX10_addWord l dC dI cI cB cJ cZ cM z ad N a_p0 txI_161 txR tapeI tapeR tape_bytesF tx_kindsF_161 tx_kindsN tx_startsF_161 tx_startsN tx_valuesF_161 tx_valuesN x1_161 x5_161 h_6) (cwV 2 hts gX10_readPiece_X10_addWord rfl rfl rfl (by decide +kernel) ⟨Nat.le_of_ble_eq_true rfl, Nat.le_of_ble_eq_true rfl⟩) hN hK hP hD hS hA [0, 1, 2, 3, 4, 5] (by decide) rfl rfl rfl rfl rfl rfl hl.1 rfl (Nat.le_of_ble_eq_true rfl) dX10_readPiece_193 ⟨Nat.zero_le _, Nat.zero_le _⟩ (fun H locs hP hD hS => ?_)
        have hP : va_P (dC, dI) vwCl [(a_p0, .inr (10, oX10 r_5_0 txR)), ((txR 0), .inr (9, oX9 tapeI tapeR)), ((tapeR 0), .inl (cB, 1600, .inl tape_bytesF)), ((txR 1), .inl (cI, tx_kindsN, .inl r_5_1)), ((txR 2), .inl (cI, tx_startsN, .inl r_5_2)), ((txR 3), .inl (cI, tx_valuesN, .inl r_5_3))] H := hP
        have hD : va_D A [(a_p0, .inr (10, oX10 r_5_0 txR)), ((txR 0), .inr (9, oX9 tapeI tapeR)), ((tapeR 0), .inl (cB, 1600, .inl tape_bytesF)), ((txR 1), .inl (cI, tx_kindsN, .inl r_5_1)), ((txR 2), .inl (cI, tx_startsN, .inl r_5_2)), ((txR 3), .inl (cI, tx_valuesN, .inl r_5_3))] := hD
        refine W.eq (g2 := F0 m 196 ls []) rfl ?_
        refine lv_goto (tgt := 213) hx hb dX10_readPiece_196 (by decide) ?_
        refine lv_iload hx hb dX10_readPiece_213 (lv_at hl 3 rfl) ?_
        cases hf
        exact xq_iret hx hb hr hlocks hK hP hD hS dX10_readPiece_215
    · have hf := xq_neg hf c_
      refine lv_aload_n hx hb dX10_readPiece_170 rfl (lv_at hl 0 rfl) ?_
      refine lv_bipush (v := (-2)) hx hb dX10_readPiece_171 (by decide) ?_
      refine lv_iload_n hx hb dX10_readPiece_173 rfl (lv_at hl 1 rfl) ?_
      refine lv_iload_n hx hb dX10_readPiece_174 rfl (lv_at hl 1 rfl) ?_
      refine lv_iload hx hb dX10_readPiece_175 (lv_at hl 4 rfl) ?_
      refine lv_iadd hx hb dX10_readPiece_177 ?_
      obtain ⟨⟨r_7_0, r_7_1, r_7_2, r_7_3⟩, h_8, hf⟩ := xq_bd_some hf
      refine xq_callV (As := [.int ((-2)), .int x1_161, .int (x1_161 + x6_161)]) (rest := []) (ci := 10) (q0 := 0) ⟨hx, hb, hml, hown, hts⟩ (kX10_addPiece l dC dI cI cB cJ cZ cM z ad N a_p0 txI_161 txR tx_kindsF_161 tx_kindsN tx_startsF_161 tx_startsN tx_valuesF_161 tx_valuesN ((-2)) x1_161 (x1_161 + x6_161) h_8) (cwV 3 hts gX10_readPiece_X10_addPiece rfl rfl rfl (by decide +kernel) ⟨Nat.le_of_ble_eq_true rfl, Nat.le_of_ble_eq_true rfl⟩) hN hK hP hD hS hA [0, 3, 4, 5] (by decide) rfl rfl rfl rfl rfl rfl hl.1 rfl (Nat.le_of_ble_eq_true rfl) dX10_readPiece_178 ⟨Nat.zero_le _, Nat.zero_le _⟩ (fun H locs hP hD hS => ?_)
      have hP : va_P (dC, dI) vwCl [(a_p0, .inr (10, oX10 r_7_0 txR)), ((txR 0), .inr (9, oX9 tapeI tapeR)), ((tapeR 0), .inl (cB, 1600, .inl tape_bytesF)), ((txR 1), .inl (cI, tx_kindsN, .inl r_7_1)), ((txR 2), .inl (cI, tx_startsN, .inl r_7_2)), ((txR 3), .inl (cI, tx_valuesN, .inl r_7_3))] H := hP
      have hD : va_D A [(a_p0, .inr (10, oX10 r_7_0 txR)), ((txR 0), .inr (9, oX9 tapeI tapeR)), ((tapeR 0), .inl (cB, 1600, .inl tape_bytesF)), ((txR 1), .inl (cI, tx_kindsN, .inl r_7_1)), ((txR 2), .inl (cI, tx_startsN, .inl r_7_2)), ((txR 3), .inl (cI, tx_valuesN, .inl r_7_3))] := hD
      refine W.eq (g2 := F0 m 181 ls []) rfl ?_
      refine lv_goto (tgt := 213) hx hb dX10_readPiece_181 (by decide) ?_
      refine lv_iload hx hb dX10_readPiece_213 (lv_at hl 3 rfl) ?_
      cases hf
      exact xq_iret hx hb hr hlocks hK hP hD hS dX10_readPiece_215
  have b137 : ∀ (txI_137 : Nat → Int32) (tx_kindsF_137 : Nat → Int32) (tx_startsF_137 : Nat → Int32) (tx_valuesF_137 : Nat → Int32) (x1_137 : Int32) (x2_137 : Int32) (x4_137 : Int32) (x5_137 : Int32) (y0_137 : Int32) (ls : Array Slot) (H : Heap) (locs : List Loc), fX10_readPiece_b137 N tapeI tape_bytesF tx_kindsN tx_startsN tx_valuesN (txI_137, tx_kindsF_137, tx_startsF_137, tx_valuesF_137, x1_137, x2_137, x4_137, x5_137, y0_137) = some (r0, r1, r2, r3, r4) → va_P (dC, dI) vwCl [(a_p0, .inr (10, oX10 txI_137 txR)), ((txR 0), .inr (9, oX9 tapeI tapeR)), ((tapeR 0), .inl (cB, 1600, .inl tape_bytesF)), ((txR 1), .inl (cI, tx_kindsN, .inl tx_kindsF_137)), ((txR 2), .inl (cI, tx_startsN, .inl tx_startsF_137)), ((txR 3), .inl (cI, tx_valuesN, .inl tx_valuesF_137))] H → va_D A [(a_p0, .inr (10, oX10 txI_137 txR)), ((txR 0), .inr (9, oX9 tapeI tapeR)), ((tapeR 0), .inl (cB, 1600, .inl tape_bytesF)), ((txR 1), .inl (cI, tx_kindsN, .inl tx_kindsF_137)), ((txR 2), .inl (cI, tx_startsN, .inl tx_startsF_137)), ((txR 3), .inl (cI, tx_valuesN, .inl tx_valuesF_137))] → va_S A s.heap H locs → lv_has ls 7 [(0, .ref a_p0), (1, .int x1_137), (2, .int x2_137), (4, .int x4_137), (5, .int x5_137)] → W p l e (headSpec wsX10_readPiece { frames := 6, cells := 0, slots := 0, locals := 135 }).room s m [.ref a_p0, .int p1, .int p2].toArray below meth c H locs 0 0 (MQ below (xq_Q (dC, dI) vwCl (xq_tys cI cB cJ cZ cM) A [(a_p0, .inr (10, oX10 r1 txR)), ((txR 0), .inr (9, oX9 tapeI tapeR)), ((tapeR 0), .inl (cB, 1600, .inl tape_bytesF)), ((txR 1), .inl (cI, tx_kindsN, .inl r2)), ((txR 2), .inl (cI, tx_startsN, .inl r3)), ((txR 3), .inl (cI, tx_valuesN, .inl r4))] (some (.int r0))) [.ref a_p0, .int p1, .int p2].toArray s 0 0 A) (F0 m 137 ls [.int y0_137]) := by
    intro txI_137 tx_kindsF_137 tx_startsF_137 tx_valuesF_137 x1_137 x2_137 x4_137 x5_137 y0_137 ls H locs hf hP hD hS hl
    unfold fX10_readPiece_b137 at hf
    refine lv_istore (lv' := [(6, .int y0_137), (0, .ref a_p0), (1, .int x1_137), (2, .int x2_137), (4, .int x4_137), (5, .int x5_137)]) hx hb dX10_readPiece_137 hl (by decide) rfl (fun ls hl => ?_)
    refine lv_iload_n hx hb dX10_readPiece_139 rfl (lv_at hl 3 rfl) ?_
    refine lv_if_eq (tgt := 161) hx hb dX10_readPiece_140 (by decide) (fun c_ => ?_) (fun c_ => ?_)
    · have hf := xq_pos hf c_
      exact b161 txI_137 tx_kindsF_137 tx_startsF_137 tx_valuesF_137 x1_137 x4_137 x5_137 y0_137 _ _ _ hf hP hD hS (lv_sub hl [1, 2, 4, 5, 0] rfl)
    · have hf := xq_neg hf c_
      refine lv_aload_n hx hb dX10_readPiece_143 rfl (lv_at hl 1 rfl) ?_
      obtain ⟨r_1, h_2, hf⟩ := xq_bd_some hf
      refine xq_callV (As := []) (rest := []) (ci := 10) (q0 := 0) ⟨hx, hb, hml, hown, hts⟩ (kX10_endsInWordOrNumber l dC dI cI cB cJ cZ cM z ad N a_p0 txI_137 txR tx_kindsF_137 tx_kindsN h_2) (cwV 0 hts gX10_readPiece_X10_endsInWordOrNumber rfl rfl rfl (by decide +kernel) ⟨Nat.le_of_ble_eq_true rfl, Nat.le_of_ble_eq_true rfl⟩) hN hK hP hD hS hA [0, 3] (by decide) rfl rfl rfl rfl rfl rfl hl.1 rfl (Nat.le_of_ble_eq_true rfl) dX10_readPiece_144 ⟨Nat.zero_le _, Nat.zero_le _⟩ (fun H locs hP hD hS => ?_)
      have hP : va_P (dC, dI) vwCl [(a_p0, .inr (10, oX10 txI_137 txR)), ((txR 0), .inr (9, oX9 tapeI tapeR)), ((tapeR 0), .inl (cB, 1600, .inl tape_bytesF)), ((txR 1), .inl (cI, tx_kindsN, .inl tx_kindsF_137)), ((txR 2), .inl (cI, tx_startsN, .inl tx_startsF_137)), ((txR 3), .inl (cI, tx_valuesN, .inl tx_valuesF_137))] H := hP
      have hD : va_D A [(a_p0, .inr (10, oX10 txI_137 txR)), ((txR 0), .inr (9, oX9 tapeI tapeR)), ((tapeR 0), .inl (cB, 1600, .inl tape_bytesF)), ((txR 1), .inl (cI, tx_kindsN, .inl tx_kindsF_137)), ((txR 2), .inl (cI, tx_startsN, .inl tx_startsF_137)), ((txR 3), .inl (cI, tx_valuesN, .inl tx_valuesF_137))] := hD
      refine W.eq (g2 := F0 m 147 ls [.int r_1]) rfl ?_
      refine lv_if_eq (tgt := 161) hx hb dX10_readPiece_147 (by decide) (fun c_ => ?_) (fun c_ => ?_)
      · have hf := xq_pos hf c_
        exact b161 txI_137 tx_kindsF_137 tx_startsF_137 tx_valuesF_137 x1_137 x4_137 x5_137 y0_137 _ _ _ hf hP hD hS (lv_sub hl [1, 2, 4, 5, 0] rfl)
      · have hf := xq_neg hf c_
        refine lv_aload_n hx hb dX10_readPiece_150 rfl (lv_at hl 1 rfl) ?_
        refine lv_bipush (v := (-2)) hx hb dX10_readPiece_151 (by decide) ?_
        refine lv_iload_n hx hb dX10_readPiece_153 rfl (lv_at hl 2 rfl) ?_
        refine lv_iload_n hx hb dX10_readPiece_154 rfl (lv_at hl 2 rfl) ?_
        obtain ⟨⟨r_3_0, r_3_1, r_3_2, r_3_3⟩, h_4, hf⟩ := xq_bd_some hf
        refine xq_callV (As := [.int ((-2)), .int x1_137, .int x1_137]) (rest := []) (ci := 10) (q0 := 0) ⟨hx, hb, hml, hown, hts⟩ (kX10_addPiece l dC dI cI cB cJ cZ cM z ad N a_p0 txI_137 txR tx_kindsF_137 tx_kindsN tx_startsF_137 tx_startsN tx_valuesF_137 tx_valuesN ((-2)) x1_137 x1_137 h_4) (cwV 3 hts gX10_readPiece_X10_addPiece rfl rfl rfl (by decide +kernel) ⟨Nat.le_of_ble_eq_true rfl, Nat.le_of_ble_eq_true rfl⟩) hN hK hP hD hS hA [0, 3, 4, 5] (by decide) rfl rfl rfl rfl rfl rfl hl.1 rfl (Nat.le_of_ble_eq_true rfl) dX10_readPiece_155 ⟨Nat.zero_le _, Nat.zero_le _⟩ (fun H locs hP hD hS => ?_)
        have hP : va_P (dC, dI) vwCl [(a_p0, .inr (10, oX10 r_3_0 txR)), ((txR 0), .inr (9, oX9 tapeI tapeR)), ((tapeR 0), .inl (cB, 1600, .inl tape_bytesF)), ((txR 1), .inl (cI, tx_kindsN, .inl r_3_1)), ((txR 2), .inl (cI, tx_startsN, .inl r_3_2)), ((txR 3), .inl (cI, tx_valuesN, .inl r_3_3))] H := hP
        have hD : va_D A [(a_p0, .inr (10, oX10 r_3_0 txR)), ((txR 0), .inr (9, oX9 tapeI tapeR)), ((tapeR 0), .inl (cB, 1600, .inl tape_bytesF)), ((txR 1), .inl (cI, tx_kindsN, .inl r_3_1)), ((txR 2), .inl (cI, tx_startsN, .inl r_3_2)), ((txR 3), .inl (cI, tx_valuesN, .inl r_3_3))] := hD
        refine W.eq (g2 := F0 m 158 ls []) rfl ?_
        refine lv_goto (tgt := 213) hx hb dX10_readPiece_158 (by decide) ?_
        refine lv_iload hx hb dX10_readPiece_213 (lv_at hl 5 rfl) ?_
        cases hf
        exact xq_iret hx hb hr hlocks hK hP hD hS dX10_readPiece_215
  have b126 : ∀ (txI_126 : Nat → Int32) (tx_kindsF_126 : Nat → Int32) (tx_startsF_126 : Nat → Int32) (tx_valuesF_126 : Nat → Int32) (x1_126 : Int32) (x2_126 : Int32) (x4_126 : Int32) (x5_126 : Int32) (ls : Array Slot) (H : Heap) (locs : List Loc), fX10_readPiece_b126 N tapeI tape_bytesF tx_kindsN tx_startsN tx_valuesN (txI_126, tx_kindsF_126, tx_startsF_126, tx_valuesF_126, x1_126, x2_126, x4_126, x5_126) = some (r0, r1, r2, r3, r4) → va_P (dC, dI) vwCl [(a_p0, .inr (10, oX10 txI_126 txR)), ((txR 0), .inr (9, oX9 tapeI tapeR)), ((tapeR 0), .inl (cB, 1600, .inl tape_bytesF)), ((txR 1), .inl (cI, tx_kindsN, .inl tx_kindsF_126)), ((txR 2), .inl (cI, tx_startsN, .inl tx_startsF_126)), ((txR 3), .inl (cI, tx_valuesN, .inl tx_valuesF_126))] H → va_D A [(a_p0, .inr (10, oX10 txI_126 txR)), ((txR 0), .inr (9, oX9 tapeI tapeR)), ((tapeR 0), .inl (cB, 1600, .inl tape_bytesF)), ((txR 1), .inl (cI, tx_kindsN, .inl tx_kindsF_126)), ((txR 2), .inl (cI, tx_startsN, .inl tx_startsF_126)), ((txR 3), .inl (cI, tx_valuesN, .inl tx_valuesF_126))] → va_S A s.heap H locs → lv_has ls 7 [(0, .ref a_p0), (1, .int x1_126), (2, .int x2_126), (4, .int x4_126), (5, .int x5_126)] → W p l e (headSpec wsX10_readPiece { frames := 6, cells := 0, slots := 0, locals := 135 }).room s m [.ref a_p0, .int p1, .int p2].toArray below meth c H locs 0 0 (MQ below (xq_Q (dC, dI) vwCl (xq_tys cI cB cJ cZ cM) A [(a_p0, .inr (10, oX10 r1 txR)), ((txR 0), .inr (9, oX9 tapeI tapeR)), ((tapeR 0), .inl (cB, 1600, .inl tape_bytesF)), ((txR 1), .inl (cI, tx_kindsN, .inl r2)), ((txR 2), .inl (cI, tx_startsN, .inl r3)), ((txR 3), .inl (cI, tx_valuesN, .inl r4))] (some (.int r0))) [.ref a_p0, .int p1, .int p2].toArray s 0 0 A) (F0 m 126 ls []) := by
    intro txI_126 tx_kindsF_126 tx_startsF_126 tx_valuesF_126 x1_126 x2_126 x4_126 x5_126 ls H locs hf hP hD hS hl
    unfold fX10_readPiece_b126 at hf
    refine lv_iload hx hb dX10_readPiece_126 (lv_at hl 3 rfl) ?_
    refine lv_if_eq (tgt := 136) hx hb dX10_readPiece_128 (by decide) (fun c_ => ?_) (fun c_ => ?_)
    · have hf := xq_pos hf c_
      refine lv_iconst (v := 4) hx hb dX10_readPiece_136 (by decide) ?_
      exact b137 txI_126 tx_kindsF_126 tx_startsF_126 tx_valuesF_126 x1_126 x2_126 x4_126 x5_126 4 _ _ _ hf hP hD hS (lv_sub hl [0, 1, 2, 3, 4] rfl)
    · have hf := xq_neg hf c_
      refine lv_bipush (v := 6) hx hb dX10_readPiece_131 (by decide) ?_
      refine lv_goto (tgt := 137) hx hb dX10_readPiece_133 (by decide) ?_
      exact b137 txI_126 tx_kindsF_126 tx_startsF_126 tx_valuesF_126 x1_126 x2_126 x4_126 x5_126 6 _ _ _ hf hP hD hS (lv_sub hl [0, 1, 2, 3, 4] rfl)
  have l70 : ∀ n70 : Nat, ∀ (txI_70 : Nat → Int32) (tx_kindsF_70 : Nat → Int32) (tx_startsF_70 : Nat → Int32) (tx_valuesF_70 : Nat → Int32) (x1_70 : Int32) (x2_70 : Int32) (x4_70 : Int32) (x5_70 : Int32) (ls : Array Slot) (H : Heap) (locs : List Loc), xq_loop (fX10_readPiece_l70 N tapeI tape_bytesF tx_kindsN tx_startsN tx_valuesN) n70 (txI_70, tx_kindsF_70, tx_startsF_70, tx_valuesF_70, x1_70, x2_70, x4_70, x5_70) = some (r0, r1, r2, r3, r4) → va_P (dC, dI) vwCl [(a_p0, .inr (10, oX10 txI_70 txR)), ((txR 0), .inr (9, oX9 tapeI tapeR)), ((tapeR 0), .inl (cB, 1600, .inl tape_bytesF)), ((txR 1), .inl (cI, tx_kindsN, .inl tx_kindsF_70)), ((txR 2), .inl (cI, tx_startsN, .inl tx_startsF_70)), ((txR 3), .inl (cI, tx_valuesN, .inl tx_valuesF_70))] H → va_D A [(a_p0, .inr (10, oX10 txI_70 txR)), ((txR 0), .inr (9, oX9 tapeI tapeR)), ((tapeR 0), .inl (cB, 1600, .inl tape_bytesF)), ((txR 1), .inl (cI, tx_kindsN, .inl tx_kindsF_70)), ((txR 2), .inl (cI, tx_startsN, .inl tx_startsF_70)), ((txR 3), .inl (cI, tx_valuesN, .inl tx_valuesF_70))] → va_S A s.heap H locs → lv_has ls 7 [(0, .ref a_p0), (1, .int x1_70), (2, .int x2_70), (4, .int x4_70), (5, .int x5_70)] → W p l e (headSpec wsX10_readPiece { frames := 6, cells := 0, slots := 0, locals := 135 }).room s m [.ref a_p0, .int p1, .int p2].toArray below meth c H locs 0 0 (MQ below (xq_Q (dC, dI) vwCl (xq_tys cI cB cJ cZ cM) A [(a_p0, .inr (10, oX10 r1 txR)), ((txR 0), .inr (9, oX9 tapeI tapeR)), ((tapeR 0), .inl (cB, 1600, .inl tape_bytesF)), ((txR 1), .inl (cI, tx_kindsN, .inl r2)), ((txR 2), .inl (cI, tx_startsN, .inl r3)), ((txR 3), .inl (cI, tx_valuesN, .inl r4))] (some (.int r0))) [.ref a_p0, .int p1, .int p2].toArray s 0 0 A) (F0 m 70 ls []) := by
    intro n70
    induction n70 with
    | zero => intro txI_70 tx_kindsF_70 tx_startsF_70 tx_valuesF_70 x1_70 x2_70 x4_70 x5_70 ls H locs hf; cases (show none = some (r0, r1, r2, r3, r4) from hf)
    | succ n70 ih70 =>
      have b120 : ∀ (txI_120 : Nat → Int32) (tx_kindsF_120 : Nat → Int32) (tx_startsF_120 : Nat → Int32) (tx_valuesF_120 : Nat → Int32) (x1_120 : Int32) (x2_120 : Int32) (x4_120 : Int32) (x5_120 : Int32) (ls : Array Slot) (H : Heap) (locs : List Loc), fX10_readPiece_b120 N tapeI tape_bytesF tx_kindsN tx_startsN tx_valuesN (xq_loop (fX10_readPiece_l70 N tapeI tape_bytesF tx_kindsN tx_startsN tx_valuesN) n70) (txI_120, tx_kindsF_120, tx_startsF_120, tx_valuesF_120, x1_120, x2_120, x4_120, x5_120) = some (r0, r1, r2, r3, r4) → va_P (dC, dI) vwCl [(a_p0, .inr (10, oX10 txI_120 txR)), ((txR 0), .inr (9, oX9 tapeI tapeR)), ((tapeR 0), .inl (cB, 1600, .inl tape_bytesF)), ((txR 1), .inl (cI, tx_kindsN, .inl tx_kindsF_120)), ((txR 2), .inl (cI, tx_startsN, .inl tx_startsF_120)), ((txR 3), .inl (cI, tx_valuesN, .inl tx_valuesF_120))] H → va_D A [(a_p0, .inr (10, oX10 txI_120 txR)), ((txR 0), .inr (9, oX9 tapeI tapeR)), ((tapeR 0), .inl (cB, 1600, .inl tape_bytesF)), ((txR 1), .inl (cI, tx_kindsN, .inl tx_kindsF_120)), ((txR 2), .inl (cI, tx_startsN, .inl tx_startsF_120)), ((txR 3), .inl (cI, tx_valuesN, .inl tx_valuesF_120))] → va_S A s.heap H locs → lv_has ls 7 [(0, .ref a_p0), (1, .int x1_120), (2, .int x2_120), (4, .int x4_120), (5, .int x5_120)] → W p l e (headSpec wsX10_readPiece { frames := 6, cells := 0, slots := 0, locals := 135 }).room s m [.ref a_p0, .int p1, .int p2].toArray below meth c H locs 0 0 (MQ below (xq_Q (dC, dI) vwCl (xq_tys cI cB cJ cZ cM) A [(a_p0, .inr (10, oX10 r1 txR)), ((txR 0), .inr (9, oX9 tapeI tapeR)), ((tapeR 0), .inl (cB, 1600, .inl tape_bytesF)), ((txR 1), .inl (cI, tx_kindsN, .inl r2)), ((txR 2), .inl (cI, tx_startsN, .inl r3)), ((txR 3), .inl (cI, tx_valuesN, .inl r4))] (some (.int r0))) [.ref a_p0, .int p1, .int p2].toArray s 0 0 A) (F0 m 120 ls []) := by
        intro txI_120 tx_kindsF_120 tx_startsF_120 tx_valuesF_120 x1_120 x2_120 x4_120 x5_120 ls H locs hf hP hD hS hl
        unfold fX10_readPiece_b120 at hf
        refine lv_iinc (v := x5_120 + 1) (lv' := [(5, .int (x5_120 + 1)), (0, .ref a_p0), (1, .int x1_120), (2, .int x2_120), (4, .int x4_120)]) hx hb dX10_readPiece_120 hl (k := 4) rfl (congrArg (fun q9 => x5_120 + q9) (by decide : Int32.ofInt 1 = 1)) (by decide) rfl (fun ls hl => ?_)
        refine lv_goto (tgt := 70) hx hb dX10_readPiece_123 (by decide) ?_
        exact ih70 txI_120 tx_kindsF_120 tx_startsF_120 tx_valuesF_120 x1_120 x2_120 x4_120 (x5_120 + 1) _ _ _ hf hP hD hS (lv_sub hl [1, 2, 3, 4, 0] rfl)
      intro txI_70 tx_kindsF_70 tx_startsF_70 tx_valuesF_70 x1_70 x2_70 x4_70 x5_70 ls H locs hf hP hD hS hl
      have hf : fX10_readPiece_l70 N tapeI tape_bytesF tx_kindsN tx_startsN tx_valuesN (xq_loop (fX10_readPiece_l70 N tapeI tape_bytesF tx_kindsN tx_startsN tx_valuesN) n70) (txI_70, tx_kindsF_70, tx_startsF_70, tx_valuesF_70, x1_70, x2_70, x4_70, x5_70) = some (r0, r1, r2, r3, r4) := hf
      unfold fX10_readPiece_l70 at hf
      refine lv_iload hx hb dX10_readPiece_70 (lv_at hl 4 rfl) ?_
      refine lv_aload_n hx hb dX10_readPiece_72 rfl (lv_at hl 0 rfl) ?_
      refine va_get (D := (dC, dI)) (ci := 10) (v := .ref ((txR 0))) (C := RX10) (T := TX10) (N := 8) hx hb hts hinX10 hown hK hP 0 rfl rfl 0 (by decide) hw0 (fun _ h9 => h9) rfl dX10_readPiece_73 ?_
      refine va_getN (D := (dC, dI)) (ci := 9) (v := .int (tapeI 1)) (C := RX9) (T := TX9) (N := 2) hx hb hts hinX9 hown hK hP 1 rfl rfl 1 (by decide) hnf0 (fun _ h9 => h9) rfl dX10_readPiece_76 ?_
      refine lv_icmp_ge (tgt := 126) hx hb dX10_readPiece_79 (by decide) (fun c_ => ?_) (fun c_ => ?_)
      · have hf := xq_pos hf c_
        exact b126 txI_70 tx_kindsF_70 tx_startsF_70 tx_valuesF_70 x1_70 x2_70 x4_70 x5_70 _ _ _ hf hP hD hS (lv_sub hl [0, 1, 2, 3, 4] rfl)
      · have hf := xq_neg hf c_
        refine lv_iload hx hb dX10_readPiece_82 (lv_at hl 3 rfl) ?_
        refine lv_if_eq (tgt := 105) hx hb dX10_readPiece_84 (by decide) (fun c_ => ?_) (fun c_ => ?_)
        · have hf := xq_pos hf c_
          refine lv_aload_n hx hb dX10_readPiece_105 rfl (lv_at hl 0 rfl) ?_
          refine va_get (D := (dC, dI)) (ci := 10) (v := .ref ((txR 0))) (C := RX10) (T := TX10) (N := 8) hx hb hts hinX10 hown hK hP 0 rfl rfl 0 (by decide) hw0 (fun _ h9 => h9) rfl dX10_readPiece_106 ?_
          refine lv_iload hx hb dX10_readPiece_109 (lv_at hl 4 rfl) ?_
          obtain ⟨r_1, h_2, hf⟩ := xq_bd_some hf
          refine xq_callV (As := [.int x5_70]) (rest := []) (ci := 9) (q0 := 1) ⟨hx, hb, hml, hown, hts⟩ (kX9_at l dC dI cI cB cJ cZ cM z ad N ((txR 0)) tapeI tapeR tape_bytesF x5_70 h_2) (cwV 1 hts gX10_readPiece_X9_at rfl rfl rfl (by decide +kernel) ⟨Nat.le_of_ble_eq_true rfl, Nat.le_of_ble_eq_true rfl⟩) hN hK hP hD hS hA [1, 2] (by decide) rfl rfl rfl rfl rfl rfl hl.1 rfl (Nat.le_of_ble_eq_true rfl) dX10_readPiece_111 ⟨Nat.zero_le _, Nat.zero_le _⟩ (fun H locs hP hD hS => ?_)
          have hP : va_P (dC, dI) vwCl [(a_p0, .inr (10, oX10 txI_70 txR)), ((txR 0), .inr (9, oX9 tapeI tapeR)), ((tapeR 0), .inl (cB, 1600, .inl tape_bytesF)), ((txR 1), .inl (cI, tx_kindsN, .inl tx_kindsF_70)), ((txR 2), .inl (cI, tx_startsN, .inl tx_startsF_70)), ((txR 3), .inl (cI, tx_valuesN, .inl tx_valuesF_70))] H := hP
          have hD : va_D A [(a_p0, .inr (10, oX10 txI_70 txR)), ((txR 0), .inr (9, oX9 tapeI tapeR)), ((tapeR 0), .inl (cB, 1600, .inl tape_bytesF)), ((txR 1), .inl (cI, tx_kindsN, .inl tx_kindsF_70)), ((txR 2), .inl (cI, tx_startsN, .inl tx_startsF_70)), ((txR 3), .inl (cI, tx_valuesN, .inl tx_valuesF_70))] := hD
          refine W.eq (g2 := F0 m 114 ls [.int r_1]) rfl ?_
          obtain ⟨r_3, h_4, hf⟩ := xq_bd_some hf
          refine xq_callS (As := [.int r_1]) (rest := []) ⟨hx, hb, hml, hown, hts⟩ (kX10_isFigure l dC dI cI cB cJ cZ cM z ad N r_1 h_4) (va_cwS 1 hts gX10_readPiece_X10_isFigure rfl rfl rfl (by decide +kernel) ⟨Nat.le_of_ble_eq_true rfl, Nat.le_of_ble_eq_true rfl⟩) hN hK hP hD hS hA [] (by decide) rfl rfl rfl hl.1 rfl (Nat.le_of_ble_eq_true rfl) dX10_readPiece_114 ⟨Nat.zero_le _, Nat.zero_le _⟩ (fun H locs hP hD hS => ?_)
          have hP : va_P (dC, dI) vwCl [(a_p0, .inr (10, oX10 txI_70 txR)), ((txR 0), .inr (9, oX9 tapeI tapeR)), ((tapeR 0), .inl (cB, 1600, .inl tape_bytesF)), ((txR 1), .inl (cI, tx_kindsN, .inl tx_kindsF_70)), ((txR 2), .inl (cI, tx_startsN, .inl tx_startsF_70)), ((txR 3), .inl (cI, tx_valuesN, .inl tx_valuesF_70))] H := hP
          have hD : va_D A [(a_p0, .inr (10, oX10 txI_70 txR)), ((txR 0), .inr (9, oX9 tapeI tapeR)), ((tapeR 0), .inl (cB, 1600, .inl tape_bytesF)), ((txR 1), .inl (cI, tx_kindsN, .inl tx_kindsF_70)), ((txR 2), .inl (cI, tx_startsN, .inl tx_startsF_70)), ((txR 3), .inl (cI, tx_valuesN, .inl tx_valuesF_70))] := hD
          refine W.eq (g2 := F0 m 117 ls [.int r_3]) rfl ?_
          refine lv_if_eq (tgt := 126) hx hb dX10_readPiece_117 (by decide) (fun c_ => ?_) (fun c_ => ?_)
          · have hf := xq_pos hf c_
            exact b126 txI_70 tx_kindsF_70 tx_startsF_70 tx_valuesF_70 x1_70 x2_70 x4_70 x5_70 _ _ _ hf hP hD hS (lv_sub hl [0, 1, 2, 3, 4] rfl)
          · have hf := xq_neg hf c_
            exact b120 txI_70 tx_kindsF_70 tx_startsF_70 tx_valuesF_70 x1_70 x2_70 x4_70 x5_70 _ _ _ hf hP hD hS (lv_sub hl [0, 1, 2, 3, 4] rfl)
        · have hf := xq_neg hf c_
          refine lv_aload_n hx hb dX10_readPiece_87 rfl (lv_at hl 0 rfl) ?_
          refine va_get (D := (dC, dI)) (ci := 10) (v := .ref ((txR 0))) (C := RX10) (T := TX10) (N := 8) hx hb hts hinX10 hown hK hP 0 rfl rfl 0 (by decide) hw0 (fun _ h9 => h9) rfl dX10_readPiece_88 ?_
          refine lv_iload hx hb dX10_readPiece_91 (lv_at hl 4 rfl) ?_
          obtain ⟨r_5, h_6, hf⟩ := xq_bd_some hf
          refine xq_callV (As := [.int x5_70]) (rest := []) (ci := 9) (q0 := 1) ⟨hx, hb, hml, hown, hts⟩ (kX9_at l dC dI cI cB cJ cZ cM z ad N ((txR 0)) tapeI tapeR tape_bytesF x5_70 h_6) (cwV 1 hts gX10_readPiece_X9_at rfl rfl rfl (by decide +kernel) ⟨Nat.le_of_ble_eq_true rfl, Nat.le_of_ble_eq_true rfl⟩) hN hK hP hD hS hA [1, 2] (by decide) rfl rfl rfl rfl rfl rfl hl.1 rfl (Nat.le_of_ble_eq_true rfl) dX10_readPiece_93 ⟨Nat.zero_le _, Nat.zero_le _⟩ (fun H locs hP hD hS => ?_)
          have hP : va_P (dC, dI) vwCl [(a_p0, .inr (10, oX10 txI_70 txR)), ((txR 0), .inr (9, oX9 tapeI tapeR)), ((tapeR 0), .inl (cB, 1600, .inl tape_bytesF)), ((txR 1), .inl (cI, tx_kindsN, .inl tx_kindsF_70)), ((txR 2), .inl (cI, tx_startsN, .inl tx_startsF_70)), ((txR 3), .inl (cI, tx_valuesN, .inl tx_valuesF_70))] H := hP
          have hD : va_D A [(a_p0, .inr (10, oX10 txI_70 txR)), ((txR 0), .inr (9, oX9 tapeI tapeR)), ((tapeR 0), .inl (cB, 1600, .inl tape_bytesF)), ((txR 1), .inl (cI, tx_kindsN, .inl tx_kindsF_70)), ((txR 2), .inl (cI, tx_startsN, .inl tx_startsF_70)), ((txR 3), .inl (cI, tx_valuesN, .inl tx_valuesF_70))] := hD
          refine W.eq (g2 := F0 m 96 ls [.int r_5]) rfl ?_
          obtain ⟨r_7, h_8, hf⟩ := xq_bd_some hf
          refine xq_callS (As := [.int r_5]) (rest := []) ⟨hx, hb, hml, hown, hts⟩ (kX10_isLetter l dC dI cI cB cJ cZ cM z ad N r_5 h_8) (va_cwS 1 hts gX10_readPiece_X10_isLetter rfl rfl rfl (by decide +kernel) ⟨Nat.le_of_ble_eq_true rfl, Nat.le_of_ble_eq_true rfl⟩) hN hK hP hD hS hA [] (by decide) rfl rfl rfl hl.1 rfl (Nat.le_of_ble_eq_true rfl) dX10_readPiece_96 ⟨Nat.zero_le _, Nat.zero_le _⟩ (fun H locs hP hD hS => ?_)
          have hP : va_P (dC, dI) vwCl [(a_p0, .inr (10, oX10 txI_70 txR)), ((txR 0), .inr (9, oX9 tapeI tapeR)), ((tapeR 0), .inl (cB, 1600, .inl tape_bytesF)), ((txR 1), .inl (cI, tx_kindsN, .inl tx_kindsF_70)), ((txR 2), .inl (cI, tx_startsN, .inl tx_startsF_70)), ((txR 3), .inl (cI, tx_valuesN, .inl tx_valuesF_70))] H := hP
          have hD : va_D A [(a_p0, .inr (10, oX10 txI_70 txR)), ((txR 0), .inr (9, oX9 tapeI tapeR)), ((tapeR 0), .inl (cB, 1600, .inl tape_bytesF)), ((txR 1), .inl (cI, tx_kindsN, .inl tx_kindsF_70)), ((txR 2), .inl (cI, tx_startsN, .inl tx_startsF_70)), ((txR 3), .inl (cI, tx_valuesN, .inl tx_valuesF_70))] := hD
          refine W.eq (g2 := F0 m 99 ls [.int r_7]) rfl ?_
          refine lv_if_eq (tgt := 126) hx hb dX10_readPiece_99 (by decide) (fun c_ => ?_) (fun c_ => ?_)
          · have hf := xq_pos hf c_
            exact b126 txI_70 tx_kindsF_70 tx_startsF_70 tx_valuesF_70 x1_70 x2_70 x4_70 x5_70 _ _ _ hf hP hD hS (lv_sub hl [0, 1, 2, 3, 4] rfl)
          · have hf := xq_neg hf c_
            refine lv_goto (tgt := 120) hx hb dX10_readPiece_102 (by decide) ?_
            exact b120 txI_70 tx_kindsF_70 tx_startsF_70 tx_valuesF_70 x1_70 x2_70 x4_70 x5_70 _ _ _ hf hP hD hS (lv_sub hl [0, 1, 2, 3, 4] rfl)
  have b67 : ∀ (txI_67 : Nat → Int32) (tx_kindsF_67 : Nat → Int32) (tx_startsF_67 : Nat → Int32) (tx_valuesF_67 : Nat → Int32) (x1_67 : Int32) (x2_67 : Int32) (x4_67 : Int32) (ls : Array Slot) (H : Heap) (locs : List Loc), fX10_readPiece_b67 N tapeI tape_bytesF tx_kindsN tx_startsN tx_valuesN (txI_67, tx_kindsF_67, tx_startsF_67, tx_valuesF_67, x1_67, x2_67, x4_67) = some (r0, r1, r2, r3, r4) → va_P (dC, dI) vwCl [(a_p0, .inr (10, oX10 txI_67 txR)), ((txR 0), .inr (9, oX9 tapeI tapeR)), ((tapeR 0), .inl (cB, 1600, .inl tape_bytesF)), ((txR 1), .inl (cI, tx_kindsN, .inl tx_kindsF_67)), ((txR 2), .inl (cI, tx_startsN, .inl tx_startsF_67)), ((txR 3), .inl (cI, tx_valuesN, .inl tx_valuesF_67))] H → va_D A [(a_p0, .inr (10, oX10 txI_67 txR)), ((txR 0), .inr (9, oX9 tapeI tapeR)), ((tapeR 0), .inl (cB, 1600, .inl tape_bytesF)), ((txR 1), .inl (cI, tx_kindsN, .inl tx_kindsF_67)), ((txR 2), .inl (cI, tx_startsN, .inl tx_startsF_67)), ((txR 3), .inl (cI, tx_valuesN, .inl tx_valuesF_67))] → va_S A s.heap H locs → lv_has ls 7 [(0, .ref a_p0), (1, .int x1_67), (2, .int x2_67), (4, .int x4_67)] → W p l e (headSpec wsX10_readPiece { frames := 6, cells := 0, slots := 0, locals := 135 }).room s m [.ref a_p0, .int p1, .int p2].toArray below meth c H locs 0 0 (MQ below (xq_Q (dC, dI) vwCl (xq_tys cI cB cJ cZ cM) A [(a_p0, .inr (10, oX10 r1 txR)), ((txR 0), .inr (9, oX9 tapeI tapeR)), ((tapeR 0), .inl (cB, 1600, .inl tape_bytesF)), ((txR 1), .inl (cI, tx_kindsN, .inl r2)), ((txR 2), .inl (cI, tx_startsN, .inl r3)), ((txR 3), .inl (cI, tx_valuesN, .inl r4))] (some (.int r0))) [.ref a_p0, .int p1, .int p2].toArray s 0 0 A) (F0 m 67 ls []) := by
    intro txI_67 tx_kindsF_67 tx_startsF_67 tx_valuesF_67 x1_67 x2_67 x4_67 ls H locs hf hP hD hS hl
    unfold fX10_readPiece_b67 at hf
    refine lv_iload_n hx hb dX10_readPiece_67 rfl (lv_at hl 1 rfl) ?_
    refine lv_istore (lv' := [(5, .int x1_67), (0, .ref a_p0), (1, .int x1_67), (2, .int x2_67), (4, .int x4_67)]) hx hb dX10_readPiece_68 hl (by decide) rfl (fun ls hl => ?_)
    exact l70 N txI_67 tx_kindsF_67 tx_startsF_67 tx_valuesF_67 x1_67 x2_67 x4_67 x1_67 _ _ _ hf hP hD hS (lv_sub hl [1, 2, 3, 4, 0] rfl)
  have b58 : ∀ (txI_58 : Nat → Int32) (tx_kindsF_58 : Nat → Int32) (tx_startsF_58 : Nat → Int32) (tx_valuesF_58 : Nat → Int32) (x1_58 : Int32) (y1_58 : Int32) (ls : Array Slot) (H : Heap) (locs : List Loc), fX10_readPiece_b58 N tapeI tape_bytesF tx_kindsN tx_startsN tx_valuesN (txI_58, tx_kindsF_58, tx_startsF_58, tx_valuesF_58, x1_58, y1_58) = some (r0, r1, r2, r3, r4) → va_P (dC, dI) vwCl [(a_p0, .inr (10, oX10 txI_58 txR)), ((txR 0), .inr (9, oX9 tapeI tapeR)), ((tapeR 0), .inl (cB, 1600, .inl tape_bytesF)), ((txR 1), .inl (cI, tx_kindsN, .inl tx_kindsF_58)), ((txR 2), .inl (cI, tx_startsN, .inl tx_startsF_58)), ((txR 3), .inl (cI, tx_valuesN, .inl tx_valuesF_58))] H → va_D A [(a_p0, .inr (10, oX10 txI_58 txR)), ((txR 0), .inr (9, oX9 tapeI tapeR)), ((tapeR 0), .inl (cB, 1600, .inl tape_bytesF)), ((txR 1), .inl (cI, tx_kindsN, .inl tx_kindsF_58)), ((txR 2), .inl (cI, tx_startsN, .inl tx_startsF_58)), ((txR 3), .inl (cI, tx_valuesN, .inl tx_valuesF_58))] → va_S A s.heap H locs → lv_has ls 7 [(1, .int x1_58)] → W p l e (headSpec wsX10_readPiece { frames := 6, cells := 0, slots := 0, locals := 135 }).room s m [.ref a_p0, .int p1, .int p2].toArray below meth c H locs 0 0 (MQ below (xq_Q (dC, dI) vwCl (xq_tys cI cB cJ cZ cM) A [(a_p0, .inr (10, oX10 r1 txR)), ((txR 0), .inr (9, oX9 tapeI tapeR)), ((tapeR 0), .inl (cB, 1600, .inl tape_bytesF)), ((txR 1), .inl (cI, tx_kindsN, .inl r2)), ((txR 2), .inl (cI, tx_startsN, .inl r3)), ((txR 3), .inl (cI, tx_valuesN, .inl r4))] (some (.int r0))) [.ref a_p0, .int p1, .int p2].toArray s 0 0 A) (F0 m 58 ls [.int y1_58, .ref a_p0]) := by
    intro txI_58 tx_kindsF_58 tx_startsF_58 tx_valuesF_58 x1_58 y1_58 ls H locs hf hP hD hS hl
    unfold fX10_readPiece_b58 at hf
    refine lv_iload_n hx hb dX10_readPiece_58 rfl (lv_at hl 0 rfl) ?_
    refine lv_iload_n hx hb dX10_readPiece_59 rfl (lv_at hl 0 rfl) ?_
    obtain ⟨⟨r_1_0, r_1_1, r_1_2, r_1_3⟩, h_2, hf⟩ := xq_bd_some hf
    refine xq_callV (As := [.int y1_58, .int x1_58, .int x1_58]) (rest := []) (ci := 10) (q0 := 0) ⟨hx, hb, hml, hown, hts⟩ (kX10_addPiece l dC dI cI cB cJ cZ cM z ad N a_p0 txI_58 txR tx_kindsF_58 tx_kindsN tx_startsF_58 tx_startsN tx_valuesF_58 tx_valuesN y1_58 x1_58 x1_58 h_2) (cwV 3 hts gX10_readPiece_X10_addPiece rfl rfl rfl (by decide +kernel) ⟨Nat.le_of_ble_eq_true rfl, Nat.le_of_ble_eq_true rfl⟩) hN hK hP hD hS hA [0, 3, 4, 5] (by decide) rfl rfl rfl rfl rfl rfl hl.1 rfl (Nat.le_of_ble_eq_true rfl) dX10_readPiece_60 ⟨Nat.zero_le _, Nat.zero_le _⟩ (fun H locs hP hD hS => ?_)
    have hP : va_P (dC, dI) vwCl [(a_p0, .inr (10, oX10 r_1_0 txR)), ((txR 0), .inr (9, oX9 tapeI tapeR)), ((tapeR 0), .inl (cB, 1600, .inl tape_bytesF)), ((txR 1), .inl (cI, tx_kindsN, .inl r_1_1)), ((txR 2), .inl (cI, tx_startsN, .inl r_1_2)), ((txR 3), .inl (cI, tx_valuesN, .inl r_1_3))] H := hP
    have hD : va_D A [(a_p0, .inr (10, oX10 r_1_0 txR)), ((txR 0), .inr (9, oX9 tapeI tapeR)), ((tapeR 0), .inl (cB, 1600, .inl tape_bytesF)), ((txR 1), .inl (cI, tx_kindsN, .inl r_1_1)), ((txR 2), .inl (cI, tx_startsN, .inl r_1_2)), ((txR 3), .inl (cI, tx_valuesN, .inl r_1_3))] := hD
    refine W.eq (g2 := F0 m 63 ls []) rfl ?_
    refine lv_iload_n hx hb dX10_readPiece_63 rfl (lv_at hl 0 rfl) ?_
    refine lv_iconst (v := 1) hx hb dX10_readPiece_64 (by decide) ?_
    refine lv_iadd hx hb dX10_readPiece_65 ?_
    cases hf
    exact xq_iret hx hb hr hlocks hK hP hD hS dX10_readPiece_66
  unfold fX10_readPiece at hf
  refine lv_aload_n hx hb dX10_readPiece_0 rfl (lv_at hl 0 rfl) ?_
  refine va_get (D := (dC, dI)) (ci := 10) (v := .ref ((txR 0))) (C := RX10) (T := TX10) (N := 8) hx hb hts hinX10 hown hK hP 0 rfl rfl 0 (by decide) hw0 (fun _ h9 => h9) rfl dX10_readPiece_1 ?_
  refine lv_iload_n hx hb dX10_readPiece_4 rfl (lv_at hl 1 rfl) ?_
  obtain ⟨r_1, h_2, hf⟩ := xq_bd_some hf
  refine xq_callV (As := [.int p1]) (rest := []) (ci := 9) (q0 := 1) ⟨hx, hb, hml, hown, hts⟩ (kX9_at l dC dI cI cB cJ cZ cM z ad N ((txR 0)) tapeI tapeR tape_bytesF p1 h_2) (cwV 1 hts gX10_readPiece_X9_at rfl rfl rfl (by decide +kernel) ⟨Nat.le_of_ble_eq_true rfl, Nat.le_of_ble_eq_true rfl⟩) hN hK hP hD hS hA [1, 2] (by decide) rfl rfl rfl rfl rfl rfl hl.1 rfl (Nat.le_of_ble_eq_true rfl) dX10_readPiece_5 ⟨Nat.zero_le _, Nat.zero_le _⟩ (fun H locs hP hD hS => ?_)
  have hP : va_P (dC, dI) vwCl [(a_p0, .inr (10, oX10 txI txR)), ((txR 0), .inr (9, oX9 tapeI tapeR)), ((tapeR 0), .inl (cB, 1600, .inl tape_bytesF)), ((txR 1), .inl (cI, tx_kindsN, .inl tx_kindsF)), ((txR 2), .inl (cI, tx_startsN, .inl tx_startsF)), ((txR 3), .inl (cI, tx_valuesN, .inl tx_valuesF))] H := hP
  have hD : va_D A [(a_p0, .inr (10, oX10 txI txR)), ((txR 0), .inr (9, oX9 tapeI tapeR)), ((tapeR 0), .inl (cB, 1600, .inl tape_bytesF)), ((txR 1), .inl (cI, tx_kindsN, .inl tx_kindsF)), ((txR 2), .inl (cI, tx_startsN, .inl tx_startsF)), ((txR 3), .inl (cI, tx_valuesN, .inl tx_valuesF))] := hD
  refine W.eq (g2 := F0 m 8 ls [.int r_1]) rfl ?_
  refine lv_istore_n (lv' := [(3, .int r_1), (0, .ref a_p0), (1, .int p1), (2, .int p2)]) hx hb dX10_readPiece_8 rfl hl (by decide) rfl (fun ls hl => ?_)
  refine lv_iload_n hx hb dX10_readPiece_9 rfl (lv_at hl 0 rfl) ?_
  refine lv_iconst (v := (-1)) hx hb dX10_readPiece_10 (by decide) ?_
  refine lv_icmp_ne (tgt := 23) hx hb dX10_readPiece_11 (by decide) (fun c_ => ?_) (fun c_ => ?_)
  · have hf := xq_neg hf c_
    refine lv_iload_n hx hb dX10_readPiece_23 rfl (lv_at hl 0 rfl) ?_
    obtain ⟨r_3, h_4, hf⟩ := xq_bd_some hf
    refine xq_callS (As := [.int r_1]) (rest := []) ⟨hx, hb, hml, hown, hts⟩ (kX10_isLetter l dC dI cI cB cJ cZ cM z ad N r_1 h_4) (va_cwS 1 hts gX10_readPiece_X10_isLetter rfl rfl rfl (by decide +kernel) ⟨Nat.le_of_ble_eq_true rfl, Nat.le_of_ble_eq_true rfl⟩) hN hK hP hD hS hA [] (by decide) rfl rfl rfl hl.1 rfl (Nat.le_of_ble_eq_true rfl) dX10_readPiece_24 ⟨Nat.zero_le _, Nat.zero_le _⟩ (fun H locs hP hD hS => ?_)
    have hP : va_P (dC, dI) vwCl [(a_p0, .inr (10, oX10 txI txR)), ((txR 0), .inr (9, oX9 tapeI tapeR)), ((tapeR 0), .inl (cB, 1600, .inl tape_bytesF)), ((txR 1), .inl (cI, tx_kindsN, .inl tx_kindsF)), ((txR 2), .inl (cI, tx_startsN, .inl tx_startsF)), ((txR 3), .inl (cI, tx_valuesN, .inl tx_valuesF))] H := hP
    have hD : va_D A [(a_p0, .inr (10, oX10 txI txR)), ((txR 0), .inr (9, oX9 tapeI tapeR)), ((tapeR 0), .inl (cB, 1600, .inl tape_bytesF)), ((txR 1), .inl (cI, tx_kindsN, .inl tx_kindsF)), ((txR 2), .inl (cI, tx_startsN, .inl tx_startsF)), ((txR 3), .inl (cI, tx_valuesN, .inl tx_valuesF))] := hD
    refine W.eq (g2 := F0 m 27 ls [.int r_3]) rfl ?_
    refine lv_istore (lv' := [(4, .int r_3), (3, .int r_1), (0, .ref a_p0), (1, .int p1), (2, .int p2)]) hx hb dX10_readPiece_27 hl (by decide) rfl (fun ls hl => ?_)
    refine lv_iload hx hb dX10_readPiece_29 (lv_at hl 0 rfl) ?_
    refine lv_if_ne (tgt := 67) hx hb dX10_readPiece_31 (by decide) (fun c_ => ?_) (fun c_ => ?_)
    · have hf := xq_neg hf c_
      exact b67 txI tx_kindsF tx_startsF tx_valuesF p1 p2 r_3 _ _ _ hf hP hD hS (lv_sub hl [2, 3, 4, 0] rfl)
    · have hf := xq_pos hf c_
      refine lv_iload_n hx hb dX10_readPiece_34 rfl (lv_at hl 1 rfl) ?_
      obtain ⟨r_5, h_6, hf⟩ := xq_bd_some hf
      refine xq_callS (As := [.int r_1]) (rest := []) ⟨hx, hb, hml, hown, hts⟩ (kX10_isFigure l dC dI cI cB cJ cZ cM z ad N r_1 h_6) (va_cwS 1 hts gX10_readPiece_X10_isFigure rfl rfl rfl (by decide +kernel) ⟨Nat.le_of_ble_eq_true rfl, Nat.le_of_ble_eq_true rfl⟩) hN hK hP hD hS hA [] (by decide) rfl rfl rfl hl.1 rfl (Nat.le_of_ble_eq_true rfl) dX10_readPiece_35 ⟨Nat.zero_le _, Nat.zero_le _⟩ (fun H locs hP hD hS => ?_)
      have hP : va_P (dC, dI) vwCl [(a_p0, .inr (10, oX10 txI txR)), ((txR 0), .inr (9, oX9 tapeI tapeR)), ((tapeR 0), .inl (cB, 1600, .inl tape_bytesF)), ((txR 1), .inl (cI, tx_kindsN, .inl tx_kindsF)), ((txR 2), .inl (cI, tx_startsN, .inl tx_startsF)), ((txR 3), .inl (cI, tx_valuesN, .inl tx_valuesF))] H := hP
      have hD : va_D A [(a_p0, .inr (10, oX10 txI txR)), ((txR 0), .inr (9, oX9 tapeI tapeR)), ((tapeR 0), .inl (cB, 1600, .inl tape_bytesF)), ((txR 1), .inl (cI, tx_kindsN, .inl tx_kindsF)), ((txR 2), .inl (cI, tx_startsN, .inl tx_startsF)), ((txR 3), .inl (cI, tx_valuesN, .inl tx_valuesF))] := hD
      refine W.eq (g2 := F0 m 38 ls [.int r_5]) rfl ?_
      refine lv_if_ne (tgt := 67) hx hb dX10_readPiece_38 (by decide) (fun c_ => ?_) (fun c_ => ?_)
      · have hf := xq_neg hf c_
        exact b67 txI tx_kindsF tx_startsF tx_valuesF p1 p2 r_3 _ _ _ hf hP hD hS (lv_sub hl [2, 3, 4, 0] rfl)
      · have hf := xq_pos hf c_
        refine lv_aload_n hx hb dX10_readPiece_41 rfl (lv_at hl 2 rfl) ?_
        refine va_ldcS hx hb hown hN.1.2.2.2.1 dX10_readPiece_42 ?_
        refine lv_iload_n hx hb dX10_readPiece_44 rfl (lv_at hl 1 rfl) ?_
        refine lv_i2c (v := (r_1.toUInt32 % 65536).toInt32) hx hb dX10_readPiece_45 rfl ?_
        obtain ⟨r_7, h_8, hf⟩ := xq_bd_some hf
        refine xq_callVS (As := [.int ((r_1.toUInt32 % 65536).toInt32)]) (rest := [.ref a_p0]) ⟨hx, hb, hml, hown, hts⟩ (kJ0_indexOf_0f7a4_s0 l dC dI cI cB cJ cZ cM z ad N ((r_1.toUInt32 % 65536).toInt32) h_8) (cwV 1 hts gX10_readPiece_J0_indexOf_0f7a4 rfl rfl rfl (by decide +kernel) ⟨Nat.le_of_ble_eq_true rfl, Nat.le_of_ble_eq_true rfl⟩) hN hK hP hD hS hA [] (by decide) rfl rfl (vk_recv (hN.1.2.2.1.narrow hN.2.2) (i := 0) (by decide) hS) rfl hl.1 rfl (Nat.le_of_ble_eq_true rfl) dX10_readPiece_46 ⟨Nat.zero_le _, Nat.zero_le _⟩ (fun H locs hP hD hS => ?_)
        have hP : va_P (dC, dI) vwCl [(a_p0, .inr (10, oX10 txI txR)), ((txR 0), .inr (9, oX9 tapeI tapeR)), ((tapeR 0), .inl (cB, 1600, .inl tape_bytesF)), ((txR 1), .inl (cI, tx_kindsN, .inl tx_kindsF)), ((txR 2), .inl (cI, tx_startsN, .inl tx_startsF)), ((txR 3), .inl (cI, tx_valuesN, .inl tx_valuesF))] H := hP
        have hD : va_D A [(a_p0, .inr (10, oX10 txI txR)), ((txR 0), .inr (9, oX9 tapeI tapeR)), ((tapeR 0), .inl (cB, 1600, .inl tape_bytesF)), ((txR 1), .inl (cI, tx_kindsN, .inl tx_kindsF)), ((txR 2), .inl (cI, tx_startsN, .inl tx_startsF)), ((txR 3), .inl (cI, tx_valuesN, .inl tx_valuesF))] := hD
        refine W.eq (g2 := F0 m 49 ls [.int r_7, .ref a_p0]) rfl ?_
        refine lv_if_ge (tgt := 57) hx hb dX10_readPiece_49 (by decide) (fun c_ => ?_) (fun c_ => ?_)
        · have hf := xq_pos hf c_
          refine lv_iload_n hx hb dX10_readPiece_57 rfl (lv_at hl 1 rfl) ?_
          exact b58 txI tx_kindsF tx_startsF tx_valuesF p1 r_1 _ _ _ hf hP hD hS (lv_sub hl [3] rfl)
        · have hf := xq_neg hf c_
          refine lv_bipush (v := (-2)) hx hb dX10_readPiece_52 (by decide) ?_
          refine lv_goto (tgt := 58) hx hb dX10_readPiece_54 (by decide) ?_
          exact b58 txI tx_kindsF tx_startsF tx_valuesF p1 ((-2)) _ _ _ hf hP hD hS (lv_sub hl [3] rfl)
  · have hf := xq_pos hf c_
    refine lv_aload_n hx hb dX10_readPiece_14 rfl (lv_at hl 1 rfl) ?_
    refine lv_iconst (v := (-1)) hx hb dX10_readPiece_15 (by decide) ?_
    refine lv_iload_n hx hb dX10_readPiece_16 rfl (lv_at hl 2 rfl) ?_
    refine lv_iconst (v := 0) hx hb dX10_readPiece_17 (by decide) ?_
    obtain ⟨⟨r_9_0, r_9_1, r_9_2, r_9_3⟩, h_10, hf⟩ := xq_bd_some hf
    refine xq_callV (As := [.int ((-1)), .int p1, .int 0]) (rest := []) (ci := 10) (q0 := 0) ⟨hx, hb, hml, hown, hts⟩ (kX10_addPiece l dC dI cI cB cJ cZ cM z ad N a_p0 txI txR tx_kindsF tx_kindsN tx_startsF tx_startsN tx_valuesF tx_valuesN ((-1)) p1 0 h_10) (cwV 3 hts gX10_readPiece_X10_addPiece rfl rfl rfl (by decide +kernel) ⟨Nat.le_of_ble_eq_true rfl, Nat.le_of_ble_eq_true rfl⟩) hN hK hP hD hS hA [0, 3, 4, 5] (by decide) rfl rfl rfl rfl rfl rfl hl.1 rfl (Nat.le_of_ble_eq_true rfl) dX10_readPiece_18 ⟨Nat.zero_le _, Nat.zero_le _⟩ (fun H locs hP hD hS => ?_)
    have hP : va_P (dC, dI) vwCl [(a_p0, .inr (10, oX10 r_9_0 txR)), ((txR 0), .inr (9, oX9 tapeI tapeR)), ((tapeR 0), .inl (cB, 1600, .inl tape_bytesF)), ((txR 1), .inl (cI, tx_kindsN, .inl r_9_1)), ((txR 2), .inl (cI, tx_startsN, .inl r_9_2)), ((txR 3), .inl (cI, tx_valuesN, .inl r_9_3))] H := hP
    have hD : va_D A [(a_p0, .inr (10, oX10 r_9_0 txR)), ((txR 0), .inr (9, oX9 tapeI tapeR)), ((tapeR 0), .inl (cB, 1600, .inl tape_bytesF)), ((txR 1), .inl (cI, tx_kindsN, .inl r_9_1)), ((txR 2), .inl (cI, tx_startsN, .inl r_9_2)), ((txR 3), .inl (cI, tx_valuesN, .inl r_9_3))] := hD
    refine W.eq (g2 := F0 m 21 ls []) rfl ?_
    refine lv_iload_n hx hb dX10_readPiece_21 rfl (lv_at hl 2 rfl) ?_
    cases hf
    exact xq_iret hx hb hr hlocks hK hP hD hS dX10_readPiece_22
set_option maxRecDepth 20000 in
theorem ggX10_readPieces_X9_at : GoodIn wsX10_readPieces wsX9_at := goodIn_r _ [8, 9, 10, 169, 170] rfl (by decide +kernel)
set_option maxRecDepth 20000 in
theorem gX10_readPieces_X9_at : GoodIn wsX10_readPieces (wsV RX10 43 RX9 yX9_at wsX9_at) := goodIn_app (goodIn_of _ (by decide +kernel)) ggX10_readPieces_X9_at
set_option maxRecDepth 20000 in
theorem ggX10_readPieces_X10_isBlank : GoodIn wsX10_readPieces wsX10_isBlank := goodIn_r _ [14] rfl (by decide +kernel)
set_option maxRecDepth 20000 in
theorem gX10_readPieces_X10_isBlank : GoodIn wsX10_readPieces (va_wsS RX10 47 yX10_isBlank wsX10_isBlank) := goodIn_app (goodIn_of _ (by decide +kernel)) ggX10_readPieces_X10_isBlank
set_option maxRecDepth 20000 in
theorem ggX10_readPieces_X10_readPiece : GoodIn wsX10_readPieces wsX10_readPiece := goodIn_r _ [18, 1, 4, 5, 6, 7, 8, 9, 10, 19, 20, 21, 13, 22, 2, 3, 23, 24, 25, 26, 27, 28, 29, 30, 31, 32, 33, 34, 35, 36, 37, 38, 39, 40, 41, 42, 43, 44, 45, 46, 47, 48, 49, 50, 51, 52, 53, 54, 55, 56, 57, 58, 59, 60, 61, 62, 63, 64, 65, 66, 67, 68, 69, 70, 71, 72, 73, 74, 75, 76, 77, 78, 79, 80, 81, 82, 83, 84, 85, 86, 87, 88, 89, 90, 91, 92, 93, 94, 95, 96, 97, 98, 99, 100, 101, 102, 103, 104, 105, 106, 107, 108, 109, 110, 111, 112, 113, 114, 115, 116, 117, 118, 119, 120, 121, 122, 123, 124, 125, 126, 127, 128, 129, 130, 131, 132, 133, 134, 135, 136, 137, 138, 139, 140, 141, 142, 143, 144, 145, 146, 147, 148, 149, 150, 151, 152, 153, 154, 155, 156, 157, 158, 159, 160, 161, 162, 163, 164, 165, 166, 167, 168, 169, 170] rfl (by decide +kernel)
set_option maxRecDepth 20000 in
theorem gX10_readPieces_X10_readPiece : GoodIn wsX10_readPieces (wsV RX10 51 RX10 yX10_readPiece wsX10_readPiece) := goodIn_app (goodIn_of _ (by decide +kernel)) ggX10_readPieces_X10_readPiece
def dsX10_readPieces_0 : List (Nat × Instr × Nat) := [(0, (.iconst 0, 1)), (1, (.istore_n 1, 1)), (2, (.iconst 0, 1)), (3, (.istore_n 2, 1)), (4, (.iload_n 2, 1)), (5, (.aload_n 0, 1)), (6, (.getfield 24, 3)), (9, (.getfield 28, 3)), (12, (.if_icmp .gt 97, 3)), (15, (.iload_n 1, 1)), (16, (.istore_n 3, 1)), (17, (.iload_n 3, 1)), (18, (.aload_n 0, 1)), (19, (.getfield 24, 3)), (22, (.getfield 28, 3)), (25, (.if_icmp .ge 23, 3)), (28, (.aload_n 0, 1)), (29, (.getfield 24, 3)), (32, (.iload_n 3, 1)), (33, (.invokevirtual 43, 3)), (36, (.invokestatic 47, 3)), (39, (.ifCond .eq 9, 3)), (42, (.iinc 3 1, 3)), (45, (.goto (-28), 3)), (48, (.aload_n 0, 1)), (49, (.iload_n 3, 1)), (50, (.iload_n 3, 1)), (51, (.iload_n 1, 1)), (52, (.if_icmp .ne 7, 3)), (55, (.iconst 1, 1)), (56, (.goto 4, 3)), (59, (.iconst 0, 1)), (60, (.invokevirtual 51, 3)), (63, (.istore_n 1, 1)), (64, (.aload_n 0, 1)), (65, (.getfield 9, 3)), (68, (.ifCond .eq 34, 3)), (71, (.aload_n 0, 1)), (72, (.getfield 33, 3)), (75, (.aload_n 0, 1)), (76, (.getfield 9, 3)), (79, (.iconst 1, 1)), (80, (.isub, 1)), (81, (.iaload, 1)), (82, (.iconst (-1), 1)), (83, (.if_icmp .eq 19, 3)), (86, (.aload_n 0, 1)), (87, (.getfield 33, 3)), (90, (.aload_n 0, 1)), (91, (.getfield 9, 3)), (94, (.iconst 1, 1)), (95, (.isub, 1)), (96, (.iaload, 1)), (97, (.bipush (-2), 2)), (99, (.if_icmp .ne 4, 3)), (102, (.return_, 1)), (103, (.iinc 2 1, 3)), (106, (.goto (-102), 3)), (109, (.return_, 1))]
theorem dsX10_readPieces_0_ok : (dsX10_readPieces_0.all fun q => decide (decode cX10_readPieces q.1 = .ok q.2)) = true := by decide +kernel
theorem dX10_readPieces_0 : decode cX10_readPieces 0 = .ok (.iconst 0, 1) := of_decide_eq_true (List.all_eq_true.mp dsX10_readPieces_0_ok (0, (.iconst 0, 1)) (List.mem_of_getElem? (i := 0) rfl))
theorem dX10_readPieces_1 : decode cX10_readPieces 1 = .ok (.istore_n 1, 1) := of_decide_eq_true (List.all_eq_true.mp dsX10_readPieces_0_ok (1, (.istore_n 1, 1)) (List.mem_of_getElem? (i := 1) rfl))
theorem dX10_readPieces_2 : decode cX10_readPieces 2 = .ok (.iconst 0, 1) := of_decide_eq_true (List.all_eq_true.mp dsX10_readPieces_0_ok (2, (.iconst 0, 1)) (List.mem_of_getElem? (i := 2) rfl))
theorem dX10_readPieces_3 : decode cX10_readPieces 3 = .ok (.istore_n 2, 1) := of_decide_eq_true (List.all_eq_true.mp dsX10_readPieces_0_ok (3, (.istore_n 2, 1)) (List.mem_of_getElem? (i := 3) rfl))
theorem dX10_readPieces_4 : decode cX10_readPieces 4 = .ok (.iload_n 2, 1) := of_decide_eq_true (List.all_eq_true.mp dsX10_readPieces_0_ok (4, (.iload_n 2, 1)) (List.mem_of_getElem? (i := 4) rfl))
theorem dX10_readPieces_5 : decode cX10_readPieces 5 = .ok (.aload_n 0, 1) := of_decide_eq_true (List.all_eq_true.mp dsX10_readPieces_0_ok (5, (.aload_n 0, 1)) (List.mem_of_getElem? (i := 5) rfl))
theorem dX10_readPieces_6 : decode cX10_readPieces 6 = .ok (.getfield 24, 3) := of_decide_eq_true (List.all_eq_true.mp dsX10_readPieces_0_ok (6, (.getfield 24, 3)) (List.mem_of_getElem? (i := 6) rfl))
theorem dX10_readPieces_9 : decode cX10_readPieces 9 = .ok (.getfield 28, 3) := of_decide_eq_true (List.all_eq_true.mp dsX10_readPieces_0_ok (9, (.getfield 28, 3)) (List.mem_of_getElem? (i := 7) rfl))
theorem dX10_readPieces_12 : decode cX10_readPieces 12 = .ok (.if_icmp .gt 97, 3) := of_decide_eq_true (List.all_eq_true.mp dsX10_readPieces_0_ok (12, (.if_icmp .gt 97, 3)) (List.mem_of_getElem? (i := 8) rfl))
theorem dX10_readPieces_15 : decode cX10_readPieces 15 = .ok (.iload_n 1, 1) := of_decide_eq_true (List.all_eq_true.mp dsX10_readPieces_0_ok (15, (.iload_n 1, 1)) (List.mem_of_getElem? (i := 9) rfl))
theorem dX10_readPieces_16 : decode cX10_readPieces 16 = .ok (.istore_n 3, 1) := of_decide_eq_true (List.all_eq_true.mp dsX10_readPieces_0_ok (16, (.istore_n 3, 1)) (List.mem_of_getElem? (i := 10) rfl))
theorem dX10_readPieces_17 : decode cX10_readPieces 17 = .ok (.iload_n 3, 1) := of_decide_eq_true (List.all_eq_true.mp dsX10_readPieces_0_ok (17, (.iload_n 3, 1)) (List.mem_of_getElem? (i := 11) rfl))
theorem dX10_readPieces_18 : decode cX10_readPieces 18 = .ok (.aload_n 0, 1) := of_decide_eq_true (List.all_eq_true.mp dsX10_readPieces_0_ok (18, (.aload_n 0, 1)) (List.mem_of_getElem? (i := 12) rfl))
theorem dX10_readPieces_19 : decode cX10_readPieces 19 = .ok (.getfield 24, 3) := of_decide_eq_true (List.all_eq_true.mp dsX10_readPieces_0_ok (19, (.getfield 24, 3)) (List.mem_of_getElem? (i := 13) rfl))
theorem dX10_readPieces_22 : decode cX10_readPieces 22 = .ok (.getfield 28, 3) := of_decide_eq_true (List.all_eq_true.mp dsX10_readPieces_0_ok (22, (.getfield 28, 3)) (List.mem_of_getElem? (i := 14) rfl))
theorem dX10_readPieces_25 : decode cX10_readPieces 25 = .ok (.if_icmp .ge 23, 3) := of_decide_eq_true (List.all_eq_true.mp dsX10_readPieces_0_ok (25, (.if_icmp .ge 23, 3)) (List.mem_of_getElem? (i := 15) rfl))
theorem dX10_readPieces_28 : decode cX10_readPieces 28 = .ok (.aload_n 0, 1) := of_decide_eq_true (List.all_eq_true.mp dsX10_readPieces_0_ok (28, (.aload_n 0, 1)) (List.mem_of_getElem? (i := 16) rfl))
theorem dX10_readPieces_29 : decode cX10_readPieces 29 = .ok (.getfield 24, 3) := of_decide_eq_true (List.all_eq_true.mp dsX10_readPieces_0_ok (29, (.getfield 24, 3)) (List.mem_of_getElem? (i := 17) rfl))
theorem dX10_readPieces_32 : decode cX10_readPieces 32 = .ok (.iload_n 3, 1) := of_decide_eq_true (List.all_eq_true.mp dsX10_readPieces_0_ok (32, (.iload_n 3, 1)) (List.mem_of_getElem? (i := 18) rfl))
theorem dX10_readPieces_33 : decode cX10_readPieces 33 = .ok (.invokevirtual 43, 3) := of_decide_eq_true (List.all_eq_true.mp dsX10_readPieces_0_ok (33, (.invokevirtual 43, 3)) (List.mem_of_getElem? (i := 19) rfl))
theorem dX10_readPieces_36 : decode cX10_readPieces 36 = .ok (.invokestatic 47, 3) := of_decide_eq_true (List.all_eq_true.mp dsX10_readPieces_0_ok (36, (.invokestatic 47, 3)) (List.mem_of_getElem? (i := 20) rfl))
theorem dX10_readPieces_39 : decode cX10_readPieces 39 = .ok (.ifCond .eq 9, 3) := of_decide_eq_true (List.all_eq_true.mp dsX10_readPieces_0_ok (39, (.ifCond .eq 9, 3)) (List.mem_of_getElem? (i := 21) rfl))
theorem dX10_readPieces_42 : decode cX10_readPieces 42 = .ok (.iinc 3 1, 3) := of_decide_eq_true (List.all_eq_true.mp dsX10_readPieces_0_ok (42, (.iinc 3 1, 3)) (List.mem_of_getElem? (i := 22) rfl))
theorem dX10_readPieces_45 : decode cX10_readPieces 45 = .ok (.goto (-28), 3) := of_decide_eq_true (List.all_eq_true.mp dsX10_readPieces_0_ok (45, (.goto (-28), 3)) (List.mem_of_getElem? (i := 23) rfl))
theorem dX10_readPieces_48 : decode cX10_readPieces 48 = .ok (.aload_n 0, 1) := of_decide_eq_true (List.all_eq_true.mp dsX10_readPieces_0_ok (48, (.aload_n 0, 1)) (List.mem_of_getElem? (i := 24) rfl))
theorem dX10_readPieces_49 : decode cX10_readPieces 49 = .ok (.iload_n 3, 1) := of_decide_eq_true (List.all_eq_true.mp dsX10_readPieces_0_ok (49, (.iload_n 3, 1)) (List.mem_of_getElem? (i := 25) rfl))
theorem dX10_readPieces_50 : decode cX10_readPieces 50 = .ok (.iload_n 3, 1) := of_decide_eq_true (List.all_eq_true.mp dsX10_readPieces_0_ok (50, (.iload_n 3, 1)) (List.mem_of_getElem? (i := 26) rfl))
theorem dX10_readPieces_51 : decode cX10_readPieces 51 = .ok (.iload_n 1, 1) := of_decide_eq_true (List.all_eq_true.mp dsX10_readPieces_0_ok (51, (.iload_n 1, 1)) (List.mem_of_getElem? (i := 27) rfl))
theorem dX10_readPieces_52 : decode cX10_readPieces 52 = .ok (.if_icmp .ne 7, 3) := of_decide_eq_true (List.all_eq_true.mp dsX10_readPieces_0_ok (52, (.if_icmp .ne 7, 3)) (List.mem_of_getElem? (i := 28) rfl))
theorem dX10_readPieces_55 : decode cX10_readPieces 55 = .ok (.iconst 1, 1) := of_decide_eq_true (List.all_eq_true.mp dsX10_readPieces_0_ok (55, (.iconst 1, 1)) (List.mem_of_getElem? (i := 29) rfl))
theorem dX10_readPieces_56 : decode cX10_readPieces 56 = .ok (.goto 4, 3) := of_decide_eq_true (List.all_eq_true.mp dsX10_readPieces_0_ok (56, (.goto 4, 3)) (List.mem_of_getElem? (i := 30) rfl))
theorem dX10_readPieces_59 : decode cX10_readPieces 59 = .ok (.iconst 0, 1) := of_decide_eq_true (List.all_eq_true.mp dsX10_readPieces_0_ok (59, (.iconst 0, 1)) (List.mem_of_getElem? (i := 31) rfl))
theorem dX10_readPieces_60 : decode cX10_readPieces 60 = .ok (.invokevirtual 51, 3) := of_decide_eq_true (List.all_eq_true.mp dsX10_readPieces_0_ok (60, (.invokevirtual 51, 3)) (List.mem_of_getElem? (i := 32) rfl))
theorem dX10_readPieces_63 : decode cX10_readPieces 63 = .ok (.istore_n 1, 1) := of_decide_eq_true (List.all_eq_true.mp dsX10_readPieces_0_ok (63, (.istore_n 1, 1)) (List.mem_of_getElem? (i := 33) rfl))
theorem dX10_readPieces_64 : decode cX10_readPieces 64 = .ok (.aload_n 0, 1) := of_decide_eq_true (List.all_eq_true.mp dsX10_readPieces_0_ok (64, (.aload_n 0, 1)) (List.mem_of_getElem? (i := 34) rfl))
theorem dX10_readPieces_65 : decode cX10_readPieces 65 = .ok (.getfield 9, 3) := of_decide_eq_true (List.all_eq_true.mp dsX10_readPieces_0_ok (65, (.getfield 9, 3)) (List.mem_of_getElem? (i := 35) rfl))
theorem dX10_readPieces_68 : decode cX10_readPieces 68 = .ok (.ifCond .eq 34, 3) := of_decide_eq_true (List.all_eq_true.mp dsX10_readPieces_0_ok (68, (.ifCond .eq 34, 3)) (List.mem_of_getElem? (i := 36) rfl))
theorem dX10_readPieces_71 : decode cX10_readPieces 71 = .ok (.aload_n 0, 1) := of_decide_eq_true (List.all_eq_true.mp dsX10_readPieces_0_ok (71, (.aload_n 0, 1)) (List.mem_of_getElem? (i := 37) rfl))
theorem dX10_readPieces_72 : decode cX10_readPieces 72 = .ok (.getfield 33, 3) := of_decide_eq_true (List.all_eq_true.mp dsX10_readPieces_0_ok (72, (.getfield 33, 3)) (List.mem_of_getElem? (i := 38) rfl))
theorem dX10_readPieces_75 : decode cX10_readPieces 75 = .ok (.aload_n 0, 1) := of_decide_eq_true (List.all_eq_true.mp dsX10_readPieces_0_ok (75, (.aload_n 0, 1)) (List.mem_of_getElem? (i := 39) rfl))
theorem dX10_readPieces_76 : decode cX10_readPieces 76 = .ok (.getfield 9, 3) := of_decide_eq_true (List.all_eq_true.mp dsX10_readPieces_0_ok (76, (.getfield 9, 3)) (List.mem_of_getElem? (i := 40) rfl))
theorem dX10_readPieces_79 : decode cX10_readPieces 79 = .ok (.iconst 1, 1) := of_decide_eq_true (List.all_eq_true.mp dsX10_readPieces_0_ok (79, (.iconst 1, 1)) (List.mem_of_getElem? (i := 41) rfl))
theorem dX10_readPieces_80 : decode cX10_readPieces 80 = .ok (.isub, 1) := of_decide_eq_true (List.all_eq_true.mp dsX10_readPieces_0_ok (80, (.isub, 1)) (List.mem_of_getElem? (i := 42) rfl))
theorem dX10_readPieces_81 : decode cX10_readPieces 81 = .ok (.iaload, 1) := of_decide_eq_true (List.all_eq_true.mp dsX10_readPieces_0_ok (81, (.iaload, 1)) (List.mem_of_getElem? (i := 43) rfl))
theorem dX10_readPieces_82 : decode cX10_readPieces 82 = .ok (.iconst (-1), 1) := of_decide_eq_true (List.all_eq_true.mp dsX10_readPieces_0_ok (82, (.iconst (-1), 1)) (List.mem_of_getElem? (i := 44) rfl))
theorem dX10_readPieces_83 : decode cX10_readPieces 83 = .ok (.if_icmp .eq 19, 3) := of_decide_eq_true (List.all_eq_true.mp dsX10_readPieces_0_ok (83, (.if_icmp .eq 19, 3)) (List.mem_of_getElem? (i := 45) rfl))
theorem dX10_readPieces_86 : decode cX10_readPieces 86 = .ok (.aload_n 0, 1) := of_decide_eq_true (List.all_eq_true.mp dsX10_readPieces_0_ok (86, (.aload_n 0, 1)) (List.mem_of_getElem? (i := 46) rfl))
theorem dX10_readPieces_87 : decode cX10_readPieces 87 = .ok (.getfield 33, 3) := of_decide_eq_true (List.all_eq_true.mp dsX10_readPieces_0_ok (87, (.getfield 33, 3)) (List.mem_of_getElem? (i := 47) rfl))
theorem dX10_readPieces_90 : decode cX10_readPieces 90 = .ok (.aload_n 0, 1) := of_decide_eq_true (List.all_eq_true.mp dsX10_readPieces_0_ok (90, (.aload_n 0, 1)) (List.mem_of_getElem? (i := 48) rfl))
theorem dX10_readPieces_91 : decode cX10_readPieces 91 = .ok (.getfield 9, 3) := of_decide_eq_true (List.all_eq_true.mp dsX10_readPieces_0_ok (91, (.getfield 9, 3)) (List.mem_of_getElem? (i := 49) rfl))
theorem dX10_readPieces_94 : decode cX10_readPieces 94 = .ok (.iconst 1, 1) := of_decide_eq_true (List.all_eq_true.mp dsX10_readPieces_0_ok (94, (.iconst 1, 1)) (List.mem_of_getElem? (i := 50) rfl))
theorem dX10_readPieces_95 : decode cX10_readPieces 95 = .ok (.isub, 1) := of_decide_eq_true (List.all_eq_true.mp dsX10_readPieces_0_ok (95, (.isub, 1)) (List.mem_of_getElem? (i := 51) rfl))
theorem dX10_readPieces_96 : decode cX10_readPieces 96 = .ok (.iaload, 1) := of_decide_eq_true (List.all_eq_true.mp dsX10_readPieces_0_ok (96, (.iaload, 1)) (List.mem_of_getElem? (i := 52) rfl))
theorem dX10_readPieces_97 : decode cX10_readPieces 97 = .ok (.bipush (-2), 2) := of_decide_eq_true (List.all_eq_true.mp dsX10_readPieces_0_ok (97, (.bipush (-2), 2)) (List.mem_of_getElem? (i := 53) rfl))
theorem dX10_readPieces_99 : decode cX10_readPieces 99 = .ok (.if_icmp .ne 4, 3) := of_decide_eq_true (List.all_eq_true.mp dsX10_readPieces_0_ok (99, (.if_icmp .ne 4, 3)) (List.mem_of_getElem? (i := 54) rfl))
theorem dX10_readPieces_102 : decode cX10_readPieces 102 = .ok (.return_, 1) := of_decide_eq_true (List.all_eq_true.mp dsX10_readPieces_0_ok (102, (.return_, 1)) (List.mem_of_getElem? (i := 55) rfl))
theorem dX10_readPieces_103 : decode cX10_readPieces 103 = .ok (.iinc 2 1, 3) := of_decide_eq_true (List.all_eq_true.mp dsX10_readPieces_0_ok (103, (.iinc 2 1, 3)) (List.mem_of_getElem? (i := 56) rfl))
theorem dX10_readPieces_106 : decode cX10_readPieces 106 = .ok (.goto (-102), 3) := of_decide_eq_true (List.all_eq_true.mp dsX10_readPieces_0_ok (106, (.goto (-102), 3)) (List.mem_of_getElem? (i := 57) rfl))
theorem dX10_readPieces_109 : decode cX10_readPieces 109 = .ok (.return_, 1) := of_decide_eq_true (List.all_eq_true.mp dsX10_readPieces_0_ok (109, (.return_, 1)) (List.mem_of_getElem? (i := 58) rfl))
def fX10_readPieces_b60 (N : Nat) (tapeI : Nat → Int32) (tape_bytesF : Nat → Int32) (tx_kindsN : Nat) (tx_startsN : Nat) (tx_valuesN : Nat) (k4 : ((Nat → Int32) × (Nat → Int32) × (Nat → Int32) × (Nat → Int32) × Int32 × Int32) → Option ((Nat → Int32) × (Nat → Int32) × (Nat → Int32) × (Nat → Int32))) : ((Nat → Int32) × (Nat → Int32) × (Nat → Int32) × (Nat → Int32) × Int32 × Int32 × Int32) → Option ((Nat → Int32) × (Nat → Int32) × (Nat → Int32) × (Nat → Int32)) :=
  fun (txI_60, tx_kindsF_60, tx_startsF_60, tx_valuesF_60, x2_60, y1_60, y2_60) => (xq_bd (fX10_readPiece N txI_60 tapeI tape_bytesF tx_kindsF_60 tx_startsF_60 tx_valuesF_60 tx_kindsN tx_startsN tx_valuesN y1_60 y2_60) fun (r_1_0, r_1_1, r_1_2, r_1_3, r_1_4) => (if (r_1_1 4) = 0 then some ((r_1_1, r_1_2, r_1_3, r_1_4)) else (xq_bd (xq_ald tx_kindsN r_1_2 ((r_1_1 4) - 1)) fun v_3 => (if v_3 = ((-1)) then some ((r_1_1, r_1_2, r_1_3, r_1_4)) else (xq_bd (xq_ald tx_kindsN r_1_2 ((r_1_1 4) - 1)) fun v_4 => (if v_4 = ((-2)) then some ((r_1_1, r_1_2, r_1_3, r_1_4)) else k4 (r_1_1, r_1_2, r_1_3, r_1_4, r_1_0, x2_60 + 1)))))))
def fX10_readPieces_b48 (N : Nat) (tapeI : Nat → Int32) (tape_bytesF : Nat → Int32) (tx_kindsN : Nat) (tx_startsN : Nat) (tx_valuesN : Nat) (k4 : ((Nat → Int32) × (Nat → Int32) × (Nat → Int32) × (Nat → Int32) × Int32 × Int32) → Option ((Nat → Int32) × (Nat → Int32) × (Nat → Int32) × (Nat → Int32))) : ((Nat → Int32) × (Nat → Int32) × (Nat → Int32) × (Nat → Int32) × Int32 × Int32 × Int32) → Option ((Nat → Int32) × (Nat → Int32) × (Nat → Int32) × (Nat → Int32)) :=
  fun (txI_48, tx_kindsF_48, tx_startsF_48, tx_valuesF_48, x1_48, x2_48, x3_48) => (if x3_48 = x1_48 then fX10_readPieces_b60 N tapeI tape_bytesF tx_kindsN tx_startsN tx_valuesN k4 (txI_48, tx_kindsF_48, tx_startsF_48, tx_valuesF_48, x2_48, x3_48, 1) else fX10_readPieces_b60 N tapeI tape_bytesF tx_kindsN tx_startsN tx_valuesN k4 (txI_48, tx_kindsF_48, tx_startsF_48, tx_valuesF_48, x2_48, x3_48, 0))
def fX10_readPieces_l17 (N : Nat) (tapeI : Nat → Int32) (tape_bytesF : Nat → Int32) (tx_kindsN : Nat) (tx_startsN : Nat) (tx_valuesN : Nat) (k4 : ((Nat → Int32) × (Nat → Int32) × (Nat → Int32) × (Nat → Int32) × Int32 × Int32) → Option ((Nat → Int32) × (Nat → Int32) × (Nat → Int32) × (Nat → Int32))) (k17 : ((Nat → Int32) × (Nat → Int32) × (Nat → Int32) × (Nat → Int32) × Int32 × Int32 × Int32) → Option ((Nat → Int32) × (Nat → Int32) × (Nat → Int32) × (Nat → Int32))) : ((Nat → Int32) × (Nat → Int32) × (Nat → Int32) × (Nat → Int32) × Int32 × Int32 × Int32) → Option ((Nat → Int32) × (Nat → Int32) × (Nat → Int32) × (Nat → Int32)) :=
  fun (txI_17, tx_kindsF_17, tx_startsF_17, tx_valuesF_17, x1_17, x2_17, x3_17) => (if (tapeI 1) ≤ x3_17 then fX10_readPieces_b48 N tapeI tape_bytesF tx_kindsN tx_startsN tx_valuesN k4 (txI_17, tx_kindsF_17, tx_startsF_17, tx_valuesF_17, x1_17, x2_17, x3_17) else (xq_bd (fX9_at N tapeI tape_bytesF x3_17) fun r_5 => (xq_bd (fX10_isBlank N r_5) fun r_7 => (if r_7 = 0 then fX10_readPieces_b48 N tapeI tape_bytesF tx_kindsN tx_startsN tx_valuesN k4 (txI_17, tx_kindsF_17, tx_startsF_17, tx_valuesF_17, x1_17, x2_17, x3_17) else k17 (txI_17, tx_kindsF_17, tx_startsF_17, tx_valuesF_17, x1_17, x2_17, x3_17 + 1)))))
def fX10_readPieces_l4 (N : Nat) (tapeI : Nat → Int32) (tape_bytesF : Nat → Int32) (tx_kindsN : Nat) (tx_startsN : Nat) (tx_valuesN : Nat) (k4 : ((Nat → Int32) × (Nat → Int32) × (Nat → Int32) × (Nat → Int32) × Int32 × Int32) → Option ((Nat → Int32) × (Nat → Int32) × (Nat → Int32) × (Nat → Int32))) : ((Nat → Int32) × (Nat → Int32) × (Nat → Int32) × (Nat → Int32) × Int32 × Int32) → Option ((Nat → Int32) × (Nat → Int32) × (Nat → Int32) × (Nat → Int32)) :=
  fun (txI_4, tx_kindsF_4, tx_startsF_4, tx_valuesF_4, x1_4, x2_4) => (if (tapeI 1) < x2_4 then some ((txI_4, tx_kindsF_4, tx_startsF_4, tx_valuesF_4)) else xq_loop (fX10_readPieces_l17 N tapeI tape_bytesF tx_kindsN tx_startsN tx_valuesN k4) N (txI_4, tx_kindsF_4, tx_startsF_4, tx_valuesF_4, x1_4, x2_4, x1_4))
def fX10_readPieces (N : Nat) (txI : Nat → Int32) (tapeI : Nat → Int32) (tape_bytesF : Nat → Int32) (tx_kindsF : Nat → Int32) (tx_startsF : Nat → Int32) (tx_valuesF : Nat → Int32) (tx_kindsN : Nat) (tx_startsN : Nat) (tx_valuesN : Nat)  : Option ((Nat → Int32) × (Nat → Int32) × (Nat → Int32) × (Nat → Int32)) :=
  xq_loop (fX10_readPieces_l4 N tapeI tape_bytesF tx_kindsN tx_startsN tx_valuesN) N (txI, tx_kindsF, tx_startsF, tx_valuesF, 0, 0)
set_option maxHeartbeats 4000000 in
set_option maxRecDepth 100000 in
theorem kX10_readPieces (l : Launch) (dC : Nat → ClassId) (dI : Nat → Nat → Nat) (cI cB cJ cZ cM : ClassId) (z : Nat) (ad : Nat → Nat) (N : Nat) (a_p0 : Nat) (txI : Nat → Int32) (txR : Nat → Nat) (tapeI : Nat → Int32) (tapeR : Nat → Nat) (tape_bytesF : Nat → Int32) (tx_kindsF : Nat → Int32) (tx_kindsN : Nat) (tx_startsF : Nat → Int32) (tx_startsN : Nat) (tx_valuesF : Nat → Int32) (tx_valuesN : Nat) {r0 : Nat → Int32} {r1 : Nat → Int32} {r2 : Nat → Int32} {r3 : Nat → Int32} (hf : fX10_readPieces N txI tapeI tape_bytesF tx_kindsF tx_startsF tx_valuesF tx_kindsN tx_startsN tx_valuesN = some (r0, r1, r2, r3)) : xq_Ct l yX10_readPieces wsX10_readPieces { frames := 7, cells := 0, slots := 0, locals := 161 } (dC, dI) vwCl (xq_tys cI cB cJ cZ cM) z ad [.ref a_p0] [(a_p0, .inr (10, oX10 txI txR)), ((txR 0), .inr (9, oX9 tapeI tapeR)), ((tapeR 0), .inl (cB, 1600, .inl tape_bytesF)), ((txR 1), .inl (cI, tx_kindsN, .inl tx_kindsF)), ((txR 2), .inl (cI, tx_startsN, .inl tx_startsF)), ((txR 3), .inl (cI, tx_valuesN, .inl tx_valuesF))] [(a_p0, .inr (10, oX10 r0 txR)), ((txR 0), .inr (9, oX9 tapeI tapeR)), ((tapeR 0), .inl (cB, 1600, .inl tape_bytesF)), ((txR 1), .inl (cI, tx_kindsN, .inl r1)), ((txR 2), .inl (cI, tx_startsN, .inl r2)), ((txR 3), .inl (cI, tx_valuesN, .inl r3))] none := by
  intro sz
  refine Met.ofW (cc := cX10_readPieces) (maxL := 4) (ret := none) (by decide) rfl ?_
  intro p e s m args below meth c s₁ B hml hv
  obtain ⟨rfl, hsz, hP, hK, hD0, hE, hz⟩ := hv
  have hx := B.exec
  have hb := B.bytes
  have hr := B.returns
  have hts := atoms_spec (ws := wsX10_readPieces) B.pre
  have hown : s.vm.findClass RX10 = some m.cls := findClass_of_methodNamed B.named
  have hlocks := B.notSynchronized
  subst hsz
  have hD := hD0.self (sz := s.heap.size)
  have hN := xq_Env.of hE hz hD0
  generalize hAe : va_A [(a_p0, .inr (10, oX10 txI txR)), ((txR 0), .inr (9, oX9 tapeI tapeR)), ((tapeR 0), .inl (cB, 1600, .inl tape_bytesF)), ((txR 1), .inl (cI, tx_kindsN, .inl tx_kindsF)), ((txR 2), .inl (cI, tx_startsN, .inl tx_startsF)), ((txR 3), .inl (cI, tx_valuesN, .inl tx_valuesF))] s.heap.size = A at hD hN ⊢
  have hA : ∀ q : Nat, s.heap.size ≤ q → A q := fun q h => by rw [← hAe]; exact Or.inr h
  clear hAe hD0
  have hS : va_S A s.heap s.heap [] := va_S.rf
  have hl := lv_entry ([.ref a_p0]) (n := 4) (Nat.le_of_ble_eq_true rfl)
  rw [lg_entry_eq]
  generalize (lg_sl ([.ref a_p0]) ++ List.replicate (4 - (lg_sl ([.ref a_p0])).length) Slot.unset).toArray = ls at hl ⊢
  have hl : lv_has ls 4 [(0, .ref a_p0)] := hl
  have hw0 := hts (.fieldLink RX10 24 "DistantVoice$Text" "tape" "LDistantVoice$Tape;") (by decide +kernel)
  have hinX10 : ∀ w ∈ wsX100, w ∈ wsX10_readPieces := fun w h => List.mem_cons_of_mem _ (List.mem_append_left _ (List.mem_append_right _ h))
  have hnf0 := va_Nw.use (A := [.ref a_p0].toArray) rfl (hN.1.1.1 ("DistantVoice$Text", 28, "DistantVoice$Tape", "length", "I", "DistantVoice") (List.mem_of_getElem? (i := 0) rfl))
  have hinX9 : ∀ w ∈ wsX90, w ∈ wsX10_readPieces := fun w h => List.mem_cons_of_mem _ (List.mem_append_right _ h)
  have hw4 := hts (.fieldLink RX10 9 "DistantVoice$Text" "count" "I") (by decide +kernel)
  have hw5 := hts (.fieldLink RX10 33 "DistantVoice$Text" "kinds" "[I") (by decide +kernel)
  have l4 : ∀ n4 : Nat, ∀ (txI_4 : Nat → Int32) (tx_kindsF_4 : Nat → Int32) (tx_startsF_4 : Nat → Int32) (tx_valuesF_4 : Nat → Int32) (x1_4 : Int32) (x2_4 : Int32) (ls : Array Slot) (H : Heap) (locs : List Loc), xq_loop (fX10_readPieces_l4 N tapeI tape_bytesF tx_kindsN tx_startsN tx_valuesN) n4 (txI_4, tx_kindsF_4, tx_startsF_4, tx_valuesF_4, x1_4, x2_4) = some (r0, r1, r2, r3) → va_P (dC, dI) vwCl [(a_p0, .inr (10, oX10 txI_4 txR)), ((txR 0), .inr (9, oX9 tapeI tapeR)), ((tapeR 0), .inl (cB, 1600, .inl tape_bytesF)), ((txR 1), .inl (cI, tx_kindsN, .inl tx_kindsF_4)), ((txR 2), .inl (cI, tx_startsN, .inl tx_startsF_4)), ((txR 3), .inl (cI, tx_valuesN, .inl tx_valuesF_4))] H → va_D A [(a_p0, .inr (10, oX10 txI_4 txR)), ((txR 0), .inr (9, oX9 tapeI tapeR)), ((tapeR 0), .inl (cB, 1600, .inl tape_bytesF)), ((txR 1), .inl (cI, tx_kindsN, .inl tx_kindsF_4)), ((txR 2), .inl (cI, tx_startsN, .inl tx_startsF_4)), ((txR 3), .inl (cI, tx_valuesN, .inl tx_valuesF_4))] → va_S A s.heap H locs → lv_has ls 4 [(0, .ref a_p0), (1, .int x1_4), (2, .int x2_4)] → W p l e (headSpec wsX10_readPieces { frames := 7, cells := 0, slots := 0, locals := 161 }).room s m [.ref a_p0].toArray below meth c H locs 0 0 (MQ below (xq_Q (dC, dI) vwCl (xq_tys cI cB cJ cZ cM) A [(a_p0, .inr (10, oX10 r0 txR)), ((txR 0), .inr (9, oX9 tapeI tapeR)), ((tapeR 0), .inl (cB, 1600, .inl tape_bytesF)), ((txR 1), .inl (cI, tx_kindsN, .inl r1)), ((txR 2), .inl (cI, tx_startsN, .inl r2)), ((txR 3), .inl (cI, tx_valuesN, .inl r3))] none) [.ref a_p0].toArray s 0 0 A) (F0 m 4 ls []) := by
    intro n4
    induction n4 with
    | zero => intro txI_4 tx_kindsF_4 tx_startsF_4 tx_valuesF_4 x1_4 x2_4 ls H locs hf; cases (show none = some (r0, r1, r2, r3) from hf)
    | succ n4 ih4 =>
      have b60 : ∀ (txI_60 : Nat → Int32) (tx_kindsF_60 : Nat → Int32) (tx_startsF_60 : Nat → Int32) (tx_valuesF_60 : Nat → Int32) (x2_60 : Int32) (y1_60 : Int32) (y2_60 : Int32) (ls : Array Slot) (H : Heap) (locs : List Loc), fX10_readPieces_b60 N tapeI tape_bytesF tx_kindsN tx_startsN tx_valuesN (xq_loop (fX10_readPieces_l4 N tapeI tape_bytesF tx_kindsN tx_startsN tx_valuesN) n4) (txI_60, tx_kindsF_60, tx_startsF_60, tx_valuesF_60, x2_60, y1_60, y2_60) = some (r0, r1, r2, r3) → va_P (dC, dI) vwCl [(a_p0, .inr (10, oX10 txI_60 txR)), ((txR 0), .inr (9, oX9 tapeI tapeR)), ((tapeR 0), .inl (cB, 1600, .inl tape_bytesF)), ((txR 1), .inl (cI, tx_kindsN, .inl tx_kindsF_60)), ((txR 2), .inl (cI, tx_startsN, .inl tx_startsF_60)), ((txR 3), .inl (cI, tx_valuesN, .inl tx_valuesF_60))] H → va_D A [(a_p0, .inr (10, oX10 txI_60 txR)), ((txR 0), .inr (9, oX9 tapeI tapeR)), ((tapeR 0), .inl (cB, 1600, .inl tape_bytesF)), ((txR 1), .inl (cI, tx_kindsN, .inl tx_kindsF_60)), ((txR 2), .inl (cI, tx_startsN, .inl tx_startsF_60)), ((txR 3), .inl (cI, tx_valuesN, .inl tx_valuesF_60))] → va_S A s.heap H locs → lv_has ls 4 [(0, .ref a_p0), (2, .int x2_60)] → W p l e (headSpec wsX10_readPieces { frames := 7, cells := 0, slots := 0, locals := 161 }).room s m [.ref a_p0].toArray below meth c H locs 0 0 (MQ below (xq_Q (dC, dI) vwCl (xq_tys cI cB cJ cZ cM) A [(a_p0, .inr (10, oX10 r0 txR)), ((txR 0), .inr (9, oX9 tapeI tapeR)), ((tapeR 0), .inl (cB, 1600, .inl tape_bytesF)), ((txR 1), .inl (cI, tx_kindsN, .inl r1)), ((txR 2), .inl (cI, tx_startsN, .inl r2)), ((txR 3), .inl (cI, tx_valuesN, .inl r3))] none) [.ref a_p0].toArray s 0 0 A) (F0 m 60 ls [.int y2_60, .int y1_60, .ref a_p0]) := by
        intro txI_60 tx_kindsF_60 tx_startsF_60 tx_valuesF_60 x2_60 y1_60 y2_60 ls H locs hf hP hD hS hl
        unfold fX10_readPieces_b60 at hf
        obtain ⟨⟨r_1_0, r_1_1, r_1_2, r_1_3, r_1_4⟩, h_2, hf⟩ := xq_bd_some hf
        refine xq_callV (As := [.int y1_60, .int y2_60]) (rest := []) (ci := 10) (q0 := 0) ⟨hx, hb, hml, hown, hts⟩ (kX10_readPiece l dC dI cI cB cJ cZ cM z ad N a_p0 txI_60 txR tapeI tapeR tape_bytesF tx_kindsF_60 tx_kindsN tx_startsF_60 tx_startsN tx_valuesF_60 tx_valuesN y1_60 y2_60 h_2) (cwV 2 hts gX10_readPieces_X10_readPiece rfl rfl rfl (by decide +kernel) ⟨Nat.le_of_ble_eq_true rfl, Nat.le_of_ble_eq_true rfl⟩) hN hK hP hD hS hA [0, 1, 2, 3, 4, 5] (by decide) rfl rfl rfl rfl rfl rfl hl.1 rfl (Nat.le_of_ble_eq_true rfl) dX10_readPieces_60 ⟨Nat.zero_le _, Nat.zero_le _⟩ (fun H locs hP hD hS => ?_)
        have hP : va_P (dC, dI) vwCl [(a_p0, .inr (10, oX10 r_1_1 txR)), ((txR 0), .inr (9, oX9 tapeI tapeR)), ((tapeR 0), .inl (cB, 1600, .inl tape_bytesF)), ((txR 1), .inl (cI, tx_kindsN, .inl r_1_2)), ((txR 2), .inl (cI, tx_startsN, .inl r_1_3)), ((txR 3), .inl (cI, tx_valuesN, .inl r_1_4))] H := hP
        have hD : va_D A [(a_p0, .inr (10, oX10 r_1_1 txR)), ((txR 0), .inr (9, oX9 tapeI tapeR)), ((tapeR 0), .inl (cB, 1600, .inl tape_bytesF)), ((txR 1), .inl (cI, tx_kindsN, .inl r_1_2)), ((txR 2), .inl (cI, tx_startsN, .inl r_1_3)), ((txR 3), .inl (cI, tx_valuesN, .inl r_1_4))] := hD
        refine W.eq (g2 := F0 m 63 ls [.int r_1_0]) rfl ?_
        refine lv_istore_n (lv' := [(1, .int r_1_0), (0, .ref a_p0), (2, .int x2_60)]) hx hb dX10_readPieces_63 rfl hl (by decide) rfl (fun ls hl => ?_)
        refine lv_aload_n hx hb dX10_readPieces_64 rfl (lv_at hl 1 rfl) ?_
        refine va_get (D := (dC, dI)) (ci := 10) (v := .int (r_1_1 4)) (C := RX10) (T := TX10) (N := 8) hx hb hts hinX10 hown hK hP 0 rfl rfl 4 (by decide) hw4 (fun _ h9 => h9) rfl dX10_readPieces_65 ?_
        refine lv_if_eq (tgt := 102) hx hb dX10_readPieces_68 (by decide) (fun c_ => ?_) (fun c_ => ?_)
        · have hf := xq_pos hf c_
          cases hf
          exact xq_vret hx hb hr hlocks hK hP hD hS dX10_readPieces_102
        · have hf := xq_neg hf c_
          refine lv_aload_n hx hb dX10_readPieces_71 rfl (lv_at hl 1 rfl) ?_
          refine va_get (D := (dC, dI)) (ci := 10) (v := .ref ((txR 1))) (C := RX10) (T := TX10) (N := 8) hx hb hts hinX10 hown hK hP 0 rfl rfl 1 (by decide) hw5 (fun _ h9 => h9) rfl dX10_readPieces_72 ?_
          refine lv_aload_n hx hb dX10_readPieces_75 rfl (lv_at hl 1 rfl) ?_
          refine va_get (D := (dC, dI)) (ci := 10) (v := .int (r_1_1 4)) (C := RX10) (T := TX10) (N := 8) hx hb hts hinX10 hown hK hP 0 rfl rfl 4 (by decide) hw4 (fun _ h9 => h9) rfl dX10_readPieces_76 ?_
          refine lv_iconst (v := 1) hx hb dX10_readPieces_79 (by decide) ?_
          refine lv_isub hx hb dX10_readPieces_80 ?_
          refine xq_iald hx hb hK hP 3 0 rfl rfl hf dX10_readPieces_81 (fun v_3 hf => ?_)
          refine lv_iconst (v := (-1)) hx hb dX10_readPieces_82 (by decide) ?_
          refine lv_icmp_eq (tgt := 102) hx hb dX10_readPieces_83 (by decide) (fun c_ => ?_) (fun c_ => ?_)
          · have hf := xq_pos hf c_
            cases hf
            exact xq_vret hx hb hr hlocks hK hP hD hS dX10_readPieces_102
          · have hf := xq_neg hf c_
            refine lv_aload_n hx hb dX10_readPieces_86 rfl (lv_at hl 1 rfl) ?_
            refine va_get (D := (dC, dI)) (ci := 10) (v := .ref ((txR 1))) (C := RX10) (T := TX10) (N := 8) hx hb hts hinX10 hown hK hP 0 rfl rfl 1 (by decide) hw5 (fun _ h9 => h9) rfl dX10_readPieces_87 ?_
            refine lv_aload_n hx hb dX10_readPieces_90 rfl (lv_at hl 1 rfl) ?_
            refine va_get (D := (dC, dI)) (ci := 10) (v := .int (r_1_1 4)) (C := RX10) (T := TX10) (N := 8) hx hb hts hinX10 hown hK hP 0 rfl rfl 4 (by decide) hw4 (fun _ h9 => h9) rfl dX10_readPieces_91 ?_
            refine lv_iconst (v := 1) hx hb dX10_readPieces_94 (by decide) ?_
            refine lv_isub hx hb dX10_readPieces_95 ?_
            refine xq_iald hx hb hK hP 3 0 rfl rfl hf dX10_readPieces_96 (fun v_4 hf => ?_)
            refine lv_bipush (v := (-2)) hx hb dX10_readPieces_97 (by decide) ?_
            refine lv_icmp_ne (tgt := 103) hx hb dX10_readPieces_99 (by decide) (fun c_ => ?_) (fun c_ => ?_)
            · have hf := xq_neg hf c_
              refine lv_iinc (v := x2_60 + 1) (lv' := [(2, .int (x2_60 + 1)), (1, .int r_1_0), (0, .ref a_p0)]) hx hb dX10_readPieces_103 hl (k := 2) rfl (congrArg (fun q9 => x2_60 + q9) (by decide : Int32.ofInt 1 = 1)) (by decide) rfl (fun ls hl => ?_)
              refine lv_goto (tgt := 4) hx hb dX10_readPieces_106 (by decide) ?_
              exact ih4 r_1_1 r_1_2 r_1_3 r_1_4 r_1_0 (x2_60 + 1) _ _ _ hf hP hD hS (lv_sub hl [2, 1, 0] rfl)
            · have hf := xq_pos hf c_
              cases hf
              exact xq_vret hx hb hr hlocks hK hP hD hS dX10_readPieces_102
      have b48 : ∀ (txI_48 : Nat → Int32) (tx_kindsF_48 : Nat → Int32) (tx_startsF_48 : Nat → Int32) (tx_valuesF_48 : Nat → Int32) (x1_48 : Int32) (x2_48 : Int32) (x3_48 : Int32) (ls : Array Slot) (H : Heap) (locs : List Loc), fX10_readPieces_b48 N tapeI tape_bytesF tx_kindsN tx_startsN tx_valuesN (xq_loop (fX10_readPieces_l4 N tapeI tape_bytesF tx_kindsN tx_startsN tx_valuesN) n4) (txI_48, tx_kindsF_48, tx_startsF_48, tx_valuesF_48, x1_48, x2_48, x3_48) = some (r0, r1, r2, r3) → va_P (dC, dI) vwCl [(a_p0, .inr (10, oX10 txI_48 txR)), ((txR 0), .inr (9, oX9 tapeI tapeR)), ((tapeR 0), .inl (cB, 1600, .inl tape_bytesF)), ((txR 1), .inl (cI, tx_kindsN, .inl tx_kindsF_48)), ((txR 2), .inl (cI, tx_startsN, .inl tx_startsF_48)), ((txR 3), .inl (cI, tx_valuesN, .inl tx_valuesF_48))] H → va_D A [(a_p0, .inr (10, oX10 txI_48 txR)), ((txR 0), .inr (9, oX9 tapeI tapeR)), ((tapeR 0), .inl (cB, 1600, .inl tape_bytesF)), ((txR 1), .inl (cI, tx_kindsN, .inl tx_kindsF_48)), ((txR 2), .inl (cI, tx_startsN, .inl tx_startsF_48)), ((txR 3), .inl (cI, tx_valuesN, .inl tx_valuesF_48))] → va_S A s.heap H locs → lv_has ls 4 [(0, .ref a_p0), (1, .int x1_48), (2, .int x2_48), (3, .int x3_48)] → W p l e (headSpec wsX10_readPieces { frames := 7, cells := 0, slots := 0, locals := 161 }).room s m [.ref a_p0].toArray below meth c H locs 0 0 (MQ below (xq_Q (dC, dI) vwCl (xq_tys cI cB cJ cZ cM) A [(a_p0, .inr (10, oX10 r0 txR)), ((txR 0), .inr (9, oX9 tapeI tapeR)), ((tapeR 0), .inl (cB, 1600, .inl tape_bytesF)), ((txR 1), .inl (cI, tx_kindsN, .inl r1)), ((txR 2), .inl (cI, tx_startsN, .inl r2)), ((txR 3), .inl (cI, tx_valuesN, .inl r3))] none) [.ref a_p0].toArray s 0 0 A) (F0 m 48 ls []) := by
        intro txI_48 tx_kindsF_48 tx_startsF_48 tx_valuesF_48 x1_48 x2_48 x3_48 ls H locs hf hP hD hS hl
        unfold fX10_readPieces_b48 at hf
        refine lv_aload_n hx hb dX10_readPieces_48 rfl (lv_at hl 0 rfl) ?_
        refine lv_iload_n hx hb dX10_readPieces_49 rfl (lv_at hl 3 rfl) ?_
        refine lv_iload_n hx hb dX10_readPieces_50 rfl (lv_at hl 3 rfl) ?_
        refine lv_iload_n hx hb dX10_readPieces_51 rfl (lv_at hl 1 rfl) ?_
        refine lv_icmp_ne (tgt := 59) hx hb dX10_readPieces_52 (by decide) (fun c_ => ?_) (fun c_ => ?_)
        · have hf := xq_neg hf c_
          refine lv_iconst (v := 0) hx hb dX10_readPieces_59 (by decide) ?_
          exact b60 txI_48 tx_kindsF_48 tx_startsF_48 tx_valuesF_48 x2_48 x3_48 0 _ _ _ hf hP hD hS (lv_sub hl [0, 2] rfl)
        · have hf := xq_pos hf c_
          refine lv_iconst (v := 1) hx hb dX10_readPieces_55 (by decide) ?_
          refine lv_goto (tgt := 60) hx hb dX10_readPieces_56 (by decide) ?_
          exact b60 txI_48 tx_kindsF_48 tx_startsF_48 tx_valuesF_48 x2_48 x3_48 1 _ _ _ hf hP hD hS (lv_sub hl [0, 2] rfl)
      have l17 : ∀ n17 : Nat, ∀ (txI_17 : Nat → Int32) (tx_kindsF_17 : Nat → Int32) (tx_startsF_17 : Nat → Int32) (tx_valuesF_17 : Nat → Int32) (x1_17 : Int32) (x2_17 : Int32) (x3_17 : Int32) (ls : Array Slot) (H : Heap) (locs : List Loc), xq_loop (fX10_readPieces_l17 N tapeI tape_bytesF tx_kindsN tx_startsN tx_valuesN (xq_loop (fX10_readPieces_l4 N tapeI tape_bytesF tx_kindsN tx_startsN tx_valuesN) n4)) n17 (txI_17, tx_kindsF_17, tx_startsF_17, tx_valuesF_17, x1_17, x2_17, x3_17) = some (r0, r1, r2, r3) → va_P (dC, dI) vwCl [(a_p0, .inr (10, oX10 txI_17 txR)), ((txR 0), .inr (9, oX9 tapeI tapeR)), ((tapeR 0), .inl (cB, 1600, .inl tape_bytesF)), ((txR 1), .inl (cI, tx_kindsN, .inl tx_kindsF_17)), ((txR 2), .inl (cI, tx_startsN, .inl tx_startsF_17)), ((txR 3), .inl (cI, tx_valuesN, .inl tx_valuesF_17))] H → va_D A [(a_p0, .inr (10, oX10 txI_17 txR)), ((txR 0), .inr (9, oX9 tapeI tapeR)), ((tapeR 0), .inl (cB, 1600, .inl tape_bytesF)), ((txR 1), .inl (cI, tx_kindsN, .inl tx_kindsF_17)), ((txR 2), .inl (cI, tx_startsN, .inl tx_startsF_17)), ((txR 3), .inl (cI, tx_valuesN, .inl tx_valuesF_17))] → va_S A s.heap H locs → lv_has ls 4 [(0, .ref a_p0), (1, .int x1_17), (2, .int x2_17), (3, .int x3_17)] → W p l e (headSpec wsX10_readPieces { frames := 7, cells := 0, slots := 0, locals := 161 }).room s m [.ref a_p0].toArray below meth c H locs 0 0 (MQ below (xq_Q (dC, dI) vwCl (xq_tys cI cB cJ cZ cM) A [(a_p0, .inr (10, oX10 r0 txR)), ((txR 0), .inr (9, oX9 tapeI tapeR)), ((tapeR 0), .inl (cB, 1600, .inl tape_bytesF)), ((txR 1), .inl (cI, tx_kindsN, .inl r1)), ((txR 2), .inl (cI, tx_startsN, .inl r2)), ((txR 3), .inl (cI, tx_valuesN, .inl r3))] none) [.ref a_p0].toArray s 0 0 A) (F0 m 17 ls []) := by
        intro n17
        induction n17 with
        | zero => intro txI_17 tx_kindsF_17 tx_startsF_17 tx_valuesF_17 x1_17 x2_17 x3_17 ls H locs hf; cases (show none = some (r0, r1, r2, r3) from hf)
        | succ n17 ih17 =>
          intro txI_17 tx_kindsF_17 tx_startsF_17 tx_valuesF_17 x1_17 x2_17 x3_17 ls H locs hf hP hD hS hl
          have hf : fX10_readPieces_l17 N tapeI tape_bytesF tx_kindsN tx_startsN tx_valuesN (xq_loop (fX10_readPieces_l4 N tapeI tape_bytesF tx_kindsN tx_startsN tx_valuesN) n4) (xq_loop (fX10_readPieces_l17 N tapeI tape_bytesF tx_kindsN tx_startsN tx_valuesN (xq_loop (fX10_readPieces_l4 N tapeI tape_bytesF tx_kindsN tx_startsN tx_valuesN) n4)) n17) (txI_17, tx_kindsF_17, tx_startsF_17, tx_valuesF_17, x1_17, x2_17, x3_17) = some (r0, r1, r2, r3) := hf
          unfold fX10_readPieces_l17 at hf
          refine lv_iload_n hx hb dX10_readPieces_17 rfl (lv_at hl 3 rfl) ?_
          refine lv_aload_n hx hb dX10_readPieces_18 rfl (lv_at hl 0 rfl) ?_
          refine va_get (D := (dC, dI)) (ci := 10) (v := .ref ((txR 0))) (C := RX10) (T := TX10) (N := 8) hx hb hts hinX10 hown hK hP 0 rfl rfl 0 (by decide) hw0 (fun _ h9 => h9) rfl dX10_readPieces_19 ?_
          refine va_getN (D := (dC, dI)) (ci := 9) (v := .int (tapeI 1)) (C := RX9) (T := TX9) (N := 2) hx hb hts hinX9 hown hK hP 1 rfl rfl 1 (by decide) hnf0 (fun _ h9 => h9) rfl dX10_readPieces_22 ?_
          refine lv_icmp_ge (tgt := 48) hx hb dX10_readPieces_25 (by decide) (fun c_ => ?_) (fun c_ => ?_)
          · have hf := xq_pos hf c_
            exact b48 txI_17 tx_kindsF_17 tx_startsF_17 tx_valuesF_17 x1_17 x2_17 x3_17 _ _ _ hf hP hD hS (lv_sub hl [0, 1, 2, 3] rfl)
          · have hf := xq_neg hf c_
            refine lv_aload_n hx hb dX10_readPieces_28 rfl (lv_at hl 0 rfl) ?_
            refine va_get (D := (dC, dI)) (ci := 10) (v := .ref ((txR 0))) (C := RX10) (T := TX10) (N := 8) hx hb hts hinX10 hown hK hP 0 rfl rfl 0 (by decide) hw0 (fun _ h9 => h9) rfl dX10_readPieces_29 ?_
            refine lv_iload_n hx hb dX10_readPieces_32 rfl (lv_at hl 3 rfl) ?_
            obtain ⟨r_1, h_2, hf⟩ := xq_bd_some hf
            refine xq_callV (As := [.int x3_17]) (rest := []) (ci := 9) (q0 := 1) ⟨hx, hb, hml, hown, hts⟩ (kX9_at l dC dI cI cB cJ cZ cM z ad N ((txR 0)) tapeI tapeR tape_bytesF x3_17 h_2) (cwV 1 hts gX10_readPieces_X9_at rfl rfl rfl (by decide +kernel) ⟨Nat.le_of_ble_eq_true rfl, Nat.le_of_ble_eq_true rfl⟩) hN hK hP hD hS hA [1, 2] (by decide) rfl rfl rfl rfl rfl rfl hl.1 rfl (Nat.le_of_ble_eq_true rfl) dX10_readPieces_33 ⟨Nat.zero_le _, Nat.zero_le _⟩ (fun H locs hP hD hS => ?_)
            have hP : va_P (dC, dI) vwCl [(a_p0, .inr (10, oX10 txI_17 txR)), ((txR 0), .inr (9, oX9 tapeI tapeR)), ((tapeR 0), .inl (cB, 1600, .inl tape_bytesF)), ((txR 1), .inl (cI, tx_kindsN, .inl tx_kindsF_17)), ((txR 2), .inl (cI, tx_startsN, .inl tx_startsF_17)), ((txR 3), .inl (cI, tx_valuesN, .inl tx_valuesF_17))] H := hP
            have hD : va_D A [(a_p0, .inr (10, oX10 txI_17 txR)), ((txR 0), .inr (9, oX9 tapeI tapeR)), ((tapeR 0), .inl (cB, 1600, .inl tape_bytesF)), ((txR 1), .inl (cI, tx_kindsN, .inl tx_kindsF_17)), ((txR 2), .inl (cI, tx_startsN, .inl tx_startsF_17)), ((txR 3), .inl (cI, tx_valuesN, .inl tx_valuesF_17))] := hD
            refine W.eq (g2 := F0 m 36 ls [.int r_1]) rfl ?_
            obtain ⟨r_3, h_4, hf⟩ := xq_bd_some hf
            refine xq_callS (As := [.int r_1]) (rest := []) ⟨hx, hb, hml, hown, hts⟩ (kX10_isBlank l dC dI cI cB cJ cZ cM z ad N r_1 h_4) (va_cwS 1 hts gX10_readPieces_X10_isBlank rfl rfl rfl (by decide +kernel) ⟨Nat.le_of_ble_eq_true rfl, Nat.le_of_ble_eq_true rfl⟩) hN hK hP hD hS hA [] (by decide) rfl rfl rfl hl.1 rfl (Nat.le_of_ble_eq_true rfl) dX10_readPieces_36 ⟨Nat.zero_le _, Nat.zero_le _⟩ (fun H locs hP hD hS => ?_)
            have hP : va_P (dC, dI) vwCl [(a_p0, .inr (10, oX10 txI_17 txR)), ((txR 0), .inr (9, oX9 tapeI tapeR)), ((tapeR 0), .inl (cB, 1600, .inl tape_bytesF)), ((txR 1), .inl (cI, tx_kindsN, .inl tx_kindsF_17)), ((txR 2), .inl (cI, tx_startsN, .inl tx_startsF_17)), ((txR 3), .inl (cI, tx_valuesN, .inl tx_valuesF_17))] H := hP
            have hD : va_D A [(a_p0, .inr (10, oX10 txI_17 txR)), ((txR 0), .inr (9, oX9 tapeI tapeR)), ((tapeR 0), .inl (cB, 1600, .inl tape_bytesF)), ((txR 1), .inl (cI, tx_kindsN, .inl tx_kindsF_17)), ((txR 2), .inl (cI, tx_startsN, .inl tx_startsF_17)), ((txR 3), .inl (cI, tx_valuesN, .inl tx_valuesF_17))] := hD
            refine W.eq (g2 := F0 m 39 ls [.int r_3]) rfl ?_
            refine lv_if_eq (tgt := 48) hx hb dX10_readPieces_39 (by decide) (fun c_ => ?_) (fun c_ => ?_)
            · have hf := xq_pos hf c_
              exact b48 txI_17 tx_kindsF_17 tx_startsF_17 tx_valuesF_17 x1_17 x2_17 x3_17 _ _ _ hf hP hD hS (lv_sub hl [0, 1, 2, 3] rfl)
            · have hf := xq_neg hf c_
              refine lv_iinc (v := x3_17 + 1) (lv' := [(3, .int (x3_17 + 1)), (0, .ref a_p0), (1, .int x1_17), (2, .int x2_17)]) hx hb dX10_readPieces_42 hl (k := 3) rfl (congrArg (fun q9 => x3_17 + q9) (by decide : Int32.ofInt 1 = 1)) (by decide) rfl (fun ls hl => ?_)
              refine lv_goto (tgt := 17) hx hb dX10_readPieces_45 (by decide) ?_
              exact ih17 txI_17 tx_kindsF_17 tx_startsF_17 tx_valuesF_17 x1_17 x2_17 (x3_17 + 1) _ _ _ hf hP hD hS (lv_sub hl [1, 2, 3, 0] rfl)
      intro txI_4 tx_kindsF_4 tx_startsF_4 tx_valuesF_4 x1_4 x2_4 ls H locs hf hP hD hS hl
      have hf : fX10_readPieces_l4 N tapeI tape_bytesF tx_kindsN tx_startsN tx_valuesN (xq_loop (fX10_readPieces_l4 N tapeI tape_bytesF tx_kindsN tx_startsN tx_valuesN) n4) (txI_4, tx_kindsF_4, tx_startsF_4, tx_valuesF_4, x1_4, x2_4) = some (r0, r1, r2, r3) := hf
      unfold fX10_readPieces_l4 at hf
      refine lv_iload_n hx hb dX10_readPieces_4 rfl (lv_at hl 2 rfl) ?_
      refine lv_aload_n hx hb dX10_readPieces_5 rfl (lv_at hl 0 rfl) ?_
      refine va_get (D := (dC, dI)) (ci := 10) (v := .ref ((txR 0))) (C := RX10) (T := TX10) (N := 8) hx hb hts hinX10 hown hK hP 0 rfl rfl 0 (by decide) hw0 (fun _ h9 => h9) rfl dX10_readPieces_6 ?_
      refine va_getN (D := (dC, dI)) (ci := 9) (v := .int (tapeI 1)) (C := RX9) (T := TX9) (N := 2) hx hb hts hinX9 hown hK hP 1 rfl rfl 1 (by decide) hnf0 (fun _ h9 => h9) rfl dX10_readPieces_9 ?_
      refine lv_icmp_gt (tgt := 109) hx hb dX10_readPieces_12 (by decide) (fun c_ => ?_) (fun c_ => ?_)
      · have hf := xq_pos hf c_
        cases hf
        exact xq_vret hx hb hr hlocks hK hP hD hS dX10_readPieces_109
      · have hf := xq_neg hf c_
        refine lv_iload_n hx hb dX10_readPieces_15 rfl (lv_at hl 1 rfl) ?_
        refine lv_istore_n (lv' := [(3, .int x1_4), (0, .ref a_p0), (1, .int x1_4), (2, .int x2_4)]) hx hb dX10_readPieces_16 rfl hl (by decide) rfl (fun ls hl => ?_)
        exact l17 N txI_4 tx_kindsF_4 tx_startsF_4 tx_valuesF_4 x1_4 x2_4 x1_4 _ _ _ hf hP hD hS (lv_sub hl [1, 2, 3, 0] rfl)
  unfold fX10_readPieces at hf
  refine lv_iconst (v := 0) hx hb dX10_readPieces_0 (by decide) ?_
  refine lv_istore_n (lv' := [(1, .int 0), (0, .ref a_p0)]) hx hb dX10_readPieces_1 rfl hl (by decide) rfl (fun ls hl => ?_)
  refine lv_iconst (v := 0) hx hb dX10_readPieces_2 (by decide) ?_
  refine lv_istore_n (lv' := [(2, .int 0), (1, .int 0), (0, .ref a_p0)]) hx hb dX10_readPieces_3 rfl hl (by decide) rfl (fun ls hl => ?_)
  exact l4 N txI tx_kindsF tx_startsF tx_valuesF 0 0 _ _ _ hf hP hD hS (lv_sub hl [2, 1, 0] rfl)
