set_option maxRecDepth 20000 in
theorem ggX1_readCall_X10_next : GoodIn wsX1_readCall wsX10_next := goodIn_r _ [7, 8, 9, 94, 95, 96, 97, 98, 99, 100, 101] rfl (by decide +kernel)
set_option maxRecDepth 20000 in
theorem gX1_readCall_X10_next : GoodIn wsX1_readCall (wsV RX1 53 RX10 yX10_next wsX10_next) := goodIn_app (goodIn_of _ (by decide +kernel)) ggX1_readCall_X10_next
set_option maxRecDepth 20000 in
theorem ggX1_readCall_X10_piece : GoodIn wsX1_readCall wsX10_piece := goodIn_r _ [13, 14, 8, 9, 15, 94, 95, 96, 97, 98, 99, 100, 101] rfl (by decide +kernel)
set_option maxRecDepth 20000 in
theorem gX1_readCall_X10_piece : GoodIn wsX1_readCall (wsV RX1 49 RX10 yX10_piece wsX10_piece) := goodIn_app (goodIn_of _ (by decide +kernel)) ggX1_readCall_X10_piece
set_option maxRecDepth 20000 in
theorem ggX1_readCall_X10_wrong : GoodIn wsX1_readCall wsX10_wrong := goodIn_r _ [19, 14, 8, 9, 15, 20, 21, 22, 94, 95, 96, 97, 98, 99, 100, 101] rfl (by decide +kernel)
set_option maxRecDepth 20000 in
theorem gX1_readCall_X10_wrong : GoodIn wsX1_readCall (wsV RX1 72 RX10 yX10_wrong wsX10_wrong) := goodIn_app (goodIn_of _ (by decide +kernel)) ggX1_readCall_X10_wrong
set_option maxRecDepth 20000 in
theorem ggX1_readCall_X1_enter : GoodIn wsX1_readCall wsX1_enter := goodIn_r _ [27, 2, 1, 28, 29, 30, 6, 31, 14, 8, 9, 21, 22, 3, 4, 5, 7, 89, 90, 91, 92, 93, 94, 95, 96, 97, 98, 99, 100, 101] rfl (by decide +kernel)
set_option maxRecDepth 20000 in
theorem gX1_readCall_X1_enter : GoodIn wsX1_readCall (wsV RX1 63 RX1 yX1_enter wsX1_enter) := goodIn_app (goodIn_of _ (by decide +kernel)) ggX1_readCall_X1_enter
set_option maxRecDepth 20000 in
theorem ggX1_readCall_X1_readTest : GoodIn wsX1_readCall wsX1_readTest := goodIn_r _ [85, 1, 86, 87, 88, 26, 10, 11, 12, 6, 13, 14, 8, 9, 15, 3, 4, 5, 7, 45, 46, 47, 48, 49, 50, 51, 52, 53, 54, 0, 2, 16, 17, 18, 19, 20, 21, 22, 23, 24, 25, 27, 28, 29, 30, 31, 32, 33, 34, 35, 36, 37, 38, 39, 40, 41, 42, 43, 44, 55, 56, 57, 58, 59, 60, 61, 62, 63, 64, 65, 66, 67, 68, 69, 70, 71, 72, 73, 74, 75, 76, 77, 78, 79, 80, 81, 82, 83, 84, 89, 90, 91, 92, 93, 94, 95, 96, 97, 98, 99, 100, 101] rfl (by decide +kernel)
set_option maxRecDepth 20000 in
theorem gX1_readCall_X1_readTest : GoodIn wsX1_readCall (wsV RX1 34 RX1 yX1_readTest wsX1_readTest) := goodIn_app (goodIn_of _ (by decide +kernel)) ggX1_readCall_X1_readTest
set_option maxRecDepth 20000 in
theorem ggX1_readCall_X10_take : GoodIn wsX1_readCall wsX10_take := goodIn_r _ [38, 39, 11, 12, 6, 13, 14, 8, 9, 15, 40, 4, 5, 7, 41, 17, 18, 19, 20, 21, 22, 94, 95, 96, 97, 98, 99, 100, 101] rfl (by decide +kernel)
set_option maxRecDepth 20000 in
theorem gX1_readCall_X10_take : GoodIn wsX1_readCall (wsV RX1 66 RX10 yX10_take wsX10_take) := goodIn_app (goodIn_of _ (by decide +kernel)) ggX1_readCall_X10_take
set_option maxRecDepth 20000 in
theorem ggX1_readCall_X1_readSum : GoodIn wsX1_readCall wsX1_readSum := goodIn_r _ [81, 1, 82, 83, 84, 26, 10, 11, 12, 6, 13, 14, 8, 9, 15, 3, 4, 5, 7, 45, 46, 47, 48, 49, 50, 51, 52, 53, 54, 0, 2, 16, 17, 18, 19, 20, 21, 22, 23, 24, 25, 27, 28, 29, 30, 31, 32, 33, 34, 35, 36, 37, 38, 39, 40, 41, 42, 43, 44, 55, 56, 57, 58, 59, 60, 61, 62, 63, 64, 65, 66, 67, 68, 69, 70, 71, 72, 73, 74, 75, 76, 77, 78, 79, 80, 85, 86, 87, 88, 89, 90, 91, 92, 93, 94, 95, 96, 97, 98, 99, 100, 101] rfl (by decide +kernel)
set_option maxRecDepth 20000 in
theorem gX1_readCall_X1_readSum : GoodIn wsX1_readCall (wsV RX1 37 RX1 yX1_readSum wsX1_readSum) := goodIn_app (goodIn_of _ (by decide +kernel)) ggX1_readCall_X1_readSum
set_option maxRecDepth 20000 in
theorem ggX1_readCall_X1_emit : GoodIn wsX1_readCall wsX1_emit := goodIn_r _ [48, 49, 50, 89, 90, 91, 92, 93] rfl (by decide +kernel)
set_option maxRecDepth 20000 in
theorem gX1_readCall_X1_emit : GoodIn wsX1_readCall (wsV RX1 56 RX1 yX1_emit wsX1_emit) := goodIn_app (goodIn_of _ (by decide +kernel)) ggX1_readCall_X1_emit
def dsX1_readCall_0 : List (Nat × Instr × Nat) := [(0, (.aload_n 0, 1)), (1, (.getfield 21, 3)), (4, (.invokevirtual 53, 3)), (7, (.aload_n 0, 1)), (8, (.getfield 21, 3)), (11, (.invokevirtual 49, 3)), (14, (.bipush 40, 2)), (16, (.if_icmp .eq 11, 3)), (19, (.aload_n 0, 1)), (20, (.getfield 21, 3)), (23, (.invokevirtual 72, 3)), (26, (.return_, 1)), (27, (.aload_n 0, 1)), (28, (.invokevirtual 63, 3)), (31, (.iload_n 1, 1)), (32, (.sipush 317, 3)), (35, (.if_icmp .ne 16, 3)), (38, (.aload_n 0, 1)), (39, (.invokevirtual 34, 3)), (42, (.aload_n 0, 1)), (43, (.getfield 21, 3)), (46, (.bipush 44, 2)), (48, (.invokevirtual 66, 3)), (51, (.aload_n 0, 1)), (52, (.invokevirtual 37, 3)), (55, (.aload_n 0, 1)), (56, (.getfield 21, 3)), (59, (.bipush 44, 2)), (61, (.invokevirtual 66, 3)), (64, (.aload_n 0, 1)), (65, (.invokevirtual 37, 3)), (68, (.aload_n 0, 1)), (69, (.getfield 21, 3)), (72, (.bipush 41, 2)), (74, (.invokevirtual 66, 3)), (77, (.aload_n 0, 1)), (78, (.dup, 1)), (79, (.getfield 15, 3)), (82, (.iconst 1, 1)), (83, (.isub, 1)), (84, (.putfield 15, 3)), (87, (.aload_n 0, 1)), (88, (.sipush 20000, 3)), (91, (.iload_n 1, 1)), (92, (.iadd, 1)), (93, (.invokevirtual 56, 3)), (96, (.return_, 1))]
theorem dsX1_readCall_0_ok : (dsX1_readCall_0.all fun q => decide (decode cX1_readCall q.1 = .ok q.2)) = true := by decide +kernel
theorem dX1_readCall_0 : decode cX1_readCall 0 = .ok (.aload_n 0, 1) := of_decide_eq_true (List.all_eq_true.mp dsX1_readCall_0_ok (0, (.aload_n 0, 1)) (List.mem_of_getElem? (i := 0) rfl))
theorem dX1_readCall_1 : decode cX1_readCall 1 = .ok (.getfield 21, 3) := of_decide_eq_true (List.all_eq_true.mp dsX1_readCall_0_ok (1, (.getfield 21, 3)) (List.mem_of_getElem? (i := 1) rfl))
theorem dX1_readCall_4 : decode cX1_readCall 4 = .ok (.invokevirtual 53, 3) := of_decide_eq_true (List.all_eq_true.mp dsX1_readCall_0_ok (4, (.invokevirtual 53, 3)) (List.mem_of_getElem? (i := 2) rfl))
theorem dX1_readCall_7 : decode cX1_readCall 7 = .ok (.aload_n 0, 1) := of_decide_eq_true (List.all_eq_true.mp dsX1_readCall_0_ok (7, (.aload_n 0, 1)) (List.mem_of_getElem? (i := 3) rfl))
theorem dX1_readCall_8 : decode cX1_readCall 8 = .ok (.getfield 21, 3) := of_decide_eq_true (List.all_eq_true.mp dsX1_readCall_0_ok (8, (.getfield 21, 3)) (List.mem_of_getElem? (i := 4) rfl))
theorem dX1_readCall_11 : decode cX1_readCall 11 = .ok (.invokevirtual 49, 3) := of_decide_eq_true (List.all_eq_true.mp dsX1_readCall_0_ok (11, (.invokevirtual 49, 3)) (List.mem_of_getElem? (i := 5) rfl))
theorem dX1_readCall_14 : decode cX1_readCall 14 = .ok (.bipush 40, 2) := of_decide_eq_true (List.all_eq_true.mp dsX1_readCall_0_ok (14, (.bipush 40, 2)) (List.mem_of_getElem? (i := 6) rfl))
theorem dX1_readCall_16 : decode cX1_readCall 16 = .ok (.if_icmp .eq 11, 3) := of_decide_eq_true (List.all_eq_true.mp dsX1_readCall_0_ok (16, (.if_icmp .eq 11, 3)) (List.mem_of_getElem? (i := 7) rfl))
theorem dX1_readCall_19 : decode cX1_readCall 19 = .ok (.aload_n 0, 1) := of_decide_eq_true (List.all_eq_true.mp dsX1_readCall_0_ok (19, (.aload_n 0, 1)) (List.mem_of_getElem? (i := 8) rfl))
theorem dX1_readCall_20 : decode cX1_readCall 20 = .ok (.getfield 21, 3) := of_decide_eq_true (List.all_eq_true.mp dsX1_readCall_0_ok (20, (.getfield 21, 3)) (List.mem_of_getElem? (i := 9) rfl))
theorem dX1_readCall_23 : decode cX1_readCall 23 = .ok (.invokevirtual 72, 3) := of_decide_eq_true (List.all_eq_true.mp dsX1_readCall_0_ok (23, (.invokevirtual 72, 3)) (List.mem_of_getElem? (i := 10) rfl))
theorem dX1_readCall_26 : decode cX1_readCall 26 = .ok (.return_, 1) := of_decide_eq_true (List.all_eq_true.mp dsX1_readCall_0_ok (26, (.return_, 1)) (List.mem_of_getElem? (i := 11) rfl))
theorem dX1_readCall_27 : decode cX1_readCall 27 = .ok (.aload_n 0, 1) := of_decide_eq_true (List.all_eq_true.mp dsX1_readCall_0_ok (27, (.aload_n 0, 1)) (List.mem_of_getElem? (i := 12) rfl))
theorem dX1_readCall_28 : decode cX1_readCall 28 = .ok (.invokevirtual 63, 3) := of_decide_eq_true (List.all_eq_true.mp dsX1_readCall_0_ok (28, (.invokevirtual 63, 3)) (List.mem_of_getElem? (i := 13) rfl))
theorem dX1_readCall_31 : decode cX1_readCall 31 = .ok (.iload_n 1, 1) := of_decide_eq_true (List.all_eq_true.mp dsX1_readCall_0_ok (31, (.iload_n 1, 1)) (List.mem_of_getElem? (i := 14) rfl))
theorem dX1_readCall_32 : decode cX1_readCall 32 = .ok (.sipush 317, 3) := of_decide_eq_true (List.all_eq_true.mp dsX1_readCall_0_ok (32, (.sipush 317, 3)) (List.mem_of_getElem? (i := 15) rfl))
theorem dX1_readCall_35 : decode cX1_readCall 35 = .ok (.if_icmp .ne 16, 3) := of_decide_eq_true (List.all_eq_true.mp dsX1_readCall_0_ok (35, (.if_icmp .ne 16, 3)) (List.mem_of_getElem? (i := 16) rfl))
theorem dX1_readCall_38 : decode cX1_readCall 38 = .ok (.aload_n 0, 1) := of_decide_eq_true (List.all_eq_true.mp dsX1_readCall_0_ok (38, (.aload_n 0, 1)) (List.mem_of_getElem? (i := 17) rfl))
theorem dX1_readCall_39 : decode cX1_readCall 39 = .ok (.invokevirtual 34, 3) := of_decide_eq_true (List.all_eq_true.mp dsX1_readCall_0_ok (39, (.invokevirtual 34, 3)) (List.mem_of_getElem? (i := 18) rfl))
theorem dX1_readCall_42 : decode cX1_readCall 42 = .ok (.aload_n 0, 1) := of_decide_eq_true (List.all_eq_true.mp dsX1_readCall_0_ok (42, (.aload_n 0, 1)) (List.mem_of_getElem? (i := 19) rfl))
theorem dX1_readCall_43 : decode cX1_readCall 43 = .ok (.getfield 21, 3) := of_decide_eq_true (List.all_eq_true.mp dsX1_readCall_0_ok (43, (.getfield 21, 3)) (List.mem_of_getElem? (i := 20) rfl))
theorem dX1_readCall_46 : decode cX1_readCall 46 = .ok (.bipush 44, 2) := of_decide_eq_true (List.all_eq_true.mp dsX1_readCall_0_ok (46, (.bipush 44, 2)) (List.mem_of_getElem? (i := 21) rfl))
theorem dX1_readCall_48 : decode cX1_readCall 48 = .ok (.invokevirtual 66, 3) := of_decide_eq_true (List.all_eq_true.mp dsX1_readCall_0_ok (48, (.invokevirtual 66, 3)) (List.mem_of_getElem? (i := 22) rfl))
theorem dX1_readCall_51 : decode cX1_readCall 51 = .ok (.aload_n 0, 1) := of_decide_eq_true (List.all_eq_true.mp dsX1_readCall_0_ok (51, (.aload_n 0, 1)) (List.mem_of_getElem? (i := 23) rfl))
theorem dX1_readCall_52 : decode cX1_readCall 52 = .ok (.invokevirtual 37, 3) := of_decide_eq_true (List.all_eq_true.mp dsX1_readCall_0_ok (52, (.invokevirtual 37, 3)) (List.mem_of_getElem? (i := 24) rfl))
theorem dX1_readCall_55 : decode cX1_readCall 55 = .ok (.aload_n 0, 1) := of_decide_eq_true (List.all_eq_true.mp dsX1_readCall_0_ok (55, (.aload_n 0, 1)) (List.mem_of_getElem? (i := 25) rfl))
theorem dX1_readCall_56 : decode cX1_readCall 56 = .ok (.getfield 21, 3) := of_decide_eq_true (List.all_eq_true.mp dsX1_readCall_0_ok (56, (.getfield 21, 3)) (List.mem_of_getElem? (i := 26) rfl))
theorem dX1_readCall_59 : decode cX1_readCall 59 = .ok (.bipush 44, 2) := of_decide_eq_true (List.all_eq_true.mp dsX1_readCall_0_ok (59, (.bipush 44, 2)) (List.mem_of_getElem? (i := 27) rfl))
theorem dX1_readCall_61 : decode cX1_readCall 61 = .ok (.invokevirtual 66, 3) := of_decide_eq_true (List.all_eq_true.mp dsX1_readCall_0_ok (61, (.invokevirtual 66, 3)) (List.mem_of_getElem? (i := 28) rfl))
theorem dX1_readCall_64 : decode cX1_readCall 64 = .ok (.aload_n 0, 1) := of_decide_eq_true (List.all_eq_true.mp dsX1_readCall_0_ok (64, (.aload_n 0, 1)) (List.mem_of_getElem? (i := 29) rfl))
theorem dX1_readCall_65 : decode cX1_readCall 65 = .ok (.invokevirtual 37, 3) := of_decide_eq_true (List.all_eq_true.mp dsX1_readCall_0_ok (65, (.invokevirtual 37, 3)) (List.mem_of_getElem? (i := 30) rfl))
theorem dX1_readCall_68 : decode cX1_readCall 68 = .ok (.aload_n 0, 1) := of_decide_eq_true (List.all_eq_true.mp dsX1_readCall_0_ok (68, (.aload_n 0, 1)) (List.mem_of_getElem? (i := 31) rfl))
theorem dX1_readCall_69 : decode cX1_readCall 69 = .ok (.getfield 21, 3) := of_decide_eq_true (List.all_eq_true.mp dsX1_readCall_0_ok (69, (.getfield 21, 3)) (List.mem_of_getElem? (i := 32) rfl))
theorem dX1_readCall_72 : decode cX1_readCall 72 = .ok (.bipush 41, 2) := of_decide_eq_true (List.all_eq_true.mp dsX1_readCall_0_ok (72, (.bipush 41, 2)) (List.mem_of_getElem? (i := 33) rfl))
theorem dX1_readCall_74 : decode cX1_readCall 74 = .ok (.invokevirtual 66, 3) := of_decide_eq_true (List.all_eq_true.mp dsX1_readCall_0_ok (74, (.invokevirtual 66, 3)) (List.mem_of_getElem? (i := 34) rfl))
theorem dX1_readCall_77 : decode cX1_readCall 77 = .ok (.aload_n 0, 1) := of_decide_eq_true (List.all_eq_true.mp dsX1_readCall_0_ok (77, (.aload_n 0, 1)) (List.mem_of_getElem? (i := 35) rfl))
theorem dX1_readCall_78 : decode cX1_readCall 78 = .ok (.dup, 1) := of_decide_eq_true (List.all_eq_true.mp dsX1_readCall_0_ok (78, (.dup, 1)) (List.mem_of_getElem? (i := 36) rfl))
theorem dX1_readCall_79 : decode cX1_readCall 79 = .ok (.getfield 15, 3) := of_decide_eq_true (List.all_eq_true.mp dsX1_readCall_0_ok (79, (.getfield 15, 3)) (List.mem_of_getElem? (i := 37) rfl))
theorem dX1_readCall_82 : decode cX1_readCall 82 = .ok (.iconst 1, 1) := of_decide_eq_true (List.all_eq_true.mp dsX1_readCall_0_ok (82, (.iconst 1, 1)) (List.mem_of_getElem? (i := 38) rfl))
theorem dX1_readCall_83 : decode cX1_readCall 83 = .ok (.isub, 1) := of_decide_eq_true (List.all_eq_true.mp dsX1_readCall_0_ok (83, (.isub, 1)) (List.mem_of_getElem? (i := 39) rfl))
theorem dX1_readCall_84 : decode cX1_readCall 84 = .ok (.putfield 15, 3) := of_decide_eq_true (List.all_eq_true.mp dsX1_readCall_0_ok (84, (.putfield 15, 3)) (List.mem_of_getElem? (i := 40) rfl))
theorem dX1_readCall_87 : decode cX1_readCall 87 = .ok (.aload_n 0, 1) := of_decide_eq_true (List.all_eq_true.mp dsX1_readCall_0_ok (87, (.aload_n 0, 1)) (List.mem_of_getElem? (i := 41) rfl))
theorem dX1_readCall_88 : decode cX1_readCall 88 = .ok (.sipush 20000, 3) := of_decide_eq_true (List.all_eq_true.mp dsX1_readCall_0_ok (88, (.sipush 20000, 3)) (List.mem_of_getElem? (i := 42) rfl))
theorem dX1_readCall_91 : decode cX1_readCall 91 = .ok (.iload_n 1, 1) := of_decide_eq_true (List.all_eq_true.mp dsX1_readCall_0_ok (91, (.iload_n 1, 1)) (List.mem_of_getElem? (i := 43) rfl))
theorem dX1_readCall_92 : decode cX1_readCall 92 = .ok (.iadd, 1) := of_decide_eq_true (List.all_eq_true.mp dsX1_readCall_0_ok (92, (.iadd, 1)) (List.mem_of_getElem? (i := 44) rfl))
theorem dX1_readCall_93 : decode cX1_readCall 93 = .ok (.invokevirtual 56, 3) := of_decide_eq_true (List.all_eq_true.mp dsX1_readCall_0_ok (93, (.invokevirtual 56, 3)) (List.mem_of_getElem? (i := 45) rfl))
theorem dX1_readCall_96 : decode cX1_readCall 96 = .ok (.return_, 1) := of_decide_eq_true (List.all_eq_true.mp dsX1_readCall_0_ok (96, (.return_, 1)) (List.mem_of_getElem? (i := 46) rfl))
def fX1_readCall_b51 (N : Nat) (text_kindsF : Nat → Int32) (text_startsF : Nat → Int32) (text_valuesF : Nat → Int32) (text_kindsN : Nat) (text_startsN : Nat) (text_valuesN : Nat) (fr_codeN : Nat) (k_readSum : (Nat → Int32) → (Nat → Int32) → (Nat → Int32) → Option ((Nat → Int32) × (Nat → Int32) × (Nat → Int32))) (k_readTest : (Nat → Int32) → (Nat → Int32) → (Nat → Int32) → Option ((Nat → Int32) × (Nat → Int32) × (Nat → Int32)))  : ((Nat → Int32) × (Nat → Int32) × (Nat → Int32) × Int32) → Option ((Nat → Int32) × (Nat → Int32) × (Nat → Int32)) :=
  fun (frI_51, textI_51, fr_codeF_51, x1_51) => (xq_bd (k_readSum frI_51 textI_51 fr_codeF_51) fun (r_1_0, r_1_1, r_1_2) => (xq_bd (fX10_take N r_1_1 text_kindsF text_startsF text_valuesF text_kindsN text_startsN text_valuesN 44) fun r_3 => (xq_bd (k_readSum r_1_0 r_3 r_1_2) fun (r_5_0, r_5_1, r_5_2) => (xq_bd (fX10_take N r_5_1 text_kindsF text_startsF text_valuesF text_kindsN text_startsN text_valuesN 41) fun r_7 => (xq_bd (fX1_emit N ((va_up r_5_0 3 ((r_5_0 3) - 1))) r_5_2 fr_codeN (20000 + x1_51)) fun (r_9_0, r_9_1) => some ((r_9_0, r_7, r_9_1)))))))
def fX1_readCall (N : Nat) (text_kindsF : Nat → Int32) (text_startsF : Nat → Int32) (text_valuesF : Nat → Int32) (text_kindsN : Nat) (text_startsN : Nat) (text_valuesN : Nat) (fr_codeN : Nat) (k_readSum : (Nat → Int32) → (Nat → Int32) → (Nat → Int32) → Option ((Nat → Int32) × (Nat → Int32) × (Nat → Int32))) (k_readTest : (Nat → Int32) → (Nat → Int32) → (Nat → Int32) → Option ((Nat → Int32) × (Nat → Int32) × (Nat → Int32))) (frI textI fr_codeF : Nat → Int32) (p1 : Int32) : Option ((Nat → Int32) × (Nat → Int32) × (Nat → Int32)) :=
  (xq_bd (fX10_next N textI) fun r_1 => (xq_bd (fX10_piece N r_1 text_kindsF text_kindsN) fun r_3 => (if r_3 = 40 then (xq_bd (fX1_enter N frI r_1 text_startsF text_startsN) fun (r_5_0, r_5_1) => (if p1 = 317 then (xq_bd (k_readTest r_5_0 r_5_1 fr_codeF) fun (r_7_0, r_7_1, r_7_2) => (xq_bd (fX10_take N r_7_1 text_kindsF text_startsF text_valuesF text_kindsN text_startsN text_valuesN 44) fun r_9 => fX1_readCall_b51 N text_kindsF text_startsF text_valuesF text_kindsN text_startsN text_valuesN fr_codeN k_readSum k_readTest (r_7_0, r_9, r_7_2, p1))) else fX1_readCall_b51 N text_kindsF text_startsF text_valuesF text_kindsN text_startsN text_valuesN fr_codeN k_readSum k_readTest (r_5_0, r_5_1, fr_codeF, p1))) else (xq_bd (fX10_wrong N r_1 text_kindsF text_startsF text_valuesF text_kindsN text_startsN text_valuesN) fun r_11 => some ((frI, r_11, fr_codeF))))))
set_option maxHeartbeats 4000000 in
set_option maxRecDepth 100000 in
theorem kX1_readCall (l : Launch) (dC : Nat → ClassId) (dI : Nat → Nat → Nat) (cI cB cJ cZ cM : ClassId) (z : Nat) (ad : Nat → Nat) (N : Nat) (a_p0 : Nat) (frR textR : Nat → Nat) (text_kindsF : Nat → Int32) (text_startsF : Nat → Int32) (text_valuesF : Nat → Int32) (text_kindsN : Nat) (text_startsN : Nat) (text_valuesN : Nat) (fr_codeN : Nat) {FM LM : Nat} (hFM : 2 ≤ FM) (hLM : 41 ≤ LM) (k_readSum : (Nat → Int32) → (Nat → Int32) → (Nat → Int32) → Option ((Nat → Int32) × (Nat → Int32) × (Nat → Int32))) (k_readTest : (Nat → Int32) → (Nat → Int32) → (Nat → Int32) → Option ((Nat → Int32) × (Nat → Int32) × (Nat → Int32)))  {F_readSum L_readSum : Nat} (hF_readSum : F_readSum + 1 ≤ FM) (hL_readSum : 8 + (3 + 11) + L_readSum ≤ LM) (h_readSum : ∀ (x0 x1 x2 : Nat → Int32) (y0 y1 y2 : Nat → Int32), k_readSum x0 x1 x2 = some (y0, y1, y2) → xq_Ct l yX1_readSum wsX1_readSum { frames := F_readSum, cells := 0, slots := 0, locals := L_readSum } (dC, dI) vwCl (xq_tys cI cB cJ cZ cM) z ad [.ref a_p0] [(a_p0, .inr (1, oX1 x0 frR)), ((frR 0), .inr (10, oX10 x1 textR)), ((textR 1), .inl (cI, text_kindsN, .inl text_kindsF)), ((textR 2), .inl (cI, text_startsN, .inl text_startsF)), ((textR 3), .inl (cI, text_valuesN, .inl text_valuesF)), ((frR 1), .inl (cI, fr_codeN, .inl x2))] [(a_p0, .inr (1, oX1 y0 frR)), ((frR 0), .inr (10, oX10 y1 textR)), ((textR 1), .inl (cI, text_kindsN, .inl text_kindsF)), ((textR 2), .inl (cI, text_startsN, .inl text_startsF)), ((textR 3), .inl (cI, text_valuesN, .inl text_valuesF)), ((frR 1), .inl (cI, fr_codeN, .inl y2))] none) {F_readTest L_readTest : Nat} (hF_readTest : F_readTest + 1 ≤ FM) (hL_readTest : 8 + (2 + 11) + L_readTest ≤ LM) (h_readTest : ∀ (x0 x1 x2 : Nat → Int32) (y0 y1 y2 : Nat → Int32), k_readTest x0 x1 x2 = some (y0, y1, y2) → xq_Ct l yX1_readTest wsX1_readTest { frames := F_readTest, cells := 0, slots := 0, locals := L_readTest } (dC, dI) vwCl (xq_tys cI cB cJ cZ cM) z ad [.ref a_p0] [(a_p0, .inr (1, oX1 x0 frR)), ((frR 0), .inr (10, oX10 x1 textR)), ((textR 1), .inl (cI, text_kindsN, .inl text_kindsF)), ((textR 2), .inl (cI, text_startsN, .inl text_startsF)), ((textR 3), .inl (cI, text_valuesN, .inl text_valuesF)), ((frR 1), .inl (cI, fr_codeN, .inl x2))] [(a_p0, .inr (1, oX1 y0 frR)), ((frR 0), .inr (10, oX10 y1 textR)), ((textR 1), .inl (cI, text_kindsN, .inl text_kindsF)), ((textR 2), .inl (cI, text_startsN, .inl text_startsF)), ((textR 3), .inl (cI, text_valuesN, .inl text_valuesF)), ((frR 1), .inl (cI, fr_codeN, .inl y2))] none) (frI textI fr_codeF : Nat → Int32) (p1 : Int32) {r0 r1 r2 : Nat → Int32} (hf : fX1_readCall N text_kindsF text_startsF text_valuesF text_kindsN text_startsN text_valuesN fr_codeN k_readSum k_readTest frI textI fr_codeF p1 = some (r0, r1, r2)) : xq_Ct l yX1_readCall wsX1_readCall { frames := FM, cells := 0, slots := 0, locals := LM } (dC, dI) vwCl (xq_tys cI cB cJ cZ cM) z ad [.ref a_p0, .int p1] [(a_p0, .inr (1, oX1 frI frR)), ((frR 0), .inr (10, oX10 textI textR)), ((textR 1), .inl (cI, text_kindsN, .inl text_kindsF)), ((textR 2), .inl (cI, text_startsN, .inl text_startsF)), ((textR 3), .inl (cI, text_valuesN, .inl text_valuesF)), ((frR 1), .inl (cI, fr_codeN, .inl fr_codeF))] [(a_p0, .inr (1, oX1 r0 frR)), ((frR 0), .inr (10, oX10 r1 textR)), ((textR 1), .inl (cI, text_kindsN, .inl text_kindsF)), ((textR 2), .inl (cI, text_startsN, .inl text_startsF)), ((textR 3), .inl (cI, text_valuesN, .inl text_valuesF)), ((frR 1), .inl (cI, fr_codeN, .inl r2))] none := by
  intro sz
  refine Met.ofW (cc := cX1_readCall) (maxL := 2) (ret := none) (by decide) rfl ?_
  intro p e s m args below meth c s₁ B hml hv
  obtain ⟨rfl, hsz, hP, hK, hD0, hE, hz⟩ := hv
  have hx := B.exec
  have hb := B.bytes
  have hr := B.returns
  have hts := atoms_spec (ws := wsX1_readCall) B.pre
  have hown : s.vm.findClass RX1 = some m.cls := findClass_of_methodNamed B.named
  have hlocks := B.notSynchronized
  subst hsz
  have hD := hD0.self (sz := s.heap.size)
  have hN := xq_Env.of hE hz hD0
  generalize hAe : va_A [(a_p0, .inr (1, oX1 frI frR)), ((frR 0), .inr (10, oX10 textI textR)), ((textR 1), .inl (cI, text_kindsN, .inl text_kindsF)), ((textR 2), .inl (cI, text_startsN, .inl text_startsF)), ((textR 3), .inl (cI, text_valuesN, .inl text_valuesF)), ((frR 1), .inl (cI, fr_codeN, .inl fr_codeF))] s.heap.size = A at hD hN ⊢
  have hA : ∀ q : Nat, s.heap.size ≤ q → A q := fun q h => by rw [← hAe]; exact Or.inr h
  clear hAe hD0
  have hS : va_S A s.heap s.heap [] := va_S.rf
  have hl := lv_entry ([.ref a_p0, .int p1]) (n := 2) (Nat.le_of_ble_eq_true rfl)
  rw [lg_entry_eq]
  generalize (lg_sl ([.ref a_p0, .int p1]) ++ List.replicate (2 - (lg_sl ([.ref a_p0, .int p1])).length) Slot.unset).toArray = ls at hl ⊢
  have hl : lv_has ls 2 [(0, .ref a_p0), (1, .int p1)] := hl
  have hw0 := hts (.fieldLink RX1 21 "DistantVoice$FormulaReader" "text" "LDistantVoice$Text;") (by decide +kernel)
  have hinX1 : ∀ w ∈ wsX10, w ∈ wsX1_readCall := fun w h => List.mem_cons_of_mem _ (List.mem_append_left _ (List.mem_append_right _ h))
  have hw2 := hts (.fieldLink RX1 15 "DistantVoice$FormulaReader" "open" "I") (by decide +kernel)
  have b51 : ∀ (frI_51 : Nat → Int32) (textI_51 : Nat → Int32) (fr_codeF_51 : Nat → Int32) (x1_51 : Int32) (ls : Array Slot) (H : Heap) (locs : List Loc), fX1_readCall_b51 N text_kindsF text_startsF text_valuesF text_kindsN text_startsN text_valuesN fr_codeN k_readSum k_readTest (frI_51, textI_51, fr_codeF_51, x1_51) = some (r0, r1, r2) → va_P (dC, dI) vwCl [(a_p0, .inr (1, oX1 frI_51 frR)), ((frR 0), .inr (10, oX10 textI_51 textR)), ((textR 1), .inl (cI, text_kindsN, .inl text_kindsF)), ((textR 2), .inl (cI, text_startsN, .inl text_startsF)), ((textR 3), .inl (cI, text_valuesN, .inl text_valuesF)), ((frR 1), .inl (cI, fr_codeN, .inl fr_codeF_51))] H → va_D A [(a_p0, .inr (1, oX1 frI_51 frR)), ((frR 0), .inr (10, oX10 textI_51 textR)), ((textR 1), .inl (cI, text_kindsN, .inl text_kindsF)), ((textR 2), .inl (cI, text_startsN, .inl text_startsF)), ((textR 3), .inl (cI, text_valuesN, .inl text_valuesF)), ((frR 1), .inl (cI, fr_codeN, .inl fr_codeF_51))] → va_S A s.heap H locs → lv_has ls 2 [(0, .ref a_p0), (1, .int x1_51)] → W p l e (headSpec wsX1_readCall { frames := FM, cells := 0, slots := 0, locals := LM }).room s m [.ref a_p0, .int p1].toArray below meth c H locs 0 0 (MQ below (xq_Q (dC, dI) vwCl (xq_tys cI cB cJ cZ cM) A [(a_p0, .inr (1, oX1 r0 frR)), ((frR 0), .inr (10, oX10 r1 textR)), ((textR 1), .inl (cI, text_kindsN, .inl text_kindsF)), ((textR 2), .inl (cI, text_startsN, .inl text_startsF)), ((textR 3), .inl (cI, text_valuesN, .inl text_valuesF)), ((frR 1), .inl (cI, fr_codeN, .inl r2))] none) [.ref a_p0, .int p1].toArray s 0 0 A) (F0 m 51 ls []) := by
    intro frI_51 textI_51 fr_codeF_51 x1_51 ls H locs hf hP hD hS hl
    unfold fX1_readCall_b51 at hf
    refine lv_aload_n hx hb dX1_readCall_51 rfl (lv_at hl 0 rfl) ?_
    obtain ⟨⟨r_1_0, r_1_1, r_1_2⟩, h_2, hf⟩ := xq_bd_some hf
    refine xq_callV (As := []) (rest := []) (ci := 1) (q0 := 0) ⟨hx, hb, hml, hown, hts⟩ (h_readSum frI_51 textI_51 fr_codeF_51 _ _ _ h_2) (cwV 0 hts gX1_readCall_X1_readSum rfl rfl rfl (by decide +kernel) ⟨hF_readSum, hL_readSum⟩) hN hK hP hD hS hA [0, 1, 2, 3, 4, 5] (by decide) rfl rfl rfl rfl rfl rfl hl.1 rfl (Nat.le_of_ble_eq_true rfl) dX1_readCall_52 ⟨Nat.zero_le _, Nat.zero_le _⟩ (fun H locs hP hD hS => ?_)
    have hP : va_P (dC, dI) vwCl [(a_p0, .inr (1, oX1 r_1_0 frR)), ((frR 0), .inr (10, oX10 r_1_1 textR)), ((textR 1), .inl (cI, text_kindsN, .inl text_kindsF)), ((textR 2), .inl (cI, text_startsN, .inl text_startsF)), ((textR 3), .inl (cI, text_valuesN, .inl text_valuesF)), ((frR 1), .inl (cI, fr_codeN, .inl r_1_2))] H := hP
    have hD : va_D A [(a_p0, .inr (1, oX1 r_1_0 frR)), ((frR 0), .inr (10, oX10 r_1_1 textR)), ((textR 1), .inl (cI, text_kindsN, .inl text_kindsF)), ((textR 2), .inl (cI, text_startsN, .inl text_startsF)), ((textR 3), .inl (cI, text_valuesN, .inl text_valuesF)), ((frR 1), .inl (cI, fr_codeN, .inl r_1_2))] := hD
    refine W.eq (g2 := F0 m 55 ls []) rfl ?_
    refine lv_aload_n hx hb dX1_readCall_55 rfl (lv_at hl 0 rfl) ?_
    refine va_get (D := (dC, dI)) (ci := 1) (v := .ref ((frR 0))) (C := RX1) (T := TX1) (N := 5) hx hb hts hinX1 hown hK hP 0 rfl rfl 0 (by decide) hw0 (fun _ h9 => h9) rfl dX1_readCall_56 ?_
    refine lv_bipush (v := 44) hx hb dX1_readCall_59 (by decide) ?_
    obtain ⟨r_3, h_4, hf⟩ := xq_bd_some hf
    refine xq_callV (As := [.int 44]) (rest := []) (ci := 10) (q0 := 1) ⟨hx, hb, hml, hown, hts⟩ (kX10_take l dC dI cI cB cJ cZ cM z ad N ((frR 0)) r_1_1 textR text_kindsF text_kindsN text_startsF text_startsN text_valuesF text_valuesN 44 h_4) (cwV 1 hts gX1_readCall_X10_take rfl rfl rfl (by decide +kernel) ⟨Nat.le_trans (Nat.le_of_ble_eq_true rfl) hFM, Nat.le_trans (Nat.le_of_ble_eq_true rfl) hLM⟩) hN hK hP hD hS hA [1, 2, 3, 4] (by decide) rfl rfl rfl rfl rfl rfl hl.1 rfl (Nat.le_of_ble_eq_true rfl) dX1_readCall_61 ⟨Nat.zero_le _, Nat.zero_le _⟩ (fun H locs hP hD hS => ?_)
    have hP : va_P (dC, dI) vwCl [(a_p0, .inr (1, oX1 r_1_0 frR)), ((frR 0), .inr (10, oX10 r_3 textR)), ((textR 1), .inl (cI, text_kindsN, .inl text_kindsF)), ((textR 2), .inl (cI, text_startsN, .inl text_startsF)), ((textR 3), .inl (cI, text_valuesN, .inl text_valuesF)), ((frR 1), .inl (cI, fr_codeN, .inl r_1_2))] H := hP
    have hD : va_D A [(a_p0, .inr (1, oX1 r_1_0 frR)), ((frR 0), .inr (10, oX10 r_3 textR)), ((textR 1), .inl (cI, text_kindsN, .inl text_kindsF)), ((textR 2), .inl (cI, text_startsN, .inl text_startsF)), ((textR 3), .inl (cI, text_valuesN, .inl text_valuesF)), ((frR 1), .inl (cI, fr_codeN, .inl r_1_2))] := hD
    refine W.eq (g2 := F0 m 64 ls []) rfl ?_
    refine lv_aload_n hx hb dX1_readCall_64 rfl (lv_at hl 0 rfl) ?_
    obtain ⟨⟨r_5_0, r_5_1, r_5_2⟩, h_6, hf⟩ := xq_bd_some hf
    refine xq_callV (As := []) (rest := []) (ci := 1) (q0 := 0) ⟨hx, hb, hml, hown, hts⟩ (h_readSum r_1_0 r_3 r_1_2 _ _ _ h_6) (cwV 0 hts gX1_readCall_X1_readSum rfl rfl rfl (by decide +kernel) ⟨hF_readSum, hL_readSum⟩) hN hK hP hD hS hA [0, 1, 2, 3, 4, 5] (by decide) rfl rfl rfl rfl rfl rfl hl.1 rfl (Nat.le_of_ble_eq_true rfl) dX1_readCall_65 ⟨Nat.zero_le _, Nat.zero_le _⟩ (fun H locs hP hD hS => ?_)
    have hP : va_P (dC, dI) vwCl [(a_p0, .inr (1, oX1 r_5_0 frR)), ((frR 0), .inr (10, oX10 r_5_1 textR)), ((textR 1), .inl (cI, text_kindsN, .inl text_kindsF)), ((textR 2), .inl (cI, text_startsN, .inl text_startsF)), ((textR 3), .inl (cI, text_valuesN, .inl text_valuesF)), ((frR 1), .inl (cI, fr_codeN, .inl r_5_2))] H := hP
    have hD : va_D A [(a_p0, .inr (1, oX1 r_5_0 frR)), ((frR 0), .inr (10, oX10 r_5_1 textR)), ((textR 1), .inl (cI, text_kindsN, .inl text_kindsF)), ((textR 2), .inl (cI, text_startsN, .inl text_startsF)), ((textR 3), .inl (cI, text_valuesN, .inl text_valuesF)), ((frR 1), .inl (cI, fr_codeN, .inl r_5_2))] := hD
    refine W.eq (g2 := F0 m 68 ls []) rfl ?_
    refine lv_aload_n hx hb dX1_readCall_68 rfl (lv_at hl 0 rfl) ?_
    refine va_get (D := (dC, dI)) (ci := 1) (v := .ref ((frR 0))) (C := RX1) (T := TX1) (N := 5) hx hb hts hinX1 hown hK hP 0 rfl rfl 0 (by decide) hw0 (fun _ h9 => h9) rfl dX1_readCall_69 ?_
    refine lv_bipush (v := 41) hx hb dX1_readCall_72 (by decide) ?_
    obtain ⟨r_7, h_8, hf⟩ := xq_bd_some hf
    refine xq_callV (As := [.int 41]) (rest := []) (ci := 10) (q0 := 1) ⟨hx, hb, hml, hown, hts⟩ (kX10_take l dC dI cI cB cJ cZ cM z ad N ((frR 0)) r_5_1 textR text_kindsF text_kindsN text_startsF text_startsN text_valuesF text_valuesN 41 h_8) (cwV 1 hts gX1_readCall_X10_take rfl rfl rfl (by decide +kernel) ⟨Nat.le_trans (Nat.le_of_ble_eq_true rfl) hFM, Nat.le_trans (Nat.le_of_ble_eq_true rfl) hLM⟩) hN hK hP hD hS hA [1, 2, 3, 4] (by decide) rfl rfl rfl rfl rfl rfl hl.1 rfl (Nat.le_of_ble_eq_true rfl) dX1_readCall_74 ⟨Nat.zero_le _, Nat.zero_le _⟩ (fun H locs hP hD hS => ?_)
    have hP : va_P (dC, dI) vwCl [(a_p0, .inr (1, oX1 r_5_0 frR)), ((frR 0), .inr (10, oX10 r_7 textR)), ((textR 1), .inl (cI, text_kindsN, .inl text_kindsF)), ((textR 2), .inl (cI, text_startsN, .inl text_startsF)), ((textR 3), .inl (cI, text_valuesN, .inl text_valuesF)), ((frR 1), .inl (cI, fr_codeN, .inl r_5_2))] H := hP
    have hD : va_D A [(a_p0, .inr (1, oX1 r_5_0 frR)), ((frR 0), .inr (10, oX10 r_7 textR)), ((textR 1), .inl (cI, text_kindsN, .inl text_kindsF)), ((textR 2), .inl (cI, text_startsN, .inl text_startsF)), ((textR 3), .inl (cI, text_valuesN, .inl text_valuesF)), ((frR 1), .inl (cI, fr_codeN, .inl r_5_2))] := hD
    refine W.eq (g2 := F0 m 77 ls []) rfl ?_
    refine lv_aload_n hx hb dX1_readCall_77 rfl (lv_at hl 0 rfl) ?_
    refine lv_dup hx hb dX1_readCall_78 rfl ?_
    refine va_get (D := (dC, dI)) (ci := 1) (v := .int (r_5_0 3)) (C := RX1) (T := TX1) (N := 5) hx hb hts hinX1 hown hK hP 0 rfl rfl 3 (by decide) hw2 (fun _ h9 => h9) rfl dX1_readCall_79 ?_
    refine lv_iconst (v := 1) hx hb dX1_readCall_82 (by decide) ?_
    refine lv_isub hx hb dX1_readCall_83 ?_
    refine va_put (D := (dC, dI)) (ci := 1) (v := .int ((r_5_0 3) - 1)) (ty := .int) (C := RX1) (T := TX1) (N := 5) hx hb hts hinX1 tyX1 tyX1_ok nmX1 hown hK hP hD hS 0 rfl rfl 3 (by decide) hw2 (fun _ h9 => h9) rfl (by decide +kernel) rfl rfl (Nat.le_of_ble_eq_true rfl) dX1_readCall_84 (fun H locs hP hD hS => ?_)
    have hP : va_P (dC, dI) vwCl [(a_p0, .inr (1, oX1 (va_up r_5_0 3 ((r_5_0 3) - 1)) frR)), ((frR 0), .inr (10, oX10 r_7 textR)), ((textR 1), .inl (cI, text_kindsN, .inl text_kindsF)), ((textR 2), .inl (cI, text_startsN, .inl text_startsF)), ((textR 3), .inl (cI, text_valuesN, .inl text_valuesF)), ((frR 1), .inl (cI, fr_codeN, .inl r_5_2))] H := hP
    have hD : va_D A [(a_p0, .inr (1, oX1 (va_up r_5_0 3 ((r_5_0 3) - 1)) frR)), ((frR 0), .inr (10, oX10 r_7 textR)), ((textR 1), .inl (cI, text_kindsN, .inl text_kindsF)), ((textR 2), .inl (cI, text_startsN, .inl text_startsF)), ((textR 3), .inl (cI, text_valuesN, .inl text_valuesF)), ((frR 1), .inl (cI, fr_codeN, .inl r_5_2))] := hD
    refine lv_aload_n hx hb dX1_readCall_87 rfl (lv_at hl 0 rfl) ?_
    refine lv_sipush (v := 20000) hx hb dX1_readCall_88 (by decide) ?_
    refine lv_iload_n hx hb dX1_readCall_91 rfl (lv_at hl 1 rfl) ?_
    refine lv_iadd hx hb dX1_readCall_92 ?_
    obtain ⟨⟨r_9_0, r_9_1⟩, h_10, hf⟩ := xq_bd_some hf
    refine xq_callV (As := [.int (20000 + x1_51)]) (rest := []) (ci := 1) (q0 := 0) ⟨hx, hb, hml, hown, hts⟩ (kX1_emit l dC dI cI cB cJ cZ cM z ad N a_p0 ((va_up r_5_0 3 ((r_5_0 3) - 1))) frR r_5_2 fr_codeN (20000 + x1_51) h_10) (cwV 1 hts gX1_readCall_X1_emit rfl rfl rfl (by decide +kernel) ⟨Nat.le_trans (Nat.le_of_ble_eq_true rfl) hFM, Nat.le_trans (Nat.le_of_ble_eq_true rfl) hLM⟩) hN hK hP hD hS hA [0, 5] (by decide) rfl rfl rfl rfl rfl rfl hl.1 rfl (Nat.le_of_ble_eq_true rfl) dX1_readCall_93 ⟨Nat.zero_le _, Nat.zero_le _⟩ (fun H locs hP hD hS => ?_)
    have hP : va_P (dC, dI) vwCl [(a_p0, .inr (1, oX1 r_9_0 frR)), ((frR 0), .inr (10, oX10 r_7 textR)), ((textR 1), .inl (cI, text_kindsN, .inl text_kindsF)), ((textR 2), .inl (cI, text_startsN, .inl text_startsF)), ((textR 3), .inl (cI, text_valuesN, .inl text_valuesF)), ((frR 1), .inl (cI, fr_codeN, .inl r_9_1))] H := hP
    have hD : va_D A [(a_p0, .inr (1, oX1 r_9_0 frR)), ((frR 0), .inr (10, oX10 r_7 textR)), ((textR 1), .inl (cI, text_kindsN, .inl text_kindsF)), ((textR 2), .inl (cI, text_startsN, .inl text_startsF)), ((textR 3), .inl (cI, text_valuesN, .inl text_valuesF)), ((frR 1), .inl (cI, fr_codeN, .inl r_9_1))] := hD
    refine W.eq (g2 := F0 m 96 ls []) rfl ?_
    cases hf
    exact xq_vret hx hb hr hlocks hK hP hD hS dX1_readCall_96
  unfold fX1_readCall at hf
  refine lv_aload_n hx hb dX1_readCall_0 rfl (lv_at hl 0 rfl) ?_
  refine va_get (D := (dC, dI)) (ci := 1) (v := .ref ((frR 0))) (C := RX1) (T := TX1) (N := 5) hx hb hts hinX1 hown hK hP 0 rfl rfl 0 (by decide) hw0 (fun _ h9 => h9) rfl dX1_readCall_1 ?_
  obtain ⟨r_1, h_2, hf⟩ := xq_bd_some hf
  refine xq_callV (As := []) (rest := []) (ci := 10) (q0 := 1) ⟨hx, hb, hml, hown, hts⟩ (kX10_next l dC dI cI cB cJ cZ cM z ad N ((frR 0)) textI textR h_2) (cwV 0 hts gX1_readCall_X10_next rfl rfl rfl (by decide +kernel) ⟨Nat.le_trans (Nat.le_of_ble_eq_true rfl) hFM, Nat.le_trans (Nat.le_of_ble_eq_true rfl) hLM⟩) hN hK hP hD hS hA [1] (by decide) rfl rfl rfl rfl rfl rfl hl.1 rfl (Nat.le_of_ble_eq_true rfl) dX1_readCall_4 ⟨Nat.zero_le _, Nat.zero_le _⟩ (fun H locs hP hD hS => ?_)
  have hP : va_P (dC, dI) vwCl [(a_p0, .inr (1, oX1 frI frR)), ((frR 0), .inr (10, oX10 r_1 textR)), ((textR 1), .inl (cI, text_kindsN, .inl text_kindsF)), ((textR 2), .inl (cI, text_startsN, .inl text_startsF)), ((textR 3), .inl (cI, text_valuesN, .inl text_valuesF)), ((frR 1), .inl (cI, fr_codeN, .inl fr_codeF))] H := hP
  have hD : va_D A [(a_p0, .inr (1, oX1 frI frR)), ((frR 0), .inr (10, oX10 r_1 textR)), ((textR 1), .inl (cI, text_kindsN, .inl text_kindsF)), ((textR 2), .inl (cI, text_startsN, .inl text_startsF)), ((textR 3), .inl (cI, text_valuesN, .inl text_valuesF)), ((frR 1), .inl (cI, fr_codeN, .inl fr_codeF))] := hD
  refine W.eq (g2 := F0 m 7 ls []) rfl ?_
  refine lv_aload_n hx hb dX1_readCall_7 rfl (lv_at hl 0 rfl) ?_
  refine va_get (D := (dC, dI)) (ci := 1) (v := .ref ((frR 0))) (C := RX1) (T := TX1) (N := 5) hx hb hts hinX1 hown hK hP 0 rfl rfl 0 (by decide) hw0 (fun _ h9 => h9) rfl dX1_readCall_8 ?_
  obtain ⟨r_3, h_4, hf⟩ := xq_bd_some hf
  refine xq_callV (As := []) (rest := []) (ci := 10) (q0 := 1) ⟨hx, hb, hml, hown, hts⟩ (kX10_piece l dC dI cI cB cJ cZ cM z ad N ((frR 0)) r_1 textR text_kindsF text_kindsN h_4) (cwV 0 hts gX1_readCall_X10_piece rfl rfl rfl (by decide +kernel) ⟨Nat.le_trans (Nat.le_of_ble_eq_true rfl) hFM, Nat.le_trans (Nat.le_of_ble_eq_true rfl) hLM⟩) hN hK hP hD hS hA [1, 2] (by decide) rfl rfl rfl rfl rfl rfl hl.1 rfl (Nat.le_of_ble_eq_true rfl) dX1_readCall_11 ⟨Nat.zero_le _, Nat.zero_le _⟩ (fun H locs hP hD hS => ?_)
  have hP : va_P (dC, dI) vwCl [(a_p0, .inr (1, oX1 frI frR)), ((frR 0), .inr (10, oX10 r_1 textR)), ((textR 1), .inl (cI, text_kindsN, .inl text_kindsF)), ((textR 2), .inl (cI, text_startsN, .inl text_startsF)), ((textR 3), .inl (cI, text_valuesN, .inl text_valuesF)), ((frR 1), .inl (cI, fr_codeN, .inl fr_codeF))] H := hP
  have hD : va_D A [(a_p0, .inr (1, oX1 frI frR)), ((frR 0), .inr (10, oX10 r_1 textR)), ((textR 1), .inl (cI, text_kindsN, .inl text_kindsF)), ((textR 2), .inl (cI, text_startsN, .inl text_startsF)), ((textR 3), .inl (cI, text_valuesN, .inl text_valuesF)), ((frR 1), .inl (cI, fr_codeN, .inl fr_codeF))] := hD
  refine W.eq (g2 := F0 m 14 ls [.int r_3]) rfl ?_
  refine lv_bipush (v := 40) hx hb dX1_readCall_14 (by decide) ?_
  refine lv_icmp_eq (tgt := 27) hx hb dX1_readCall_16 (by decide) (fun c_ => ?_) (fun c_ => ?_)
  · have hf := xq_pos hf c_
    refine lv_aload_n hx hb dX1_readCall_27 rfl (lv_at hl 0 rfl) ?_
    obtain ⟨⟨r_5_0, r_5_1⟩, h_6, hf⟩ := xq_bd_some hf
    refine xq_callV (As := []) (rest := []) (ci := 1) (q0 := 0) ⟨hx, hb, hml, hown, hts⟩ (kX1_enter l dC dI cI cB cJ cZ cM z ad N a_p0 frI frR r_1 textR text_startsF text_startsN h_6) (cwV 0 hts gX1_readCall_X1_enter rfl rfl rfl (by decide +kernel) ⟨Nat.le_trans (Nat.le_of_ble_eq_true rfl) hFM, Nat.le_trans (Nat.le_of_ble_eq_true rfl) hLM⟩) hN hK hP hD hS hA [0, 1, 3] (by decide) rfl rfl rfl rfl rfl rfl hl.1 rfl (Nat.le_of_ble_eq_true rfl) dX1_readCall_28 ⟨Nat.zero_le _, Nat.zero_le _⟩ (fun H locs hP hD hS => ?_)
    have hP : va_P (dC, dI) vwCl [(a_p0, .inr (1, oX1 r_5_0 frR)), ((frR 0), .inr (10, oX10 r_5_1 textR)), ((textR 1), .inl (cI, text_kindsN, .inl text_kindsF)), ((textR 2), .inl (cI, text_startsN, .inl text_startsF)), ((textR 3), .inl (cI, text_valuesN, .inl text_valuesF)), ((frR 1), .inl (cI, fr_codeN, .inl fr_codeF))] H := hP
    have hD : va_D A [(a_p0, .inr (1, oX1 r_5_0 frR)), ((frR 0), .inr (10, oX10 r_5_1 textR)), ((textR 1), .inl (cI, text_kindsN, .inl text_kindsF)), ((textR 2), .inl (cI, text_startsN, .inl text_startsF)), ((textR 3), .inl (cI, text_valuesN, .inl text_valuesF)), ((frR 1), .inl (cI, fr_codeN, .inl fr_codeF))] := hD
    refine W.eq (g2 := F0 m 31 ls []) rfl ?_
    refine lv_iload_n hx hb dX1_readCall_31 rfl (lv_at hl 1 rfl) ?_
    refine lv_sipush (v := 317) hx hb dX1_readCall_32 (by decide) ?_
    refine lv_icmp_ne (tgt := 51) hx hb dX1_readCall_35 (by decide) (fun c_ => ?_) (fun c_ => ?_)
    · have hf := xq_neg hf c_
      exact b51 r_5_0 r_5_1 fr_codeF p1 _ _ _ hf hP hD hS (lv_sub hl [0, 1] rfl)
    · have hf := xq_pos hf c_
      refine lv_aload_n hx hb dX1_readCall_38 rfl (lv_at hl 0 rfl) ?_
      obtain ⟨⟨r_7_0, r_7_1, r_7_2⟩, h_8, hf⟩ := xq_bd_some hf
      refine xq_callV (As := []) (rest := []) (ci := 1) (q0 := 0) ⟨hx, hb, hml, hown, hts⟩ (h_readTest r_5_0 r_5_1 fr_codeF _ _ _ h_8) (cwV 0 hts gX1_readCall_X1_readTest rfl rfl rfl (by decide +kernel) ⟨hF_readTest, hL_readTest⟩) hN hK hP hD hS hA [0, 1, 2, 3, 4, 5] (by decide) rfl rfl rfl rfl rfl rfl hl.1 rfl (Nat.le_of_ble_eq_true rfl) dX1_readCall_39 ⟨Nat.zero_le _, Nat.zero_le _⟩ (fun H locs hP hD hS => ?_)
      have hP : va_P (dC, dI) vwCl [(a_p0, .inr (1, oX1 r_7_0 frR)), ((frR 0), .inr (10, oX10 r_7_1 textR)), ((textR 1), .inl (cI, text_kindsN, .inl text_kindsF)), ((textR 2), .inl (cI, text_startsN, .inl text_startsF)), ((textR 3), .inl (cI, text_valuesN, .inl text_valuesF)), ((frR 1), .inl (cI, fr_codeN, .inl r_7_2))] H := hP
      have hD : va_D A [(a_p0, .inr (1, oX1 r_7_0 frR)), ((frR 0), .inr (10, oX10 r_7_1 textR)), ((textR 1), .inl (cI, text_kindsN, .inl text_kindsF)), ((textR 2), .inl (cI, text_startsN, .inl text_startsF)), ((textR 3), .inl (cI, text_valuesN, .inl text_valuesF)), ((frR 1), .inl (cI, fr_codeN, .inl r_7_2))] := hD
      refine W.eq (g2 := F0 m 42 ls []) rfl ?_
      refine lv_aload_n hx hb dX1_readCall_42 rfl (lv_at hl 0 rfl) ?_
      refine va_get (D := (dC, dI)) (ci := 1) (v := .ref ((frR 0))) (C := RX1) (T := TX1) (N := 5) hx hb hts hinX1 hown hK hP 0 rfl rfl 0 (by decide) hw0 (fun _ h9 => h9) rfl dX1_readCall_43 ?_
      refine lv_bipush (v := 44) hx hb dX1_readCall_46 (by decide) ?_
      obtain ⟨r_9, h_10, hf⟩ := xq_bd_some hf
      refine xq_callV (As := [.int 44]) (rest := []) (ci := 10) (q0 := 1) ⟨hx, hb, hml, hown, hts⟩ (kX10_take l dC dI cI cB cJ cZ cM z ad N ((frR 0)) r_7_1 textR text_kindsF text_kindsN text_startsF text_startsN text_valuesF text_valuesN 44 h_10) (cwV 1 hts gX1_readCall_X10_take rfl rfl rfl (by decide +kernel) ⟨Nat.le_trans (Nat.le_of_ble_eq_true rfl) hFM, Nat.le_trans (Nat.le_of_ble_eq_true rfl) hLM⟩) hN hK hP hD hS hA [1, 2, 3, 4] (by decide) rfl rfl rfl rfl rfl rfl hl.1 rfl (Nat.le_of_ble_eq_true rfl) dX1_readCall_48 ⟨Nat.zero_le _, Nat.zero_le _⟩ (fun H locs hP hD hS => ?_)
      have hP : va_P (dC, dI) vwCl [(a_p0, .inr (1, oX1 r_7_0 frR)), ((frR 0), .inr (10, oX10 r_9 textR)), ((textR 1), .inl (cI, text_kindsN, .inl text_kindsF)), ((textR 2), .inl (cI, text_startsN, .inl text_startsF)), ((textR 3), .inl (cI, text_valuesN, .inl text_valuesF)), ((frR 1), .inl (cI, fr_codeN, .inl r_7_2))] H := hP
      have hD : va_D A [(a_p0, .inr (1, oX1 r_7_0 frR)), ((frR 0), .inr (10, oX10 r_9 textR)), ((textR 1), .inl (cI, text_kindsN, .inl text_kindsF)), ((textR 2), .inl (cI, text_startsN, .inl text_startsF)), ((textR 3), .inl (cI, text_valuesN, .inl text_valuesF)), ((frR 1), .inl (cI, fr_codeN, .inl r_7_2))] := hD
      refine W.eq (g2 := F0 m 51 ls []) rfl ?_
      exact b51 r_7_0 r_9 r_7_2 p1 _ _ _ hf hP hD hS (lv_sub hl [0, 1] rfl)
  · have hf := xq_neg hf c_
    refine lv_aload_n hx hb dX1_readCall_19 rfl (lv_at hl 0 rfl) ?_
    refine va_get (D := (dC, dI)) (ci := 1) (v := .ref ((frR 0))) (C := RX1) (T := TX1) (N := 5) hx hb hts hinX1 hown hK hP 0 rfl rfl 0 (by decide) hw0 (fun _ h9 => h9) rfl dX1_readCall_20 ?_
    obtain ⟨r_11, h_12, hf⟩ := xq_bd_some hf
    refine xq_callV (As := []) (rest := []) (ci := 10) (q0 := 1) ⟨hx, hb, hml, hown, hts⟩ (kX10_wrong l dC dI cI cB cJ cZ cM z ad N ((frR 0)) r_1 textR text_kindsF text_kindsN text_startsF text_startsN text_valuesF text_valuesN h_12) (cwV 0 hts gX1_readCall_X10_wrong rfl rfl rfl (by decide +kernel) ⟨Nat.le_trans (Nat.le_of_ble_eq_true rfl) hFM, Nat.le_trans (Nat.le_of_ble_eq_true rfl) hLM⟩) hN hK hP hD hS hA [1, 2, 3, 4] (by decide) rfl rfl rfl rfl rfl rfl hl.1 rfl (Nat.le_of_ble_eq_true rfl) dX1_readCall_23 ⟨Nat.zero_le _, Nat.zero_le _⟩ (fun H locs hP hD hS => ?_)
    have hP : va_P (dC, dI) vwCl [(a_p0, .inr (1, oX1 frI frR)), ((frR 0), .inr (10, oX10 r_11 textR)), ((textR 1), .inl (cI, text_kindsN, .inl text_kindsF)), ((textR 2), .inl (cI, text_startsN, .inl text_startsF)), ((textR 3), .inl (cI, text_valuesN, .inl text_valuesF)), ((frR 1), .inl (cI, fr_codeN, .inl fr_codeF))] H := hP
    have hD : va_D A [(a_p0, .inr (1, oX1 frI frR)), ((frR 0), .inr (10, oX10 r_11 textR)), ((textR 1), .inl (cI, text_kindsN, .inl text_kindsF)), ((textR 2), .inl (cI, text_startsN, .inl text_startsF)), ((textR 3), .inl (cI, text_valuesN, .inl text_valuesF)), ((frR 1), .inl (cI, fr_codeN, .inl fr_codeF))] := hD
    refine W.eq (g2 := F0 m 26 ls []) rfl ?_
    cases hf
    exact xq_vret hx hb hr hlocks hK hP hD hS dX1_readCall_26
set_option maxRecDepth 20000 in
theorem ggX1_readPart_X10_piece : GoodIn wsX1_readPart wsX10_piece := goodIn_r _ [7, 8, 9, 10, 11, 94, 95, 96, 97, 98, 99, 100, 101] rfl (by decide +kernel)
set_option maxRecDepth 20000 in
theorem gX1_readPart_X10_piece : GoodIn wsX1_readPart (wsV RX1 49 RX10 yX10_piece wsX10_piece) := goodIn_app (goodIn_of _ (by decide +kernel)) ggX1_readPart_X10_piece
set_option maxRecDepth 20000 in
theorem ggX1_readPart_X10_value : GoodIn wsX1_readPart wsX10_value := goodIn_r _ [15, 9, 10, 16, 94, 95, 96, 97, 98, 99, 100, 101] rfl (by decide +kernel)
set_option maxRecDepth 20000 in
theorem gX1_readPart_X10_value : GoodIn wsX1_readPart (wsV RX1 81 RX10 yX10_value wsX10_value) := goodIn_app (goodIn_of _ (by decide +kernel)) ggX1_readPart_X10_value
set_option maxRecDepth 20000 in
theorem ggX1_readPart_X1_emit : GoodIn wsX1_readPart wsX1_emit := goodIn_r _ [21, 22, 23, 89, 90, 91, 92, 93] rfl (by decide +kernel)
set_option maxRecDepth 20000 in
theorem gX1_readPart_X1_emit : GoodIn wsX1_readPart (wsV RX1 56 RX1 yX1_emit wsX1_emit) := goodIn_app (goodIn_of _ (by decide +kernel)) ggX1_readPart_X1_emit
set_option maxRecDepth 20000 in
theorem ggX1_readPart_X10_next : GoodIn wsX1_readPart wsX10_next := goodIn_r _ [27, 9, 10, 94, 95, 96, 97, 98, 99, 100, 101] rfl (by decide +kernel)
set_option maxRecDepth 20000 in
theorem gX1_readPart_X10_next : GoodIn wsX1_readPart (wsV RX1 53 RX10 yX10_next wsX10_next) := goodIn_app (goodIn_of _ (by decide +kernel)) ggX1_readPart_X10_next
set_option maxRecDepth 20000 in
theorem ggX1_readPart_X1_enter : GoodIn wsX1_readPart wsX1_enter := goodIn_r _ [31, 2, 1, 32, 33, 34, 6, 35, 8, 9, 10, 36, 37, 24, 25, 26, 27, 89, 90, 91, 92, 93, 94, 95, 96, 97, 98, 99, 100, 101] rfl (by decide +kernel)
set_option maxRecDepth 20000 in
theorem gX1_readPart_X1_enter : GoodIn wsX1_readPart (wsV RX1 63 RX1 yX1_enter wsX1_enter) := goodIn_app (goodIn_of _ (by decide +kernel)) ggX1_readPart_X1_enter
set_option maxRecDepth 20000 in
theorem ggX1_readPart_X1_readSum : GoodIn wsX1_readPart wsX1_readSum := goodIn_r _ [81, 1, 82, 83, 84, 20, 3, 4, 5, 6, 7, 8, 9, 10, 11, 24, 25, 26, 27, 17, 18, 19, 21, 22, 23, 64, 65, 66, 67, 68, 2, 63, 48, 49, 50, 16, 36, 37, 28, 29, 30, 31, 32, 33, 34, 35, 69, 70, 71, 41, 42, 43, 44, 45, 46, 47, 38, 39, 40, 72, 73, 74, 75, 76, 0, 12, 13, 14, 15, 51, 52, 53, 54, 55, 56, 57, 58, 59, 60, 61, 62, 77, 78, 79, 80, 85, 86, 87, 88, 89, 90, 91, 92, 93, 94, 95, 96, 97, 98, 99, 100, 101] rfl (by decide +kernel)
set_option maxRecDepth 20000 in
theorem gX1_readPart_X1_readSum : GoodIn wsX1_readPart (wsV RX1 37 RX1 yX1_readSum wsX1_readSum) := goodIn_app (goodIn_of _ (by decide +kernel)) ggX1_readPart_X1_readSum
set_option maxRecDepth 20000 in
theorem ggX1_readPart_X10_take : GoodIn wsX1_readPart wsX10_take := goodIn_r _ [44, 45, 4, 5, 6, 7, 8, 9, 10, 11, 46, 25, 26, 27, 47, 48, 49, 50, 16, 36, 37, 94, 95, 96, 97, 98, 99, 100, 101] rfl (by decide +kernel)
set_option maxRecDepth 20000 in
theorem gX1_readPart_X10_take : GoodIn wsX1_readPart (wsV RX1 66 RX10 yX10_take wsX10_take) := goodIn_app (goodIn_of _ (by decide +kernel)) ggX1_readPart_X10_take
set_option maxRecDepth 20000 in
theorem ggX1_readPart_X1_readCall : GoodIn wsX1_readPart wsX1_readCall := goodIn_r _ [68, 1, 2, 24, 25, 26, 6, 27, 9, 10, 3, 4, 5, 7, 8, 11, 63, 48, 49, 50, 16, 36, 37, 28, 29, 30, 20, 31, 32, 33, 34, 35, 69, 70, 71, 41, 42, 43, 44, 45, 46, 47, 38, 39, 40, 17, 18, 19, 21, 22, 23, 64, 65, 66, 67, 72, 73, 74, 75, 76, 0, 12, 13, 14, 15, 51, 52, 53, 54, 55, 56, 57, 58, 59, 60, 61, 62, 77, 78, 79, 80, 81, 82, 83, 84, 85, 86, 87, 88, 89, 90, 91, 92, 93, 94, 95, 96, 97, 98, 99, 100, 101] rfl (by decide +kernel)
set_option maxRecDepth 20000 in
theorem gX1_readPart_X1_readCall : GoodIn wsX1_readPart (wsV RX1 84 RX1 yX1_readCall wsX1_readCall) := goodIn_app (goodIn_of _ (by decide +kernel)) ggX1_readPart_X1_readCall
set_option maxRecDepth 20000 in
theorem ggX1_readPart_X1_readVariable : GoodIn wsX1_readPart wsX1_readVariable := goodIn_r _ [57, 1, 58, 59, 60, 20, 61, 62, 17, 18, 19, 21, 22, 23, 24, 25, 26, 6, 27, 9, 10, 63, 48, 49, 50, 8, 11, 16, 36, 37, 89, 90, 91, 92, 93, 94, 95, 96, 97, 98, 99, 100, 101] rfl (by decide +kernel)
set_option maxRecDepth 20000 in
theorem gX1_readPart_X1_readVariable : GoodIn wsX1_readPart (wsV RX1 87 RX1 yX1_readVariable wsX1_readVariable) := goodIn_app (goodIn_of _ (by decide +kernel)) ggX1_readPart_X1_readVariable
def dsX1_readPart_0 : List (Nat × Instr × Nat) := [(0, (.aload_n 0, 1)), (1, (.getfield 21, 3)), (4, (.invokevirtual 49, 3)), (7, (.istore_n 1, 1)), (8, (.iload_n 1, 1)), (9, (.lookupswitch 110 #[(-3, 51), (40, 72), (317, 102), (322, 102), (323, 102)], 51)), (60, (.aload_n 0, 1)), (61, (.aload_n 0, 1)), (62, (.getfield 21, 3)), (65, (.invokevirtual 81, 3)), (68, (.invokevirtual 56, 3)), (71, (.aload_n 0, 1)), (72, (.getfield 21, 3)), (75, (.invokevirtual 53, 3)), (78, (.goto 46, 3)), (81, (.aload_n 0, 1)), (82, (.invokevirtual 63, 3)), (85, (.aload_n 0, 1)), (86, (.invokevirtual 37, 3)), (89, (.aload_n 0, 1)), (90, (.getfield 21, 3)), (93, (.bipush 41, 2)), (95, (.invokevirtual 66, 3)), (98, (.aload_n 0, 1)), (99, (.dup, 1)), (100, (.getfield 15, 3)), (103, (.iconst 1, 1)), (104, (.isub, 1)), (105, (.putfield 15, 3)), (108, (.goto 16, 3)), (111, (.aload_n 0, 1)), (112, (.iload_n 1, 1)), (113, (.invokevirtual 84, 3)), (116, (.goto 8, 3)), (119, (.aload_n 0, 1)), (120, (.iload_n 1, 1)), (121, (.invokevirtual 87, 3)), (124, (.return_, 1))]
theorem dsX1_readPart_0_ok : (dsX1_readPart_0.all fun q => decide (decode cX1_readPart q.1 = .ok q.2)) = true := by decide +kernel
theorem dX1_readPart_0 : decode cX1_readPart 0 = .ok (.aload_n 0, 1) := of_decide_eq_true (List.all_eq_true.mp dsX1_readPart_0_ok (0, (.aload_n 0, 1)) (List.mem_of_getElem? (i := 0) rfl))
theorem dX1_readPart_1 : decode cX1_readPart 1 = .ok (.getfield 21, 3) := of_decide_eq_true (List.all_eq_true.mp dsX1_readPart_0_ok (1, (.getfield 21, 3)) (List.mem_of_getElem? (i := 1) rfl))
theorem dX1_readPart_4 : decode cX1_readPart 4 = .ok (.invokevirtual 49, 3) := of_decide_eq_true (List.all_eq_true.mp dsX1_readPart_0_ok (4, (.invokevirtual 49, 3)) (List.mem_of_getElem? (i := 2) rfl))
theorem dX1_readPart_7 : decode cX1_readPart 7 = .ok (.istore_n 1, 1) := of_decide_eq_true (List.all_eq_true.mp dsX1_readPart_0_ok (7, (.istore_n 1, 1)) (List.mem_of_getElem? (i := 3) rfl))
theorem dX1_readPart_8 : decode cX1_readPart 8 = .ok (.iload_n 1, 1) := of_decide_eq_true (List.all_eq_true.mp dsX1_readPart_0_ok (8, (.iload_n 1, 1)) (List.mem_of_getElem? (i := 4) rfl))
theorem dX1_readPart_9 : decode cX1_readPart 9 = .ok (.lookupswitch 110 #[(-3, 51), (40, 72), (317, 102), (322, 102), (323, 102)], 51) := of_decide_eq_true (List.all_eq_true.mp dsX1_readPart_0_ok (9, (.lookupswitch 110 #[(-3, 51), (40, 72), (317, 102), (322, 102), (323, 102)], 51)) (List.mem_of_getElem? (i := 5) rfl))
theorem dX1_readPart_60 : decode cX1_readPart 60 = .ok (.aload_n 0, 1) := of_decide_eq_true (List.all_eq_true.mp dsX1_readPart_0_ok (60, (.aload_n 0, 1)) (List.mem_of_getElem? (i := 6) rfl))
theorem dX1_readPart_61 : decode cX1_readPart 61 = .ok (.aload_n 0, 1) := of_decide_eq_true (List.all_eq_true.mp dsX1_readPart_0_ok (61, (.aload_n 0, 1)) (List.mem_of_getElem? (i := 7) rfl))
theorem dX1_readPart_62 : decode cX1_readPart 62 = .ok (.getfield 21, 3) := of_decide_eq_true (List.all_eq_true.mp dsX1_readPart_0_ok (62, (.getfield 21, 3)) (List.mem_of_getElem? (i := 8) rfl))
theorem dX1_readPart_65 : decode cX1_readPart 65 = .ok (.invokevirtual 81, 3) := of_decide_eq_true (List.all_eq_true.mp dsX1_readPart_0_ok (65, (.invokevirtual 81, 3)) (List.mem_of_getElem? (i := 9) rfl))
theorem dX1_readPart_68 : decode cX1_readPart 68 = .ok (.invokevirtual 56, 3) := of_decide_eq_true (List.all_eq_true.mp dsX1_readPart_0_ok (68, (.invokevirtual 56, 3)) (List.mem_of_getElem? (i := 10) rfl))
theorem dX1_readPart_71 : decode cX1_readPart 71 = .ok (.aload_n 0, 1) := of_decide_eq_true (List.all_eq_true.mp dsX1_readPart_0_ok (71, (.aload_n 0, 1)) (List.mem_of_getElem? (i := 11) rfl))
theorem dX1_readPart_72 : decode cX1_readPart 72 = .ok (.getfield 21, 3) := of_decide_eq_true (List.all_eq_true.mp dsX1_readPart_0_ok (72, (.getfield 21, 3)) (List.mem_of_getElem? (i := 12) rfl))
theorem dX1_readPart_75 : decode cX1_readPart 75 = .ok (.invokevirtual 53, 3) := of_decide_eq_true (List.all_eq_true.mp dsX1_readPart_0_ok (75, (.invokevirtual 53, 3)) (List.mem_of_getElem? (i := 13) rfl))
theorem dX1_readPart_78 : decode cX1_readPart 78 = .ok (.goto 46, 3) := of_decide_eq_true (List.all_eq_true.mp dsX1_readPart_0_ok (78, (.goto 46, 3)) (List.mem_of_getElem? (i := 14) rfl))
theorem dX1_readPart_81 : decode cX1_readPart 81 = .ok (.aload_n 0, 1) := of_decide_eq_true (List.all_eq_true.mp dsX1_readPart_0_ok (81, (.aload_n 0, 1)) (List.mem_of_getElem? (i := 15) rfl))
theorem dX1_readPart_82 : decode cX1_readPart 82 = .ok (.invokevirtual 63, 3) := of_decide_eq_true (List.all_eq_true.mp dsX1_readPart_0_ok (82, (.invokevirtual 63, 3)) (List.mem_of_getElem? (i := 16) rfl))
theorem dX1_readPart_85 : decode cX1_readPart 85 = .ok (.aload_n 0, 1) := of_decide_eq_true (List.all_eq_true.mp dsX1_readPart_0_ok (85, (.aload_n 0, 1)) (List.mem_of_getElem? (i := 17) rfl))
theorem dX1_readPart_86 : decode cX1_readPart 86 = .ok (.invokevirtual 37, 3) := of_decide_eq_true (List.all_eq_true.mp dsX1_readPart_0_ok (86, (.invokevirtual 37, 3)) (List.mem_of_getElem? (i := 18) rfl))
theorem dX1_readPart_89 : decode cX1_readPart 89 = .ok (.aload_n 0, 1) := of_decide_eq_true (List.all_eq_true.mp dsX1_readPart_0_ok (89, (.aload_n 0, 1)) (List.mem_of_getElem? (i := 19) rfl))
theorem dX1_readPart_90 : decode cX1_readPart 90 = .ok (.getfield 21, 3) := of_decide_eq_true (List.all_eq_true.mp dsX1_readPart_0_ok (90, (.getfield 21, 3)) (List.mem_of_getElem? (i := 20) rfl))
theorem dX1_readPart_93 : decode cX1_readPart 93 = .ok (.bipush 41, 2) := of_decide_eq_true (List.all_eq_true.mp dsX1_readPart_0_ok (93, (.bipush 41, 2)) (List.mem_of_getElem? (i := 21) rfl))
theorem dX1_readPart_95 : decode cX1_readPart 95 = .ok (.invokevirtual 66, 3) := of_decide_eq_true (List.all_eq_true.mp dsX1_readPart_0_ok (95, (.invokevirtual 66, 3)) (List.mem_of_getElem? (i := 22) rfl))
theorem dX1_readPart_98 : decode cX1_readPart 98 = .ok (.aload_n 0, 1) := of_decide_eq_true (List.all_eq_true.mp dsX1_readPart_0_ok (98, (.aload_n 0, 1)) (List.mem_of_getElem? (i := 23) rfl))
theorem dX1_readPart_99 : decode cX1_readPart 99 = .ok (.dup, 1) := of_decide_eq_true (List.all_eq_true.mp dsX1_readPart_0_ok (99, (.dup, 1)) (List.mem_of_getElem? (i := 24) rfl))
theorem dX1_readPart_100 : decode cX1_readPart 100 = .ok (.getfield 15, 3) := of_decide_eq_true (List.all_eq_true.mp dsX1_readPart_0_ok (100, (.getfield 15, 3)) (List.mem_of_getElem? (i := 25) rfl))
theorem dX1_readPart_103 : decode cX1_readPart 103 = .ok (.iconst 1, 1) := of_decide_eq_true (List.all_eq_true.mp dsX1_readPart_0_ok (103, (.iconst 1, 1)) (List.mem_of_getElem? (i := 26) rfl))
theorem dX1_readPart_104 : decode cX1_readPart 104 = .ok (.isub, 1) := of_decide_eq_true (List.all_eq_true.mp dsX1_readPart_0_ok (104, (.isub, 1)) (List.mem_of_getElem? (i := 27) rfl))
theorem dX1_readPart_105 : decode cX1_readPart 105 = .ok (.putfield 15, 3) := of_decide_eq_true (List.all_eq_true.mp dsX1_readPart_0_ok (105, (.putfield 15, 3)) (List.mem_of_getElem? (i := 28) rfl))
theorem dX1_readPart_108 : decode cX1_readPart 108 = .ok (.goto 16, 3) := of_decide_eq_true (List.all_eq_true.mp dsX1_readPart_0_ok (108, (.goto 16, 3)) (List.mem_of_getElem? (i := 29) rfl))
theorem dX1_readPart_111 : decode cX1_readPart 111 = .ok (.aload_n 0, 1) := of_decide_eq_true (List.all_eq_true.mp dsX1_readPart_0_ok (111, (.aload_n 0, 1)) (List.mem_of_getElem? (i := 30) rfl))
theorem dX1_readPart_112 : decode cX1_readPart 112 = .ok (.iload_n 1, 1) := of_decide_eq_true (List.all_eq_true.mp dsX1_readPart_0_ok (112, (.iload_n 1, 1)) (List.mem_of_getElem? (i := 31) rfl))
theorem dX1_readPart_113 : decode cX1_readPart 113 = .ok (.invokevirtual 84, 3) := of_decide_eq_true (List.all_eq_true.mp dsX1_readPart_0_ok (113, (.invokevirtual 84, 3)) (List.mem_of_getElem? (i := 32) rfl))
theorem dX1_readPart_116 : decode cX1_readPart 116 = .ok (.goto 8, 3) := of_decide_eq_true (List.all_eq_true.mp dsX1_readPart_0_ok (116, (.goto 8, 3)) (List.mem_of_getElem? (i := 33) rfl))
theorem dX1_readPart_119 : decode cX1_readPart 119 = .ok (.aload_n 0, 1) := of_decide_eq_true (List.all_eq_true.mp dsX1_readPart_0_ok (119, (.aload_n 0, 1)) (List.mem_of_getElem? (i := 34) rfl))
theorem dX1_readPart_120 : decode cX1_readPart 120 = .ok (.iload_n 1, 1) := of_decide_eq_true (List.all_eq_true.mp dsX1_readPart_0_ok (120, (.iload_n 1, 1)) (List.mem_of_getElem? (i := 35) rfl))
theorem dX1_readPart_121 : decode cX1_readPart 121 = .ok (.invokevirtual 87, 3) := of_decide_eq_true (List.all_eq_true.mp dsX1_readPart_0_ok (121, (.invokevirtual 87, 3)) (List.mem_of_getElem? (i := 36) rfl))
theorem dX1_readPart_124 : decode cX1_readPart 124 = .ok (.return_, 1) := of_decide_eq_true (List.all_eq_true.mp dsX1_readPart_0_ok (124, (.return_, 1)) (List.mem_of_getElem? (i := 37) rfl))
def fX1_readPart (N : Nat) (text_kindsF : Nat → Int32) (text_startsF : Nat → Int32) (text_valuesF : Nat → Int32) (text_kindsN : Nat) (text_startsN : Nat) (text_valuesN : Nat) (fr_codeN : Nat) (k_readCall : (Nat → Int32) → (Nat → Int32) → (Nat → Int32) → Int32 → Option ((Nat → Int32) × (Nat → Int32) × (Nat → Int32))) (k_readSum : (Nat → Int32) → (Nat → Int32) → (Nat → Int32) → Option ((Nat → Int32) × (Nat → Int32) × (Nat → Int32))) (frI textI fr_codeF : Nat → Int32) : Option ((Nat → Int32) × (Nat → Int32) × (Nat → Int32)) :=
  (xq_bd (fX10_piece N textI text_kindsF text_kindsN) fun r_1 => (if r_1 = (-3) then (xq_bd (fX10_value N textI text_valuesF text_valuesN) fun r_3 => (xq_bd (fX1_emit N frI fr_codeF fr_codeN r_3) fun (r_5_0, r_5_1) => (xq_bd (fX10_next N textI) fun r_7 => some ((r_5_0, r_7, r_5_1))))) else (if r_1 = 40 then (xq_bd (fX1_enter N frI textI text_startsF text_startsN) fun (r_9_0, r_9_1) => (xq_bd (k_readSum r_9_0 r_9_1 fr_codeF) fun (r_11_0, r_11_1, r_11_2) => (xq_bd (fX10_take N r_11_1 text_kindsF text_startsF text_valuesF text_kindsN text_startsN text_valuesN 41) fun r_13 => some (((va_up r_11_0 3 ((r_11_0 3) - 1)), r_13, r_11_2))))) else (if r_1 = 317 then (xq_bd (k_readCall frI textI fr_codeF r_1) fun (r_15_0, r_15_1, r_15_2) => some ((r_15_0, r_15_1, r_15_2))) else (if r_1 = 322 then (xq_bd (k_readCall frI textI fr_codeF r_1) fun (r_17_0, r_17_1, r_17_2) => some ((r_17_0, r_17_1, r_17_2))) else (if r_1 = 323 then (xq_bd (k_readCall frI textI fr_codeF r_1) fun (r_19_0, r_19_1, r_19_2) => some ((r_19_0, r_19_1, r_19_2))) else (xq_bd (fX1_readVariable N frI textI text_kindsF text_startsF text_valuesF fr_codeF text_kindsN text_startsN text_valuesN fr_codeN r_1) fun (r_21_0, r_21_1, r_21_2) => some ((r_21_0, r_21_1, r_21_2)))))))))
set_option maxHeartbeats 4000000 in
set_option maxRecDepth 100000 in
theorem kX1_readPart (l : Launch) (dC : Nat → ClassId) (dI : Nat → Nat → Nat) (cI cB cJ cZ cM : ClassId) (z : Nat) (ad : Nat → Nat) (N : Nat) (a_p0 : Nat) (frR textR : Nat → Nat) (text_kindsF : Nat → Int32) (text_startsF : Nat → Int32) (text_valuesF : Nat → Int32) (text_kindsN : Nat) (text_startsN : Nat) (text_valuesN : Nat) (fr_codeN : Nat) {FM LM : Nat} (hFM : 2 ≤ FM) (hLM : 42 ≤ LM) (k_readCall : (Nat → Int32) → (Nat → Int32) → (Nat → Int32) → Int32 → Option ((Nat → Int32) × (Nat → Int32) × (Nat → Int32))) (k_readSum : (Nat → Int32) → (Nat → Int32) → (Nat → Int32) → Option ((Nat → Int32) × (Nat → Int32) × (Nat → Int32)))  {F_readCall L_readCall : Nat} (hF_readCall : F_readCall + 1 ≤ FM) (hL_readCall : 8 + (2 + 11) + L_readCall ≤ LM) (h_readCall : ∀ (x0 x1 x2 : Nat → Int32) (q1 : Int32) (y0 y1 y2 : Nat → Int32), k_readCall x0 x1 x2 q1 = some (y0, y1, y2) → xq_Ct l yX1_readCall wsX1_readCall { frames := F_readCall, cells := 0, slots := 0, locals := L_readCall } (dC, dI) vwCl (xq_tys cI cB cJ cZ cM) z ad [.ref a_p0, .int q1] [(a_p0, .inr (1, oX1 x0 frR)), ((frR 0), .inr (10, oX10 x1 textR)), ((textR 1), .inl (cI, text_kindsN, .inl text_kindsF)), ((textR 2), .inl (cI, text_startsN, .inl text_startsF)), ((textR 3), .inl (cI, text_valuesN, .inl text_valuesF)), ((frR 1), .inl (cI, fr_codeN, .inl x2))] [(a_p0, .inr (1, oX1 y0 frR)), ((frR 0), .inr (10, oX10 y1 textR)), ((textR 1), .inl (cI, text_kindsN, .inl text_kindsF)), ((textR 2), .inl (cI, text_startsN, .inl text_startsF)), ((textR 3), .inl (cI, text_valuesN, .inl text_valuesF)), ((frR 1), .inl (cI, fr_codeN, .inl y2))] none) {F_readSum L_readSum : Nat} (hF_readSum : F_readSum + 1 ≤ FM) (hL_readSum : 8 + (3 + 11) + L_readSum ≤ LM) (h_readSum : ∀ (x0 x1 x2 : Nat → Int32) (y0 y1 y2 : Nat → Int32), k_readSum x0 x1 x2 = some (y0, y1, y2) → xq_Ct l yX1_readSum wsX1_readSum { frames := F_readSum, cells := 0, slots := 0, locals := L_readSum } (dC, dI) vwCl (xq_tys cI cB cJ cZ cM) z ad [.ref a_p0] [(a_p0, .inr (1, oX1 x0 frR)), ((frR 0), .inr (10, oX10 x1 textR)), ((textR 1), .inl (cI, text_kindsN, .inl text_kindsF)), ((textR 2), .inl (cI, text_startsN, .inl text_startsF)), ((textR 3), .inl (cI, text_valuesN, .inl text_valuesF)), ((frR 1), .inl (cI, fr_codeN, .inl x2))] [(a_p0, .inr (1, oX1 y0 frR)), ((frR 0), .inr (10, oX10 y1 textR)), ((textR 1), .inl (cI, text_kindsN, .inl text_kindsF)), ((textR 2), .inl (cI, text_startsN, .inl text_startsF)), ((textR 3), .inl (cI, text_valuesN, .inl text_valuesF)), ((frR 1), .inl (cI, fr_codeN, .inl y2))] none) (frI textI fr_codeF : Nat → Int32) {r0 r1 r2 : Nat → Int32} (hf : fX1_readPart N text_kindsF text_startsF text_valuesF text_kindsN text_startsN text_valuesN fr_codeN k_readCall k_readSum frI textI fr_codeF = some (r0, r1, r2)) : xq_Ct l yX1_readPart wsX1_readPart { frames := FM, cells := 0, slots := 0, locals := LM } (dC, dI) vwCl (xq_tys cI cB cJ cZ cM) z ad [.ref a_p0] [(a_p0, .inr (1, oX1 frI frR)), ((frR 0), .inr (10, oX10 textI textR)), ((textR 1), .inl (cI, text_kindsN, .inl text_kindsF)), ((textR 2), .inl (cI, text_startsN, .inl text_startsF)), ((textR 3), .inl (cI, text_valuesN, .inl text_valuesF)), ((frR 1), .inl (cI, fr_codeN, .inl fr_codeF))] [(a_p0, .inr (1, oX1 r0 frR)), ((frR 0), .inr (10, oX10 r1 textR)), ((textR 1), .inl (cI, text_kindsN, .inl text_kindsF)), ((textR 2), .inl (cI, text_startsN, .inl text_startsF)), ((textR 3), .inl (cI, text_valuesN, .inl text_valuesF)), ((frR 1), .inl (cI, fr_codeN, .inl r2))] none := by
  intro sz
  refine Met.ofW (cc := cX1_readPart) (maxL := 2) (ret := none) (by decide) rfl ?_
  intro p e s m args below meth c s₁ B hml hv
  obtain ⟨rfl, hsz, hP, hK, hD0, hE, hz⟩ := hv
  have hx := B.exec
  have hb := B.bytes
  have hr := B.returns
  have hts := atoms_spec (ws := wsX1_readPart) B.pre
  have hown : s.vm.findClass RX1 = some m.cls := findClass_of_methodNamed B.named
  have hlocks := B.notSynchronized
  subst hsz
  have hD := hD0.self (sz := s.heap.size)
  have hN := xq_Env.of hE hz hD0
  generalize hAe : va_A [(a_p0, .inr (1, oX1 frI frR)), ((frR 0), .inr (10, oX10 textI textR)), ((textR 1), .inl (cI, text_kindsN, .inl text_kindsF)), ((textR 2), .inl (cI, text_startsN, .inl text_startsF)), ((textR 3), .inl (cI, text_valuesN, .inl text_valuesF)), ((frR 1), .inl (cI, fr_codeN, .inl fr_codeF))] s.heap.size = A at hD hN ⊢
  have hA : ∀ q : Nat, s.heap.size ≤ q → A q := fun q h => by rw [← hAe]; exact Or.inr h
  clear hAe hD0
  have hS : va_S A s.heap s.heap [] := va_S.rf
  have hl := lv_entry ([.ref a_p0]) (n := 2) (Nat.le_of_ble_eq_true rfl)
  rw [lg_entry_eq]
  generalize (lg_sl ([.ref a_p0]) ++ List.replicate (2 - (lg_sl ([.ref a_p0])).length) Slot.unset).toArray = ls at hl ⊢
  have hl : lv_has ls 2 [(0, .ref a_p0)] := hl
  have hw0 := hts (.fieldLink RX1 21 "DistantVoice$FormulaReader" "text" "LDistantVoice$Text;") (by decide +kernel)
  have hinX1 : ∀ w ∈ wsX10, w ∈ wsX1_readPart := fun w h => List.mem_cons_of_mem _ (List.mem_append_left _ (List.mem_append_right _ h))
  have hw2 := hts (.fieldLink RX1 15 "DistantVoice$FormulaReader" "open" "I") (by decide +kernel)
  unfold fX1_readPart at hf
  refine lv_aload_n hx hb dX1_readPart_0 rfl (lv_at hl 0 rfl) ?_
  refine va_get (D := (dC, dI)) (ci := 1) (v := .ref ((frR 0))) (C := RX1) (T := TX1) (N := 5) hx hb hts hinX1 hown hK hP 0 rfl rfl 0 (by decide) hw0 (fun _ h9 => h9) rfl dX1_readPart_1 ?_
  obtain ⟨r_1, h_2, hf⟩ := xq_bd_some hf
  refine xq_callV (As := []) (rest := []) (ci := 10) (q0 := 1) ⟨hx, hb, hml, hown, hts⟩ (kX10_piece l dC dI cI cB cJ cZ cM z ad N ((frR 0)) textI textR text_kindsF text_kindsN h_2) (cwV 0 hts gX1_readPart_X10_piece rfl rfl rfl (by decide +kernel) ⟨Nat.le_trans (Nat.le_of_ble_eq_true rfl) hFM, Nat.le_trans (Nat.le_of_ble_eq_true rfl) hLM⟩) hN hK hP hD hS hA [1, 2] (by decide) rfl rfl rfl rfl rfl rfl hl.1 rfl (Nat.le_of_ble_eq_true rfl) dX1_readPart_4 ⟨Nat.zero_le _, Nat.zero_le _⟩ (fun H locs hP hD hS => ?_)
  have hP : va_P (dC, dI) vwCl [(a_p0, .inr (1, oX1 frI frR)), ((frR 0), .inr (10, oX10 textI textR)), ((textR 1), .inl (cI, text_kindsN, .inl text_kindsF)), ((textR 2), .inl (cI, text_startsN, .inl text_startsF)), ((textR 3), .inl (cI, text_valuesN, .inl text_valuesF)), ((frR 1), .inl (cI, fr_codeN, .inl fr_codeF))] H := hP
  have hD : va_D A [(a_p0, .inr (1, oX1 frI frR)), ((frR 0), .inr (10, oX10 textI textR)), ((textR 1), .inl (cI, text_kindsN, .inl text_kindsF)), ((textR 2), .inl (cI, text_startsN, .inl text_startsF)), ((textR 3), .inl (cI, text_valuesN, .inl text_valuesF)), ((frR 1), .inl (cI, fr_codeN, .inl fr_codeF))] := hD
  refine W.eq (g2 := F0 m 7 ls [.int r_1]) rfl ?_
  refine lv_istore_n (lv' := [(1, .int r_1), (0, .ref a_p0)]) hx hb dX1_readPart_7 rfl hl (by decide) rfl (fun ls hl => ?_)
  refine lv_iload_n hx hb dX1_readPart_8 rfl (lv_at hl 0 rfl) ?_
  by_cases c0 : r_1 = (-3)
  · have hf := xq_pos hf c0
    refine lv_lookup (tgt := 60) hx hb dX1_readPart_9 (by decide) (off := 51) (by rw [c0]; decide) (by decide) ?_
    refine lv_aload_n hx hb dX1_readPart_60 rfl (lv_at hl 1 rfl) ?_
    refine lv_aload_n hx hb dX1_readPart_61 rfl (lv_at hl 1 rfl) ?_
    refine va_get (D := (dC, dI)) (ci := 1) (v := .ref ((frR 0))) (C := RX1) (T := TX1) (N := 5) hx hb hts hinX1 hown hK hP 0 rfl rfl 0 (by decide) hw0 (fun _ h9 => h9) rfl dX1_readPart_62 ?_
    obtain ⟨r_3, h_4, hf⟩ := xq_bd_some hf
    refine xq_callV (As := []) (rest := [.ref a_p0]) (ci := 10) (q0 := 1) ⟨hx, hb, hml, hown, hts⟩ (kX10_value l dC dI cI cB cJ cZ cM z ad N ((frR 0)) textI textR text_valuesF text_valuesN h_4) (cwV 0 hts gX1_readPart_X10_value rfl rfl rfl (by decide +kernel) ⟨Nat.le_trans (Nat.le_of_ble_eq_true rfl) hFM, Nat.le_trans (Nat.le_of_ble_eq_true rfl) hLM⟩) hN hK hP hD hS hA [1, 4] (by decide) rfl rfl rfl rfl rfl rfl hl.1 rfl (Nat.le_of_ble_eq_true rfl) dX1_readPart_65 ⟨Nat.zero_le _, Nat.zero_le _⟩ (fun H locs hP hD hS => ?_)
    have hP : va_P (dC, dI) vwCl [(a_p0, .inr (1, oX1 frI frR)), ((frR 0), .inr (10, oX10 textI textR)), ((textR 1), .inl (cI, text_kindsN, .inl text_kindsF)), ((textR 2), .inl (cI, text_startsN, .inl text_startsF)), ((textR 3), .inl (cI, text_valuesN, .inl text_valuesF)), ((frR 1), .inl (cI, fr_codeN, .inl fr_codeF))] H := hP
    have hD : va_D A [(a_p0, .inr (1, oX1 frI frR)), ((frR 0), .inr (10, oX10 textI textR)), ((textR 1), .inl (cI, text_kindsN, .inl text_kindsF)), ((textR 2), .inl (cI, text_startsN, .inl text_startsF)), ((textR 3), .inl (cI, text_valuesN, .inl text_valuesF)), ((frR 1), .inl (cI, fr_codeN, .inl fr_codeF))] := hD
    refine W.eq (g2 := F0 m 68 ls [.int r_3, .ref a_p0]) rfl ?_
    obtain ⟨⟨r_5_0, r_5_1⟩, h_6, hf⟩ := xq_bd_some hf
    refine xq_callV (As := [.int r_3]) (rest := []) (ci := 1) (q0 := 0) ⟨hx, hb, hml, hown, hts⟩ (kX1_emit l dC dI cI cB cJ cZ cM z ad N a_p0 frI frR fr_codeF fr_codeN r_3 h_6) (cwV 1 hts gX1_readPart_X1_emit rfl rfl rfl (by decide +kernel) ⟨Nat.le_trans (Nat.le_of_ble_eq_true rfl) hFM, Nat.le_trans (Nat.le_of_ble_eq_true rfl) hLM⟩) hN hK hP hD hS hA [0, 5] (by decide) rfl rfl rfl rfl rfl rfl hl.1 rfl (Nat.le_of_ble_eq_true rfl) dX1_readPart_68 ⟨Nat.zero_le _, Nat.zero_le _⟩ (fun H locs hP hD hS => ?_)
    have hP : va_P (dC, dI) vwCl [(a_p0, .inr (1, oX1 r_5_0 frR)), ((frR 0), .inr (10, oX10 textI textR)), ((textR 1), .inl (cI, text_kindsN, .inl text_kindsF)), ((textR 2), .inl (cI, text_startsN, .inl text_startsF)), ((textR 3), .inl (cI, text_valuesN, .inl text_valuesF)), ((frR 1), .inl (cI, fr_codeN, .inl r_5_1))] H := hP
    have hD : va_D A [(a_p0, .inr (1, oX1 r_5_0 frR)), ((frR 0), .inr (10, oX10 textI textR)), ((textR 1), .inl (cI, text_kindsN, .inl text_kindsF)), ((textR 2), .inl (cI, text_startsN, .inl text_startsF)), ((textR 3), .inl (cI, text_valuesN, .inl text_valuesF)), ((frR 1), .inl (cI, fr_codeN, .inl r_5_1))] := hD
    refine W.eq (g2 := F0 m 71 ls []) rfl ?_
    refine lv_aload_n hx hb dX1_readPart_71 rfl (lv_at hl 1 rfl) ?_
    refine va_get (D := (dC, dI)) (ci := 1) (v := .ref ((frR 0))) (C := RX1) (T := TX1) (N := 5) hx hb hts hinX1 hown hK hP 0 rfl rfl 0 (by decide) hw0 (fun _ h9 => h9) rfl dX1_readPart_72 ?_
    obtain ⟨r_7, h_8, hf⟩ := xq_bd_some hf
    refine xq_callV (As := []) (rest := []) (ci := 10) (q0 := 1) ⟨hx, hb, hml, hown, hts⟩ (kX10_next l dC dI cI cB cJ cZ cM z ad N ((frR 0)) textI textR h_8) (cwV 0 hts gX1_readPart_X10_next rfl rfl rfl (by decide +kernel) ⟨Nat.le_trans (Nat.le_of_ble_eq_true rfl) hFM, Nat.le_trans (Nat.le_of_ble_eq_true rfl) hLM⟩) hN hK hP hD hS hA [1] (by decide) rfl rfl rfl rfl rfl rfl hl.1 rfl (Nat.le_of_ble_eq_true rfl) dX1_readPart_75 ⟨Nat.zero_le _, Nat.zero_le _⟩ (fun H locs hP hD hS => ?_)
    have hP : va_P (dC, dI) vwCl [(a_p0, .inr (1, oX1 r_5_0 frR)), ((frR 0), .inr (10, oX10 r_7 textR)), ((textR 1), .inl (cI, text_kindsN, .inl text_kindsF)), ((textR 2), .inl (cI, text_startsN, .inl text_startsF)), ((textR 3), .inl (cI, text_valuesN, .inl text_valuesF)), ((frR 1), .inl (cI, fr_codeN, .inl r_5_1))] H := hP
    have hD : va_D A [(a_p0, .inr (1, oX1 r_5_0 frR)), ((frR 0), .inr (10, oX10 r_7 textR)), ((textR 1), .inl (cI, text_kindsN, .inl text_kindsF)), ((textR 2), .inl (cI, text_startsN, .inl text_startsF)), ((textR 3), .inl (cI, text_valuesN, .inl text_valuesF)), ((frR 1), .inl (cI, fr_codeN, .inl r_5_1))] := hD
    refine W.eq (g2 := F0 m 78 ls []) rfl ?_
    refine lv_goto (tgt := 124) hx hb dX1_readPart_78 (by decide) ?_
    cases hf
    exact xq_vret hx hb hr hlocks hK hP hD hS dX1_readPart_124
  · have hf := xq_neg hf c0
    by_cases c1 : r_1 = 40
    · have hf := xq_pos hf c1
      refine lv_lookup (tgt := 81) hx hb dX1_readPart_9 (by decide) (off := 72) (by rw [c1]; decide) (by decide) ?_
      refine lv_aload_n hx hb dX1_readPart_81 rfl (lv_at hl 1 rfl) ?_
      obtain ⟨⟨r_9_0, r_9_1⟩, h_10, hf⟩ := xq_bd_some hf
      refine xq_callV (As := []) (rest := []) (ci := 1) (q0 := 0) ⟨hx, hb, hml, hown, hts⟩ (kX1_enter l dC dI cI cB cJ cZ cM z ad N a_p0 frI frR textI textR text_startsF text_startsN h_10) (cwV 0 hts gX1_readPart_X1_enter rfl rfl rfl (by decide +kernel) ⟨Nat.le_trans (Nat.le_of_ble_eq_true rfl) hFM, Nat.le_trans (Nat.le_of_ble_eq_true rfl) hLM⟩) hN hK hP hD hS hA [0, 1, 3] (by decide) rfl rfl rfl rfl rfl rfl hl.1 rfl (Nat.le_of_ble_eq_true rfl) dX1_readPart_82 ⟨Nat.zero_le _, Nat.zero_le _⟩ (fun H locs hP hD hS => ?_)
      have hP : va_P (dC, dI) vwCl [(a_p0, .inr (1, oX1 r_9_0 frR)), ((frR 0), .inr (10, oX10 r_9_1 textR)), ((textR 1), .inl (cI, text_kindsN, .inl text_kindsF)), ((textR 2), .inl (cI, text_startsN, .inl text_startsF)), ((textR 3), .inl (cI, text_valuesN, .inl text_valuesF)), ((frR 1), .inl (cI, fr_codeN, .inl fr_codeF))] H := hP
      have hD : va_D A [(a_p0, .inr (1, oX1 r_9_0 frR)), ((frR 0), .inr (10, oX10 r_9_1 textR)), ((textR 1), .inl (cI, text_kindsN, .inl text_kindsF)), ((textR 2), .inl (cI, text_startsN, .inl text_startsF)), ((textR 3), .inl (cI, text_valuesN, .inl text_valuesF)), ((frR 1), .inl (cI, fr_codeN, .inl fr_codeF))] := hD
      refine W.eq (g2 := F0 m 85 ls []) rfl ?_
      refine lv_aload_n hx hb dX1_readPart_85 rfl (lv_at hl 1 rfl) ?_
      obtain ⟨⟨r_11_0, r_11_1, r_11_2⟩, h_12, hf⟩ := xq_bd_some hf
      refine xq_callV (As := []) (rest := []) (ci := 1) (q0 := 0) ⟨hx, hb, hml, hown, hts⟩ (h_readSum r_9_0 r_9_1 fr_codeF _ _ _ h_12) (cwV 0 hts gX1_readPart_X1_readSum rfl rfl rfl (by decide +kernel) ⟨hF_readSum, hL_readSum⟩) hN hK hP hD hS hA [0, 1, 2, 3, 4, 5] (by decide) rfl rfl rfl rfl rfl rfl hl.1 rfl (Nat.le_of_ble_eq_true rfl) dX1_readPart_86 ⟨Nat.zero_le _, Nat.zero_le _⟩ (fun H locs hP hD hS => ?_)
      have hP : va_P (dC, dI) vwCl [(a_p0, .inr (1, oX1 r_11_0 frR)), ((frR 0), .inr (10, oX10 r_11_1 textR)), ((textR 1), .inl (cI, text_kindsN, .inl text_kindsF)), ((textR 2), .inl (cI, text_startsN, .inl text_startsF)), ((textR 3), .inl (cI, text_valuesN, .inl text_valuesF)), ((frR 1), .inl (cI, fr_codeN, .inl r_11_2))] H := hP
      have hD : va_D A [(a_p0, .inr (1, oX1 r_11_0 frR)), ((frR 0), .inr (10, oX10 r_11_1 textR)), ((textR 1), .inl (cI, text_kindsN, .inl text_kindsF)), ((textR 2), .inl (cI, text_startsN, .inl text_startsF)), ((textR 3), .inl (cI, text_valuesN, .inl text_valuesF)), ((frR 1), .inl (cI, fr_codeN, .inl r_11_2))] := hD
      refine W.eq (g2 := F0 m 89 ls []) rfl ?_
      refine lv_aload_n hx hb dX1_readPart_89 rfl (lv_at hl 1 rfl) ?_
      refine va_get (D := (dC, dI)) (ci := 1) (v := .ref ((frR 0))) (C := RX1) (T := TX1) (N := 5) hx hb hts hinX1 hown hK hP 0 rfl rfl 0 (by decide) hw0 (fun _ h9 => h9) rfl dX1_readPart_90 ?_
      refine lv_bipush (v := 41) hx hb dX1_readPart_93 (by decide) ?_
      obtain ⟨r_13, h_14, hf⟩ := xq_bd_some hf
      refine xq_callV (As := [.int 41]) (rest := []) (ci := 10) (q0 := 1) ⟨hx, hb, hml, hown, hts⟩ (kX10_take l dC dI cI cB cJ cZ cM z ad N ((frR 0)) r_11_1 textR text_kindsF text_kindsN text_startsF text_startsN text_valuesF text_valuesN 41 h_14) (cwV 1 hts gX1_readPart_X10_take rfl rfl rfl (by decide +kernel) ⟨Nat.le_trans (Nat.le_of_ble_eq_true rfl) hFM, Nat.le_trans (Nat.le_of_ble_eq_true rfl) hLM⟩) hN hK hP hD hS hA [1, 2, 3, 4] (by decide) rfl rfl rfl rfl rfl rfl hl.1 rfl (Nat.le_of_ble_eq_true rfl) dX1_readPart_95 ⟨Nat.zero_le _, Nat.zero_le _⟩ (fun H locs hP hD hS => ?_)
      have hP : va_P (dC, dI) vwCl [(a_p0, .inr (1, oX1 r_11_0 frR)), ((frR 0), .inr (10, oX10 r_13 textR)), ((textR 1), .inl (cI, text_kindsN, .inl text_kindsF)), ((textR 2), .inl (cI, text_startsN, .inl text_startsF)), ((textR 3), .inl (cI, text_valuesN, .inl text_valuesF)), ((frR 1), .inl (cI, fr_codeN, .inl r_11_2))] H := hP
      have hD : va_D A [(a_p0, .inr (1, oX1 r_11_0 frR)), ((frR 0), .inr (10, oX10 r_13 textR)), ((textR 1), .inl (cI, text_kindsN, .inl text_kindsF)), ((textR 2), .inl (cI, text_startsN, .inl text_startsF)), ((textR 3), .inl (cI, text_valuesN, .inl text_valuesF)), ((frR 1), .inl (cI, fr_codeN, .inl r_11_2))] := hD
      refine W.eq (g2 := F0 m 98 ls []) rfl ?_
      refine lv_aload_n hx hb dX1_readPart_98 rfl (lv_at hl 1 rfl) ?_
      refine lv_dup hx hb dX1_readPart_99 rfl ?_
      refine va_get (D := (dC, dI)) (ci := 1) (v := .int (r_11_0 3)) (C := RX1) (T := TX1) (N := 5) hx hb hts hinX1 hown hK hP 0 rfl rfl 3 (by decide) hw2 (fun _ h9 => h9) rfl dX1_readPart_100 ?_
      refine lv_iconst (v := 1) hx hb dX1_readPart_103 (by decide) ?_
      refine lv_isub hx hb dX1_readPart_104 ?_
      refine va_put (D := (dC, dI)) (ci := 1) (v := .int ((r_11_0 3) - 1)) (ty := .int) (C := RX1) (T := TX1) (N := 5) hx hb hts hinX1 tyX1 tyX1_ok nmX1 hown hK hP hD hS 0 rfl rfl 3 (by decide) hw2 (fun _ h9 => h9) rfl (by decide +kernel) rfl rfl (Nat.le_of_ble_eq_true rfl) dX1_readPart_105 (fun H locs hP hD hS => ?_)
      have hP : va_P (dC, dI) vwCl [(a_p0, .inr (1, oX1 (va_up r_11_0 3 ((r_11_0 3) - 1)) frR)), ((frR 0), .inr (10, oX10 r_13 textR)), ((textR 1), .inl (cI, text_kindsN, .inl text_kindsF)), ((textR 2), .inl (cI, text_startsN, .inl text_startsF)), ((textR 3), .inl (cI, text_valuesN, .inl text_valuesF)), ((frR 1), .inl (cI, fr_codeN, .inl r_11_2))] H := hP
      have hD : va_D A [(a_p0, .inr (1, oX1 (va_up r_11_0 3 ((r_11_0 3) - 1)) frR)), ((frR 0), .inr (10, oX10 r_13 textR)), ((textR 1), .inl (cI, text_kindsN, .inl text_kindsF)), ((textR 2), .inl (cI, text_startsN, .inl text_startsF)), ((textR 3), .inl (cI, text_valuesN, .inl text_valuesF)), ((frR 1), .inl (cI, fr_codeN, .inl r_11_2))] := hD
      refine lv_goto (tgt := 124) hx hb dX1_readPart_108 (by decide) ?_
      cases hf
      exact xq_vret hx hb hr hlocks hK hP hD hS dX1_readPart_124
    · have hf := xq_neg hf c1
      by_cases c2 : r_1 = 317
      · have hf := xq_pos hf c2
        refine lv_lookup (tgt := 111) hx hb dX1_readPart_9 (by decide) (off := 102) (by rw [c2]; decide) (by decide) ?_
        refine lv_aload_n hx hb dX1_readPart_111 rfl (lv_at hl 1 rfl) ?_
        refine lv_iload_n hx hb dX1_readPart_112 rfl (lv_at hl 0 rfl) ?_
        obtain ⟨⟨r_15_0, r_15_1, r_15_2⟩, h_16, hf⟩ := xq_bd_some hf
        refine xq_callV (As := [.int r_1]) (rest := []) (ci := 1) (q0 := 0) ⟨hx, hb, hml, hown, hts⟩ (h_readCall frI textI fr_codeF r_1 _ _ _ h_16) (cwV 1 hts gX1_readPart_X1_readCall rfl rfl rfl (by decide +kernel) ⟨hF_readCall, hL_readCall⟩) hN hK hP hD hS hA [0, 1, 2, 3, 4, 5] (by decide) rfl rfl rfl rfl rfl rfl hl.1 rfl (Nat.le_of_ble_eq_true rfl) dX1_readPart_113 ⟨Nat.zero_le _, Nat.zero_le _⟩ (fun H locs hP hD hS => ?_)
        have hP : va_P (dC, dI) vwCl [(a_p0, .inr (1, oX1 r_15_0 frR)), ((frR 0), .inr (10, oX10 r_15_1 textR)), ((textR 1), .inl (cI, text_kindsN, .inl text_kindsF)), ((textR 2), .inl (cI, text_startsN, .inl text_startsF)), ((textR 3), .inl (cI, text_valuesN, .inl text_valuesF)), ((frR 1), .inl (cI, fr_codeN, .inl r_15_2))] H := hP
        have hD : va_D A [(a_p0, .inr (1, oX1 r_15_0 frR)), ((frR 0), .inr (10, oX10 r_15_1 textR)), ((textR 1), .inl (cI, text_kindsN, .inl text_kindsF)), ((textR 2), .inl (cI, text_startsN, .inl text_startsF)), ((textR 3), .inl (cI, text_valuesN, .inl text_valuesF)), ((frR 1), .inl (cI, fr_codeN, .inl r_15_2))] := hD
        refine W.eq (g2 := F0 m 116 ls []) rfl ?_
        refine lv_goto (tgt := 124) hx hb dX1_readPart_116 (by decide) ?_
        cases hf
        exact xq_vret hx hb hr hlocks hK hP hD hS dX1_readPart_124
      · have hf := xq_neg hf c2
        by_cases c3 : r_1 = 322
        · have hf := xq_pos hf c3
          refine lv_lookup (tgt := 111) hx hb dX1_readPart_9 (by decide) (off := 102) (by rw [c3]; decide) (by decide) ?_
          refine lv_aload_n hx hb dX1_readPart_111 rfl (lv_at hl 1 rfl) ?_
          refine lv_iload_n hx hb dX1_readPart_112 rfl (lv_at hl 0 rfl) ?_
          obtain ⟨⟨r_17_0, r_17_1, r_17_2⟩, h_18, hf⟩ := xq_bd_some hf
          refine xq_callV (As := [.int r_1]) (rest := []) (ci := 1) (q0 := 0) ⟨hx, hb, hml, hown, hts⟩ (h_readCall frI textI fr_codeF r_1 _ _ _ h_18) (cwV 1 hts gX1_readPart_X1_readCall rfl rfl rfl (by decide +kernel) ⟨hF_readCall, hL_readCall⟩) hN hK hP hD hS hA [0, 1, 2, 3, 4, 5] (by decide) rfl rfl rfl rfl rfl rfl hl.1 rfl (Nat.le_of_ble_eq_true rfl) dX1_readPart_113 ⟨Nat.zero_le _, Nat.zero_le _⟩ (fun H locs hP hD hS => ?_)
          have hP : va_P (dC, dI) vwCl [(a_p0, .inr (1, oX1 r_17_0 frR)), ((frR 0), .inr (10, oX10 r_17_1 textR)), ((textR 1), .inl (cI, text_kindsN, .inl text_kindsF)), ((textR 2), .inl (cI, text_startsN, .inl text_startsF)), ((textR 3), .inl (cI, text_valuesN, .inl text_valuesF)), ((frR 1), .inl (cI, fr_codeN, .inl r_17_2))] H := hP
          have hD : va_D A [(a_p0, .inr (1, oX1 r_17_0 frR)), ((frR 0), .inr (10, oX10 r_17_1 textR)), ((textR 1), .inl (cI, text_kindsN, .inl text_kindsF)), ((textR 2), .inl (cI, text_startsN, .inl text_startsF)), ((textR 3), .inl (cI, text_valuesN, .inl text_valuesF)), ((frR 1), .inl (cI, fr_codeN, .inl r_17_2))] := hD
          refine W.eq (g2 := F0 m 116 ls []) rfl ?_
          refine lv_goto (tgt := 124) hx hb dX1_readPart_116 (by decide) ?_
          cases hf
          exact xq_vret hx hb hr hlocks hK hP hD hS dX1_readPart_124
        · have hf := xq_neg hf c3
          by_cases c4 : r_1 = 323
          · have hf := xq_pos hf c4
            refine lv_lookup (tgt := 111) hx hb dX1_readPart_9 (by decide) (off := 102) (by rw [c4]; decide) (by decide) ?_
            refine lv_aload_n hx hb dX1_readPart_111 rfl (lv_at hl 1 rfl) ?_
            refine lv_iload_n hx hb dX1_readPart_112 rfl (lv_at hl 0 rfl) ?_
            obtain ⟨⟨r_19_0, r_19_1, r_19_2⟩, h_20, hf⟩ := xq_bd_some hf
            refine xq_callV (As := [.int r_1]) (rest := []) (ci := 1) (q0 := 0) ⟨hx, hb, hml, hown, hts⟩ (h_readCall frI textI fr_codeF r_1 _ _ _ h_20) (cwV 1 hts gX1_readPart_X1_readCall rfl rfl rfl (by decide +kernel) ⟨hF_readCall, hL_readCall⟩) hN hK hP hD hS hA [0, 1, 2, 3, 4, 5] (by decide) rfl rfl rfl rfl rfl rfl hl.1 rfl (Nat.le_of_ble_eq_true rfl) dX1_readPart_113 ⟨Nat.zero_le _, Nat.zero_le _⟩ (fun H locs hP hD hS => ?_)
            have hP : va_P (dC, dI) vwCl [(a_p0, .inr (1, oX1 r_19_0 frR)), ((frR 0), .inr (10, oX10 r_19_1 textR)), ((textR 1), .inl (cI, text_kindsN, .inl text_kindsF)), ((textR 2), .inl (cI, text_startsN, .inl text_startsF)), ((textR 3), .inl (cI, text_valuesN, .inl text_valuesF)), ((frR 1), .inl (cI, fr_codeN, .inl r_19_2))] H := hP
            have hD : va_D A [(a_p0, .inr (1, oX1 r_19_0 frR)), ((frR 0), .inr (10, oX10 r_19_1 textR)), ((textR 1), .inl (cI, text_kindsN, .inl text_kindsF)), ((textR 2), .inl (cI, text_startsN, .inl text_startsF)), ((textR 3), .inl (cI, text_valuesN, .inl text_valuesF)), ((frR 1), .inl (cI, fr_codeN, .inl r_19_2))] := hD
            refine W.eq (g2 := F0 m 116 ls []) rfl ?_
            refine lv_goto (tgt := 124) hx hb dX1_readPart_116 (by decide) ?_
            cases hf
            exact xq_vret hx hb hr hlocks hK hP hD hS dX1_readPart_124
          · have hf := xq_neg hf c4
            refine lv_lookup (tgt := 119) hx hb dX1_readPart_9 (by decide) (off := 110) (by refine (lv_osw c0 (by decide)).trans ?_; refine (lv_osw c1 (by decide)).trans ?_; refine (lv_osw c2 (by decide)).trans ?_; refine (lv_osw c3 (by decide)).trans ?_; refine (lv_osw c4 (by decide)).trans ?_; rfl) (by decide) ?_
            refine lv_aload_n hx hb dX1_readPart_119 rfl (lv_at hl 1 rfl) ?_
            refine lv_iload_n hx hb dX1_readPart_120 rfl (lv_at hl 0 rfl) ?_
            obtain ⟨⟨r_21_0, r_21_1, r_21_2⟩, h_22, hf⟩ := xq_bd_some hf
            refine xq_callV (As := [.int r_1]) (rest := []) (ci := 1) (q0 := 0) ⟨hx, hb, hml, hown, hts⟩ (kX1_readVariable l dC dI cI cB cJ cZ cM z ad N a_p0 frI frR textI textR text_kindsF text_kindsN text_startsF text_startsN text_valuesF text_valuesN fr_codeF fr_codeN r_1 h_22) (cwV 1 hts gX1_readPart_X1_readVariable rfl rfl rfl (by decide +kernel) ⟨Nat.le_trans (Nat.le_of_ble_eq_true rfl) hFM, Nat.le_trans (Nat.le_of_ble_eq_true rfl) hLM⟩) hN hK hP hD hS hA [0, 1, 2, 3, 4, 5] (by decide) rfl rfl rfl rfl rfl rfl hl.1 rfl (Nat.le_of_ble_eq_true rfl) dX1_readPart_121 ⟨Nat.zero_le _, Nat.zero_le _⟩ (fun H locs hP hD hS => ?_)
            have hP : va_P (dC, dI) vwCl [(a_p0, .inr (1, oX1 r_21_0 frR)), ((frR 0), .inr (10, oX10 r_21_1 textR)), ((textR 1), .inl (cI, text_kindsN, .inl text_kindsF)), ((textR 2), .inl (cI, text_startsN, .inl text_startsF)), ((textR 3), .inl (cI, text_valuesN, .inl text_valuesF)), ((frR 1), .inl (cI, fr_codeN, .inl r_21_2))] H := hP
            have hD : va_D A [(a_p0, .inr (1, oX1 r_21_0 frR)), ((frR 0), .inr (10, oX10 r_21_1 textR)), ((textR 1), .inl (cI, text_kindsN, .inl text_kindsF)), ((textR 2), .inl (cI, text_startsN, .inl text_startsF)), ((textR 3), .inl (cI, text_valuesN, .inl text_valuesF)), ((frR 1), .inl (cI, fr_codeN, .inl r_21_2))] := hD
            refine W.eq (g2 := F0 m 124 ls []) rfl ?_
            cases hf
            exact xq_vret hx hb hr hlocks hK hP hD hS dX1_readPart_124
set_option maxRecDepth 20000 in
theorem ggX1_readProduct_X1_readPart : GoodIn wsX1_readProduct wsX1_readPart := goodIn_r _ [64, 1, 30, 6, 7, 8, 9, 10, 11, 12, 13, 14, 65, 66, 67, 68, 35, 19, 20, 21, 5, 22, 23, 24, 15, 16, 17, 18, 38, 39, 40, 41, 42, 43, 44, 45, 36, 37, 56, 57, 58, 49, 50, 51, 52, 53, 54, 55, 32, 33, 34, 69, 70, 71, 72, 73, 74, 75, 76, 77, 78, 79, 80, 31, 25, 26, 27, 28, 29, 46, 47, 48, 59, 60, 61, 62, 63, 0, 2, 3, 4, 81, 82, 83, 84, 85, 86, 87, 88, 89, 90, 91, 92, 93, 94, 95, 96, 97, 98, 99, 100, 101] rfl (by decide +kernel)
set_option maxRecDepth 20000 in
theorem gX1_readProduct_X1_readPart : GoodIn wsX1_readProduct (wsV RX1 78 RX1 yX1_readPart wsX1_readPart) := goodIn_app (goodIn_of _ (by decide +kernel)) ggX1_readProduct_X1_readPart
set_option maxRecDepth 20000 in
theorem ggX1_readProduct_X10_piece : GoodIn wsX1_readProduct wsX10_piece := goodIn_r _ [10, 11, 12, 13, 14, 94, 95, 96, 97, 98, 99, 100, 101] rfl (by decide +kernel)
set_option maxRecDepth 20000 in
theorem gX1_readProduct_X10_piece : GoodIn wsX1_readProduct (wsV RX1 49 RX10 yX10_piece wsX10_piece) := goodIn_app (goodIn_of _ (by decide +kernel)) ggX1_readProduct_X10_piece
set_option maxRecDepth 20000 in
theorem ggX1_readProduct_X10_next : GoodIn wsX1_readProduct wsX10_next := goodIn_r _ [18, 12, 13, 94, 95, 96, 97, 98, 99, 100, 101] rfl (by decide +kernel)
set_option maxRecDepth 20000 in
theorem gX1_readProduct_X10_next : GoodIn wsX1_readProduct (wsV RX1 53 RX10 yX10_next wsX10_next) := goodIn_app (goodIn_of _ (by decide +kernel)) ggX1_readProduct_X10_next
set_option maxRecDepth 20000 in
theorem ggX1_readProduct_X1_emit : GoodIn wsX1_readProduct wsX1_emit := goodIn_r _ [22, 23, 24, 89, 90, 91, 92, 93] rfl (by decide +kernel)
set_option maxRecDepth 20000 in
theorem gX1_readProduct_X1_emit : GoodIn wsX1_readProduct (wsV RX1 56 RX1 yX1_emit wsX1_emit) := goodIn_app (goodIn_of _ (by decide +kernel)) ggX1_readProduct_X1_emit
def dsX1_readProduct_0 : List (Nat × Instr × Nat) := [(0, (.aload_n 0, 1)), (1, (.invokevirtual 78, 3)), (4, (.aload_n 0, 1)), (5, (.getfield 21, 3)), (8, (.invokevirtual 49, 3)), (11, (.istore_n 1, 1)), (12, (.iconst 0, 1)), (13, (.istore_n 2, 1)), (14, (.iload_n 2, 1)), (15, (.sipush 1600, 3)), (18, (.if_icmp .ge 55, 3)), (21, (.iload_n 1, 1)), (22, (.bipush 42, 2)), (24, (.if_icmp .eq 15, 3)), (27, (.iload_n 1, 1)), (28, (.bipush 47, 2)), (30, (.if_icmp .eq 9, 3)), (33, (.iload_n 1, 1)), (34, (.bipush 37, 2)), (36, (.if_icmp .ne 37, 3)), (39, (.aload_n 0, 1)), (40, (.getfield 21, 3)), (43, (.invokevirtual 53, 3)), (46, (.aload_n 0, 1)), (47, (.invokevirtual 78, 3)), (50, (.aload_n 0, 1)), (51, (.sipush 20000, 3)), (54, (.iload_n 1, 1)), (55, (.iadd, 1)), (56, (.invokevirtual 56, 3)), (59, (.aload_n 0, 1)), (60, (.getfield 21, 3)), (63, (.invokevirtual 49, 3)), (66, (.istore_n 1, 1)), (67, (.iinc 2 1, 3)), (70, (.goto (-56), 3)), (73, (.return_, 1))]
theorem dsX1_readProduct_0_ok : (dsX1_readProduct_0.all fun q => decide (decode cX1_readProduct q.1 = .ok q.2)) = true := by decide +kernel
theorem dX1_readProduct_0 : decode cX1_readProduct 0 = .ok (.aload_n 0, 1) := of_decide_eq_true (List.all_eq_true.mp dsX1_readProduct_0_ok (0, (.aload_n 0, 1)) (List.mem_of_getElem? (i := 0) rfl))
theorem dX1_readProduct_1 : decode cX1_readProduct 1 = .ok (.invokevirtual 78, 3) := of_decide_eq_true (List.all_eq_true.mp dsX1_readProduct_0_ok (1, (.invokevirtual 78, 3)) (List.mem_of_getElem? (i := 1) rfl))
theorem dX1_readProduct_4 : decode cX1_readProduct 4 = .ok (.aload_n 0, 1) := of_decide_eq_true (List.all_eq_true.mp dsX1_readProduct_0_ok (4, (.aload_n 0, 1)) (List.mem_of_getElem? (i := 2) rfl))
theorem dX1_readProduct_5 : decode cX1_readProduct 5 = .ok (.getfield 21, 3) := of_decide_eq_true (List.all_eq_true.mp dsX1_readProduct_0_ok (5, (.getfield 21, 3)) (List.mem_of_getElem? (i := 3) rfl))
theorem dX1_readProduct_8 : decode cX1_readProduct 8 = .ok (.invokevirtual 49, 3) := of_decide_eq_true (List.all_eq_true.mp dsX1_readProduct_0_ok (8, (.invokevirtual 49, 3)) (List.mem_of_getElem? (i := 4) rfl))
theorem dX1_readProduct_11 : decode cX1_readProduct 11 = .ok (.istore_n 1, 1) := of_decide_eq_true (List.all_eq_true.mp dsX1_readProduct_0_ok (11, (.istore_n 1, 1)) (List.mem_of_getElem? (i := 5) rfl))
theorem dX1_readProduct_12 : decode cX1_readProduct 12 = .ok (.iconst 0, 1) := of_decide_eq_true (List.all_eq_true.mp dsX1_readProduct_0_ok (12, (.iconst 0, 1)) (List.mem_of_getElem? (i := 6) rfl))
theorem dX1_readProduct_13 : decode cX1_readProduct 13 = .ok (.istore_n 2, 1) := of_decide_eq_true (List.all_eq_true.mp dsX1_readProduct_0_ok (13, (.istore_n 2, 1)) (List.mem_of_getElem? (i := 7) rfl))
theorem dX1_readProduct_14 : decode cX1_readProduct 14 = .ok (.iload_n 2, 1) := of_decide_eq_true (List.all_eq_true.mp dsX1_readProduct_0_ok (14, (.iload_n 2, 1)) (List.mem_of_getElem? (i := 8) rfl))
theorem dX1_readProduct_15 : decode cX1_readProduct 15 = .ok (.sipush 1600, 3) := of_decide_eq_true (List.all_eq_true.mp dsX1_readProduct_0_ok (15, (.sipush 1600, 3)) (List.mem_of_getElem? (i := 9) rfl))
theorem dX1_readProduct_18 : decode cX1_readProduct 18 = .ok (.if_icmp .ge 55, 3) := of_decide_eq_true (List.all_eq_true.mp dsX1_readProduct_0_ok (18, (.if_icmp .ge 55, 3)) (List.mem_of_getElem? (i := 10) rfl))
theorem dX1_readProduct_21 : decode cX1_readProduct 21 = .ok (.iload_n 1, 1) := of_decide_eq_true (List.all_eq_true.mp dsX1_readProduct_0_ok (21, (.iload_n 1, 1)) (List.mem_of_getElem? (i := 11) rfl))
theorem dX1_readProduct_22 : decode cX1_readProduct 22 = .ok (.bipush 42, 2) := of_decide_eq_true (List.all_eq_true.mp dsX1_readProduct_0_ok (22, (.bipush 42, 2)) (List.mem_of_getElem? (i := 12) rfl))
theorem dX1_readProduct_24 : decode cX1_readProduct 24 = .ok (.if_icmp .eq 15, 3) := of_decide_eq_true (List.all_eq_true.mp dsX1_readProduct_0_ok (24, (.if_icmp .eq 15, 3)) (List.mem_of_getElem? (i := 13) rfl))
theorem dX1_readProduct_27 : decode cX1_readProduct 27 = .ok (.iload_n 1, 1) := of_decide_eq_true (List.all_eq_true.mp dsX1_readProduct_0_ok (27, (.iload_n 1, 1)) (List.mem_of_getElem? (i := 14) rfl))
theorem dX1_readProduct_28 : decode cX1_readProduct 28 = .ok (.bipush 47, 2) := of_decide_eq_true (List.all_eq_true.mp dsX1_readProduct_0_ok (28, (.bipush 47, 2)) (List.mem_of_getElem? (i := 15) rfl))
theorem dX1_readProduct_30 : decode cX1_readProduct 30 = .ok (.if_icmp .eq 9, 3) := of_decide_eq_true (List.all_eq_true.mp dsX1_readProduct_0_ok (30, (.if_icmp .eq 9, 3)) (List.mem_of_getElem? (i := 16) rfl))
theorem dX1_readProduct_33 : decode cX1_readProduct 33 = .ok (.iload_n 1, 1) := of_decide_eq_true (List.all_eq_true.mp dsX1_readProduct_0_ok (33, (.iload_n 1, 1)) (List.mem_of_getElem? (i := 17) rfl))
theorem dX1_readProduct_34 : decode cX1_readProduct 34 = .ok (.bipush 37, 2) := of_decide_eq_true (List.all_eq_true.mp dsX1_readProduct_0_ok (34, (.bipush 37, 2)) (List.mem_of_getElem? (i := 18) rfl))
theorem dX1_readProduct_36 : decode cX1_readProduct 36 = .ok (.if_icmp .ne 37, 3) := of_decide_eq_true (List.all_eq_true.mp dsX1_readProduct_0_ok (36, (.if_icmp .ne 37, 3)) (List.mem_of_getElem? (i := 19) rfl))
theorem dX1_readProduct_39 : decode cX1_readProduct 39 = .ok (.aload_n 0, 1) := of_decide_eq_true (List.all_eq_true.mp dsX1_readProduct_0_ok (39, (.aload_n 0, 1)) (List.mem_of_getElem? (i := 20) rfl))
theorem dX1_readProduct_40 : decode cX1_readProduct 40 = .ok (.getfield 21, 3) := of_decide_eq_true (List.all_eq_true.mp dsX1_readProduct_0_ok (40, (.getfield 21, 3)) (List.mem_of_getElem? (i := 21) rfl))
theorem dX1_readProduct_43 : decode cX1_readProduct 43 = .ok (.invokevirtual 53, 3) := of_decide_eq_true (List.all_eq_true.mp dsX1_readProduct_0_ok (43, (.invokevirtual 53, 3)) (List.mem_of_getElem? (i := 22) rfl))
theorem dX1_readProduct_46 : decode cX1_readProduct 46 = .ok (.aload_n 0, 1) := of_decide_eq_true (List.all_eq_true.mp dsX1_readProduct_0_ok (46, (.aload_n 0, 1)) (List.mem_of_getElem? (i := 23) rfl))
theorem dX1_readProduct_47 : decode cX1_readProduct 47 = .ok (.invokevirtual 78, 3) := of_decide_eq_true (List.all_eq_true.mp dsX1_readProduct_0_ok (47, (.invokevirtual 78, 3)) (List.mem_of_getElem? (i := 24) rfl))
theorem dX1_readProduct_50 : decode cX1_readProduct 50 = .ok (.aload_n 0, 1) := of_decide_eq_true (List.all_eq_true.mp dsX1_readProduct_0_ok (50, (.aload_n 0, 1)) (List.mem_of_getElem? (i := 25) rfl))
theorem dX1_readProduct_51 : decode cX1_readProduct 51 = .ok (.sipush 20000, 3) := of_decide_eq_true (List.all_eq_true.mp dsX1_readProduct_0_ok (51, (.sipush 20000, 3)) (List.mem_of_getElem? (i := 26) rfl))
theorem dX1_readProduct_54 : decode cX1_readProduct 54 = .ok (.iload_n 1, 1) := of_decide_eq_true (List.all_eq_true.mp dsX1_readProduct_0_ok (54, (.iload_n 1, 1)) (List.mem_of_getElem? (i := 27) rfl))
theorem dX1_readProduct_55 : decode cX1_readProduct 55 = .ok (.iadd, 1) := of_decide_eq_true (List.all_eq_true.mp dsX1_readProduct_0_ok (55, (.iadd, 1)) (List.mem_of_getElem? (i := 28) rfl))
theorem dX1_readProduct_56 : decode cX1_readProduct 56 = .ok (.invokevirtual 56, 3) := of_decide_eq_true (List.all_eq_true.mp dsX1_readProduct_0_ok (56, (.invokevirtual 56, 3)) (List.mem_of_getElem? (i := 29) rfl))
theorem dX1_readProduct_59 : decode cX1_readProduct 59 = .ok (.aload_n 0, 1) := of_decide_eq_true (List.all_eq_true.mp dsX1_readProduct_0_ok (59, (.aload_n 0, 1)) (List.mem_of_getElem? (i := 30) rfl))
theorem dX1_readProduct_60 : decode cX1_readProduct 60 = .ok (.getfield 21, 3) := of_decide_eq_true (List.all_eq_true.mp dsX1_readProduct_0_ok (60, (.getfield 21, 3)) (List.mem_of_getElem? (i := 31) rfl))
theorem dX1_readProduct_63 : decode cX1_readProduct 63 = .ok (.invokevirtual 49, 3) := of_decide_eq_true (List.all_eq_true.mp dsX1_readProduct_0_ok (63, (.invokevirtual 49, 3)) (List.mem_of_getElem? (i := 32) rfl))
theorem dX1_readProduct_66 : decode cX1_readProduct 66 = .ok (.istore_n 1, 1) := of_decide_eq_true (List.all_eq_true.mp dsX1_readProduct_0_ok (66, (.istore_n 1, 1)) (List.mem_of_getElem? (i := 33) rfl))
theorem dX1_readProduct_67 : decode cX1_readProduct 67 = .ok (.iinc 2 1, 3) := of_decide_eq_true (List.all_eq_true.mp dsX1_readProduct_0_ok (67, (.iinc 2 1, 3)) (List.mem_of_getElem? (i := 34) rfl))
theorem dX1_readProduct_70 : decode cX1_readProduct 70 = .ok (.goto (-56), 3) := of_decide_eq_true (List.all_eq_true.mp dsX1_readProduct_0_ok (70, (.goto (-56), 3)) (List.mem_of_getElem? (i := 35) rfl))
theorem dX1_readProduct_73 : decode cX1_readProduct 73 = .ok (.return_, 1) := of_decide_eq_true (List.all_eq_true.mp dsX1_readProduct_0_ok (73, (.return_, 1)) (List.mem_of_getElem? (i := 36) rfl))
def fX1_readProduct_b39 (N : Nat) (text_kindsF : Nat → Int32) (text_startsF : Nat → Int32) (text_valuesF : Nat → Int32) (text_kindsN : Nat) (text_startsN : Nat) (text_valuesN : Nat) (fr_codeN : Nat) (k_readPart : (Nat → Int32) → (Nat → Int32) → (Nat → Int32) → Option ((Nat → Int32) × (Nat → Int32) × (Nat → Int32))) (k14 : ((Nat → Int32) × (Nat → Int32) × (Nat → Int32) × Int32 × Int32) → Option ((Nat → Int32) × (Nat → Int32) × (Nat → Int32))) : ((Nat → Int32) × (Nat → Int32) × (Nat → Int32) × Int32 × Int32) → Option ((Nat → Int32) × (Nat → Int32) × (Nat → Int32)) :=
  fun (frI_39, textI_39, fr_codeF_39, x1_39, x2_39) => (xq_bd (fX10_next N textI_39) fun r_1 => (xq_bd (k_readPart frI_39 r_1 fr_codeF_39) fun (r_3_0, r_3_1, r_3_2) => (xq_bd (fX1_emit N r_3_0 r_3_2 fr_codeN (20000 + x1_39)) fun (r_5_0, r_5_1) => (xq_bd (fX10_piece N r_3_1 text_kindsF text_kindsN) fun r_7 => k14 (r_5_0, r_3_1, r_5_1, r_7, x2_39 + 1)))))
def fX1_readProduct_l14 (N : Nat) (text_kindsF : Nat → Int32) (text_startsF : Nat → Int32) (text_valuesF : Nat → Int32) (text_kindsN : Nat) (text_startsN : Nat) (text_valuesN : Nat) (fr_codeN : Nat) (k_readPart : (Nat → Int32) → (Nat → Int32) → (Nat → Int32) → Option ((Nat → Int32) × (Nat → Int32) × (Nat → Int32))) (k14 : ((Nat → Int32) × (Nat → Int32) × (Nat → Int32) × Int32 × Int32) → Option ((Nat → Int32) × (Nat → Int32) × (Nat → Int32))) : ((Nat → Int32) × (Nat → Int32) × (Nat → Int32) × Int32 × Int32) → Option ((Nat → Int32) × (Nat → Int32) × (Nat → Int32)) :=
  fun (frI_14, textI_14, fr_codeF_14, x1_14, x2_14) => (if 1600 ≤ x2_14 then some ((frI_14, textI_14, fr_codeF_14)) else (if x1_14 = 42 then fX1_readProduct_b39 N text_kindsF text_startsF text_valuesF text_kindsN text_startsN text_valuesN fr_codeN k_readPart k14 (frI_14, textI_14, fr_codeF_14, x1_14, x2_14) else (if x1_14 = 47 then fX1_readProduct_b39 N text_kindsF text_startsF text_valuesF text_kindsN text_startsN text_valuesN fr_codeN k_readPart k14 (frI_14, textI_14, fr_codeF_14, x1_14, x2_14) else (if x1_14 = 37 then fX1_readProduct_b39 N text_kindsF text_startsF text_valuesF text_kindsN text_startsN text_valuesN fr_codeN k_readPart k14 (frI_14, textI_14, fr_codeF_14, x1_14, x2_14) else some ((frI_14, textI_14, fr_codeF_14))))))
def fX1_readProduct (N : Nat) (text_kindsF : Nat → Int32) (text_startsF : Nat → Int32) (text_valuesF : Nat → Int32) (text_kindsN : Nat) (text_startsN : Nat) (text_valuesN : Nat) (fr_codeN : Nat) (k_readPart : (Nat → Int32) → (Nat → Int32) → (Nat → Int32) → Option ((Nat → Int32) × (Nat → Int32) × (Nat → Int32))) (frI textI fr_codeF : Nat → Int32) : Option ((Nat → Int32) × (Nat → Int32) × (Nat → Int32)) :=
  (xq_bd (k_readPart frI textI fr_codeF) fun (r_1_0, r_1_1, r_1_2) => (xq_bd (fX10_piece N r_1_1 text_kindsF text_kindsN) fun r_3 => xq_loop (fX1_readProduct_l14 N text_kindsF text_startsF text_valuesF text_kindsN text_startsN text_valuesN fr_codeN k_readPart) N (r_1_0, r_1_1, r_1_2, r_3, 0)))
set_option maxHeartbeats 4000000 in
set_option maxRecDepth 100000 in
theorem kX1_readProduct (l : Launch) (dC : Nat → ClassId) (dI : Nat → Nat → Nat) (cI cB cJ cZ cM : ClassId) (z : Nat) (ad : Nat → Nat) (N : Nat) (a_p0 : Nat) (frR textR : Nat → Nat) (text_kindsF : Nat → Int32) (text_startsF : Nat → Int32) (text_valuesF : Nat → Int32) (text_kindsN : Nat) (text_startsN : Nat) (text_valuesN : Nat) (fr_codeN : Nat) {FM LM : Nat} (hFM : 1 ≤ FM) (hLM : 21 ≤ LM) (k_readPart : (Nat → Int32) → (Nat → Int32) → (Nat → Int32) → Option ((Nat → Int32) × (Nat → Int32) × (Nat → Int32)))  {F_readPart L_readPart : Nat} (hF_readPart : F_readPart + 1 ≤ FM) (hL_readPart : 8 + (2 + 11) + L_readPart ≤ LM) (h_readPart : ∀ (x0 x1 x2 : Nat → Int32) (y0 y1 y2 : Nat → Int32), k_readPart x0 x1 x2 = some (y0, y1, y2) → xq_Ct l yX1_readPart wsX1_readPart { frames := F_readPart, cells := 0, slots := 0, locals := L_readPart } (dC, dI) vwCl (xq_tys cI cB cJ cZ cM) z ad [.ref a_p0] [(a_p0, .inr (1, oX1 x0 frR)), ((frR 0), .inr (10, oX10 x1 textR)), ((textR 1), .inl (cI, text_kindsN, .inl text_kindsF)), ((textR 2), .inl (cI, text_startsN, .inl text_startsF)), ((textR 3), .inl (cI, text_valuesN, .inl text_valuesF)), ((frR 1), .inl (cI, fr_codeN, .inl x2))] [(a_p0, .inr (1, oX1 y0 frR)), ((frR 0), .inr (10, oX10 y1 textR)), ((textR 1), .inl (cI, text_kindsN, .inl text_kindsF)), ((textR 2), .inl (cI, text_startsN, .inl text_startsF)), ((textR 3), .inl (cI, text_valuesN, .inl text_valuesF)), ((frR 1), .inl (cI, fr_codeN, .inl y2))] none) (frI textI fr_codeF : Nat → Int32) {r0 r1 r2 : Nat → Int32} (hf : fX1_readProduct N text_kindsF text_startsF text_valuesF text_kindsN text_startsN text_valuesN fr_codeN k_readPart frI textI fr_codeF = some (r0, r1, r2)) : xq_Ct l yX1_readProduct wsX1_readProduct { frames := FM, cells := 0, slots := 0, locals := LM } (dC, dI) vwCl (xq_tys cI cB cJ cZ cM) z ad [.ref a_p0] [(a_p0, .inr (1, oX1 frI frR)), ((frR 0), .inr (10, oX10 textI textR)), ((textR 1), .inl (cI, text_kindsN, .inl text_kindsF)), ((textR 2), .inl (cI, text_startsN, .inl text_startsF)), ((textR 3), .inl (cI, text_valuesN, .inl text_valuesF)), ((frR 1), .inl (cI, fr_codeN, .inl fr_codeF))] [(a_p0, .inr (1, oX1 r0 frR)), ((frR 0), .inr (10, oX10 r1 textR)), ((textR 1), .inl (cI, text_kindsN, .inl text_kindsF)), ((textR 2), .inl (cI, text_startsN, .inl text_startsF)), ((textR 3), .inl (cI, text_valuesN, .inl text_valuesF)), ((frR 1), .inl (cI, fr_codeN, .inl r2))] none := by
  intro sz
  refine Met.ofW (cc := cX1_readProduct) (maxL := 3) (ret := none) (by decide) rfl ?_
  intro p e s m args below meth c s₁ B hml hv
  obtain ⟨rfl, hsz, hP, hK, hD0, hE, hz⟩ := hv
  have hx := B.exec
  have hb := B.bytes
  have hr := B.returns
  have hts := atoms_spec (ws := wsX1_readProduct) B.pre
  have hown : s.vm.findClass RX1 = some m.cls := findClass_of_methodNamed B.named
  have hlocks := B.notSynchronized
  subst hsz
  have hD := hD0.self (sz := s.heap.size)
  have hN := xq_Env.of hE hz hD0
  generalize hAe : va_A [(a_p0, .inr (1, oX1 frI frR)), ((frR 0), .inr (10, oX10 textI textR)), ((textR 1), .inl (cI, text_kindsN, .inl text_kindsF)), ((textR 2), .inl (cI, text_startsN, .inl text_startsF)), ((textR 3), .inl (cI, text_valuesN, .inl text_valuesF)), ((frR 1), .inl (cI, fr_codeN, .inl fr_codeF))] s.heap.size = A at hD hN ⊢
  have hA : ∀ q : Nat, s.heap.size ≤ q → A q := fun q h => by rw [← hAe]; exact Or.inr h
  clear hAe hD0
  have hS : va_S A s.heap s.heap [] := va_S.rf
  have hl := lv_entry ([.ref a_p0]) (n := 3) (Nat.le_of_ble_eq_true rfl)
  rw [lg_entry_eq]
  generalize (lg_sl ([.ref a_p0]) ++ List.replicate (3 - (lg_sl ([.ref a_p0])).length) Slot.unset).toArray = ls at hl ⊢
  have hl : lv_has ls 3 [(0, .ref a_p0)] := hl
  have hw0 := hts (.fieldLink RX1 21 "DistantVoice$FormulaReader" "text" "LDistantVoice$Text;") (by decide +kernel)
  have hinX1 : ∀ w ∈ wsX10, w ∈ wsX1_readProduct := fun w h => List.mem_cons_of_mem _ (List.mem_append_left _ (List.mem_append_right _ h))
  have l14 : ∀ n14 : Nat, ∀ (frI_14 : Nat → Int32) (textI_14 : Nat → Int32) (fr_codeF_14 : Nat → Int32) (x1_14 : Int32) (x2_14 : Int32) (ls : Array Slot) (H : Heap) (locs : List Loc), xq_loop (fX1_readProduct_l14 N text_kindsF text_startsF text_valuesF text_kindsN text_startsN text_valuesN fr_codeN k_readPart) n14 (frI_14, textI_14, fr_codeF_14, x1_14, x2_14) = some (r0, r1, r2) → va_P (dC, dI) vwCl [(a_p0, .inr (1, oX1 frI_14 frR)), ((frR 0), .inr (10, oX10 textI_14 textR)), ((textR 1), .inl (cI, text_kindsN, .inl text_kindsF)), ((textR 2), .inl (cI, text_startsN, .inl text_startsF)), ((textR 3), .inl (cI, text_valuesN, .inl text_valuesF)), ((frR 1), .inl (cI, fr_codeN, .inl fr_codeF_14))] H → va_D A [(a_p0, .inr (1, oX1 frI_14 frR)), ((frR 0), .inr (10, oX10 textI_14 textR)), ((textR 1), .inl (cI, text_kindsN, .inl text_kindsF)), ((textR 2), .inl (cI, text_startsN, .inl text_startsF)), ((textR 3), .inl (cI, text_valuesN, .inl text_valuesF)), ((frR 1), .inl (cI, fr_codeN, .inl fr_codeF_14))] → va_S A s.heap H locs → lv_has ls 3 [(0, .ref a_p0), (1, .int x1_14), (2, .int x2_14)] → W p l e (headSpec wsX1_readProduct { frames := FM, cells := 0, slots := 0, locals := LM }).room s m [.ref a_p0].toArray below meth c H locs 0 0 (MQ below (xq_Q (dC, dI) vwCl (xq_tys cI cB cJ cZ cM) A [(a_p0, .inr (1, oX1 r0 frR)), ((frR 0), .inr (10, oX10 r1 textR)), ((textR 1), .inl (cI, text_kindsN, .inl text_kindsF)), ((textR 2), .inl (cI, text_startsN, .inl text_startsF)), ((textR 3), .inl (cI, text_valuesN, .inl text_valuesF)), ((frR 1), .inl (cI, fr_codeN, .inl r2))] none) [.ref a_p0].toArray s 0 0 A) (F0 m 14 ls []) := by
    intro n14
    induction n14 with
    | zero => intro frI_14 textI_14 fr_codeF_14 x1_14 x2_14 ls H locs hf; cases (show none = some (r0, r1, r2) from hf)
    | succ n14 ih14 =>
      have b39 : ∀ (frI_39 : Nat → Int32) (textI_39 : Nat → Int32) (fr_codeF_39 : Nat → Int32) (x1_39 : Int32) (x2_39 : Int32) (ls : Array Slot) (H : Heap) (locs : List Loc), fX1_readProduct_b39 N text_kindsF text_startsF text_valuesF text_kindsN text_startsN text_valuesN fr_codeN k_readPart (xq_loop (fX1_readProduct_l14 N text_kindsF text_startsF text_valuesF text_kindsN text_startsN text_valuesN fr_codeN k_readPart) n14) (frI_39, textI_39, fr_codeF_39, x1_39, x2_39) = some (r0, r1, r2) → va_P (dC, dI) vwCl [(a_p0, .inr (1, oX1 frI_39 frR)), ((frR 0), .inr (10, oX10 textI_39 textR)), ((textR 1), .inl (cI, text_kindsN, .inl text_kindsF)), ((textR 2), .inl (cI, text_startsN, .inl text_startsF)), ((textR 3), .inl (cI, text_valuesN, .inl text_valuesF)), ((frR 1), .inl (cI, fr_codeN, .inl fr_codeF_39))] H → va_D A [(a_p0, .inr (1, oX1 frI_39 frR)), ((frR 0), .inr (10, oX10 textI_39 textR)), ((textR 1), .inl (cI, text_kindsN, .inl text_kindsF)), ((textR 2), .inl (cI, text_startsN, .inl text_startsF)), ((textR 3), .inl (cI, text_valuesN, .inl text_valuesF)), ((frR 1), .inl (cI, fr_codeN, .inl fr_codeF_39))] → va_S A s.heap H locs → lv_has ls 3 [(0, .ref a_p0), (1, .int x1_39), (2, .int x2_39)] → W p l e (headSpec wsX1_readProduct { frames := FM, cells := 0, slots := 0, locals := LM }).room s m [.ref a_p0].toArray below meth c H locs 0 0 (MQ below (xq_Q (dC, dI) vwCl (xq_tys cI cB cJ cZ cM) A [(a_p0, .inr (1, oX1 r0 frR)), ((frR 0), .inr (10, oX10 r1 textR)), ((textR 1), .inl (cI, text_kindsN, .inl text_kindsF)), ((textR 2), .inl (cI, text_startsN, .inl text_startsF)), ((textR 3), .inl (cI, text_valuesN, .inl text_valuesF)), ((frR 1), .inl (cI, fr_codeN, .inl r2))] none) [.ref a_p0].toArray s 0 0 A) (F0 m 39 ls []) := by
        intro frI_39 textI_39 fr_codeF_39 x1_39 x2_39 ls H locs hf hP hD hS hl
        unfold fX1_readProduct_b39 at hf
        refine lv_aload_n hx hb dX1_readProduct_39 rfl (lv_at hl 0 rfl) ?_
        refine va_get (D := (dC, dI)) (ci := 1) (v := .ref ((frR 0))) (C := RX1) (T := TX1) (N := 5) hx hb hts hinX1 hown hK hP 0 rfl rfl 0 (by decide) hw0 (fun _ h9 => h9) rfl dX1_readProduct_40 ?_
        obtain ⟨r_1, h_2, hf⟩ := xq_bd_some hf
        refine xq_callV (As := []) (rest := []) (ci := 10) (q0 := 1) ⟨hx, hb, hml, hown, hts⟩ (kX10_next l dC dI cI cB cJ cZ cM z ad N ((frR 0)) textI_39 textR h_2) (cwV 0 hts gX1_readProduct_X10_next rfl rfl rfl (by decide +kernel) ⟨Nat.le_trans (Nat.le_of_ble_eq_true rfl) hFM, Nat.le_trans (Nat.le_of_ble_eq_true rfl) hLM⟩) hN hK hP hD hS hA [1] (by decide) rfl rfl rfl rfl rfl rfl hl.1 rfl (Nat.le_of_ble_eq_true rfl) dX1_readProduct_43 ⟨Nat.zero_le _, Nat.zero_le _⟩ (fun H locs hP hD hS => ?_)
        have hP : va_P (dC, dI) vwCl [(a_p0, .inr (1, oX1 frI_39 frR)), ((frR 0), .inr (10, oX10 r_1 textR)), ((textR 1), .inl (cI, text_kindsN, .inl text_kindsF)), ((textR 2), .inl (cI, text_startsN, .inl text_startsF)), ((textR 3), .inl (cI, text_valuesN, .inl text_valuesF)), ((frR 1), .inl (cI, fr_codeN, .inl fr_codeF_39))] H := hP
        have hD : va_D A [(a_p0, .inr (1, oX1 frI_39 frR)), ((frR 0), .inr (10, oX10 r_1 textR)), ((textR 1), .inl (cI, text_kindsN, .inl text_kindsF)), ((textR 2), .inl (cI, text_startsN, .inl text_startsF)), ((textR 3), .inl (cI, text_valuesN, .inl text_valuesF)), ((frR 1), .inl (cI, fr_codeN, .inl fr_codeF_39))] := hD
        refine W.eq (g2 := F0 m 46 ls []) rfl ?_
        refine lv_aload_n hx hb dX1_readProduct_46 rfl (lv_at hl 0 rfl) ?_
        obtain ⟨⟨r_3_0, r_3_1, r_3_2⟩, h_4, hf⟩ := xq_bd_some hf
        refine xq_callV (As := []) (rest := []) (ci := 1) (q0 := 0) ⟨hx, hb, hml, hown, hts⟩ (h_readPart frI_39 r_1 fr_codeF_39 _ _ _ h_4) (cwV 0 hts gX1_readProduct_X1_readPart rfl rfl rfl (by decide +kernel) ⟨hF_readPart, hL_readPart⟩) hN hK hP hD hS hA [0, 1, 2, 3, 4, 5] (by decide) rfl rfl rfl rfl rfl rfl hl.1 rfl (Nat.le_of_ble_eq_true rfl) dX1_readProduct_47 ⟨Nat.zero_le _, Nat.zero_le _⟩ (fun H locs hP hD hS => ?_)
        have hP : va_P (dC, dI) vwCl [(a_p0, .inr (1, oX1 r_3_0 frR)), ((frR 0), .inr (10, oX10 r_3_1 textR)), ((textR 1), .inl (cI, text_kindsN, .inl text_kindsF)), ((textR 2), .inl (cI, text_startsN, .inl text_startsF)), ((textR 3), .inl (cI, text_valuesN, .inl text_valuesF)), ((frR 1), .inl (cI, fr_codeN, .inl r_3_2))] H := hP
        have hD : va_D A [(a_p0, .inr (1, oX1 r_3_0 frR)), ((frR 0), .inr (10, oX10 r_3_1 textR)), ((textR 1), .inl (cI, text_kindsN, .inl text_kindsF)), ((textR 2), .inl (cI, text_startsN, .inl text_startsF)), ((textR 3), .inl (cI, text_valuesN, .inl text_valuesF)), ((frR 1), .inl (cI, fr_codeN, .inl r_3_2))] := hD
        refine W.eq (g2 := F0 m 50 ls []) rfl ?_
        refine lv_aload_n hx hb dX1_readProduct_50 rfl (lv_at hl 0 rfl) ?_
        refine lv_sipush (v := 20000) hx hb dX1_readProduct_51 (by decide) ?_
        refine lv_iload_n hx hb dX1_readProduct_54 rfl (lv_at hl 1 rfl) ?_
        refine lv_iadd hx hb dX1_readProduct_55 ?_
        obtain ⟨⟨r_5_0, r_5_1⟩, h_6, hf⟩ := xq_bd_some hf
        refine xq_callV (As := [.int (20000 + x1_39)]) (rest := []) (ci := 1) (q0 := 0) ⟨hx, hb, hml, hown, hts⟩ (kX1_emit l dC dI cI cB cJ cZ cM z ad N a_p0 r_3_0 frR r_3_2 fr_codeN (20000 + x1_39) h_6) (cwV 1 hts gX1_readProduct_X1_emit rfl rfl rfl (by decide +kernel) ⟨Nat.le_trans (Nat.le_of_ble_eq_true rfl) hFM, Nat.le_trans (Nat.le_of_ble_eq_true rfl) hLM⟩) hN hK hP hD hS hA [0, 5] (by decide) rfl rfl rfl rfl rfl rfl hl.1 rfl (Nat.le_of_ble_eq_true rfl) dX1_readProduct_56 ⟨Nat.zero_le _, Nat.zero_le _⟩ (fun H locs hP hD hS => ?_)
        have hP : va_P (dC, dI) vwCl [(a_p0, .inr (1, oX1 r_5_0 frR)), ((frR 0), .inr (10, oX10 r_3_1 textR)), ((textR 1), .inl (cI, text_kindsN, .inl text_kindsF)), ((textR 2), .inl (cI, text_startsN, .inl text_startsF)), ((textR 3), .inl (cI, text_valuesN, .inl text_valuesF)), ((frR 1), .inl (cI, fr_codeN, .inl r_5_1))] H := hP
        have hD : va_D A [(a_p0, .inr (1, oX1 r_5_0 frR)), ((frR 0), .inr (10, oX10 r_3_1 textR)), ((textR 1), .inl (cI, text_kindsN, .inl text_kindsF)), ((textR 2), .inl (cI, text_startsN, .inl text_startsF)), ((textR 3), .inl (cI, text_valuesN, .inl text_valuesF)), ((frR 1), .inl (cI, fr_codeN, .inl r_5_1))] := hD
        refine W.eq (g2 := F0 m 59 ls []) rfl ?_
        refine lv_aload_n hx hb dX1_readProduct_59 rfl (lv_at hl 0 rfl) ?_
        refine va_get (D := (dC, dI)) (ci := 1) (v := .ref ((frR 0))) (C := RX1) (T := TX1) (N := 5) hx hb hts hinX1 hown hK hP 0 rfl rfl 0 (by decide) hw0 (fun _ h9 => h9) rfl dX1_readProduct_60 ?_
        obtain ⟨r_7, h_8, hf⟩ := xq_bd_some hf
        refine xq_callV (As := []) (rest := []) (ci := 10) (q0 := 1) ⟨hx, hb, hml, hown, hts⟩ (kX10_piece l dC dI cI cB cJ cZ cM z ad N ((frR 0)) r_3_1 textR text_kindsF text_kindsN h_8) (cwV 0 hts gX1_readProduct_X10_piece rfl rfl rfl (by decide +kernel) ⟨Nat.le_trans (Nat.le_of_ble_eq_true rfl) hFM, Nat.le_trans (Nat.le_of_ble_eq_true rfl) hLM⟩) hN hK hP hD hS hA [1, 2] (by decide) rfl rfl rfl rfl rfl rfl hl.1 rfl (Nat.le_of_ble_eq_true rfl) dX1_readProduct_63 ⟨Nat.zero_le _, Nat.zero_le _⟩ (fun H locs hP hD hS => ?_)
        have hP : va_P (dC, dI) vwCl [(a_p0, .inr (1, oX1 r_5_0 frR)), ((frR 0), .inr (10, oX10 r_3_1 textR)), ((textR 1), .inl (cI, text_kindsN, .inl text_kindsF)), ((textR 2), .inl (cI, text_startsN, .inl text_startsF)), ((textR 3), .inl (cI, text_valuesN, .inl text_valuesF)), ((frR 1), .inl (cI, fr_codeN, .inl r_5_1))] H := hP
        have hD : va_D A [(a_p0, .inr (1, oX1 r_5_0 frR)), ((frR 0), .inr (10, oX10 r_3_1 textR)), ((textR 1), .inl (cI, text_kindsN, .inl text_kindsF)), ((textR 2), .inl (cI, text_startsN, .inl text_startsF)), ((textR 3), .inl (cI, text_valuesN, .inl text_valuesF)), ((frR 1), .inl (cI, fr_codeN, .inl r_5_1))] := hD
        refine W.eq (g2 := F0 m 66 ls [.int r_7]) rfl ?_
        refine lv_istore_n (lv' := [(1, .int r_7), (0, .ref a_p0), (2, .int x2_39)]) hx hb dX1_readProduct_66 rfl hl (by decide) rfl (fun ls hl => ?_)
        refine lv_iinc (v := x2_39 + 1) (lv' := [(2, .int (x2_39 + 1)), (1, .int r_7), (0, .ref a_p0)]) hx hb dX1_readProduct_67 hl (k := 2) rfl (congrArg (fun q9 => x2_39 + q9) (by decide : Int32.ofInt 1 = 1)) (by decide) rfl (fun ls hl => ?_)
        refine lv_goto (tgt := 14) hx hb dX1_readProduct_70 (by decide) ?_
        exact ih14 r_5_0 r_3_1 r_5_1 r_7 (x2_39 + 1) _ _ _ hf hP hD hS (lv_sub hl [2, 1, 0] rfl)
      intro frI_14 textI_14 fr_codeF_14 x1_14 x2_14 ls H locs hf hP hD hS hl
      have hf : fX1_readProduct_l14 N text_kindsF text_startsF text_valuesF text_kindsN text_startsN text_valuesN fr_codeN k_readPart (xq_loop (fX1_readProduct_l14 N text_kindsF text_startsF text_valuesF text_kindsN text_startsN text_valuesN fr_codeN k_readPart) n14) (frI_14, textI_14, fr_codeF_14, x1_14, x2_14) = some (r0, r1, r2) := hf
      unfold fX1_readProduct_l14 at hf
      refine lv_iload_n hx hb dX1_readProduct_14 rfl (lv_at hl 2 rfl) ?_
      refine lv_sipush (v := 1600) hx hb dX1_readProduct_15 (by decide) ?_
      refine lv_icmp_ge (tgt := 73) hx hb dX1_readProduct_18 (by decide) (fun c_ => ?_) (fun c_ => ?_)
      · have hf := xq_pos hf c_
        cases hf
        exact xq_vret hx hb hr hlocks hK hP hD hS dX1_readProduct_73
      · have hf := xq_neg hf c_
        refine lv_iload_n hx hb dX1_readProduct_21 rfl (lv_at hl 1 rfl) ?_
        refine lv_bipush (v := 42) hx hb dX1_readProduct_22 (by decide) ?_
        refine lv_icmp_eq (tgt := 39) hx hb dX1_readProduct_24 (by decide) (fun c_ => ?_) (fun c_ => ?_)
        · have hf := xq_pos hf c_
          exact b39 frI_14 textI_14 fr_codeF_14 x1_14 x2_14 _ _ _ hf hP hD hS (lv_sub hl [0, 1, 2] rfl)
        · have hf := xq_neg hf c_
          refine lv_iload_n hx hb dX1_readProduct_27 rfl (lv_at hl 1 rfl) ?_
          refine lv_bipush (v := 47) hx hb dX1_readProduct_28 (by decide) ?_
          refine lv_icmp_eq (tgt := 39) hx hb dX1_readProduct_30 (by decide) (fun c_ => ?_) (fun c_ => ?_)
          · have hf := xq_pos hf c_
            exact b39 frI_14 textI_14 fr_codeF_14 x1_14 x2_14 _ _ _ hf hP hD hS (lv_sub hl [0, 1, 2] rfl)
          · have hf := xq_neg hf c_
            refine lv_iload_n hx hb dX1_readProduct_33 rfl (lv_at hl 1 rfl) ?_
            refine lv_bipush (v := 37) hx hb dX1_readProduct_34 (by decide) ?_
            refine lv_icmp_ne (tgt := 73) hx hb dX1_readProduct_36 (by decide) (fun c_ => ?_) (fun c_ => ?_)
            · have hf := xq_neg hf c_
              cases hf
              exact xq_vret hx hb hr hlocks hK hP hD hS dX1_readProduct_73
            · have hf := xq_pos hf c_
              exact b39 frI_14 textI_14 fr_codeF_14 x1_14 x2_14 _ _ _ hf hP hD hS (lv_sub hl [0, 1, 2] rfl)
  unfold fX1_readProduct at hf
  refine lv_aload_n hx hb dX1_readProduct_0 rfl (lv_at hl 0 rfl) ?_
  obtain ⟨⟨r_1_0, r_1_1, r_1_2⟩, h_2, hf⟩ := xq_bd_some hf
  refine xq_callV (As := []) (rest := []) (ci := 1) (q0 := 0) ⟨hx, hb, hml, hown, hts⟩ (h_readPart frI textI fr_codeF _ _ _ h_2) (cwV 0 hts gX1_readProduct_X1_readPart rfl rfl rfl (by decide +kernel) ⟨hF_readPart, hL_readPart⟩) hN hK hP hD hS hA [0, 1, 2, 3, 4, 5] (by decide) rfl rfl rfl rfl rfl rfl hl.1 rfl (Nat.le_of_ble_eq_true rfl) dX1_readProduct_1 ⟨Nat.zero_le _, Nat.zero_le _⟩ (fun H locs hP hD hS => ?_)
  have hP : va_P (dC, dI) vwCl [(a_p0, .inr (1, oX1 r_1_0 frR)), ((frR 0), .inr (10, oX10 r_1_1 textR)), ((textR 1), .inl (cI, text_kindsN, .inl text_kindsF)), ((textR 2), .inl (cI, text_startsN, .inl text_startsF)), ((textR 3), .inl (cI, text_valuesN, .inl text_valuesF)), ((frR 1), .inl (cI, fr_codeN, .inl r_1_2))] H := hP
  have hD : va_D A [(a_p0, .inr (1, oX1 r_1_0 frR)), ((frR 0), .inr (10, oX10 r_1_1 textR)), ((textR 1), .inl (cI, text_kindsN, .inl text_kindsF)), ((textR 2), .inl (cI, text_startsN, .inl text_startsF)), ((textR 3), .inl (cI, text_valuesN, .inl text_valuesF)), ((frR 1), .inl (cI, fr_codeN, .inl r_1_2))] := hD
  refine W.eq (g2 := F0 m 4 ls []) rfl ?_
  refine lv_aload_n hx hb dX1_readProduct_4 rfl (lv_at hl 0 rfl) ?_
  refine va_get (D := (dC, dI)) (ci := 1) (v := .ref ((frR 0))) (C := RX1) (T := TX1) (N := 5) hx hb hts hinX1 hown hK hP 0 rfl rfl 0 (by decide) hw0 (fun _ h9 => h9) rfl dX1_readProduct_5 ?_
  obtain ⟨r_3, h_4, hf⟩ := xq_bd_some hf
  refine xq_callV (As := []) (rest := []) (ci := 10) (q0 := 1) ⟨hx, hb, hml, hown, hts⟩ (kX10_piece l dC dI cI cB cJ cZ cM z ad N ((frR 0)) r_1_1 textR text_kindsF text_kindsN h_4) (cwV 0 hts gX1_readProduct_X10_piece rfl rfl rfl (by decide +kernel) ⟨Nat.le_trans (Nat.le_of_ble_eq_true rfl) hFM, Nat.le_trans (Nat.le_of_ble_eq_true rfl) hLM⟩) hN hK hP hD hS hA [1, 2] (by decide) rfl rfl rfl rfl rfl rfl hl.1 rfl (Nat.le_of_ble_eq_true rfl) dX1_readProduct_8 ⟨Nat.zero_le _, Nat.zero_le _⟩ (fun H locs hP hD hS => ?_)
  have hP : va_P (dC, dI) vwCl [(a_p0, .inr (1, oX1 r_1_0 frR)), ((frR 0), .inr (10, oX10 r_1_1 textR)), ((textR 1), .inl (cI, text_kindsN, .inl text_kindsF)), ((textR 2), .inl (cI, text_startsN, .inl text_startsF)), ((textR 3), .inl (cI, text_valuesN, .inl text_valuesF)), ((frR 1), .inl (cI, fr_codeN, .inl r_1_2))] H := hP
  have hD : va_D A [(a_p0, .inr (1, oX1 r_1_0 frR)), ((frR 0), .inr (10, oX10 r_1_1 textR)), ((textR 1), .inl (cI, text_kindsN, .inl text_kindsF)), ((textR 2), .inl (cI, text_startsN, .inl text_startsF)), ((textR 3), .inl (cI, text_valuesN, .inl text_valuesF)), ((frR 1), .inl (cI, fr_codeN, .inl r_1_2))] := hD
  refine W.eq (g2 := F0 m 11 ls [.int r_3]) rfl ?_
  refine lv_istore_n (lv' := [(1, .int r_3), (0, .ref a_p0)]) hx hb dX1_readProduct_11 rfl hl (by decide) rfl (fun ls hl => ?_)
  refine lv_iconst (v := 0) hx hb dX1_readProduct_12 (by decide) ?_
  refine lv_istore_n (lv' := [(2, .int 0), (1, .int r_3), (0, .ref a_p0)]) hx hb dX1_readProduct_13 rfl hl (by decide) rfl (fun ls hl => ?_)
  exact l14 N r_1_0 r_1_1 r_1_2 r_3 0 _ _ _ hf hP hD hS (lv_sub hl [2, 1, 0] rfl)
set_option maxRecDepth 20000 in
theorem ggX1_readSum_X1_readProduct : GoodIn wsX1_readSum wsX1_readProduct := goodIn_r _ [81, 1, 82, 83, 84, 5, 6, 7, 8, 9, 10, 11, 12, 13, 14, 15, 16, 17, 18, 19, 20, 21, 22, 23, 24, 25, 26, 27, 28, 29, 30, 31, 32, 33, 34, 35, 36, 37, 38, 39, 40, 41, 42, 43, 44, 45, 46, 47, 48, 49, 50, 51, 52, 53, 54, 55, 56, 57, 58, 59, 60, 61, 62, 63, 64, 65, 66, 67, 68, 69, 70, 71, 72, 73, 74, 75, 76, 77, 78, 79, 80, 0, 2, 3, 4, 85, 86, 87, 88, 89, 90, 91, 92, 93, 94, 95, 96, 97, 98, 99, 100, 101] rfl (by decide +kernel)
set_option maxRecDepth 20000 in
theorem gX1_readSum_X1_readProduct : GoodIn wsX1_readSum (wsV RX1 75 RX1 yX1_readProduct wsX1_readProduct) := goodIn_app (goodIn_of _ (by decide +kernel)) ggX1_readSum_X1_readProduct
set_option maxRecDepth 20000 in
theorem ggX1_readSum_X10_piece : GoodIn wsX1_readSum wsX10_piece := goodIn_r _ [10, 11, 12, 13, 14, 94, 95, 96, 97, 98, 99, 100, 101] rfl (by decide +kernel)
set_option maxRecDepth 20000 in
theorem gX1_readSum_X10_piece : GoodIn wsX1_readSum (wsV RX1 49 RX10 yX10_piece wsX10_piece) := goodIn_app (goodIn_of _ (by decide +kernel)) ggX1_readSum_X10_piece
set_option maxRecDepth 20000 in
theorem ggX1_readSum_X10_next : GoodIn wsX1_readSum wsX10_next := goodIn_r _ [18, 12, 13, 94, 95, 96, 97, 98, 99, 100, 101] rfl (by decide +kernel)
set_option maxRecDepth 20000 in
theorem gX1_readSum_X10_next : GoodIn wsX1_readSum (wsV RX1 53 RX10 yX10_next wsX10_next) := goodIn_app (goodIn_of _ (by decide +kernel)) ggX1_readSum_X10_next
set_option maxRecDepth 20000 in
theorem ggX1_readSum_X1_emit : GoodIn wsX1_readSum wsX1_emit := goodIn_r _ [22, 23, 24, 89, 90, 91, 92, 93] rfl (by decide +kernel)
set_option maxRecDepth 20000 in
theorem gX1_readSum_X1_emit : GoodIn wsX1_readSum (wsV RX1 56 RX1 yX1_emit wsX1_emit) := goodIn_app (goodIn_of _ (by decide +kernel)) ggX1_readSum_X1_emit
def dsX1_readSum_0 : List (Nat × Instr × Nat) := [(0, (.aload_n 0, 1)), (1, (.invokevirtual 75, 3)), (4, (.aload_n 0, 1)), (5, (.getfield 21, 3)), (8, (.invokevirtual 49, 3)), (11, (.istore_n 1, 1)), (12, (.iconst 0, 1)), (13, (.istore_n 2, 1)), (14, (.iload_n 2, 1)), (15, (.sipush 1600, 3)), (18, (.if_icmp .ge 49, 3)), (21, (.iload_n 1, 1)), (22, (.bipush 43, 2)), (24, (.if_icmp .eq 9, 3)), (27, (.iload_n 1, 1)), (28, (.bipush 45, 2)), (30, (.if_icmp .ne 37, 3)), (33, (.aload_n 0, 1)), (34, (.getfield 21, 3)), (37, (.invokevirtual 53, 3)), (40, (.aload_n 0, 1)), (41, (.invokevirtual 75, 3)), (44, (.aload_n 0, 1)), (45, (.sipush 20000, 3)), (48, (.iload_n 1, 1)), (49, (.iadd, 1)), (50, (.invokevirtual 56, 3)), (53, (.aload_n 0, 1)), (54, (.getfield 21, 3)), (57, (.invokevirtual 49, 3)), (60, (.istore_n 1, 1)), (61, (.iinc 2 1, 3)), (64, (.goto (-50), 3)), (67, (.return_, 1))]
theorem dsX1_readSum_0_ok : (dsX1_readSum_0.all fun q => decide (decode cX1_readSum q.1 = .ok q.2)) = true := by decide +kernel
theorem dX1_readSum_0 : decode cX1_readSum 0 = .ok (.aload_n 0, 1) := of_decide_eq_true (List.all_eq_true.mp dsX1_readSum_0_ok (0, (.aload_n 0, 1)) (List.mem_of_getElem? (i := 0) rfl))
theorem dX1_readSum_1 : decode cX1_readSum 1 = .ok (.invokevirtual 75, 3) := of_decide_eq_true (List.all_eq_true.mp dsX1_readSum_0_ok (1, (.invokevirtual 75, 3)) (List.mem_of_getElem? (i := 1) rfl))
theorem dX1_readSum_4 : decode cX1_readSum 4 = .ok (.aload_n 0, 1) := of_decide_eq_true (List.all_eq_true.mp dsX1_readSum_0_ok (4, (.aload_n 0, 1)) (List.mem_of_getElem? (i := 2) rfl))
theorem dX1_readSum_5 : decode cX1_readSum 5 = .ok (.getfield 21, 3) := of_decide_eq_true (List.all_eq_true.mp dsX1_readSum_0_ok (5, (.getfield 21, 3)) (List.mem_of_getElem? (i := 3) rfl))
theorem dX1_readSum_8 : decode cX1_readSum 8 = .ok (.invokevirtual 49, 3) := of_decide_eq_true (List.all_eq_true.mp dsX1_readSum_0_ok (8, (.invokevirtual 49, 3)) (List.mem_of_getElem? (i := 4) rfl))
theorem dX1_readSum_11 : decode cX1_readSum 11 = .ok (.istore_n 1, 1) := of_decide_eq_true (List.all_eq_true.mp dsX1_readSum_0_ok (11, (.istore_n 1, 1)) (List.mem_of_getElem? (i := 5) rfl))
theorem dX1_readSum_12 : decode cX1_readSum 12 = .ok (.iconst 0, 1) := of_decide_eq_true (List.all_eq_true.mp dsX1_readSum_0_ok (12, (.iconst 0, 1)) (List.mem_of_getElem? (i := 6) rfl))
theorem dX1_readSum_13 : decode cX1_readSum 13 = .ok (.istore_n 2, 1) := of_decide_eq_true (List.all_eq_true.mp dsX1_readSum_0_ok (13, (.istore_n 2, 1)) (List.mem_of_getElem? (i := 7) rfl))
theorem dX1_readSum_14 : decode cX1_readSum 14 = .ok (.iload_n 2, 1) := of_decide_eq_true (List.all_eq_true.mp dsX1_readSum_0_ok (14, (.iload_n 2, 1)) (List.mem_of_getElem? (i := 8) rfl))
theorem dX1_readSum_15 : decode cX1_readSum 15 = .ok (.sipush 1600, 3) := of_decide_eq_true (List.all_eq_true.mp dsX1_readSum_0_ok (15, (.sipush 1600, 3)) (List.mem_of_getElem? (i := 9) rfl))
theorem dX1_readSum_18 : decode cX1_readSum 18 = .ok (.if_icmp .ge 49, 3) := of_decide_eq_true (List.all_eq_true.mp dsX1_readSum_0_ok (18, (.if_icmp .ge 49, 3)) (List.mem_of_getElem? (i := 10) rfl))
theorem dX1_readSum_21 : decode cX1_readSum 21 = .ok (.iload_n 1, 1) := of_decide_eq_true (List.all_eq_true.mp dsX1_readSum_0_ok (21, (.iload_n 1, 1)) (List.mem_of_getElem? (i := 11) rfl))
theorem dX1_readSum_22 : decode cX1_readSum 22 = .ok (.bipush 43, 2) := of_decide_eq_true (List.all_eq_true.mp dsX1_readSum_0_ok (22, (.bipush 43, 2)) (List.mem_of_getElem? (i := 12) rfl))
theorem dX1_readSum_24 : decode cX1_readSum 24 = .ok (.if_icmp .eq 9, 3) := of_decide_eq_true (List.all_eq_true.mp dsX1_readSum_0_ok (24, (.if_icmp .eq 9, 3)) (List.mem_of_getElem? (i := 13) rfl))
theorem dX1_readSum_27 : decode cX1_readSum 27 = .ok (.iload_n 1, 1) := of_decide_eq_true (List.all_eq_true.mp dsX1_readSum_0_ok (27, (.iload_n 1, 1)) (List.mem_of_getElem? (i := 14) rfl))
theorem dX1_readSum_28 : decode cX1_readSum 28 = .ok (.bipush 45, 2) := of_decide_eq_true (List.all_eq_true.mp dsX1_readSum_0_ok (28, (.bipush 45, 2)) (List.mem_of_getElem? (i := 15) rfl))
theorem dX1_readSum_30 : decode cX1_readSum 30 = .ok (.if_icmp .ne 37, 3) := of_decide_eq_true (List.all_eq_true.mp dsX1_readSum_0_ok (30, (.if_icmp .ne 37, 3)) (List.mem_of_getElem? (i := 16) rfl))
theorem dX1_readSum_33 : decode cX1_readSum 33 = .ok (.aload_n 0, 1) := of_decide_eq_true (List.all_eq_true.mp dsX1_readSum_0_ok (33, (.aload_n 0, 1)) (List.mem_of_getElem? (i := 17) rfl))
theorem dX1_readSum_34 : decode cX1_readSum 34 = .ok (.getfield 21, 3) := of_decide_eq_true (List.all_eq_true.mp dsX1_readSum_0_ok (34, (.getfield 21, 3)) (List.mem_of_getElem? (i := 18) rfl))
theorem dX1_readSum_37 : decode cX1_readSum 37 = .ok (.invokevirtual 53, 3) := of_decide_eq_true (List.all_eq_true.mp dsX1_readSum_0_ok (37, (.invokevirtual 53, 3)) (List.mem_of_getElem? (i := 19) rfl))
theorem dX1_readSum_40 : decode cX1_readSum 40 = .ok (.aload_n 0, 1) := of_decide_eq_true (List.all_eq_true.mp dsX1_readSum_0_ok (40, (.aload_n 0, 1)) (List.mem_of_getElem? (i := 20) rfl))
theorem dX1_readSum_41 : decode cX1_readSum 41 = .ok (.invokevirtual 75, 3) := of_decide_eq_true (List.all_eq_true.mp dsX1_readSum_0_ok (41, (.invokevirtual 75, 3)) (List.mem_of_getElem? (i := 21) rfl))
theorem dX1_readSum_44 : decode cX1_readSum 44 = .ok (.aload_n 0, 1) := of_decide_eq_true (List.all_eq_true.mp dsX1_readSum_0_ok (44, (.aload_n 0, 1)) (List.mem_of_getElem? (i := 22) rfl))
theorem dX1_readSum_45 : decode cX1_readSum 45 = .ok (.sipush 20000, 3) := of_decide_eq_true (List.all_eq_true.mp dsX1_readSum_0_ok (45, (.sipush 20000, 3)) (List.mem_of_getElem? (i := 23) rfl))
theorem dX1_readSum_48 : decode cX1_readSum 48 = .ok (.iload_n 1, 1) := of_decide_eq_true (List.all_eq_true.mp dsX1_readSum_0_ok (48, (.iload_n 1, 1)) (List.mem_of_getElem? (i := 24) rfl))
theorem dX1_readSum_49 : decode cX1_readSum 49 = .ok (.iadd, 1) := of_decide_eq_true (List.all_eq_true.mp dsX1_readSum_0_ok (49, (.iadd, 1)) (List.mem_of_getElem? (i := 25) rfl))
theorem dX1_readSum_50 : decode cX1_readSum 50 = .ok (.invokevirtual 56, 3) := of_decide_eq_true (List.all_eq_true.mp dsX1_readSum_0_ok (50, (.invokevirtual 56, 3)) (List.mem_of_getElem? (i := 26) rfl))
theorem dX1_readSum_53 : decode cX1_readSum 53 = .ok (.aload_n 0, 1) := of_decide_eq_true (List.all_eq_true.mp dsX1_readSum_0_ok (53, (.aload_n 0, 1)) (List.mem_of_getElem? (i := 27) rfl))
theorem dX1_readSum_54 : decode cX1_readSum 54 = .ok (.getfield 21, 3) := of_decide_eq_true (List.all_eq_true.mp dsX1_readSum_0_ok (54, (.getfield 21, 3)) (List.mem_of_getElem? (i := 28) rfl))
theorem dX1_readSum_57 : decode cX1_readSum 57 = .ok (.invokevirtual 49, 3) := of_decide_eq_true (List.all_eq_true.mp dsX1_readSum_0_ok (57, (.invokevirtual 49, 3)) (List.mem_of_getElem? (i := 29) rfl))
theorem dX1_readSum_60 : decode cX1_readSum 60 = .ok (.istore_n 1, 1) := of_decide_eq_true (List.all_eq_true.mp dsX1_readSum_0_ok (60, (.istore_n 1, 1)) (List.mem_of_getElem? (i := 30) rfl))
theorem dX1_readSum_61 : decode cX1_readSum 61 = .ok (.iinc 2 1, 3) := of_decide_eq_true (List.all_eq_true.mp dsX1_readSum_0_ok (61, (.iinc 2 1, 3)) (List.mem_of_getElem? (i := 31) rfl))
theorem dX1_readSum_64 : decode cX1_readSum 64 = .ok (.goto (-50), 3) := of_decide_eq_true (List.all_eq_true.mp dsX1_readSum_0_ok (64, (.goto (-50), 3)) (List.mem_of_getElem? (i := 32) rfl))
theorem dX1_readSum_67 : decode cX1_readSum 67 = .ok (.return_, 1) := of_decide_eq_true (List.all_eq_true.mp dsX1_readSum_0_ok (67, (.return_, 1)) (List.mem_of_getElem? (i := 33) rfl))
def fX1_readSum_b33 (N : Nat) (text_kindsF : Nat → Int32) (text_startsF : Nat → Int32) (text_valuesF : Nat → Int32) (text_kindsN : Nat) (text_startsN : Nat) (text_valuesN : Nat) (fr_codeN : Nat) (k_readProduct : (Nat → Int32) → (Nat → Int32) → (Nat → Int32) → Option ((Nat → Int32) × (Nat → Int32) × (Nat → Int32))) (k14 : ((Nat → Int32) × (Nat → Int32) × (Nat → Int32) × Int32 × Int32) → Option ((Nat → Int32) × (Nat → Int32) × (Nat → Int32))) : ((Nat → Int32) × (Nat → Int32) × (Nat → Int32) × Int32 × Int32) → Option ((Nat → Int32) × (Nat → Int32) × (Nat → Int32)) :=
  fun (frI_33, textI_33, fr_codeF_33, x1_33, x2_33) => (xq_bd (fX10_next N textI_33) fun r_1 => (xq_bd (k_readProduct frI_33 r_1 fr_codeF_33) fun (r_3_0, r_3_1, r_3_2) => (xq_bd (fX1_emit N r_3_0 r_3_2 fr_codeN (20000 + x1_33)) fun (r_5_0, r_5_1) => (xq_bd (fX10_piece N r_3_1 text_kindsF text_kindsN) fun r_7 => k14 (r_5_0, r_3_1, r_5_1, r_7, x2_33 + 1)))))
def fX1_readSum_l14 (N : Nat) (text_kindsF : Nat → Int32) (text_startsF : Nat → Int32) (text_valuesF : Nat → Int32) (text_kindsN : Nat) (text_startsN : Nat) (text_valuesN : Nat) (fr_codeN : Nat) (k_readProduct : (Nat → Int32) → (Nat → Int32) → (Nat → Int32) → Option ((Nat → Int32) × (Nat → Int32) × (Nat → Int32))) (k14 : ((Nat → Int32) × (Nat → Int32) × (Nat → Int32) × Int32 × Int32) → Option ((Nat → Int32) × (Nat → Int32) × (Nat → Int32))) : ((Nat → Int32) × (Nat → Int32) × (Nat → Int32) × Int32 × Int32) → Option ((Nat → Int32) × (Nat → Int32) × (Nat → Int32)) :=
  fun (frI_14, textI_14, fr_codeF_14, x1_14, x2_14) => (if 1600 ≤ x2_14 then some ((frI_14, textI_14, fr_codeF_14)) else (if x1_14 = 43 then fX1_readSum_b33 N text_kindsF text_startsF text_valuesF text_kindsN text_startsN text_valuesN fr_codeN k_readProduct k14 (frI_14, textI_14, fr_codeF_14, x1_14, x2_14) else (if x1_14 = 45 then fX1_readSum_b33 N text_kindsF text_startsF text_valuesF text_kindsN text_startsN text_valuesN fr_codeN k_readProduct k14 (frI_14, textI_14, fr_codeF_14, x1_14, x2_14) else some ((frI_14, textI_14, fr_codeF_14)))))
def fX1_readSum (N : Nat) (text_kindsF : Nat → Int32) (text_startsF : Nat → Int32) (text_valuesF : Nat → Int32) (text_kindsN : Nat) (text_startsN : Nat) (text_valuesN : Nat) (fr_codeN : Nat) (k_readProduct : (Nat → Int32) → (Nat → Int32) → (Nat → Int32) → Option ((Nat → Int32) × (Nat → Int32) × (Nat → Int32))) (frI textI fr_codeF : Nat → Int32) : Option ((Nat → Int32) × (Nat → Int32) × (Nat → Int32)) :=
  (xq_bd (k_readProduct frI textI fr_codeF) fun (r_1_0, r_1_1, r_1_2) => (xq_bd (fX10_piece N r_1_1 text_kindsF text_kindsN) fun r_3 => xq_loop (fX1_readSum_l14 N text_kindsF text_startsF text_valuesF text_kindsN text_startsN text_valuesN fr_codeN k_readProduct) N (r_1_0, r_1_1, r_1_2, r_3, 0)))
set_option maxHeartbeats 4000000 in
set_option maxRecDepth 100000 in
theorem kX1_readSum (l : Launch) (dC : Nat → ClassId) (dI : Nat → Nat → Nat) (cI cB cJ cZ cM : ClassId) (z : Nat) (ad : Nat → Nat) (N : Nat) (a_p0 : Nat) (frR textR : Nat → Nat) (text_kindsF : Nat → Int32) (text_startsF : Nat → Int32) (text_valuesF : Nat → Int32) (text_kindsN : Nat) (text_startsN : Nat) (text_valuesN : Nat) (fr_codeN : Nat) {FM LM : Nat} (hFM : 1 ≤ FM) (hLM : 21 ≤ LM) (k_readProduct : (Nat → Int32) → (Nat → Int32) → (Nat → Int32) → Option ((Nat → Int32) × (Nat → Int32) × (Nat → Int32)))  {F_readProduct L_readProduct : Nat} (hF_readProduct : F_readProduct + 1 ≤ FM) (hL_readProduct : 8 + (3 + 11) + L_readProduct ≤ LM) (h_readProduct : ∀ (x0 x1 x2 : Nat → Int32) (y0 y1 y2 : Nat → Int32), k_readProduct x0 x1 x2 = some (y0, y1, y2) → xq_Ct l yX1_readProduct wsX1_readProduct { frames := F_readProduct, cells := 0, slots := 0, locals := L_readProduct } (dC, dI) vwCl (xq_tys cI cB cJ cZ cM) z ad [.ref a_p0] [(a_p0, .inr (1, oX1 x0 frR)), ((frR 0), .inr (10, oX10 x1 textR)), ((textR 1), .inl (cI, text_kindsN, .inl text_kindsF)), ((textR 2), .inl (cI, text_startsN, .inl text_startsF)), ((textR 3), .inl (cI, text_valuesN, .inl text_valuesF)), ((frR 1), .inl (cI, fr_codeN, .inl x2))] [(a_p0, .inr (1, oX1 y0 frR)), ((frR 0), .inr (10, oX10 y1 textR)), ((textR 1), .inl (cI, text_kindsN, .inl text_kindsF)), ((textR 2), .inl (cI, text_startsN, .inl text_startsF)), ((textR 3), .inl (cI, text_valuesN, .inl text_valuesF)), ((frR 1), .inl (cI, fr_codeN, .inl y2))] none) (frI textI fr_codeF : Nat → Int32) {r0 r1 r2 : Nat → Int32} (hf : fX1_readSum N text_kindsF text_startsF text_valuesF text_kindsN text_startsN text_valuesN fr_codeN k_readProduct frI textI fr_codeF = some (r0, r1, r2)) : xq_Ct l yX1_readSum wsX1_readSum { frames := FM, cells := 0, slots := 0, locals := LM } (dC, dI) vwCl (xq_tys cI cB cJ cZ cM) z ad [.ref a_p0] [(a_p0, .inr (1, oX1 frI frR)), ((frR 0), .inr (10, oX10 textI textR)), ((textR 1), .inl (cI, text_kindsN, .inl text_kindsF)), ((textR 2), .inl (cI, text_startsN, .inl text_startsF)), ((textR 3), .inl (cI, text_valuesN, .inl text_valuesF)), ((frR 1), .inl (cI, fr_codeN, .inl fr_codeF))] [(a_p0, .inr (1, oX1 r0 frR)), ((frR 0), .inr (10, oX10 r1 textR)), ((textR 1), .inl (cI, text_kindsN, .inl text_kindsF)), ((textR 2), .inl (cI, text_startsN, .inl text_startsF)), ((textR 3), .inl (cI, text_valuesN, .inl text_valuesF)), ((frR 1), .inl (cI, fr_codeN, .inl r2))] none := by
  intro sz
  refine Met.ofW (cc := cX1_readSum) (maxL := 3) (ret := none) (by decide) rfl ?_
  intro p e s m args below meth c s₁ B hml hv
  obtain ⟨rfl, hsz, hP, hK, hD0, hE, hz⟩ := hv
  have hx := B.exec
  have hb := B.bytes
  have hr := B.returns
  have hts := atoms_spec (ws := wsX1_readSum) B.pre
  have hown : s.vm.findClass RX1 = some m.cls := findClass_of_methodNamed B.named
  have hlocks := B.notSynchronized
  subst hsz
  have hD := hD0.self (sz := s.heap.size)
  have hN := xq_Env.of hE hz hD0
  generalize hAe : va_A [(a_p0, .inr (1, oX1 frI frR)), ((frR 0), .inr (10, oX10 textI textR)), ((textR 1), .inl (cI, text_kindsN, .inl text_kindsF)), ((textR 2), .inl (cI, text_startsN, .inl text_startsF)), ((textR 3), .inl (cI, text_valuesN, .inl text_valuesF)), ((frR 1), .inl (cI, fr_codeN, .inl fr_codeF))] s.heap.size = A at hD hN ⊢
  have hA : ∀ q : Nat, s.heap.size ≤ q → A q := fun q h => by rw [← hAe]; exact Or.inr h
  clear hAe hD0
  have hS : va_S A s.heap s.heap [] := va_S.rf
  have hl := lv_entry ([.ref a_p0]) (n := 3) (Nat.le_of_ble_eq_true rfl)
  rw [lg_entry_eq]
  generalize (lg_sl ([.ref a_p0]) ++ List.replicate (3 - (lg_sl ([.ref a_p0])).length) Slot.unset).toArray = ls at hl ⊢
  have hl : lv_has ls 3 [(0, .ref a_p0)] := hl
  have hw0 := hts (.fieldLink RX1 21 "DistantVoice$FormulaReader" "text" "LDistantVoice$Text;") (by decide +kernel)
  have hinX1 : ∀ w ∈ wsX10, w ∈ wsX1_readSum := fun w h => List.mem_cons_of_mem _ (List.mem_append_left _ (List.mem_append_right _ h))
  have l14 : ∀ n14 : Nat, ∀ (frI_14 : Nat → Int32) (textI_14 : Nat → Int32) (fr_codeF_14 : Nat → Int32) (x1_14 : Int32) (x2_14 : Int32) (ls : Array Slot) (H : Heap) (locs : List Loc), xq_loop (fX1_readSum_l14 N text_kindsF text_startsF text_valuesF text_kindsN text_startsN text_valuesN fr_codeN k_readProduct) n14 (frI_14, textI_14, fr_codeF_14, x1_14, x2_14) = some (r0, r1, r2) → va_P (dC, dI) vwCl [(a_p0, .inr (1, oX1 frI_14 frR)), ((frR 0), .inr (10, oX10 textI_14 textR)), ((textR 1), .inl (cI, text_kindsN, .inl text_kindsF)), ((textR 2), .inl (cI, text_startsN, .inl text_startsF)), ((textR 3), .inl (cI, text_valuesN, .inl text_valuesF)), ((frR 1), .inl (cI, fr_codeN, .inl fr_codeF_14))] H → va_D A [(a_p0, .inr (1, oX1 frI_14 frR)), ((frR 0), .inr (10, oX10 textI_14 textR)), ((textR 1), .inl (cI, text_kindsN, .inl text_kindsF)), ((textR 2), .inl (cI, text_startsN, .inl text_startsF)), ((textR 3), .inl (cI, text_valuesN, .inl text_valuesF)), ((frR 1), .inl (cI, fr_codeN, .inl fr_codeF_14))] → va_S A s.heap H locs → lv_has ls 3 [(0, .ref a_p0), (1, .int x1_14), (2, .int x2_14)] → W p l e (headSpec wsX1_readSum { frames := FM, cells := 0, slots := 0, locals := LM }).room s m [.ref a_p0].toArray below meth c H locs 0 0 (MQ below (xq_Q (dC, dI) vwCl (xq_tys cI cB cJ cZ cM) A [(a_p0, .inr (1, oX1 r0 frR)), ((frR 0), .inr (10, oX10 r1 textR)), ((textR 1), .inl (cI, text_kindsN, .inl text_kindsF)), ((textR 2), .inl (cI, text_startsN, .inl text_startsF)), ((textR 3), .inl (cI, text_valuesN, .inl text_valuesF)), ((frR 1), .inl (cI, fr_codeN, .inl r2))] none) [.ref a_p0].toArray s 0 0 A) (F0 m 14 ls []) := by
    intro n14
    induction n14 with
    | zero => intro frI_14 textI_14 fr_codeF_14 x1_14 x2_14 ls H locs hf; cases (show none = some (r0, r1, r2) from hf)
    | succ n14 ih14 =>
      have b33 : ∀ (frI_33 : Nat → Int32) (textI_33 : Nat → Int32) (fr_codeF_33 : Nat → Int32) (x1_33 : Int32) (x2_33 : Int32) (ls : Array Slot) (H : Heap) (locs : List Loc), fX1_readSum_b33 N text_kindsF text_startsF text_valuesF text_kindsN text_startsN text_valuesN fr_codeN k_readProduct (xq_loop (fX1_readSum_l14 N text_kindsF text_startsF text_valuesF text_kindsN text_startsN text_valuesN fr_codeN k_readProduct) n14) (frI_33, textI_33, fr_codeF_33, x1_33, x2_33) = some (r0, r1, r2) → va_P (dC, dI) vwCl [(a_p0, .inr (1, oX1 frI_33 frR)), ((frR 0), .inr (10, oX10 textI_33 textR)), ((textR 1), .inl (cI, text_kindsN, .inl text_kindsF)), ((textR 2), .inl (cI, text_startsN, .inl text_startsF)), ((textR 3), .inl (cI, text_valuesN, .inl text_valuesF)), ((frR 1), .inl (cI, fr_codeN, .inl fr_codeF_33))] H → va_D A [(a_p0, .inr (1, oX1 frI_33 frR)), ((frR 0), .inr (10, oX10 textI_33 textR)), ((textR 1), .inl (cI, text_kindsN, .inl text_kindsF)), ((textR 2), .inl (cI, text_startsN, .inl text_startsF)), ((textR 3), .inl (cI, text_valuesN, .inl text_valuesF)), ((frR 1), .inl (cI, fr_codeN, .inl fr_codeF_33))] → va_S A s.heap H locs → lv_has ls 3 [(0, .ref a_p0), (1, .int x1_33), (2, .int x2_33)] → W p l e (headSpec wsX1_readSum { frames := FM, cells := 0, slots := 0, locals := LM }).room s m [.ref a_p0].toArray below meth c H locs 0 0 (MQ below (xq_Q (dC, dI) vwCl (xq_tys cI cB cJ cZ cM) A [(a_p0, .inr (1, oX1 r0 frR)), ((frR 0), .inr (10, oX10 r1 textR)), ((textR 1), .inl (cI, text_kindsN, .inl text_kindsF)), ((textR 2), .inl (cI, text_startsN, .inl text_startsF)), ((textR 3), .inl (cI, text_valuesN, .inl text_valuesF)), ((frR 1), .inl (cI, fr_codeN, .inl r2))] none) [.ref a_p0].toArray s 0 0 A) (F0 m 33 ls []) := by
        intro frI_33 textI_33 fr_codeF_33 x1_33 x2_33 ls H locs hf hP hD hS hl
        unfold fX1_readSum_b33 at hf
        refine lv_aload_n hx hb dX1_readSum_33 rfl (lv_at hl 0 rfl) ?_
        refine va_get (D := (dC, dI)) (ci := 1) (v := .ref ((frR 0))) (C := RX1) (T := TX1) (N := 5) hx hb hts hinX1 hown hK hP 0 rfl rfl 0 (by decide) hw0 (fun _ h9 => h9) rfl dX1_readSum_34 ?_
        obtain ⟨r_1, h_2, hf⟩ := xq_bd_some hf
        refine xq_callV (As := []) (rest := []) (ci := 10) (q0 := 1) ⟨hx, hb, hml, hown, hts⟩ (kX10_next l dC dI cI cB cJ cZ cM z ad N ((frR 0)) textI_33 textR h_2) (cwV 0 hts gX1_readSum_X10_next rfl rfl rfl (by decide +kernel) ⟨Nat.le_trans (Nat.le_of_ble_eq_true rfl) hFM, Nat.le_trans (Nat.le_of_ble_eq_true rfl) hLM⟩) hN hK hP hD hS hA [1] (by decide) rfl rfl rfl rfl rfl rfl hl.1 rfl (Nat.le_of_ble_eq_true rfl) dX1_readSum_37 ⟨Nat.zero_le _, Nat.zero_le _⟩ (fun H locs hP hD hS => ?_)
        have hP : va_P (dC, dI) vwCl [(a_p0, .inr (1, oX1 frI_33 frR)), ((frR 0), .inr (10, oX10 r_1 textR)), ((textR 1), .inl (cI, text_kindsN, .inl text_kindsF)), ((textR 2), .inl (cI, text_startsN, .inl text_startsF)), ((textR 3), .inl (cI, text_valuesN, .inl text_valuesF)), ((frR 1), .inl (cI, fr_codeN, .inl fr_codeF_33))] H := hP
        have hD : va_D A [(a_p0, .inr (1, oX1 frI_33 frR)), ((frR 0), .inr (10, oX10 r_1 textR)), ((textR 1), .inl (cI, text_kindsN, .inl text_kindsF)), ((textR 2), .inl (cI, text_startsN, .inl text_startsF)), ((textR 3), .inl (cI, text_valuesN, .inl text_valuesF)), ((frR 1), .inl (cI, fr_codeN, .inl fr_codeF_33))] := hD
        refine W.eq (g2 := F0 m 40 ls []) rfl ?_
        refine lv_aload_n hx hb dX1_readSum_40 rfl (lv_at hl 0 rfl) ?_
        obtain ⟨⟨r_3_0, r_3_1, r_3_2⟩, h_4, hf⟩ := xq_bd_some hf
        refine xq_callV (As := []) (rest := []) (ci := 1) (q0 := 0) ⟨hx, hb, hml, hown, hts⟩ (h_readProduct frI_33 r_1 fr_codeF_33 _ _ _ h_4) (cwV 0 hts gX1_readSum_X1_readProduct rfl rfl rfl (by decide +kernel) ⟨hF_readProduct, hL_readProduct⟩) hN hK hP hD hS hA [0, 1, 2, 3, 4, 5] (by decide) rfl rfl rfl rfl rfl rfl hl.1 rfl (Nat.le_of_ble_eq_true rfl) dX1_readSum_41 ⟨Nat.zero_le _, Nat.zero_le _⟩ (fun H locs hP hD hS => ?_)
        have hP : va_P (dC, dI) vwCl [(a_p0, .inr (1, oX1 r_3_0 frR)), ((frR 0), .inr (10, oX10 r_3_1 textR)), ((textR 1), .inl (cI, text_kindsN, .inl text_kindsF)), ((textR 2), .inl (cI, text_startsN, .inl text_startsF)), ((textR 3), .inl (cI, text_valuesN, .inl text_valuesF)), ((frR 1), .inl (cI, fr_codeN, .inl r_3_2))] H := hP
        have hD : va_D A [(a_p0, .inr (1, oX1 r_3_0 frR)), ((frR 0), .inr (10, oX10 r_3_1 textR)), ((textR 1), .inl (cI, text_kindsN, .inl text_kindsF)), ((textR 2), .inl (cI, text_startsN, .inl text_startsF)), ((textR 3), .inl (cI, text_valuesN, .inl text_valuesF)), ((frR 1), .inl (cI, fr_codeN, .inl r_3_2))] := hD
        refine W.eq (g2 := F0 m 44 ls []) rfl ?_
        refine lv_aload_n hx hb dX1_readSum_44 rfl (lv_at hl 0 rfl) ?_
        refine lv_sipush (v := 20000) hx hb dX1_readSum_45 (by decide) ?_
        refine lv_iload_n hx hb dX1_readSum_48 rfl (lv_at hl 1 rfl) ?_
        refine lv_iadd hx hb dX1_readSum_49 ?_
        obtain ⟨⟨r_5_0, r_5_1⟩, h_6, hf⟩ := xq_bd_some hf
        refine xq_callV (As := [.int (20000 + x1_33)]) (rest := []) (ci := 1) (q0 := 0) ⟨hx, hb, hml, hown, hts⟩ (kX1_emit l dC dI cI cB cJ cZ cM z ad N a_p0 r_3_0 frR r_3_2 fr_codeN (20000 + x1_33) h_6) (cwV 1 hts gX1_readSum_X1_emit rfl rfl rfl (by decide +kernel) ⟨Nat.le_trans (Nat.le_of_ble_eq_true rfl) hFM, Nat.le_trans (Nat.le_of_ble_eq_true rfl) hLM⟩) hN hK hP hD hS hA [0, 5] (by decide) rfl rfl rfl rfl rfl rfl hl.1 rfl (Nat.le_of_ble_eq_true rfl) dX1_readSum_50 ⟨Nat.zero_le _, Nat.zero_le _⟩ (fun H locs hP hD hS => ?_)
        have hP : va_P (dC, dI) vwCl [(a_p0, .inr (1, oX1 r_5_0 frR)), ((frR 0), .inr (10, oX10 r_3_1 textR)), ((textR 1), .inl (cI, text_kindsN, .inl text_kindsF)), ((textR 2), .inl (cI, text_startsN, .inl text_startsF)), ((textR 3), .inl (cI, text_valuesN, .inl text_valuesF)), ((frR 1), .inl (cI, fr_codeN, .inl r_5_1))] H := hP
        have hD : va_D A [(a_p0, .inr (1, oX1 r_5_0 frR)), ((frR 0), .inr (10, oX10 r_3_1 textR)), ((textR 1), .inl (cI, text_kindsN, .inl text_kindsF)), ((textR 2), .inl (cI, text_startsN, .inl text_startsF)), ((textR 3), .inl (cI, text_valuesN, .inl text_valuesF)), ((frR 1), .inl (cI, fr_codeN, .inl r_5_1))] := hD
        refine W.eq (g2 := F0 m 53 ls []) rfl ?_
        refine lv_aload_n hx hb dX1_readSum_53 rfl (lv_at hl 0 rfl) ?_
        refine va_get (D := (dC, dI)) (ci := 1) (v := .ref ((frR 0))) (C := RX1) (T := TX1) (N := 5) hx hb hts hinX1 hown hK hP 0 rfl rfl 0 (by decide) hw0 (fun _ h9 => h9) rfl dX1_readSum_54 ?_
        obtain ⟨r_7, h_8, hf⟩ := xq_bd_some hf
        refine xq_callV (As := []) (rest := []) (ci := 10) (q0 := 1) ⟨hx, hb, hml, hown, hts⟩ (kX10_piece l dC dI cI cB cJ cZ cM z ad N ((frR 0)) r_3_1 textR text_kindsF text_kindsN h_8) (cwV 0 hts gX1_readSum_X10_piece rfl rfl rfl (by decide +kernel) ⟨Nat.le_trans (Nat.le_of_ble_eq_true rfl) hFM, Nat.le_trans (Nat.le_of_ble_eq_true rfl) hLM⟩) hN hK hP hD hS hA [1, 2] (by decide) rfl rfl rfl rfl rfl rfl hl.1 rfl (Nat.le_of_ble_eq_true rfl) dX1_readSum_57 ⟨Nat.zero_le _, Nat.zero_le _⟩ (fun H locs hP hD hS => ?_)
        have hP : va_P (dC, dI) vwCl [(a_p0, .inr (1, oX1 r_5_0 frR)), ((frR 0), .inr (10, oX10 r_3_1 textR)), ((textR 1), .inl (cI, text_kindsN, .inl text_kindsF)), ((textR 2), .inl (cI, text_startsN, .inl text_startsF)), ((textR 3), .inl (cI, text_valuesN, .inl text_valuesF)), ((frR 1), .inl (cI, fr_codeN, .inl r_5_1))] H := hP
        have hD : va_D A [(a_p0, .inr (1, oX1 r_5_0 frR)), ((frR 0), .inr (10, oX10 r_3_1 textR)), ((textR 1), .inl (cI, text_kindsN, .inl text_kindsF)), ((textR 2), .inl (cI, text_startsN, .inl text_startsF)), ((textR 3), .inl (cI, text_valuesN, .inl text_valuesF)), ((frR 1), .inl (cI, fr_codeN, .inl r_5_1))] := hD
        refine W.eq (g2 := F0 m 60 ls [.int r_7]) rfl ?_
        refine lv_istore_n (lv' := [(1, .int r_7), (0, .ref a_p0), (2, .int x2_33)]) hx hb dX1_readSum_60 rfl hl (by decide) rfl (fun ls hl => ?_)
        refine lv_iinc (v := x2_33 + 1) (lv' := [(2, .int (x2_33 + 1)), (1, .int r_7), (0, .ref a_p0)]) hx hb dX1_readSum_61 hl (k := 2) rfl (congrArg (fun q9 => x2_33 + q9) (by decide : Int32.ofInt 1 = 1)) (by decide) rfl (fun ls hl => ?_)
        refine lv_goto (tgt := 14) hx hb dX1_readSum_64 (by decide) ?_
        exact ih14 r_5_0 r_3_1 r_5_1 r_7 (x2_33 + 1) _ _ _ hf hP hD hS (lv_sub hl [2, 1, 0] rfl)
      intro frI_14 textI_14 fr_codeF_14 x1_14 x2_14 ls H locs hf hP hD hS hl
      have hf : fX1_readSum_l14 N text_kindsF text_startsF text_valuesF text_kindsN text_startsN text_valuesN fr_codeN k_readProduct (xq_loop (fX1_readSum_l14 N text_kindsF text_startsF text_valuesF text_kindsN text_startsN text_valuesN fr_codeN k_readProduct) n14) (frI_14, textI_14, fr_codeF_14, x1_14, x2_14) = some (r0, r1, r2) := hf
      unfold fX1_readSum_l14 at hf
      refine lv_iload_n hx hb dX1_readSum_14 rfl (lv_at hl 2 rfl) ?_
      refine lv_sipush (v := 1600) hx hb dX1_readSum_15 (by decide) ?_
      refine lv_icmp_ge (tgt := 67) hx hb dX1_readSum_18 (by decide) (fun c_ => ?_) (fun c_ => ?_)
      · have hf := xq_pos hf c_
        cases hf
        exact xq_vret hx hb hr hlocks hK hP hD hS dX1_readSum_67
      · have hf := xq_neg hf c_
        refine lv_iload_n hx hb dX1_readSum_21 rfl (lv_at hl 1 rfl) ?_
        refine lv_bipush (v := 43) hx hb dX1_readSum_22 (by decide) ?_
        refine lv_icmp_eq (tgt := 33) hx hb dX1_readSum_24 (by decide) (fun c_ => ?_) (fun c_ => ?_)
        · have hf := xq_pos hf c_
          exact b33 frI_14 textI_14 fr_codeF_14 x1_14 x2_14 _ _ _ hf hP hD hS (lv_sub hl [0, 1, 2] rfl)
        · have hf := xq_neg hf c_
          refine lv_iload_n hx hb dX1_readSum_27 rfl (lv_at hl 1 rfl) ?_
          refine lv_bipush (v := 45) hx hb dX1_readSum_28 (by decide) ?_
          refine lv_icmp_ne (tgt := 67) hx hb dX1_readSum_30 (by decide) (fun c_ => ?_) (fun c_ => ?_)
          · have hf := xq_neg hf c_
            cases hf
            exact xq_vret hx hb hr hlocks hK hP hD hS dX1_readSum_67
          · have hf := xq_pos hf c_
            exact b33 frI_14 textI_14 fr_codeF_14 x1_14 x2_14 _ _ _ hf hP hD hS (lv_sub hl [0, 1, 2] rfl)
  unfold fX1_readSum at hf
  refine lv_aload_n hx hb dX1_readSum_0 rfl (lv_at hl 0 rfl) ?_
  obtain ⟨⟨r_1_0, r_1_1, r_1_2⟩, h_2, hf⟩ := xq_bd_some hf
  refine xq_callV (As := []) (rest := []) (ci := 1) (q0 := 0) ⟨hx, hb, hml, hown, hts⟩ (h_readProduct frI textI fr_codeF _ _ _ h_2) (cwV 0 hts gX1_readSum_X1_readProduct rfl rfl rfl (by decide +kernel) ⟨hF_readProduct, hL_readProduct⟩) hN hK hP hD hS hA [0, 1, 2, 3, 4, 5] (by decide) rfl rfl rfl rfl rfl rfl hl.1 rfl (Nat.le_of_ble_eq_true rfl) dX1_readSum_1 ⟨Nat.zero_le _, Nat.zero_le _⟩ (fun H locs hP hD hS => ?_)
  have hP : va_P (dC, dI) vwCl [(a_p0, .inr (1, oX1 r_1_0 frR)), ((frR 0), .inr (10, oX10 r_1_1 textR)), ((textR 1), .inl (cI, text_kindsN, .inl text_kindsF)), ((textR 2), .inl (cI, text_startsN, .inl text_startsF)), ((textR 3), .inl (cI, text_valuesN, .inl text_valuesF)), ((frR 1), .inl (cI, fr_codeN, .inl r_1_2))] H := hP
  have hD : va_D A [(a_p0, .inr (1, oX1 r_1_0 frR)), ((frR 0), .inr (10, oX10 r_1_1 textR)), ((textR 1), .inl (cI, text_kindsN, .inl text_kindsF)), ((textR 2), .inl (cI, text_startsN, .inl text_startsF)), ((textR 3), .inl (cI, text_valuesN, .inl text_valuesF)), ((frR 1), .inl (cI, fr_codeN, .inl r_1_2))] := hD
  refine W.eq (g2 := F0 m 4 ls []) rfl ?_
  refine lv_aload_n hx hb dX1_readSum_4 rfl (lv_at hl 0 rfl) ?_
  refine va_get (D := (dC, dI)) (ci := 1) (v := .ref ((frR 0))) (C := RX1) (T := TX1) (N := 5) hx hb hts hinX1 hown hK hP 0 rfl rfl 0 (by decide) hw0 (fun _ h9 => h9) rfl dX1_readSum_5 ?_
  obtain ⟨r_3, h_4, hf⟩ := xq_bd_some hf
  refine xq_callV (As := []) (rest := []) (ci := 10) (q0 := 1) ⟨hx, hb, hml, hown, hts⟩ (kX10_piece l dC dI cI cB cJ cZ cM z ad N ((frR 0)) r_1_1 textR text_kindsF text_kindsN h_4) (cwV 0 hts gX1_readSum_X10_piece rfl rfl rfl (by decide +kernel) ⟨Nat.le_trans (Nat.le_of_ble_eq_true rfl) hFM, Nat.le_trans (Nat.le_of_ble_eq_true rfl) hLM⟩) hN hK hP hD hS hA [1, 2] (by decide) rfl rfl rfl rfl rfl rfl hl.1 rfl (Nat.le_of_ble_eq_true rfl) dX1_readSum_8 ⟨Nat.zero_le _, Nat.zero_le _⟩ (fun H locs hP hD hS => ?_)
  have hP : va_P (dC, dI) vwCl [(a_p0, .inr (1, oX1 r_1_0 frR)), ((frR 0), .inr (10, oX10 r_1_1 textR)), ((textR 1), .inl (cI, text_kindsN, .inl text_kindsF)), ((textR 2), .inl (cI, text_startsN, .inl text_startsF)), ((textR 3), .inl (cI, text_valuesN, .inl text_valuesF)), ((frR 1), .inl (cI, fr_codeN, .inl r_1_2))] H := hP
  have hD : va_D A [(a_p0, .inr (1, oX1 r_1_0 frR)), ((frR 0), .inr (10, oX10 r_1_1 textR)), ((textR 1), .inl (cI, text_kindsN, .inl text_kindsF)), ((textR 2), .inl (cI, text_startsN, .inl text_startsF)), ((textR 3), .inl (cI, text_valuesN, .inl text_valuesF)), ((frR 1), .inl (cI, fr_codeN, .inl r_1_2))] := hD
  refine W.eq (g2 := F0 m 11 ls [.int r_3]) rfl ?_
  refine lv_istore_n (lv' := [(1, .int r_3), (0, .ref a_p0)]) hx hb dX1_readSum_11 rfl hl (by decide) rfl (fun ls hl => ?_)
  refine lv_iconst (v := 0) hx hb dX1_readSum_12 (by decide) ?_
  refine lv_istore_n (lv' := [(2, .int 0), (1, .int r_3), (0, .ref a_p0)]) hx hb dX1_readSum_13 rfl hl (by decide) rfl (fun ls hl => ?_)
  exact l14 N r_1_0 r_1_1 r_1_2 r_3 0 _ _ _ hf hP hD hS (lv_sub hl [2, 1, 0] rfl)
set_option maxRecDepth 20000 in
theorem ggX1_readComparison_X10_piece : GoodIn wsX1_readComparison wsX10_piece := goodIn_r _ [6, 7, 8, 9, 10, 94, 95, 96, 97, 98, 99, 100, 101] rfl (by decide +kernel)
set_option maxRecDepth 20000 in
theorem gX1_readComparison_X10_piece : GoodIn wsX1_readComparison (wsV RX1 49 RX10 yX10_piece wsX10_piece) := goodIn_app (goodIn_of _ (by decide +kernel)) ggX1_readComparison_X10_piece
set_option maxRecDepth 20000 in
theorem ggX1_readComparison_X10_wrong : GoodIn wsX1_readComparison wsX10_wrong := goodIn_r _ [14, 7, 8, 9, 10, 15, 16, 17, 94, 95, 96, 97, 98, 99, 100, 101] rfl (by decide +kernel)
set_option maxRecDepth 20000 in
theorem gX1_readComparison_X10_wrong : GoodIn wsX1_readComparison (wsV RX1 72 RX10 yX10_wrong wsX10_wrong) := goodIn_app (goodIn_of _ (by decide +kernel)) ggX1_readComparison_X10_wrong
set_option maxRecDepth 20000 in
theorem ggX1_readComparison_X10_next : GoodIn wsX1_readComparison wsX10_next := goodIn_r _ [21, 8, 9, 94, 95, 96, 97, 98, 99, 100, 101] rfl (by decide +kernel)
set_option maxRecDepth 20000 in
theorem gX1_readComparison_X10_next : GoodIn wsX1_readComparison (wsV RX1 53 RX10 yX10_next wsX10_next) := goodIn_app (goodIn_of _ (by decide +kernel)) ggX1_readComparison_X10_next
set_option maxRecDepth 20000 in
theorem ggX1_readComparison_X1_readSum : GoodIn wsX1_readComparison wsX1_readSum := goodIn_r _ [81, 1, 82, 83, 84, 25, 2, 3, 4, 5, 6, 7, 8, 9, 10, 18, 19, 20, 21, 26, 27, 28, 29, 30, 31, 32, 33, 34, 35, 36, 37, 11, 12, 13, 14, 15, 16, 17, 38, 39, 40, 41, 42, 43, 44, 45, 46, 47, 48, 49, 50, 51, 52, 53, 54, 55, 22, 23, 24, 0, 56, 57, 58, 59, 60, 61, 62, 63, 64, 65, 66, 67, 68, 69, 70, 71, 72, 73, 74, 75, 76, 77, 78, 79, 80, 85, 86, 87, 88, 89, 90, 91, 92, 93, 94, 95, 96, 97, 98, 99, 100, 101] rfl (by decide +kernel)
set_option maxRecDepth 20000 in
theorem gX1_readComparison_X1_readSum : GoodIn wsX1_readComparison (wsV RX1 37 RX1 yX1_readSum wsX1_readSum) := goodIn_app (goodIn_of _ (by decide +kernel)) ggX1_readComparison_X1_readSum
set_option maxRecDepth 20000 in
theorem ggX1_readComparison_X1_emit : GoodIn wsX1_readComparison wsX1_emit := goodIn_r _ [29, 30, 31, 89, 90, 91, 92, 93] rfl (by decide +kernel)
set_option maxRecDepth 20000 in
theorem gX1_readComparison_X1_emit : GoodIn wsX1_readComparison (wsV RX1 56 RX1 yX1_emit wsX1_emit) := goodIn_app (goodIn_of _ (by decide +kernel)) ggX1_readComparison_X1_emit
def dsX1_readComparison_0 : List (Nat × Instr × Nat) := [(0, (.aload_n 0, 1)), (1, (.getfield 21, 3)), (4, (.invokevirtual 49, 3)), (7, (.istore_n 1, 1)), (8, (.iload_n 1, 1)), (9, (.bipush 60, 2)), (11, (.if_icmp .eq 23, 3)), (14, (.iload_n 1, 1)), (15, (.bipush 62, 2)), (17, (.if_icmp .eq 17, 3)), (20, (.iload_n 1, 1)), (21, (.bipush 61, 2)), (23, (.if_icmp .eq 11, 3)), (26, (.aload_n 0, 1)), (27, (.getfield 21, 3)), (30, (.invokevirtual 72, 3)), (33, (.return_, 1)), (34, (.aload_n 0, 1)), (35, (.getfield 21, 3)), (38, (.invokevirtual 53, 3)), (41, (.aload_n 0, 1)), (42, (.invokevirtual 37, 3)), (45, (.aload_n 0, 1)), (46, (.sipush 20000, 3)), (49, (.iload_n 1, 1)), (50, (.iadd, 1)), (51, (.invokevirtual 56, 3)), (54, (.return_, 1))]
theorem dsX1_readComparison_0_ok : (dsX1_readComparison_0.all fun q => decide (decode cX1_readComparison q.1 = .ok q.2)) = true := by decide +kernel
theorem dX1_readComparison_0 : decode cX1_readComparison 0 = .ok (.aload_n 0, 1) := of_decide_eq_true (List.all_eq_true.mp dsX1_readComparison_0_ok (0, (.aload_n 0, 1)) (List.mem_of_getElem? (i := 0) rfl))
theorem dX1_readComparison_1 : decode cX1_readComparison 1 = .ok (.getfield 21, 3) := of_decide_eq_true (List.all_eq_true.mp dsX1_readComparison_0_ok (1, (.getfield 21, 3)) (List.mem_of_getElem? (i := 1) rfl))
theorem dX1_readComparison_4 : decode cX1_readComparison 4 = .ok (.invokevirtual 49, 3) := of_decide_eq_true (List.all_eq_true.mp dsX1_readComparison_0_ok (4, (.invokevirtual 49, 3)) (List.mem_of_getElem? (i := 2) rfl))
theorem dX1_readComparison_7 : decode cX1_readComparison 7 = .ok (.istore_n 1, 1) := of_decide_eq_true (List.all_eq_true.mp dsX1_readComparison_0_ok (7, (.istore_n 1, 1)) (List.mem_of_getElem? (i := 3) rfl))
theorem dX1_readComparison_8 : decode cX1_readComparison 8 = .ok (.iload_n 1, 1) := of_decide_eq_true (List.all_eq_true.mp dsX1_readComparison_0_ok (8, (.iload_n 1, 1)) (List.mem_of_getElem? (i := 4) rfl))
theorem dX1_readComparison_9 : decode cX1_readComparison 9 = .ok (.bipush 60, 2) := of_decide_eq_true (List.all_eq_true.mp dsX1_readComparison_0_ok (9, (.bipush 60, 2)) (List.mem_of_getElem? (i := 5) rfl))
theorem dX1_readComparison_11 : decode cX1_readComparison 11 = .ok (.if_icmp .eq 23, 3) := of_decide_eq_true (List.all_eq_true.mp dsX1_readComparison_0_ok (11, (.if_icmp .eq 23, 3)) (List.mem_of_getElem? (i := 6) rfl))
theorem dX1_readComparison_14 : decode cX1_readComparison 14 = .ok (.iload_n 1, 1) := of_decide_eq_true (List.all_eq_true.mp dsX1_readComparison_0_ok (14, (.iload_n 1, 1)) (List.mem_of_getElem? (i := 7) rfl))
theorem dX1_readComparison_15 : decode cX1_readComparison 15 = .ok (.bipush 62, 2) := of_decide_eq_true (List.all_eq_true.mp dsX1_readComparison_0_ok (15, (.bipush 62, 2)) (List.mem_of_getElem? (i := 8) rfl))
theorem dX1_readComparison_17 : decode cX1_readComparison 17 = .ok (.if_icmp .eq 17, 3) := of_decide_eq_true (List.all_eq_true.mp dsX1_readComparison_0_ok (17, (.if_icmp .eq 17, 3)) (List.mem_of_getElem? (i := 9) rfl))
theorem dX1_readComparison_20 : decode cX1_readComparison 20 = .ok (.iload_n 1, 1) := of_decide_eq_true (List.all_eq_true.mp dsX1_readComparison_0_ok (20, (.iload_n 1, 1)) (List.mem_of_getElem? (i := 10) rfl))
theorem dX1_readComparison_21 : decode cX1_readComparison 21 = .ok (.bipush 61, 2) := of_decide_eq_true (List.all_eq_true.mp dsX1_readComparison_0_ok (21, (.bipush 61, 2)) (List.mem_of_getElem? (i := 11) rfl))
theorem dX1_readComparison_23 : decode cX1_readComparison 23 = .ok (.if_icmp .eq 11, 3) := of_decide_eq_true (List.all_eq_true.mp dsX1_readComparison_0_ok (23, (.if_icmp .eq 11, 3)) (List.mem_of_getElem? (i := 12) rfl))
theorem dX1_readComparison_26 : decode cX1_readComparison 26 = .ok (.aload_n 0, 1) := of_decide_eq_true (List.all_eq_true.mp dsX1_readComparison_0_ok (26, (.aload_n 0, 1)) (List.mem_of_getElem? (i := 13) rfl))
theorem dX1_readComparison_27 : decode cX1_readComparison 27 = .ok (.getfield 21, 3) := of_decide_eq_true (List.all_eq_true.mp dsX1_readComparison_0_ok (27, (.getfield 21, 3)) (List.mem_of_getElem? (i := 14) rfl))
theorem dX1_readComparison_30 : decode cX1_readComparison 30 = .ok (.invokevirtual 72, 3) := of_decide_eq_true (List.all_eq_true.mp dsX1_readComparison_0_ok (30, (.invokevirtual 72, 3)) (List.mem_of_getElem? (i := 15) rfl))
theorem dX1_readComparison_33 : decode cX1_readComparison 33 = .ok (.return_, 1) := of_decide_eq_true (List.all_eq_true.mp dsX1_readComparison_0_ok (33, (.return_, 1)) (List.mem_of_getElem? (i := 16) rfl))
theorem dX1_readComparison_34 : decode cX1_readComparison 34 = .ok (.aload_n 0, 1) := of_decide_eq_true (List.all_eq_true.mp dsX1_readComparison_0_ok (34, (.aload_n 0, 1)) (List.mem_of_getElem? (i := 17) rfl))
theorem dX1_readComparison_35 : decode cX1_readComparison 35 = .ok (.getfield 21, 3) := of_decide_eq_true (List.all_eq_true.mp dsX1_readComparison_0_ok (35, (.getfield 21, 3)) (List.mem_of_getElem? (i := 18) rfl))
theorem dX1_readComparison_38 : decode cX1_readComparison 38 = .ok (.invokevirtual 53, 3) := of_decide_eq_true (List.all_eq_true.mp dsX1_readComparison_0_ok (38, (.invokevirtual 53, 3)) (List.mem_of_getElem? (i := 19) rfl))
theorem dX1_readComparison_41 : decode cX1_readComparison 41 = .ok (.aload_n 0, 1) := of_decide_eq_true (List.all_eq_true.mp dsX1_readComparison_0_ok (41, (.aload_n 0, 1)) (List.mem_of_getElem? (i := 20) rfl))
theorem dX1_readComparison_42 : decode cX1_readComparison 42 = .ok (.invokevirtual 37, 3) := of_decide_eq_true (List.all_eq_true.mp dsX1_readComparison_0_ok (42, (.invokevirtual 37, 3)) (List.mem_of_getElem? (i := 21) rfl))
theorem dX1_readComparison_45 : decode cX1_readComparison 45 = .ok (.aload_n 0, 1) := of_decide_eq_true (List.all_eq_true.mp dsX1_readComparison_0_ok (45, (.aload_n 0, 1)) (List.mem_of_getElem? (i := 22) rfl))
theorem dX1_readComparison_46 : decode cX1_readComparison 46 = .ok (.sipush 20000, 3) := of_decide_eq_true (List.all_eq_true.mp dsX1_readComparison_0_ok (46, (.sipush 20000, 3)) (List.mem_of_getElem? (i := 23) rfl))
theorem dX1_readComparison_49 : decode cX1_readComparison 49 = .ok (.iload_n 1, 1) := of_decide_eq_true (List.all_eq_true.mp dsX1_readComparison_0_ok (49, (.iload_n 1, 1)) (List.mem_of_getElem? (i := 24) rfl))
theorem dX1_readComparison_50 : decode cX1_readComparison 50 = .ok (.iadd, 1) := of_decide_eq_true (List.all_eq_true.mp dsX1_readComparison_0_ok (50, (.iadd, 1)) (List.mem_of_getElem? (i := 25) rfl))
theorem dX1_readComparison_51 : decode cX1_readComparison 51 = .ok (.invokevirtual 56, 3) := of_decide_eq_true (List.all_eq_true.mp dsX1_readComparison_0_ok (51, (.invokevirtual 56, 3)) (List.mem_of_getElem? (i := 26) rfl))
theorem dX1_readComparison_54 : decode cX1_readComparison 54 = .ok (.return_, 1) := of_decide_eq_true (List.all_eq_true.mp dsX1_readComparison_0_ok (54, (.return_, 1)) (List.mem_of_getElem? (i := 27) rfl))
def fX1_readComparison_b34 (N : Nat) (text_kindsF : Nat → Int32) (text_startsF : Nat → Int32) (text_valuesF : Nat → Int32) (text_kindsN : Nat) (text_startsN : Nat) (text_valuesN : Nat) (fr_codeN : Nat) (k_readSum : (Nat → Int32) → (Nat → Int32) → (Nat → Int32) → Option ((Nat → Int32) × (Nat → Int32) × (Nat → Int32)))  : ((Nat → Int32) × (Nat → Int32) × (Nat → Int32) × Int32) → Option ((Nat → Int32) × (Nat → Int32) × (Nat → Int32)) :=
  fun (frI_34, textI_34, fr_codeF_34, x1_34) => (xq_bd (fX10_next N textI_34) fun r_1 => (xq_bd (k_readSum frI_34 r_1 fr_codeF_34) fun (r_3_0, r_3_1, r_3_2) => (xq_bd (fX1_emit N r_3_0 r_3_2 fr_codeN (20000 + x1_34)) fun (r_5_0, r_5_1) => some ((r_5_0, r_3_1, r_5_1)))))
def fX1_readComparison (N : Nat) (text_kindsF : Nat → Int32) (text_startsF : Nat → Int32) (text_valuesF : Nat → Int32) (text_kindsN : Nat) (text_startsN : Nat) (text_valuesN : Nat) (fr_codeN : Nat) (k_readSum : (Nat → Int32) → (Nat → Int32) → (Nat → Int32) → Option ((Nat → Int32) × (Nat → Int32) × (Nat → Int32))) (frI textI fr_codeF : Nat → Int32) : Option ((Nat → Int32) × (Nat → Int32) × (Nat → Int32)) :=
  (xq_bd (fX10_piece N textI text_kindsF text_kindsN) fun r_1 => (if r_1 = 60 then fX1_readComparison_b34 N text_kindsF text_startsF text_valuesF text_kindsN text_startsN text_valuesN fr_codeN k_readSum (frI, textI, fr_codeF, r_1) else (if r_1 = 62 then fX1_readComparison_b34 N text_kindsF text_startsF text_valuesF text_kindsN text_startsN text_valuesN fr_codeN k_readSum (frI, textI, fr_codeF, r_1) else (if r_1 = 61 then fX1_readComparison_b34 N text_kindsF text_startsF text_valuesF text_kindsN text_startsN text_valuesN fr_codeN k_readSum (frI, textI, fr_codeF, r_1) else (xq_bd (fX10_wrong N textI text_kindsF text_startsF text_valuesF text_kindsN text_startsN text_valuesN) fun r_3 => some ((frI, r_3, fr_codeF)))))))
set_option maxHeartbeats 4000000 in
set_option maxRecDepth 100000 in
theorem kX1_readComparison (l : Launch) (dC : Nat → ClassId) (dI : Nat → Nat → Nat) (cI cB cJ cZ cM : ClassId) (z : Nat) (ad : Nat → Nat) (N : Nat) (a_p0 : Nat) (frR textR : Nat → Nat) (text_kindsF : Nat → Int32) (text_startsF : Nat → Int32) (text_valuesF : Nat → Int32) (text_kindsN : Nat) (text_startsN : Nat) (text_valuesN : Nat) (fr_codeN : Nat) {FM LM : Nat} (hFM : 1 ≤ FM) (hLM : 21 ≤ LM) (k_readSum : (Nat → Int32) → (Nat → Int32) → (Nat → Int32) → Option ((Nat → Int32) × (Nat → Int32) × (Nat → Int32)))  {F_readSum L_readSum : Nat} (hF_readSum : F_readSum + 1 ≤ FM) (hL_readSum : 8 + (3 + 11) + L_readSum ≤ LM) (h_readSum : ∀ (x0 x1 x2 : Nat → Int32) (y0 y1 y2 : Nat → Int32), k_readSum x0 x1 x2 = some (y0, y1, y2) → xq_Ct l yX1_readSum wsX1_readSum { frames := F_readSum, cells := 0, slots := 0, locals := L_readSum } (dC, dI) vwCl (xq_tys cI cB cJ cZ cM) z ad [.ref a_p0] [(a_p0, .inr (1, oX1 x0 frR)), ((frR 0), .inr (10, oX10 x1 textR)), ((textR 1), .inl (cI, text_kindsN, .inl text_kindsF)), ((textR 2), .inl (cI, text_startsN, .inl text_startsF)), ((textR 3), .inl (cI, text_valuesN, .inl text_valuesF)), ((frR 1), .inl (cI, fr_codeN, .inl x2))] [(a_p0, .inr (1, oX1 y0 frR)), ((frR 0), .inr (10, oX10 y1 textR)), ((textR 1), .inl (cI, text_kindsN, .inl text_kindsF)), ((textR 2), .inl (cI, text_startsN, .inl text_startsF)), ((textR 3), .inl (cI, text_valuesN, .inl text_valuesF)), ((frR 1), .inl (cI, fr_codeN, .inl y2))] none) (frI textI fr_codeF : Nat → Int32) {r0 r1 r2 : Nat → Int32} (hf : fX1_readComparison N text_kindsF text_startsF text_valuesF text_kindsN text_startsN text_valuesN fr_codeN k_readSum frI textI fr_codeF = some (r0, r1, r2)) : xq_Ct l yX1_readComparison wsX1_readComparison { frames := FM, cells := 0, slots := 0, locals := LM } (dC, dI) vwCl (xq_tys cI cB cJ cZ cM) z ad [.ref a_p0] [(a_p0, .inr (1, oX1 frI frR)), ((frR 0), .inr (10, oX10 textI textR)), ((textR 1), .inl (cI, text_kindsN, .inl text_kindsF)), ((textR 2), .inl (cI, text_startsN, .inl text_startsF)), ((textR 3), .inl (cI, text_valuesN, .inl text_valuesF)), ((frR 1), .inl (cI, fr_codeN, .inl fr_codeF))] [(a_p0, .inr (1, oX1 r0 frR)), ((frR 0), .inr (10, oX10 r1 textR)), ((textR 1), .inl (cI, text_kindsN, .inl text_kindsF)), ((textR 2), .inl (cI, text_startsN, .inl text_startsF)), ((textR 3), .inl (cI, text_valuesN, .inl text_valuesF)), ((frR 1), .inl (cI, fr_codeN, .inl r2))] none := by
  intro sz
  refine Met.ofW (cc := cX1_readComparison) (maxL := 2) (ret := none) (by decide) rfl ?_
  intro p e s m args below meth c s₁ B hml hv
  obtain ⟨rfl, hsz, hP, hK, hD0, hE, hz⟩ := hv
  have hx := B.exec
  have hb := B.bytes
  have hr := B.returns
  have hts := atoms_spec (ws := wsX1_readComparison) B.pre
  have hown : s.vm.findClass RX1 = some m.cls := findClass_of_methodNamed B.named
  have hlocks := B.notSynchronized
  subst hsz
  have hD := hD0.self (sz := s.heap.size)
  have hN := xq_Env.of hE hz hD0
  generalize hAe : va_A [(a_p0, .inr (1, oX1 frI frR)), ((frR 0), .inr (10, oX10 textI textR)), ((textR 1), .inl (cI, text_kindsN, .inl text_kindsF)), ((textR 2), .inl (cI, text_startsN, .inl text_startsF)), ((textR 3), .inl (cI, text_valuesN, .inl text_valuesF)), ((frR 1), .inl (cI, fr_codeN, .inl fr_codeF))] s.heap.size = A at hD hN ⊢
  have hA : ∀ q : Nat, s.heap.size ≤ q → A q := fun q h => by rw [← hAe]; exact Or.inr h
  clear hAe hD0
  have hS : va_S A s.heap s.heap [] := va_S.rf
  have hl := lv_entry ([.ref a_p0]) (n := 2) (Nat.le_of_ble_eq_true rfl)
  rw [lg_entry_eq]
  generalize (lg_sl ([.ref a_p0]) ++ List.replicate (2 - (lg_sl ([.ref a_p0])).length) Slot.unset).toArray = ls at hl ⊢
  have hl : lv_has ls 2 [(0, .ref a_p0)] := hl
  have hw0 := hts (.fieldLink RX1 21 "DistantVoice$FormulaReader" "text" "LDistantVoice$Text;") (by decide +kernel)
  have hinX1 : ∀ w ∈ wsX10, w ∈ wsX1_readComparison := fun w h => List.mem_cons_of_mem _ (List.mem_append_left _ (List.mem_append_right _ h))
  have b34 : ∀ (frI_34 : Nat → Int32) (textI_34 : Nat → Int32) (fr_codeF_34 : Nat → Int32) (x1_34 : Int32) (ls : Array Slot) (H : Heap) (locs : List Loc), fX1_readComparison_b34 N text_kindsF text_startsF text_valuesF text_kindsN text_startsN text_valuesN fr_codeN k_readSum (frI_34, textI_34, fr_codeF_34, x1_34) = some (r0, r1, r2) → va_P (dC, dI) vwCl [(a_p0, .inr (1, oX1 frI_34 frR)), ((frR 0), .inr (10, oX10 textI_34 textR)), ((textR 1), .inl (cI, text_kindsN, .inl text_kindsF)), ((textR 2), .inl (cI, text_startsN, .inl text_startsF)), ((textR 3), .inl (cI, text_valuesN, .inl text_valuesF)), ((frR 1), .inl (cI, fr_codeN, .inl fr_codeF_34))] H → va_D A [(a_p0, .inr (1, oX1 frI_34 frR)), ((frR 0), .inr (10, oX10 textI_34 textR)), ((textR 1), .inl (cI, text_kindsN, .inl text_kindsF)), ((textR 2), .inl (cI, text_startsN, .inl text_startsF)), ((textR 3), .inl (cI, text_valuesN, .inl text_valuesF)), ((frR 1), .inl (cI, fr_codeN, .inl fr_codeF_34))] → va_S A s.heap H locs → lv_has ls 2 [(0, .ref a_p0), (1, .int x1_34)] → W p l e (headSpec wsX1_readComparison { frames := FM, cells := 0, slots := 0, locals := LM }).room s m [.ref a_p0].toArray below meth c H locs 0 0 (MQ below (xq_Q (dC, dI) vwCl (xq_tys cI cB cJ cZ cM) A [(a_p0, .inr (1, oX1 r0 frR)), ((frR 0), .inr (10, oX10 r1 textR)), ((textR 1), .inl (cI, text_kindsN, .inl text_kindsF)), ((textR 2), .inl (cI, text_startsN, .inl text_startsF)), ((textR 3), .inl (cI, text_valuesN, .inl text_valuesF)), ((frR 1), .inl (cI, fr_codeN, .inl r2))] none) [.ref a_p0].toArray s 0 0 A) (F0 m 34 ls []) := by
    intro frI_34 textI_34 fr_codeF_34 x1_34 ls H locs hf hP hD hS hl
    unfold fX1_readComparison_b34 at hf
    refine lv_aload_n hx hb dX1_readComparison_34 rfl (lv_at hl 0 rfl) ?_
    refine va_get (D := (dC, dI)) (ci := 1) (v := .ref ((frR 0))) (C := RX1) (T := TX1) (N := 5) hx hb hts hinX1 hown hK hP 0 rfl rfl 0 (by decide) hw0 (fun _ h9 => h9) rfl dX1_readComparison_35 ?_
    obtain ⟨r_1, h_2, hf⟩ := xq_bd_some hf
    refine xq_callV (As := []) (rest := []) (ci := 10) (q0 := 1) ⟨hx, hb, hml, hown, hts⟩ (kX10_next l dC dI cI cB cJ cZ cM z ad N ((frR 0)) textI_34 textR h_2) (cwV 0 hts gX1_readComparison_X10_next rfl rfl rfl (by decide +kernel) ⟨Nat.le_trans (Nat.le_of_ble_eq_true rfl) hFM, Nat.le_trans (Nat.le_of_ble_eq_true rfl) hLM⟩) hN hK hP hD hS hA [1] (by decide) rfl rfl rfl rfl rfl rfl hl.1 rfl (Nat.le_of_ble_eq_true rfl) dX1_readComparison_38 ⟨Nat.zero_le _, Nat.zero_le _⟩ (fun H locs hP hD hS => ?_)
    have hP : va_P (dC, dI) vwCl [(a_p0, .inr (1, oX1 frI_34 frR)), ((frR 0), .inr (10, oX10 r_1 textR)), ((textR 1), .inl (cI, text_kindsN, .inl text_kindsF)), ((textR 2), .inl (cI, text_startsN, .inl text_startsF)), ((textR 3), .inl (cI, text_valuesN, .inl text_valuesF)), ((frR 1), .inl (cI, fr_codeN, .inl fr_codeF_34))] H := hP
    have hD : va_D A [(a_p0, .inr (1, oX1 frI_34 frR)), ((frR 0), .inr (10, oX10 r_1 textR)), ((textR 1), .inl (cI, text_kindsN, .inl text_kindsF)), ((textR 2), .inl (cI, text_startsN, .inl text_startsF)), ((textR 3), .inl (cI, text_valuesN, .inl text_valuesF)), ((frR 1), .inl (cI, fr_codeN, .inl fr_codeF_34))] := hD
    refine W.eq (g2 := F0 m 41 ls []) rfl ?_
    refine lv_aload_n hx hb dX1_readComparison_41 rfl (lv_at hl 0 rfl) ?_
    obtain ⟨⟨r_3_0, r_3_1, r_3_2⟩, h_4, hf⟩ := xq_bd_some hf
    refine xq_callV (As := []) (rest := []) (ci := 1) (q0 := 0) ⟨hx, hb, hml, hown, hts⟩ (h_readSum frI_34 r_1 fr_codeF_34 _ _ _ h_4) (cwV 0 hts gX1_readComparison_X1_readSum rfl rfl rfl (by decide +kernel) ⟨hF_readSum, hL_readSum⟩) hN hK hP hD hS hA [0, 1, 2, 3, 4, 5] (by decide) rfl rfl rfl rfl rfl rfl hl.1 rfl (Nat.le_of_ble_eq_true rfl) dX1_readComparison_42 ⟨Nat.zero_le _, Nat.zero_le _⟩ (fun H locs hP hD hS => ?_)
    have hP : va_P (dC, dI) vwCl [(a_p0, .inr (1, oX1 r_3_0 frR)), ((frR 0), .inr (10, oX10 r_3_1 textR)), ((textR 1), .inl (cI, text_kindsN, .inl text_kindsF)), ((textR 2), .inl (cI, text_startsN, .inl text_startsF)), ((textR 3), .inl (cI, text_valuesN, .inl text_valuesF)), ((frR 1), .inl (cI, fr_codeN, .inl r_3_2))] H := hP
    have hD : va_D A [(a_p0, .inr (1, oX1 r_3_0 frR)), ((frR 0), .inr (10, oX10 r_3_1 textR)), ((textR 1), .inl (cI, text_kindsN, .inl text_kindsF)), ((textR 2), .inl (cI, text_startsN, .inl text_startsF)), ((textR 3), .inl (cI, text_valuesN, .inl text_valuesF)), ((frR 1), .inl (cI, fr_codeN, .inl r_3_2))] := hD
    refine W.eq (g2 := F0 m 45 ls []) rfl ?_
    refine lv_aload_n hx hb dX1_readComparison_45 rfl (lv_at hl 0 rfl) ?_
    refine lv_sipush (v := 20000) hx hb dX1_readComparison_46 (by decide) ?_
    refine lv_iload_n hx hb dX1_readComparison_49 rfl (lv_at hl 1 rfl) ?_
    refine lv_iadd hx hb dX1_readComparison_50 ?_
    obtain ⟨⟨r_5_0, r_5_1⟩, h_6, hf⟩ := xq_bd_some hf
    refine xq_callV (As := [.int (20000 + x1_34)]) (rest := []) (ci := 1) (q0 := 0) ⟨hx, hb, hml, hown, hts⟩ (kX1_emit l dC dI cI cB cJ cZ cM z ad N a_p0 r_3_0 frR r_3_2 fr_codeN (20000 + x1_34) h_6) (cwV 1 hts gX1_readComparison_X1_emit rfl rfl rfl (by decide +kernel) ⟨Nat.le_trans (Nat.le_of_ble_eq_true rfl) hFM, Nat.le_trans (Nat.le_of_ble_eq_true rfl) hLM⟩) hN hK hP hD hS hA [0, 5] (by decide) rfl rfl rfl rfl rfl rfl hl.1 rfl (Nat.le_of_ble_eq_true rfl) dX1_readComparison_51 ⟨Nat.zero_le _, Nat.zero_le _⟩ (fun H locs hP hD hS => ?_)
    have hP : va_P (dC, dI) vwCl [(a_p0, .inr (1, oX1 r_5_0 frR)), ((frR 0), .inr (10, oX10 r_3_1 textR)), ((textR 1), .inl (cI, text_kindsN, .inl text_kindsF)), ((textR 2), .inl (cI, text_startsN, .inl text_startsF)), ((textR 3), .inl (cI, text_valuesN, .inl text_valuesF)), ((frR 1), .inl (cI, fr_codeN, .inl r_5_1))] H := hP
    have hD : va_D A [(a_p0, .inr (1, oX1 r_5_0 frR)), ((frR 0), .inr (10, oX10 r_3_1 textR)), ((textR 1), .inl (cI, text_kindsN, .inl text_kindsF)), ((textR 2), .inl (cI, text_startsN, .inl text_startsF)), ((textR 3), .inl (cI, text_valuesN, .inl text_valuesF)), ((frR 1), .inl (cI, fr_codeN, .inl r_5_1))] := hD
    refine W.eq (g2 := F0 m 54 ls []) rfl ?_
    cases hf
    exact xq_vret hx hb hr hlocks hK hP hD hS dX1_readComparison_54
  unfold fX1_readComparison at hf
  refine lv_aload_n hx hb dX1_readComparison_0 rfl (lv_at hl 0 rfl) ?_
  refine va_get (D := (dC, dI)) (ci := 1) (v := .ref ((frR 0))) (C := RX1) (T := TX1) (N := 5) hx hb hts hinX1 hown hK hP 0 rfl rfl 0 (by decide) hw0 (fun _ h9 => h9) rfl dX1_readComparison_1 ?_
  obtain ⟨r_1, h_2, hf⟩ := xq_bd_some hf
  refine xq_callV (As := []) (rest := []) (ci := 10) (q0 := 1) ⟨hx, hb, hml, hown, hts⟩ (kX10_piece l dC dI cI cB cJ cZ cM z ad N ((frR 0)) textI textR text_kindsF text_kindsN h_2) (cwV 0 hts gX1_readComparison_X10_piece rfl rfl rfl (by decide +kernel) ⟨Nat.le_trans (Nat.le_of_ble_eq_true rfl) hFM, Nat.le_trans (Nat.le_of_ble_eq_true rfl) hLM⟩) hN hK hP hD hS hA [1, 2] (by decide) rfl rfl rfl rfl rfl rfl hl.1 rfl (Nat.le_of_ble_eq_true rfl) dX1_readComparison_4 ⟨Nat.zero_le _, Nat.zero_le _⟩ (fun H locs hP hD hS => ?_)
  have hP : va_P (dC, dI) vwCl [(a_p0, .inr (1, oX1 frI frR)), ((frR 0), .inr (10, oX10 textI textR)), ((textR 1), .inl (cI, text_kindsN, .inl text_kindsF)), ((textR 2), .inl (cI, text_startsN, .inl text_startsF)), ((textR 3), .inl (cI, text_valuesN, .inl text_valuesF)), ((frR 1), .inl (cI, fr_codeN, .inl fr_codeF))] H := hP
  have hD : va_D A [(a_p0, .inr (1, oX1 frI frR)), ((frR 0), .inr (10, oX10 textI textR)), ((textR 1), .inl (cI, text_kindsN, .inl text_kindsF)), ((textR 2), .inl (cI, text_startsN, .inl text_startsF)), ((textR 3), .inl (cI, text_valuesN, .inl text_valuesF)), ((frR 1), .inl (cI, fr_codeN, .inl fr_codeF))] := hD
  refine W.eq (g2 := F0 m 7 ls [.int r_1]) rfl ?_
  refine lv_istore_n (lv' := [(1, .int r_1), (0, .ref a_p0)]) hx hb dX1_readComparison_7 rfl hl (by decide) rfl (fun ls hl => ?_)
  refine lv_iload_n hx hb dX1_readComparison_8 rfl (lv_at hl 0 rfl) ?_
  refine lv_bipush (v := 60) hx hb dX1_readComparison_9 (by decide) ?_
  refine lv_icmp_eq (tgt := 34) hx hb dX1_readComparison_11 (by decide) (fun c_ => ?_) (fun c_ => ?_)
  · have hf := xq_pos hf c_
    exact b34 frI textI fr_codeF r_1 _ _ _ hf hP hD hS (lv_sub hl [1, 0] rfl)
  · have hf := xq_neg hf c_
    refine lv_iload_n hx hb dX1_readComparison_14 rfl (lv_at hl 0 rfl) ?_
    refine lv_bipush (v := 62) hx hb dX1_readComparison_15 (by decide) ?_
    refine lv_icmp_eq (tgt := 34) hx hb dX1_readComparison_17 (by decide) (fun c_ => ?_) (fun c_ => ?_)
    · have hf := xq_pos hf c_
      exact b34 frI textI fr_codeF r_1 _ _ _ hf hP hD hS (lv_sub hl [1, 0] rfl)
    · have hf := xq_neg hf c_
      refine lv_iload_n hx hb dX1_readComparison_20 rfl (lv_at hl 0 rfl) ?_
      refine lv_bipush (v := 61) hx hb dX1_readComparison_21 (by decide) ?_
      refine lv_icmp_eq (tgt := 34) hx hb dX1_readComparison_23 (by decide) (fun c_ => ?_) (fun c_ => ?_)
      · have hf := xq_pos hf c_
        exact b34 frI textI fr_codeF r_1 _ _ _ hf hP hD hS (lv_sub hl [1, 0] rfl)
      · have hf := xq_neg hf c_
        refine lv_aload_n hx hb dX1_readComparison_26 rfl (lv_at hl 1 rfl) ?_
        refine va_get (D := (dC, dI)) (ci := 1) (v := .ref ((frR 0))) (C := RX1) (T := TX1) (N := 5) hx hb hts hinX1 hown hK hP 0 rfl rfl 0 (by decide) hw0 (fun _ h9 => h9) rfl dX1_readComparison_27 ?_
        obtain ⟨r_3, h_4, hf⟩ := xq_bd_some hf
        refine xq_callV (As := []) (rest := []) (ci := 10) (q0 := 1) ⟨hx, hb, hml, hown, hts⟩ (kX10_wrong l dC dI cI cB cJ cZ cM z ad N ((frR 0)) textI textR text_kindsF text_kindsN text_startsF text_startsN text_valuesF text_valuesN h_4) (cwV 0 hts gX1_readComparison_X10_wrong rfl rfl rfl (by decide +kernel) ⟨Nat.le_trans (Nat.le_of_ble_eq_true rfl) hFM, Nat.le_trans (Nat.le_of_ble_eq_true rfl) hLM⟩) hN hK hP hD hS hA [1, 2, 3, 4] (by decide) rfl rfl rfl rfl rfl rfl hl.1 rfl (Nat.le_of_ble_eq_true rfl) dX1_readComparison_30 ⟨Nat.zero_le _, Nat.zero_le _⟩ (fun H locs hP hD hS => ?_)
        have hP : va_P (dC, dI) vwCl [(a_p0, .inr (1, oX1 frI frR)), ((frR 0), .inr (10, oX10 r_3 textR)), ((textR 1), .inl (cI, text_kindsN, .inl text_kindsF)), ((textR 2), .inl (cI, text_startsN, .inl text_startsF)), ((textR 3), .inl (cI, text_valuesN, .inl text_valuesF)), ((frR 1), .inl (cI, fr_codeN, .inl fr_codeF))] H := hP
        have hD : va_D A [(a_p0, .inr (1, oX1 frI frR)), ((frR 0), .inr (10, oX10 r_3 textR)), ((textR 1), .inl (cI, text_kindsN, .inl text_kindsF)), ((textR 2), .inl (cI, text_startsN, .inl text_startsF)), ((textR 3), .inl (cI, text_valuesN, .inl text_valuesF)), ((frR 1), .inl (cI, fr_codeN, .inl fr_codeF))] := hD
        refine W.eq (g2 := F0 m 33 ls []) rfl ?_
        cases hf
        exact xq_vret hx hb hr hlocks hK hP hD hS dX1_readComparison_33
set_option maxRecDepth 20000 in
theorem ggX1_readFact_X10_piece : GoodIn wsX1_readFact wsX10_piece := goodIn_r _ [7, 8, 9, 10, 11, 94, 95, 96, 97, 98, 99, 100, 101] rfl (by decide +kernel)
set_option maxRecDepth 20000 in
theorem gX1_readFact_X10_piece : GoodIn wsX1_readFact (wsV RX1 49 RX10 yX10_piece wsX10_piece) := goodIn_app (goodIn_of _ (by decide +kernel)) ggX1_readFact_X10_piece
set_option maxRecDepth 20000 in
theorem ggX1_readFact_X1_enter : GoodIn wsX1_readFact wsX1_enter := goodIn_r _ [16, 2, 1, 17, 18, 19, 6, 20, 8, 9, 10, 21, 22, 23, 24, 25, 26, 89, 90, 91, 92, 93, 94, 95, 96, 97, 98, 99, 100, 101] rfl (by decide +kernel)
set_option maxRecDepth 20000 in
theorem gX1_readFact_X1_enter : GoodIn wsX1_readFact (wsV RX1 63 RX1 yX1_enter wsX1_enter) := goodIn_app (goodIn_of _ (by decide +kernel)) ggX1_readFact_X1_enter
set_option maxRecDepth 20000 in
theorem ggX1_readFact_X1_readFact : GoodIn wsX1_readFact wsX1_readFact := goodIn_r _ [0, 1, 2, 3, 4, 5, 6, 7, 8, 9, 10, 11, 12, 13, 14, 15, 16, 17, 18, 19, 20, 21, 22, 23, 24, 25, 26, 27, 28, 29, 30, 31, 32, 33, 34, 35, 36, 37, 38, 39, 40, 41, 42, 43, 44, 45, 46, 47, 48, 49, 50, 51, 52, 53, 54, 55, 56, 57, 58, 59, 60, 61, 62, 63, 64, 65, 66, 67, 68, 69, 70, 71, 72, 73, 74, 75, 76, 77, 78, 79, 80, 81, 82, 83, 84, 85, 86, 87, 88, 89, 90, 91, 92, 93, 94, 95, 96, 97, 98, 99, 100, 101] rfl (by decide +kernel)
set_option maxRecDepth 20000 in
theorem gX1_readFact_X1_readFact : GoodIn wsX1_readFact (wsV RX1 60 RX1 yX1_readFact wsX1_readFact) := goodIn_app (goodIn_of _ (by decide +kernel)) ggX1_readFact_X1_readFact
set_option maxRecDepth 20000 in
theorem ggX1_readFact_X1_emit : GoodIn wsX1_readFact wsX1_emit := goodIn_r _ [33, 34, 35, 89, 90, 91, 92, 93] rfl (by decide +kernel)
set_option maxRecDepth 20000 in
theorem gX1_readFact_X1_emit : GoodIn wsX1_readFact (wsV RX1 56 RX1 yX1_emit wsX1_emit) := goodIn_app (goodIn_of _ (by decide +kernel)) ggX1_readFact_X1_emit
set_option maxRecDepth 20000 in
theorem ggX1_readFact_X1_readTest : GoodIn wsX1_readFact wsX1_readTest := goodIn_r _ [85, 1, 86, 87, 88, 15, 3, 4, 5, 6, 7, 8, 9, 10, 11, 23, 24, 25, 26, 30, 31, 32, 33, 34, 35, 56, 27, 28, 29, 57, 2, 58, 46, 47, 48, 49, 21, 22, 12, 13, 14, 16, 17, 18, 19, 20, 36, 37, 38, 39, 40, 41, 42, 43, 44, 45, 50, 51, 52, 59, 0, 53, 54, 55, 60, 61, 62, 63, 64, 65, 66, 67, 68, 69, 70, 71, 72, 73, 74, 75, 76, 77, 78, 79, 80, 81, 82, 83, 84, 89, 90, 91, 92, 93, 94, 95, 96, 97, 98, 99, 100, 101] rfl (by decide +kernel)
set_option maxRecDepth 20000 in
theorem gX1_readFact_X1_readTest : GoodIn wsX1_readFact (wsV RX1 34 RX1 yX1_readTest wsX1_readTest) := goodIn_app (goodIn_of _ (by decide +kernel)) ggX1_readFact_X1_readTest
set_option maxRecDepth 20000 in
theorem ggX1_readFact_X10_take : GoodIn wsX1_readFact wsX10_take := goodIn_r _ [42, 43, 4, 5, 6, 7, 8, 9, 10, 11, 44, 24, 25, 26, 45, 46, 47, 48, 49, 21, 22, 94, 95, 96, 97, 98, 99, 100, 101] rfl (by decide +kernel)
set_option maxRecDepth 20000 in
theorem gX1_readFact_X10_take : GoodIn wsX1_readFact (wsV RX1 66 RX10 yX10_take wsX10_take) := goodIn_app (goodIn_of _ (by decide +kernel)) ggX1_readFact_X10_take
set_option maxRecDepth 20000 in
theorem ggX1_readFact_X10_next : GoodIn wsX1_readFact wsX10_next := goodIn_r _ [26, 9, 10, 94, 95, 96, 97, 98, 99, 100, 101] rfl (by decide +kernel)
set_option maxRecDepth 20000 in
theorem gX1_readFact_X10_next : GoodIn wsX1_readFact (wsV RX1 53 RX10 yX10_next wsX10_next) := goodIn_app (goodIn_of _ (by decide +kernel)) ggX1_readFact_X10_next
set_option maxRecDepth 20000 in
theorem ggX1_readFact_X1_readSum : GoodIn wsX1_readFact wsX1_readSum := goodIn_r _ [81, 1, 82, 83, 84, 15, 3, 4, 5, 6, 7, 8, 9, 10, 11, 23, 24, 25, 26, 30, 31, 32, 33, 34, 35, 56, 27, 28, 29, 57, 2, 58, 46, 47, 48, 49, 21, 22, 12, 13, 14, 16, 17, 18, 19, 20, 36, 37, 38, 39, 40, 41, 42, 43, 44, 45, 50, 51, 52, 59, 0, 53, 54, 55, 60, 61, 62, 63, 64, 65, 66, 67, 68, 69, 70, 71, 72, 73, 74, 75, 76, 77, 78, 79, 80, 85, 86, 87, 88, 89, 90, 91, 92, 93, 94, 95, 96, 97, 98, 99, 100, 101] rfl (by decide +kernel)
set_option maxRecDepth 20000 in
theorem gX1_readFact_X1_readSum : GoodIn wsX1_readFact (wsV RX1 37 RX1 yX1_readSum wsX1_readSum) := goodIn_app (goodIn_of _ (by decide +kernel)) ggX1_readFact_X1_readSum
set_option maxRecDepth 20000 in
theorem ggX1_readFact_X1_readComparison : GoodIn wsX1_readFact wsX1_readComparison := goodIn_r _ [59, 1, 3, 4, 5, 6, 7, 8, 9, 10, 11, 58, 46, 47, 48, 49, 21, 22, 23, 24, 25, 26, 50, 51, 52, 15, 30, 31, 32, 33, 34, 35, 56, 27, 28, 29, 57, 2, 12, 13, 14, 16, 17, 18, 19, 20, 36, 37, 38, 39, 40, 41, 42, 43, 44, 45, 0, 53, 54, 55, 60, 61, 62, 63, 64, 65, 66, 67, 68, 69, 70, 71, 72, 73, 74, 75, 76, 77, 78, 79, 80, 81, 82, 83, 84, 85, 86, 87, 88, 89, 90, 91, 92, 93, 94, 95, 96, 97, 98, 99, 100, 101] rfl (by decide +kernel)
set_option maxRecDepth 20000 in
theorem gX1_readFact_X1_readComparison : GoodIn wsX1_readFact (wsV RX1 69 RX1 yX1_readComparison wsX1_readComparison) := goodIn_app (goodIn_of _ (by decide +kernel)) ggX1_readFact_X1_readComparison
def dsX1_readFact_0 : List (Nat × Instr × Nat) := [(0, (.aload_n 0, 1)), (1, (.getfield 21, 3)), (4, (.invokevirtual 49, 3)), (7, (.lookupswitch 106 #[(91, 61), (320, 33), (321, 91)], 33)), (40, (.aload_n 0, 1)), (41, (.invokevirtual 63, 3)), (44, (.aload_n 0, 1)), (45, (.invokevirtual 60, 3)), (48, (.aload_n 0, 1)), (49, (.dup, 1)), (50, (.getfield 15, 3)), (53, (.iconst 1, 1)), (54, (.isub, 1)), (55, (.putfield 15, 3)), (58, (.aload_n 0, 1)), (59, (.sipush 20320, 3)), (62, (.invokevirtual 56, 3)), (65, (.goto 56, 3)), (68, (.aload_n 0, 1)), (69, (.invokevirtual 63, 3)), (72, (.aload_n 0, 1)), (73, (.invokevirtual 34, 3)), (76, (.aload_n 0, 1)), (77, (.getfield 21, 3)), (80, (.bipush 93, 2)), (82, (.invokevirtual 66, 3)), (85, (.aload_n 0, 1)), (86, (.dup, 1)), (87, (.getfield 15, 3)), (90, (.iconst 1, 1)), (91, (.isub, 1)), (92, (.putfield 15, 3)), (95, (.goto 26, 3)), (98, (.aload_n 0, 1)), (99, (.getfield 21, 3)), (102, (.invokevirtual 53, 3)), (105, (.aload_n 0, 1)), (106, (.iconst 1, 1)), (107, (.invokevirtual 56, 3)), (110, (.goto 11, 3)), (113, (.aload_n 0, 1)), (114, (.invokevirtual 37, 3)), (117, (.aload_n 0, 1)), (118, (.invokevirtual 69, 3)), (121, (.return_, 1))]
theorem dsX1_readFact_0_ok : (dsX1_readFact_0.all fun q => decide (decode cX1_readFact q.1 = .ok q.2)) = true := by decide +kernel
theorem dX1_readFact_0 : decode cX1_readFact 0 = .ok (.aload_n 0, 1) := of_decide_eq_true (List.all_eq_true.mp dsX1_readFact_0_ok (0, (.aload_n 0, 1)) (List.mem_of_getElem? (i := 0) rfl))
theorem dX1_readFact_1 : decode cX1_readFact 1 = .ok (.getfield 21, 3) := of_decide_eq_true (List.all_eq_true.mp dsX1_readFact_0_ok (1, (.getfield 21, 3)) (List.mem_of_getElem? (i := 1) rfl))
theorem dX1_readFact_4 : decode cX1_readFact 4 = .ok (.invokevirtual 49, 3) := of_decide_eq_true (List.all_eq_true.mp dsX1_readFact_0_ok (4, (.invokevirtual 49, 3)) (List.mem_of_getElem? (i := 2) rfl))
theorem dX1_readFact_7 : decode cX1_readFact 7 = .ok (.lookupswitch 106 #[(91, 61), (320, 33), (321, 91)], 33) := of_decide_eq_true (List.all_eq_true.mp dsX1_readFact_0_ok (7, (.lookupswitch 106 #[(91, 61), (320, 33), (321, 91)], 33)) (List.mem_of_getElem? (i := 3) rfl))
theorem dX1_readFact_40 : decode cX1_readFact 40 = .ok (.aload_n 0, 1) := of_decide_eq_true (List.all_eq_true.mp dsX1_readFact_0_ok (40, (.aload_n 0, 1)) (List.mem_of_getElem? (i := 4) rfl))
theorem dX1_readFact_41 : decode cX1_readFact 41 = .ok (.invokevirtual 63, 3) := of_decide_eq_true (List.all_eq_true.mp dsX1_readFact_0_ok (41, (.invokevirtual 63, 3)) (List.mem_of_getElem? (i := 5) rfl))
theorem dX1_readFact_44 : decode cX1_readFact 44 = .ok (.aload_n 0, 1) := of_decide_eq_true (List.all_eq_true.mp dsX1_readFact_0_ok (44, (.aload_n 0, 1)) (List.mem_of_getElem? (i := 6) rfl))
theorem dX1_readFact_45 : decode cX1_readFact 45 = .ok (.invokevirtual 60, 3) := of_decide_eq_true (List.all_eq_true.mp dsX1_readFact_0_ok (45, (.invokevirtual 60, 3)) (List.mem_of_getElem? (i := 7) rfl))
theorem dX1_readFact_48 : decode cX1_readFact 48 = .ok (.aload_n 0, 1) := of_decide_eq_true (List.all_eq_true.mp dsX1_readFact_0_ok (48, (.aload_n 0, 1)) (List.mem_of_getElem? (i := 8) rfl))
theorem dX1_readFact_49 : decode cX1_readFact 49 = .ok (.dup, 1) := of_decide_eq_true (List.all_eq_true.mp dsX1_readFact_0_ok (49, (.dup, 1)) (List.mem_of_getElem? (i := 9) rfl))
theorem dX1_readFact_50 : decode cX1_readFact 50 = .ok (.getfield 15, 3) := of_decide_eq_true (List.all_eq_true.mp dsX1_readFact_0_ok (50, (.getfield 15, 3)) (List.mem_of_getElem? (i := 10) rfl))
theorem dX1_readFact_53 : decode cX1_readFact 53 = .ok (.iconst 1, 1) := of_decide_eq_true (List.all_eq_true.mp dsX1_readFact_0_ok (53, (.iconst 1, 1)) (List.mem_of_getElem? (i := 11) rfl))
theorem dX1_readFact_54 : decode cX1_readFact 54 = .ok (.isub, 1) := of_decide_eq_true (List.all_eq_true.mp dsX1_readFact_0_ok (54, (.isub, 1)) (List.mem_of_getElem? (i := 12) rfl))
theorem dX1_readFact_55 : decode cX1_readFact 55 = .ok (.putfield 15, 3) := of_decide_eq_true (List.all_eq_true.mp dsX1_readFact_0_ok (55, (.putfield 15, 3)) (List.mem_of_getElem? (i := 13) rfl))
theorem dX1_readFact_58 : decode cX1_readFact 58 = .ok (.aload_n 0, 1) := of_decide_eq_true (List.all_eq_true.mp dsX1_readFact_0_ok (58, (.aload_n 0, 1)) (List.mem_of_getElem? (i := 14) rfl))
theorem dX1_readFact_59 : decode cX1_readFact 59 = .ok (.sipush 20320, 3) := of_decide_eq_true (List.all_eq_true.mp dsX1_readFact_0_ok (59, (.sipush 20320, 3)) (List.mem_of_getElem? (i := 15) rfl))
theorem dX1_readFact_62 : decode cX1_readFact 62 = .ok (.invokevirtual 56, 3) := of_decide_eq_true (List.all_eq_true.mp dsX1_readFact_0_ok (62, (.invokevirtual 56, 3)) (List.mem_of_getElem? (i := 16) rfl))
theorem dX1_readFact_65 : decode cX1_readFact 65 = .ok (.goto 56, 3) := of_decide_eq_true (List.all_eq_true.mp dsX1_readFact_0_ok (65, (.goto 56, 3)) (List.mem_of_getElem? (i := 17) rfl))
theorem dX1_readFact_68 : decode cX1_readFact 68 = .ok (.aload_n 0, 1) := of_decide_eq_true (List.all_eq_true.mp dsX1_readFact_0_ok (68, (.aload_n 0, 1)) (List.mem_of_getElem? (i := 18) rfl))
theorem dX1_readFact_69 : decode cX1_readFact 69 = .ok (.invokevirtual 63, 3) := of_decide_eq_true (List.all_eq_true.mp dsX1_readFact_0_ok (69, (.invokevirtual 63, 3)) (List.mem_of_getElem? (i := 19) rfl))
theorem dX1_readFact_72 : decode cX1_readFact 72 = .ok (.aload_n 0, 1) := of_decide_eq_true (List.all_eq_true.mp dsX1_readFact_0_ok (72, (.aload_n 0, 1)) (List.mem_of_getElem? (i := 20) rfl))
theorem dX1_readFact_73 : decode cX1_readFact 73 = .ok (.invokevirtual 34, 3) := of_decide_eq_true (List.all_eq_true.mp dsX1_readFact_0_ok (73, (.invokevirtual 34, 3)) (List.mem_of_getElem? (i := 21) rfl))
theorem dX1_readFact_76 : decode cX1_readFact 76 = .ok (.aload_n 0, 1) := of_decide_eq_true (List.all_eq_true.mp dsX1_readFact_0_ok (76, (.aload_n 0, 1)) (List.mem_of_getElem? (i := 22) rfl))
theorem dX1_readFact_77 : decode cX1_readFact 77 = .ok (.getfield 21, 3) := of_decide_eq_true (List.all_eq_true.mp dsX1_readFact_0_ok (77, (.getfield 21, 3)) (List.mem_of_getElem? (i := 23) rfl))
theorem dX1_readFact_80 : decode cX1_readFact 80 = .ok (.bipush 93, 2) := of_decide_eq_true (List.all_eq_true.mp dsX1_readFact_0_ok (80, (.bipush 93, 2)) (List.mem_of_getElem? (i := 24) rfl))
theorem dX1_readFact_82 : decode cX1_readFact 82 = .ok (.invokevirtual 66, 3) := of_decide_eq_true (List.all_eq_true.mp dsX1_readFact_0_ok (82, (.invokevirtual 66, 3)) (List.mem_of_getElem? (i := 25) rfl))
theorem dX1_readFact_85 : decode cX1_readFact 85 = .ok (.aload_n 0, 1) := of_decide_eq_true (List.all_eq_true.mp dsX1_readFact_0_ok (85, (.aload_n 0, 1)) (List.mem_of_getElem? (i := 26) rfl))
theorem dX1_readFact_86 : decode cX1_readFact 86 = .ok (.dup, 1) := of_decide_eq_true (List.all_eq_true.mp dsX1_readFact_0_ok (86, (.dup, 1)) (List.mem_of_getElem? (i := 27) rfl))
theorem dX1_readFact_87 : decode cX1_readFact 87 = .ok (.getfield 15, 3) := of_decide_eq_true (List.all_eq_true.mp dsX1_readFact_0_ok (87, (.getfield 15, 3)) (List.mem_of_getElem? (i := 28) rfl))
theorem dX1_readFact_90 : decode cX1_readFact 90 = .ok (.iconst 1, 1) := of_decide_eq_true (List.all_eq_true.mp dsX1_readFact_0_ok (90, (.iconst 1, 1)) (List.mem_of_getElem? (i := 29) rfl))
theorem dX1_readFact_91 : decode cX1_readFact 91 = .ok (.isub, 1) := of_decide_eq_true (List.all_eq_true.mp dsX1_readFact_0_ok (91, (.isub, 1)) (List.mem_of_getElem? (i := 30) rfl))
theorem dX1_readFact_92 : decode cX1_readFact 92 = .ok (.putfield 15, 3) := of_decide_eq_true (List.all_eq_true.mp dsX1_readFact_0_ok (92, (.putfield 15, 3)) (List.mem_of_getElem? (i := 31) rfl))
theorem dX1_readFact_95 : decode cX1_readFact 95 = .ok (.goto 26, 3) := of_decide_eq_true (List.all_eq_true.mp dsX1_readFact_0_ok (95, (.goto 26, 3)) (List.mem_of_getElem? (i := 32) rfl))
theorem dX1_readFact_98 : decode cX1_readFact 98 = .ok (.aload_n 0, 1) := of_decide_eq_true (List.all_eq_true.mp dsX1_readFact_0_ok (98, (.aload_n 0, 1)) (List.mem_of_getElem? (i := 33) rfl))
theorem dX1_readFact_99 : decode cX1_readFact 99 = .ok (.getfield 21, 3) := of_decide_eq_true (List.all_eq_true.mp dsX1_readFact_0_ok (99, (.getfield 21, 3)) (List.mem_of_getElem? (i := 34) rfl))
theorem dX1_readFact_102 : decode cX1_readFact 102 = .ok (.invokevirtual 53, 3) := of_decide_eq_true (List.all_eq_true.mp dsX1_readFact_0_ok (102, (.invokevirtual 53, 3)) (List.mem_of_getElem? (i := 35) rfl))
theorem dX1_readFact_105 : decode cX1_readFact 105 = .ok (.aload_n 0, 1) := of_decide_eq_true (List.all_eq_true.mp dsX1_readFact_0_ok (105, (.aload_n 0, 1)) (List.mem_of_getElem? (i := 36) rfl))
theorem dX1_readFact_106 : decode cX1_readFact 106 = .ok (.iconst 1, 1) := of_decide_eq_true (List.all_eq_true.mp dsX1_readFact_0_ok (106, (.iconst 1, 1)) (List.mem_of_getElem? (i := 37) rfl))
theorem dX1_readFact_107 : decode cX1_readFact 107 = .ok (.invokevirtual 56, 3) := of_decide_eq_true (List.all_eq_true.mp dsX1_readFact_0_ok (107, (.invokevirtual 56, 3)) (List.mem_of_getElem? (i := 38) rfl))
theorem dX1_readFact_110 : decode cX1_readFact 110 = .ok (.goto 11, 3) := of_decide_eq_true (List.all_eq_true.mp dsX1_readFact_0_ok (110, (.goto 11, 3)) (List.mem_of_getElem? (i := 39) rfl))
theorem dX1_readFact_113 : decode cX1_readFact 113 = .ok (.aload_n 0, 1) := of_decide_eq_true (List.all_eq_true.mp dsX1_readFact_0_ok (113, (.aload_n 0, 1)) (List.mem_of_getElem? (i := 40) rfl))
theorem dX1_readFact_114 : decode cX1_readFact 114 = .ok (.invokevirtual 37, 3) := of_decide_eq_true (List.all_eq_true.mp dsX1_readFact_0_ok (114, (.invokevirtual 37, 3)) (List.mem_of_getElem? (i := 41) rfl))
theorem dX1_readFact_117 : decode cX1_readFact 117 = .ok (.aload_n 0, 1) := of_decide_eq_true (List.all_eq_true.mp dsX1_readFact_0_ok (117, (.aload_n 0, 1)) (List.mem_of_getElem? (i := 42) rfl))
theorem dX1_readFact_118 : decode cX1_readFact 118 = .ok (.invokevirtual 69, 3) := of_decide_eq_true (List.all_eq_true.mp dsX1_readFact_0_ok (118, (.invokevirtual 69, 3)) (List.mem_of_getElem? (i := 43) rfl))
theorem dX1_readFact_121 : decode cX1_readFact 121 = .ok (.return_, 1) := of_decide_eq_true (List.all_eq_true.mp dsX1_readFact_0_ok (121, (.return_, 1)) (List.mem_of_getElem? (i := 44) rfl))
def fX1_readFact (N : Nat) (text_kindsF : Nat → Int32) (text_startsF : Nat → Int32) (text_valuesF : Nat → Int32) (text_kindsN : Nat) (text_startsN : Nat) (text_valuesN : Nat) (fr_codeN : Nat) (k_readComparison : (Nat → Int32) → (Nat → Int32) → (Nat → Int32) → Option ((Nat → Int32) × (Nat → Int32) × (Nat → Int32))) (k_readFact : (Nat → Int32) → (Nat → Int32) → (Nat → Int32) → Option ((Nat → Int32) × (Nat → Int32) × (Nat → Int32))) (k_readSum : (Nat → Int32) → (Nat → Int32) → (Nat → Int32) → Option ((Nat → Int32) × (Nat → Int32) × (Nat → Int32))) (k_readTest : (Nat → Int32) → (Nat → Int32) → (Nat → Int32) → Option ((Nat → Int32) × (Nat → Int32) × (Nat → Int32))) (frI textI fr_codeF : Nat → Int32) : Option ((Nat → Int32) × (Nat → Int32) × (Nat → Int32)) :=
  (xq_bd (fX10_piece N textI text_kindsF text_kindsN) fun r_1 => (if r_1 = 91 then (xq_bd (fX1_enter N frI textI text_startsF text_startsN) fun (r_3_0, r_3_1) => (xq_bd (k_readTest r_3_0 r_3_1 fr_codeF) fun (r_5_0, r_5_1, r_5_2) => (xq_bd (fX10_take N r_5_1 text_kindsF text_startsF text_valuesF text_kindsN text_startsN text_valuesN 93) fun r_7 => some (((va_up r_5_0 3 ((r_5_0 3) - 1)), r_7, r_5_2))))) else (if r_1 = 320 then (xq_bd (fX1_enter N frI textI text_startsF text_startsN) fun (r_9_0, r_9_1) => (xq_bd (k_readFact r_9_0 r_9_1 fr_codeF) fun (r_11_0, r_11_1, r_11_2) => (xq_bd (fX1_emit N ((va_up r_11_0 3 ((r_11_0 3) - 1))) r_11_2 fr_codeN 20320) fun (r_13_0, r_13_1) => some ((r_13_0, r_11_1, r_13_1))))) else (if r_1 = 321 then (xq_bd (fX10_next N textI) fun r_15 => (xq_bd (fX1_emit N frI fr_codeF fr_codeN 1) fun (r_17_0, r_17_1) => some ((r_17_0, r_15, r_17_1)))) else (xq_bd (k_readSum frI textI fr_codeF) fun (r_19_0, r_19_1, r_19_2) => (xq_bd (k_readComparison r_19_0 r_19_1 r_19_2) fun (r_21_0, r_21_1, r_21_2) => some ((r_21_0, r_21_1, r_21_2))))))))
set_option maxHeartbeats 4000000 in
set_option maxRecDepth 100000 in
theorem kX1_readFact (l : Launch) (dC : Nat → ClassId) (dI : Nat → Nat → Nat) (cI cB cJ cZ cM : ClassId) (z : Nat) (ad : Nat → Nat) (N : Nat) (a_p0 : Nat) (frR textR : Nat → Nat) (text_kindsF : Nat → Int32) (text_startsF : Nat → Int32) (text_valuesF : Nat → Int32) (text_kindsN : Nat) (text_startsN : Nat) (text_valuesN : Nat) (fr_codeN : Nat) {FM LM : Nat} (hFM : 2 ≤ FM) (hLM : 41 ≤ LM) (k_readComparison : (Nat → Int32) → (Nat → Int32) → (Nat → Int32) → Option ((Nat → Int32) × (Nat → Int32) × (Nat → Int32))) (k_readFact : (Nat → Int32) → (Nat → Int32) → (Nat → Int32) → Option ((Nat → Int32) × (Nat → Int32) × (Nat → Int32))) (k_readSum : (Nat → Int32) → (Nat → Int32) → (Nat → Int32) → Option ((Nat → Int32) × (Nat → Int32) × (Nat → Int32))) (k_readTest : (Nat → Int32) → (Nat → Int32) → (Nat → Int32) → Option ((Nat → Int32) × (Nat → Int32) × (Nat → Int32)))  {F_readComparison L_readComparison : Nat} (hF_readComparison : F_readComparison + 1 ≤ FM) (hL_readComparison : 8 + (2 + 11) + L_readComparison ≤ LM) (h_readComparison : ∀ (x0 x1 x2 : Nat → Int32) (y0 y1 y2 : Nat → Int32), k_readComparison x0 x1 x2 = some (y0, y1, y2) → xq_Ct l yX1_readComparison wsX1_readComparison { frames := F_readComparison, cells := 0, slots := 0, locals := L_readComparison } (dC, dI) vwCl (xq_tys cI cB cJ cZ cM) z ad [.ref a_p0] [(a_p0, .inr (1, oX1 x0 frR)), ((frR 0), .inr (10, oX10 x1 textR)), ((textR 1), .inl (cI, text_kindsN, .inl text_kindsF)), ((textR 2), .inl (cI, text_startsN, .inl text_startsF)), ((textR 3), .inl (cI, text_valuesN, .inl text_valuesF)), ((frR 1), .inl (cI, fr_codeN, .inl x2))] [(a_p0, .inr (1, oX1 y0 frR)), ((frR 0), .inr (10, oX10 y1 textR)), ((textR 1), .inl (cI, text_kindsN, .inl text_kindsF)), ((textR 2), .inl (cI, text_startsN, .inl text_startsF)), ((textR 3), .inl (cI, text_valuesN, .inl text_valuesF)), ((frR 1), .inl (cI, fr_codeN, .inl y2))] none) {F_readFact L_readFact : Nat} (hF_readFact : F_readFact + 1 ≤ FM) (hL_readFact : 8 + (1 + 11) + L_readFact ≤ LM) (h_readFact : ∀ (x0 x1 x2 : Nat → Int32) (y0 y1 y2 : Nat → Int32), k_readFact x0 x1 x2 = some (y0, y1, y2) → xq_Ct l yX1_readFact wsX1_readFact { frames := F_readFact, cells := 0, slots := 0, locals := L_readFact } (dC, dI) vwCl (xq_tys cI cB cJ cZ cM) z ad [.ref a_p0] [(a_p0, .inr (1, oX1 x0 frR)), ((frR 0), .inr (10, oX10 x1 textR)), ((textR 1), .inl (cI, text_kindsN, .inl text_kindsF)), ((textR 2), .inl (cI, text_startsN, .inl text_startsF)), ((textR 3), .inl (cI, text_valuesN, .inl text_valuesF)), ((frR 1), .inl (cI, fr_codeN, .inl x2))] [(a_p0, .inr (1, oX1 y0 frR)), ((frR 0), .inr (10, oX10 y1 textR)), ((textR 1), .inl (cI, text_kindsN, .inl text_kindsF)), ((textR 2), .inl (cI, text_startsN, .inl text_startsF)), ((textR 3), .inl (cI, text_valuesN, .inl text_valuesF)), ((frR 1), .inl (cI, fr_codeN, .inl y2))] none) {F_readSum L_readSum : Nat} (hF_readSum : F_readSum + 1 ≤ FM) (hL_readSum : 8 + (3 + 11) + L_readSum ≤ LM) (h_readSum : ∀ (x0 x1 x2 : Nat → Int32) (y0 y1 y2 : Nat → Int32), k_readSum x0 x1 x2 = some (y0, y1, y2) → xq_Ct l yX1_readSum wsX1_readSum { frames := F_readSum, cells := 0, slots := 0, locals := L_readSum } (dC, dI) vwCl (xq_tys cI cB cJ cZ cM) z ad [.ref a_p0] [(a_p0, .inr (1, oX1 x0 frR)), ((frR 0), .inr (10, oX10 x1 textR)), ((textR 1), .inl (cI, text_kindsN, .inl text_kindsF)), ((textR 2), .inl (cI, text_startsN, .inl text_startsF)), ((textR 3), .inl (cI, text_valuesN, .inl text_valuesF)), ((frR 1), .inl (cI, fr_codeN, .inl x2))] [(a_p0, .inr (1, oX1 y0 frR)), ((frR 0), .inr (10, oX10 y1 textR)), ((textR 1), .inl (cI, text_kindsN, .inl text_kindsF)), ((textR 2), .inl (cI, text_startsN, .inl text_startsF)), ((textR 3), .inl (cI, text_valuesN, .inl text_valuesF)), ((frR 1), .inl (cI, fr_codeN, .inl y2))] none) {F_readTest L_readTest : Nat} (hF_readTest : F_readTest + 1 ≤ FM) (hL_readTest : 8 + (2 + 11) + L_readTest ≤ LM) (h_readTest : ∀ (x0 x1 x2 : Nat → Int32) (y0 y1 y2 : Nat → Int32), k_readTest x0 x1 x2 = some (y0, y1, y2) → xq_Ct l yX1_readTest wsX1_readTest { frames := F_readTest, cells := 0, slots := 0, locals := L_readTest } (dC, dI) vwCl (xq_tys cI cB cJ cZ cM) z ad [.ref a_p0] [(a_p0, .inr (1, oX1 x0 frR)), ((frR 0), .inr (10, oX10 x1 textR)), ((textR 1), .inl (cI, text_kindsN, .inl text_kindsF)), ((textR 2), .inl (cI, text_startsN, .inl text_startsF)), ((textR 3), .inl (cI, text_valuesN, .inl text_valuesF)), ((frR 1), .inl (cI, fr_codeN, .inl x2))] [(a_p0, .inr (1, oX1 y0 frR)), ((frR 0), .inr (10, oX10 y1 textR)), ((textR 1), .inl (cI, text_kindsN, .inl text_kindsF)), ((textR 2), .inl (cI, text_startsN, .inl text_startsF)), ((textR 3), .inl (cI, text_valuesN, .inl text_valuesF)), ((frR 1), .inl (cI, fr_codeN, .inl y2))] none) (frI textI fr_codeF : Nat → Int32) {r0 r1 r2 : Nat → Int32} (hf : fX1_readFact N text_kindsF text_startsF text_valuesF text_kindsN text_startsN text_valuesN fr_codeN k_readComparison k_readFact k_readSum k_readTest frI textI fr_codeF = some (r0, r1, r2)) : xq_Ct l yX1_readFact wsX1_readFact { frames := FM, cells := 0, slots := 0, locals := LM } (dC, dI) vwCl (xq_tys cI cB cJ cZ cM) z ad [.ref a_p0] [(a_p0, .inr (1, oX1 frI frR)), ((frR 0), .inr (10, oX10 textI textR)), ((textR 1), .inl (cI, text_kindsN, .inl text_kindsF)), ((textR 2), .inl (cI, text_startsN, .inl text_startsF)), ((textR 3), .inl (cI, text_valuesN, .inl text_valuesF)), ((frR 1), .inl (cI, fr_codeN, .inl fr_codeF))] [(a_p0, .inr (1, oX1 r0 frR)), ((frR 0), .inr (10, oX10 r1 textR)), ((textR 1), .inl (cI, text_kindsN, .inl text_kindsF)), ((textR 2), .inl (cI, text_startsN, .inl text_startsF)), ((textR 3), .inl (cI, text_valuesN, .inl text_valuesF)), ((frR 1), .inl (cI, fr_codeN, .inl r2))] none := by
  intro sz
  refine Met.ofW (cc := cX1_readFact) (maxL := 1) (ret := none) (by decide) rfl ?_
  intro p e s m args below meth c s₁ B hml hv
  obtain ⟨rfl, hsz, hP, hK, hD0, hE, hz⟩ := hv
  have hx := B.exec
  have hb := B.bytes
  have hr := B.returns
  have hts := atoms_spec (ws := wsX1_readFact) B.pre
  have hown : s.vm.findClass RX1 = some m.cls := findClass_of_methodNamed B.named
  have hlocks := B.notSynchronized
  subst hsz
  have hD := hD0.self (sz := s.heap.size)
  have hN := xq_Env.of hE hz hD0
  generalize hAe : va_A [(a_p0, .inr (1, oX1 frI frR)), ((frR 0), .inr (10, oX10 textI textR)), ((textR 1), .inl (cI, text_kindsN, .inl text_kindsF)), ((textR 2), .inl (cI, text_startsN, .inl text_startsF)), ((textR 3), .inl (cI, text_valuesN, .inl text_valuesF)), ((frR 1), .inl (cI, fr_codeN, .inl fr_codeF))] s.heap.size = A at hD hN ⊢
  have hA : ∀ q : Nat, s.heap.size ≤ q → A q := fun q h => by rw [← hAe]; exact Or.inr h
  clear hAe hD0
  have hS : va_S A s.heap s.heap [] := va_S.rf
  have hl := lv_entry ([.ref a_p0]) (n := 1) (Nat.le_of_ble_eq_true rfl)
  rw [lg_entry_eq]
  generalize (lg_sl ([.ref a_p0]) ++ List.replicate (1 - (lg_sl ([.ref a_p0])).length) Slot.unset).toArray = ls at hl ⊢
  have hl : lv_has ls 1 [(0, .ref a_p0)] := hl
  have hw0 := hts (.fieldLink RX1 21 "DistantVoice$FormulaReader" "text" "LDistantVoice$Text;") (by decide +kernel)
  have hinX1 : ∀ w ∈ wsX10, w ∈ wsX1_readFact := fun w h => List.mem_cons_of_mem _ (List.mem_append_left _ (List.mem_append_right _ h))
  have hw2 := hts (.fieldLink RX1 15 "DistantVoice$FormulaReader" "open" "I") (by decide +kernel)
  unfold fX1_readFact at hf
  refine lv_aload_n hx hb dX1_readFact_0 rfl (lv_at hl 0 rfl) ?_
  refine va_get (D := (dC, dI)) (ci := 1) (v := .ref ((frR 0))) (C := RX1) (T := TX1) (N := 5) hx hb hts hinX1 hown hK hP 0 rfl rfl 0 (by decide) hw0 (fun _ h9 => h9) rfl dX1_readFact_1 ?_
  obtain ⟨r_1, h_2, hf⟩ := xq_bd_some hf
  refine xq_callV (As := []) (rest := []) (ci := 10) (q0 := 1) ⟨hx, hb, hml, hown, hts⟩ (kX10_piece l dC dI cI cB cJ cZ cM z ad N ((frR 0)) textI textR text_kindsF text_kindsN h_2) (cwV 0 hts gX1_readFact_X10_piece rfl rfl rfl (by decide +kernel) ⟨Nat.le_trans (Nat.le_of_ble_eq_true rfl) hFM, Nat.le_trans (Nat.le_of_ble_eq_true rfl) hLM⟩) hN hK hP hD hS hA [1, 2] (by decide) rfl rfl rfl rfl rfl rfl hl.1 rfl (Nat.le_of_ble_eq_true rfl) dX1_readFact_4 ⟨Nat.zero_le _, Nat.zero_le _⟩ (fun H locs hP hD hS => ?_)
  have hP : va_P (dC, dI) vwCl [(a_p0, .inr (1, oX1 frI frR)), ((frR 0), .inr (10, oX10 textI textR)), ((textR 1), .inl (cI, text_kindsN, .inl text_kindsF)), ((textR 2), .inl (cI, text_startsN, .inl text_startsF)), ((textR 3), .inl (cI, text_valuesN, .inl text_valuesF)), ((frR 1), .inl (cI, fr_codeN, .inl fr_codeF))] H := hP
  have hD : va_D A [(a_p0, .inr (1, oX1 frI frR)), ((frR 0), .inr (10, oX10 textI textR)), ((textR 1), .inl (cI, text_kindsN, .inl text_kindsF)), ((textR 2), .inl (cI, text_startsN, .inl text_startsF)), ((textR 3), .inl (cI, text_valuesN, .inl text_valuesF)), ((frR 1), .inl (cI, fr_codeN, .inl fr_codeF))] := hD
  refine W.eq (g2 := F0 m 7 ls [.int r_1]) rfl ?_
  by_cases c0 : r_1 = 91
  · have hf := xq_pos hf c0
    refine lv_lookup (tgt := 68) hx hb dX1_readFact_7 (by decide) (off := 61) (by rw [c0]; decide) (by decide) ?_
    refine lv_aload_n hx hb dX1_readFact_68 rfl (lv_at hl 0 rfl) ?_
    obtain ⟨⟨r_3_0, r_3_1⟩, h_4, hf⟩ := xq_bd_some hf
    refine xq_callV (As := []) (rest := []) (ci := 1) (q0 := 0) ⟨hx, hb, hml, hown, hts⟩ (kX1_enter l dC dI cI cB cJ cZ cM z ad N a_p0 frI frR textI textR text_startsF text_startsN h_4) (cwV 0 hts gX1_readFact_X1_enter rfl rfl rfl (by decide +kernel) ⟨Nat.le_trans (Nat.le_of_ble_eq_true rfl) hFM, Nat.le_trans (Nat.le_of_ble_eq_true rfl) hLM⟩) hN hK hP hD hS hA [0, 1, 3] (by decide) rfl rfl rfl rfl rfl rfl hl.1 rfl (Nat.le_of_ble_eq_true rfl) dX1_readFact_69 ⟨Nat.zero_le _, Nat.zero_le _⟩ (fun H locs hP hD hS => ?_)
    have hP : va_P (dC, dI) vwCl [(a_p0, .inr (1, oX1 r_3_0 frR)), ((frR 0), .inr (10, oX10 r_3_1 textR)), ((textR 1), .inl (cI, text_kindsN, .inl text_kindsF)), ((textR 2), .inl (cI, text_startsN, .inl text_startsF)), ((textR 3), .inl (cI, text_valuesN, .inl text_valuesF)), ((frR 1), .inl (cI, fr_codeN, .inl fr_codeF))] H := hP
    have hD : va_D A [(a_p0, .inr (1, oX1 r_3_0 frR)), ((frR 0), .inr (10, oX10 r_3_1 textR)), ((textR 1), .inl (cI, text_kindsN, .inl text_kindsF)), ((textR 2), .inl (cI, text_startsN, .inl text_startsF)), ((textR 3), .inl (cI, text_valuesN, .inl text_valuesF)), ((frR 1), .inl (cI, fr_codeN, .inl fr_codeF))] := hD
    refine W.eq (g2 := F0 m 72 ls []) rfl ?_
    refine lv_aload_n hx hb dX1_readFact_72 rfl (lv_at hl 0 rfl) ?_
    obtain ⟨⟨r_5_0, r_5_1, r_5_2⟩, h_6, hf⟩ := xq_bd_some hf
    refine xq_callV (As := []) (rest := []) (ci := 1) (q0 := 0) ⟨hx, hb, hml, hown, hts⟩ (h_readTest r_3_0 r_3_1 fr_codeF _ _ _ h_6) (cwV 0 hts gX1_readFact_X1_readTest rfl rfl rfl (by decide +kernel) ⟨hF_readTest, hL_readTest⟩) hN hK hP hD hS hA [0, 1, 2, 3, 4, 5] (by decide) rfl rfl rfl rfl rfl rfl hl.1 rfl (Nat.le_of_ble_eq_true rfl) dX1_readFact_73 ⟨Nat.zero_le _, Nat.zero_le _⟩ (fun H locs hP hD hS => ?_)
    have hP : va_P (dC, dI) vwCl [(a_p0, .inr (1, oX1 r_5_0 frR)), ((frR 0), .inr (10, oX10 r_5_1 textR)), ((textR 1), .inl (cI, text_kindsN, .inl text_kindsF)), ((textR 2), .inl (cI, text_startsN, .inl text_startsF)), ((textR 3), .inl (cI, text_valuesN, .inl text_valuesF)), ((frR 1), .inl (cI, fr_codeN, .inl r_5_2))] H := hP
    have hD : va_D A [(a_p0, .inr (1, oX1 r_5_0 frR)), ((frR 0), .inr (10, oX10 r_5_1 textR)), ((textR 1), .inl (cI, text_kindsN, .inl text_kindsF)), ((textR 2), .inl (cI, text_startsN, .inl text_startsF)), ((textR 3), .inl (cI, text_valuesN, .inl text_valuesF)), ((frR 1), .inl (cI, fr_codeN, .inl r_5_2))] := hD
    refine W.eq (g2 := F0 m 76 ls []) rfl ?_
    refine lv_aload_n hx hb dX1_readFact_76 rfl (lv_at hl 0 rfl) ?_
    refine va_get (D := (dC, dI)) (ci := 1) (v := .ref ((frR 0))) (C := RX1) (T := TX1) (N := 5) hx hb hts hinX1 hown hK hP 0 rfl rfl 0 (by decide) hw0 (fun _ h9 => h9) rfl dX1_readFact_77 ?_
    refine lv_bipush (v := 93) hx hb dX1_readFact_80 (by decide) ?_
    obtain ⟨r_7, h_8, hf⟩ := xq_bd_some hf
    refine xq_callV (As := [.int 93]) (rest := []) (ci := 10) (q0 := 1) ⟨hx, hb, hml, hown, hts⟩ (kX10_take l dC dI cI cB cJ cZ cM z ad N ((frR 0)) r_5_1 textR text_kindsF text_kindsN text_startsF text_startsN text_valuesF text_valuesN 93 h_8) (cwV 1 hts gX1_readFact_X10_take rfl rfl rfl (by decide +kernel) ⟨Nat.le_trans (Nat.le_of_ble_eq_true rfl) hFM, Nat.le_trans (Nat.le_of_ble_eq_true rfl) hLM⟩) hN hK hP hD hS hA [1, 2, 3, 4] (by decide) rfl rfl rfl rfl rfl rfl hl.1 rfl (Nat.le_of_ble_eq_true rfl) dX1_readFact_82 ⟨Nat.zero_le _, Nat.zero_le _⟩ (fun H locs hP hD hS => ?_)
    have hP : va_P (dC, dI) vwCl [(a_p0, .inr (1, oX1 r_5_0 frR)), ((frR 0), .inr (10, oX10 r_7 textR)), ((textR 1), .inl (cI, text_kindsN, .inl text_kindsF)), ((textR 2), .inl (cI, text_startsN, .inl text_startsF)), ((textR 3), .inl (cI, text_valuesN, .inl text_valuesF)), ((frR 1), .inl (cI, fr_codeN, .inl r_5_2))] H := hP
    have hD : va_D A [(a_p0, .inr (1, oX1 r_5_0 frR)), ((frR 0), .inr (10, oX10 r_7 textR)), ((textR 1), .inl (cI, text_kindsN, .inl text_kindsF)), ((textR 2), .inl (cI, text_startsN, .inl text_startsF)), ((textR 3), .inl (cI, text_valuesN, .inl text_valuesF)), ((frR 1), .inl (cI, fr_codeN, .inl r_5_2))] := hD
    refine W.eq (g2 := F0 m 85 ls []) rfl ?_
    refine lv_aload_n hx hb dX1_readFact_85 rfl (lv_at hl 0 rfl) ?_
    refine lv_dup hx hb dX1_readFact_86 rfl ?_
    refine va_get (D := (dC, dI)) (ci := 1) (v := .int (r_5_0 3)) (C := RX1) (T := TX1) (N := 5) hx hb hts hinX1 hown hK hP 0 rfl rfl 3 (by decide) hw2 (fun _ h9 => h9) rfl dX1_readFact_87 ?_
    refine lv_iconst (v := 1) hx hb dX1_readFact_90 (by decide) ?_
    refine lv_isub hx hb dX1_readFact_91 ?_
    refine va_put (D := (dC, dI)) (ci := 1) (v := .int ((r_5_0 3) - 1)) (ty := .int) (C := RX1) (T := TX1) (N := 5) hx hb hts hinX1 tyX1 tyX1_ok nmX1 hown hK hP hD hS 0 rfl rfl 3 (by decide) hw2 (fun _ h9 => h9) rfl (by decide +kernel) rfl rfl (Nat.le_of_ble_eq_true rfl) dX1_readFact_92 (fun H locs hP hD hS => ?_)
    have hP : va_P (dC, dI) vwCl [(a_p0, .inr (1, oX1 (va_up r_5_0 3 ((r_5_0 3) - 1)) frR)), ((frR 0), .inr (10, oX10 r_7 textR)), ((textR 1), .inl (cI, text_kindsN, .inl text_kindsF)), ((textR 2), .inl (cI, text_startsN, .inl text_startsF)), ((textR 3), .inl (cI, text_valuesN, .inl text_valuesF)), ((frR 1), .inl (cI, fr_codeN, .inl r_5_2))] H := hP
    have hD : va_D A [(a_p0, .inr (1, oX1 (va_up r_5_0 3 ((r_5_0 3) - 1)) frR)), ((frR 0), .inr (10, oX10 r_7 textR)), ((textR 1), .inl (cI, text_kindsN, .inl text_kindsF)), ((textR 2), .inl (cI, text_startsN, .inl text_startsF)), ((textR 3), .inl (cI, text_valuesN, .inl text_valuesF)), ((frR 1), .inl (cI, fr_codeN, .inl r_5_2))] := hD
    refine lv_goto (tgt := 121) hx hb dX1_readFact_95 (by decide) ?_
    cases hf
    exact xq_vret hx hb hr hlocks hK hP hD hS dX1_readFact_121
  · have hf := xq_neg hf c0
    by_cases c1 : r_1 = 320
    · have hf := xq_pos hf c1
      refine lv_lookup (tgt := 40) hx hb dX1_readFact_7 (by decide) (off := 33) (by rw [c1]; decide) (by decide) ?_
      refine lv_aload_n hx hb dX1_readFact_40 rfl (lv_at hl 0 rfl) ?_
      obtain ⟨⟨r_9_0, r_9_1⟩, h_10, hf⟩ := xq_bd_some hf
      refine xq_callV (As := []) (rest := []) (ci := 1) (q0 := 0) ⟨hx, hb, hml, hown, hts⟩ (kX1_enter l dC dI cI cB cJ cZ cM z ad N a_p0 frI frR textI textR text_startsF text_startsN h_10) (cwV 0 hts gX1_readFact_X1_enter rfl rfl rfl (by decide +kernel) ⟨Nat.le_trans (Nat.le_of_ble_eq_true rfl) hFM, Nat.le_trans (Nat.le_of_ble_eq_true rfl) hLM⟩) hN hK hP hD hS hA [0, 1, 3] (by decide) rfl rfl rfl rfl rfl rfl hl.1 rfl (Nat.le_of_ble_eq_true rfl) dX1_readFact_41 ⟨Nat.zero_le _, Nat.zero_le _⟩ (fun H locs hP hD hS => ?_)
      have hP : va_P (dC, dI) vwCl [(a_p0, .inr (1, oX1 r_9_0 frR)), ((frR 0), .inr (10, oX10 r_9_1 textR)), ((textR 1), .inl (cI, text_kindsN, .inl text_kindsF)), ((textR 2), .inl (cI, text_startsN, .inl text_startsF)), ((textR 3), .inl (cI, text_valuesN, .inl text_valuesF)), ((frR 1), .inl (cI, fr_codeN, .inl fr_codeF))] H := hP
      have hD : va_D A [(a_p0, .inr (1, oX1 r_9_0 frR)), ((frR 0), .inr (10, oX10 r_9_1 textR)), ((textR 1), .inl (cI, text_kindsN, .inl text_kindsF)), ((textR 2), .inl (cI, text_startsN, .inl text_startsF)), ((textR 3), .inl (cI, text_valuesN, .inl text_valuesF)), ((frR 1), .inl (cI, fr_codeN, .inl fr_codeF))] := hD
      refine W.eq (g2 := F0 m 44 ls []) rfl ?_
      refine lv_aload_n hx hb dX1_readFact_44 rfl (lv_at hl 0 rfl) ?_
      obtain ⟨⟨r_11_0, r_11_1, r_11_2⟩, h_12, hf⟩ := xq_bd_some hf
      refine xq_callV (As := []) (rest := []) (ci := 1) (q0 := 0) ⟨hx, hb, hml, hown, hts⟩ (h_readFact r_9_0 r_9_1 fr_codeF _ _ _ h_12) (cwV 0 hts gX1_readFact_X1_readFact rfl rfl rfl (by decide +kernel) ⟨hF_readFact, hL_readFact⟩) hN hK hP hD hS hA [0, 1, 2, 3, 4, 5] (by decide) rfl rfl rfl rfl rfl rfl hl.1 rfl (Nat.le_of_ble_eq_true rfl) dX1_readFact_45 ⟨Nat.zero_le _, Nat.zero_le _⟩ (fun H locs hP hD hS => ?_)
      have hP : va_P (dC, dI) vwCl [(a_p0, .inr (1, oX1 r_11_0 frR)), ((frR 0), .inr (10, oX10 r_11_1 textR)), ((textR 1), .inl (cI, text_kindsN, .inl text_kindsF)), ((textR 2), .inl (cI, text_startsN, .inl text_startsF)), ((textR 3), .inl (cI, text_valuesN, .inl text_valuesF)), ((frR 1), .inl (cI, fr_codeN, .inl r_11_2))] H := hP
      have hD : va_D A [(a_p0, .inr (1, oX1 r_11_0 frR)), ((frR 0), .inr (10, oX10 r_11_1 textR)), ((textR 1), .inl (cI, text_kindsN, .inl text_kindsF)), ((textR 2), .inl (cI, text_startsN, .inl text_startsF)), ((textR 3), .inl (cI, text_valuesN, .inl text_valuesF)), ((frR 1), .inl (cI, fr_codeN, .inl r_11_2))] := hD
      refine W.eq (g2 := F0 m 48 ls []) rfl ?_
      refine lv_aload_n hx hb dX1_readFact_48 rfl (lv_at hl 0 rfl) ?_
      refine lv_dup hx hb dX1_readFact_49 rfl ?_
      refine va_get (D := (dC, dI)) (ci := 1) (v := .int (r_11_0 3)) (C := RX1) (T := TX1) (N := 5) hx hb hts hinX1 hown hK hP 0 rfl rfl 3 (by decide) hw2 (fun _ h9 => h9) rfl dX1_readFact_50 ?_
      refine lv_iconst (v := 1) hx hb dX1_readFact_53 (by decide) ?_
      refine lv_isub hx hb dX1_readFact_54 ?_
      refine va_put (D := (dC, dI)) (ci := 1) (v := .int ((r_11_0 3) - 1)) (ty := .int) (C := RX1) (T := TX1) (N := 5) hx hb hts hinX1 tyX1 tyX1_ok nmX1 hown hK hP hD hS 0 rfl rfl 3 (by decide) hw2 (fun _ h9 => h9) rfl (by decide +kernel) rfl rfl (Nat.le_of_ble_eq_true rfl) dX1_readFact_55 (fun H locs hP hD hS => ?_)
      have hP : va_P (dC, dI) vwCl [(a_p0, .inr (1, oX1 (va_up r_11_0 3 ((r_11_0 3) - 1)) frR)), ((frR 0), .inr (10, oX10 r_11_1 textR)), ((textR 1), .inl (cI, text_kindsN, .inl text_kindsF)), ((textR 2), .inl (cI, text_startsN, .inl text_startsF)), ((textR 3), .inl (cI, text_valuesN, .inl text_valuesF)), ((frR 1), .inl (cI, fr_codeN, .inl r_11_2))] H := hP
      have hD : va_D A [(a_p0, .inr (1, oX1 (va_up r_11_0 3 ((r_11_0 3) - 1)) frR)), ((frR 0), .inr (10, oX10 r_11_1 textR)), ((textR 1), .inl (cI, text_kindsN, .inl text_kindsF)), ((textR 2), .inl (cI, text_startsN, .inl text_startsF)), ((textR 3), .inl (cI, text_valuesN, .inl text_valuesF)), ((frR 1), .inl (cI, fr_codeN, .inl r_11_2))] := hD
      refine lv_aload_n hx hb dX1_readFact_58 rfl (lv_at hl 0 rfl) ?_
      refine lv_sipush (v := 20320) hx hb dX1_readFact_59 (by decide) ?_
      obtain ⟨⟨r_13_0, r_13_1⟩, h_14, hf⟩ := xq_bd_some hf
      refine xq_callV (As := [.int 20320]) (rest := []) (ci := 1) (q0 := 0) ⟨hx, hb, hml, hown, hts⟩ (kX1_emit l dC dI cI cB cJ cZ cM z ad N a_p0 ((va_up r_11_0 3 ((r_11_0 3) - 1))) frR r_11_2 fr_codeN 20320 h_14) (cwV 1 hts gX1_readFact_X1_emit rfl rfl rfl (by decide +kernel) ⟨Nat.le_trans (Nat.le_of_ble_eq_true rfl) hFM, Nat.le_trans (Nat.le_of_ble_eq_true rfl) hLM⟩) hN hK hP hD hS hA [0, 5] (by decide) rfl rfl rfl rfl rfl rfl hl.1 rfl (Nat.le_of_ble_eq_true rfl) dX1_readFact_62 ⟨Nat.zero_le _, Nat.zero_le _⟩ (fun H locs hP hD hS => ?_)
      have hP : va_P (dC, dI) vwCl [(a_p0, .inr (1, oX1 r_13_0 frR)), ((frR 0), .inr (10, oX10 r_11_1 textR)), ((textR 1), .inl (cI, text_kindsN, .inl text_kindsF)), ((textR 2), .inl (cI, text_startsN, .inl text_startsF)), ((textR 3), .inl (cI, text_valuesN, .inl text_valuesF)), ((frR 1), .inl (cI, fr_codeN, .inl r_13_1))] H := hP
      have hD : va_D A [(a_p0, .inr (1, oX1 r_13_0 frR)), ((frR 0), .inr (10, oX10 r_11_1 textR)), ((textR 1), .inl (cI, text_kindsN, .inl text_kindsF)), ((textR 2), .inl (cI, text_startsN, .inl text_startsF)), ((textR 3), .inl (cI, text_valuesN, .inl text_valuesF)), ((frR 1), .inl (cI, fr_codeN, .inl r_13_1))] := hD
      refine W.eq (g2 := F0 m 65 ls []) rfl ?_
      refine lv_goto (tgt := 121) hx hb dX1_readFact_65 (by decide) ?_
      cases hf
      exact xq_vret hx hb hr hlocks hK hP hD hS dX1_readFact_121
    · have hf := xq_neg hf c1
      by_cases c2 : r_1 = 321
      · have hf := xq_pos hf c2
        refine lv_lookup (tgt := 98) hx hb dX1_readFact_7 (by decide) (off := 91) (by rw [c2]; decide) (by decide) ?_
        refine lv_aload_n hx hb dX1_readFact_98 rfl (lv_at hl 0 rfl) ?_
        refine va_get (D := (dC, dI)) (ci := 1) (v := .ref ((frR 0))) (C := RX1) (T := TX1) (N := 5) hx hb hts hinX1 hown hK hP 0 rfl rfl 0 (by decide) hw0 (fun _ h9 => h9) rfl dX1_readFact_99 ?_
        obtain ⟨r_15, h_16, hf⟩ := xq_bd_some hf
        refine xq_callV (As := []) (rest := []) (ci := 10) (q0 := 1) ⟨hx, hb, hml, hown, hts⟩ (kX10_next l dC dI cI cB cJ cZ cM z ad N ((frR 0)) textI textR h_16) (cwV 0 hts gX1_readFact_X10_next rfl rfl rfl (by decide +kernel) ⟨Nat.le_trans (Nat.le_of_ble_eq_true rfl) hFM, Nat.le_trans (Nat.le_of_ble_eq_true rfl) hLM⟩) hN hK hP hD hS hA [1] (by decide) rfl rfl rfl rfl rfl rfl hl.1 rfl (Nat.le_of_ble_eq_true rfl) dX1_readFact_102 ⟨Nat.zero_le _, Nat.zero_le _⟩ (fun H locs hP hD hS => ?_)
        have hP : va_P (dC, dI) vwCl [(a_p0, .inr (1, oX1 frI frR)), ((frR 0), .inr (10, oX10 r_15 textR)), ((textR 1), .inl (cI, text_kindsN, .inl text_kindsF)), ((textR 2), .inl (cI, text_startsN, .inl text_startsF)), ((textR 3), .inl (cI, text_valuesN, .inl text_valuesF)), ((frR 1), .inl (cI, fr_codeN, .inl fr_codeF))] H := hP
        have hD : va_D A [(a_p0, .inr (1, oX1 frI frR)), ((frR 0), .inr (10, oX10 r_15 textR)), ((textR 1), .inl (cI, text_kindsN, .inl text_kindsF)), ((textR 2), .inl (cI, text_startsN, .inl text_startsF)), ((textR 3), .inl (cI, text_valuesN, .inl text_valuesF)), ((frR 1), .inl (cI, fr_codeN, .inl fr_codeF))] := hD
        refine W.eq (g2 := F0 m 105 ls []) rfl ?_
        refine lv_aload_n hx hb dX1_readFact_105 rfl (lv_at hl 0 rfl) ?_
        refine lv_iconst (v := 1) hx hb dX1_readFact_106 (by decide) ?_
        obtain ⟨⟨r_17_0, r_17_1⟩, h_18, hf⟩ := xq_bd_some hf
        refine xq_callV (As := [.int 1]) (rest := []) (ci := 1) (q0 := 0) ⟨hx, hb, hml, hown, hts⟩ (kX1_emit l dC dI cI cB cJ cZ cM z ad N a_p0 frI frR fr_codeF fr_codeN 1 h_18) (cwV 1 hts gX1_readFact_X1_emit rfl rfl rfl (by decide +kernel) ⟨Nat.le_trans (Nat.le_of_ble_eq_true rfl) hFM, Nat.le_trans (Nat.le_of_ble_eq_true rfl) hLM⟩) hN hK hP hD hS hA [0, 5] (by decide) rfl rfl rfl rfl rfl rfl hl.1 rfl (Nat.le_of_ble_eq_true rfl) dX1_readFact_107 ⟨Nat.zero_le _, Nat.zero_le _⟩ (fun H locs hP hD hS => ?_)
        have hP : va_P (dC, dI) vwCl [(a_p0, .inr (1, oX1 r_17_0 frR)), ((frR 0), .inr (10, oX10 r_15 textR)), ((textR 1), .inl (cI, text_kindsN, .inl text_kindsF)), ((textR 2), .inl (cI, text_startsN, .inl text_startsF)), ((textR 3), .inl (cI, text_valuesN, .inl text_valuesF)), ((frR 1), .inl (cI, fr_codeN, .inl r_17_1))] H := hP
        have hD : va_D A [(a_p0, .inr (1, oX1 r_17_0 frR)), ((frR 0), .inr (10, oX10 r_15 textR)), ((textR 1), .inl (cI, text_kindsN, .inl text_kindsF)), ((textR 2), .inl (cI, text_startsN, .inl text_startsF)), ((textR 3), .inl (cI, text_valuesN, .inl text_valuesF)), ((frR 1), .inl (cI, fr_codeN, .inl r_17_1))] := hD
        refine W.eq (g2 := F0 m 110 ls []) rfl ?_
        refine lv_goto (tgt := 121) hx hb dX1_readFact_110 (by decide) ?_
        cases hf
        exact xq_vret hx hb hr hlocks hK hP hD hS dX1_readFact_121
      · have hf := xq_neg hf c2
        refine lv_lookup (tgt := 113) hx hb dX1_readFact_7 (by decide) (off := 106) (by refine (lv_osw c0 (by decide)).trans ?_; refine (lv_osw c1 (by decide)).trans ?_; refine (lv_osw c2 (by decide)).trans ?_; rfl) (by decide) ?_
        refine lv_aload_n hx hb dX1_readFact_113 rfl (lv_at hl 0 rfl) ?_
        obtain ⟨⟨r_19_0, r_19_1, r_19_2⟩, h_20, hf⟩ := xq_bd_some hf
        refine xq_callV (As := []) (rest := []) (ci := 1) (q0 := 0) ⟨hx, hb, hml, hown, hts⟩ (h_readSum frI textI fr_codeF _ _ _ h_20) (cwV 0 hts gX1_readFact_X1_readSum rfl rfl rfl (by decide +kernel) ⟨hF_readSum, hL_readSum⟩) hN hK hP hD hS hA [0, 1, 2, 3, 4, 5] (by decide) rfl rfl rfl rfl rfl rfl hl.1 rfl (Nat.le_of_ble_eq_true rfl) dX1_readFact_114 ⟨Nat.zero_le _, Nat.zero_le _⟩ (fun H locs hP hD hS => ?_)
        have hP : va_P (dC, dI) vwCl [(a_p0, .inr (1, oX1 r_19_0 frR)), ((frR 0), .inr (10, oX10 r_19_1 textR)), ((textR 1), .inl (cI, text_kindsN, .inl text_kindsF)), ((textR 2), .inl (cI, text_startsN, .inl text_startsF)), ((textR 3), .inl (cI, text_valuesN, .inl text_valuesF)), ((frR 1), .inl (cI, fr_codeN, .inl r_19_2))] H := hP
        have hD : va_D A [(a_p0, .inr (1, oX1 r_19_0 frR)), ((frR 0), .inr (10, oX10 r_19_1 textR)), ((textR 1), .inl (cI, text_kindsN, .inl text_kindsF)), ((textR 2), .inl (cI, text_startsN, .inl text_startsF)), ((textR 3), .inl (cI, text_valuesN, .inl text_valuesF)), ((frR 1), .inl (cI, fr_codeN, .inl r_19_2))] := hD
        refine W.eq (g2 := F0 m 117 ls []) rfl ?_
        refine lv_aload_n hx hb dX1_readFact_117 rfl (lv_at hl 0 rfl) ?_
        obtain ⟨⟨r_21_0, r_21_1, r_21_2⟩, h_22, hf⟩ := xq_bd_some hf
        refine xq_callV (As := []) (rest := []) (ci := 1) (q0 := 0) ⟨hx, hb, hml, hown, hts⟩ (h_readComparison r_19_0 r_19_1 r_19_2 _ _ _ h_22) (cwV 0 hts gX1_readFact_X1_readComparison rfl rfl rfl (by decide +kernel) ⟨hF_readComparison, hL_readComparison⟩) hN hK hP hD hS hA [0, 1, 2, 3, 4, 5] (by decide) rfl rfl rfl rfl rfl rfl hl.1 rfl (Nat.le_of_ble_eq_true rfl) dX1_readFact_118 ⟨Nat.zero_le _, Nat.zero_le _⟩ (fun H locs hP hD hS => ?_)
        have hP : va_P (dC, dI) vwCl [(a_p0, .inr (1, oX1 r_21_0 frR)), ((frR 0), .inr (10, oX10 r_21_1 textR)), ((textR 1), .inl (cI, text_kindsN, .inl text_kindsF)), ((textR 2), .inl (cI, text_startsN, .inl text_startsF)), ((textR 3), .inl (cI, text_valuesN, .inl text_valuesF)), ((frR 1), .inl (cI, fr_codeN, .inl r_21_2))] H := hP
        have hD : va_D A [(a_p0, .inr (1, oX1 r_21_0 frR)), ((frR 0), .inr (10, oX10 r_21_1 textR)), ((textR 1), .inl (cI, text_kindsN, .inl text_kindsF)), ((textR 2), .inl (cI, text_startsN, .inl text_startsF)), ((textR 3), .inl (cI, text_valuesN, .inl text_valuesF)), ((frR 1), .inl (cI, fr_codeN, .inl r_21_2))] := hD
        refine W.eq (g2 := F0 m 121 ls []) rfl ?_
        cases hf
        exact xq_vret hx hb hr hlocks hK hP hD hS dX1_readFact_121
set_option maxRecDepth 20000 in
theorem ggX1_readBoth_X1_readFact : GoodIn wsX1_readBoth wsX1_readFact := goodIn_r _ [56, 1, 26, 6, 7, 8, 9, 10, 11, 12, 13, 14, 34, 35, 36, 5, 37, 38, 39, 40, 41, 32, 33, 15, 16, 17, 18, 2, 3, 4, 19, 20, 21, 22, 23, 24, 42, 43, 44, 45, 46, 47, 48, 49, 50, 51, 28, 29, 30, 31, 52, 53, 54, 57, 58, 59, 0, 25, 27, 55, 60, 61, 62, 63, 64, 65, 66, 67, 68, 69, 70, 71, 72, 73, 74, 75, 76, 77, 78, 79, 80, 81, 82, 83, 84, 85, 86, 87, 88, 89, 90, 91, 92, 93, 94, 95, 96, 97, 98, 99, 100, 101] rfl (by decide +kernel)
set_option maxRecDepth 20000 in
theorem gX1_readBoth_X1_readFact : GoodIn wsX1_readBoth (wsV RX1 60 RX1 yX1_readFact wsX1_readFact) := goodIn_app (goodIn_of _ (by decide +kernel)) ggX1_readBoth_X1_readFact
set_option maxRecDepth 20000 in
theorem ggX1_readBoth_X10_piece : GoodIn wsX1_readBoth wsX10_piece := goodIn_r _ [10, 11, 12, 13, 14, 94, 95, 96, 97, 98, 99, 100, 101] rfl (by decide +kernel)
set_option maxRecDepth 20000 in
theorem gX1_readBoth_X10_piece : GoodIn wsX1_readBoth (wsV RX1 49 RX10 yX10_piece wsX10_piece) := goodIn_app (goodIn_of _ (by decide +kernel)) ggX1_readBoth_X10_piece
set_option maxRecDepth 20000 in
theorem ggX1_readBoth_X10_next : GoodIn wsX1_readBoth wsX10_next := goodIn_r _ [18, 12, 13, 94, 95, 96, 97, 98, 99, 100, 101] rfl (by decide +kernel)
set_option maxRecDepth 20000 in
theorem gX1_readBoth_X10_next : GoodIn wsX1_readBoth (wsV RX1 53 RX10 yX10_next wsX10_next) := goodIn_app (goodIn_of _ (by decide +kernel)) ggX1_readBoth_X10_next
set_option maxRecDepth 20000 in
theorem ggX1_readBoth_X1_emit : GoodIn wsX1_readBoth wsX1_emit := goodIn_r _ [22, 23, 24, 89, 90, 91, 92, 93] rfl (by decide +kernel)
set_option maxRecDepth 20000 in
theorem gX1_readBoth_X1_emit : GoodIn wsX1_readBoth (wsV RX1 56 RX1 yX1_emit wsX1_emit) := goodIn_app (goodIn_of _ (by decide +kernel)) ggX1_readBoth_X1_emit
def dsX1_readBoth_0 : List (Nat × Instr × Nat) := [(0, (.aload_n 0, 1)), (1, (.invokevirtual 60, 3)), (4, (.iconst 0, 1)), (5, (.istore_n 1, 1)), (6, (.iload_n 1, 1)), (7, (.sipush 1600, 3)), (10, (.if_icmp .ge 40, 3)), (13, (.aload_n 0, 1)), (14, (.getfield 21, 3)), (17, (.invokevirtual 49, 3)), (20, (.sipush 319, 3)), (23, (.if_icmp .ne 27, 3)), (26, (.aload_n 0, 1)), (27, (.getfield 21, 3)), (30, (.invokevirtual 53, 3)), (33, (.aload_n 0, 1)), (34, (.invokevirtual 60, 3)), (37, (.aload_n 0, 1)), (38, (.sipush 20319, 3)), (41, (.invokevirtual 56, 3)), (44, (.iinc 1 1, 3)), (47, (.goto (-41), 3)), (50, (.return_, 1))]
theorem dsX1_readBoth_0_ok : (dsX1_readBoth_0.all fun q => decide (decode cX1_readBoth q.1 = .ok q.2)) = true := by decide +kernel
theorem dX1_readBoth_0 : decode cX1_readBoth 0 = .ok (.aload_n 0, 1) := of_decide_eq_true (List.all_eq_true.mp dsX1_readBoth_0_ok (0, (.aload_n 0, 1)) (List.mem_of_getElem? (i := 0) rfl))
theorem dX1_readBoth_1 : decode cX1_readBoth 1 = .ok (.invokevirtual 60, 3) := of_decide_eq_true (List.all_eq_true.mp dsX1_readBoth_0_ok (1, (.invokevirtual 60, 3)) (List.mem_of_getElem? (i := 1) rfl))
theorem dX1_readBoth_4 : decode cX1_readBoth 4 = .ok (.iconst 0, 1) := of_decide_eq_true (List.all_eq_true.mp dsX1_readBoth_0_ok (4, (.iconst 0, 1)) (List.mem_of_getElem? (i := 2) rfl))
theorem dX1_readBoth_5 : decode cX1_readBoth 5 = .ok (.istore_n 1, 1) := of_decide_eq_true (List.all_eq_true.mp dsX1_readBoth_0_ok (5, (.istore_n 1, 1)) (List.mem_of_getElem? (i := 3) rfl))
theorem dX1_readBoth_6 : decode cX1_readBoth 6 = .ok (.iload_n 1, 1) := of_decide_eq_true (List.all_eq_true.mp dsX1_readBoth_0_ok (6, (.iload_n 1, 1)) (List.mem_of_getElem? (i := 4) rfl))
theorem dX1_readBoth_7 : decode cX1_readBoth 7 = .ok (.sipush 1600, 3) := of_decide_eq_true (List.all_eq_true.mp dsX1_readBoth_0_ok (7, (.sipush 1600, 3)) (List.mem_of_getElem? (i := 5) rfl))
theorem dX1_readBoth_10 : decode cX1_readBoth 10 = .ok (.if_icmp .ge 40, 3) := of_decide_eq_true (List.all_eq_true.mp dsX1_readBoth_0_ok (10, (.if_icmp .ge 40, 3)) (List.mem_of_getElem? (i := 6) rfl))
theorem dX1_readBoth_13 : decode cX1_readBoth 13 = .ok (.aload_n 0, 1) := of_decide_eq_true (List.all_eq_true.mp dsX1_readBoth_0_ok (13, (.aload_n 0, 1)) (List.mem_of_getElem? (i := 7) rfl))
theorem dX1_readBoth_14 : decode cX1_readBoth 14 = .ok (.getfield 21, 3) := of_decide_eq_true (List.all_eq_true.mp dsX1_readBoth_0_ok (14, (.getfield 21, 3)) (List.mem_of_getElem? (i := 8) rfl))
theorem dX1_readBoth_17 : decode cX1_readBoth 17 = .ok (.invokevirtual 49, 3) := of_decide_eq_true (List.all_eq_true.mp dsX1_readBoth_0_ok (17, (.invokevirtual 49, 3)) (List.mem_of_getElem? (i := 9) rfl))
theorem dX1_readBoth_20 : decode cX1_readBoth 20 = .ok (.sipush 319, 3) := of_decide_eq_true (List.all_eq_true.mp dsX1_readBoth_0_ok (20, (.sipush 319, 3)) (List.mem_of_getElem? (i := 10) rfl))
theorem dX1_readBoth_23 : decode cX1_readBoth 23 = .ok (.if_icmp .ne 27, 3) := of_decide_eq_true (List.all_eq_true.mp dsX1_readBoth_0_ok (23, (.if_icmp .ne 27, 3)) (List.mem_of_getElem? (i := 11) rfl))
theorem dX1_readBoth_26 : decode cX1_readBoth 26 = .ok (.aload_n 0, 1) := of_decide_eq_true (List.all_eq_true.mp dsX1_readBoth_0_ok (26, (.aload_n 0, 1)) (List.mem_of_getElem? (i := 12) rfl))
theorem dX1_readBoth_27 : decode cX1_readBoth 27 = .ok (.getfield 21, 3) := of_decide_eq_true (List.all_eq_true.mp dsX1_readBoth_0_ok (27, (.getfield 21, 3)) (List.mem_of_getElem? (i := 13) rfl))
theorem dX1_readBoth_30 : decode cX1_readBoth 30 = .ok (.invokevirtual 53, 3) := of_decide_eq_true (List.all_eq_true.mp dsX1_readBoth_0_ok (30, (.invokevirtual 53, 3)) (List.mem_of_getElem? (i := 14) rfl))
theorem dX1_readBoth_33 : decode cX1_readBoth 33 = .ok (.aload_n 0, 1) := of_decide_eq_true (List.all_eq_true.mp dsX1_readBoth_0_ok (33, (.aload_n 0, 1)) (List.mem_of_getElem? (i := 15) rfl))
theorem dX1_readBoth_34 : decode cX1_readBoth 34 = .ok (.invokevirtual 60, 3) := of_decide_eq_true (List.all_eq_true.mp dsX1_readBoth_0_ok (34, (.invokevirtual 60, 3)) (List.mem_of_getElem? (i := 16) rfl))
theorem dX1_readBoth_37 : decode cX1_readBoth 37 = .ok (.aload_n 0, 1) := of_decide_eq_true (List.all_eq_true.mp dsX1_readBoth_0_ok (37, (.aload_n 0, 1)) (List.mem_of_getElem? (i := 17) rfl))
theorem dX1_readBoth_38 : decode cX1_readBoth 38 = .ok (.sipush 20319, 3) := of_decide_eq_true (List.all_eq_true.mp dsX1_readBoth_0_ok (38, (.sipush 20319, 3)) (List.mem_of_getElem? (i := 18) rfl))
theorem dX1_readBoth_41 : decode cX1_readBoth 41 = .ok (.invokevirtual 56, 3) := of_decide_eq_true (List.all_eq_true.mp dsX1_readBoth_0_ok (41, (.invokevirtual 56, 3)) (List.mem_of_getElem? (i := 19) rfl))
theorem dX1_readBoth_44 : decode cX1_readBoth 44 = .ok (.iinc 1 1, 3) := of_decide_eq_true (List.all_eq_true.mp dsX1_readBoth_0_ok (44, (.iinc 1 1, 3)) (List.mem_of_getElem? (i := 20) rfl))
theorem dX1_readBoth_47 : decode cX1_readBoth 47 = .ok (.goto (-41), 3) := of_decide_eq_true (List.all_eq_true.mp dsX1_readBoth_0_ok (47, (.goto (-41), 3)) (List.mem_of_getElem? (i := 21) rfl))
theorem dX1_readBoth_50 : decode cX1_readBoth 50 = .ok (.return_, 1) := of_decide_eq_true (List.all_eq_true.mp dsX1_readBoth_0_ok (50, (.return_, 1)) (List.mem_of_getElem? (i := 22) rfl))
def fX1_readBoth_l6 (N : Nat) (text_kindsF : Nat → Int32) (text_startsF : Nat → Int32) (text_valuesF : Nat → Int32) (text_kindsN : Nat) (text_startsN : Nat) (text_valuesN : Nat) (fr_codeN : Nat) (k_readFact : (Nat → Int32) → (Nat → Int32) → (Nat → Int32) → Option ((Nat → Int32) × (Nat → Int32) × (Nat → Int32))) (k6 : ((Nat → Int32) × (Nat → Int32) × (Nat → Int32) × Int32) → Option ((Nat → Int32) × (Nat → Int32) × (Nat → Int32))) : ((Nat → Int32) × (Nat → Int32) × (Nat → Int32) × Int32) → Option ((Nat → Int32) × (Nat → Int32) × (Nat → Int32)) :=
  fun (frI_6, textI_6, fr_codeF_6, x1_6) => (if 1600 ≤ x1_6 then some ((frI_6, textI_6, fr_codeF_6)) else (xq_bd (fX10_piece N textI_6 text_kindsF text_kindsN) fun r_1 => (if r_1 = 319 then (xq_bd (fX10_next N textI_6) fun r_3 => (xq_bd (k_readFact frI_6 r_3 fr_codeF_6) fun (r_5_0, r_5_1, r_5_2) => (xq_bd (fX1_emit N r_5_0 r_5_2 fr_codeN 20319) fun (r_7_0, r_7_1) => k6 (r_7_0, r_5_1, r_7_1, x1_6 + 1)))) else some ((frI_6, textI_6, fr_codeF_6)))))
def fX1_readBoth (N : Nat) (text_kindsF : Nat → Int32) (text_startsF : Nat → Int32) (text_valuesF : Nat → Int32) (text_kindsN : Nat) (text_startsN : Nat) (text_valuesN : Nat) (fr_codeN : Nat) (k_readFact : (Nat → Int32) → (Nat → Int32) → (Nat → Int32) → Option ((Nat → Int32) × (Nat → Int32) × (Nat → Int32))) (frI textI fr_codeF : Nat → Int32) : Option ((Nat → Int32) × (Nat → Int32) × (Nat → Int32)) :=
  (xq_bd (k_readFact frI textI fr_codeF) fun (r_1_0, r_1_1, r_1_2) => xq_loop (fX1_readBoth_l6 N text_kindsF text_startsF text_valuesF text_kindsN text_startsN text_valuesN fr_codeN k_readFact) N (r_1_0, r_1_1, r_1_2, 0))
set_option maxHeartbeats 4000000 in
set_option maxRecDepth 100000 in
theorem kX1_readBoth (l : Launch) (dC : Nat → ClassId) (dI : Nat → Nat → Nat) (cI cB cJ cZ cM : ClassId) (z : Nat) (ad : Nat → Nat) (N : Nat) (a_p0 : Nat) (frR textR : Nat → Nat) (text_kindsF : Nat → Int32) (text_startsF : Nat → Int32) (text_valuesF : Nat → Int32) (text_kindsN : Nat) (text_startsN : Nat) (text_valuesN : Nat) (fr_codeN : Nat) {FM LM : Nat} (hFM : 1 ≤ FM) (hLM : 21 ≤ LM) (k_readFact : (Nat → Int32) → (Nat → Int32) → (Nat → Int32) → Option ((Nat → Int32) × (Nat → Int32) × (Nat → Int32)))  {F_readFact L_readFact : Nat} (hF_readFact : F_readFact + 1 ≤ FM) (hL_readFact : 8 + (1 + 11) + L_readFact ≤ LM) (h_readFact : ∀ (x0 x1 x2 : Nat → Int32) (y0 y1 y2 : Nat → Int32), k_readFact x0 x1 x2 = some (y0, y1, y2) → xq_Ct l yX1_readFact wsX1_readFact { frames := F_readFact, cells := 0, slots := 0, locals := L_readFact } (dC, dI) vwCl (xq_tys cI cB cJ cZ cM) z ad [.ref a_p0] [(a_p0, .inr (1, oX1 x0 frR)), ((frR 0), .inr (10, oX10 x1 textR)), ((textR 1), .inl (cI, text_kindsN, .inl text_kindsF)), ((textR 2), .inl (cI, text_startsN, .inl text_startsF)), ((textR 3), .inl (cI, text_valuesN, .inl text_valuesF)), ((frR 1), .inl (cI, fr_codeN, .inl x2))] [(a_p0, .inr (1, oX1 y0 frR)), ((frR 0), .inr (10, oX10 y1 textR)), ((textR 1), .inl (cI, text_kindsN, .inl text_kindsF)), ((textR 2), .inl (cI, text_startsN, .inl text_startsF)), ((textR 3), .inl (cI, text_valuesN, .inl text_valuesF)), ((frR 1), .inl (cI, fr_codeN, .inl y2))] none) (frI textI fr_codeF : Nat → Int32) {r0 r1 r2 : Nat → Int32} (hf : fX1_readBoth N text_kindsF text_startsF text_valuesF text_kindsN text_startsN text_valuesN fr_codeN k_readFact frI textI fr_codeF = some (r0, r1, r2)) : xq_Ct l yX1_readBoth wsX1_readBoth { frames := FM, cells := 0, slots := 0, locals := LM } (dC, dI) vwCl (xq_tys cI cB cJ cZ cM) z ad [.ref a_p0] [(a_p0, .inr (1, oX1 frI frR)), ((frR 0), .inr (10, oX10 textI textR)), ((textR 1), .inl (cI, text_kindsN, .inl text_kindsF)), ((textR 2), .inl (cI, text_startsN, .inl text_startsF)), ((textR 3), .inl (cI, text_valuesN, .inl text_valuesF)), ((frR 1), .inl (cI, fr_codeN, .inl fr_codeF))] [(a_p0, .inr (1, oX1 r0 frR)), ((frR 0), .inr (10, oX10 r1 textR)), ((textR 1), .inl (cI, text_kindsN, .inl text_kindsF)), ((textR 2), .inl (cI, text_startsN, .inl text_startsF)), ((textR 3), .inl (cI, text_valuesN, .inl text_valuesF)), ((frR 1), .inl (cI, fr_codeN, .inl r2))] none := by
  intro sz
  refine Met.ofW (cc := cX1_readBoth) (maxL := 2) (ret := none) (by decide) rfl ?_
  intro p e s m args below meth c s₁ B hml hv
  obtain ⟨rfl, hsz, hP, hK, hD0, hE, hz⟩ := hv
  have hx := B.exec
  have hb := B.bytes
  have hr := B.returns
  have hts := atoms_spec (ws := wsX1_readBoth) B.pre
  have hown : s.vm.findClass RX1 = some m.cls := findClass_of_methodNamed B.named
  have hlocks := B.notSynchronized
  subst hsz
  have hD := hD0.self (sz := s.heap.size)
  have hN := xq_Env.of hE hz hD0
  generalize hAe : va_A [(a_p0, .inr (1, oX1 frI frR)), ((frR 0), .inr (10, oX10 textI textR)), ((textR 1), .inl (cI, text_kindsN, .inl text_kindsF)), ((textR 2), .inl (cI, text_startsN, .inl text_startsF)), ((textR 3), .inl (cI, text_valuesN, .inl text_valuesF)), ((frR 1), .inl (cI, fr_codeN, .inl fr_codeF))] s.heap.size = A at hD hN ⊢
  have hA : ∀ q : Nat, s.heap.size ≤ q → A q := fun q h => by rw [← hAe]; exact Or.inr h
  clear hAe hD0
  have hS : va_S A s.heap s.heap [] := va_S.rf
  have hl := lv_entry ([.ref a_p0]) (n := 2) (Nat.le_of_ble_eq_true rfl)
  rw [lg_entry_eq]
  generalize (lg_sl ([.ref a_p0]) ++ List.replicate (2 - (lg_sl ([.ref a_p0])).length) Slot.unset).toArray = ls at hl ⊢
  have hl : lv_has ls 2 [(0, .ref a_p0)] := hl
  have hw0 := hts (.fieldLink RX1 21 "DistantVoice$FormulaReader" "text" "LDistantVoice$Text;") (by decide +kernel)
  have hinX1 : ∀ w ∈ wsX10, w ∈ wsX1_readBoth := fun w h => List.mem_cons_of_mem _ (List.mem_append_left _ (List.mem_append_right _ h))
  have l6 : ∀ n6 : Nat, ∀ (frI_6 : Nat → Int32) (textI_6 : Nat → Int32) (fr_codeF_6 : Nat → Int32) (x1_6 : Int32) (ls : Array Slot) (H : Heap) (locs : List Loc), xq_loop (fX1_readBoth_l6 N text_kindsF text_startsF text_valuesF text_kindsN text_startsN text_valuesN fr_codeN k_readFact) n6 (frI_6, textI_6, fr_codeF_6, x1_6) = some (r0, r1, r2) → va_P (dC, dI) vwCl [(a_p0, .inr (1, oX1 frI_6 frR)), ((frR 0), .inr (10, oX10 textI_6 textR)), ((textR 1), .inl (cI, text_kindsN, .inl text_kindsF)), ((textR 2), .inl (cI, text_startsN, .inl text_startsF)), ((textR 3), .inl (cI, text_valuesN, .inl text_valuesF)), ((frR 1), .inl (cI, fr_codeN, .inl fr_codeF_6))] H → va_D A [(a_p0, .inr (1, oX1 frI_6 frR)), ((frR 0), .inr (10, oX10 textI_6 textR)), ((textR 1), .inl (cI, text_kindsN, .inl text_kindsF)), ((textR 2), .inl (cI, text_startsN, .inl text_startsF)), ((textR 3), .inl (cI, text_valuesN, .inl text_valuesF)), ((frR 1), .inl (cI, fr_codeN, .inl fr_codeF_6))] → va_S A s.heap H locs → lv_has ls 2 [(0, .ref a_p0), (1, .int x1_6)] → W p l e (headSpec wsX1_readBoth { frames := FM, cells := 0, slots := 0, locals := LM }).room s m [.ref a_p0].toArray below meth c H locs 0 0 (MQ below (xq_Q (dC, dI) vwCl (xq_tys cI cB cJ cZ cM) A [(a_p0, .inr (1, oX1 r0 frR)), ((frR 0), .inr (10, oX10 r1 textR)), ((textR 1), .inl (cI, text_kindsN, .inl text_kindsF)), ((textR 2), .inl (cI, text_startsN, .inl text_startsF)), ((textR 3), .inl (cI, text_valuesN, .inl text_valuesF)), ((frR 1), .inl (cI, fr_codeN, .inl r2))] none) [.ref a_p0].toArray s 0 0 A) (F0 m 6 ls []) := by
    intro n6
    induction n6 with
    | zero => intro frI_6 textI_6 fr_codeF_6 x1_6 ls H locs hf; cases (show none = some (r0, r1, r2) from hf)
    | succ n6 ih6 =>
      intro frI_6 textI_6 fr_codeF_6 x1_6 ls H locs hf hP hD hS hl
      have hf : fX1_readBoth_l6 N text_kindsF text_startsF text_valuesF text_kindsN text_startsN text_valuesN fr_codeN k_readFact (xq_loop (fX1_readBoth_l6 N text_kindsF text_startsF text_valuesF text_kindsN text_startsN text_valuesN fr_codeN k_readFact) n6) (frI_6, textI_6, fr_codeF_6, x1_6) = some (r0, r1, r2) := hf
      unfold fX1_readBoth_l6 at hf
      refine lv_iload_n hx hb dX1_readBoth_6 rfl (lv_at hl 1 rfl) ?_
      refine lv_sipush (v := 1600) hx hb dX1_readBoth_7 (by decide) ?_
      refine lv_icmp_ge (tgt := 50) hx hb dX1_readBoth_10 (by decide) (fun c_ => ?_) (fun c_ => ?_)
      · have hf := xq_pos hf c_
        cases hf
        exact xq_vret hx hb hr hlocks hK hP hD hS dX1_readBoth_50
      · have hf := xq_neg hf c_
        refine lv_aload_n hx hb dX1_readBoth_13 rfl (lv_at hl 0 rfl) ?_
        refine va_get (D := (dC, dI)) (ci := 1) (v := .ref ((frR 0))) (C := RX1) (T := TX1) (N := 5) hx hb hts hinX1 hown hK hP 0 rfl rfl 0 (by decide) hw0 (fun _ h9 => h9) rfl dX1_readBoth_14 ?_
        obtain ⟨r_1, h_2, hf⟩ := xq_bd_some hf
        refine xq_callV (As := []) (rest := []) (ci := 10) (q0 := 1) ⟨hx, hb, hml, hown, hts⟩ (kX10_piece l dC dI cI cB cJ cZ cM z ad N ((frR 0)) textI_6 textR text_kindsF text_kindsN h_2) (cwV 0 hts gX1_readBoth_X10_piece rfl rfl rfl (by decide +kernel) ⟨Nat.le_trans (Nat.le_of_ble_eq_true rfl) hFM, Nat.le_trans (Nat.le_of_ble_eq_true rfl) hLM⟩) hN hK hP hD hS hA [1, 2] (by decide) rfl rfl rfl rfl rfl rfl hl.1 rfl (Nat.le_of_ble_eq_true rfl) dX1_readBoth_17 ⟨Nat.zero_le _, Nat.zero_le _⟩ (fun H locs hP hD hS => ?_)
        have hP : va_P (dC, dI) vwCl [(a_p0, .inr (1, oX1 frI_6 frR)), ((frR 0), .inr (10, oX10 textI_6 textR)), ((textR 1), .inl (cI, text_kindsN, .inl text_kindsF)), ((textR 2), .inl (cI, text_startsN, .inl text_startsF)), ((textR 3), .inl (cI, text_valuesN, .inl text_valuesF)), ((frR 1), .inl (cI, fr_codeN, .inl fr_codeF_6))] H := hP
        have hD : va_D A [(a_p0, .inr (1, oX1 frI_6 frR)), ((frR 0), .inr (10, oX10 textI_6 textR)), ((textR 1), .inl (cI, text_kindsN, .inl text_kindsF)), ((textR 2), .inl (cI, text_startsN, .inl text_startsF)), ((textR 3), .inl (cI, text_valuesN, .inl text_valuesF)), ((frR 1), .inl (cI, fr_codeN, .inl fr_codeF_6))] := hD
        refine W.eq (g2 := F0 m 20 ls [.int r_1]) rfl ?_
        refine lv_sipush (v := 319) hx hb dX1_readBoth_20 (by decide) ?_
        refine lv_icmp_ne (tgt := 50) hx hb dX1_readBoth_23 (by decide) (fun c_ => ?_) (fun c_ => ?_)
        · have hf := xq_neg hf c_
          cases hf
          exact xq_vret hx hb hr hlocks hK hP hD hS dX1_readBoth_50
        · have hf := xq_pos hf c_
          refine lv_aload_n hx hb dX1_readBoth_26 rfl (lv_at hl 0 rfl) ?_
          refine va_get (D := (dC, dI)) (ci := 1) (v := .ref ((frR 0))) (C := RX1) (T := TX1) (N := 5) hx hb hts hinX1 hown hK hP 0 rfl rfl 0 (by decide) hw0 (fun _ h9 => h9) rfl dX1_readBoth_27 ?_
          obtain ⟨r_3, h_4, hf⟩ := xq_bd_some hf
          refine xq_callV (As := []) (rest := []) (ci := 10) (q0 := 1) ⟨hx, hb, hml, hown, hts⟩ (kX10_next l dC dI cI cB cJ cZ cM z ad N ((frR 0)) textI_6 textR h_4) (cwV 0 hts gX1_readBoth_X10_next rfl rfl rfl (by decide +kernel) ⟨Nat.le_trans (Nat.le_of_ble_eq_true rfl) hFM, Nat.le_trans (Nat.le_of_ble_eq_true rfl) hLM⟩) hN hK hP hD hS hA [1] (by decide) rfl rfl rfl rfl rfl rfl hl.1 rfl (Nat.le_of_ble_eq_true rfl) dX1_readBoth_30 ⟨Nat.zero_le _, Nat.zero_le _⟩ (fun H locs hP hD hS => ?_)
          have hP : va_P (dC, dI) vwCl [(a_p0, .inr (1, oX1 frI_6 frR)), ((frR 0), .inr (10, oX10 r_3 textR)), ((textR 1), .inl (cI, text_kindsN, .inl text_kindsF)), ((textR 2), .inl (cI, text_startsN, .inl text_startsF)), ((textR 3), .inl (cI, text_valuesN, .inl text_valuesF)), ((frR 1), .inl (cI, fr_codeN, .inl fr_codeF_6))] H := hP
          have hD : va_D A [(a_p0, .inr (1, oX1 frI_6 frR)), ((frR 0), .inr (10, oX10 r_3 textR)), ((textR 1), .inl (cI, text_kindsN, .inl text_kindsF)), ((textR 2), .inl (cI, text_startsN, .inl text_startsF)), ((textR 3), .inl (cI, text_valuesN, .inl text_valuesF)), ((frR 1), .inl (cI, fr_codeN, .inl fr_codeF_6))] := hD
          refine W.eq (g2 := F0 m 33 ls []) rfl ?_
          refine lv_aload_n hx hb dX1_readBoth_33 rfl (lv_at hl 0 rfl) ?_
          obtain ⟨⟨r_5_0, r_5_1, r_5_2⟩, h_6, hf⟩ := xq_bd_some hf
          refine xq_callV (As := []) (rest := []) (ci := 1) (q0 := 0) ⟨hx, hb, hml, hown, hts⟩ (h_readFact frI_6 r_3 fr_codeF_6 _ _ _ h_6) (cwV 0 hts gX1_readBoth_X1_readFact rfl rfl rfl (by decide +kernel) ⟨hF_readFact, hL_readFact⟩) hN hK hP hD hS hA [0, 1, 2, 3, 4, 5] (by decide) rfl rfl rfl rfl rfl rfl hl.1 rfl (Nat.le_of_ble_eq_true rfl) dX1_readBoth_34 ⟨Nat.zero_le _, Nat.zero_le _⟩ (fun H locs hP hD hS => ?_)
          have hP : va_P (dC, dI) vwCl [(a_p0, .inr (1, oX1 r_5_0 frR)), ((frR 0), .inr (10, oX10 r_5_1 textR)), ((textR 1), .inl (cI, text_kindsN, .inl text_kindsF)), ((textR 2), .inl (cI, text_startsN, .inl text_startsF)), ((textR 3), .inl (cI, text_valuesN, .inl text_valuesF)), ((frR 1), .inl (cI, fr_codeN, .inl r_5_2))] H := hP
          have hD : va_D A [(a_p0, .inr (1, oX1 r_5_0 frR)), ((frR 0), .inr (10, oX10 r_5_1 textR)), ((textR 1), .inl (cI, text_kindsN, .inl text_kindsF)), ((textR 2), .inl (cI, text_startsN, .inl text_startsF)), ((textR 3), .inl (cI, text_valuesN, .inl text_valuesF)), ((frR 1), .inl (cI, fr_codeN, .inl r_5_2))] := hD
          refine W.eq (g2 := F0 m 37 ls []) rfl ?_
          refine lv_aload_n hx hb dX1_readBoth_37 rfl (lv_at hl 0 rfl) ?_
          refine lv_sipush (v := 20319) hx hb dX1_readBoth_38 (by decide) ?_
          obtain ⟨⟨r_7_0, r_7_1⟩, h_8, hf⟩ := xq_bd_some hf
          refine xq_callV (As := [.int 20319]) (rest := []) (ci := 1) (q0 := 0) ⟨hx, hb, hml, hown, hts⟩ (kX1_emit l dC dI cI cB cJ cZ cM z ad N a_p0 r_5_0 frR r_5_2 fr_codeN 20319 h_8) (cwV 1 hts gX1_readBoth_X1_emit rfl rfl rfl (by decide +kernel) ⟨Nat.le_trans (Nat.le_of_ble_eq_true rfl) hFM, Nat.le_trans (Nat.le_of_ble_eq_true rfl) hLM⟩) hN hK hP hD hS hA [0, 5] (by decide) rfl rfl rfl rfl rfl rfl hl.1 rfl (Nat.le_of_ble_eq_true rfl) dX1_readBoth_41 ⟨Nat.zero_le _, Nat.zero_le _⟩ (fun H locs hP hD hS => ?_)
          have hP : va_P (dC, dI) vwCl [(a_p0, .inr (1, oX1 r_7_0 frR)), ((frR 0), .inr (10, oX10 r_5_1 textR)), ((textR 1), .inl (cI, text_kindsN, .inl text_kindsF)), ((textR 2), .inl (cI, text_startsN, .inl text_startsF)), ((textR 3), .inl (cI, text_valuesN, .inl text_valuesF)), ((frR 1), .inl (cI, fr_codeN, .inl r_7_1))] H := hP
          have hD : va_D A [(a_p0, .inr (1, oX1 r_7_0 frR)), ((frR 0), .inr (10, oX10 r_5_1 textR)), ((textR 1), .inl (cI, text_kindsN, .inl text_kindsF)), ((textR 2), .inl (cI, text_startsN, .inl text_startsF)), ((textR 3), .inl (cI, text_valuesN, .inl text_valuesF)), ((frR 1), .inl (cI, fr_codeN, .inl r_7_1))] := hD
          refine W.eq (g2 := F0 m 44 ls []) rfl ?_
          refine lv_iinc (v := x1_6 + 1) (lv' := [(1, .int (x1_6 + 1)), (0, .ref a_p0)]) hx hb dX1_readBoth_44 hl (k := 1) rfl (congrArg (fun q9 => x1_6 + q9) (by decide : Int32.ofInt 1 = 1)) (by decide) rfl (fun ls hl => ?_)
          refine lv_goto (tgt := 6) hx hb dX1_readBoth_47 (by decide) ?_
          exact ih6 r_7_0 r_5_1 r_7_1 (x1_6 + 1) _ _ _ hf hP hD hS (lv_sub hl [1, 0] rfl)
  unfold fX1_readBoth at hf
  refine lv_aload_n hx hb dX1_readBoth_0 rfl (lv_at hl 0 rfl) ?_
  obtain ⟨⟨r_1_0, r_1_1, r_1_2⟩, h_2, hf⟩ := xq_bd_some hf
  refine xq_callV (As := []) (rest := []) (ci := 1) (q0 := 0) ⟨hx, hb, hml, hown, hts⟩ (h_readFact frI textI fr_codeF _ _ _ h_2) (cwV 0 hts gX1_readBoth_X1_readFact rfl rfl rfl (by decide +kernel) ⟨hF_readFact, hL_readFact⟩) hN hK hP hD hS hA [0, 1, 2, 3, 4, 5] (by decide) rfl rfl rfl rfl rfl rfl hl.1 rfl (Nat.le_of_ble_eq_true rfl) dX1_readBoth_1 ⟨Nat.zero_le _, Nat.zero_le _⟩ (fun H locs hP hD hS => ?_)
  have hP : va_P (dC, dI) vwCl [(a_p0, .inr (1, oX1 r_1_0 frR)), ((frR 0), .inr (10, oX10 r_1_1 textR)), ((textR 1), .inl (cI, text_kindsN, .inl text_kindsF)), ((textR 2), .inl (cI, text_startsN, .inl text_startsF)), ((textR 3), .inl (cI, text_valuesN, .inl text_valuesF)), ((frR 1), .inl (cI, fr_codeN, .inl r_1_2))] H := hP
  have hD : va_D A [(a_p0, .inr (1, oX1 r_1_0 frR)), ((frR 0), .inr (10, oX10 r_1_1 textR)), ((textR 1), .inl (cI, text_kindsN, .inl text_kindsF)), ((textR 2), .inl (cI, text_startsN, .inl text_startsF)), ((textR 3), .inl (cI, text_valuesN, .inl text_valuesF)), ((frR 1), .inl (cI, fr_codeN, .inl r_1_2))] := hD
  refine W.eq (g2 := F0 m 4 ls []) rfl ?_
  refine lv_iconst (v := 0) hx hb dX1_readBoth_4 (by decide) ?_
  refine lv_istore_n (lv' := [(1, .int 0), (0, .ref a_p0)]) hx hb dX1_readBoth_5 rfl hl (by decide) rfl (fun ls hl => ?_)
  exact l6 N r_1_0 r_1_1 r_1_2 0 _ _ _ hf hP hD hS (lv_sub hl [1, 0] rfl)
set_option maxRecDepth 20000 in
theorem ggX1_readTest_X1_readBoth : GoodIn wsX1_readTest wsX1_readBoth := goodIn_r _ [25, 1, 26, 27, 28, 5, 6, 7, 8, 9, 10, 11, 12, 13, 14, 15, 16, 17, 18, 19, 20, 21, 22, 23, 24, 29, 30, 31, 32, 33, 34, 35, 36, 37, 38, 39, 40, 41, 42, 43, 44, 45, 46, 47, 48, 49, 50, 51, 52, 53, 54, 55, 56, 57, 58, 59, 60, 61, 62, 63, 64, 65, 66, 67, 68, 69, 70, 71, 72, 73, 74, 75, 76, 77, 78, 79, 80, 81, 82, 83, 84, 85, 86, 87, 88, 0, 2, 3, 4, 89, 90, 91, 92, 93, 94, 95, 96, 97, 98, 99, 100, 101] rfl (by decide +kernel)
set_option maxRecDepth 20000 in
theorem gX1_readTest_X1_readBoth : GoodIn wsX1_readTest (wsV RX1 46 RX1 yX1_readBoth wsX1_readBoth) := goodIn_app (goodIn_of _ (by decide +kernel)) ggX1_readTest_X1_readBoth
set_option maxRecDepth 20000 in
theorem ggX1_readTest_X10_piece : GoodIn wsX1_readTest wsX10_piece := goodIn_r _ [10, 11, 12, 13, 14, 94, 95, 96, 97, 98, 99, 100, 101] rfl (by decide +kernel)
set_option maxRecDepth 20000 in
theorem gX1_readTest_X10_piece : GoodIn wsX1_readTest (wsV RX1 49 RX10 yX10_piece wsX10_piece) := goodIn_app (goodIn_of _ (by decide +kernel)) ggX1_readTest_X10_piece
set_option maxRecDepth 20000 in
theorem ggX1_readTest_X10_next : GoodIn wsX1_readTest wsX10_next := goodIn_r _ [18, 12, 13, 94, 95, 96, 97, 98, 99, 100, 101] rfl (by decide +kernel)
set_option maxRecDepth 20000 in
theorem gX1_readTest_X10_next : GoodIn wsX1_readTest (wsV RX1 53 RX10 yX10_next wsX10_next) := goodIn_app (goodIn_of _ (by decide +kernel)) ggX1_readTest_X10_next
set_option maxRecDepth 20000 in
theorem ggX1_readTest_X1_emit : GoodIn wsX1_readTest wsX1_emit := goodIn_r _ [22, 23, 24, 89, 90, 91, 92, 93] rfl (by decide +kernel)
set_option maxRecDepth 20000 in
theorem gX1_readTest_X1_emit : GoodIn wsX1_readTest (wsV RX1 56 RX1 yX1_emit wsX1_emit) := goodIn_app (goodIn_of _ (by decide +kernel)) ggX1_readTest_X1_emit
def dsX1_readTest_0 : List (Nat × Instr × Nat) := [(0, (.aload_n 0, 1)), (1, (.invokevirtual 46, 3)), (4, (.iconst 0, 1)), (5, (.istore_n 1, 1)), (6, (.iload_n 1, 1)), (7, (.sipush 1600, 3)), (10, (.if_icmp .ge 40, 3)), (13, (.aload_n 0, 1)), (14, (.getfield 21, 3)), (17, (.invokevirtual 49, 3)), (20, (.sipush 318, 3)), (23, (.if_icmp .ne 27, 3)), (26, (.aload_n 0, 1)), (27, (.getfield 21, 3)), (30, (.invokevirtual 53, 3)), (33, (.aload_n 0, 1)), (34, (.invokevirtual 46, 3)), (37, (.aload_n 0, 1)), (38, (.sipush 20318, 3)), (41, (.invokevirtual 56, 3)), (44, (.iinc 1 1, 3)), (47, (.goto (-41), 3)), (50, (.return_, 1))]
theorem dsX1_readTest_0_ok : (dsX1_readTest_0.all fun q => decide (decode cX1_readTest q.1 = .ok q.2)) = true := by decide +kernel
theorem dX1_readTest_0 : decode cX1_readTest 0 = .ok (.aload_n 0, 1) := of_decide_eq_true (List.all_eq_true.mp dsX1_readTest_0_ok (0, (.aload_n 0, 1)) (List.mem_of_getElem? (i := 0) rfl))
theorem dX1_readTest_1 : decode cX1_readTest 1 = .ok (.invokevirtual 46, 3) := of_decide_eq_true (List.all_eq_true.mp dsX1_readTest_0_ok (1, (.invokevirtual 46, 3)) (List.mem_of_getElem? (i := 1) rfl))
theorem dX1_readTest_4 : decode cX1_readTest 4 = .ok (.iconst 0, 1) := of_decide_eq_true (List.all_eq_true.mp dsX1_readTest_0_ok (4, (.iconst 0, 1)) (List.mem_of_getElem? (i := 2) rfl))
theorem dX1_readTest_5 : decode cX1_readTest 5 = .ok (.istore_n 1, 1) := of_decide_eq_true (List.all_eq_true.mp dsX1_readTest_0_ok (5, (.istore_n 1, 1)) (List.mem_of_getElem? (i := 3) rfl))
theorem dX1_readTest_6 : decode cX1_readTest 6 = .ok (.iload_n 1, 1) := of_decide_eq_true (List.all_eq_true.mp dsX1_readTest_0_ok (6, (.iload_n 1, 1)) (List.mem_of_getElem? (i := 4) rfl))
theorem dX1_readTest_7 : decode cX1_readTest 7 = .ok (.sipush 1600, 3) := of_decide_eq_true (List.all_eq_true.mp dsX1_readTest_0_ok (7, (.sipush 1600, 3)) (List.mem_of_getElem? (i := 5) rfl))
theorem dX1_readTest_10 : decode cX1_readTest 10 = .ok (.if_icmp .ge 40, 3) := of_decide_eq_true (List.all_eq_true.mp dsX1_readTest_0_ok (10, (.if_icmp .ge 40, 3)) (List.mem_of_getElem? (i := 6) rfl))
theorem dX1_readTest_13 : decode cX1_readTest 13 = .ok (.aload_n 0, 1) := of_decide_eq_true (List.all_eq_true.mp dsX1_readTest_0_ok (13, (.aload_n 0, 1)) (List.mem_of_getElem? (i := 7) rfl))
theorem dX1_readTest_14 : decode cX1_readTest 14 = .ok (.getfield 21, 3) := of_decide_eq_true (List.all_eq_true.mp dsX1_readTest_0_ok (14, (.getfield 21, 3)) (List.mem_of_getElem? (i := 8) rfl))
theorem dX1_readTest_17 : decode cX1_readTest 17 = .ok (.invokevirtual 49, 3) := of_decide_eq_true (List.all_eq_true.mp dsX1_readTest_0_ok (17, (.invokevirtual 49, 3)) (List.mem_of_getElem? (i := 9) rfl))
theorem dX1_readTest_20 : decode cX1_readTest 20 = .ok (.sipush 318, 3) := of_decide_eq_true (List.all_eq_true.mp dsX1_readTest_0_ok (20, (.sipush 318, 3)) (List.mem_of_getElem? (i := 10) rfl))
theorem dX1_readTest_23 : decode cX1_readTest 23 = .ok (.if_icmp .ne 27, 3) := of_decide_eq_true (List.all_eq_true.mp dsX1_readTest_0_ok (23, (.if_icmp .ne 27, 3)) (List.mem_of_getElem? (i := 11) rfl))
theorem dX1_readTest_26 : decode cX1_readTest 26 = .ok (.aload_n 0, 1) := of_decide_eq_true (List.all_eq_true.mp dsX1_readTest_0_ok (26, (.aload_n 0, 1)) (List.mem_of_getElem? (i := 12) rfl))
theorem dX1_readTest_27 : decode cX1_readTest 27 = .ok (.getfield 21, 3) := of_decide_eq_true (List.all_eq_true.mp dsX1_readTest_0_ok (27, (.getfield 21, 3)) (List.mem_of_getElem? (i := 13) rfl))
theorem dX1_readTest_30 : decode cX1_readTest 30 = .ok (.invokevirtual 53, 3) := of_decide_eq_true (List.all_eq_true.mp dsX1_readTest_0_ok (30, (.invokevirtual 53, 3)) (List.mem_of_getElem? (i := 14) rfl))
theorem dX1_readTest_33 : decode cX1_readTest 33 = .ok (.aload_n 0, 1) := of_decide_eq_true (List.all_eq_true.mp dsX1_readTest_0_ok (33, (.aload_n 0, 1)) (List.mem_of_getElem? (i := 15) rfl))
theorem dX1_readTest_34 : decode cX1_readTest 34 = .ok (.invokevirtual 46, 3) := of_decide_eq_true (List.all_eq_true.mp dsX1_readTest_0_ok (34, (.invokevirtual 46, 3)) (List.mem_of_getElem? (i := 16) rfl))
theorem dX1_readTest_37 : decode cX1_readTest 37 = .ok (.aload_n 0, 1) := of_decide_eq_true (List.all_eq_true.mp dsX1_readTest_0_ok (37, (.aload_n 0, 1)) (List.mem_of_getElem? (i := 17) rfl))
theorem dX1_readTest_38 : decode cX1_readTest 38 = .ok (.sipush 20318, 3) := of_decide_eq_true (List.all_eq_true.mp dsX1_readTest_0_ok (38, (.sipush 20318, 3)) (List.mem_of_getElem? (i := 18) rfl))
theorem dX1_readTest_41 : decode cX1_readTest 41 = .ok (.invokevirtual 56, 3) := of_decide_eq_true (List.all_eq_true.mp dsX1_readTest_0_ok (41, (.invokevirtual 56, 3)) (List.mem_of_getElem? (i := 19) rfl))
theorem dX1_readTest_44 : decode cX1_readTest 44 = .ok (.iinc 1 1, 3) := of_decide_eq_true (List.all_eq_true.mp dsX1_readTest_0_ok (44, (.iinc 1 1, 3)) (List.mem_of_getElem? (i := 20) rfl))
theorem dX1_readTest_47 : decode cX1_readTest 47 = .ok (.goto (-41), 3) := of_decide_eq_true (List.all_eq_true.mp dsX1_readTest_0_ok (47, (.goto (-41), 3)) (List.mem_of_getElem? (i := 21) rfl))
theorem dX1_readTest_50 : decode cX1_readTest 50 = .ok (.return_, 1) := of_decide_eq_true (List.all_eq_true.mp dsX1_readTest_0_ok (50, (.return_, 1)) (List.mem_of_getElem? (i := 22) rfl))
def fX1_readTest_l6 (N : Nat) (text_kindsF : Nat → Int32) (text_startsF : Nat → Int32) (text_valuesF : Nat → Int32) (text_kindsN : Nat) (text_startsN : Nat) (text_valuesN : Nat) (fr_codeN : Nat) (k_readBoth : (Nat → Int32) → (Nat → Int32) → (Nat → Int32) → Option ((Nat → Int32) × (Nat → Int32) × (Nat → Int32))) (k6 : ((Nat → Int32) × (Nat → Int32) × (Nat → Int32) × Int32) → Option ((Nat → Int32) × (Nat → Int32) × (Nat → Int32))) : ((Nat → Int32) × (Nat → Int32) × (Nat → Int32) × Int32) → Option ((Nat → Int32) × (Nat → Int32) × (Nat → Int32)) :=
  fun (frI_6, textI_6, fr_codeF_6, x1_6) => (if 1600 ≤ x1_6 then some ((frI_6, textI_6, fr_codeF_6)) else (xq_bd (fX10_piece N textI_6 text_kindsF text_kindsN) fun r_1 => (if r_1 = 318 then (xq_bd (fX10_next N textI_6) fun r_3 => (xq_bd (k_readBoth frI_6 r_3 fr_codeF_6) fun (r_5_0, r_5_1, r_5_2) => (xq_bd (fX1_emit N r_5_0 r_5_2 fr_codeN 20318) fun (r_7_0, r_7_1) => k6 (r_7_0, r_5_1, r_7_1, x1_6 + 1)))) else some ((frI_6, textI_6, fr_codeF_6)))))
def fX1_readTest (N : Nat) (text_kindsF : Nat → Int32) (text_startsF : Nat → Int32) (text_valuesF : Nat → Int32) (text_kindsN : Nat) (text_startsN : Nat) (text_valuesN : Nat) (fr_codeN : Nat) (k_readBoth : (Nat → Int32) → (Nat → Int32) → (Nat → Int32) → Option ((Nat → Int32) × (Nat → Int32) × (Nat → Int32))) (frI textI fr_codeF : Nat → Int32) : Option ((Nat → Int32) × (Nat → Int32) × (Nat → Int32)) :=
  (xq_bd (k_readBoth frI textI fr_codeF) fun (r_1_0, r_1_1, r_1_2) => xq_loop (fX1_readTest_l6 N text_kindsF text_startsF text_valuesF text_kindsN text_startsN text_valuesN fr_codeN k_readBoth) N (r_1_0, r_1_1, r_1_2, 0))
set_option maxHeartbeats 4000000 in
set_option maxRecDepth 100000 in
theorem kX1_readTest (l : Launch) (dC : Nat → ClassId) (dI : Nat → Nat → Nat) (cI cB cJ cZ cM : ClassId) (z : Nat) (ad : Nat → Nat) (N : Nat) (a_p0 : Nat) (frR textR : Nat → Nat) (text_kindsF : Nat → Int32) (text_startsF : Nat → Int32) (text_valuesF : Nat → Int32) (text_kindsN : Nat) (text_startsN : Nat) (text_valuesN : Nat) (fr_codeN : Nat) {FM LM : Nat} (hFM : 1 ≤ FM) (hLM : 21 ≤ LM) (k_readBoth : (Nat → Int32) → (Nat → Int32) → (Nat → Int32) → Option ((Nat → Int32) × (Nat → Int32) × (Nat → Int32)))  {F_readBoth L_readBoth : Nat} (hF_readBoth : F_readBoth + 1 ≤ FM) (hL_readBoth : 8 + (2 + 11) + L_readBoth ≤ LM) (h_readBoth : ∀ (x0 x1 x2 : Nat → Int32) (y0 y1 y2 : Nat → Int32), k_readBoth x0 x1 x2 = some (y0, y1, y2) → xq_Ct l yX1_readBoth wsX1_readBoth { frames := F_readBoth, cells := 0, slots := 0, locals := L_readBoth } (dC, dI) vwCl (xq_tys cI cB cJ cZ cM) z ad [.ref a_p0] [(a_p0, .inr (1, oX1 x0 frR)), ((frR 0), .inr (10, oX10 x1 textR)), ((textR 1), .inl (cI, text_kindsN, .inl text_kindsF)), ((textR 2), .inl (cI, text_startsN, .inl text_startsF)), ((textR 3), .inl (cI, text_valuesN, .inl text_valuesF)), ((frR 1), .inl (cI, fr_codeN, .inl x2))] [(a_p0, .inr (1, oX1 y0 frR)), ((frR 0), .inr (10, oX10 y1 textR)), ((textR 1), .inl (cI, text_kindsN, .inl text_kindsF)), ((textR 2), .inl (cI, text_startsN, .inl text_startsF)), ((textR 3), .inl (cI, text_valuesN, .inl text_valuesF)), ((frR 1), .inl (cI, fr_codeN, .inl y2))] none) (frI textI fr_codeF : Nat → Int32) {r0 r1 r2 : Nat → Int32} (hf : fX1_readTest N text_kindsF text_startsF text_valuesF text_kindsN text_startsN text_valuesN fr_codeN k_readBoth frI textI fr_codeF = some (r0, r1, r2)) : xq_Ct l yX1_readTest wsX1_readTest { frames := FM, cells := 0, slots := 0, locals := LM } (dC, dI) vwCl (xq_tys cI cB cJ cZ cM) z ad [.ref a_p0] [(a_p0, .inr (1, oX1 frI frR)), ((frR 0), .inr (10, oX10 textI textR)), ((textR 1), .inl (cI, text_kindsN, .inl text_kindsF)), ((textR 2), .inl (cI, text_startsN, .inl text_startsF)), ((textR 3), .inl (cI, text_valuesN, .inl text_valuesF)), ((frR 1), .inl (cI, fr_codeN, .inl fr_codeF))] [(a_p0, .inr (1, oX1 r0 frR)), ((frR 0), .inr (10, oX10 r1 textR)), ((textR 1), .inl (cI, text_kindsN, .inl text_kindsF)), ((textR 2), .inl (cI, text_startsN, .inl text_startsF)), ((textR 3), .inl (cI, text_valuesN, .inl text_valuesF)), ((frR 1), .inl (cI, fr_codeN, .inl r2))] none := by
  intro sz
  refine Met.ofW (cc := cX1_readTest) (maxL := 2) (ret := none) (by decide) rfl ?_
  intro p e s m args below meth c s₁ B hml hv
  obtain ⟨rfl, hsz, hP, hK, hD0, hE, hz⟩ := hv
  have hx := B.exec
  have hb := B.bytes
  have hr := B.returns
  have hts := atoms_spec (ws := wsX1_readTest) B.pre
  have hown : s.vm.findClass RX1 = some m.cls := findClass_of_methodNamed B.named
  have hlocks := B.notSynchronized
  subst hsz
  have hD := hD0.self (sz := s.heap.size)
  have hN := xq_Env.of hE hz hD0
  generalize hAe : va_A [(a_p0, .inr (1, oX1 frI frR)), ((frR 0), .inr (10, oX10 textI textR)), ((textR 1), .inl (cI, text_kindsN, .inl text_kindsF)), ((textR 2), .inl (cI, text_startsN, .inl text_startsF)), ((textR 3), .inl (cI, text_valuesN, .inl text_valuesF)), ((frR 1), .inl (cI, fr_codeN, .inl fr_codeF))] s.heap.size = A at hD hN ⊢
  have hA : ∀ q : Nat, s.heap.size ≤ q → A q := fun q h => by rw [← hAe]; exact Or.inr h
  clear hAe hD0
  have hS : va_S A s.heap s.heap [] := va_S.rf
  have hl := lv_entry ([.ref a_p0]) (n := 2) (Nat.le_of_ble_eq_true rfl)
  rw [lg_entry_eq]
  generalize (lg_sl ([.ref a_p0]) ++ List.replicate (2 - (lg_sl ([.ref a_p0])).length) Slot.unset).toArray = ls at hl ⊢
  have hl : lv_has ls 2 [(0, .ref a_p0)] := hl
  have hw0 := hts (.fieldLink RX1 21 "DistantVoice$FormulaReader" "text" "LDistantVoice$Text;") (by decide +kernel)
  have hinX1 : ∀ w ∈ wsX10, w ∈ wsX1_readTest := fun w h => List.mem_cons_of_mem _ (List.mem_append_left _ (List.mem_append_right _ h))
  have l6 : ∀ n6 : Nat, ∀ (frI_6 : Nat → Int32) (textI_6 : Nat → Int32) (fr_codeF_6 : Nat → Int32) (x1_6 : Int32) (ls : Array Slot) (H : Heap) (locs : List Loc), xq_loop (fX1_readTest_l6 N text_kindsF text_startsF text_valuesF text_kindsN text_startsN text_valuesN fr_codeN k_readBoth) n6 (frI_6, textI_6, fr_codeF_6, x1_6) = some (r0, r1, r2) → va_P (dC, dI) vwCl [(a_p0, .inr (1, oX1 frI_6 frR)), ((frR 0), .inr (10, oX10 textI_6 textR)), ((textR 1), .inl (cI, text_kindsN, .inl text_kindsF)), ((textR 2), .inl (cI, text_startsN, .inl text_startsF)), ((textR 3), .inl (cI, text_valuesN, .inl text_valuesF)), ((frR 1), .inl (cI, fr_codeN, .inl fr_codeF_6))] H → va_D A [(a_p0, .inr (1, oX1 frI_6 frR)), ((frR 0), .inr (10, oX10 textI_6 textR)), ((textR 1), .inl (cI, text_kindsN, .inl text_kindsF)), ((textR 2), .inl (cI, text_startsN, .inl text_startsF)), ((textR 3), .inl (cI, text_valuesN, .inl text_valuesF)), ((frR 1), .inl (cI, fr_codeN, .inl fr_codeF_6))] → va_S A s.heap H locs → lv_has ls 2 [(0, .ref a_p0), (1, .int x1_6)] → W p l e (headSpec wsX1_readTest { frames := FM, cells := 0, slots := 0, locals := LM }).room s m [.ref a_p0].toArray below meth c H locs 0 0 (MQ below (xq_Q (dC, dI) vwCl (xq_tys cI cB cJ cZ cM) A [(a_p0, .inr (1, oX1 r0 frR)), ((frR 0), .inr (10, oX10 r1 textR)), ((textR 1), .inl (cI, text_kindsN, .inl text_kindsF)), ((textR 2), .inl (cI, text_startsN, .inl text_startsF)), ((textR 3), .inl (cI, text_valuesN, .inl text_valuesF)), ((frR 1), .inl (cI, fr_codeN, .inl r2))] none) [.ref a_p0].toArray s 0 0 A) (F0 m 6 ls []) := by
    intro n6
    induction n6 with
    | zero => intro frI_6 textI_6 fr_codeF_6 x1_6 ls H locs hf; cases (show none = some (r0, r1, r2) from hf)
    | succ n6 ih6 =>
      intro frI_6 textI_6 fr_codeF_6 x1_6 ls H locs hf hP hD hS hl
      have hf : fX1_readTest_l6 N text_kindsF text_startsF text_valuesF text_kindsN text_startsN text_valuesN fr_codeN k_readBoth (xq_loop (fX1_readTest_l6 N text_kindsF text_startsF text_valuesF text_kindsN text_startsN text_valuesN fr_codeN k_readBoth) n6) (frI_6, textI_6, fr_codeF_6, x1_6) = some (r0, r1, r2) := hf
      unfold fX1_readTest_l6 at hf
      refine lv_iload_n hx hb dX1_readTest_6 rfl (lv_at hl 1 rfl) ?_
      refine lv_sipush (v := 1600) hx hb dX1_readTest_7 (by decide) ?_
      refine lv_icmp_ge (tgt := 50) hx hb dX1_readTest_10 (by decide) (fun c_ => ?_) (fun c_ => ?_)
      · have hf := xq_pos hf c_
        cases hf
        exact xq_vret hx hb hr hlocks hK hP hD hS dX1_readTest_50
      · have hf := xq_neg hf c_
        refine lv_aload_n hx hb dX1_readTest_13 rfl (lv_at hl 0 rfl) ?_
        refine va_get (D := (dC, dI)) (ci := 1) (v := .ref ((frR 0))) (C := RX1) (T := TX1) (N := 5) hx hb hts hinX1 hown hK hP 0 rfl rfl 0 (by decide) hw0 (fun _ h9 => h9) rfl dX1_readTest_14 ?_
        obtain ⟨r_1, h_2, hf⟩ := xq_bd_some hf
        refine xq_callV (As := []) (rest := []) (ci := 10) (q0 := 1) ⟨hx, hb, hml, hown, hts⟩ (kX10_piece l dC dI cI cB cJ cZ cM z ad N ((frR 0)) textI_6 textR text_kindsF text_kindsN h_2) (cwV 0 hts gX1_readTest_X10_piece rfl rfl rfl (by decide +kernel) ⟨Nat.le_trans (Nat.le_of_ble_eq_true rfl) hFM, Nat.le_trans (Nat.le_of_ble_eq_true rfl) hLM⟩) hN hK hP hD hS hA [1, 2] (by decide) rfl rfl rfl rfl rfl rfl hl.1 rfl (Nat.le_of_ble_eq_true rfl) dX1_readTest_17 ⟨Nat.zero_le _, Nat.zero_le _⟩ (fun H locs hP hD hS => ?_)
        have hP : va_P (dC, dI) vwCl [(a_p0, .inr (1, oX1 frI_6 frR)), ((frR 0), .inr (10, oX10 textI_6 textR)), ((textR 1), .inl (cI, text_kindsN, .inl text_kindsF)), ((textR 2), .inl (cI, text_startsN, .inl text_startsF)), ((textR 3), .inl (cI, text_valuesN, .inl text_valuesF)), ((frR 1), .inl (cI, fr_codeN, .inl fr_codeF_6))] H := hP
        have hD : va_D A [(a_p0, .inr (1, oX1 frI_6 frR)), ((frR 0), .inr (10, oX10 textI_6 textR)), ((textR 1), .inl (cI, text_kindsN, .inl text_kindsF)), ((textR 2), .inl (cI, text_startsN, .inl text_startsF)), ((textR 3), .inl (cI, text_valuesN, .inl text_valuesF)), ((frR 1), .inl (cI, fr_codeN, .inl fr_codeF_6))] := hD
        refine W.eq (g2 := F0 m 20 ls [.int r_1]) rfl ?_
        refine lv_sipush (v := 318) hx hb dX1_readTest_20 (by decide) ?_
        refine lv_icmp_ne (tgt := 50) hx hb dX1_readTest_23 (by decide) (fun c_ => ?_) (fun c_ => ?_)
        · have hf := xq_neg hf c_
          cases hf
          exact xq_vret hx hb hr hlocks hK hP hD hS dX1_readTest_50
        · have hf := xq_pos hf c_
          refine lv_aload_n hx hb dX1_readTest_26 rfl (lv_at hl 0 rfl) ?_
          refine va_get (D := (dC, dI)) (ci := 1) (v := .ref ((frR 0))) (C := RX1) (T := TX1) (N := 5) hx hb hts hinX1 hown hK hP 0 rfl rfl 0 (by decide) hw0 (fun _ h9 => h9) rfl dX1_readTest_27 ?_
          obtain ⟨r_3, h_4, hf⟩ := xq_bd_some hf
          refine xq_callV (As := []) (rest := []) (ci := 10) (q0 := 1) ⟨hx, hb, hml, hown, hts⟩ (kX10_next l dC dI cI cB cJ cZ cM z ad N ((frR 0)) textI_6 textR h_4) (cwV 0 hts gX1_readTest_X10_next rfl rfl rfl (by decide +kernel) ⟨Nat.le_trans (Nat.le_of_ble_eq_true rfl) hFM, Nat.le_trans (Nat.le_of_ble_eq_true rfl) hLM⟩) hN hK hP hD hS hA [1] (by decide) rfl rfl rfl rfl rfl rfl hl.1 rfl (Nat.le_of_ble_eq_true rfl) dX1_readTest_30 ⟨Nat.zero_le _, Nat.zero_le _⟩ (fun H locs hP hD hS => ?_)
          have hP : va_P (dC, dI) vwCl [(a_p0, .inr (1, oX1 frI_6 frR)), ((frR 0), .inr (10, oX10 r_3 textR)), ((textR 1), .inl (cI, text_kindsN, .inl text_kindsF)), ((textR 2), .inl (cI, text_startsN, .inl text_startsF)), ((textR 3), .inl (cI, text_valuesN, .inl text_valuesF)), ((frR 1), .inl (cI, fr_codeN, .inl fr_codeF_6))] H := hP
          have hD : va_D A [(a_p0, .inr (1, oX1 frI_6 frR)), ((frR 0), .inr (10, oX10 r_3 textR)), ((textR 1), .inl (cI, text_kindsN, .inl text_kindsF)), ((textR 2), .inl (cI, text_startsN, .inl text_startsF)), ((textR 3), .inl (cI, text_valuesN, .inl text_valuesF)), ((frR 1), .inl (cI, fr_codeN, .inl fr_codeF_6))] := hD
          refine W.eq (g2 := F0 m 33 ls []) rfl ?_
          refine lv_aload_n hx hb dX1_readTest_33 rfl (lv_at hl 0 rfl) ?_
          obtain ⟨⟨r_5_0, r_5_1, r_5_2⟩, h_6, hf⟩ := xq_bd_some hf
          refine xq_callV (As := []) (rest := []) (ci := 1) (q0 := 0) ⟨hx, hb, hml, hown, hts⟩ (h_readBoth frI_6 r_3 fr_codeF_6 _ _ _ h_6) (cwV 0 hts gX1_readTest_X1_readBoth rfl rfl rfl (by decide +kernel) ⟨hF_readBoth, hL_readBoth⟩) hN hK hP hD hS hA [0, 1, 2, 3, 4, 5] (by decide) rfl rfl rfl rfl rfl rfl hl.1 rfl (Nat.le_of_ble_eq_true rfl) dX1_readTest_34 ⟨Nat.zero_le _, Nat.zero_le _⟩ (fun H locs hP hD hS => ?_)
          have hP : va_P (dC, dI) vwCl [(a_p0, .inr (1, oX1 r_5_0 frR)), ((frR 0), .inr (10, oX10 r_5_1 textR)), ((textR 1), .inl (cI, text_kindsN, .inl text_kindsF)), ((textR 2), .inl (cI, text_startsN, .inl text_startsF)), ((textR 3), .inl (cI, text_valuesN, .inl text_valuesF)), ((frR 1), .inl (cI, fr_codeN, .inl r_5_2))] H := hP
          have hD : va_D A [(a_p0, .inr (1, oX1 r_5_0 frR)), ((frR 0), .inr (10, oX10 r_5_1 textR)), ((textR 1), .inl (cI, text_kindsN, .inl text_kindsF)), ((textR 2), .inl (cI, text_startsN, .inl text_startsF)), ((textR 3), .inl (cI, text_valuesN, .inl text_valuesF)), ((frR 1), .inl (cI, fr_codeN, .inl r_5_2))] := hD
          refine W.eq (g2 := F0 m 37 ls []) rfl ?_
          refine lv_aload_n hx hb dX1_readTest_37 rfl (lv_at hl 0 rfl) ?_
          refine lv_sipush (v := 20318) hx hb dX1_readTest_38 (by decide) ?_
          obtain ⟨⟨r_7_0, r_7_1⟩, h_8, hf⟩ := xq_bd_some hf
          refine xq_callV (As := [.int 20318]) (rest := []) (ci := 1) (q0 := 0) ⟨hx, hb, hml, hown, hts⟩ (kX1_emit l dC dI cI cB cJ cZ cM z ad N a_p0 r_5_0 frR r_5_2 fr_codeN 20318 h_8) (cwV 1 hts gX1_readTest_X1_emit rfl rfl rfl (by decide +kernel) ⟨Nat.le_trans (Nat.le_of_ble_eq_true rfl) hFM, Nat.le_trans (Nat.le_of_ble_eq_true rfl) hLM⟩) hN hK hP hD hS hA [0, 5] (by decide) rfl rfl rfl rfl rfl rfl hl.1 rfl (Nat.le_of_ble_eq_true rfl) dX1_readTest_41 ⟨Nat.zero_le _, Nat.zero_le _⟩ (fun H locs hP hD hS => ?_)
          have hP : va_P (dC, dI) vwCl [(a_p0, .inr (1, oX1 r_7_0 frR)), ((frR 0), .inr (10, oX10 r_5_1 textR)), ((textR 1), .inl (cI, text_kindsN, .inl text_kindsF)), ((textR 2), .inl (cI, text_startsN, .inl text_startsF)), ((textR 3), .inl (cI, text_valuesN, .inl text_valuesF)), ((frR 1), .inl (cI, fr_codeN, .inl r_7_1))] H := hP
          have hD : va_D A [(a_p0, .inr (1, oX1 r_7_0 frR)), ((frR 0), .inr (10, oX10 r_5_1 textR)), ((textR 1), .inl (cI, text_kindsN, .inl text_kindsF)), ((textR 2), .inl (cI, text_startsN, .inl text_startsF)), ((textR 3), .inl (cI, text_valuesN, .inl text_valuesF)), ((frR 1), .inl (cI, fr_codeN, .inl r_7_1))] := hD
          refine W.eq (g2 := F0 m 44 ls []) rfl ?_
          refine lv_iinc (v := x1_6 + 1) (lv' := [(1, .int (x1_6 + 1)), (0, .ref a_p0)]) hx hb dX1_readTest_44 hl (k := 1) rfl (congrArg (fun q9 => x1_6 + q9) (by decide : Int32.ofInt 1 = 1)) (by decide) rfl (fun ls hl => ?_)
          refine lv_goto (tgt := 6) hx hb dX1_readTest_47 (by decide) ?_
          exact ih6 r_7_0 r_5_1 r_7_1 (x1_6 + 1) _ _ _ hf hP hD hS (lv_sub hl [1, 0] rfl)
  unfold fX1_readTest at hf
  refine lv_aload_n hx hb dX1_readTest_0 rfl (lv_at hl 0 rfl) ?_
  obtain ⟨⟨r_1_0, r_1_1, r_1_2⟩, h_2, hf⟩ := xq_bd_some hf
  refine xq_callV (As := []) (rest := []) (ci := 1) (q0 := 0) ⟨hx, hb, hml, hown, hts⟩ (h_readBoth frI textI fr_codeF _ _ _ h_2) (cwV 0 hts gX1_readTest_X1_readBoth rfl rfl rfl (by decide +kernel) ⟨hF_readBoth, hL_readBoth⟩) hN hK hP hD hS hA [0, 1, 2, 3, 4, 5] (by decide) rfl rfl rfl rfl rfl rfl hl.1 rfl (Nat.le_of_ble_eq_true rfl) dX1_readTest_1 ⟨Nat.zero_le _, Nat.zero_le _⟩ (fun H locs hP hD hS => ?_)
  have hP : va_P (dC, dI) vwCl [(a_p0, .inr (1, oX1 r_1_0 frR)), ((frR 0), .inr (10, oX10 r_1_1 textR)), ((textR 1), .inl (cI, text_kindsN, .inl text_kindsF)), ((textR 2), .inl (cI, text_startsN, .inl text_startsF)), ((textR 3), .inl (cI, text_valuesN, .inl text_valuesF)), ((frR 1), .inl (cI, fr_codeN, .inl r_1_2))] H := hP
  have hD : va_D A [(a_p0, .inr (1, oX1 r_1_0 frR)), ((frR 0), .inr (10, oX10 r_1_1 textR)), ((textR 1), .inl (cI, text_kindsN, .inl text_kindsF)), ((textR 2), .inl (cI, text_startsN, .inl text_startsF)), ((textR 3), .inl (cI, text_valuesN, .inl text_valuesF)), ((frR 1), .inl (cI, fr_codeN, .inl r_1_2))] := hD
  refine W.eq (g2 := F0 m 4 ls []) rfl ?_
  refine lv_iconst (v := 0) hx hb dX1_readTest_4 (by decide) ?_
  refine lv_istore_n (lv' := [(1, .int 0), (0, .ref a_p0)]) hx hb dX1_readTest_5 rfl hl (by decide) rfl (fun ls hl => ?_)
  exact l6 N r_1_0 r_1_1 r_1_2 0 _ _ _ hf hP hD hS (lv_sub hl [1, 0] rfl)
