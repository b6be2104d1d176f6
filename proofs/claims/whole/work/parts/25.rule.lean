/-- the references of a House: those of R, but its three codes where Q says -/
abbrev xq_r3 (R Q : Nat → Nat) : Nat → Nat := va_up (va_up (va_up R 13 (Q 13)) 14 (Q 14)) 15 (Q 15)
def fX1_readSumD (N : Nat) (frI textI text_kindsF text_startsF text_valuesF fr_codeF : Nat → Int32) (text_kindsN text_startsN text_valuesN fr_codeN : Nat) : Option ((Nat → Int32) × (Nat → Int32) × (Nat → Int32)) := (fX1_grp N text_kindsF text_startsF text_valuesF text_kindsN text_startsN text_valuesN fr_codeN 9).1 frI textI fr_codeF
theorem kX1_readSumD (l : Launch) (dC : Nat → ClassId) (dI : Nat → Nat → Nat) (cI cB cJ cZ cM : ClassId) (z : Nat) (ad : Nat → Nat) (N : Nat) (a_p0 : Nat) (frI : Nat → Int32) (frR : Nat → Nat) (textI : Nat → Int32) (textR : Nat → Nat) (text_kindsF : Nat → Int32) (text_kindsN : Nat) (text_startsF : Nat → Int32) (text_startsN : Nat) (text_valuesF : Nat → Int32) (text_valuesN : Nat) (fr_codeF : Nat → Int32) (fr_codeN : Nat) {r0 r1 r2 : Nat → Int32} (hf : fX1_readSumD N frI textI text_kindsF text_startsF text_valuesF fr_codeF text_kindsN text_startsN text_valuesN fr_codeN = some (r0, r1, r2)) : xq_Ct l yX1_readSum wsX1_readSum { frames := 187, cells := 0, slots := 0, locals := 9310 } (dC, dI) vwCl (xq_tys cI cB cJ cZ cM) z ad [.ref a_p0] [(a_p0, .inr (1, oX1 frI frR)), ((frR 0), .inr (10, oX10 textI textR)), ((textR 1), .inl (cI, text_kindsN, .inl text_kindsF)), ((textR 2), .inl (cI, text_startsN, .inl text_startsF)), ((textR 3), .inl (cI, text_valuesN, .inl text_valuesF)), ((frR 1), .inl (cI, fr_codeN, .inl fr_codeF))] [(a_p0, .inr (1, oX1 r0 frR)), ((frR 0), .inr (10, oX10 r1 textR)), ((textR 1), .inl (cI, text_kindsN, .inl text_kindsF)), ((textR 2), .inl (cI, text_startsN, .inl text_startsF)), ((textR 3), .inl (cI, text_valuesN, .inl text_valuesF)), ((frR 1), .inl (cI, fr_codeN, .inl r2))] none :=
  (kX1_grp l dC dI cI cB cJ cZ cM z ad N a_p0 frR textR text_kindsF text_startsF text_valuesF text_kindsN text_startsN text_valuesN fr_codeN 9).1 frI textI fr_codeF r0 r1 r2 hf
def fX1_readTestD (N : Nat) (frI textI text_kindsF text_startsF text_valuesF fr_codeF : Nat → Int32) (text_kindsN text_startsN text_valuesN fr_codeN : Nat) : Option ((Nat → Int32) × (Nat → Int32) × (Nat → Int32)) := (fX1_grp N text_kindsF text_startsF text_valuesF text_kindsN text_startsN text_valuesN fr_codeN 9).2.1 frI textI fr_codeF
theorem kX1_readTestD (l : Launch) (dC : Nat → ClassId) (dI : Nat → Nat → Nat) (cI cB cJ cZ cM : ClassId) (z : Nat) (ad : Nat → Nat) (N : Nat) (a_p0 : Nat) (frI : Nat → Int32) (frR : Nat → Nat) (textI : Nat → Int32) (textR : Nat → Nat) (text_kindsF : Nat → Int32) (text_kindsN : Nat) (text_startsF : Nat → Int32) (text_startsN : Nat) (text_valuesF : Nat → Int32) (text_valuesN : Nat) (fr_codeF : Nat → Int32) (fr_codeN : Nat) {r0 r1 r2 : Nat → Int32} (hf : fX1_readTestD N frI textI text_kindsF text_startsF text_valuesF fr_codeF text_kindsN text_startsN text_valuesN fr_codeN = some (r0, r1, r2)) : xq_Ct l yX1_readTest wsX1_readTest { frames := 191, cells := 0, slots := 0, locals := 9430 } (dC, dI) vwCl (xq_tys cI cB cJ cZ cM) z ad [.ref a_p0] [(a_p0, .inr (1, oX1 frI frR)), ((frR 0), .inr (10, oX10 textI textR)), ((textR 1), .inl (cI, text_kindsN, .inl text_kindsF)), ((textR 2), .inl (cI, text_startsN, .inl text_startsF)), ((textR 3), .inl (cI, text_valuesN, .inl text_valuesF)), ((frR 1), .inl (cI, fr_codeN, .inl fr_codeF))] [(a_p0, .inr (1, oX1 r0 frR)), ((frR 0), .inr (10, oX10 r1 textR)), ((textR 1), .inl (cI, text_kindsN, .inl text_kindsF)), ((textR 2), .inl (cI, text_startsN, .inl text_startsF)), ((textR 3), .inl (cI, text_valuesN, .inl text_valuesF)), ((frR 1), .inl (cI, fr_codeN, .inl r2))] none :=
  (kX1_grp l dC dI cI cB cJ cZ cM z ad N a_p0 frR textR text_kindsF text_startsF text_valuesF text_kindsN text_startsN text_valuesN fr_codeN 9).2.1 frI textI fr_codeF r0 r1 r2 hf
def fJ7_copyOfL (N : Nat) (F : Nat → Int32) (n : Nat) (p1 : Int32) : Option (Nat × (Nat → Int32)) := xq_bd (fJ7_copyOf_59c91 N F n p1) fun g => some (p1.toNatClampNeg, g)
theorem kJ7_copyOfL (l : Launch) (dC : Nat → ClassId) (dI : Nat → Nat → Nat) (cI cB cJ cZ cM : ClassId) (z : Nat) (ad : Nat → Nat) (N : Nat) (a_p0 : Nat) (F : Nat → Int32) (n : Nat) (p1 : Int32) {r0 : Nat} {r1 : Nat → Int32} (hf : fJ7_copyOfL N F n p1 = some (r0, r1)) : xq_CtA l yJ7_copyOf_59c91 wsJ7_copyOf_59c91 { frames := 1, cells := 1, slots := n, locals := 60 } (dC, dI) vwCl (xq_tys cI cB cJ cZ cM) z ad [.ref a_p0, .int p1] [(a_p0, .inl (cI, n, .inl F))] (fun q => [(a_p0, .inl (cI, n, .inl F)), (q 0 0, .inl (cI, r0, .inl r1))]) (fun q => some (.ref (q 0 0))) 1 n := by
  obtain ⟨g, h1, h2⟩ := xq_bd_some hf
  cases h2
  exact kJ7_copyOf_59c91 l dC dI cI cB cJ cZ cM z ad N a_p0 F n p1 h1
set_option maxRecDepth 20000 in
theorem ggX1_readFormula_X1_readTest : GoodIn wsX1_readFormula wsX1_readTest := goodIn_r _ [9, 10, 11, 12, 13, 8, 14, 15, 16, 17, 18, 19, 20, 21, 22, 23, 24, 25, 26, 27, 28, 29, 30, 2, 4, 31, 32, 33, 34, 35, 3, 36, 37, 38, 39, 40, 41, 42, 43, 44, 45, 46, 47, 48, 49, 50, 5, 6, 7, 51, 52, 53, 54, 55, 56, 57, 58, 59, 60, 61, 62, 63, 64, 65, 66, 67, 68, 69, 70, 71, 72, 73, 74, 75, 76, 77, 78, 79, 80, 81, 1, 82, 83, 84, 85, 86, 87, 88, 89, 109, 110, 111, 112, 113, 114, 115, 116, 117, 118, 119, 120, 121] rfl (by decide +kernel)
set_option maxRecDepth 20000 in
theorem gX1_readFormula_X1_readTest : GoodIn wsX1_readFormula (wsV RX1 34 RX1 yX1_readTest wsX1_readTest) := goodIn_app (goodIn_of _ (by decide +kernel)) ggX1_readFormula_X1_readTest
set_option maxRecDepth 20000 in
theorem ggX1_readFormula_X1_readSum : GoodIn wsX1_readFormula wsX1_readSum := goodIn_r _ [86, 10, 87, 88, 89, 8, 14, 15, 16, 17, 18, 19, 20, 21, 22, 23, 24, 25, 26, 27, 28, 29, 30, 2, 4, 31, 32, 33, 34, 35, 3, 36, 37, 38, 39, 40, 41, 42, 43, 44, 45, 46, 47, 48, 49, 50, 5, 6, 7, 51, 52, 53, 54, 55, 56, 57, 58, 59, 60, 61, 62, 63, 64, 65, 66, 67, 68, 69, 70, 71, 72, 73, 74, 75, 76, 77, 78, 79, 80, 81, 1, 82, 83, 84, 85, 9, 11, 12, 13, 109, 110, 111, 112, 113, 114, 115, 116, 117, 118, 119, 120, 121] rfl (by decide +kernel)
set_option maxRecDepth 20000 in
theorem gX1_readFormula_X1_readSum : GoodIn wsX1_readFormula (wsV RX1 37 RX1 yX1_readSum wsX1_readSum) := goodIn_app (goodIn_of _ (by decide +kernel)) ggX1_readFormula_X1_readSum
set_option maxRecDepth 20000 in
theorem ggX1_readFormula_J7_copyOf_59c91 : GoodIn wsX1_readFormula wsJ7_copyOf_59c91 := goodIn_r _ [93, 94, 95, 96, 97, 98, 99, 100, 101, 102, 103, 104, 105, 106, 107, 108] rfl (by decide +kernel)
set_option maxRecDepth 20000 in
theorem gX1_readFormula_J7_copyOf_59c91 : GoodIn wsX1_readFormula (va_wsS RX1 40 yJ7_copyOf_59c91 wsJ7_copyOf_59c91) := goodIn_app (goodIn_of _ (by decide +kernel)) ggX1_readFormula_J7_copyOf_59c91
def dsX1_readFormula_0 : List (Nat × Instr × Nat) := [(0, (.aload_n 0, 1)), (1, (.iload_n 1, 1)), (2, (.putfield 18, 3)), (5, (.aload_n 0, 1)), (6, (.iconst 0, 1)), (7, (.putfield 9, 3)), (10, (.aload_n 0, 1)), (11, (.iconst 0, 1)), (12, (.putfield 15, 3)), (15, (.iload_n 1, 1)), (16, (.sipush 311, 3)), (19, (.if_icmp .ne 10, 3)), (22, (.aload_n 0, 1)), (23, (.invokevirtual 34, 3)), (26, (.goto 7, 3)), (29, (.aload_n 0, 1)), (30, (.invokevirtual 37, 3)), (33, (.aload_n 0, 1)), (34, (.getfield 31, 3)), (37, (.aload_n 0, 1)), (38, (.getfield 9, 3)), (41, (.invokestatic 40, 3)), (44, (.areturn, 1))]
theorem dsX1_readFormula_0_ok : (dsX1_readFormula_0.all fun q => decide (decode cX1_readFormula q.1 = .ok q.2)) = true := by decide +kernel
theorem dX1_readFormula_0 : decode cX1_readFormula 0 = .ok (.aload_n 0, 1) := of_decide_eq_true (List.all_eq_true.mp dsX1_readFormula_0_ok (0, (.aload_n 0, 1)) (List.mem_of_getElem? (i := 0) rfl))
theorem dX1_readFormula_1 : decode cX1_readFormula 1 = .ok (.iload_n 1, 1) := of_decide_eq_true (List.all_eq_true.mp dsX1_readFormula_0_ok (1, (.iload_n 1, 1)) (List.mem_of_getElem? (i := 1) rfl))
theorem dX1_readFormula_2 : decode cX1_readFormula 2 = .ok (.putfield 18, 3) := of_decide_eq_true (List.all_eq_true.mp dsX1_readFormula_0_ok (2, (.putfield 18, 3)) (List.mem_of_getElem? (i := 2) rfl))
theorem dX1_readFormula_5 : decode cX1_readFormula 5 = .ok (.aload_n 0, 1) := of_decide_eq_true (List.all_eq_true.mp dsX1_readFormula_0_ok (5, (.aload_n 0, 1)) (List.mem_of_getElem? (i := 3) rfl))
theorem dX1_readFormula_6 : decode cX1_readFormula 6 = .ok (.iconst 0, 1) := of_decide_eq_true (List.all_eq_true.mp dsX1_readFormula_0_ok (6, (.iconst 0, 1)) (List.mem_of_getElem? (i := 4) rfl))
theorem dX1_readFormula_7 : decode cX1_readFormula 7 = .ok (.putfield 9, 3) := of_decide_eq_true (List.all_eq_true.mp dsX1_readFormula_0_ok (7, (.putfield 9, 3)) (List.mem_of_getElem? (i := 5) rfl))
theorem dX1_readFormula_10 : decode cX1_readFormula 10 = .ok (.aload_n 0, 1) := of_decide_eq_true (List.all_eq_true.mp dsX1_readFormula_0_ok (10, (.aload_n 0, 1)) (List.mem_of_getElem? (i := 6) rfl))
theorem dX1_readFormula_11 : decode cX1_readFormula 11 = .ok (.iconst 0, 1) := of_decide_eq_true (List.all_eq_true.mp dsX1_readFormula_0_ok (11, (.iconst 0, 1)) (List.mem_of_getElem? (i := 7) rfl))
theorem dX1_readFormula_12 : decode cX1_readFormula 12 = .ok (.putfield 15, 3) := of_decide_eq_true (List.all_eq_true.mp dsX1_readFormula_0_ok (12, (.putfield 15, 3)) (List.mem_of_getElem? (i := 8) rfl))
theorem dX1_readFormula_15 : decode cX1_readFormula 15 = .ok (.iload_n 1, 1) := of_decide_eq_true (List.all_eq_true.mp dsX1_readFormula_0_ok (15, (.iload_n 1, 1)) (List.mem_of_getElem? (i := 9) rfl))
theorem dX1_readFormula_16 : decode cX1_readFormula 16 = .ok (.sipush 311, 3) := of_decide_eq_true (List.all_eq_true.mp dsX1_readFormula_0_ok (16, (.sipush 311, 3)) (List.mem_of_getElem? (i := 10) rfl))
theorem dX1_readFormula_19 : decode cX1_readFormula 19 = .ok (.if_icmp .ne 10, 3) := of_decide_eq_true (List.all_eq_true.mp dsX1_readFormula_0_ok (19, (.if_icmp .ne 10, 3)) (List.mem_of_getElem? (i := 11) rfl))
theorem dX1_readFormula_22 : decode cX1_readFormula 22 = .ok (.aload_n 0, 1) := of_decide_eq_true (List.all_eq_true.mp dsX1_readFormula_0_ok (22, (.aload_n 0, 1)) (List.mem_of_getElem? (i := 12) rfl))
theorem dX1_readFormula_23 : decode cX1_readFormula 23 = .ok (.invokevirtual 34, 3) := of_decide_eq_true (List.all_eq_true.mp dsX1_readFormula_0_ok (23, (.invokevirtual 34, 3)) (List.mem_of_getElem? (i := 13) rfl))
theorem dX1_readFormula_26 : decode cX1_readFormula 26 = .ok (.goto 7, 3) := of_decide_eq_true (List.all_eq_true.mp dsX1_readFormula_0_ok (26, (.goto 7, 3)) (List.mem_of_getElem? (i := 14) rfl))
theorem dX1_readFormula_29 : decode cX1_readFormula 29 = .ok (.aload_n 0, 1) := of_decide_eq_true (List.all_eq_true.mp dsX1_readFormula_0_ok (29, (.aload_n 0, 1)) (List.mem_of_getElem? (i := 15) rfl))
theorem dX1_readFormula_30 : decode cX1_readFormula 30 = .ok (.invokevirtual 37, 3) := of_decide_eq_true (List.all_eq_true.mp dsX1_readFormula_0_ok (30, (.invokevirtual 37, 3)) (List.mem_of_getElem? (i := 16) rfl))
theorem dX1_readFormula_33 : decode cX1_readFormula 33 = .ok (.aload_n 0, 1) := of_decide_eq_true (List.all_eq_true.mp dsX1_readFormula_0_ok (33, (.aload_n 0, 1)) (List.mem_of_getElem? (i := 17) rfl))
theorem dX1_readFormula_34 : decode cX1_readFormula 34 = .ok (.getfield 31, 3) := of_decide_eq_true (List.all_eq_true.mp dsX1_readFormula_0_ok (34, (.getfield 31, 3)) (List.mem_of_getElem? (i := 18) rfl))
theorem dX1_readFormula_37 : decode cX1_readFormula 37 = .ok (.aload_n 0, 1) := of_decide_eq_true (List.all_eq_true.mp dsX1_readFormula_0_ok (37, (.aload_n 0, 1)) (List.mem_of_getElem? (i := 19) rfl))
theorem dX1_readFormula_38 : decode cX1_readFormula 38 = .ok (.getfield 9, 3) := of_decide_eq_true (List.all_eq_true.mp dsX1_readFormula_0_ok (38, (.getfield 9, 3)) (List.mem_of_getElem? (i := 20) rfl))
theorem dX1_readFormula_41 : decode cX1_readFormula 41 = .ok (.invokestatic 40, 3) := of_decide_eq_true (List.all_eq_true.mp dsX1_readFormula_0_ok (41, (.invokestatic 40, 3)) (List.mem_of_getElem? (i := 21) rfl))
theorem dX1_readFormula_44 : decode cX1_readFormula 44 = .ok (.areturn, 1) := of_decide_eq_true (List.all_eq_true.mp dsX1_readFormula_0_ok (44, (.areturn, 1)) (List.mem_of_getElem? (i := 22) rfl))
def fX1_readFormula_b33 (N : Nat) (text_kindsF : Nat → Int32) (text_startsF : Nat → Int32) (text_valuesF : Nat → Int32) (text_kindsN : Nat) (text_startsN : Nat) (text_valuesN : Nat) (fr_codeN : Nat)  : ((Nat → Int32) × (Nat → Int32) × (Nat → Int32)) → Option ((Nat → Int32) × (Nat → Int32) × (Nat → Int32) × Nat × (Nat → Int32)) :=
  fun (frI_33, textI_33, fr_codeF_33) => (xq_bd (fJ7_copyOfL N fr_codeF_33 fr_codeN (frI_33 2)) fun (r_1_0, r_1_1) => some ((frI_33, textI_33, fr_codeF_33, r_1_0, r_1_1)))
def fX1_readFormula (N : Nat) (frI : Nat → Int32) (textI : Nat → Int32) (text_kindsF : Nat → Int32) (text_startsF : Nat → Int32) (text_valuesF : Nat → Int32) (fr_codeF : Nat → Int32) (text_kindsN : Nat) (text_startsN : Nat) (text_valuesN : Nat) (fr_codeN : Nat) (p1 : Int32) : Option ((Nat → Int32) × (Nat → Int32) × (Nat → Int32) × Nat × (Nat → Int32)) :=
  (if p1 = 311 then (xq_bd (fX1_readTestD N ((va_up (va_up (va_up frI 4 p1) 2 0) 3 0)) textI text_kindsF text_startsF text_valuesF fr_codeF text_kindsN text_startsN text_valuesN fr_codeN) fun (r_3_0, r_3_1, r_3_2) => fX1_readFormula_b33 N text_kindsF text_startsF text_valuesF text_kindsN text_startsN text_valuesN fr_codeN (r_3_0, r_3_1, r_3_2)) else (xq_bd (fX1_readSumD N ((va_up (va_up (va_up frI 4 p1) 2 0) 3 0)) textI text_kindsF text_startsF text_valuesF fr_codeF text_kindsN text_startsN text_valuesN fr_codeN) fun (r_1_0, r_1_1, r_1_2) => fX1_readFormula_b33 N text_kindsF text_startsF text_valuesF text_kindsN text_startsN text_valuesN fr_codeN (r_1_0, r_1_1, r_1_2)))
set_option maxHeartbeats 4000000 in
set_option maxRecDepth 100000 in
theorem kX1_readFormula (l : Launch) (dC : Nat → ClassId) (dI : Nat → Nat → Nat) (cI cB cJ cZ cM : ClassId) (z : Nat) (ad : Nat → Nat) (N : Nat) (a_p0 : Nat) (frI : Nat → Int32) (frR : Nat → Nat) (textI : Nat → Int32) (textR : Nat → Nat) (text_kindsF : Nat → Int32) (text_kindsN : Nat) (text_startsF : Nat → Int32) (text_startsN : Nat) (text_valuesF : Nat → Int32) (text_valuesN : Nat) (fr_codeF : Nat → Int32) (fr_codeN : Nat) (p1 : Int32) {r0 : Nat → Int32} {r1 : Nat → Int32} {r2 : Nat → Int32} {r3 : Nat} {r4 : Nat → Int32} (hf : fX1_readFormula N frI textI text_kindsF text_startsF text_valuesF fr_codeF text_kindsN text_startsN text_valuesN fr_codeN p1 = some (r0, r1, r2, r3, r4)) : xq_CtA l yX1_readFormula wsX1_readFormula { frames := 192, cells := 1, slots := fr_codeN, locals := 9451 } (dC, dI) vwCl (xq_tys cI cB cJ cZ cM) z ad [.ref a_p0, .int p1] [(a_p0, .inr (1, oX1 frI frR)), ((frR 0), .inr (10, oX10 textI textR)), ((textR 1), .inl (cI, text_kindsN, .inl text_kindsF)), ((textR 2), .inl (cI, text_startsN, .inl text_startsF)), ((textR 3), .inl (cI, text_valuesN, .inl text_valuesF)), ((frR 1), .inl (cI, fr_codeN, .inl fr_codeF))] (fun q => [(a_p0, .inr (1, oX1 r0 frR)), ((frR 0), .inr (10, oX10 r1 textR)), ((textR 1), .inl (cI, text_kindsN, .inl text_kindsF)), ((textR 2), .inl (cI, text_startsN, .inl text_startsF)), ((textR 3), .inl (cI, text_valuesN, .inl text_valuesF)), ((frR 1), .inl (cI, fr_codeN, .inl r2)), ((q 0 0), .inl (cI, r3, .inl r4))]) (fun q => (some (.ref (q 0 0)))) 1 fr_codeN := by
  intro sz
  refine Met.ofW (cc := cX1_readFormula) (maxL := 2) (ret := (some (.array .int))) (by decide) rfl ?_
  intro p e s m args below meth c s₁ B hml hv
  obtain ⟨rfl, hsz, hP, hK, hD0, hE, hz⟩ := hv
  have hx := B.exec
  have hb := B.bytes
  have hr := B.returns
  have hts := atoms_spec (ws := wsX1_readFormula) B.pre
  have hown : s.vm.findClass RX1 = some m.cls := findClass_of_methodNamed B.named
  have hlocks := B.notSynchronized
  subst hsz
  have hD := hD0.self (sz := s.heap.size)
  have hN := xq_Env.of hE hz hD0
  generalize hAe : va_A [(a_p0, .inr (1, oX1 frI frR)), ((frR 0), .inr (10, oX10 textI textR)), ((textR 1), .inl (cI, text_kindsN, .inl text_kindsF)), ((textR 2), .inl (cI, text_startsN, .inl text_startsF)), ((textR 3), .inl (cI, text_valuesN, .inl text_valuesF)), ((frR 1), .inl (cI, fr_codeN, .inl fr_codeF))] s.heap.size = A at hD hN ⊢
  have hA : ∀ q : Nat, s.heap.size ≤ q → A q := fun q h => by rw [← hAe]; exact Or.inr h
  clear hAe hD0
  have hS : va_S A s.heap s.heap [] := va_S.rf
  have hl := lv_entry ([.ref a_p0, .int p1]) (n := 2) (Nat.le_of_ble_eq_true rfl)
  rw [lg_entry_eq]
  generalize (lg_sl ([.ref a_p0, .int p1]) ++ List.replicate (2 - (lg_sl ([.ref a_p0, .int p1])).length) Slot.unset).toArray = ls at hl ⊢
  have hl : lv_has ls 2 [(0, .ref a_p0), (1, .int p1)] := hl
  have hw0 := hts (.fieldLink RX1 18 "DistantVoice$FormulaReader" "subject" "I") (by decide +kernel)
  have hinX1 : ∀ w ∈ wsX10, w ∈ wsX1_readFormula := fun w h => List.mem_cons_of_mem _ (List.mem_append_left _ (List.mem_append_right _ h))
  have hw2 := hts (.fieldLink RX1 9 "DistantVoice$FormulaReader" "used" "I") (by decide +kernel)
  have hw3 := hts (.fieldLink RX1 15 "DistantVoice$FormulaReader" "open" "I") (by decide +kernel)
  have hw4 := hts (.fieldLink RX1 31 "DistantVoice$FormulaReader" "code" "[I") (by decide +kernel)
  have b33 : ∀ (frI_33 : Nat → Int32) (textI_33 : Nat → Int32) (fr_codeF_33 : Nat → Int32) (ls : Array Slot) (H : Heap) (locs : List Loc), fX1_readFormula_b33 N text_kindsF text_startsF text_valuesF text_kindsN text_startsN text_valuesN fr_codeN (frI_33, textI_33, fr_codeF_33) = some (r0, r1, r2, r3, r4) → va_P (dC, dI) vwCl [(a_p0, .inr (1, oX1 frI_33 frR)), ((frR 0), .inr (10, oX10 textI_33 textR)), ((textR 1), .inl (cI, text_kindsN, .inl text_kindsF)), ((textR 2), .inl (cI, text_startsN, .inl text_startsF)), ((textR 3), .inl (cI, text_valuesN, .inl text_valuesF)), ((frR 1), .inl (cI, fr_codeN, .inl fr_codeF_33))] H → va_D A [(a_p0, .inr (1, oX1 frI_33 frR)), ((frR 0), .inr (10, oX10 textI_33 textR)), ((textR 1), .inl (cI, text_kindsN, .inl text_kindsF)), ((textR 2), .inl (cI, text_startsN, .inl text_startsF)), ((textR 3), .inl (cI, text_valuesN, .inl text_valuesF)), ((frR 1), .inl (cI, fr_codeN, .inl fr_codeF_33))] → va_S A s.heap H locs → lv_has ls 2 [(0, .ref a_p0)] → W p l e (headSpec wsX1_readFormula { frames := 192, cells := 1, slots := fr_codeN, locals := 9451 }).room s m [.ref a_p0, .int p1].toArray below meth c H locs 0 0 (MQ below (xq_QA (dC, dI) vwCl (xq_tys cI cB cJ cZ cM) A (fun q => [(a_p0, .inr (1, oX1 r0 frR)), ((frR 0), .inr (10, oX10 r1 textR)), ((textR 1), .inl (cI, text_kindsN, .inl text_kindsF)), ((textR 2), .inl (cI, text_startsN, .inl text_startsF)), ((textR 3), .inl (cI, text_valuesN, .inl text_valuesF)), ((frR 1), .inl (cI, fr_codeN, .inl r2)), ((q 0 0), .inl (cI, r3, .inl r4))]) (fun q => (some (.ref (q 0 0))))) [.ref a_p0, .int p1].toArray s 1 fr_codeN A) (F0 m 33 ls []) := by
    intro frI_33 textI_33 fr_codeF_33 ls H locs hf hP hD hS hl
    unfold fX1_readFormula_b33 at hf
    refine lv_aload_n hx hb dX1_readFormula_33 rfl (lv_at hl 0 rfl) ?_
    refine va_get (D := (dC, dI)) (ci := 1) (v := .ref ((frR 1))) (C := RX1) (T := TX1) (N := 5) hx hb hts hinX1 hown hK hP 0 rfl rfl 1 (by decide) hw4 (fun _ h9 => h9) rfl dX1_readFormula_34 ?_
    refine lv_aload_n hx hb dX1_readFormula_37 rfl (lv_at hl 0 rfl) ?_
    refine va_get (D := (dC, dI)) (ci := 1) (v := .int (frI_33 2)) (C := RX1) (T := TX1) (N := 5) hx hb hts hinX1 hown hK hP 0 rfl rfl 2 (by decide) hw2 (fun _ h9 => h9) rfl dX1_readFormula_38 ?_
    obtain ⟨⟨r_1_0, r_1_1⟩, h_2, hf⟩ := xq_bd_some hf
    refine xq_callSA (As := [.ref ((frR 1)), .int (frI_33 2)]) (rest := []) (wr := [(a_p0, .inr (1, oX1 frI_33 frR)), ((frR 0), .inr (10, oX10 textI_33 textR)), ((textR 1), .inl (cI, text_kindsN, .inl text_kindsF)), ((textR 2), .inl (cI, text_startsN, .inl text_startsF)), ((textR 3), .inl (cI, text_valuesN, .inl text_valuesF))]) ⟨hx, hb, hml, hown, hts⟩ (kJ7_copyOfL l dC dI cI cB cJ cZ cM z ad N ((frR 1)) fr_codeF_33 fr_codeN (frI_33 2) h_2) (va_cwS 2 hts gX1_readFormula_J7_copyOf_59c91 rfl rfl rfl (by decide +kernel) ⟨(Nat.le_of_ble_eq_true rfl), (Nat.le_of_ble_eq_true rfl)⟩) hN hK hP hD hS hA [5] [0, 1, 2, 3, 4] (by decide) rfl rfl (by decide) (by decide) rfl hl.1 rfl (Nat.le_of_ble_eq_true rfl) dX1_readFormula_41 ⟨by show 0 + 1 ≤ 1; omega, by show 0 + fr_codeN ≤ fr_codeN; omega⟩ (fun q_3 H locs hP hD hS => ?_)
    have hP : va_P (dC, dI) vwCl [(a_p0, .inr (1, oX1 frI_33 frR)), ((frR 0), .inr (10, oX10 textI_33 textR)), ((textR 1), .inl (cI, text_kindsN, .inl text_kindsF)), ((textR 2), .inl (cI, text_startsN, .inl text_startsF)), ((textR 3), .inl (cI, text_valuesN, .inl text_valuesF)), ((frR 1), .inl (cI, fr_codeN, .inl fr_codeF_33)), ((q_3 0 0), .inl (cI, r_1_0, .inl r_1_1))] H := hP.sub [0, 1, 2, 3, 4, 5, 6] rfl
    have hD : va_D A [(a_p0, .inr (1, oX1 frI_33 frR)), ((frR 0), .inr (10, oX10 textI_33 textR)), ((textR 1), .inl (cI, text_kindsN, .inl text_kindsF)), ((textR 2), .inl (cI, text_startsN, .inl text_startsF)), ((textR 3), .inl (cI, text_valuesN, .inl text_valuesF)), ((frR 1), .inl (cI, fr_codeN, .inl fr_codeF_33)), ((q_3 0 0), .inl (cI, r_1_0, .inl r_1_1))] := hD.sub [0, 1, 2, 3, 4, 5, 6] (by decide) rfl
    refine W.widen (k := 1) (n := fr_codeN) (by omega) (by omega) ?_
    refine W.eq (g2 := F0 m 44 ls [.ref ((q_3 0 0))]) rfl ?_
    have hP9 := hP
    have hD9 := hD
    have hS9 := hS
    cases hf
    exact xq_aretA (fun _ _ => (q_3 0 0)) rfl hx hb hr (Or.inr ⟨_, rfl⟩) hlocks hK hP9 hD9 hS9 dX1_readFormula_44
  unfold fX1_readFormula at hf
  refine lv_aload_n hx hb dX1_readFormula_0 rfl (lv_at hl 0 rfl) ?_
  refine lv_iload_n hx hb dX1_readFormula_1 rfl (lv_at hl 1 rfl) ?_
  refine va_put (D := (dC, dI)) (ci := 1) (v := .int p1) (ty := .int) (C := RX1) (T := TX1) (N := 5) hx hb hts hinX1 tyX1 tyX1_ok nmX1 hown hK hP hD hS 0 rfl rfl 4 (by decide) hw0 (fun _ h9 => h9) rfl (by decide +kernel) rfl rfl (Nat.le_of_ble_eq_true rfl) dX1_readFormula_2 (fun H locs hP hD hS => ?_)
  have hP : va_P (dC, dI) vwCl [(a_p0, .inr (1, oX1 (va_up frI 4 p1) frR)), ((frR 0), .inr (10, oX10 textI textR)), ((textR 1), .inl (cI, text_kindsN, .inl text_kindsF)), ((textR 2), .inl (cI, text_startsN, .inl text_startsF)), ((textR 3), .inl (cI, text_valuesN, .inl text_valuesF)), ((frR 1), .inl (cI, fr_codeN, .inl fr_codeF))] H := hP
  have hD : va_D A [(a_p0, .inr (1, oX1 (va_up frI 4 p1) frR)), ((frR 0), .inr (10, oX10 textI textR)), ((textR 1), .inl (cI, text_kindsN, .inl text_kindsF)), ((textR 2), .inl (cI, text_startsN, .inl text_startsF)), ((textR 3), .inl (cI, text_valuesN, .inl text_valuesF)), ((frR 1), .inl (cI, fr_codeN, .inl fr_codeF))] := hD
  refine lv_aload_n hx hb dX1_readFormula_5 rfl (lv_at hl 0 rfl) ?_
  refine lv_iconst (v := 0) hx hb dX1_readFormula_6 (by decide) ?_
  refine va_put (D := (dC, dI)) (ci := 1) (v := .int 0) (ty := .int) (C := RX1) (T := TX1) (N := 5) hx hb hts hinX1 tyX1 tyX1_ok nmX1 hown hK hP hD hS 0 rfl rfl 2 (by decide) hw2 (fun _ h9 => h9) rfl (by decide +kernel) rfl rfl (Nat.le_of_ble_eq_true rfl) dX1_readFormula_7 (fun H locs hP hD hS => ?_)
  have hP : va_P (dC, dI) vwCl [(a_p0, .inr (1, oX1 (va_up (va_up frI 4 p1) 2 0) frR)), ((frR 0), .inr (10, oX10 textI textR)), ((textR 1), .inl (cI, text_kindsN, .inl text_kindsF)), ((textR 2), .inl (cI, text_startsN, .inl text_startsF)), ((textR 3), .inl (cI, text_valuesN, .inl text_valuesF)), ((frR 1), .inl (cI, fr_codeN, .inl fr_codeF))] H := hP
  have hD : va_D A [(a_p0, .inr (1, oX1 (va_up (va_up frI 4 p1) 2 0) frR)), ((frR 0), .inr (10, oX10 textI textR)), ((textR 1), .inl (cI, text_kindsN, .inl text_kindsF)), ((textR 2), .inl (cI, text_startsN, .inl text_startsF)), ((textR 3), .inl (cI, text_valuesN, .inl text_valuesF)), ((frR 1), .inl (cI, fr_codeN, .inl fr_codeF))] := hD
  refine lv_aload_n hx hb dX1_readFormula_10 rfl (lv_at hl 0 rfl) ?_
  refine lv_iconst (v := 0) hx hb dX1_readFormula_11 (by decide) ?_
  refine va_put (D := (dC, dI)) (ci := 1) (v := .int 0) (ty := .int) (C := RX1) (T := TX1) (N := 5) hx hb hts hinX1 tyX1 tyX1_ok nmX1 hown hK hP hD hS 0 rfl rfl 3 (by decide) hw3 (fun _ h9 => h9) rfl (by decide +kernel) rfl rfl (Nat.le_of_ble_eq_true rfl) dX1_readFormula_12 (fun H locs hP hD hS => ?_)
  have hP : va_P (dC, dI) vwCl [(a_p0, .inr (1, oX1 (va_up (va_up (va_up frI 4 p1) 2 0) 3 0) frR)), ((frR 0), .inr (10, oX10 textI textR)), ((textR 1), .inl (cI, text_kindsN, .inl text_kindsF)), ((textR 2), .inl (cI, text_startsN, .inl text_startsF)), ((textR 3), .inl (cI, text_valuesN, .inl text_valuesF)), ((frR 1), .inl (cI, fr_codeN, .inl fr_codeF))] H := hP
  have hD : va_D A [(a_p0, .inr (1, oX1 (va_up (va_up (va_up frI 4 p1) 2 0) 3 0) frR)), ((frR 0), .inr (10, oX10 textI textR)), ((textR 1), .inl (cI, text_kindsN, .inl text_kindsF)), ((textR 2), .inl (cI, text_startsN, .inl text_startsF)), ((textR 3), .inl (cI, text_valuesN, .inl text_valuesF)), ((frR 1), .inl (cI, fr_codeN, .inl fr_codeF))] := hD
  refine lv_iload_n hx hb dX1_readFormula_15 rfl (lv_at hl 1 rfl) ?_
  refine lv_sipush (v := 311) hx hb dX1_readFormula_16 (by decide) ?_
  refine lv_icmp_ne (tgt := 29) hx hb dX1_readFormula_19 (by decide) (fun c_ => ?_) (fun c_ => ?_)
  · have hf := xq_neg hf c_
    refine lv_aload_n hx hb dX1_readFormula_29 rfl (lv_at hl 0 rfl) ?_
    obtain ⟨⟨r_1_0, r_1_1, r_1_2⟩, h_2, hf⟩ := xq_bd_some hf
    refine xq_callV (As := []) (rest := []) (ci := 1) (q0 := 0) ⟨hx, hb, hml, hown, hts⟩ (kX1_readSumD l dC dI cI cB cJ cZ cM z ad N a_p0 ((va_up (va_up (va_up frI 4 p1) 2 0) 3 0)) frR textI textR text_kindsF text_kindsN text_startsF text_startsN text_valuesF text_valuesN fr_codeF fr_codeN h_2) (cwV 0 hts gX1_readFormula_X1_readSum rfl rfl rfl (by decide +kernel) ⟨Nat.le_of_ble_eq_true rfl, Nat.le_of_ble_eq_true rfl⟩) hN hK hP hD hS hA [0, 1, 2, 3, 4, 5] (by decide) rfl rfl rfl rfl rfl rfl hl.1 rfl (Nat.le_of_ble_eq_true rfl) dX1_readFormula_30 ⟨Nat.zero_le _, Nat.zero_le _⟩ (fun H locs hP hD hS => ?_)
    have hP : va_P (dC, dI) vwCl [(a_p0, .inr (1, oX1 r_1_0 frR)), ((frR 0), .inr (10, oX10 r_1_1 textR)), ((textR 1), .inl (cI, text_kindsN, .inl text_kindsF)), ((textR 2), .inl (cI, text_startsN, .inl text_startsF)), ((textR 3), .inl (cI, text_valuesN, .inl text_valuesF)), ((frR 1), .inl (cI, fr_codeN, .inl r_1_2))] H := hP
    have hD : va_D A [(a_p0, .inr (1, oX1 r_1_0 frR)), ((frR 0), .inr (10, oX10 r_1_1 textR)), ((textR 1), .inl (cI, text_kindsN, .inl text_kindsF)), ((textR 2), .inl (cI, text_startsN, .inl text_startsF)), ((textR 3), .inl (cI, text_valuesN, .inl text_valuesF)), ((frR 1), .inl (cI, fr_codeN, .inl r_1_2))] := hD
    refine W.eq (g2 := F0 m 33 ls []) rfl ?_
    exact b33 r_1_0 r_1_1 r_1_2 _ _ _ hf hP hD hS (lv_sub hl [0] rfl)
  · have hf := xq_pos hf c_
    refine lv_aload_n hx hb dX1_readFormula_22 rfl (lv_at hl 0 rfl) ?_
    obtain ⟨⟨r_3_0, r_3_1, r_3_2⟩, h_4, hf⟩ := xq_bd_some hf
    refine xq_callV (As := []) (rest := []) (ci := 1) (q0 := 0) ⟨hx, hb, hml, hown, hts⟩ (kX1_readTestD l dC dI cI cB cJ cZ cM z ad N a_p0 ((va_up (va_up (va_up frI 4 p1) 2 0) 3 0)) frR textI textR text_kindsF text_kindsN text_startsF text_startsN text_valuesF text_valuesN fr_codeF fr_codeN h_4) (cwV 0 hts gX1_readFormula_X1_readTest rfl rfl rfl (by decide +kernel) ⟨Nat.le_of_ble_eq_true rfl, Nat.le_of_ble_eq_true rfl⟩) hN hK hP hD hS hA [0, 1, 2, 3, 4, 5] (by decide) rfl rfl rfl rfl rfl rfl hl.1 rfl (Nat.le_of_ble_eq_true rfl) dX1_readFormula_23 ⟨Nat.zero_le _, Nat.zero_le _⟩ (fun H locs hP hD hS => ?_)
    have hP : va_P (dC, dI) vwCl [(a_p0, .inr (1, oX1 r_3_0 frR)), ((frR 0), .inr (10, oX10 r_3_1 textR)), ((textR 1), .inl (cI, text_kindsN, .inl text_kindsF)), ((textR 2), .inl (cI, text_startsN, .inl text_startsF)), ((textR 3), .inl (cI, text_valuesN, .inl text_valuesF)), ((frR 1), .inl (cI, fr_codeN, .inl r_3_2))] H := hP
    have hD : va_D A [(a_p0, .inr (1, oX1 r_3_0 frR)), ((frR 0), .inr (10, oX10 r_3_1 textR)), ((textR 1), .inl (cI, text_kindsN, .inl text_kindsF)), ((textR 2), .inl (cI, text_startsN, .inl text_startsF)), ((textR 3), .inl (cI, text_valuesN, .inl text_valuesF)), ((frR 1), .inl (cI, fr_codeN, .inl r_3_2))] := hD
    refine W.eq (g2 := F0 m 26 ls []) rfl ?_
    refine lv_goto (tgt := 33) hx hb dX1_readFormula_26 (by decide) ?_
    exact b33 r_3_0 r_3_1 r_3_2 _ _ _ hf hP hD hS (lv_sub hl [0] rfl)
def dsX2_rule_0 : List (Nat × Instr × Nat) := [(0, (.iload_n 1, 1)), (1, (.sipush 310, 3)), (4, (.if_icmp .ne 16, 3)), (7, (.aload_n 0, 1)), (8, (.aload_n 2, 1)), (9, (.putfield 52, 3)), (12, (.aload_n 0, 1)), (13, (.iconst 1, 1)), (14, (.putfield 61, 3)), (17, (.goto 33, 3)), (20, (.iload_n 1, 1)), (21, (.sipush 311, 3)), (24, (.if_icmp .ne 16, 3)), (27, (.aload_n 0, 1)), (28, (.aload_n 2, 1)), (29, (.putfield 55, 3)), (32, (.aload_n 0, 1)), (33, (.iconst 1, 1)), (34, (.putfield 65, 3)), (37, (.goto 13, 3)), (40, (.aload_n 0, 1)), (41, (.aload_n 2, 1)), (42, (.putfield 58, 3)), (45, (.aload_n 0, 1)), (46, (.iconst 1, 1)), (47, (.putfield 68, 3)), (50, (.return_, 1))]
theorem dsX2_rule_0_ok : (dsX2_rule_0.all fun q => decide (decode cX2_rule q.1 = .ok q.2)) = true := by decide +kernel
theorem dX2_rule_0 : decode cX2_rule 0 = .ok (.iload_n 1, 1) := of_decide_eq_true (List.all_eq_true.mp dsX2_rule_0_ok (0, (.iload_n 1, 1)) (List.mem_of_getElem? (i := 0) rfl))
theorem dX2_rule_1 : decode cX2_rule 1 = .ok (.sipush 310, 3) := of_decide_eq_true (List.all_eq_true.mp dsX2_rule_0_ok (1, (.sipush 310, 3)) (List.mem_of_getElem? (i := 1) rfl))
theorem dX2_rule_4 : decode cX2_rule 4 = .ok (.if_icmp .ne 16, 3) := of_decide_eq_true (List.all_eq_true.mp dsX2_rule_0_ok (4, (.if_icmp .ne 16, 3)) (List.mem_of_getElem? (i := 2) rfl))
theorem dX2_rule_7 : decode cX2_rule 7 = .ok (.aload_n 0, 1) := of_decide_eq_true (List.all_eq_true.mp dsX2_rule_0_ok (7, (.aload_n 0, 1)) (List.mem_of_getElem? (i := 3) rfl))
theorem dX2_rule_8 : decode cX2_rule 8 = .ok (.aload_n 2, 1) := of_decide_eq_true (List.all_eq_true.mp dsX2_rule_0_ok (8, (.aload_n 2, 1)) (List.mem_of_getElem? (i := 4) rfl))
theorem dX2_rule_9 : decode cX2_rule 9 = .ok (.putfield 52, 3) := of_decide_eq_true (List.all_eq_true.mp dsX2_rule_0_ok (9, (.putfield 52, 3)) (List.mem_of_getElem? (i := 5) rfl))
theorem dX2_rule_12 : decode cX2_rule 12 = .ok (.aload_n 0, 1) := of_decide_eq_true (List.all_eq_true.mp dsX2_rule_0_ok (12, (.aload_n 0, 1)) (List.mem_of_getElem? (i := 6) rfl))
theorem dX2_rule_13 : decode cX2_rule 13 = .ok (.iconst 1, 1) := of_decide_eq_true (List.all_eq_true.mp dsX2_rule_0_ok (13, (.iconst 1, 1)) (List.mem_of_getElem? (i := 7) rfl))
theorem dX2_rule_14 : decode cX2_rule 14 = .ok (.putfield 61, 3) := of_decide_eq_true (List.all_eq_true.mp dsX2_rule_0_ok (14, (.putfield 61, 3)) (List.mem_of_getElem? (i := 8) rfl))
theorem dX2_rule_17 : decode cX2_rule 17 = .ok (.goto 33, 3) := of_decide_eq_true (List.all_eq_true.mp dsX2_rule_0_ok (17, (.goto 33, 3)) (List.mem_of_getElem? (i := 9) rfl))
theorem dX2_rule_20 : decode cX2_rule 20 = .ok (.iload_n 1, 1) := of_decide_eq_true (List.all_eq_true.mp dsX2_rule_0_ok (20, (.iload_n 1, 1)) (List.mem_of_getElem? (i := 10) rfl))
theorem dX2_rule_21 : decode cX2_rule 21 = .ok (.sipush 311, 3) := of_decide_eq_true (List.all_eq_true.mp dsX2_rule_0_ok (21, (.sipush 311, 3)) (List.mem_of_getElem? (i := 11) rfl))
theorem dX2_rule_24 : decode cX2_rule 24 = .ok (.if_icmp .ne 16, 3) := of_decide_eq_true (List.all_eq_true.mp dsX2_rule_0_ok (24, (.if_icmp .ne 16, 3)) (List.mem_of_getElem? (i := 12) rfl))
theorem dX2_rule_27 : decode cX2_rule 27 = .ok (.aload_n 0, 1) := of_decide_eq_true (List.all_eq_true.mp dsX2_rule_0_ok (27, (.aload_n 0, 1)) (List.mem_of_getElem? (i := 13) rfl))
theorem dX2_rule_28 : decode cX2_rule 28 = .ok (.aload_n 2, 1) := of_decide_eq_true (List.all_eq_true.mp dsX2_rule_0_ok (28, (.aload_n 2, 1)) (List.mem_of_getElem? (i := 14) rfl))
theorem dX2_rule_29 : decode cX2_rule 29 = .ok (.putfield 55, 3) := of_decide_eq_true (List.all_eq_true.mp dsX2_rule_0_ok (29, (.putfield 55, 3)) (List.mem_of_getElem? (i := 15) rfl))
theorem dX2_rule_32 : decode cX2_rule 32 = .ok (.aload_n 0, 1) := of_decide_eq_true (List.all_eq_true.mp dsX2_rule_0_ok (32, (.aload_n 0, 1)) (List.mem_of_getElem? (i := 16) rfl))
theorem dX2_rule_33 : decode cX2_rule 33 = .ok (.iconst 1, 1) := of_decide_eq_true (List.all_eq_true.mp dsX2_rule_0_ok (33, (.iconst 1, 1)) (List.mem_of_getElem? (i := 17) rfl))
theorem dX2_rule_34 : decode cX2_rule 34 = .ok (.putfield 65, 3) := of_decide_eq_true (List.all_eq_true.mp dsX2_rule_0_ok (34, (.putfield 65, 3)) (List.mem_of_getElem? (i := 18) rfl))
theorem dX2_rule_37 : decode cX2_rule 37 = .ok (.goto 13, 3) := of_decide_eq_true (List.all_eq_true.mp dsX2_rule_0_ok (37, (.goto 13, 3)) (List.mem_of_getElem? (i := 19) rfl))
theorem dX2_rule_40 : decode cX2_rule 40 = .ok (.aload_n 0, 1) := of_decide_eq_true (List.all_eq_true.mp dsX2_rule_0_ok (40, (.aload_n 0, 1)) (List.mem_of_getElem? (i := 20) rfl))
theorem dX2_rule_41 : decode cX2_rule 41 = .ok (.aload_n 2, 1) := of_decide_eq_true (List.all_eq_true.mp dsX2_rule_0_ok (41, (.aload_n 2, 1)) (List.mem_of_getElem? (i := 21) rfl))
theorem dX2_rule_42 : decode cX2_rule 42 = .ok (.putfield 58, 3) := of_decide_eq_true (List.all_eq_true.mp dsX2_rule_0_ok (42, (.putfield 58, 3)) (List.mem_of_getElem? (i := 22) rfl))
theorem dX2_rule_45 : decode cX2_rule 45 = .ok (.aload_n 0, 1) := of_decide_eq_true (List.all_eq_true.mp dsX2_rule_0_ok (45, (.aload_n 0, 1)) (List.mem_of_getElem? (i := 23) rfl))
theorem dX2_rule_46 : decode cX2_rule 46 = .ok (.iconst 1, 1) := of_decide_eq_true (List.all_eq_true.mp dsX2_rule_0_ok (46, (.iconst 1, 1)) (List.mem_of_getElem? (i := 24) rfl))
theorem dX2_rule_47 : decode cX2_rule 47 = .ok (.putfield 68, 3) := of_decide_eq_true (List.all_eq_true.mp dsX2_rule_0_ok (47, (.putfield 68, 3)) (List.mem_of_getElem? (i := 25) rfl))
theorem dX2_rule_50 : decode cX2_rule 50 = .ok (.return_, 1) := of_decide_eq_true (List.all_eq_true.mp dsX2_rule_0_ok (50, (.return_, 1)) (List.mem_of_getElem? (i := 26) rfl))
def fX2_rule (N : Nat) (hoI ho_goesF : Nat → Int32) (ho_goesN : Nat) (ho_hearsF : Nat → Int32) (ho_hearsN : Nat) (ho_talkForF : Nat → Int32) (ho_talkForN : Nat) (ar2F : Nat → Int32) (ar2N : Nat) (p1 : Int32) : Option ((Nat → Int32) × (Nat → Int32) × Nat × (Nat → Int32) × Nat × (Nat → Int32) × Nat) :=
  if p1 = 310 then some (va_up hoI 16 1, ar2F, ar2N, ho_hearsF, ho_hearsN, ho_talkForF, ho_talkForN) else if p1 = 311 then some (va_up hoI 17 1, ho_goesF, ho_goesN, ar2F, ar2N, ho_talkForF, ho_talkForN) else some (va_up hoI 18 1, ho_goesF, ho_goesN, ho_hearsF, ho_hearsN, ar2F, ar2N)
set_option maxHeartbeats 4000000 in
set_option maxRecDepth 100000 in
theorem kX2_rule (l : Launch) (dC : Nat → ClassId) (dI : Nat → Nat → Nat) (cI cB cJ cZ cM : ClassId) (z : Nat) (ad : Nat → Nat) (N : Nat) (a_p0 : Nat) (hoI : Nat → Int32) (hoR : Nat → Nat) (ho_goesF : Nat → Int32) (ho_goesN : Nat) (ho_hearsF : Nat → Int32) (ho_hearsN : Nat) (ho_talkForF : Nat → Int32) (ho_talkForN : Nat) (a_p2 : Nat) (ar2F : Nat → Int32) (ar2N : Nat) (p1 : Int32) {r0 r1 : Nat → Int32} {r2 : Nat} {r3 : Nat → Int32} {r4 : Nat} {r5 : Nat → Int32} {r6 : Nat} (hf : fX2_rule N hoI ho_goesF ho_goesN ho_hearsF ho_hearsN ho_talkForF ho_talkForN ar2F ar2N p1 = some (r0, r1, r2, r3, r4, r5, r6)) : xq_CtA l yX2_rule wsX2_rule { frames := 0, cells := 0, slots := 0, locals := 0 } (dC, dI) vwCl (xq_tys cI cB cJ cZ cM) z ad [.ref a_p0, .int p1, .ref a_p2] [(a_p0, .inr (2, oX2 hoI hoR)), ((hoR 13), .inl (cI, ho_goesN, .inl ho_goesF)), ((hoR 14), .inl (cI, ho_hearsN, .inl ho_hearsF)), ((hoR 15), .inl (cI, ho_talkForN, .inl ho_talkForF)), (a_p2, .inl (cI, ar2N, .inl ar2F))] (fun q => [(a_p0, .inr (2, oX2 r0 (xq_r3 hoR (q 0)))), ((q 0 13), .inl (cI, r2, .inl r1)), ((q 0 14), .inl (cI, r4, .inl r3)), ((q 0 15), .inl (cI, r6, .inl r5))]) (fun _ => none) 0 0 := by
  intro sz
  refine Met.ofW (cc := cX2_rule) (maxL := 3) (ret := none) (by decide) rfl ?_
  intro p e s m args below meth c s₁ B hml hv
  obtain ⟨rfl, hsz, hP, hK, hD0, hE, hz⟩ := hv
  have hx := B.exec
  have hb := B.bytes
  have hr := B.returns
  have hts := atoms_spec (ws := wsX2_rule) B.pre
  have hown : s.vm.findClass RX2 = some m.cls := findClass_of_methodNamed B.named
  have hlocks := B.notSynchronized
  subst hsz
  have hD := hD0.self (sz := s.heap.size)
  generalize hAe : va_A [(a_p0, .inr (2, oX2 hoI hoR)), ((hoR 13), .inl (cI, ho_goesN, .inl ho_goesF)), ((hoR 14), .inl (cI, ho_hearsN, .inl ho_hearsF)), ((hoR 15), .inl (cI, ho_talkForN, .inl ho_talkForF)), (a_p2, .inl (cI, ar2N, .inl ar2F))] s.heap.size = A at hD ⊢
  have hS : va_S A s.heap s.heap [] := va_S.rf
  have hl := lv_entry ([.ref a_p0, .int p1, .ref a_p2]) (n := 3) (Nat.le_of_ble_eq_true rfl)
  rw [lg_entry_eq]
  generalize (lg_sl ([.ref a_p0, .int p1, .ref a_p2]) ++ List.replicate (3 - (lg_sl ([.ref a_p0, .int p1, .ref a_p2])).length) Slot.unset).toArray = ls at hl ⊢
  have hl : lv_has ls 3 [(0, .ref a_p0), (1, .int p1), (2, .ref a_p2)] := hl
  have hw0 := hts (.fieldLink RX2 52 "DistantVoice$House" "goes" "[I") (by decide +kernel)
  have hw1 := hts (.fieldLink RX2 61 "DistantVoice$House" "goesTold" "Z") (by decide +kernel)
  have hw2 := hts (.fieldLink RX2 55 "DistantVoice$House" "hears" "[I") (by decide +kernel)
  have hw3 := hts (.fieldLink RX2 65 "DistantVoice$House" "hearsTold" "Z") (by decide +kernel)
  have hw4 := hts (.fieldLink RX2 58 "DistantVoice$House" "talkFor" "[I") (by decide +kernel)
  have hw5 := hts (.fieldLink RX2 68 "DistantVoice$House" "talksTold" "Z") (by decide +kernel)
  have hinX2 : ∀ w ∈ wsX20, w ∈ wsX2_rule := fun w h => List.mem_cons_of_mem _ (List.mem_append_right _ h)
  unfold fX2_rule at hf
  refine lv_iload_n hx hb dX2_rule_0 rfl (lv_at hl 1 rfl) ?_
  refine lv_sipush (v := 310) hx hb dX2_rule_1 (by decide) ?_
  refine lv_icmp_ne (tgt := 20) hx hb dX2_rule_4 (by decide) (fun c_ => ?_) (fun c_ => ?_)
  · have hf := xq_neg hf c_
    refine lv_iload_n hx hb dX2_rule_20 rfl (lv_at hl 1 rfl) ?_
    refine lv_sipush (v := 311) hx hb dX2_rule_21 (by decide) ?_
    refine lv_icmp_ne (tgt := 40) hx hb dX2_rule_24 (by decide) (fun c_ => ?_) (fun c_ => ?_)
    · have hf := xq_neg hf c_
      refine lv_aload_n hx hb dX2_rule_40 rfl (lv_at hl 0 rfl) ?_
      refine lv_aload_n hx hb dX2_rule_41 rfl (lv_at hl 2 rfl) ?_
      refine va_put (D := (dC, dI)) (ci := 2) (v := .ref a_p2) (ty := .array .int) (C := RX2) (T := TX2) (N := 19) hx hb hts hinX2 tyX2 tyX2_ok nmX2 hown hK hP hD hS 0 rfl rfl 15 (by decide) hw4 (fun _ h9 => h9) rfl (by decide +kernel) rfl rfl (Nat.le_of_ble_eq_true rfl) dX2_rule_42 (fun H locs hP hD hS => ?_)
      have hP : va_P (dC, dI) vwCl [(a_p0, .inr (2, oX2 hoI (va_up hoR 15 a_p2))), ((hoR 13), .inl (cI, ho_goesN, .inl ho_goesF)), ((hoR 14), .inl (cI, ho_hearsN, .inl ho_hearsF)), ((hoR 15), .inl (cI, ho_talkForN, .inl ho_talkForF)), (a_p2, .inl (cI, ar2N, .inl ar2F))] H := hP
      have hD : va_D A [(a_p0, .inr (2, oX2 hoI (va_up hoR 15 a_p2))), ((hoR 13), .inl (cI, ho_goesN, .inl ho_goesF)), ((hoR 14), .inl (cI, ho_hearsN, .inl ho_hearsF)), ((hoR 15), .inl (cI, ho_talkForN, .inl ho_talkForF)), (a_p2, .inl (cI, ar2N, .inl ar2F))] := hD
      refine lv_aload_n hx hb dX2_rule_45 rfl (lv_at hl 0 rfl) ?_
      refine lv_iconst (v := 1) hx hb dX2_rule_46 (by decide) ?_
      refine va_put (D := (dC, dI)) (ci := 2) (v := .int 1) (ty := .boolean) (C := RX2) (T := TX2) (N := 19) hx hb hts hinX2 tyX2 tyX2_ok nmX2 hown hK hP hD hS 0 rfl rfl 18 (by decide) hw5 (fun _ h9 => h9) rfl (by decide +kernel) (by decide +kernel) (by decide +kernel) (Nat.le_of_ble_eq_true rfl) dX2_rule_47 (fun H locs hP hD hS => ?_)
      have hP : va_P (dC, dI) vwCl [(a_p0, .inr (2, oX2 (va_up hoI 18 1) (va_up hoR 15 a_p2))), ((hoR 13), .inl (cI, ho_goesN, .inl ho_goesF)), ((hoR 14), .inl (cI, ho_hearsN, .inl ho_hearsF)), ((hoR 15), .inl (cI, ho_talkForN, .inl ho_talkForF)), (a_p2, .inl (cI, ar2N, .inl ar2F))] H := hP
      have hD : va_D A [(a_p0, .inr (2, oX2 (va_up hoI 18 1) (va_up hoR 15 a_p2))), ((hoR 13), .inl (cI, ho_goesN, .inl ho_goesF)), ((hoR 14), .inl (cI, ho_hearsN, .inl ho_hearsF)), ((hoR 15), .inl (cI, ho_talkForN, .inl ho_talkForF)), (a_p2, .inl (cI, ar2N, .inl ar2F))] := hD
      cases hf
      exact xq_vretA (fun _ => (va_up hoR 15 a_p2)) rfl hx hb hr hlocks hK (hP.sub [0, 1, 2, 4] rfl) (hD.sub [0, 1, 2, 4] (by decide) rfl) hS dX2_rule_50
    · have hf := xq_pos hf c_
      refine lv_aload_n hx hb dX2_rule_27 rfl (lv_at hl 0 rfl) ?_
      refine lv_aload_n hx hb dX2_rule_28 rfl (lv_at hl 2 rfl) ?_
      refine va_put (D := (dC, dI)) (ci := 2) (v := .ref a_p2) (ty := .array .int) (C := RX2) (T := TX2) (N := 19) hx hb hts hinX2 tyX2 tyX2_ok nmX2 hown hK hP hD hS 0 rfl rfl 14 (by decide) hw2 (fun _ h9 => h9) rfl (by decide +kernel) rfl rfl (Nat.le_of_ble_eq_true rfl) dX2_rule_29 (fun H locs hP hD hS => ?_)
      have hP : va_P (dC, dI) vwCl [(a_p0, .inr (2, oX2 hoI (va_up hoR 14 a_p2))), ((hoR 13), .inl (cI, ho_goesN, .inl ho_goesF)), ((hoR 14), .inl (cI, ho_hearsN, .inl ho_hearsF)), ((hoR 15), .inl (cI, ho_talkForN, .inl ho_talkForF)), (a_p2, .inl (cI, ar2N, .inl ar2F))] H := hP
      have hD : va_D A [(a_p0, .inr (2, oX2 hoI (va_up hoR 14 a_p2))), ((hoR 13), .inl (cI, ho_goesN, .inl ho_goesF)), ((hoR 14), .inl (cI, ho_hearsN, .inl ho_hearsF)), ((hoR 15), .inl (cI, ho_talkForN, .inl ho_talkForF)), (a_p2, .inl (cI, ar2N, .inl ar2F))] := hD
      refine lv_aload_n hx hb dX2_rule_32 rfl (lv_at hl 0 rfl) ?_
      refine lv_iconst (v := 1) hx hb dX2_rule_33 (by decide) ?_
      refine va_put (D := (dC, dI)) (ci := 2) (v := .int 1) (ty := .boolean) (C := RX2) (T := TX2) (N := 19) hx hb hts hinX2 tyX2 tyX2_ok nmX2 hown hK hP hD hS 0 rfl rfl 17 (by decide) hw3 (fun _ h9 => h9) rfl (by decide +kernel) (by decide +kernel) (by decide +kernel) (Nat.le_of_ble_eq_true rfl) dX2_rule_34 (fun H locs hP hD hS => ?_)
      refine lv_goto (tgt := 50) hx hb dX2_rule_37 (by decide) ?_
      have hP : va_P (dC, dI) vwCl [(a_p0, .inr (2, oX2 (va_up hoI 17 1) (va_up hoR 14 a_p2))), ((hoR 13), .inl (cI, ho_goesN, .inl ho_goesF)), ((hoR 14), .inl (cI, ho_hearsN, .inl ho_hearsF)), ((hoR 15), .inl (cI, ho_talkForN, .inl ho_talkForF)), (a_p2, .inl (cI, ar2N, .inl ar2F))] H := hP
      have hD : va_D A [(a_p0, .inr (2, oX2 (va_up hoI 17 1) (va_up hoR 14 a_p2))), ((hoR 13), .inl (cI, ho_goesN, .inl ho_goesF)), ((hoR 14), .inl (cI, ho_hearsN, .inl ho_hearsF)), ((hoR 15), .inl (cI, ho_talkForN, .inl ho_talkForF)), (a_p2, .inl (cI, ar2N, .inl ar2F))] := hD
      cases hf
      exact xq_vretA (fun _ => (va_up hoR 14 a_p2)) rfl hx hb hr hlocks hK (hP.sub [0, 1, 4, 3] rfl) (hD.sub [0, 1, 4, 3] (by decide) rfl) hS dX2_rule_50
  · have hf := xq_pos hf c_
    refine lv_aload_n hx hb dX2_rule_7 rfl (lv_at hl 0 rfl) ?_
    refine lv_aload_n hx hb dX2_rule_8 rfl (lv_at hl 2 rfl) ?_
    refine va_put (D := (dC, dI)) (ci := 2) (v := .ref a_p2) (ty := .array .int) (C := RX2) (T := TX2) (N := 19) hx hb hts hinX2 tyX2 tyX2_ok nmX2 hown hK hP hD hS 0 rfl rfl 13 (by decide) hw0 (fun _ h9 => h9) rfl (by decide +kernel) rfl rfl (Nat.le_of_ble_eq_true rfl) dX2_rule_9 (fun H locs hP hD hS => ?_)
    have hP : va_P (dC, dI) vwCl [(a_p0, .inr (2, oX2 hoI (va_up hoR 13 a_p2))), ((hoR 13), .inl (cI, ho_goesN, .inl ho_goesF)), ((hoR 14), .inl (cI, ho_hearsN, .inl ho_hearsF)), ((hoR 15), .inl (cI, ho_talkForN, .inl ho_talkForF)), (a_p2, .inl (cI, ar2N, .inl ar2F))] H := hP
    have hD : va_D A [(a_p0, .inr (2, oX2 hoI (va_up hoR 13 a_p2))), ((hoR 13), .inl (cI, ho_goesN, .inl ho_goesF)), ((hoR 14), .inl (cI, ho_hearsN, .inl ho_hearsF)), ((hoR 15), .inl (cI, ho_talkForN, .inl ho_talkForF)), (a_p2, .inl (cI, ar2N, .inl ar2F))] := hD
    refine lv_aload_n hx hb dX2_rule_12 rfl (lv_at hl 0 rfl) ?_
    refine lv_iconst (v := 1) hx hb dX2_rule_13 (by decide) ?_
    refine va_put (D := (dC, dI)) (ci := 2) (v := .int 1) (ty := .boolean) (C := RX2) (T := TX2) (N := 19) hx hb hts hinX2 tyX2 tyX2_ok nmX2 hown hK hP hD hS 0 rfl rfl 16 (by decide) hw1 (fun _ h9 => h9) rfl (by decide +kernel) (by decide +kernel) (by decide +kernel) (Nat.le_of_ble_eq_true rfl) dX2_rule_14 (fun H locs hP hD hS => ?_)
    refine lv_goto (tgt := 50) hx hb dX2_rule_17 (by decide) ?_
    have hP : va_P (dC, dI) vwCl [(a_p0, .inr (2, oX2 (va_up hoI 16 1) (va_up hoR 13 a_p2))), ((hoR 13), .inl (cI, ho_goesN, .inl ho_goesF)), ((hoR 14), .inl (cI, ho_hearsN, .inl ho_hearsF)), ((hoR 15), .inl (cI, ho_talkForN, .inl ho_talkForF)), (a_p2, .inl (cI, ar2N, .inl ar2F))] H := hP
    have hD : va_D A [(a_p0, .inr (2, oX2 (va_up hoI 16 1) (va_up hoR 13 a_p2))), ((hoR 13), .inl (cI, ho_goesN, .inl ho_goesF)), ((hoR 14), .inl (cI, ho_hearsN, .inl ho_hearsF)), ((hoR 15), .inl (cI, ho_talkForN, .inl ho_talkForF)), (a_p2, .inl (cI, ar2N, .inl ar2F))] := hD
    cases hf
    exact xq_vretA (fun _ => (va_up hoR 13 a_p2)) rfl hx hb hr hlocks hK (hP.sub [0, 4, 2, 3] rfl) (hD.sub [0, 4, 2, 3] (by decide) rfl) hS dX2_rule_50
