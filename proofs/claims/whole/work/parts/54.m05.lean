set_option maxRecDepth 20000 in
theorem ggX12_talkAt_X12_isTold : GoodIn wsX12_talkAt wsX12_isTold := goodIn_r _ [8, 9, 10, 33, 34, 35, 36, 37, 38, 39, 40, 41, 42, 43, 44, 45, 46, 47, 48, 49, 50, 51, 52, 53, 54, 55, 56, 57, 58, 59, 60, 61, 62, 63, 64, 65, 66, 67, 68, 69, 70, 71, 72, 73, 74, 75, 76, 77, 78, 79, 80, 81, 82, 83, 84, 85, 86, 87, 88, 89, 90, 91, 92, 93, 94, 95, 96, 97, 98, 99, 100, 101, 102] rfl (by decide +kernel)
set_option maxRecDepth 20000 in
theorem gX12_talkAt_X12_isTold : GoodIn wsX12_talkAt (wsV RX12 413 RX12 yX12_isTold wsX12_isTold) := goodIn_app (goodIn_of _ (by decide +kernel)) ggX12_talkAt_X12_isTold
set_option maxRecDepth 20000 in
theorem ggX12_talkAt_X12_reckons : GoodIn wsX12_talkAt wsX12_reckons := goodIn_r _ [14, 10, 9, 15, 16, 17, 18, 2, 19, 20, 7, 21, 22, 23, 24, 25, 26, 27, 28, 29, 33, 34, 35, 36, 37, 38, 39, 40, 41, 42, 43, 44, 45, 46, 47, 48, 49, 50, 51, 52, 53, 54, 55, 56, 57, 58, 59, 60, 61, 62, 63, 64, 65, 66, 67, 68, 69, 70, 71, 72, 73, 74, 75, 76, 77, 78, 79, 80, 81, 82, 83, 84, 85, 86, 87, 88, 89, 90, 91, 92, 93, 94, 95, 96, 97, 98, 99, 100, 101, 102] rfl (by decide +kernel)
set_option maxRecDepth 20000 in
theorem gX12_talkAt_X12_reckons : GoodIn wsX12_talkAt (wsV RX12 416 RX12 yX12_reckons wsX12_reckons) := goodIn_app (goodIn_of _ (by decide +kernel)) ggX12_talkAt_X12_reckons
set_option maxRecDepth 20000 in
theorem ggX12_talkAt_X12_cut : GoodIn wsX12_talkAt wsX12_cut := goodIn_r _ [32] rfl (by decide +kernel)
set_option maxRecDepth 20000 in
theorem gX12_talkAt_X12_cut : GoodIn wsX12_talkAt (va_wsS RX12 420 yX12_cut wsX12_cut) := goodIn_app (goodIn_of _ (by decide +kernel)) ggX12_talkAt_X12_cut
def dsX12_talkAt_0 : List (Nat × Instr × Nat) := [(0, (.aload_n 0, 1)), (1, (.getfield 168, 3)), (4, (.bipush 6, 2)), (6, (.iload_n 1, 1)), (7, (.imul, 1)), (8, (.iload_n 2, 1)), (9, (.iadd, 1)), (10, (.iaload, 1)), (11, (.istore 4, 2)), (13, (.aload_n 0, 1)), (14, (.iconst 2, 1)), (15, (.invokevirtual 413, 3)), (18, (.ifCond .ne 6, 3)), (21, (.iload 4, 2)), (23, (.ireturn, 1)), (24, (.aload_n 0, 1)), (25, (.getfield 189, 3)), (28, (.iconst 1, 1)), (29, (.aload_n 0, 1)), (30, (.getfield 150, 3)), (33, (.iload_n 1, 1)), (34, (.iaload, 1)), (35, (.iastore, 1)), (36, (.aload_n 0, 1)), (37, (.getfield 189, 3)), (40, (.iconst 2, 1)), (41, (.iload_n 3, 1)), (42, (.iastore, 1)), (43, (.aload_n 0, 1)), (44, (.getfield 189, 3)), (47, (.bipush 8, 2)), (49, (.iload 4, 2)), (51, (.iastore, 1)), (52, (.aload_n 0, 1)), (53, (.iconst 2, 1)), (54, (.invokevirtual 416, 3)), (57, (.bipush 20, 2)), (59, (.invokestatic 420, 3)), (62, (.ireturn, 1))]
theorem dsX12_talkAt_0_ok : (dsX12_talkAt_0.all fun q => decide (decode cX12_talkAt q.1 = .ok q.2)) = true := by decide +kernel
theorem dX12_talkAt_0 : decode cX12_talkAt 0 = .ok (.aload_n 0, 1) := of_decide_eq_true (List.all_eq_true.mp dsX12_talkAt_0_ok (0, (.aload_n 0, 1)) (List.mem_of_getElem? (i := 0) rfl))
theorem dX12_talkAt_1 : decode cX12_talkAt 1 = .ok (.getfield 168, 3) := of_decide_eq_true (List.all_eq_true.mp dsX12_talkAt_0_ok (1, (.getfield 168, 3)) (List.mem_of_getElem? (i := 1) rfl))
theorem dX12_talkAt_4 : decode cX12_talkAt 4 = .ok (.bipush 6, 2) := of_decide_eq_true (List.all_eq_true.mp dsX12_talkAt_0_ok (4, (.bipush 6, 2)) (List.mem_of_getElem? (i := 2) rfl))
theorem dX12_talkAt_6 : decode cX12_talkAt 6 = .ok (.iload_n 1, 1) := of_decide_eq_true (List.all_eq_true.mp dsX12_talkAt_0_ok (6, (.iload_n 1, 1)) (List.mem_of_getElem? (i := 3) rfl))
theorem dX12_talkAt_7 : decode cX12_talkAt 7 = .ok (.imul, 1) := of_decide_eq_true (List.all_eq_true.mp dsX12_talkAt_0_ok (7, (.imul, 1)) (List.mem_of_getElem? (i := 4) rfl))
theorem dX12_talkAt_8 : decode cX12_talkAt 8 = .ok (.iload_n 2, 1) := of_decide_eq_true (List.all_eq_true.mp dsX12_talkAt_0_ok (8, (.iload_n 2, 1)) (List.mem_of_getElem? (i := 5) rfl))
theorem dX12_talkAt_9 : decode cX12_talkAt 9 = .ok (.iadd, 1) := of_decide_eq_true (List.all_eq_true.mp dsX12_talkAt_0_ok (9, (.iadd, 1)) (List.mem_of_getElem? (i := 6) rfl))
theorem dX12_talkAt_10 : decode cX12_talkAt 10 = .ok (.iaload, 1) := of_decide_eq_true (List.all_eq_true.mp dsX12_talkAt_0_ok (10, (.iaload, 1)) (List.mem_of_getElem? (i := 7) rfl))
theorem dX12_talkAt_11 : decode cX12_talkAt 11 = .ok (.istore 4, 2) := of_decide_eq_true (List.all_eq_true.mp dsX12_talkAt_0_ok (11, (.istore 4, 2)) (List.mem_of_getElem? (i := 8) rfl))
theorem dX12_talkAt_13 : decode cX12_talkAt 13 = .ok (.aload_n 0, 1) := of_decide_eq_true (List.all_eq_true.mp dsX12_talkAt_0_ok (13, (.aload_n 0, 1)) (List.mem_of_getElem? (i := 9) rfl))
theorem dX12_talkAt_14 : decode cX12_talkAt 14 = .ok (.iconst 2, 1) := of_decide_eq_true (List.all_eq_true.mp dsX12_talkAt_0_ok (14, (.iconst 2, 1)) (List.mem_of_getElem? (i := 10) rfl))
theorem dX12_talkAt_15 : decode cX12_talkAt 15 = .ok (.invokevirtual 413, 3) := of_decide_eq_true (List.all_eq_true.mp dsX12_talkAt_0_ok (15, (.invokevirtual 413, 3)) (List.mem_of_getElem? (i := 11) rfl))
theorem dX12_talkAt_18 : decode cX12_talkAt 18 = .ok (.ifCond .ne 6, 3) := of_decide_eq_true (List.all_eq_true.mp dsX12_talkAt_0_ok (18, (.ifCond .ne 6, 3)) (List.mem_of_getElem? (i := 12) rfl))
theorem dX12_talkAt_21 : decode cX12_talkAt 21 = .ok (.iload 4, 2) := of_decide_eq_true (List.all_eq_true.mp dsX12_talkAt_0_ok (21, (.iload 4, 2)) (List.mem_of_getElem? (i := 13) rfl))
theorem dX12_talkAt_23 : decode cX12_talkAt 23 = .ok (.ireturn, 1) := of_decide_eq_true (List.all_eq_true.mp dsX12_talkAt_0_ok (23, (.ireturn, 1)) (List.mem_of_getElem? (i := 14) rfl))
theorem dX12_talkAt_24 : decode cX12_talkAt 24 = .ok (.aload_n 0, 1) := of_decide_eq_true (List.all_eq_true.mp dsX12_talkAt_0_ok (24, (.aload_n 0, 1)) (List.mem_of_getElem? (i := 15) rfl))
theorem dX12_talkAt_25 : decode cX12_talkAt 25 = .ok (.getfield 189, 3) := of_decide_eq_true (List.all_eq_true.mp dsX12_talkAt_0_ok (25, (.getfield 189, 3)) (List.mem_of_getElem? (i := 16) rfl))
theorem dX12_talkAt_28 : decode cX12_talkAt 28 = .ok (.iconst 1, 1) := of_decide_eq_true (List.all_eq_true.mp dsX12_talkAt_0_ok (28, (.iconst 1, 1)) (List.mem_of_getElem? (i := 17) rfl))
theorem dX12_talkAt_29 : decode cX12_talkAt 29 = .ok (.aload_n 0, 1) := of_decide_eq_true (List.all_eq_true.mp dsX12_talkAt_0_ok (29, (.aload_n 0, 1)) (List.mem_of_getElem? (i := 18) rfl))
theorem dX12_talkAt_30 : decode cX12_talkAt 30 = .ok (.getfield 150, 3) := of_decide_eq_true (List.all_eq_true.mp dsX12_talkAt_0_ok (30, (.getfield 150, 3)) (List.mem_of_getElem? (i := 19) rfl))
theorem dX12_talkAt_33 : decode cX12_talkAt 33 = .ok (.iload_n 1, 1) := of_decide_eq_true (List.all_eq_true.mp dsX12_talkAt_0_ok (33, (.iload_n 1, 1)) (List.mem_of_getElem? (i := 20) rfl))
theorem dX12_talkAt_34 : decode cX12_talkAt 34 = .ok (.iaload, 1) := of_decide_eq_true (List.all_eq_true.mp dsX12_talkAt_0_ok (34, (.iaload, 1)) (List.mem_of_getElem? (i := 21) rfl))
theorem dX12_talkAt_35 : decode cX12_talkAt 35 = .ok (.iastore, 1) := of_decide_eq_true (List.all_eq_true.mp dsX12_talkAt_0_ok (35, (.iastore, 1)) (List.mem_of_getElem? (i := 22) rfl))
theorem dX12_talkAt_36 : decode cX12_talkAt 36 = .ok (.aload_n 0, 1) := of_decide_eq_true (List.all_eq_true.mp dsX12_talkAt_0_ok (36, (.aload_n 0, 1)) (List.mem_of_getElem? (i := 23) rfl))
theorem dX12_talkAt_37 : decode cX12_talkAt 37 = .ok (.getfield 189, 3) := of_decide_eq_true (List.all_eq_true.mp dsX12_talkAt_0_ok (37, (.getfield 189, 3)) (List.mem_of_getElem? (i := 24) rfl))
theorem dX12_talkAt_40 : decode cX12_talkAt 40 = .ok (.iconst 2, 1) := of_decide_eq_true (List.all_eq_true.mp dsX12_talkAt_0_ok (40, (.iconst 2, 1)) (List.mem_of_getElem? (i := 25) rfl))
theorem dX12_talkAt_41 : decode cX12_talkAt 41 = .ok (.iload_n 3, 1) := of_decide_eq_true (List.all_eq_true.mp dsX12_talkAt_0_ok (41, (.iload_n 3, 1)) (List.mem_of_getElem? (i := 26) rfl))
theorem dX12_talkAt_42 : decode cX12_talkAt 42 = .ok (.iastore, 1) := of_decide_eq_true (List.all_eq_true.mp dsX12_talkAt_0_ok (42, (.iastore, 1)) (List.mem_of_getElem? (i := 27) rfl))
theorem dX12_talkAt_43 : decode cX12_talkAt 43 = .ok (.aload_n 0, 1) := of_decide_eq_true (List.all_eq_true.mp dsX12_talkAt_0_ok (43, (.aload_n 0, 1)) (List.mem_of_getElem? (i := 28) rfl))
theorem dX12_talkAt_44 : decode cX12_talkAt 44 = .ok (.getfield 189, 3) := of_decide_eq_true (List.all_eq_true.mp dsX12_talkAt_0_ok (44, (.getfield 189, 3)) (List.mem_of_getElem? (i := 29) rfl))
theorem dX12_talkAt_47 : decode cX12_talkAt 47 = .ok (.bipush 8, 2) := of_decide_eq_true (List.all_eq_true.mp dsX12_talkAt_0_ok (47, (.bipush 8, 2)) (List.mem_of_getElem? (i := 30) rfl))
theorem dX12_talkAt_49 : decode cX12_talkAt 49 = .ok (.iload 4, 2) := of_decide_eq_true (List.all_eq_true.mp dsX12_talkAt_0_ok (49, (.iload 4, 2)) (List.mem_of_getElem? (i := 31) rfl))
theorem dX12_talkAt_51 : decode cX12_talkAt 51 = .ok (.iastore, 1) := of_decide_eq_true (List.all_eq_true.mp dsX12_talkAt_0_ok (51, (.iastore, 1)) (List.mem_of_getElem? (i := 32) rfl))
theorem dX12_talkAt_52 : decode cX12_talkAt 52 = .ok (.aload_n 0, 1) := of_decide_eq_true (List.all_eq_true.mp dsX12_talkAt_0_ok (52, (.aload_n 0, 1)) (List.mem_of_getElem? (i := 33) rfl))
theorem dX12_talkAt_53 : decode cX12_talkAt 53 = .ok (.iconst 2, 1) := of_decide_eq_true (List.all_eq_true.mp dsX12_talkAt_0_ok (53, (.iconst 2, 1)) (List.mem_of_getElem? (i := 34) rfl))
theorem dX12_talkAt_54 : decode cX12_talkAt 54 = .ok (.invokevirtual 416, 3) := of_decide_eq_true (List.all_eq_true.mp dsX12_talkAt_0_ok (54, (.invokevirtual 416, 3)) (List.mem_of_getElem? (i := 35) rfl))
theorem dX12_talkAt_57 : decode cX12_talkAt 57 = .ok (.bipush 20, 2) := of_decide_eq_true (List.all_eq_true.mp dsX12_talkAt_0_ok (57, (.bipush 20, 2)) (List.mem_of_getElem? (i := 36) rfl))
theorem dX12_talkAt_59 : decode cX12_talkAt 59 = .ok (.invokestatic 420, 3) := of_decide_eq_true (List.all_eq_true.mp dsX12_talkAt_0_ok (59, (.invokestatic 420, 3)) (List.mem_of_getElem? (i := 37) rfl))
theorem dX12_talkAt_62 : decode cX12_talkAt 62 = .ok (.ireturn, 1) := of_decide_eq_true (List.all_eq_true.mp dsX12_talkAt_0_ok (62, (.ireturn, 1)) (List.mem_of_getElem? (i := 38) rfl))
def fX12_talkAt (N : Nat) (mmI : Nat → Int32) (mm_talkOfF : Nat → Int32) (mm_sumFromF : Nat → Int32) (mm_nightOfF : Nat → Int32) (mm_askedF : Nat → Int32) (mm_sumBehindF : Nat → Int32) (mm_stackL : Nat → Int64) (mm_codeSortF : Nat → Int32) (mm_codeValueF : Nat → Int32)  (p1 : Int32) (p2 : Int32) (p3 : Int32) : Option (Int32 × (Nat → Int32) × (Nat → Int64)) :=
  (xq_bd (xq_ald 132 mm_talkOfF ((6 * p1) + p2)) fun v_1 => (xq_bd (fX12_isTold N mmI mm_sumFromF 2) fun r_2 => (if r_2 = 0 then some ((v_1, mm_askedF, mm_stackL)) else (xq_bd (xq_ald 22 mm_nightOfF p1) fun v_4 => (xq_bd (xq_ast 12 mm_askedF 1 v_4) fun g_5 => (xq_bd (xq_ast 12 g_5 2 p3) fun g_6 => (xq_bd (xq_ast 12 g_6 8 v_1) fun g_7 => (xq_bd (fX12_reckons N mmI mm_sumFromF mm_sumBehindF mm_stackL mm_codeSortF g_7 mm_codeValueF 2) fun (r_8_0, r_8_1) => (xq_bd (fX12_cut N r_8_0 20) fun r_10 => some ((r_10, g_7, r_8_1)))))))))))
set_option maxHeartbeats 4000000 in
set_option maxRecDepth 100000 in
theorem kX12_talkAt (l : Launch) (dC : Nat → ClassId) (dI : Nat → Nat → Nat) (cI cB cJ cZ cM : ClassId) (z : Nat) (ad : Nat → Nat) (N : Nat) (a_p0 : Nat) (mmI : Nat → Int32) (mmJ : Nat → Int64) (mmR : Nat → Nat) (mm_talkOfF : Nat → Int32) (mm_sumFromF : Nat → Int32) (mm_nightOfF : Nat → Int32) (mm_askedF : Nat → Int32) (mm_sumBehindF : Nat → Int32) (mm_stackL : Nat → Int64) (mm_codeSortF : Nat → Int32) (mm_codeValueF : Nat → Int32) (p1 : Int32) (p2 : Int32) (p3 : Int32) {r0 : Int32} {r1 : Nat → Int32} {r2 : Nat → Int64} (hf : fX12_talkAt N mmI mm_talkOfF mm_sumFromF mm_nightOfF mm_askedF mm_sumBehindF mm_stackL mm_codeSortF mm_codeValueF p1 p2 p3 = some (r0, r1, r2)) : xq_Ct l yX12_talkAt wsX12_talkAt { frames := 3, cells := 0, slots := 0, locals := 73 } (dC, dI) vwCl (xq_tys cI cB cJ cZ cM) z ad [.ref a_p0, .int p1, .int p2, .int p3] [(a_p0, .inr (12, oX12 mmI mmJ mmR)), ((mmR 51), .inl (cI, 132, .inl mm_talkOfF)), ((mmR 24), .inl (cI, 6, .inl mm_sumFromF)), ((mmR 45), .inl (cI, 22, .inl mm_nightOfF)), ((mmR 58), .inl (cI, 12, .inl mm_askedF)), ((mmR 25), .inl (cI, 6, .inl mm_sumBehindF)), ((mmR 57), .inl (cJ, 500, .inr (.inl mm_stackL))), ((mmR 26), .inl (cI, 3200, .inl mm_codeSortF)), ((mmR 27), .inl (cI, 3200, .inl mm_codeValueF))] [(a_p0, .inr (12, oX12 mmI mmJ mmR)), ((mmR 51), .inl (cI, 132, .inl mm_talkOfF)), ((mmR 24), .inl (cI, 6, .inl mm_sumFromF)), ((mmR 45), .inl (cI, 22, .inl mm_nightOfF)), ((mmR 58), .inl (cI, 12, .inl r1)), ((mmR 25), .inl (cI, 6, .inl mm_sumBehindF)), ((mmR 57), .inl (cJ, 500, .inr (.inl r2))), ((mmR 26), .inl (cI, 3200, .inl mm_codeSortF)), ((mmR 27), .inl (cI, 3200, .inl mm_codeValueF))] (some (.int r0)) := by
  intro sz
  refine Met.ofW (cc := cX12_talkAt) (maxL := 5) (ret := (some .int)) (by decide) rfl ?_
  intro p e s m args below meth c s₁ B hml hv
  obtain ⟨rfl, hsz, hP, hK, hD0, hE, hz⟩ := hv
  have hx := B.exec
  have hb := B.bytes
  have hr := B.returns
  have hts := atoms_spec (ws := wsX12_talkAt) B.pre
  have hown : s.vm.findClass RX12 = some m.cls := findClass_of_methodNamed B.named
  have hlocks := B.notSynchronized
  subst hsz
  have hD := hD0.self (sz := s.heap.size)
  have hN := xq_Env.of hE hz hD0
  generalize hAe : va_A [(a_p0, .inr (12, oX12 mmI mmJ mmR)), ((mmR 51), .inl (cI, 132, .inl mm_talkOfF)), ((mmR 24), .inl (cI, 6, .inl mm_sumFromF)), ((mmR 45), .inl (cI, 22, .inl mm_nightOfF)), ((mmR 58), .inl (cI, 12, .inl mm_askedF)), ((mmR 25), .inl (cI, 6, .inl mm_sumBehindF)), ((mmR 57), .inl (cJ, 500, .inr (.inl mm_stackL))), ((mmR 26), .inl (cI, 3200, .inl mm_codeSortF)), ((mmR 27), .inl (cI, 3200, .inl mm_codeValueF))] s.heap.size = A at hD hN ⊢
  have hA : ∀ q : Nat, s.heap.size ≤ q → A q := fun q h => by rw [← hAe]; exact Or.inr h
  clear hAe hD0
  have hS : va_S A s.heap s.heap [] := va_S.rf
  have hl := lv_entry ([.ref a_p0, .int p1, .int p2, .int p3]) (n := 5) (Nat.le_of_ble_eq_true rfl)
  rw [lg_entry_eq]
  generalize (lg_sl ([.ref a_p0, .int p1, .int p2, .int p3]) ++ List.replicate (5 - (lg_sl ([.ref a_p0, .int p1, .int p2, .int p3])).length) Slot.unset).toArray = ls at hl ⊢
  have hl : lv_has ls 5 [(0, .ref a_p0), (1, .int p1), (2, .int p2), (3, .int p3)] := hl
  have hw0 := hts (.fieldLink RX12 168 "DistantVoiceModel" "talkOf" "[I") (by decide +kernel)
  have hinX12 : ∀ w ∈ wsX120, w ∈ wsX12_talkAt := fun w h => List.mem_cons_of_mem _ (List.mem_append_right _ h)
  have hw2 := hts (.fieldLink RX12 189 "DistantVoiceModel" "asked" "[I") (by decide +kernel)
  have hw3 := hts (.fieldLink RX12 150 "DistantVoiceModel" "nightOf" "[I") (by decide +kernel)
  unfold fX12_talkAt at hf
  refine lv_aload_n hx hb dX12_talkAt_0 rfl (lv_at hl 0 rfl) ?_
  refine va_get (D := (dC, dI)) (ci := 12) (v := .ref ((mmR 51))) (C := RX12) (T := TX12) (N := 70) hx hb hts hinX12 hown hK hP 0 rfl rfl 51 (by decide) hw0 (fun _ h9 => h9) rfl dX12_talkAt_1 ?_
  refine lv_bipush (v := 6) hx hb dX12_talkAt_4 (by decide) ?_
  refine lv_iload_n hx hb dX12_talkAt_6 rfl (lv_at hl 1 rfl) ?_
  refine lv_imul hx hb dX12_talkAt_7 ?_
  refine lv_iload_n hx hb dX12_talkAt_8 rfl (lv_at hl 2 rfl) ?_
  refine lv_iadd hx hb dX12_talkAt_9 ?_
  refine xq_iald hx hb hK hP 1 0 rfl rfl hf dX12_talkAt_10 (fun v_1 hf => ?_)
  refine lv_istore (lv' := [(4, .int v_1), (0, .ref a_p0), (1, .int p1), (2, .int p2), (3, .int p3)]) hx hb dX12_talkAt_11 hl (by decide) rfl (fun ls hl => ?_)
  refine lv_aload_n hx hb dX12_talkAt_13 rfl (lv_at hl 1 rfl) ?_
  refine lv_iconst (v := 2) hx hb dX12_talkAt_14 (by decide) ?_
  obtain ⟨r_2, h_3, hf⟩ := xq_bd_some hf
  refine xq_callV (As := [.int 2]) (rest := []) (ci := 12) (q0 := 0) ⟨hx, hb, hml, hown, hts⟩ (kX12_isTold l dC dI cI cB cJ cZ cM z ad N a_p0 mmI mmJ mmR mm_sumFromF 2 h_3) (cwV 1 hts gX12_talkAt_X12_isTold rfl rfl rfl (by decide +kernel) ⟨Nat.le_of_ble_eq_true rfl, Nat.le_of_ble_eq_true rfl⟩) hN hK hP hD hS hA [0, 2] (by decide) rfl rfl rfl rfl rfl rfl hl.1 rfl (Nat.le_of_ble_eq_true rfl) dX12_talkAt_15 ⟨Nat.zero_le _, Nat.zero_le _⟩ (fun H locs hP hD hS => ?_)
  have hP : va_P (dC, dI) vwCl [(a_p0, .inr (12, oX12 mmI mmJ mmR)), ((mmR 51), .inl (cI, 132, .inl mm_talkOfF)), ((mmR 24), .inl (cI, 6, .inl mm_sumFromF)), ((mmR 45), .inl (cI, 22, .inl mm_nightOfF)), ((mmR 58), .inl (cI, 12, .inl mm_askedF)), ((mmR 25), .inl (cI, 6, .inl mm_sumBehindF)), ((mmR 57), .inl (cJ, 500, .inr (.inl mm_stackL))), ((mmR 26), .inl (cI, 3200, .inl mm_codeSortF)), ((mmR 27), .inl (cI, 3200, .inl mm_codeValueF))] H := hP
  have hD : va_D A [(a_p0, .inr (12, oX12 mmI mmJ mmR)), ((mmR 51), .inl (cI, 132, .inl mm_talkOfF)), ((mmR 24), .inl (cI, 6, .inl mm_sumFromF)), ((mmR 45), .inl (cI, 22, .inl mm_nightOfF)), ((mmR 58), .inl (cI, 12, .inl mm_askedF)), ((mmR 25), .inl (cI, 6, .inl mm_sumBehindF)), ((mmR 57), .inl (cJ, 500, .inr (.inl mm_stackL))), ((mmR 26), .inl (cI, 3200, .inl mm_codeSortF)), ((mmR 27), .inl (cI, 3200, .inl mm_codeValueF))] := hD
  refine W.eq (g2 := F0 m 18 ls [.int r_2]) rfl ?_
  refine lv_if_ne (tgt := 24) hx hb dX12_talkAt_18 (by decide) (fun c_ => ?_) (fun c_ => ?_)
  · have hf := xq_neg hf c_
    refine lv_aload_n hx hb dX12_talkAt_24 rfl (lv_at hl 1 rfl) ?_
    refine va_get (D := (dC, dI)) (ci := 12) (v := .ref ((mmR 58))) (C := RX12) (T := TX12) (N := 70) hx hb hts hinX12 hown hK hP 0 rfl rfl 58 (by decide) hw2 (fun _ h9 => h9) rfl dX12_talkAt_25 ?_
    refine lv_iconst (v := 1) hx hb dX12_talkAt_28 (by decide) ?_
    refine lv_aload_n hx hb dX12_talkAt_29 rfl (lv_at hl 1 rfl) ?_
    refine va_get (D := (dC, dI)) (ci := 12) (v := .ref ((mmR 45))) (C := RX12) (T := TX12) (N := 70) hx hb hts hinX12 hown hK hP 0 rfl rfl 45 (by decide) hw3 (fun _ h9 => h9) rfl dX12_talkAt_30 ?_
    refine lv_iload_n hx hb dX12_talkAt_33 rfl (lv_at hl 2 rfl) ?_
    refine xq_iald hx hb hK hP 3 0 rfl rfl hf dX12_talkAt_34 (fun v_4 hf => ?_)
    refine xq_iast hx hb hK hP hD hS 4 0 rfl rfl hf dX12_talkAt_35 (fun g_5 H locs hf hP hD hS => ?_)
    have hP : va_P (dC, dI) vwCl [(a_p0, .inr (12, oX12 mmI mmJ mmR)), ((mmR 51), .inl (cI, 132, .inl mm_talkOfF)), ((mmR 24), .inl (cI, 6, .inl mm_sumFromF)), ((mmR 45), .inl (cI, 22, .inl mm_nightOfF)), ((mmR 58), .inl (cI, 12, .inl g_5)), ((mmR 25), .inl (cI, 6, .inl mm_sumBehindF)), ((mmR 57), .inl (cJ, 500, .inr (.inl mm_stackL))), ((mmR 26), .inl (cI, 3200, .inl mm_codeSortF)), ((mmR 27), .inl (cI, 3200, .inl mm_codeValueF))] H := hP
    have hD : va_D A [(a_p0, .inr (12, oX12 mmI mmJ mmR)), ((mmR 51), .inl (cI, 132, .inl mm_talkOfF)), ((mmR 24), .inl (cI, 6, .inl mm_sumFromF)), ((mmR 45), .inl (cI, 22, .inl mm_nightOfF)), ((mmR 58), .inl (cI, 12, .inl g_5)), ((mmR 25), .inl (cI, 6, .inl mm_sumBehindF)), ((mmR 57), .inl (cJ, 500, .inr (.inl mm_stackL))), ((mmR 26), .inl (cI, 3200, .inl mm_codeSortF)), ((mmR 27), .inl (cI, 3200, .inl mm_codeValueF))] := hD
    refine lv_aload_n hx hb dX12_talkAt_36 rfl (lv_at hl 1 rfl) ?_
    refine va_get (D := (dC, dI)) (ci := 12) (v := .ref ((mmR 58))) (C := RX12) (T := TX12) (N := 70) hx hb hts hinX12 hown hK hP 0 rfl rfl 58 (by decide) hw2 (fun _ h9 => h9) rfl dX12_talkAt_37 ?_
    refine lv_iconst (v := 2) hx hb dX12_talkAt_40 (by decide) ?_
    refine lv_iload_n hx hb dX12_talkAt_41 rfl (lv_at hl 4 rfl) ?_
    refine xq_iast hx hb hK hP hD hS 4 0 rfl rfl hf dX12_talkAt_42 (fun g_6 H locs hf hP hD hS => ?_)
    have hP : va_P (dC, dI) vwCl [(a_p0, .inr (12, oX12 mmI mmJ mmR)), ((mmR 51), .inl (cI, 132, .inl mm_talkOfF)), ((mmR 24), .inl (cI, 6, .inl mm_sumFromF)), ((mmR 45), .inl (cI, 22, .inl mm_nightOfF)), ((mmR 58), .inl (cI, 12, .inl g_6)), ((mmR 25), .inl (cI, 6, .inl mm_sumBehindF)), ((mmR 57), .inl (cJ, 500, .inr (.inl mm_stackL))), ((mmR 26), .inl (cI, 3200, .inl mm_codeSortF)), ((mmR 27), .inl (cI, 3200, .inl mm_codeValueF))] H := hP
    have hD : va_D A [(a_p0, .inr (12, oX12 mmI mmJ mmR)), ((mmR 51), .inl (cI, 132, .inl mm_talkOfF)), ((mmR 24), .inl (cI, 6, .inl mm_sumFromF)), ((mmR 45), .inl (cI, 22, .inl mm_nightOfF)), ((mmR 58), .inl (cI, 12, .inl g_6)), ((mmR 25), .inl (cI, 6, .inl mm_sumBehindF)), ((mmR 57), .inl (cJ, 500, .inr (.inl mm_stackL))), ((mmR 26), .inl (cI, 3200, .inl mm_codeSortF)), ((mmR 27), .inl (cI, 3200, .inl mm_codeValueF))] := hD
    refine lv_aload_n hx hb dX12_talkAt_43 rfl (lv_at hl 1 rfl) ?_
    refine va_get (D := (dC, dI)) (ci := 12) (v := .ref ((mmR 58))) (C := RX12) (T := TX12) (N := 70) hx hb hts hinX12 hown hK hP 0 rfl rfl 58 (by decide) hw2 (fun _ h9 => h9) rfl dX12_talkAt_44 ?_
    refine lv_bipush (v := 8) hx hb dX12_talkAt_47 (by decide) ?_
    refine lv_iload hx hb dX12_talkAt_49 (lv_at hl 0 rfl) ?_
    refine xq_iast hx hb hK hP hD hS 4 0 rfl rfl hf dX12_talkAt_51 (fun g_7 H locs hf hP hD hS => ?_)
    have hP : va_P (dC, dI) vwCl [(a_p0, .inr (12, oX12 mmI mmJ mmR)), ((mmR 51), .inl (cI, 132, .inl mm_talkOfF)), ((mmR 24), .inl (cI, 6, .inl mm_sumFromF)), ((mmR 45), .inl (cI, 22, .inl mm_nightOfF)), ((mmR 58), .inl (cI, 12, .inl g_7)), ((mmR 25), .inl (cI, 6, .inl mm_sumBehindF)), ((mmR 57), .inl (cJ, 500, .inr (.inl mm_stackL))), ((mmR 26), .inl (cI, 3200, .inl mm_codeSortF)), ((mmR 27), .inl (cI, 3200, .inl mm_codeValueF))] H := hP
    have hD : va_D A [(a_p0, .inr (12, oX12 mmI mmJ mmR)), ((mmR 51), .inl (cI, 132, .inl mm_talkOfF)), ((mmR 24), .inl (cI, 6, .inl mm_sumFromF)), ((mmR 45), .inl (cI, 22, .inl mm_nightOfF)), ((mmR 58), .inl (cI, 12, .inl g_7)), ((mmR 25), .inl (cI, 6, .inl mm_sumBehindF)), ((mmR 57), .inl (cJ, 500, .inr (.inl mm_stackL))), ((mmR 26), .inl (cI, 3200, .inl mm_codeSortF)), ((mmR 27), .inl (cI, 3200, .inl mm_codeValueF))] := hD
    refine lv_aload_n hx hb dX12_talkAt_52 rfl (lv_at hl 1 rfl) ?_
    refine lv_iconst (v := 2) hx hb dX12_talkAt_53 (by decide) ?_
    obtain ⟨⟨r_8_0, r_8_1⟩, h_9, hf⟩ := xq_bd_some hf
    refine xq_callV (As := [.int 2]) (rest := []) (ci := 12) (q0 := 0) ⟨hx, hb, hml, hown, hts⟩ (kX12_reckons l dC dI cI cB cJ cZ cM z ad N a_p0 mmI mmJ mmR mm_sumFromF mm_sumBehindF mm_stackL mm_codeSortF g_7 mm_codeValueF 2 h_9) (cwV 1 hts gX12_talkAt_X12_reckons rfl rfl rfl (by decide +kernel) ⟨Nat.le_of_ble_eq_true rfl, Nat.le_of_ble_eq_true rfl⟩) hN hK hP hD hS hA [0, 2, 5, 6, 7, 4, 8] (by decide) rfl rfl rfl rfl rfl rfl hl.1 rfl (Nat.le_of_ble_eq_true rfl) dX12_talkAt_54 ⟨Nat.zero_le _, Nat.zero_le _⟩ (fun H locs hP hD hS => ?_)
    have hP : va_P (dC, dI) vwCl [(a_p0, .inr (12, oX12 mmI mmJ mmR)), ((mmR 51), .inl (cI, 132, .inl mm_talkOfF)), ((mmR 24), .inl (cI, 6, .inl mm_sumFromF)), ((mmR 45), .inl (cI, 22, .inl mm_nightOfF)), ((mmR 58), .inl (cI, 12, .inl g_7)), ((mmR 25), .inl (cI, 6, .inl mm_sumBehindF)), ((mmR 57), .inl (cJ, 500, .inr (.inl r_8_1))), ((mmR 26), .inl (cI, 3200, .inl mm_codeSortF)), ((mmR 27), .inl (cI, 3200, .inl mm_codeValueF))] H := hP
    have hD : va_D A [(a_p0, .inr (12, oX12 mmI mmJ mmR)), ((mmR 51), .inl (cI, 132, .inl mm_talkOfF)), ((mmR 24), .inl (cI, 6, .inl mm_sumFromF)), ((mmR 45), .inl (cI, 22, .inl mm_nightOfF)), ((mmR 58), .inl (cI, 12, .inl g_7)), ((mmR 25), .inl (cI, 6, .inl mm_sumBehindF)), ((mmR 57), .inl (cJ, 500, .inr (.inl r_8_1))), ((mmR 26), .inl (cI, 3200, .inl mm_codeSortF)), ((mmR 27), .inl (cI, 3200, .inl mm_codeValueF))] := hD
    refine W.eq (g2 := F0 m 57 ls [.long r_8_0]) rfl ?_
    refine lv_bipush (v := 20) hx hb dX12_talkAt_57 (by decide) ?_
    obtain ⟨r_10, h_11, hf⟩ := xq_bd_some hf
    refine xq_callS (As := [.long r_8_0, .int 20]) (rest := []) ⟨hx, hb, hml, hown, hts⟩ (kX12_cut l dC dI cI cB cJ cZ cM z ad N r_8_0 20 h_11) (va_cwS 2 hts gX12_talkAt_X12_cut rfl rfl rfl (by decide +kernel) ⟨Nat.le_of_ble_eq_true rfl, Nat.le_of_ble_eq_true rfl⟩) hN hK hP hD hS hA [] (by decide) rfl rfl rfl hl.1 rfl (Nat.le_of_ble_eq_true rfl) dX12_talkAt_59 ⟨Nat.zero_le _, Nat.zero_le _⟩ (fun H locs hP hD hS => ?_)
    have hP : va_P (dC, dI) vwCl [(a_p0, .inr (12, oX12 mmI mmJ mmR)), ((mmR 51), .inl (cI, 132, .inl mm_talkOfF)), ((mmR 24), .inl (cI, 6, .inl mm_sumFromF)), ((mmR 45), .inl (cI, 22, .inl mm_nightOfF)), ((mmR 58), .inl (cI, 12, .inl g_7)), ((mmR 25), .inl (cI, 6, .inl mm_sumBehindF)), ((mmR 57), .inl (cJ, 500, .inr (.inl r_8_1))), ((mmR 26), .inl (cI, 3200, .inl mm_codeSortF)), ((mmR 27), .inl (cI, 3200, .inl mm_codeValueF))] H := hP
    have hD : va_D A [(a_p0, .inr (12, oX12 mmI mmJ mmR)), ((mmR 51), .inl (cI, 132, .inl mm_talkOfF)), ((mmR 24), .inl (cI, 6, .inl mm_sumFromF)), ((mmR 45), .inl (cI, 22, .inl mm_nightOfF)), ((mmR 58), .inl (cI, 12, .inl g_7)), ((mmR 25), .inl (cI, 6, .inl mm_sumBehindF)), ((mmR 57), .inl (cJ, 500, .inr (.inl r_8_1))), ((mmR 26), .inl (cI, 3200, .inl mm_codeSortF)), ((mmR 27), .inl (cI, 3200, .inl mm_codeValueF))] := hD
    refine W.eq (g2 := F0 m 62 ls [.int r_10]) rfl ?_
    have e9 := Option.some.inj hf
    have e9_0 : r_10 = r0 := congrArg (fun t => t.1) e9
    have e9_1 : g_7 = r1 := congrArg (fun t => t.2.1) e9
    have e9_2 : r_8_1 = r2 := congrArg (fun t => t.2.2) e9
    clear e9 hf
    subst e9_0
    subst e9_1
    subst e9_2
    exact xq_iret hx hb hr hlocks hK hP hD hS dX12_talkAt_62
  · have hf := xq_pos hf c_
    refine lv_iload hx hb dX12_talkAt_21 (lv_at hl 0 rfl) ?_
    have e9 := Option.some.inj hf
    have e9_0 : v_1 = r0 := congrArg (fun t => t.1) e9
    have e9_1 : mm_askedF = r1 := congrArg (fun t => t.2.1) e9
    have e9_2 : mm_stackL = r2 := congrArg (fun t => t.2.2) e9
    clear e9 hf
    subst e9_0
    subst e9_1
    subst e9_2
    exact xq_iret hx hb hr hlocks hK hP hD hS dX12_talkAt_23
set_option maxRecDepth 20000 in
theorem ggX12_isHeardIn_X12_isTold : GoodIn wsX12_isHeardIn wsX12_isTold := goodIn_r _ [9, 10, 4, 36, 37, 38, 39, 40, 41, 42, 43, 44, 45, 46, 47, 48, 49, 50, 51, 52, 53, 54, 55, 56, 57, 58, 59, 60, 61, 62, 63, 64, 65, 66, 67, 68, 69, 70, 71, 72, 73, 74, 75, 76, 77, 78, 79, 80, 81, 82, 83, 84, 85, 86, 87, 88, 89, 90, 91, 92, 93, 94, 95, 96, 97, 98, 99, 100, 101, 102, 103, 104, 105] rfl (by decide +kernel)
set_option maxRecDepth 20000 in
theorem gX12_isHeardIn_X12_isTold : GoodIn wsX12_isHeardIn (wsV RX12 413 RX12 yX12_isTold wsX12_isTold) := goodIn_app (goodIn_of _ (by decide +kernel)) ggX12_isHeardIn_X12_isTold
set_option maxRecDepth 20000 in
theorem ggX12_isHeardIn_X12_farOf : GoodIn wsX12_isHeardIn wsX12_farOf := goodIn_r _ [14, 15, 16, 4, 36, 37, 38, 39, 40, 41, 42, 43, 44, 45, 46, 47, 48, 49, 50, 51, 52, 53, 54, 55, 56, 57, 58, 59, 60, 61, 62, 63, 64, 65, 66, 67, 68, 69, 70, 71, 72, 73, 74, 75, 76, 77, 78, 79, 80, 81, 82, 83, 84, 85, 86, 87, 88, 89, 90, 91, 92, 93, 94, 95, 96, 97, 98, 99, 100, 101, 102, 103, 104, 105] rfl (by decide +kernel)
set_option maxRecDepth 20000 in
theorem gX12_isHeardIn_X12_farOf : GoodIn wsX12_isHeardIn (wsV RX12 424 RX12 yX12_farOf wsX12_farOf) := goodIn_app (goodIn_of _ (by decide +kernel)) ggX12_isHeardIn_X12_farOf
set_option maxRecDepth 20000 in
theorem ggX12_isHeardIn_X12_reckons : GoodIn wsX12_isHeardIn wsX12_reckons := goodIn_r _ [20, 4, 10, 21, 22, 23, 24, 1, 25, 26, 8, 27, 28, 29, 30, 31, 32, 33, 34, 35, 36, 37, 38, 39, 40, 41, 42, 43, 44, 45, 46, 47, 48, 49, 50, 51, 52, 53, 54, 55, 56, 57, 58, 59, 60, 61, 62, 63, 64, 65, 66, 67, 68, 69, 70, 71, 72, 73, 74, 75, 76, 77, 78, 79, 80, 81, 82, 83, 84, 85, 86, 87, 88, 89, 90, 91, 92, 93, 94, 95, 96, 97, 98, 99, 100, 101, 102, 103, 104, 105] rfl (by decide +kernel)
set_option maxRecDepth 20000 in
theorem gX12_isHeardIn_X12_reckons : GoodIn wsX12_isHeardIn (wsV RX12 416 RX12 yX12_reckons wsX12_reckons) := goodIn_app (goodIn_of _ (by decide +kernel)) ggX12_isHeardIn_X12_reckons
def dsX12_isHeardIn_0 : List (Nat × Instr × Nat) := [(0, (.aload_n 0, 1)), (1, (.iconst 1, 1)), (2, (.invokevirtual 413, 3)), (5, (.ifCond .ne 19, 3)), (8, (.aload_n 0, 1)), (9, (.iload_n 1, 1)), (10, (.invokevirtual 424, 3)), (13, (.bipush 9, 2)), (15, (.if_icmp .gt 7, 3)), (18, (.iconst 1, 1)), (19, (.goto 4, 3)), (22, (.iconst 0, 1)), (23, (.ireturn, 1)), (24, (.aload_n 0, 1)), (25, (.getfield 189, 3)), (28, (.iconst 1, 1)), (29, (.aload_n 0, 1)), (30, (.getfield 150, 3)), (33, (.iload_n 1, 1)), (34, (.iaload, 1)), (35, (.iastore, 1)), (36, (.aload_n 0, 1)), (37, (.getfield 189, 3)), (40, (.iconst 2, 1)), (41, (.iload 4, 2)), (43, (.iastore, 1)), (44, (.aload_n 0, 1)), (45, (.getfield 189, 3)), (48, (.iconst 5, 1)), (49, (.aload_n 0, 1)), (50, (.getfield 72, 3)), (53, (.bipush 7, 2)), (55, (.aload_n 0, 1)), (56, (.getfield 51, 3)), (59, (.imul, 1)), (60, (.iload_n 2, 1)), (61, (.iadd, 1)), (62, (.iaload, 1)), (63, (.iastore, 1)), (64, (.aload_n 0, 1)), (65, (.getfield 189, 3)), (68, (.bipush 6, 2)), (70, (.iload_n 3, 1)), (71, (.iastore, 1)), (72, (.aload_n 0, 1)), (73, (.getfield 189, 3)), (76, (.bipush 7, 2)), (78, (.aload_n 0, 1)), (79, (.iload_n 1, 1)), (80, (.invokevirtual 424, 3)), (83, (.iastore, 1)), (84, (.aload_n 0, 1)), (85, (.iconst 1, 1)), (86, (.invokevirtual 416, 3)), (89, (.lconst 1, 1)), (90, (.lcmp, 1)), (91, (.ifCond .ne 7, 3)), (94, (.iconst 1, 1)), (95, (.goto 4, 3)), (98, (.iconst 0, 1))]
theorem dsX12_isHeardIn_0_ok : (dsX12_isHeardIn_0.all fun q => decide (decode cX12_isHeardIn q.1 = .ok q.2)) = true := by decide +kernel
theorem dX12_isHeardIn_0 : decode cX12_isHeardIn 0 = .ok (.aload_n 0, 1) := of_decide_eq_true (List.all_eq_true.mp dsX12_isHeardIn_0_ok (0, (.aload_n 0, 1)) (List.mem_of_getElem? (i := 0) rfl))
theorem dX12_isHeardIn_1 : decode cX12_isHeardIn 1 = .ok (.iconst 1, 1) := of_decide_eq_true (List.all_eq_true.mp dsX12_isHeardIn_0_ok (1, (.iconst 1, 1)) (List.mem_of_getElem? (i := 1) rfl))
theorem dX12_isHeardIn_2 : decode cX12_isHeardIn 2 = .ok (.invokevirtual 413, 3) := of_decide_eq_true (List.all_eq_true.mp dsX12_isHeardIn_0_ok (2, (.invokevirtual 413, 3)) (List.mem_of_getElem? (i := 2) rfl))
theorem dX12_isHeardIn_5 : decode cX12_isHeardIn 5 = .ok (.ifCond .ne 19, 3) := of_decide_eq_true (List.all_eq_true.mp dsX12_isHeardIn_0_ok (5, (.ifCond .ne 19, 3)) (List.mem_of_getElem? (i := 3) rfl))
theorem dX12_isHeardIn_8 : decode cX12_isHeardIn 8 = .ok (.aload_n 0, 1) := of_decide_eq_true (List.all_eq_true.mp dsX12_isHeardIn_0_ok (8, (.aload_n 0, 1)) (List.mem_of_getElem? (i := 4) rfl))
theorem dX12_isHeardIn_9 : decode cX12_isHeardIn 9 = .ok (.iload_n 1, 1) := of_decide_eq_true (List.all_eq_true.mp dsX12_isHeardIn_0_ok (9, (.iload_n 1, 1)) (List.mem_of_getElem? (i := 5) rfl))
theorem dX12_isHeardIn_10 : decode cX12_isHeardIn 10 = .ok (.invokevirtual 424, 3) := of_decide_eq_true (List.all_eq_true.mp dsX12_isHeardIn_0_ok (10, (.invokevirtual 424, 3)) (List.mem_of_getElem? (i := 6) rfl))
theorem dX12_isHeardIn_13 : decode cX12_isHeardIn 13 = .ok (.bipush 9, 2) := of_decide_eq_true (List.all_eq_true.mp dsX12_isHeardIn_0_ok (13, (.bipush 9, 2)) (List.mem_of_getElem? (i := 7) rfl))
theorem dX12_isHeardIn_15 : decode cX12_isHeardIn 15 = .ok (.if_icmp .gt 7, 3) := of_decide_eq_true (List.all_eq_true.mp dsX12_isHeardIn_0_ok (15, (.if_icmp .gt 7, 3)) (List.mem_of_getElem? (i := 8) rfl))
theorem dX12_isHeardIn_18 : decode cX12_isHeardIn 18 = .ok (.iconst 1, 1) := of_decide_eq_true (List.all_eq_true.mp dsX12_isHeardIn_0_ok (18, (.iconst 1, 1)) (List.mem_of_getElem? (i := 9) rfl))
theorem dX12_isHeardIn_19 : decode cX12_isHeardIn 19 = .ok (.goto 4, 3) := of_decide_eq_true (List.all_eq_true.mp dsX12_isHeardIn_0_ok (19, (.goto 4, 3)) (List.mem_of_getElem? (i := 10) rfl))
theorem dX12_isHeardIn_22 : decode cX12_isHeardIn 22 = .ok (.iconst 0, 1) := of_decide_eq_true (List.all_eq_true.mp dsX12_isHeardIn_0_ok (22, (.iconst 0, 1)) (List.mem_of_getElem? (i := 11) rfl))
theorem dX12_isHeardIn_23 : decode cX12_isHeardIn 23 = .ok (.ireturn, 1) := of_decide_eq_true (List.all_eq_true.mp dsX12_isHeardIn_0_ok (23, (.ireturn, 1)) (List.mem_of_getElem? (i := 12) rfl))
theorem dX12_isHeardIn_24 : decode cX12_isHeardIn 24 = .ok (.aload_n 0, 1) := of_decide_eq_true (List.all_eq_true.mp dsX12_isHeardIn_0_ok (24, (.aload_n 0, 1)) (List.mem_of_getElem? (i := 13) rfl))
theorem dX12_isHeardIn_25 : decode cX12_isHeardIn 25 = .ok (.getfield 189, 3) := of_decide_eq_true (List.all_eq_true.mp dsX12_isHeardIn_0_ok (25, (.getfield 189, 3)) (List.mem_of_getElem? (i := 14) rfl))
theorem dX12_isHeardIn_28 : decode cX12_isHeardIn 28 = .ok (.iconst 1, 1) := of_decide_eq_true (List.all_eq_true.mp dsX12_isHeardIn_0_ok (28, (.iconst 1, 1)) (List.mem_of_getElem? (i := 15) rfl))
theorem dX12_isHeardIn_29 : decode cX12_isHeardIn 29 = .ok (.aload_n 0, 1) := of_decide_eq_true (List.all_eq_true.mp dsX12_isHeardIn_0_ok (29, (.aload_n 0, 1)) (List.mem_of_getElem? (i := 16) rfl))
theorem dX12_isHeardIn_30 : decode cX12_isHeardIn 30 = .ok (.getfield 150, 3) := of_decide_eq_true (List.all_eq_true.mp dsX12_isHeardIn_0_ok (30, (.getfield 150, 3)) (List.mem_of_getElem? (i := 17) rfl))
theorem dX12_isHeardIn_33 : decode cX12_isHeardIn 33 = .ok (.iload_n 1, 1) := of_decide_eq_true (List.all_eq_true.mp dsX12_isHeardIn_0_ok (33, (.iload_n 1, 1)) (List.mem_of_getElem? (i := 18) rfl))
theorem dX12_isHeardIn_34 : decode cX12_isHeardIn 34 = .ok (.iaload, 1) := of_decide_eq_true (List.all_eq_true.mp dsX12_isHeardIn_0_ok (34, (.iaload, 1)) (List.mem_of_getElem? (i := 19) rfl))
theorem dX12_isHeardIn_35 : decode cX12_isHeardIn 35 = .ok (.iastore, 1) := of_decide_eq_true (List.all_eq_true.mp dsX12_isHeardIn_0_ok (35, (.iastore, 1)) (List.mem_of_getElem? (i := 20) rfl))
theorem dX12_isHeardIn_36 : decode cX12_isHeardIn 36 = .ok (.aload_n 0, 1) := of_decide_eq_true (List.all_eq_true.mp dsX12_isHeardIn_0_ok (36, (.aload_n 0, 1)) (List.mem_of_getElem? (i := 21) rfl))
theorem dX12_isHeardIn_37 : decode cX12_isHeardIn 37 = .ok (.getfield 189, 3) := of_decide_eq_true (List.all_eq_true.mp dsX12_isHeardIn_0_ok (37, (.getfield 189, 3)) (List.mem_of_getElem? (i := 22) rfl))
theorem dX12_isHeardIn_40 : decode cX12_isHeardIn 40 = .ok (.iconst 2, 1) := of_decide_eq_true (List.all_eq_true.mp dsX12_isHeardIn_0_ok (40, (.iconst 2, 1)) (List.mem_of_getElem? (i := 23) rfl))
theorem dX12_isHeardIn_41 : decode cX12_isHeardIn 41 = .ok (.iload 4, 2) := of_decide_eq_true (List.all_eq_true.mp dsX12_isHeardIn_0_ok (41, (.iload 4, 2)) (List.mem_of_getElem? (i := 24) rfl))
theorem dX12_isHeardIn_43 : decode cX12_isHeardIn 43 = .ok (.iastore, 1) := of_decide_eq_true (List.all_eq_true.mp dsX12_isHeardIn_0_ok (43, (.iastore, 1)) (List.mem_of_getElem? (i := 25) rfl))
theorem dX12_isHeardIn_44 : decode cX12_isHeardIn 44 = .ok (.aload_n 0, 1) := of_decide_eq_true (List.all_eq_true.mp dsX12_isHeardIn_0_ok (44, (.aload_n 0, 1)) (List.mem_of_getElem? (i := 26) rfl))
theorem dX12_isHeardIn_45 : decode cX12_isHeardIn 45 = .ok (.getfield 189, 3) := of_decide_eq_true (List.all_eq_true.mp dsX12_isHeardIn_0_ok (45, (.getfield 189, 3)) (List.mem_of_getElem? (i := 27) rfl))
theorem dX12_isHeardIn_48 : decode cX12_isHeardIn 48 = .ok (.iconst 5, 1) := of_decide_eq_true (List.all_eq_true.mp dsX12_isHeardIn_0_ok (48, (.iconst 5, 1)) (List.mem_of_getElem? (i := 28) rfl))
theorem dX12_isHeardIn_49 : decode cX12_isHeardIn 49 = .ok (.aload_n 0, 1) := of_decide_eq_true (List.all_eq_true.mp dsX12_isHeardIn_0_ok (49, (.aload_n 0, 1)) (List.mem_of_getElem? (i := 29) rfl))
theorem dX12_isHeardIn_50 : decode cX12_isHeardIn 50 = .ok (.getfield 72, 3) := of_decide_eq_true (List.all_eq_true.mp dsX12_isHeardIn_0_ok (50, (.getfield 72, 3)) (List.mem_of_getElem? (i := 30) rfl))
theorem dX12_isHeardIn_53 : decode cX12_isHeardIn 53 = .ok (.bipush 7, 2) := of_decide_eq_true (List.all_eq_true.mp dsX12_isHeardIn_0_ok (53, (.bipush 7, 2)) (List.mem_of_getElem? (i := 31) rfl))
theorem dX12_isHeardIn_55 : decode cX12_isHeardIn 55 = .ok (.aload_n 0, 1) := of_decide_eq_true (List.all_eq_true.mp dsX12_isHeardIn_0_ok (55, (.aload_n 0, 1)) (List.mem_of_getElem? (i := 32) rfl))
theorem dX12_isHeardIn_56 : decode cX12_isHeardIn 56 = .ok (.getfield 51, 3) := of_decide_eq_true (List.all_eq_true.mp dsX12_isHeardIn_0_ok (56, (.getfield 51, 3)) (List.mem_of_getElem? (i := 33) rfl))
theorem dX12_isHeardIn_59 : decode cX12_isHeardIn 59 = .ok (.imul, 1) := of_decide_eq_true (List.all_eq_true.mp dsX12_isHeardIn_0_ok (59, (.imul, 1)) (List.mem_of_getElem? (i := 34) rfl))
theorem dX12_isHeardIn_60 : decode cX12_isHeardIn 60 = .ok (.iload_n 2, 1) := of_decide_eq_true (List.all_eq_true.mp dsX12_isHeardIn_0_ok (60, (.iload_n 2, 1)) (List.mem_of_getElem? (i := 35) rfl))
theorem dX12_isHeardIn_61 : decode cX12_isHeardIn 61 = .ok (.iadd, 1) := of_decide_eq_true (List.all_eq_true.mp dsX12_isHeardIn_0_ok (61, (.iadd, 1)) (List.mem_of_getElem? (i := 36) rfl))
theorem dX12_isHeardIn_62 : decode cX12_isHeardIn 62 = .ok (.iaload, 1) := of_decide_eq_true (List.all_eq_true.mp dsX12_isHeardIn_0_ok (62, (.iaload, 1)) (List.mem_of_getElem? (i := 37) rfl))
theorem dX12_isHeardIn_63 : decode cX12_isHeardIn 63 = .ok (.iastore, 1) := of_decide_eq_true (List.all_eq_true.mp dsX12_isHeardIn_0_ok (63, (.iastore, 1)) (List.mem_of_getElem? (i := 38) rfl))
theorem dX12_isHeardIn_64 : decode cX12_isHeardIn 64 = .ok (.aload_n 0, 1) := of_decide_eq_true (List.all_eq_true.mp dsX12_isHeardIn_0_ok (64, (.aload_n 0, 1)) (List.mem_of_getElem? (i := 39) rfl))
theorem dX12_isHeardIn_65 : decode cX12_isHeardIn 65 = .ok (.getfield 189, 3) := of_decide_eq_true (List.all_eq_true.mp dsX12_isHeardIn_0_ok (65, (.getfield 189, 3)) (List.mem_of_getElem? (i := 40) rfl))
theorem dX12_isHeardIn_68 : decode cX12_isHeardIn 68 = .ok (.bipush 6, 2) := of_decide_eq_true (List.all_eq_true.mp dsX12_isHeardIn_0_ok (68, (.bipush 6, 2)) (List.mem_of_getElem? (i := 41) rfl))
theorem dX12_isHeardIn_70 : decode cX12_isHeardIn 70 = .ok (.iload_n 3, 1) := of_decide_eq_true (List.all_eq_true.mp dsX12_isHeardIn_0_ok (70, (.iload_n 3, 1)) (List.mem_of_getElem? (i := 42) rfl))
theorem dX12_isHeardIn_71 : decode cX12_isHeardIn 71 = .ok (.iastore, 1) := of_decide_eq_true (List.all_eq_true.mp dsX12_isHeardIn_0_ok (71, (.iastore, 1)) (List.mem_of_getElem? (i := 43) rfl))
theorem dX12_isHeardIn_72 : decode cX12_isHeardIn 72 = .ok (.aload_n 0, 1) := of_decide_eq_true (List.all_eq_true.mp dsX12_isHeardIn_0_ok (72, (.aload_n 0, 1)) (List.mem_of_getElem? (i := 44) rfl))
theorem dX12_isHeardIn_73 : decode cX12_isHeardIn 73 = .ok (.getfield 189, 3) := of_decide_eq_true (List.all_eq_true.mp dsX12_isHeardIn_0_ok (73, (.getfield 189, 3)) (List.mem_of_getElem? (i := 45) rfl))
theorem dX12_isHeardIn_76 : decode cX12_isHeardIn 76 = .ok (.bipush 7, 2) := of_decide_eq_true (List.all_eq_true.mp dsX12_isHeardIn_0_ok (76, (.bipush 7, 2)) (List.mem_of_getElem? (i := 46) rfl))
theorem dX12_isHeardIn_78 : decode cX12_isHeardIn 78 = .ok (.aload_n 0, 1) := of_decide_eq_true (List.all_eq_true.mp dsX12_isHeardIn_0_ok (78, (.aload_n 0, 1)) (List.mem_of_getElem? (i := 47) rfl))
theorem dX12_isHeardIn_79 : decode cX12_isHeardIn 79 = .ok (.iload_n 1, 1) := of_decide_eq_true (List.all_eq_true.mp dsX12_isHeardIn_0_ok (79, (.iload_n 1, 1)) (List.mem_of_getElem? (i := 48) rfl))
theorem dX12_isHeardIn_80 : decode cX12_isHeardIn 80 = .ok (.invokevirtual 424, 3) := of_decide_eq_true (List.all_eq_true.mp dsX12_isHeardIn_0_ok (80, (.invokevirtual 424, 3)) (List.mem_of_getElem? (i := 49) rfl))
theorem dX12_isHeardIn_83 : decode cX12_isHeardIn 83 = .ok (.iastore, 1) := of_decide_eq_true (List.all_eq_true.mp dsX12_isHeardIn_0_ok (83, (.iastore, 1)) (List.mem_of_getElem? (i := 50) rfl))
theorem dX12_isHeardIn_84 : decode cX12_isHeardIn 84 = .ok (.aload_n 0, 1) := of_decide_eq_true (List.all_eq_true.mp dsX12_isHeardIn_0_ok (84, (.aload_n 0, 1)) (List.mem_of_getElem? (i := 51) rfl))
theorem dX12_isHeardIn_85 : decode cX12_isHeardIn 85 = .ok (.iconst 1, 1) := of_decide_eq_true (List.all_eq_true.mp dsX12_isHeardIn_0_ok (85, (.iconst 1, 1)) (List.mem_of_getElem? (i := 52) rfl))
theorem dX12_isHeardIn_86 : decode cX12_isHeardIn 86 = .ok (.invokevirtual 416, 3) := of_decide_eq_true (List.all_eq_true.mp dsX12_isHeardIn_0_ok (86, (.invokevirtual 416, 3)) (List.mem_of_getElem? (i := 53) rfl))
theorem dX12_isHeardIn_89 : decode cX12_isHeardIn 89 = .ok (.lconst 1, 1) := of_decide_eq_true (List.all_eq_true.mp dsX12_isHeardIn_0_ok (89, (.lconst 1, 1)) (List.mem_of_getElem? (i := 54) rfl))
theorem dX12_isHeardIn_90 : decode cX12_isHeardIn 90 = .ok (.lcmp, 1) := of_decide_eq_true (List.all_eq_true.mp dsX12_isHeardIn_0_ok (90, (.lcmp, 1)) (List.mem_of_getElem? (i := 55) rfl))
theorem dX12_isHeardIn_91 : decode cX12_isHeardIn 91 = .ok (.ifCond .ne 7, 3) := of_decide_eq_true (List.all_eq_true.mp dsX12_isHeardIn_0_ok (91, (.ifCond .ne 7, 3)) (List.mem_of_getElem? (i := 56) rfl))
theorem dX12_isHeardIn_94 : decode cX12_isHeardIn 94 = .ok (.iconst 1, 1) := of_decide_eq_true (List.all_eq_true.mp dsX12_isHeardIn_0_ok (94, (.iconst 1, 1)) (List.mem_of_getElem? (i := 57) rfl))
theorem dX12_isHeardIn_95 : decode cX12_isHeardIn 95 = .ok (.goto 4, 3) := of_decide_eq_true (List.all_eq_true.mp dsX12_isHeardIn_0_ok (95, (.goto 4, 3)) (List.mem_of_getElem? (i := 58) rfl))
theorem dX12_isHeardIn_98 : decode cX12_isHeardIn 98 = .ok (.iconst 0, 1) := of_decide_eq_true (List.all_eq_true.mp dsX12_isHeardIn_0_ok (98, (.iconst 0, 1)) (List.mem_of_getElem? (i := 59) rfl))
def dsX12_isHeardIn_1 : List (Nat × Instr × Nat) := [(99, (.ireturn, 1))]
theorem dsX12_isHeardIn_1_ok : (dsX12_isHeardIn_1.all fun q => decide (decode cX12_isHeardIn q.1 = .ok q.2)) = true := by decide +kernel
theorem dX12_isHeardIn_99 : decode cX12_isHeardIn 99 = .ok (.ireturn, 1) := of_decide_eq_true (List.all_eq_true.mp dsX12_isHeardIn_1_ok (99, (.ireturn, 1)) (List.mem_of_getElem? (i := 0) rfl))
def fX12_isHeardIn (N : Nat) (mmI : Nat → Int32) (mm_sumFromF : Nat → Int32) (mm_nightOfF : Nat → Int32) (mm_askedF : Nat → Int32) (mm_sharpOfF : Nat → Int32) (mm_mileOfF : Nat → Int32) (mm_milesToldF : Nat → Int32) (mm_sumBehindF : Nat → Int32) (mm_stackL : Nat → Int64) (mm_codeSortF : Nat → Int32) (mm_codeValueF : Nat → Int32)  (p1 : Int32) (p2 : Int32) (p3 : Int32) (p4 : Int32) : Option (Int32 × (Nat → Int32) × (Nat → Int64)) :=
  (xq_bd (fX12_isTold N mmI mm_sumFromF 1) fun r_1 => (if r_1 = 0 then (xq_bd (fX12_farOf N mmI mm_mileOfF mm_milesToldF p1) fun r_14 => (if 9 < r_14 then some ((0, mm_askedF, mm_stackL)) else some ((1, mm_askedF, mm_stackL)))) else (xq_bd (xq_ald 22 mm_nightOfF p1) fun v_3 => (xq_bd (xq_ast 12 mm_askedF 1 v_3) fun g_4 => (xq_bd (xq_ast 12 g_4 2 p4) fun g_5 => (xq_bd (xq_ald 14 mm_sharpOfF ((7 * (mmI 13)) + p2)) fun v_6 => (xq_bd (xq_ast 12 g_5 5 v_6) fun g_7 => (xq_bd (xq_ast 12 g_7 6 p3) fun g_8 => (xq_bd (fX12_farOf N mmI mm_mileOfF mm_milesToldF p1) fun r_9 => (xq_bd (xq_ast 12 g_8 7 r_9) fun g_11 => (xq_bd (fX12_reckons N mmI mm_sumFromF mm_sumBehindF mm_stackL mm_codeSortF g_11 mm_codeValueF 1) fun (r_12_0, r_12_1) => (if (lg_cmp r_12_0 1) = 0 then some ((1, g_11, r_12_1)) else some ((0, g_11, r_12_1))))))))))))))
set_option maxHeartbeats 4000000 in
set_option maxRecDepth 100000 in
theorem kX12_isHeardIn (l : Launch) (dC : Nat → ClassId) (dI : Nat → Nat → Nat) (cI cB cJ cZ cM : ClassId) (z : Nat) (ad : Nat → Nat) (N : Nat) (a_p0 : Nat) (mmI : Nat → Int32) (mmJ : Nat → Int64) (mmR : Nat → Nat) (mm_sumFromF : Nat → Int32) (mm_nightOfF : Nat → Int32) (mm_askedF : Nat → Int32) (mm_sharpOfF : Nat → Int32) (mm_mileOfF : Nat → Int32) (mm_milesToldF : Nat → Int32) (mm_sumBehindF : Nat → Int32) (mm_stackL : Nat → Int64) (mm_codeSortF : Nat → Int32) (mm_codeValueF : Nat → Int32) (p1 : Int32) (p2 : Int32) (p3 : Int32) (p4 : Int32) {r0 : Int32} {r1 : Nat → Int32} {r2 : Nat → Int64} (hf : fX12_isHeardIn N mmI mm_sumFromF mm_nightOfF mm_askedF mm_sharpOfF mm_mileOfF mm_milesToldF mm_sumBehindF mm_stackL mm_codeSortF mm_codeValueF p1 p2 p3 p4 = some (r0, r1, r2)) : xq_Ct l yX12_isHeardIn wsX12_isHeardIn { frames := 3, cells := 0, slots := 0, locals := 73 } (dC, dI) vwCl (xq_tys cI cB cJ cZ cM) z ad [.ref a_p0, .int p1, .int p2, .int p3, .int p4] [(a_p0, .inr (12, oX12 mmI mmJ mmR)), ((mmR 24), .inl (cI, 6, .inl mm_sumFromF)), ((mmR 45), .inl (cI, 22, .inl mm_nightOfF)), ((mmR 58), .inl (cI, 12, .inl mm_askedF)), ((mmR 20), .inl (cI, 14, .inl mm_sharpOfF)), ((mmR 46), .inl (cI, 22, .inl mm_mileOfF)), ((mmR 14), .inl (cI, 2, .inl mm_milesToldF)), ((mmR 25), .inl (cI, 6, .inl mm_sumBehindF)), ((mmR 57), .inl (cJ, 500, .inr (.inl mm_stackL))), ((mmR 26), .inl (cI, 3200, .inl mm_codeSortF)), ((mmR 27), .inl (cI, 3200, .inl mm_codeValueF))] [(a_p0, .inr (12, oX12 mmI mmJ mmR)), ((mmR 24), .inl (cI, 6, .inl mm_sumFromF)), ((mmR 45), .inl (cI, 22, .inl mm_nightOfF)), ((mmR 58), .inl (cI, 12, .inl r1)), ((mmR 20), .inl (cI, 14, .inl mm_sharpOfF)), ((mmR 46), .inl (cI, 22, .inl mm_mileOfF)), ((mmR 14), .inl (cI, 2, .inl mm_milesToldF)), ((mmR 25), .inl (cI, 6, .inl mm_sumBehindF)), ((mmR 57), .inl (cJ, 500, .inr (.inl r2))), ((mmR 26), .inl (cI, 3200, .inl mm_codeSortF)), ((mmR 27), .inl (cI, 3200, .inl mm_codeValueF))] (some (.int r0)) := by
  intro sz
  refine Met.ofW (cc := cX12_isHeardIn) (maxL := 5) (ret := (some .boolean)) (by decide) rfl ?_
  intro p e s m args below meth c s₁ B hml hv
  obtain ⟨rfl, hsz, hP, hK, hD0, hE, hz⟩ := hv
  have hx := B.exec
  have hb := B.bytes
  have hr := B.returns
  have hts := atoms_spec (ws := wsX12_isHeardIn) B.pre
  have hown : s.vm.findClass RX12 = some m.cls := findClass_of_methodNamed B.named
  have hlocks := B.notSynchronized
  subst hsz
  have hD := hD0.self (sz := s.heap.size)
  have hN := xq_Env.of hE hz hD0
  generalize hAe : va_A [(a_p0, .inr (12, oX12 mmI mmJ mmR)), ((mmR 24), .inl (cI, 6, .inl mm_sumFromF)), ((mmR 45), .inl (cI, 22, .inl mm_nightOfF)), ((mmR 58), .inl (cI, 12, .inl mm_askedF)), ((mmR 20), .inl (cI, 14, .inl mm_sharpOfF)), ((mmR 46), .inl (cI, 22, .inl mm_mileOfF)), ((mmR 14), .inl (cI, 2, .inl mm_milesToldF)), ((mmR 25), .inl (cI, 6, .inl mm_sumBehindF)), ((mmR 57), .inl (cJ, 500, .inr (.inl mm_stackL))), ((mmR 26), .inl (cI, 3200, .inl mm_codeSortF)), ((mmR 27), .inl (cI, 3200, .inl mm_codeValueF))] s.heap.size = A at hD hN ⊢
  have hA : ∀ q : Nat, s.heap.size ≤ q → A q := fun q h => by rw [← hAe]; exact Or.inr h
  clear hAe hD0
  have hS : va_S A s.heap s.heap [] := va_S.rf
  have hl := lv_entry ([.ref a_p0, .int p1, .int p2, .int p3, .int p4]) (n := 5) (Nat.le_of_ble_eq_true rfl)
  rw [lg_entry_eq]
  generalize (lg_sl ([.ref a_p0, .int p1, .int p2, .int p3, .int p4]) ++ List.replicate (5 - (lg_sl ([.ref a_p0, .int p1, .int p2, .int p3, .int p4])).length) Slot.unset).toArray = ls at hl ⊢
  have hl : lv_has ls 5 [(0, .ref a_p0), (1, .int p1), (2, .int p2), (3, .int p3), (4, .int p4)] := hl
  have hw0 := hts (.fieldLink RX12 189 "DistantVoiceModel" "asked" "[I") (by decide +kernel)
  have hinX12 : ∀ w ∈ wsX120, w ∈ wsX12_isHeardIn := fun w h => List.mem_cons_of_mem _ (List.mem_append_right _ h)
  have hw2 := hts (.fieldLink RX12 150 "DistantVoiceModel" "nightOf" "[I") (by decide +kernel)
  have hw3 := hts (.fieldLink RX12 72 "DistantVoiceModel" "sharpOf" "[I") (by decide +kernel)
  have hw4 := hts (.fieldLink RX12 51 "DistantVoiceModel" "bank" "I") (by decide +kernel)
  unfold fX12_isHeardIn at hf
  refine lv_aload_n hx hb dX12_isHeardIn_0 rfl (lv_at hl 0 rfl) ?_
  refine lv_iconst (v := 1) hx hb dX12_isHeardIn_1 (by decide) ?_
  obtain ⟨r_1, h_2, hf⟩ := xq_bd_some hf
  refine xq_callV (As := [.int 1]) (rest := []) (ci := 12) (q0 := 0) ⟨hx, hb, hml, hown, hts⟩ (kX12_isTold l dC dI cI cB cJ cZ cM z ad N a_p0 mmI mmJ mmR mm_sumFromF 1 h_2) (cwV 1 hts gX12_isHeardIn_X12_isTold rfl rfl rfl (by decide +kernel) ⟨Nat.le_of_ble_eq_true rfl, Nat.le_of_ble_eq_true rfl⟩) hN hK hP hD hS hA [0, 1] (by decide) rfl rfl rfl rfl rfl rfl hl.1 rfl (Nat.le_of_ble_eq_true rfl) dX12_isHeardIn_2 ⟨Nat.zero_le _, Nat.zero_le _⟩ (fun H locs hP hD hS => ?_)
  have hP : va_P (dC, dI) vwCl [(a_p0, .inr (12, oX12 mmI mmJ mmR)), ((mmR 24), .inl (cI, 6, .inl mm_sumFromF)), ((mmR 45), .inl (cI, 22, .inl mm_nightOfF)), ((mmR 58), .inl (cI, 12, .inl mm_askedF)), ((mmR 20), .inl (cI, 14, .inl mm_sharpOfF)), ((mmR 46), .inl (cI, 22, .inl mm_mileOfF)), ((mmR 14), .inl (cI, 2, .inl mm_milesToldF)), ((mmR 25), .inl (cI, 6, .inl mm_sumBehindF)), ((mmR 57), .inl (cJ, 500, .inr (.inl mm_stackL))), ((mmR 26), .inl (cI, 3200, .inl mm_codeSortF)), ((mmR 27), .inl (cI, 3200, .inl mm_codeValueF))] H := hP
  have hD : va_D A [(a_p0, .inr (12, oX12 mmI mmJ mmR)), ((mmR 24), .inl (cI, 6, .inl mm_sumFromF)), ((mmR 45), .inl (cI, 22, .inl mm_nightOfF)), ((mmR 58), .inl (cI, 12, .inl mm_askedF)), ((mmR 20), .inl (cI, 14, .inl mm_sharpOfF)), ((mmR 46), .inl (cI, 22, .inl mm_mileOfF)), ((mmR 14), .inl (cI, 2, .inl mm_milesToldF)), ((mmR 25), .inl (cI, 6, .inl mm_sumBehindF)), ((mmR 57), .inl (cJ, 500, .inr (.inl mm_stackL))), ((mmR 26), .inl (cI, 3200, .inl mm_codeSortF)), ((mmR 27), .inl (cI, 3200, .inl mm_codeValueF))] := hD
  refine W.eq (g2 := F0 m 5 ls [.int r_1]) rfl ?_
  refine lv_if_ne (tgt := 24) hx hb dX12_isHeardIn_5 (by decide) (fun c_ => ?_) (fun c_ => ?_)
  · have hf := xq_neg hf c_
    refine lv_aload_n hx hb dX12_isHeardIn_24 rfl (lv_at hl 0 rfl) ?_
    refine va_get (D := (dC, dI)) (ci := 12) (v := .ref ((mmR 58))) (C := RX12) (T := TX12) (N := 70) hx hb hts hinX12 hown hK hP 0 rfl rfl 58 (by decide) hw0 (fun _ h9 => h9) rfl dX12_isHeardIn_25 ?_
    refine lv_iconst (v := 1) hx hb dX12_isHeardIn_28 (by decide) ?_
    refine lv_aload_n hx hb dX12_isHeardIn_29 rfl (lv_at hl 0 rfl) ?_
    refine va_get (D := (dC, dI)) (ci := 12) (v := .ref ((mmR 45))) (C := RX12) (T := TX12) (N := 70) hx hb hts hinX12 hown hK hP 0 rfl rfl 45 (by decide) hw2 (fun _ h9 => h9) rfl dX12_isHeardIn_30 ?_
    refine lv_iload_n hx hb dX12_isHeardIn_33 rfl (lv_at hl 1 rfl) ?_
    refine xq_iald hx hb hK hP 2 0 rfl rfl hf dX12_isHeardIn_34 (fun v_3 hf => ?_)
    refine xq_iast hx hb hK hP hD hS 3 0 rfl rfl hf dX12_isHeardIn_35 (fun g_4 H locs hf hP hD hS => ?_)
    have hP : va_P (dC, dI) vwCl [(a_p0, .inr (12, oX12 mmI mmJ mmR)), ((mmR 24), .inl (cI, 6, .inl mm_sumFromF)), ((mmR 45), .inl (cI, 22, .inl mm_nightOfF)), ((mmR 58), .inl (cI, 12, .inl g_4)), ((mmR 20), .inl (cI, 14, .inl mm_sharpOfF)), ((mmR 46), .inl (cI, 22, .inl mm_mileOfF)), ((mmR 14), .inl (cI, 2, .inl mm_milesToldF)), ((mmR 25), .inl (cI, 6, .inl mm_sumBehindF)), ((mmR 57), .inl (cJ, 500, .inr (.inl mm_stackL))), ((mmR 26), .inl (cI, 3200, .inl mm_codeSortF)), ((mmR 27), .inl (cI, 3200, .inl mm_codeValueF))] H := hP
    have hD : va_D A [(a_p0, .inr (12, oX12 mmI mmJ mmR)), ((mmR 24), .inl (cI, 6, .inl mm_sumFromF)), ((mmR 45), .inl (cI, 22, .inl mm_nightOfF)), ((mmR 58), .inl (cI, 12, .inl g_4)), ((mmR 20), .inl (cI, 14, .inl mm_sharpOfF)), ((mmR 46), .inl (cI, 22, .inl mm_mileOfF)), ((mmR 14), .inl (cI, 2, .inl mm_milesToldF)), ((mmR 25), .inl (cI, 6, .inl mm_sumBehindF)), ((mmR 57), .inl (cJ, 500, .inr (.inl mm_stackL))), ((mmR 26), .inl (cI, 3200, .inl mm_codeSortF)), ((mmR 27), .inl (cI, 3200, .inl mm_codeValueF))] := hD
    refine lv_aload_n hx hb dX12_isHeardIn_36 rfl (lv_at hl 0 rfl) ?_
    refine va_get (D := (dC, dI)) (ci := 12) (v := .ref ((mmR 58))) (C := RX12) (T := TX12) (N := 70) hx hb hts hinX12 hown hK hP 0 rfl rfl 58 (by decide) hw0 (fun _ h9 => h9) rfl dX12_isHeardIn_37 ?_
    refine lv_iconst (v := 2) hx hb dX12_isHeardIn_40 (by decide) ?_
    refine lv_iload hx hb dX12_isHeardIn_41 (lv_at hl 4 rfl) ?_
    refine xq_iast hx hb hK hP hD hS 3 0 rfl rfl hf dX12_isHeardIn_43 (fun g_5 H locs hf hP hD hS => ?_)
    have hP : va_P (dC, dI) vwCl [(a_p0, .inr (12, oX12 mmI mmJ mmR)), ((mmR 24), .inl (cI, 6, .inl mm_sumFromF)), ((mmR 45), .inl (cI, 22, .inl mm_nightOfF)), ((mmR 58), .inl (cI, 12, .inl g_5)), ((mmR 20), .inl (cI, 14, .inl mm_sharpOfF)), ((mmR 46), .inl (cI, 22, .inl mm_mileOfF)), ((mmR 14), .inl (cI, 2, .inl mm_milesToldF)), ((mmR 25), .inl (cI, 6, .inl mm_sumBehindF)), ((mmR 57), .inl (cJ, 500, .inr (.inl mm_stackL))), ((mmR 26), .inl (cI, 3200, .inl mm_codeSortF)), ((mmR 27), .inl (cI, 3200, .inl mm_codeValueF))] H := hP
    have hD : va_D A [(a_p0, .inr (12, oX12 mmI mmJ mmR)), ((mmR 24), .inl (cI, 6, .inl mm_sumFromF)), ((mmR 45), .inl (cI, 22, .inl mm_nightOfF)), ((mmR 58), .inl (cI, 12, .inl g_5)), ((mmR 20), .inl (cI, 14, .inl mm_sharpOfF)), ((mmR 46), .inl (cI, 22, .inl mm_mileOfF)), ((mmR 14), .inl (cI, 2, .inl mm_milesToldF)), ((mmR 25), .inl (cI, 6, .inl mm_sumBehindF)), ((mmR 57), .inl (cJ, 500, .inr (.inl mm_stackL))), ((mmR 26), .inl (cI, 3200, .inl mm_codeSortF)), ((mmR 27), .inl (cI, 3200, .inl mm_codeValueF))] := hD
    refine lv_aload_n hx hb dX12_isHeardIn_44 rfl (lv_at hl 0 rfl) ?_
    refine va_get (D := (dC, dI)) (ci := 12) (v := .ref ((mmR 58))) (C := RX12) (T := TX12) (N := 70) hx hb hts hinX12 hown hK hP 0 rfl rfl 58 (by decide) hw0 (fun _ h9 => h9) rfl dX12_isHeardIn_45 ?_
    refine lv_iconst (v := 5) hx hb dX12_isHeardIn_48 (by decide) ?_
    refine lv_aload_n hx hb dX12_isHeardIn_49 rfl (lv_at hl 0 rfl) ?_
    refine va_get (D := (dC, dI)) (ci := 12) (v := .ref ((mmR 20))) (C := RX12) (T := TX12) (N := 70) hx hb hts hinX12 hown hK hP 0 rfl rfl 20 (by decide) hw3 (fun _ h9 => h9) rfl dX12_isHeardIn_50 ?_
    refine lv_bipush (v := 7) hx hb dX12_isHeardIn_53 (by decide) ?_
    refine lv_aload_n hx hb dX12_isHeardIn_55 rfl (lv_at hl 0 rfl) ?_
    refine va_get (D := (dC, dI)) (ci := 12) (v := .int (mmI 13)) (C := RX12) (T := TX12) (N := 70) hx hb hts hinX12 hown hK hP 0 rfl rfl 13 (by decide) hw4 (fun _ h9 => h9) rfl dX12_isHeardIn_56 ?_
    refine lv_imul hx hb dX12_isHeardIn_59 ?_
    refine lv_iload_n hx hb dX12_isHeardIn_60 rfl (lv_at hl 2 rfl) ?_
    refine lv_iadd hx hb dX12_isHeardIn_61 ?_
    refine xq_iald hx hb hK hP 4 0 rfl rfl hf dX12_isHeardIn_62 (fun v_6 hf => ?_)
    refine xq_iast hx hb hK hP hD hS 3 0 rfl rfl hf dX12_isHeardIn_63 (fun g_7 H locs hf hP hD hS => ?_)
    have hP : va_P (dC, dI) vwCl [(a_p0, .inr (12, oX12 mmI mmJ mmR)), ((mmR 24), .inl (cI, 6, .inl mm_sumFromF)), ((mmR 45), .inl (cI, 22, .inl mm_nightOfF)), ((mmR 58), .inl (cI, 12, .inl g_7)), ((mmR 20), .inl (cI, 14, .inl mm_sharpOfF)), ((mmR 46), .inl (cI, 22, .inl mm_mileOfF)), ((mmR 14), .inl (cI, 2, .inl mm_milesToldF)), ((mmR 25), .inl (cI, 6, .inl mm_sumBehindF)), ((mmR 57), .inl (cJ, 500, .inr (.inl mm_stackL))), ((mmR 26), .inl (cI, 3200, .inl mm_codeSortF)), ((mmR 27), .inl (cI, 3200, .inl mm_codeValueF))] H := hP
    have hD : va_D A [(a_p0, .inr (12, oX12 mmI mmJ mmR)), ((mmR 24), .inl (cI, 6, .inl mm_sumFromF)), ((mmR 45), .inl (cI, 22, .inl mm_nightOfF)), ((mmR 58), .inl (cI, 12, .inl g_7)), ((mmR 20), .inl (cI, 14, .inl mm_sharpOfF)), ((mmR 46), .inl (cI, 22, .inl mm_mileOfF)), ((mmR 14), .inl (cI, 2, .inl mm_milesToldF)), ((mmR 25), .inl (cI, 6, .inl mm_sumBehindF)), ((mmR 57), .inl (cJ, 500, .inr (.inl mm_stackL))), ((mmR 26), .inl (cI, 3200, .inl mm_codeSortF)), ((mmR 27), .inl (cI, 3200, .inl mm_codeValueF))] := hD
    refine lv_aload_n hx hb dX12_isHeardIn_64 rfl (lv_at hl 0 rfl) ?_
    refine va_get (D := (dC, dI)) (ci := 12) (v := .ref ((mmR 58))) (C := RX12) (T := TX12) (N := 70) hx hb hts hinX12 hown hK hP 0 rfl rfl 58 (by decide) hw0 (fun _ h9 => h9) rfl dX12_isHeardIn_65 ?_
    refine lv_bipush (v := 6) hx hb dX12_isHeardIn_68 (by decide) ?_
    refine lv_iload_n hx hb dX12_isHeardIn_70 rfl (lv_at hl 3 rfl) ?_
    refine xq_iast hx hb hK hP hD hS 3 0 rfl rfl hf dX12_isHeardIn_71 (fun g_8 H locs hf hP hD hS => ?_)
    have hP : va_P (dC, dI) vwCl [(a_p0, .inr (12, oX12 mmI mmJ mmR)), ((mmR 24), .inl (cI, 6, .inl mm_sumFromF)), ((mmR 45), .inl (cI, 22, .inl mm_nightOfF)), ((mmR 58), .inl (cI, 12, .inl g_8)), ((mmR 20), .inl (cI, 14, .inl mm_sharpOfF)), ((mmR 46), .inl (cI, 22, .inl mm_mileOfF)), ((mmR 14), .inl (cI, 2, .inl mm_milesToldF)), ((mmR 25), .inl (cI, 6, .inl mm_sumBehindF)), ((mmR 57), .inl (cJ, 500, .inr (.inl mm_stackL))), ((mmR 26), .inl (cI, 3200, .inl mm_codeSortF)), ((mmR 27), .inl (cI, 3200, .inl mm_codeValueF))] H := hP
    have hD : va_D A [(a_p0, .inr (12, oX12 mmI mmJ mmR)), ((mmR 24), .inl (cI, 6, .inl mm_sumFromF)), ((mmR 45), .inl (cI, 22, .inl mm_nightOfF)), ((mmR 58), .inl (cI, 12, .inl g_8)), ((mmR 20), .inl (cI, 14, .inl mm_sharpOfF)), ((mmR 46), .inl (cI, 22, .inl mm_mileOfF)), ((mmR 14), .inl (cI, 2, .inl mm_milesToldF)), ((mmR 25), .inl (cI, 6, .inl mm_sumBehindF)), ((mmR 57), .inl (cJ, 500, .inr (.inl mm_stackL))), ((mmR 26), .inl (cI, 3200, .inl mm_codeSortF)), ((mmR 27), .inl (cI, 3200, .inl mm_codeValueF))] := hD
    refine lv_aload_n hx hb dX12_isHeardIn_72 rfl (lv_at hl 0 rfl) ?_
    refine va_get (D := (dC, dI)) (ci := 12) (v := .ref ((mmR 58))) (C := RX12) (T := TX12) (N := 70) hx hb hts hinX12 hown hK hP 0 rfl rfl 58 (by decide) hw0 (fun _ h9 => h9) rfl dX12_isHeardIn_73 ?_
    refine lv_bipush (v := 7) hx hb dX12_isHeardIn_76 (by decide) ?_
    refine lv_aload_n hx hb dX12_isHeardIn_78 rfl (lv_at hl 0 rfl) ?_
    refine lv_iload_n hx hb dX12_isHeardIn_79 rfl (lv_at hl 1 rfl) ?_
    obtain ⟨r_9, h_10, hf⟩ := xq_bd_some hf
    refine xq_callV (As := [.int p1]) (rest := [.int 7, .ref ((mmR 58))]) (ci := 12) (q0 := 0) ⟨hx, hb, hml, hown, hts⟩ (kX12_farOf l dC dI cI cB cJ cZ cM z ad N a_p0 mmI mmJ mmR mm_mileOfF mm_milesToldF p1 h_10) (cwV 1 hts gX12_isHeardIn_X12_farOf rfl rfl rfl (by decide +kernel) ⟨Nat.le_of_ble_eq_true rfl, Nat.le_of_ble_eq_true rfl⟩) hN hK hP hD hS hA [0, 5, 6] (by decide) rfl rfl rfl rfl rfl rfl hl.1 rfl (Nat.le_of_ble_eq_true rfl) dX12_isHeardIn_80 ⟨Nat.zero_le _, Nat.zero_le _⟩ (fun H locs hP hD hS => ?_)
    have hP : va_P (dC, dI) vwCl [(a_p0, .inr (12, oX12 mmI mmJ mmR)), ((mmR 24), .inl (cI, 6, .inl mm_sumFromF)), ((mmR 45), .inl (cI, 22, .inl mm_nightOfF)), ((mmR 58), .inl (cI, 12, .inl g_8)), ((mmR 20), .inl (cI, 14, .inl mm_sharpOfF)), ((mmR 46), .inl (cI, 22, .inl mm_mileOfF)), ((mmR 14), .inl (cI, 2, .inl mm_milesToldF)), ((mmR 25), .inl (cI, 6, .inl mm_sumBehindF)), ((mmR 57), .inl (cJ, 500, .inr (.inl mm_stackL))), ((mmR 26), .inl (cI, 3200, .inl mm_codeSortF)), ((mmR 27), .inl (cI, 3200, .inl mm_codeValueF))] H := hP
    have hD : va_D A [(a_p0, .inr (12, oX12 mmI mmJ mmR)), ((mmR 24), .inl (cI, 6, .inl mm_sumFromF)), ((mmR 45), .inl (cI, 22, .inl mm_nightOfF)), ((mmR 58), .inl (cI, 12, .inl g_8)), ((mmR 20), .inl (cI, 14, .inl mm_sharpOfF)), ((mmR 46), .inl (cI, 22, .inl mm_mileOfF)), ((mmR 14), .inl (cI, 2, .inl mm_milesToldF)), ((mmR 25), .inl (cI, 6, .inl mm_sumBehindF)), ((mmR 57), .inl (cJ, 500, .inr (.inl mm_stackL))), ((mmR 26), .inl (cI, 3200, .inl mm_codeSortF)), ((mmR 27), .inl (cI, 3200, .inl mm_codeValueF))] := hD
    refine W.eq (g2 := F0 m 83 ls [.int r_9, .int 7, .ref ((mmR 58))]) rfl ?_
    refine xq_iast hx hb hK hP hD hS 3 0 rfl rfl hf dX12_isHeardIn_83 (fun g_11 H locs hf hP hD hS => ?_)
    have hP : va_P (dC, dI) vwCl [(a_p0, .inr (12, oX12 mmI mmJ mmR)), ((mmR 24), .inl (cI, 6, .inl mm_sumFromF)), ((mmR 45), .inl (cI, 22, .inl mm_nightOfF)), ((mmR 58), .inl (cI, 12, .inl g_11)), ((mmR 20), .inl (cI, 14, .inl mm_sharpOfF)), ((mmR 46), .inl (cI, 22, .inl mm_mileOfF)), ((mmR 14), .inl (cI, 2, .inl mm_milesToldF)), ((mmR 25), .inl (cI, 6, .inl mm_sumBehindF)), ((mmR 57), .inl (cJ, 500, .inr (.inl mm_stackL))), ((mmR 26), .inl (cI, 3200, .inl mm_codeSortF)), ((mmR 27), .inl (cI, 3200, .inl mm_codeValueF))] H := hP
    have hD : va_D A [(a_p0, .inr (12, oX12 mmI mmJ mmR)), ((mmR 24), .inl (cI, 6, .inl mm_sumFromF)), ((mmR 45), .inl (cI, 22, .inl mm_nightOfF)), ((mmR 58), .inl (cI, 12, .inl g_11)), ((mmR 20), .inl (cI, 14, .inl mm_sharpOfF)), ((mmR 46), .inl (cI, 22, .inl mm_mileOfF)), ((mmR 14), .inl (cI, 2, .inl mm_milesToldF)), ((mmR 25), .inl (cI, 6, .inl mm_sumBehindF)), ((mmR 57), .inl (cJ, 500, .inr (.inl mm_stackL))), ((mmR 26), .inl (cI, 3200, .inl mm_codeSortF)), ((mmR 27), .inl (cI, 3200, .inl mm_codeValueF))] := hD
    refine lv_aload_n hx hb dX12_isHeardIn_84 rfl (lv_at hl 0 rfl) ?_
    refine lv_iconst (v := 1) hx hb dX12_isHeardIn_85 (by decide) ?_
    obtain ⟨⟨r_12_0, r_12_1⟩, h_13, hf⟩ := xq_bd_some hf
    refine xq_callV (As := [.int 1]) (rest := []) (ci := 12) (q0 := 0) ⟨hx, hb, hml, hown, hts⟩ (kX12_reckons l dC dI cI cB cJ cZ cM z ad N a_p0 mmI mmJ mmR mm_sumFromF mm_sumBehindF mm_stackL mm_codeSortF g_11 mm_codeValueF 1 h_13) (cwV 1 hts gX12_isHeardIn_X12_reckons rfl rfl rfl (by decide +kernel) ⟨Nat.le_of_ble_eq_true rfl, Nat.le_of_ble_eq_true rfl⟩) hN hK hP hD hS hA [0, 1, 7, 8, 9, 3, 10] (by decide) rfl rfl rfl rfl rfl rfl hl.1 rfl (Nat.le_of_ble_eq_true rfl) dX12_isHeardIn_86 ⟨Nat.zero_le _, Nat.zero_le _⟩ (fun H locs hP hD hS => ?_)
    have hP : va_P (dC, dI) vwCl [(a_p0, .inr (12, oX12 mmI mmJ mmR)), ((mmR 24), .inl (cI, 6, .inl mm_sumFromF)), ((mmR 45), .inl (cI, 22, .inl mm_nightOfF)), ((mmR 58), .inl (cI, 12, .inl g_11)), ((mmR 20), .inl (cI, 14, .inl mm_sharpOfF)), ((mmR 46), .inl (cI, 22, .inl mm_mileOfF)), ((mmR 14), .inl (cI, 2, .inl mm_milesToldF)), ((mmR 25), .inl (cI, 6, .inl mm_sumBehindF)), ((mmR 57), .inl (cJ, 500, .inr (.inl r_12_1))), ((mmR 26), .inl (cI, 3200, .inl mm_codeSortF)), ((mmR 27), .inl (cI, 3200, .inl mm_codeValueF))] H := hP
    have hD : va_D A [(a_p0, .inr (12, oX12 mmI mmJ mmR)), ((mmR 24), .inl (cI, 6, .inl mm_sumFromF)), ((mmR 45), .inl (cI, 22, .inl mm_nightOfF)), ((mmR 58), .inl (cI, 12, .inl g_11)), ((mmR 20), .inl (cI, 14, .inl mm_sharpOfF)), ((mmR 46), .inl (cI, 22, .inl mm_mileOfF)), ((mmR 14), .inl (cI, 2, .inl mm_milesToldF)), ((mmR 25), .inl (cI, 6, .inl mm_sumBehindF)), ((mmR 57), .inl (cJ, 500, .inr (.inl r_12_1))), ((mmR 26), .inl (cI, 3200, .inl mm_codeSortF)), ((mmR 27), .inl (cI, 3200, .inl mm_codeValueF))] := hD
    refine W.eq (g2 := F0 m 89 ls [.long r_12_0]) rfl ?_
    refine lv_lconst (v := 1) hx hb dX12_isHeardIn_89 (by decide) ?_
    refine W.lcmp hx hb dX12_isHeardIn_90 ?_
    refine lv_if_ne (tgt := 98) hx hb dX12_isHeardIn_91 (by decide) (fun c_ => ?_) (fun c_ => ?_)
    · have hf := xq_neg hf c_
      refine lv_iconst (v := 0) hx hb dX12_isHeardIn_98 (by decide) ?_
      have e9 := Option.some.inj hf
      have e9_0 : 0 = r0 := congrArg (fun t => t.1) e9
      have e9_1 : g_11 = r1 := congrArg (fun t => t.2.1) e9
      have e9_2 : r_12_1 = r2 := congrArg (fun t => t.2.2) e9
      clear e9 hf
      subst e9_0
      subst e9_1
      subst e9_2
      exact xq_zret hx hb hr (by decide +kernel) hlocks hK hP hD hS dX12_isHeardIn_99
    · have hf := xq_pos hf c_
      refine lv_iconst (v := 1) hx hb dX12_isHeardIn_94 (by decide) ?_
      refine lv_goto (tgt := 99) hx hb dX12_isHeardIn_95 (by decide) ?_
      have e9 := Option.some.inj hf
      have e9_0 : 1 = r0 := congrArg (fun t => t.1) e9
      have e9_1 : g_11 = r1 := congrArg (fun t => t.2.1) e9
      have e9_2 : r_12_1 = r2 := congrArg (fun t => t.2.2) e9
      clear e9 hf
      subst e9_0
      subst e9_1
      subst e9_2
      exact xq_zret hx hb hr (by decide +kernel) hlocks hK hP hD hS dX12_isHeardIn_99
  · have hf := xq_pos hf c_
    refine lv_aload_n hx hb dX12_isHeardIn_8 rfl (lv_at hl 0 rfl) ?_
    refine lv_iload_n hx hb dX12_isHeardIn_9 rfl (lv_at hl 1 rfl) ?_
    obtain ⟨r_14, h_15, hf⟩ := xq_bd_some hf
    refine xq_callV (As := [.int p1]) (rest := []) (ci := 12) (q0 := 0) ⟨hx, hb, hml, hown, hts⟩ (kX12_farOf l dC dI cI cB cJ cZ cM z ad N a_p0 mmI mmJ mmR mm_mileOfF mm_milesToldF p1 h_15) (cwV 1 hts gX12_isHeardIn_X12_farOf rfl rfl rfl (by decide +kernel) ⟨Nat.le_of_ble_eq_true rfl, Nat.le_of_ble_eq_true rfl⟩) hN hK hP hD hS hA [0, 5, 6] (by decide) rfl rfl rfl rfl rfl rfl hl.1 rfl (Nat.le_of_ble_eq_true rfl) dX12_isHeardIn_10 ⟨Nat.zero_le _, Nat.zero_le _⟩ (fun H locs hP hD hS => ?_)
    have hP : va_P (dC, dI) vwCl [(a_p0, .inr (12, oX12 mmI mmJ mmR)), ((mmR 24), .inl (cI, 6, .inl mm_sumFromF)), ((mmR 45), .inl (cI, 22, .inl mm_nightOfF)), ((mmR 58), .inl (cI, 12, .inl mm_askedF)), ((mmR 20), .inl (cI, 14, .inl mm_sharpOfF)), ((mmR 46), .inl (cI, 22, .inl mm_mileOfF)), ((mmR 14), .inl (cI, 2, .inl mm_milesToldF)), ((mmR 25), .inl (cI, 6, .inl mm_sumBehindF)), ((mmR 57), .inl (cJ, 500, .inr (.inl mm_stackL))), ((mmR 26), .inl (cI, 3200, .inl mm_codeSortF)), ((mmR 27), .inl (cI, 3200, .inl mm_codeValueF))] H := hP
    have hD : va_D A [(a_p0, .inr (12, oX12 mmI mmJ mmR)), ((mmR 24), .inl (cI, 6, .inl mm_sumFromF)), ((mmR 45), .inl (cI, 22, .inl mm_nightOfF)), ((mmR 58), .inl (cI, 12, .inl mm_askedF)), ((mmR 20), .inl (cI, 14, .inl mm_sharpOfF)), ((mmR 46), .inl (cI, 22, .inl mm_mileOfF)), ((mmR 14), .inl (cI, 2, .inl mm_milesToldF)), ((mmR 25), .inl (cI, 6, .inl mm_sumBehindF)), ((mmR 57), .inl (cJ, 500, .inr (.inl mm_stackL))), ((mmR 26), .inl (cI, 3200, .inl mm_codeSortF)), ((mmR 27), .inl (cI, 3200, .inl mm_codeValueF))] := hD
    refine W.eq (g2 := F0 m 13 ls [.int r_14]) rfl ?_
    refine lv_bipush (v := 9) hx hb dX12_isHeardIn_13 (by decide) ?_
    refine lv_icmp_gt (tgt := 22) hx hb dX12_isHeardIn_15 (by decide) (fun c_ => ?_) (fun c_ => ?_)
    · have hf := xq_pos hf c_
      refine lv_iconst (v := 0) hx hb dX12_isHeardIn_22 (by decide) ?_
      have e9 := Option.some.inj hf
      have e9_0 : 0 = r0 := congrArg (fun t => t.1) e9
      have e9_1 : mm_askedF = r1 := congrArg (fun t => t.2.1) e9
      have e9_2 : mm_stackL = r2 := congrArg (fun t => t.2.2) e9
      clear e9 hf
      subst e9_0
      subst e9_1
      subst e9_2
      exact xq_zret hx hb hr (by decide +kernel) hlocks hK hP hD hS dX12_isHeardIn_23
    · have hf := xq_neg hf c_
      refine lv_iconst (v := 1) hx hb dX12_isHeardIn_18 (by decide) ?_
      refine lv_goto (tgt := 23) hx hb dX12_isHeardIn_19 (by decide) ?_
      have e9 := Option.some.inj hf
      have e9_0 : 1 = r0 := congrArg (fun t => t.1) e9
      have e9_1 : mm_askedF = r1 := congrArg (fun t => t.2.1) e9
      have e9_2 : mm_stackL = r2 := congrArg (fun t => t.2.2) e9
      clear e9 hf
      subst e9_0
      subst e9_1
      subst e9_2
      exact xq_zret hx hb hr (by decide +kernel) hlocks hK hP hD hS dX12_isHeardIn_23
def dsX12_placeOn_0 : List (Nat × Instr × Nat) := [(0, (.iconst 0, 1)), (1, (.istore_n 2, 1)), (2, (.iload_n 2, 1)), (3, (.aload_n 0, 1)), (4, (.getfield 75, 3)), (7, (.aload_n 0, 1)), (8, (.getfield 51, 3)), (11, (.iaload, 1)), (12, (.if_icmp .ge 29, 3)), (15, (.aload_n 0, 1)), (16, (.getfield 78, 3)), (19, (.bipush 6, 2)), (21, (.aload_n 0, 1)), (22, (.getfield 51, 3)), (25, (.imul, 1)), (26, (.iload_n 2, 1)), (27, (.iadd, 1)), (28, (.iaload, 1)), (29, (.iload_n 1, 1)), (30, (.if_icmp .ne 5, 3)), (33, (.iload_n 2, 1)), (34, (.ireturn, 1)), (35, (.iinc 2 1, 3)), (38, (.goto (-36), 3)), (41, (.iconst (-1), 1)), (42, (.ireturn, 1))]
theorem dsX12_placeOn_0_ok : (dsX12_placeOn_0.all fun q => decide (decode cX12_placeOn q.1 = .ok q.2)) = true := by decide +kernel
theorem dX12_placeOn_0 : decode cX12_placeOn 0 = .ok (.iconst 0, 1) := of_decide_eq_true (List.all_eq_true.mp dsX12_placeOn_0_ok (0, (.iconst 0, 1)) (List.mem_of_getElem? (i := 0) rfl))
theorem dX12_placeOn_1 : decode cX12_placeOn 1 = .ok (.istore_n 2, 1) := of_decide_eq_true (List.all_eq_true.mp dsX12_placeOn_0_ok (1, (.istore_n 2, 1)) (List.mem_of_getElem? (i := 1) rfl))
theorem dX12_placeOn_2 : decode cX12_placeOn 2 = .ok (.iload_n 2, 1) := of_decide_eq_true (List.all_eq_true.mp dsX12_placeOn_0_ok (2, (.iload_n 2, 1)) (List.mem_of_getElem? (i := 2) rfl))
theorem dX12_placeOn_3 : decode cX12_placeOn 3 = .ok (.aload_n 0, 1) := of_decide_eq_true (List.all_eq_true.mp dsX12_placeOn_0_ok (3, (.aload_n 0, 1)) (List.mem_of_getElem? (i := 3) rfl))
theorem dX12_placeOn_4 : decode cX12_placeOn 4 = .ok (.getfield 75, 3) := of_decide_eq_true (List.all_eq_true.mp dsX12_placeOn_0_ok (4, (.getfield 75, 3)) (List.mem_of_getElem? (i := 4) rfl))
theorem dX12_placeOn_7 : decode cX12_placeOn 7 = .ok (.aload_n 0, 1) := of_decide_eq_true (List.all_eq_true.mp dsX12_placeOn_0_ok (7, (.aload_n 0, 1)) (List.mem_of_getElem? (i := 5) rfl))
theorem dX12_placeOn_8 : decode cX12_placeOn 8 = .ok (.getfield 51, 3) := of_decide_eq_true (List.all_eq_true.mp dsX12_placeOn_0_ok (8, (.getfield 51, 3)) (List.mem_of_getElem? (i := 6) rfl))
theorem dX12_placeOn_11 : decode cX12_placeOn 11 = .ok (.iaload, 1) := of_decide_eq_true (List.all_eq_true.mp dsX12_placeOn_0_ok (11, (.iaload, 1)) (List.mem_of_getElem? (i := 7) rfl))
theorem dX12_placeOn_12 : decode cX12_placeOn 12 = .ok (.if_icmp .ge 29, 3) := of_decide_eq_true (List.all_eq_true.mp dsX12_placeOn_0_ok (12, (.if_icmp .ge 29, 3)) (List.mem_of_getElem? (i := 8) rfl))
theorem dX12_placeOn_15 : decode cX12_placeOn 15 = .ok (.aload_n 0, 1) := of_decide_eq_true (List.all_eq_true.mp dsX12_placeOn_0_ok (15, (.aload_n 0, 1)) (List.mem_of_getElem? (i := 9) rfl))
theorem dX12_placeOn_16 : decode cX12_placeOn 16 = .ok (.getfield 78, 3) := of_decide_eq_true (List.all_eq_true.mp dsX12_placeOn_0_ok (16, (.getfield 78, 3)) (List.mem_of_getElem? (i := 10) rfl))
theorem dX12_placeOn_19 : decode cX12_placeOn 19 = .ok (.bipush 6, 2) := of_decide_eq_true (List.all_eq_true.mp dsX12_placeOn_0_ok (19, (.bipush 6, 2)) (List.mem_of_getElem? (i := 11) rfl))
theorem dX12_placeOn_21 : decode cX12_placeOn 21 = .ok (.aload_n 0, 1) := of_decide_eq_true (List.all_eq_true.mp dsX12_placeOn_0_ok (21, (.aload_n 0, 1)) (List.mem_of_getElem? (i := 12) rfl))
theorem dX12_placeOn_22 : decode cX12_placeOn 22 = .ok (.getfield 51, 3) := of_decide_eq_true (List.all_eq_true.mp dsX12_placeOn_0_ok (22, (.getfield 51, 3)) (List.mem_of_getElem? (i := 13) rfl))
theorem dX12_placeOn_25 : decode cX12_placeOn 25 = .ok (.imul, 1) := of_decide_eq_true (List.all_eq_true.mp dsX12_placeOn_0_ok (25, (.imul, 1)) (List.mem_of_getElem? (i := 14) rfl))
theorem dX12_placeOn_26 : decode cX12_placeOn 26 = .ok (.iload_n 2, 1) := of_decide_eq_true (List.all_eq_true.mp dsX12_placeOn_0_ok (26, (.iload_n 2, 1)) (List.mem_of_getElem? (i := 15) rfl))
theorem dX12_placeOn_27 : decode cX12_placeOn 27 = .ok (.iadd, 1) := of_decide_eq_true (List.all_eq_true.mp dsX12_placeOn_0_ok (27, (.iadd, 1)) (List.mem_of_getElem? (i := 16) rfl))
theorem dX12_placeOn_28 : decode cX12_placeOn 28 = .ok (.iaload, 1) := of_decide_eq_true (List.all_eq_true.mp dsX12_placeOn_0_ok (28, (.iaload, 1)) (List.mem_of_getElem? (i := 17) rfl))
theorem dX12_placeOn_29 : decode cX12_placeOn 29 = .ok (.iload_n 1, 1) := of_decide_eq_true (List.all_eq_true.mp dsX12_placeOn_0_ok (29, (.iload_n 1, 1)) (List.mem_of_getElem? (i := 18) rfl))
theorem dX12_placeOn_30 : decode cX12_placeOn 30 = .ok (.if_icmp .ne 5, 3) := of_decide_eq_true (List.all_eq_true.mp dsX12_placeOn_0_ok (30, (.if_icmp .ne 5, 3)) (List.mem_of_getElem? (i := 19) rfl))
theorem dX12_placeOn_33 : decode cX12_placeOn 33 = .ok (.iload_n 2, 1) := of_decide_eq_true (List.all_eq_true.mp dsX12_placeOn_0_ok (33, (.iload_n 2, 1)) (List.mem_of_getElem? (i := 20) rfl))
theorem dX12_placeOn_34 : decode cX12_placeOn 34 = .ok (.ireturn, 1) := of_decide_eq_true (List.all_eq_true.mp dsX12_placeOn_0_ok (34, (.ireturn, 1)) (List.mem_of_getElem? (i := 21) rfl))
theorem dX12_placeOn_35 : decode cX12_placeOn 35 = .ok (.iinc 2 1, 3) := of_decide_eq_true (List.all_eq_true.mp dsX12_placeOn_0_ok (35, (.iinc 2 1, 3)) (List.mem_of_getElem? (i := 22) rfl))
theorem dX12_placeOn_38 : decode cX12_placeOn 38 = .ok (.goto (-36), 3) := of_decide_eq_true (List.all_eq_true.mp dsX12_placeOn_0_ok (38, (.goto (-36), 3)) (List.mem_of_getElem? (i := 23) rfl))
theorem dX12_placeOn_41 : decode cX12_placeOn 41 = .ok (.iconst (-1), 1) := of_decide_eq_true (List.all_eq_true.mp dsX12_placeOn_0_ok (41, (.iconst (-1), 1)) (List.mem_of_getElem? (i := 24) rfl))
theorem dX12_placeOn_42 : decode cX12_placeOn 42 = .ok (.ireturn, 1) := of_decide_eq_true (List.all_eq_true.mp dsX12_placeOn_0_ok (42, (.ireturn, 1)) (List.mem_of_getElem? (i := 25) rfl))
def fX12_placeOn_l2 (N : Nat) (mmI : Nat → Int32) (mm_placesF : Nat → Int32) (mm_placeAtF : Nat → Int32)  (k2 : (Int32 × Int32) → Option (Int32)) : (Int32 × Int32) → Option (Int32) :=
  fun (x1_2, x2_2) => (xq_bd (xq_ald 2 mm_placesF (mmI 13)) fun v_1 => (if v_1 ≤ x2_2 then some ((-1)) else (xq_bd (xq_ald 12 mm_placeAtF ((6 * (mmI 13)) + x2_2)) fun v_2 => (if v_2 = x1_2 then some x2_2 else k2 (x1_2, x2_2 + 1)))))
def fX12_placeOn (N : Nat) (mmI : Nat → Int32) (mm_placesF : Nat → Int32) (mm_placeAtF : Nat → Int32)  (p1 : Int32) : Option (Int32) :=
  xq_loop (fX12_placeOn_l2 N mmI mm_placesF mm_placeAtF) N (p1, 0)
set_option maxHeartbeats 4000000 in
set_option maxRecDepth 100000 in
theorem kX12_placeOn (l : Launch) (dC : Nat → ClassId) (dI : Nat → Nat → Nat) (cI cB cJ cZ cM : ClassId) (z : Nat) (ad : Nat → Nat) (N : Nat) (a_p0 : Nat) (mmI : Nat → Int32) (mmJ : Nat → Int64) (mmR : Nat → Nat) (mm_placesF : Nat → Int32) (mm_placeAtF : Nat → Int32) (p1 : Int32) {r0 : Int32} (hf : fX12_placeOn N mmI mm_placesF mm_placeAtF p1 = some r0) : xq_Ct l yX12_placeOn wsX12_placeOn { frames := 0, cells := 0, slots := 0, locals := 0 } (dC, dI) vwCl (xq_tys cI cB cJ cZ cM) z ad [.ref a_p0, .int p1] [(a_p0, .inr (12, oX12 mmI mmJ mmR)), ((mmR 21), .inl (cI, 2, .inl mm_placesF)), ((mmR 22), .inl (cI, 12, .inl mm_placeAtF))] [(a_p0, .inr (12, oX12 mmI mmJ mmR)), ((mmR 21), .inl (cI, 2, .inl mm_placesF)), ((mmR 22), .inl (cI, 12, .inl mm_placeAtF))] (some (.int r0)) := by
  intro sz
  refine Met.ofW (cc := cX12_placeOn) (maxL := 3) (ret := (some .int)) (by decide) rfl ?_
  intro p e s m args below meth c s₁ B hml hv
  obtain ⟨rfl, hsz, hP, hK, hD0, hE, hz⟩ := hv
  have hx := B.exec
  have hb := B.bytes
  have hr := B.returns
  have hts := atoms_spec (ws := wsX12_placeOn) B.pre
  have hown : s.vm.findClass RX12 = some m.cls := findClass_of_methodNamed B.named
  have hlocks := B.notSynchronized
  subst hsz
  have hD := hD0.self (sz := s.heap.size)
  have hN := xq_Env.of hE hz hD0
  generalize hAe : va_A [(a_p0, .inr (12, oX12 mmI mmJ mmR)), ((mmR 21), .inl (cI, 2, .inl mm_placesF)), ((mmR 22), .inl (cI, 12, .inl mm_placeAtF))] s.heap.size = A at hD hN ⊢
  have hA : ∀ q : Nat, s.heap.size ≤ q → A q := fun q h => by rw [← hAe]; exact Or.inr h
  clear hAe hD0
  have hS : va_S A s.heap s.heap [] := va_S.rf
  have hl := lv_entry ([.ref a_p0, .int p1]) (n := 3) (Nat.le_of_ble_eq_true rfl)
  rw [lg_entry_eq]
  generalize (lg_sl ([.ref a_p0, .int p1]) ++ List.replicate (3 - (lg_sl ([.ref a_p0, .int p1])).length) Slot.unset).toArray = ls at hl ⊢
  have hl : lv_has ls 3 [(0, .ref a_p0), (1, .int p1)] := hl
  have hw0 := hts (.fieldLink RX12 75 "DistantVoiceModel" "places" "[I") (by decide +kernel)
  have hinX12 : ∀ w ∈ wsX120, w ∈ wsX12_placeOn := fun w h => List.mem_cons_of_mem _ (List.mem_append_right _ h)
  have hw2 := hts (.fieldLink RX12 51 "DistantVoiceModel" "bank" "I") (by decide +kernel)
  have hw3 := hts (.fieldLink RX12 78 "DistantVoiceModel" "placeAt" "[I") (by decide +kernel)
  have l2 : ∀ n2 : Nat, ∀ (x1_2 : Int32) (x2_2 : Int32) (ls : Array Slot) (H : Heap) (locs : List Loc), xq_loop (fX12_placeOn_l2 N mmI mm_placesF mm_placeAtF) n2 (x1_2, x2_2) = some r0 → va_P (dC, dI) vwCl [(a_p0, .inr (12, oX12 mmI mmJ mmR)), ((mmR 21), .inl (cI, 2, .inl mm_placesF)), ((mmR 22), .inl (cI, 12, .inl mm_placeAtF))] H → va_D A [(a_p0, .inr (12, oX12 mmI mmJ mmR)), ((mmR 21), .inl (cI, 2, .inl mm_placesF)), ((mmR 22), .inl (cI, 12, .inl mm_placeAtF))] → va_S A s.heap H locs → lv_has ls 3 [(0, .ref a_p0), (1, .int x1_2), (2, .int x2_2)] → W p l e (headSpec wsX12_placeOn { frames := 0, cells := 0, slots := 0, locals := 0 }).room s m [.ref a_p0, .int p1].toArray below meth c H locs 0 0 (MQ below (xq_Q (dC, dI) vwCl (xq_tys cI cB cJ cZ cM) A [(a_p0, .inr (12, oX12 mmI mmJ mmR)), ((mmR 21), .inl (cI, 2, .inl mm_placesF)), ((mmR 22), .inl (cI, 12, .inl mm_placeAtF))] (some (.int r0))) [.ref a_p0, .int p1].toArray s 0 0 A) (F0 m 2 ls []) := by
    intro n2
    induction n2 with
    | zero => intro x1_2 x2_2 ls H locs hf; cases (show none = some r0 from hf)
    | succ n2 ih2 =>
      intro x1_2 x2_2 ls H locs hf hP hD hS hl
      have hf : fX12_placeOn_l2 N mmI mm_placesF mm_placeAtF (xq_loop (fX12_placeOn_l2 N mmI mm_placesF mm_placeAtF) n2) (x1_2, x2_2) = some r0 := hf
      unfold fX12_placeOn_l2 at hf
      refine lv_iload_n hx hb dX12_placeOn_2 rfl (lv_at hl 2 rfl) ?_
      refine lv_aload_n hx hb dX12_placeOn_3 rfl (lv_at hl 0 rfl) ?_
      refine va_get (D := (dC, dI)) (ci := 12) (v := .ref ((mmR 21))) (C := RX12) (T := TX12) (N := 70) hx hb hts hinX12 hown hK hP 0 rfl rfl 21 (by decide) hw0 (fun _ h9 => h9) rfl dX12_placeOn_4 ?_
      refine lv_aload_n hx hb dX12_placeOn_7 rfl (lv_at hl 0 rfl) ?_
      refine va_get (D := (dC, dI)) (ci := 12) (v := .int (mmI 13)) (C := RX12) (T := TX12) (N := 70) hx hb hts hinX12 hown hK hP 0 rfl rfl 13 (by decide) hw2 (fun _ h9 => h9) rfl dX12_placeOn_8 ?_
      refine xq_iald hx hb hK hP 1 0 rfl rfl hf dX12_placeOn_11 (fun v_1 hf => ?_)
      refine lv_icmp_ge (tgt := 41) hx hb dX12_placeOn_12 (by decide) (fun c_ => ?_) (fun c_ => ?_)
      · have hf := xq_pos hf c_
        refine lv_iconst (v := (-1)) hx hb dX12_placeOn_41 (by decide) ?_
        have e9_0 : (-1) = r0 := Option.some.inj hf
        subst e9_0
        exact xq_iret hx hb hr hlocks hK hP hD hS dX12_placeOn_42
      · have hf := xq_neg hf c_
        refine lv_aload_n hx hb dX12_placeOn_15 rfl (lv_at hl 0 rfl) ?_
        refine va_get (D := (dC, dI)) (ci := 12) (v := .ref ((mmR 22))) (C := RX12) (T := TX12) (N := 70) hx hb hts hinX12 hown hK hP 0 rfl rfl 22 (by decide) hw3 (fun _ h9 => h9) rfl dX12_placeOn_16 ?_
        refine lv_bipush (v := 6) hx hb dX12_placeOn_19 (by decide) ?_
        refine lv_aload_n hx hb dX12_placeOn_21 rfl (lv_at hl 0 rfl) ?_
        refine va_get (D := (dC, dI)) (ci := 12) (v := .int (mmI 13)) (C := RX12) (T := TX12) (N := 70) hx hb hts hinX12 hown hK hP 0 rfl rfl 13 (by decide) hw2 (fun _ h9 => h9) rfl dX12_placeOn_22 ?_
        refine lv_imul hx hb dX12_placeOn_25 ?_
        refine lv_iload_n hx hb dX12_placeOn_26 rfl (lv_at hl 2 rfl) ?_
        refine lv_iadd hx hb dX12_placeOn_27 ?_
        refine xq_iald hx hb hK hP 2 0 rfl rfl hf dX12_placeOn_28 (fun v_2 hf => ?_)
        refine lv_iload_n hx hb dX12_placeOn_29 rfl (lv_at hl 1 rfl) ?_
        refine lv_icmp_ne (tgt := 35) hx hb dX12_placeOn_30 (by decide) (fun c_ => ?_) (fun c_ => ?_)
        · have hf := xq_neg hf c_
          refine lv_iinc (v := x2_2 + 1) (lv' := [(2, .int (x2_2 + 1)), (0, .ref a_p0), (1, .int x1_2)]) hx hb dX12_placeOn_35 hl (k := 2) rfl (congrArg (fun q9 => x2_2 + q9) (by decide : Int32.ofInt 1 = 1)) (by decide) rfl (fun ls hl => ?_)
          refine lv_goto (tgt := 2) hx hb dX12_placeOn_38 (by decide) ?_
          exact ih2 x1_2 (x2_2 + 1) _ _ _ hf hP hD hS (lv_sub hl [1, 2, 0] rfl)
        · have hf := xq_pos hf c_
          refine lv_iload_n hx hb dX12_placeOn_33 rfl (lv_at hl 2 rfl) ?_
          have e9_0 : x2_2 = r0 := Option.some.inj hf
          subst e9_0
          exact xq_iret hx hb hr hlocks hK hP hD hS dX12_placeOn_34
  unfold fX12_placeOn at hf
  refine lv_iconst (v := 0) hx hb dX12_placeOn_0 (by decide) ?_
  refine lv_istore_n (lv' := [(2, .int 0), (0, .ref a_p0), (1, .int p1)]) hx hb dX12_placeOn_1 rfl hl (by decide) rfl (fun ls hl => ?_)
  exact l2 N p1 0 _ _ _ hf hP hD hS (lv_sub hl [1, 2, 0] rfl)
set_option maxRecDepth 20000 in
theorem ggX12_walks_X12_strideOf : GoodIn wsX12_walks wsX12_strideOf := goodIn_r _ [10, 11, 12, 1, 4, 13, 14, 15, 9, 16, 17, 3, 18, 19, 20, 21, 22, 23, 24, 25, 26, 27, 28, 29, 30, 31, 32, 33, 34, 35, 36, 37, 38, 39, 51, 52, 53, 54, 55, 56, 57, 58, 59, 60, 61, 62, 63, 64, 65, 66, 67, 68, 69, 70, 71, 72, 73, 74, 75, 76, 77, 78, 79, 80, 81, 82, 83, 84, 85, 86, 87, 88, 89, 90, 91, 92, 93, 94, 95, 96, 97, 98, 99, 100, 101, 102, 103, 104, 105, 106, 107, 108, 109, 110, 111, 112, 113, 114, 115, 116, 117, 118, 119, 120] rfl (by decide +kernel)
set_option maxRecDepth 20000 in
theorem gX12_walks_X12_strideOf : GoodIn wsX12_walks (wsV RX12 427 RX12 yX12_strideOf wsX12_strideOf) := goodIn_app (goodIn_of _ (by decide +kernel)) ggX12_walks_X12_strideOf
set_option maxRecDepth 20000 in
theorem ggX12_walks_X12_placeOn : GoodIn wsX12_walks wsX12_placeOn := goodIn_r _ [43, 44, 3, 45, 51, 52, 53, 54, 55, 56, 57, 58, 59, 60, 61, 62, 63, 64, 65, 66, 67, 68, 69, 70, 71, 72, 73, 74, 75, 76, 77, 78, 79, 80, 81, 82, 83, 84, 85, 86, 87, 88, 89, 90, 91, 92, 93, 94, 95, 96, 97, 98, 99, 100, 101, 102, 103, 104, 105, 106, 107, 108, 109, 110, 111, 112, 113, 114, 115, 116, 117, 118, 119, 120] rfl (by decide +kernel)
set_option maxRecDepth 20000 in
theorem gX12_walks_X12_placeOn : GoodIn wsX12_walks (wsV RX12 430 RX12 yX12_placeOn wsX12_placeOn) := goodIn_app (goodIn_of _ (by decide +kernel)) ggX12_walks_X12_placeOn
set_option maxRecDepth 20000 in
theorem ggX12_walks_X12_talkAt : GoodIn wsX12_walks wsX12_talkAt := goodIn_r _ [49, 50, 11, 12, 13, 14, 15, 9, 16, 17, 3, 18, 19, 20, 21, 22, 23, 24, 25, 26, 27, 28, 29, 30, 31, 32, 33, 34, 35, 36, 37, 38, 39, 51, 52, 53, 54, 55, 56, 57, 58, 59, 60, 61, 62, 63, 64, 65, 66, 67, 68, 69, 70, 71, 72, 73, 74, 75, 76, 77, 78, 79, 80, 81, 82, 83, 84, 85, 86, 87, 88, 89, 90, 91, 92, 93, 94, 95, 96, 97, 98, 99, 100, 101, 102, 103, 104, 105, 106, 107, 108, 109, 110, 111, 112, 113, 114, 115, 116, 117, 118, 119, 120] rfl (by decide +kernel)
set_option maxRecDepth 20000 in
theorem gX12_walks_X12_talkAt : GoodIn wsX12_walks (wsV RX12 433 RX12 yX12_talkAt wsX12_talkAt) := goodIn_app (goodIn_of _ (by decide +kernel)) ggX12_walks_X12_talkAt
def dsX12_walks_0 : List (Nat × Instr × Nat) := [(0, (.aload_n 0, 1)), (1, (.iload_n 1, 1)), (2, (.iload_n 2, 1)), (3, (.invokevirtual 427, 3)), (6, (.istore_n 3, 1)), (7, (.iload_n 3, 1)), (8, (.ifCond .le 103, 3)), (11, (.iinc 3 (-1), 3)), (14, (.aload_n 0, 1)), (15, (.getfield 153, 3)), (18, (.iload_n 1, 1)), (19, (.dup2, 1)), (20, (.iaload, 1)), (21, (.iconst 1, 1)), (22, (.iadd, 1)), (23, (.iastore, 1)), (24, (.aload_n 0, 1)), (25, (.getfield 153, 3)), (28, (.iload_n 1, 1)), (29, (.iaload, 1)), (30, (.aload_n 0, 1)), (31, (.getfield 54, 3)), (34, (.aload_n 0, 1)), (35, (.getfield 51, 3)), (38, (.iaload, 1)), (39, (.if_icmp .ne 32, 3)), (42, (.aload_n 0, 1)), (43, (.getfield 153, 3)), (46, (.iload_n 1, 1)), (47, (.iconst 0, 1)), (48, (.iastore, 1)), (49, (.aload_n 0, 1)), (50, (.getfield 156, 3)), (53, (.iload_n 1, 1)), (54, (.iaload, 1)), (55, (.sipush 999, 3)), (58, (.if_icmp .ge 13, 3)), (61, (.aload_n 0, 1)), (62, (.getfield 156, 3)), (65, (.iload_n 1, 1)), (66, (.dup2, 1)), (67, (.iaload, 1)), (68, (.iconst 1, 1)), (69, (.iadd, 1)), (70, (.iastore, 1)), (71, (.aload_n 0, 1)), (72, (.aload_n 0, 1)), (73, (.getfield 153, 3)), (76, (.iload_n 1, 1)), (77, (.iaload, 1)), (78, (.invokevirtual 430, 3)), (81, (.istore 4, 2)), (83, (.iload 4, 2)), (85, (.iconst (-1), 1)), (86, (.if_icmp .ne 6, 3)), (89, (.goto (-82), 3)), (92, (.aload_n 0, 1)), (93, (.getfield 159, 3)), (96, (.iload_n 1, 1)), (97, (.aload_n 0, 1))]
theorem dsX12_walks_0_ok : (dsX12_walks_0.all fun q => decide (decode cX12_walks q.1 = .ok q.2)) = true := by decide +kernel
theorem dX12_walks_0 : decode cX12_walks 0 = .ok (.aload_n 0, 1) := of_decide_eq_true (List.all_eq_true.mp dsX12_walks_0_ok (0, (.aload_n 0, 1)) (List.mem_of_getElem? (i := 0) rfl))
theorem dX12_walks_1 : decode cX12_walks 1 = .ok (.iload_n 1, 1) := of_decide_eq_true (List.all_eq_true.mp dsX12_walks_0_ok (1, (.iload_n 1, 1)) (List.mem_of_getElem? (i := 1) rfl))
theorem dX12_walks_2 : decode cX12_walks 2 = .ok (.iload_n 2, 1) := of_decide_eq_true (List.all_eq_true.mp dsX12_walks_0_ok (2, (.iload_n 2, 1)) (List.mem_of_getElem? (i := 2) rfl))
theorem dX12_walks_3 : decode cX12_walks 3 = .ok (.invokevirtual 427, 3) := of_decide_eq_true (List.all_eq_true.mp dsX12_walks_0_ok (3, (.invokevirtual 427, 3)) (List.mem_of_getElem? (i := 3) rfl))
theorem dX12_walks_6 : decode cX12_walks 6 = .ok (.istore_n 3, 1) := of_decide_eq_true (List.all_eq_true.mp dsX12_walks_0_ok (6, (.istore_n 3, 1)) (List.mem_of_getElem? (i := 4) rfl))
theorem dX12_walks_7 : decode cX12_walks 7 = .ok (.iload_n 3, 1) := of_decide_eq_true (List.all_eq_true.mp dsX12_walks_0_ok (7, (.iload_n 3, 1)) (List.mem_of_getElem? (i := 5) rfl))
theorem dX12_walks_8 : decode cX12_walks 8 = .ok (.ifCond .le 103, 3) := of_decide_eq_true (List.all_eq_true.mp dsX12_walks_0_ok (8, (.ifCond .le 103, 3)) (List.mem_of_getElem? (i := 6) rfl))
theorem dX12_walks_11 : decode cX12_walks 11 = .ok (.iinc 3 (-1), 3) := of_decide_eq_true (List.all_eq_true.mp dsX12_walks_0_ok (11, (.iinc 3 (-1), 3)) (List.mem_of_getElem? (i := 7) rfl))
theorem dX12_walks_14 : decode cX12_walks 14 = .ok (.aload_n 0, 1) := of_decide_eq_true (List.all_eq_true.mp dsX12_walks_0_ok (14, (.aload_n 0, 1)) (List.mem_of_getElem? (i := 8) rfl))
theorem dX12_walks_15 : decode cX12_walks 15 = .ok (.getfield 153, 3) := of_decide_eq_true (List.all_eq_true.mp dsX12_walks_0_ok (15, (.getfield 153, 3)) (List.mem_of_getElem? (i := 9) rfl))
theorem dX12_walks_18 : decode cX12_walks 18 = .ok (.iload_n 1, 1) := of_decide_eq_true (List.all_eq_true.mp dsX12_walks_0_ok (18, (.iload_n 1, 1)) (List.mem_of_getElem? (i := 10) rfl))
theorem dX12_walks_19 : decode cX12_walks 19 = .ok (.dup2, 1) := of_decide_eq_true (List.all_eq_true.mp dsX12_walks_0_ok (19, (.dup2, 1)) (List.mem_of_getElem? (i := 11) rfl))
theorem dX12_walks_20 : decode cX12_walks 20 = .ok (.iaload, 1) := of_decide_eq_true (List.all_eq_true.mp dsX12_walks_0_ok (20, (.iaload, 1)) (List.mem_of_getElem? (i := 12) rfl))
theorem dX12_walks_21 : decode cX12_walks 21 = .ok (.iconst 1, 1) := of_decide_eq_true (List.all_eq_true.mp dsX12_walks_0_ok (21, (.iconst 1, 1)) (List.mem_of_getElem? (i := 13) rfl))
theorem dX12_walks_22 : decode cX12_walks 22 = .ok (.iadd, 1) := of_decide_eq_true (List.all_eq_true.mp dsX12_walks_0_ok (22, (.iadd, 1)) (List.mem_of_getElem? (i := 14) rfl))
theorem dX12_walks_23 : decode cX12_walks 23 = .ok (.iastore, 1) := of_decide_eq_true (List.all_eq_true.mp dsX12_walks_0_ok (23, (.iastore, 1)) (List.mem_of_getElem? (i := 15) rfl))
theorem dX12_walks_24 : decode cX12_walks 24 = .ok (.aload_n 0, 1) := of_decide_eq_true (List.all_eq_true.mp dsX12_walks_0_ok (24, (.aload_n 0, 1)) (List.mem_of_getElem? (i := 16) rfl))
theorem dX12_walks_25 : decode cX12_walks 25 = .ok (.getfield 153, 3) := of_decide_eq_true (List.all_eq_true.mp dsX12_walks_0_ok (25, (.getfield 153, 3)) (List.mem_of_getElem? (i := 17) rfl))
theorem dX12_walks_28 : decode cX12_walks 28 = .ok (.iload_n 1, 1) := of_decide_eq_true (List.all_eq_true.mp dsX12_walks_0_ok (28, (.iload_n 1, 1)) (List.mem_of_getElem? (i := 18) rfl))
theorem dX12_walks_29 : decode cX12_walks 29 = .ok (.iaload, 1) := of_decide_eq_true (List.all_eq_true.mp dsX12_walks_0_ok (29, (.iaload, 1)) (List.mem_of_getElem? (i := 19) rfl))
theorem dX12_walks_30 : decode cX12_walks 30 = .ok (.aload_n 0, 1) := of_decide_eq_true (List.all_eq_true.mp dsX12_walks_0_ok (30, (.aload_n 0, 1)) (List.mem_of_getElem? (i := 20) rfl))
theorem dX12_walks_31 : decode cX12_walks 31 = .ok (.getfield 54, 3) := of_decide_eq_true (List.all_eq_true.mp dsX12_walks_0_ok (31, (.getfield 54, 3)) (List.mem_of_getElem? (i := 21) rfl))
theorem dX12_walks_34 : decode cX12_walks 34 = .ok (.aload_n 0, 1) := of_decide_eq_true (List.all_eq_true.mp dsX12_walks_0_ok (34, (.aload_n 0, 1)) (List.mem_of_getElem? (i := 22) rfl))
theorem dX12_walks_35 : decode cX12_walks 35 = .ok (.getfield 51, 3) := of_decide_eq_true (List.all_eq_true.mp dsX12_walks_0_ok (35, (.getfield 51, 3)) (List.mem_of_getElem? (i := 23) rfl))
theorem dX12_walks_38 : decode cX12_walks 38 = .ok (.iaload, 1) := of_decide_eq_true (List.all_eq_true.mp dsX12_walks_0_ok (38, (.iaload, 1)) (List.mem_of_getElem? (i := 24) rfl))
theorem dX12_walks_39 : decode cX12_walks 39 = .ok (.if_icmp .ne 32, 3) := of_decide_eq_true (List.all_eq_true.mp dsX12_walks_0_ok (39, (.if_icmp .ne 32, 3)) (List.mem_of_getElem? (i := 25) rfl))
theorem dX12_walks_42 : decode cX12_walks 42 = .ok (.aload_n 0, 1) := of_decide_eq_true (List.all_eq_true.mp dsX12_walks_0_ok (42, (.aload_n 0, 1)) (List.mem_of_getElem? (i := 26) rfl))
theorem dX12_walks_43 : decode cX12_walks 43 = .ok (.getfield 153, 3) := of_decide_eq_true (List.all_eq_true.mp dsX12_walks_0_ok (43, (.getfield 153, 3)) (List.mem_of_getElem? (i := 27) rfl))
theorem dX12_walks_46 : decode cX12_walks 46 = .ok (.iload_n 1, 1) := of_decide_eq_true (List.all_eq_true.mp dsX12_walks_0_ok (46, (.iload_n 1, 1)) (List.mem_of_getElem? (i := 28) rfl))
theorem dX12_walks_47 : decode cX12_walks 47 = .ok (.iconst 0, 1) := of_decide_eq_true (List.all_eq_true.mp dsX12_walks_0_ok (47, (.iconst 0, 1)) (List.mem_of_getElem? (i := 29) rfl))
theorem dX12_walks_48 : decode cX12_walks 48 = .ok (.iastore, 1) := of_decide_eq_true (List.all_eq_true.mp dsX12_walks_0_ok (48, (.iastore, 1)) (List.mem_of_getElem? (i := 30) rfl))
theorem dX12_walks_49 : decode cX12_walks 49 = .ok (.aload_n 0, 1) := of_decide_eq_true (List.all_eq_true.mp dsX12_walks_0_ok (49, (.aload_n 0, 1)) (List.mem_of_getElem? (i := 31) rfl))
theorem dX12_walks_50 : decode cX12_walks 50 = .ok (.getfield 156, 3) := of_decide_eq_true (List.all_eq_true.mp dsX12_walks_0_ok (50, (.getfield 156, 3)) (List.mem_of_getElem? (i := 32) rfl))
theorem dX12_walks_53 : decode cX12_walks 53 = .ok (.iload_n 1, 1) := of_decide_eq_true (List.all_eq_true.mp dsX12_walks_0_ok (53, (.iload_n 1, 1)) (List.mem_of_getElem? (i := 33) rfl))
theorem dX12_walks_54 : decode cX12_walks 54 = .ok (.iaload, 1) := of_decide_eq_true (List.all_eq_true.mp dsX12_walks_0_ok (54, (.iaload, 1)) (List.mem_of_getElem? (i := 34) rfl))
theorem dX12_walks_55 : decode cX12_walks 55 = .ok (.sipush 999, 3) := of_decide_eq_true (List.all_eq_true.mp dsX12_walks_0_ok (55, (.sipush 999, 3)) (List.mem_of_getElem? (i := 35) rfl))
theorem dX12_walks_58 : decode cX12_walks 58 = .ok (.if_icmp .ge 13, 3) := of_decide_eq_true (List.all_eq_true.mp dsX12_walks_0_ok (58, (.if_icmp .ge 13, 3)) (List.mem_of_getElem? (i := 36) rfl))
theorem dX12_walks_61 : decode cX12_walks 61 = .ok (.aload_n 0, 1) := of_decide_eq_true (List.all_eq_true.mp dsX12_walks_0_ok (61, (.aload_n 0, 1)) (List.mem_of_getElem? (i := 37) rfl))
theorem dX12_walks_62 : decode cX12_walks 62 = .ok (.getfield 156, 3) := of_decide_eq_true (List.all_eq_true.mp dsX12_walks_0_ok (62, (.getfield 156, 3)) (List.mem_of_getElem? (i := 38) rfl))
theorem dX12_walks_65 : decode cX12_walks 65 = .ok (.iload_n 1, 1) := of_decide_eq_true (List.all_eq_true.mp dsX12_walks_0_ok (65, (.iload_n 1, 1)) (List.mem_of_getElem? (i := 39) rfl))
theorem dX12_walks_66 : decode cX12_walks 66 = .ok (.dup2, 1) := of_decide_eq_true (List.all_eq_true.mp dsX12_walks_0_ok (66, (.dup2, 1)) (List.mem_of_getElem? (i := 40) rfl))
theorem dX12_walks_67 : decode cX12_walks 67 = .ok (.iaload, 1) := of_decide_eq_true (List.all_eq_true.mp dsX12_walks_0_ok (67, (.iaload, 1)) (List.mem_of_getElem? (i := 41) rfl))
theorem dX12_walks_68 : decode cX12_walks 68 = .ok (.iconst 1, 1) := of_decide_eq_true (List.all_eq_true.mp dsX12_walks_0_ok (68, (.iconst 1, 1)) (List.mem_of_getElem? (i := 42) rfl))
theorem dX12_walks_69 : decode cX12_walks 69 = .ok (.iadd, 1) := of_decide_eq_true (List.all_eq_true.mp dsX12_walks_0_ok (69, (.iadd, 1)) (List.mem_of_getElem? (i := 43) rfl))
theorem dX12_walks_70 : decode cX12_walks 70 = .ok (.iastore, 1) := of_decide_eq_true (List.all_eq_true.mp dsX12_walks_0_ok (70, (.iastore, 1)) (List.mem_of_getElem? (i := 44) rfl))
theorem dX12_walks_71 : decode cX12_walks 71 = .ok (.aload_n 0, 1) := of_decide_eq_true (List.all_eq_true.mp dsX12_walks_0_ok (71, (.aload_n 0, 1)) (List.mem_of_getElem? (i := 45) rfl))
theorem dX12_walks_72 : decode cX12_walks 72 = .ok (.aload_n 0, 1) := of_decide_eq_true (List.all_eq_true.mp dsX12_walks_0_ok (72, (.aload_n 0, 1)) (List.mem_of_getElem? (i := 46) rfl))
theorem dX12_walks_73 : decode cX12_walks 73 = .ok (.getfield 153, 3) := of_decide_eq_true (List.all_eq_true.mp dsX12_walks_0_ok (73, (.getfield 153, 3)) (List.mem_of_getElem? (i := 47) rfl))
theorem dX12_walks_76 : decode cX12_walks 76 = .ok (.iload_n 1, 1) := of_decide_eq_true (List.all_eq_true.mp dsX12_walks_0_ok (76, (.iload_n 1, 1)) (List.mem_of_getElem? (i := 48) rfl))
theorem dX12_walks_77 : decode cX12_walks 77 = .ok (.iaload, 1) := of_decide_eq_true (List.all_eq_true.mp dsX12_walks_0_ok (77, (.iaload, 1)) (List.mem_of_getElem? (i := 49) rfl))
theorem dX12_walks_78 : decode cX12_walks 78 = .ok (.invokevirtual 430, 3) := of_decide_eq_true (List.all_eq_true.mp dsX12_walks_0_ok (78, (.invokevirtual 430, 3)) (List.mem_of_getElem? (i := 50) rfl))
theorem dX12_walks_81 : decode cX12_walks 81 = .ok (.istore 4, 2) := of_decide_eq_true (List.all_eq_true.mp dsX12_walks_0_ok (81, (.istore 4, 2)) (List.mem_of_getElem? (i := 51) rfl))
theorem dX12_walks_83 : decode cX12_walks 83 = .ok (.iload 4, 2) := of_decide_eq_true (List.all_eq_true.mp dsX12_walks_0_ok (83, (.iload 4, 2)) (List.mem_of_getElem? (i := 52) rfl))
theorem dX12_walks_85 : decode cX12_walks 85 = .ok (.iconst (-1), 1) := of_decide_eq_true (List.all_eq_true.mp dsX12_walks_0_ok (85, (.iconst (-1), 1)) (List.mem_of_getElem? (i := 53) rfl))
theorem dX12_walks_86 : decode cX12_walks 86 = .ok (.if_icmp .ne 6, 3) := of_decide_eq_true (List.all_eq_true.mp dsX12_walks_0_ok (86, (.if_icmp .ne 6, 3)) (List.mem_of_getElem? (i := 54) rfl))
theorem dX12_walks_89 : decode cX12_walks 89 = .ok (.goto (-82), 3) := of_decide_eq_true (List.all_eq_true.mp dsX12_walks_0_ok (89, (.goto (-82), 3)) (List.mem_of_getElem? (i := 55) rfl))
theorem dX12_walks_92 : decode cX12_walks 92 = .ok (.aload_n 0, 1) := of_decide_eq_true (List.all_eq_true.mp dsX12_walks_0_ok (92, (.aload_n 0, 1)) (List.mem_of_getElem? (i := 56) rfl))
theorem dX12_walks_93 : decode cX12_walks 93 = .ok (.getfield 159, 3) := of_decide_eq_true (List.all_eq_true.mp dsX12_walks_0_ok (93, (.getfield 159, 3)) (List.mem_of_getElem? (i := 57) rfl))
theorem dX12_walks_96 : decode cX12_walks 96 = .ok (.iload_n 1, 1) := of_decide_eq_true (List.all_eq_true.mp dsX12_walks_0_ok (96, (.iload_n 1, 1)) (List.mem_of_getElem? (i := 58) rfl))
theorem dX12_walks_97 : decode cX12_walks 97 = .ok (.aload_n 0, 1) := of_decide_eq_true (List.all_eq_true.mp dsX12_walks_0_ok (97, (.aload_n 0, 1)) (List.mem_of_getElem? (i := 59) rfl))
def dsX12_walks_1 : List (Nat × Instr × Nat) := [(98, (.iload_n 1, 1)), (99, (.iload 4, 2)), (101, (.iload_n 2, 1)), (102, (.invokevirtual 433, 3)), (105, (.iastore, 1)), (106, (.iconst 0, 1)), (107, (.istore_n 3, 1)), (108, (.goto (-101), 3)), (111, (.return_, 1))]
theorem dsX12_walks_1_ok : (dsX12_walks_1.all fun q => decide (decode cX12_walks q.1 = .ok q.2)) = true := by decide +kernel
theorem dX12_walks_98 : decode cX12_walks 98 = .ok (.iload_n 1, 1) := of_decide_eq_true (List.all_eq_true.mp dsX12_walks_1_ok (98, (.iload_n 1, 1)) (List.mem_of_getElem? (i := 0) rfl))
theorem dX12_walks_99 : decode cX12_walks 99 = .ok (.iload 4, 2) := of_decide_eq_true (List.all_eq_true.mp dsX12_walks_1_ok (99, (.iload 4, 2)) (List.mem_of_getElem? (i := 1) rfl))
theorem dX12_walks_101 : decode cX12_walks 101 = .ok (.iload_n 2, 1) := of_decide_eq_true (List.all_eq_true.mp dsX12_walks_1_ok (101, (.iload_n 2, 1)) (List.mem_of_getElem? (i := 2) rfl))
theorem dX12_walks_102 : decode cX12_walks 102 = .ok (.invokevirtual 433, 3) := of_decide_eq_true (List.all_eq_true.mp dsX12_walks_1_ok (102, (.invokevirtual 433, 3)) (List.mem_of_getElem? (i := 3) rfl))
theorem dX12_walks_105 : decode cX12_walks 105 = .ok (.iastore, 1) := of_decide_eq_true (List.all_eq_true.mp dsX12_walks_1_ok (105, (.iastore, 1)) (List.mem_of_getElem? (i := 4) rfl))
theorem dX12_walks_106 : decode cX12_walks 106 = .ok (.iconst 0, 1) := of_decide_eq_true (List.all_eq_true.mp dsX12_walks_1_ok (106, (.iconst 0, 1)) (List.mem_of_getElem? (i := 5) rfl))
theorem dX12_walks_107 : decode cX12_walks 107 = .ok (.istore_n 3, 1) := of_decide_eq_true (List.all_eq_true.mp dsX12_walks_1_ok (107, (.istore_n 3, 1)) (List.mem_of_getElem? (i := 6) rfl))
theorem dX12_walks_108 : decode cX12_walks 108 = .ok (.goto (-101), 3) := of_decide_eq_true (List.all_eq_true.mp dsX12_walks_1_ok (108, (.goto (-101), 3)) (List.mem_of_getElem? (i := 7) rfl))
theorem dX12_walks_111 : decode cX12_walks 111 = .ok (.return_, 1) := of_decide_eq_true (List.all_eq_true.mp dsX12_walks_1_ok (111, (.return_, 1)) (List.mem_of_getElem? (i := 8) rfl))
def fX12_walks_b71 (N : Nat) (mmI : Nat → Int32) (mm_sumFromF : Nat → Int32) (mm_nightOfF : Nat → Int32) (mm_sumBehindF : Nat → Int32) (mm_codeSortF : Nat → Int32) (mm_codeValueF : Nat → Int32) (mm_milesToldF : Nat → Int32) (mm_placesF : Nat → Int32) (mm_placeAtF : Nat → Int32) (mm_talkOfF : Nat → Int32)  (k7 : ((Nat → Int32) × (Nat → Int32) × (Nat → Int32) × (Nat → Int64) × (Nat → Int32) × Int32 × Int32 × Int32) → Option ((Nat → Int32) × (Nat → Int32) × (Nat → Int32) × (Nat → Int64) × (Nat → Int32))) : ((Nat → Int32) × (Nat → Int32) × (Nat → Int32) × (Nat → Int64) × (Nat → Int32) × Int32 × Int32 × Int32) → Option ((Nat → Int32) × (Nat → Int32) × (Nat → Int32) × (Nat → Int64) × (Nat → Int32)) :=
  fun (mm_askedF_71, mm_mileOfF_71, mm_roundsOfF_71, mm_stackL_71, mm_talkingOfF_71, x1_71, x2_71, x3_71) => (xq_bd (xq_ald 22 mm_mileOfF_71 x1_71) fun v_1 => (xq_bd (fX12_placeOn N mmI mm_placesF mm_placeAtF v_1) fun r_2 => (if r_2 = ((-1)) then k7 (mm_askedF_71, mm_mileOfF_71, mm_roundsOfF_71, mm_stackL_71, mm_talkingOfF_71, x1_71, x2_71, x3_71) else (xq_bd (fX12_talkAt N mmI mm_talkOfF mm_sumFromF mm_nightOfF mm_askedF_71 mm_sumBehindF mm_stackL_71 mm_codeSortF mm_codeValueF x1_71 r_2 x2_71) fun (r_4_0, r_4_1, r_4_2) => (xq_bd (xq_ast 22 mm_talkingOfF_71 x1_71 r_4_0) fun g_6 => k7 (r_4_1, mm_mileOfF_71, mm_roundsOfF_71, r_4_2, g_6, x1_71, x2_71, 0))))))
def fX12_walks_l7 (N : Nat) (mmI : Nat → Int32) (mm_sumFromF : Nat → Int32) (mm_nightOfF : Nat → Int32) (mm_sumBehindF : Nat → Int32) (mm_codeSortF : Nat → Int32) (mm_codeValueF : Nat → Int32) (mm_milesToldF : Nat → Int32) (mm_placesF : Nat → Int32) (mm_placeAtF : Nat → Int32) (mm_talkOfF : Nat → Int32)  (k7 : ((Nat → Int32) × (Nat → Int32) × (Nat → Int32) × (Nat → Int64) × (Nat → Int32) × Int32 × Int32 × Int32) → Option ((Nat → Int32) × (Nat → Int32) × (Nat → Int32) × (Nat → Int64) × (Nat → Int32))) : ((Nat → Int32) × (Nat → Int32) × (Nat → Int32) × (Nat → Int64) × (Nat → Int32) × Int32 × Int32 × Int32) → Option ((Nat → Int32) × (Nat → Int32) × (Nat → Int32) × (Nat → Int64) × (Nat → Int32)) :=
  fun (mm_askedF_7, mm_mileOfF_7, mm_roundsOfF_7, mm_stackL_7, mm_talkingOfF_7, x1_7, x2_7, x3_7) => (if x3_7 ≤ 0 then some ((mm_askedF_7, mm_mileOfF_7, mm_roundsOfF_7, mm_stackL_7, mm_talkingOfF_7)) else (xq_bd (xq_ald 22 mm_mileOfF_7 x1_7) fun v_7 => (xq_bd (xq_ast 22 mm_mileOfF_7 x1_7 (v_7 + 1)) fun g_8 => (xq_bd (xq_ald 22 g_8 x1_7) fun v_9 => (xq_bd (xq_ald 2 mm_milesToldF (mmI 13)) fun v_10 => (if v_9 = v_10 then (xq_bd (xq_ast 22 g_8 x1_7 0) fun g_11 => (xq_bd (xq_ald 22 mm_roundsOfF_7 x1_7) fun v_12 => (if 999 ≤ v_12 then fX12_walks_b71 N mmI mm_sumFromF mm_nightOfF mm_sumBehindF mm_codeSortF mm_codeValueF mm_milesToldF mm_placesF mm_placeAtF mm_talkOfF k7 (mm_askedF_7, g_11, mm_roundsOfF_7, mm_stackL_7, mm_talkingOfF_7, x1_7, x2_7, x3_7 + (-1)) else (xq_bd (xq_ald 22 mm_roundsOfF_7 x1_7) fun v_13 => (xq_bd (xq_ast 22 mm_roundsOfF_7 x1_7 (v_13 + 1)) fun g_14 => fX12_walks_b71 N mmI mm_sumFromF mm_nightOfF mm_sumBehindF mm_codeSortF mm_codeValueF mm_milesToldF mm_placesF mm_placeAtF mm_talkOfF k7 (mm_askedF_7, g_11, g_14, mm_stackL_7, mm_talkingOfF_7, x1_7, x2_7, x3_7 + (-1))))))) else fX12_walks_b71 N mmI mm_sumFromF mm_nightOfF mm_sumBehindF mm_codeSortF mm_codeValueF mm_milesToldF mm_placesF mm_placeAtF mm_talkOfF k7 (mm_askedF_7, g_8, mm_roundsOfF_7, mm_stackL_7, mm_talkingOfF_7, x1_7, x2_7, x3_7 + (-1))))))))
def fX12_walks (N : Nat) (mmI : Nat → Int32) (mm_sumFromF : Nat → Int32) (mm_nightOfF : Nat → Int32) (mm_askedF : Nat → Int32) (mm_mileOfF : Nat → Int32) (mm_roundsOfF : Nat → Int32) (mm_sumBehindF : Nat → Int32) (mm_stackL : Nat → Int64) (mm_codeSortF : Nat → Int32) (mm_codeValueF : Nat → Int32) (mm_milesToldF : Nat → Int32) (mm_placesF : Nat → Int32) (mm_placeAtF : Nat → Int32) (mm_talkOfF : Nat → Int32) (mm_talkingOfF : Nat → Int32)  (p1 : Int32) (p2 : Int32) : Option ((Nat → Int32) × (Nat → Int32) × (Nat → Int32) × (Nat → Int64) × (Nat → Int32)) :=
  (xq_bd (fX12_strideOf N mmI mm_sumFromF mm_nightOfF mm_askedF mm_mileOfF mm_roundsOfF mm_sumBehindF mm_stackL mm_codeSortF mm_codeValueF p1 p2) fun (r_1_0, r_1_1, r_1_2) => xq_loop (fX12_walks_l7 N mmI mm_sumFromF mm_nightOfF mm_sumBehindF mm_codeSortF mm_codeValueF mm_milesToldF mm_placesF mm_placeAtF mm_talkOfF) N (r_1_1, mm_mileOfF, mm_roundsOfF, r_1_2, mm_talkingOfF, p1, p2, r_1_0))
set_option maxHeartbeats 4000000 in
set_option maxRecDepth 100000 in
theorem kX12_walks (l : Launch) (dC : Nat → ClassId) (dI : Nat → Nat → Nat) (cI cB cJ cZ cM : ClassId) (z : Nat) (ad : Nat → Nat) (N : Nat) (a_p0 : Nat) (mmI : Nat → Int32) (mmJ : Nat → Int64) (mmR : Nat → Nat) (mm_sumFromF : Nat → Int32) (mm_nightOfF : Nat → Int32) (mm_askedF : Nat → Int32) (mm_mileOfF : Nat → Int32) (mm_roundsOfF : Nat → Int32) (mm_sumBehindF : Nat → Int32) (mm_stackL : Nat → Int64) (mm_codeSortF : Nat → Int32) (mm_codeValueF : Nat → Int32) (mm_milesToldF : Nat → Int32) (mm_placesF : Nat → Int32) (mm_placeAtF : Nat → Int32) (mm_talkOfF : Nat → Int32) (mm_talkingOfF : Nat → Int32) (p1 : Int32) (p2 : Int32) {r0 : Nat → Int32} {r1 : Nat → Int32} {r2 : Nat → Int32} {r3 : Nat → Int64} {r4 : Nat → Int32} (hf : fX12_walks N mmI mm_sumFromF mm_nightOfF mm_askedF mm_mileOfF mm_roundsOfF mm_sumBehindF mm_stackL mm_codeSortF mm_codeValueF mm_milesToldF mm_placesF mm_placeAtF mm_talkOfF mm_talkingOfF p1 p2 = some (r0, r1, r2, r3, r4)) : xq_Ct l yX12_walks wsX12_walks { frames := 4, cells := 0, slots := 0, locals := 97 } (dC, dI) vwCl (xq_tys cI cB cJ cZ cM) z ad [.ref a_p0, .int p1, .int p2] [(a_p0, .inr (12, oX12 mmI mmJ mmR)), ((mmR 24), .inl (cI, 6, .inl mm_sumFromF)), ((mmR 45), .inl (cI, 22, .inl mm_nightOfF)), ((mmR 58), .inl (cI, 12, .inl mm_askedF)), ((mmR 46), .inl (cI, 22, .inl mm_mileOfF)), ((mmR 47), .inl (cI, 22, .inl mm_roundsOfF)), ((mmR 25), .inl (cI, 6, .inl mm_sumBehindF)), ((mmR 57), .inl (cJ, 500, .inr (.inl mm_stackL))), ((mmR 26), .inl (cI, 3200, .inl mm_codeSortF)), ((mmR 27), .inl (cI, 3200, .inl mm_codeValueF)), ((mmR 14), .inl (cI, 2, .inl mm_milesToldF)), ((mmR 21), .inl (cI, 2, .inl mm_placesF)), ((mmR 22), .inl (cI, 12, .inl mm_placeAtF)), ((mmR 51), .inl (cI, 132, .inl mm_talkOfF)), ((mmR 48), .inl (cI, 22, .inl mm_talkingOfF))] [(a_p0, .inr (12, oX12 mmI mmJ mmR)), ((mmR 24), .inl (cI, 6, .inl mm_sumFromF)), ((mmR 45), .inl (cI, 22, .inl mm_nightOfF)), ((mmR 58), .inl (cI, 12, .inl r0)), ((mmR 46), .inl (cI, 22, .inl r1)), ((mmR 47), .inl (cI, 22, .inl r2)), ((mmR 25), .inl (cI, 6, .inl mm_sumBehindF)), ((mmR 57), .inl (cJ, 500, .inr (.inl r3))), ((mmR 26), .inl (cI, 3200, .inl mm_codeSortF)), ((mmR 27), .inl (cI, 3200, .inl mm_codeValueF)), ((mmR 14), .inl (cI, 2, .inl mm_milesToldF)), ((mmR 21), .inl (cI, 2, .inl mm_placesF)), ((mmR 22), .inl (cI, 12, .inl mm_placeAtF)), ((mmR 51), .inl (cI, 132, .inl mm_talkOfF)), ((mmR 48), .inl (cI, 22, .inl r4))] none := by
  intro sz
  refine Met.ofW (cc := cX12_walks) (maxL := 5) (ret := none) (by decide) rfl ?_
  intro p e s m args below meth c s₁ B hml hv
  obtain ⟨rfl, hsz, hP, hK, hD0, hE, hz⟩ := hv
  have hx := B.exec
  have hb := B.bytes
  have hr := B.returns
  have hts := atoms_spec (ws := wsX12_walks) B.pre
  have hown : s.vm.findClass RX12 = some m.cls := findClass_of_methodNamed B.named
  have hlocks := B.notSynchronized
  subst hsz
  have hD := hD0.self (sz := s.heap.size)
  have hN := xq_Env.of hE hz hD0
  generalize hAe : va_A [(a_p0, .inr (12, oX12 mmI mmJ mmR)), ((mmR 24), .inl (cI, 6, .inl mm_sumFromF)), ((mmR 45), .inl (cI, 22, .inl mm_nightOfF)), ((mmR 58), .inl (cI, 12, .inl mm_askedF)), ((mmR 46), .inl (cI, 22, .inl mm_mileOfF)), ((mmR 47), .inl (cI, 22, .inl mm_roundsOfF)), ((mmR 25), .inl (cI, 6, .inl mm_sumBehindF)), ((mmR 57), .inl (cJ, 500, .inr (.inl mm_stackL))), ((mmR 26), .inl (cI, 3200, .inl mm_codeSortF)), ((mmR 27), .inl (cI, 3200, .inl mm_codeValueF)), ((mmR 14), .inl (cI, 2, .inl mm_milesToldF)), ((mmR 21), .inl (cI, 2, .inl mm_placesF)), ((mmR 22), .inl (cI, 12, .inl mm_placeAtF)), ((mmR 51), .inl (cI, 132, .inl mm_talkOfF)), ((mmR 48), .inl (cI, 22, .inl mm_talkingOfF))] s.heap.size = A at hD hN ⊢
  have hA : ∀ q : Nat, s.heap.size ≤ q → A q := fun q h => by rw [← hAe]; exact Or.inr h
  clear hAe hD0
  have hS : va_S A s.heap s.heap [] := va_S.rf
  have hl := lv_entry ([.ref a_p0, .int p1, .int p2]) (n := 5) (Nat.le_of_ble_eq_true rfl)
  rw [lg_entry_eq]
  generalize (lg_sl ([.ref a_p0, .int p1, .int p2]) ++ List.replicate (5 - (lg_sl ([.ref a_p0, .int p1, .int p2])).length) Slot.unset).toArray = ls at hl ⊢
  have hl : lv_has ls 5 [(0, .ref a_p0), (1, .int p1), (2, .int p2)] := hl
  have hw0 := hts (.fieldLink RX12 153 "DistantVoiceModel" "mileOf" "[I") (by decide +kernel)
  have hinX12 : ∀ w ∈ wsX120, w ∈ wsX12_walks := fun w h => List.mem_cons_of_mem _ (List.mem_append_right _ h)
  have hw2 := hts (.fieldLink RX12 54 "DistantVoiceModel" "milesTold" "[I") (by decide +kernel)
  have hw3 := hts (.fieldLink RX12 51 "DistantVoiceModel" "bank" "I") (by decide +kernel)
  have hw4 := hts (.fieldLink RX12 156 "DistantVoiceModel" "roundsOf" "[I") (by decide +kernel)
  have hw5 := hts (.fieldLink RX12 159 "DistantVoiceModel" "talkingOf" "[I") (by decide +kernel)
  have l7 : ∀ n7 : Nat, ∀ (mm_askedF_7 : Nat → Int32) (mm_mileOfF_7 : Nat → Int32) (mm_roundsOfF_7 : Nat → Int32) (mm_stackL_7 : Nat → Int64) (mm_talkingOfF_7 : Nat → Int32) (x1_7 : Int32) (x2_7 : Int32) (x3_7 : Int32) (ls : Array Slot) (H : Heap) (locs : List Loc), xq_loop (fX12_walks_l7 N mmI mm_sumFromF mm_nightOfF mm_sumBehindF mm_codeSortF mm_codeValueF mm_milesToldF mm_placesF mm_placeAtF mm_talkOfF) n7 (mm_askedF_7, mm_mileOfF_7, mm_roundsOfF_7, mm_stackL_7, mm_talkingOfF_7, x1_7, x2_7, x3_7) = some (r0, r1, r2, r3, r4) → va_P (dC, dI) vwCl [(a_p0, .inr (12, oX12 mmI mmJ mmR)), ((mmR 24), .inl (cI, 6, .inl mm_sumFromF)), ((mmR 45), .inl (cI, 22, .inl mm_nightOfF)), ((mmR 58), .inl (cI, 12, .inl mm_askedF_7)), ((mmR 46), .inl (cI, 22, .inl mm_mileOfF_7)), ((mmR 47), .inl (cI, 22, .inl mm_roundsOfF_7)), ((mmR 25), .inl (cI, 6, .inl mm_sumBehindF)), ((mmR 57), .inl (cJ, 500, .inr (.inl mm_stackL_7))), ((mmR 26), .inl (cI, 3200, .inl mm_codeSortF)), ((mmR 27), .inl (cI, 3200, .inl mm_codeValueF)), ((mmR 14), .inl (cI, 2, .inl mm_milesToldF)), ((mmR 21), .inl (cI, 2, .inl mm_placesF)), ((mmR 22), .inl (cI, 12, .inl mm_placeAtF)), ((mmR 51), .inl (cI, 132, .inl mm_talkOfF)), ((mmR 48), .inl (cI, 22, .inl mm_talkingOfF_7))] H → va_D A [(a_p0, .inr (12, oX12 mmI mmJ mmR)), ((mmR 24), .inl (cI, 6, .inl mm_sumFromF)), ((mmR 45), .inl (cI, 22, .inl mm_nightOfF)), ((mmR 58), .inl (cI, 12, .inl mm_askedF_7)), ((mmR 46), .inl (cI, 22, .inl mm_mileOfF_7)), ((mmR 47), .inl (cI, 22, .inl mm_roundsOfF_7)), ((mmR 25), .inl (cI, 6, .inl mm_sumBehindF)), ((mmR 57), .inl (cJ, 500, .inr (.inl mm_stackL_7))), ((mmR 26), .inl (cI, 3200, .inl mm_codeSortF)), ((mmR 27), .inl (cI, 3200, .inl mm_codeValueF)), ((mmR 14), .inl (cI, 2, .inl mm_milesToldF)), ((mmR 21), .inl (cI, 2, .inl mm_placesF)), ((mmR 22), .inl (cI, 12, .inl mm_placeAtF)), ((mmR 51), .inl (cI, 132, .inl mm_talkOfF)), ((mmR 48), .inl (cI, 22, .inl mm_talkingOfF_7))] → va_S A s.heap H locs → lv_has ls 5 [(0, .ref a_p0), (1, .int x1_7), (2, .int x2_7), (3, .int x3_7)] → W p l e (headSpec wsX12_walks { frames := 4, cells := 0, slots := 0, locals := 97 }).room s m [.ref a_p0, .int p1, .int p2].toArray below meth c H locs 0 0 (MQ below (xq_Q (dC, dI) vwCl (xq_tys cI cB cJ cZ cM) A [(a_p0, .inr (12, oX12 mmI mmJ mmR)), ((mmR 24), .inl (cI, 6, .inl mm_sumFromF)), ((mmR 45), .inl (cI, 22, .inl mm_nightOfF)), ((mmR 58), .inl (cI, 12, .inl r0)), ((mmR 46), .inl (cI, 22, .inl r1)), ((mmR 47), .inl (cI, 22, .inl r2)), ((mmR 25), .inl (cI, 6, .inl mm_sumBehindF)), ((mmR 57), .inl (cJ, 500, .inr (.inl r3))), ((mmR 26), .inl (cI, 3200, .inl mm_codeSortF)), ((mmR 27), .inl (cI, 3200, .inl mm_codeValueF)), ((mmR 14), .inl (cI, 2, .inl mm_milesToldF)), ((mmR 21), .inl (cI, 2, .inl mm_placesF)), ((mmR 22), .inl (cI, 12, .inl mm_placeAtF)), ((mmR 51), .inl (cI, 132, .inl mm_talkOfF)), ((mmR 48), .inl (cI, 22, .inl r4))] none) [.ref a_p0, .int p1, .int p2].toArray s 0 0 A) (F0 m 7 ls []) := by
    intro n7
    induction n7 with
    | zero => intro mm_askedF_7 mm_mileOfF_7 mm_roundsOfF_7 mm_stackL_7 mm_talkingOfF_7 x1_7 x2_7 x3_7 ls H locs hf; cases (show none = some (r0, r1, r2, r3, r4) from hf)
    | succ n7 ih7 =>
      have b71 : ∀ (mm_askedF_71 : Nat → Int32) (mm_mileOfF_71 : Nat → Int32) (mm_roundsOfF_71 : Nat → Int32) (mm_stackL_71 : Nat → Int64) (mm_talkingOfF_71 : Nat → Int32) (x1_71 : Int32) (x2_71 : Int32) (x3_71 : Int32) (ls : Array Slot) (H : Heap) (locs : List Loc), fX12_walks_b71 N mmI mm_sumFromF mm_nightOfF mm_sumBehindF mm_codeSortF mm_codeValueF mm_milesToldF mm_placesF mm_placeAtF mm_talkOfF (xq_loop (fX12_walks_l7 N mmI mm_sumFromF mm_nightOfF mm_sumBehindF mm_codeSortF mm_codeValueF mm_milesToldF mm_placesF mm_placeAtF mm_talkOfF) n7) (mm_askedF_71, mm_mileOfF_71, mm_roundsOfF_71, mm_stackL_71, mm_talkingOfF_71, x1_71, x2_71, x3_71) = some (r0, r1, r2, r3, r4) → va_P (dC, dI) vwCl [(a_p0, .inr (12, oX12 mmI mmJ mmR)), ((mmR 24), .inl (cI, 6, .inl mm_sumFromF)), ((mmR 45), .inl (cI, 22, .inl mm_nightOfF)), ((mmR 58), .inl (cI, 12, .inl mm_askedF_71)), ((mmR 46), .inl (cI, 22, .inl mm_mileOfF_71)), ((mmR 47), .inl (cI, 22, .inl mm_roundsOfF_71)), ((mmR 25), .inl (cI, 6, .inl mm_sumBehindF)), ((mmR 57), .inl (cJ, 500, .inr (.inl mm_stackL_71))), ((mmR 26), .inl (cI, 3200, .inl mm_codeSortF)), ((mmR 27), .inl (cI, 3200, .inl mm_codeValueF)), ((mmR 14), .inl (cI, 2, .inl mm_milesToldF)), ((mmR 21), .inl (cI, 2, .inl mm_placesF)), ((mmR 22), .inl (cI, 12, .inl mm_placeAtF)), ((mmR 51), .inl (cI, 132, .inl mm_talkOfF)), ((mmR 48), .inl (cI, 22, .inl mm_talkingOfF_71))] H → va_D A [(a_p0, .inr (12, oX12 mmI mmJ mmR)), ((mmR 24), .inl (cI, 6, .inl mm_sumFromF)), ((mmR 45), .inl (cI, 22, .inl mm_nightOfF)), ((mmR 58), .inl (cI, 12, .inl mm_askedF_71)), ((mmR 46), .inl (cI, 22, .inl mm_mileOfF_71)), ((mmR 47), .inl (cI, 22, .inl mm_roundsOfF_71)), ((mmR 25), .inl (cI, 6, .inl mm_sumBehindF)), ((mmR 57), .inl (cJ, 500, .inr (.inl mm_stackL_71))), ((mmR 26), .inl (cI, 3200, .inl mm_codeSortF)), ((mmR 27), .inl (cI, 3200, .inl mm_codeValueF)), ((mmR 14), .inl (cI, 2, .inl mm_milesToldF)), ((mmR 21), .inl (cI, 2, .inl mm_placesF)), ((mmR 22), .inl (cI, 12, .inl mm_placeAtF)), ((mmR 51), .inl (cI, 132, .inl mm_talkOfF)), ((mmR 48), .inl (cI, 22, .inl mm_talkingOfF_71))] → va_S A s.heap H locs → lv_has ls 5 [(0, .ref a_p0), (1, .int x1_71), (2, .int x2_71), (3, .int x3_71)] → W p l e (headSpec wsX12_walks { frames := 4, cells := 0, slots := 0, locals := 97 }).room s m [.ref a_p0, .int p1, .int p2].toArray below meth c H locs 0 0 (MQ below (xq_Q (dC, dI) vwCl (xq_tys cI cB cJ cZ cM) A [(a_p0, .inr (12, oX12 mmI mmJ mmR)), ((mmR 24), .inl (cI, 6, .inl mm_sumFromF)), ((mmR 45), .inl (cI, 22, .inl mm_nightOfF)), ((mmR 58), .inl (cI, 12, .inl r0)), ((mmR 46), .inl (cI, 22, .inl r1)), ((mmR 47), .inl (cI, 22, .inl r2)), ((mmR 25), .inl (cI, 6, .inl mm_sumBehindF)), ((mmR 57), .inl (cJ, 500, .inr (.inl r3))), ((mmR 26), .inl (cI, 3200, .inl mm_codeSortF)), ((mmR 27), .inl (cI, 3200, .inl mm_codeValueF)), ((mmR 14), .inl (cI, 2, .inl mm_milesToldF)), ((mmR 21), .inl (cI, 2, .inl mm_placesF)), ((mmR 22), .inl (cI, 12, .inl mm_placeAtF)), ((mmR 51), .inl (cI, 132, .inl mm_talkOfF)), ((mmR 48), .inl (cI, 22, .inl r4))] none) [.ref a_p0, .int p1, .int p2].toArray s 0 0 A) (F0 m 71 ls []) := by
        intro mm_askedF_71 mm_mileOfF_71 mm_roundsOfF_71 mm_stackL_71 mm_talkingOfF_71 x1_71 x2_71 x3_71 ls H locs hf hP hD hS hl
        unfold fX12_walks_b71 at hf
        refine lv_aload_n hx hb dX12_walks_71 rfl (lv_at hl 0 rfl) ?_
        refine lv_aload_n hx hb dX12_walks_72 rfl (lv_at hl 0 rfl) ?_
        refine va_get (D := (dC, dI)) (ci := 12) (v := .ref ((mmR 46))) (C := RX12) (T := TX12) (N := 70) hx hb hts hinX12 hown hK hP 0 rfl rfl 46 (by decide) hw0 (fun _ h9 => h9) rfl dX12_walks_73 ?_
        refine lv_iload_n hx hb dX12_walks_76 rfl (lv_at hl 1 rfl) ?_
        refine xq_iald hx hb hK hP 4 0 rfl rfl hf dX12_walks_77 (fun v_1 hf => ?_)
        obtain ⟨r_2, h_3, hf⟩ := xq_bd_some hf
        refine xq_callV (As := [.int v_1]) (rest := []) (ci := 12) (q0 := 0) ⟨hx, hb, hml, hown, hts⟩ (kX12_placeOn l dC dI cI cB cJ cZ cM z ad N a_p0 mmI mmJ mmR mm_placesF mm_placeAtF v_1 h_3) (cwV 1 hts gX12_walks_X12_placeOn rfl rfl rfl (by decide +kernel) ⟨Nat.le_of_ble_eq_true rfl, Nat.le_of_ble_eq_true rfl⟩) hN hK hP hD hS hA [0, 11, 12] (by decide) rfl rfl rfl rfl rfl rfl hl.1 rfl (Nat.le_of_ble_eq_true rfl) dX12_walks_78 ⟨Nat.zero_le _, Nat.zero_le _⟩ (fun H locs hP hD hS => ?_)
        have hP : va_P (dC, dI) vwCl [(a_p0, .inr (12, oX12 mmI mmJ mmR)), ((mmR 24), .inl (cI, 6, .inl mm_sumFromF)), ((mmR 45), .inl (cI, 22, .inl mm_nightOfF)), ((mmR 58), .inl (cI, 12, .inl mm_askedF_71)), ((mmR 46), .inl (cI, 22, .inl mm_mileOfF_71)), ((mmR 47), .inl (cI, 22, .inl mm_roundsOfF_71)), ((mmR 25), .inl (cI, 6, .inl mm_sumBehindF)), ((mmR 57), .inl (cJ, 500, .inr (.inl mm_stackL_71))), ((mmR 26), .inl (cI, 3200, .inl mm_codeSortF)), ((mmR 27), .inl (cI, 3200, .inl mm_codeValueF)), ((mmR 14), .inl (cI, 2, .inl mm_milesToldF)), ((mmR 21), .inl (cI, 2, .inl mm_placesF)), ((mmR 22), .inl (cI, 12, .inl mm_placeAtF)), ((mmR 51), .inl (cI, 132, .inl mm_talkOfF)), ((mmR 48), .inl (cI, 22, .inl mm_talkingOfF_71))] H := hP
        have hD : va_D A [(a_p0, .inr (12, oX12 mmI mmJ mmR)), ((mmR 24), .inl (cI, 6, .inl mm_sumFromF)), ((mmR 45), .inl (cI, 22, .inl mm_nightOfF)), ((mmR 58), .inl (cI, 12, .inl mm_askedF_71)), ((mmR 46), .inl (cI, 22, .inl mm_mileOfF_71)), ((mmR 47), .inl (cI, 22, .inl mm_roundsOfF_71)), ((mmR 25), .inl (cI, 6, .inl mm_sumBehindF)), ((mmR 57), .inl (cJ, 500, .inr (.inl mm_stackL_71))), ((mmR 26), .inl (cI, 3200, .inl mm_codeSortF)), ((mmR 27), .inl (cI, 3200, .inl mm_codeValueF)), ((mmR 14), .inl (cI, 2, .inl mm_milesToldF)), ((mmR 21), .inl (cI, 2, .inl mm_placesF)), ((mmR 22), .inl (cI, 12, .inl mm_placeAtF)), ((mmR 51), .inl (cI, 132, .inl mm_talkOfF)), ((mmR 48), .inl (cI, 22, .inl mm_talkingOfF_71))] := hD
        refine W.eq (g2 := F0 m 81 ls [.int r_2]) rfl ?_
        refine lv_istore (lv' := [(4, .int r_2), (0, .ref a_p0), (1, .int x1_71), (2, .int x2_71), (3, .int x3_71)]) hx hb dX12_walks_81 hl (by decide) rfl (fun ls hl => ?_)
        refine lv_iload hx hb dX12_walks_83 (lv_at hl 0 rfl) ?_
        refine lv_iconst (v := (-1)) hx hb dX12_walks_85 (by decide) ?_
        refine lv_icmp_ne (tgt := 92) hx hb dX12_walks_86 (by decide) (fun c_ => ?_) (fun c_ => ?_)
        · have hf := xq_neg hf c_
          refine lv_aload_n hx hb dX12_walks_92 rfl (lv_at hl 1 rfl) ?_
          refine va_get (D := (dC, dI)) (ci := 12) (v := .ref ((mmR 48))) (C := RX12) (T := TX12) (N := 70) hx hb hts hinX12 hown hK hP 0 rfl rfl 48 (by decide) hw5 (fun _ h9 => h9) rfl dX12_walks_93 ?_
          refine lv_iload_n hx hb dX12_walks_96 rfl (lv_at hl 2 rfl) ?_
          refine lv_aload_n hx hb dX12_walks_97 rfl (lv_at hl 1 rfl) ?_
          refine lv_iload_n hx hb dX12_walks_98 rfl (lv_at hl 2 rfl) ?_
          refine lv_iload hx hb dX12_walks_99 (lv_at hl 0 rfl) ?_
          refine lv_iload_n hx hb dX12_walks_101 rfl (lv_at hl 3 rfl) ?_
          obtain ⟨⟨r_4_0, r_4_1, r_4_2⟩, h_5, hf⟩ := xq_bd_some hf
          refine xq_callV (As := [.int x1_71, .int r_2, .int x2_71]) (rest := [.int x1_71, .ref ((mmR 48))]) (ci := 12) (q0 := 0) ⟨hx, hb, hml, hown, hts⟩ (kX12_talkAt l dC dI cI cB cJ cZ cM z ad N a_p0 mmI mmJ mmR mm_talkOfF mm_sumFromF mm_nightOfF mm_askedF_71 mm_sumBehindF mm_stackL_71 mm_codeSortF mm_codeValueF x1_71 r_2 x2_71 h_5) (cwV 3 hts gX12_walks_X12_talkAt rfl rfl rfl (by decide +kernel) ⟨Nat.le_of_ble_eq_true rfl, Nat.le_of_ble_eq_true rfl⟩) hN hK hP hD hS hA [0, 13, 1, 2, 3, 6, 7, 8, 9] (by decide) rfl rfl rfl rfl rfl rfl hl.1 rfl (Nat.le_of_ble_eq_true rfl) dX12_walks_102 ⟨Nat.zero_le _, Nat.zero_le _⟩ (fun H locs hP hD hS => ?_)
          have hP : va_P (dC, dI) vwCl [(a_p0, .inr (12, oX12 mmI mmJ mmR)), ((mmR 24), .inl (cI, 6, .inl mm_sumFromF)), ((mmR 45), .inl (cI, 22, .inl mm_nightOfF)), ((mmR 58), .inl (cI, 12, .inl r_4_1)), ((mmR 46), .inl (cI, 22, .inl mm_mileOfF_71)), ((mmR 47), .inl (cI, 22, .inl mm_roundsOfF_71)), ((mmR 25), .inl (cI, 6, .inl mm_sumBehindF)), ((mmR 57), .inl (cJ, 500, .inr (.inl r_4_2))), ((mmR 26), .inl (cI, 3200, .inl mm_codeSortF)), ((mmR 27), .inl (cI, 3200, .inl mm_codeValueF)), ((mmR 14), .inl (cI, 2, .inl mm_milesToldF)), ((mmR 21), .inl (cI, 2, .inl mm_placesF)), ((mmR 22), .inl (cI, 12, .inl mm_placeAtF)), ((mmR 51), .inl (cI, 132, .inl mm_talkOfF)), ((mmR 48), .inl (cI, 22, .inl mm_talkingOfF_71))] H := hP
          have hD : va_D A [(a_p0, .inr (12, oX12 mmI mmJ mmR)), ((mmR 24), .inl (cI, 6, .inl mm_sumFromF)), ((mmR 45), .inl (cI, 22, .inl mm_nightOfF)), ((mmR 58), .inl (cI, 12, .inl r_4_1)), ((mmR 46), .inl (cI, 22, .inl mm_mileOfF_71)), ((mmR 47), .inl (cI, 22, .inl mm_roundsOfF_71)), ((mmR 25), .inl (cI, 6, .inl mm_sumBehindF)), ((mmR 57), .inl (cJ, 500, .inr (.inl r_4_2))), ((mmR 26), .inl (cI, 3200, .inl mm_codeSortF)), ((mmR 27), .inl (cI, 3200, .inl mm_codeValueF)), ((mmR 14), .inl (cI, 2, .inl mm_milesToldF)), ((mmR 21), .inl (cI, 2, .inl mm_placesF)), ((mmR 22), .inl (cI, 12, .inl mm_placeAtF)), ((mmR 51), .inl (cI, 132, .inl mm_talkOfF)), ((mmR 48), .inl (cI, 22, .inl mm_talkingOfF_71))] := hD
          refine W.eq (g2 := F0 m 105 ls [.int r_4_0, .int x1_71, .ref ((mmR 48))]) rfl ?_
          refine xq_iast hx hb hK hP hD hS 14 0 rfl rfl hf dX12_walks_105 (fun g_6 H locs hf hP hD hS => ?_)
          have hP : va_P (dC, dI) vwCl [(a_p0, .inr (12, oX12 mmI mmJ mmR)), ((mmR 24), .inl (cI, 6, .inl mm_sumFromF)), ((mmR 45), .inl (cI, 22, .inl mm_nightOfF)), ((mmR 58), .inl (cI, 12, .inl r_4_1)), ((mmR 46), .inl (cI, 22, .inl mm_mileOfF_71)), ((mmR 47), .inl (cI, 22, .inl mm_roundsOfF_71)), ((mmR 25), .inl (cI, 6, .inl mm_sumBehindF)), ((mmR 57), .inl (cJ, 500, .inr (.inl r_4_2))), ((mmR 26), .inl (cI, 3200, .inl mm_codeSortF)), ((mmR 27), .inl (cI, 3200, .inl mm_codeValueF)), ((mmR 14), .inl (cI, 2, .inl mm_milesToldF)), ((mmR 21), .inl (cI, 2, .inl mm_placesF)), ((mmR 22), .inl (cI, 12, .inl mm_placeAtF)), ((mmR 51), .inl (cI, 132, .inl mm_talkOfF)), ((mmR 48), .inl (cI, 22, .inl g_6))] H := hP
          have hD : va_D A [(a_p0, .inr (12, oX12 mmI mmJ mmR)), ((mmR 24), .inl (cI, 6, .inl mm_sumFromF)), ((mmR 45), .inl (cI, 22, .inl mm_nightOfF)), ((mmR 58), .inl (cI, 12, .inl r_4_1)), ((mmR 46), .inl (cI, 22, .inl mm_mileOfF_71)), ((mmR 47), .inl (cI, 22, .inl mm_roundsOfF_71)), ((mmR 25), .inl (cI, 6, .inl mm_sumBehindF)), ((mmR 57), .inl (cJ, 500, .inr (.inl r_4_2))), ((mmR 26), .inl (cI, 3200, .inl mm_codeSortF)), ((mmR 27), .inl (cI, 3200, .inl mm_codeValueF)), ((mmR 14), .inl (cI, 2, .inl mm_milesToldF)), ((mmR 21), .inl (cI, 2, .inl mm_placesF)), ((mmR 22), .inl (cI, 12, .inl mm_placeAtF)), ((mmR 51), .inl (cI, 132, .inl mm_talkOfF)), ((mmR 48), .inl (cI, 22, .inl g_6))] := hD
          refine lv_iconst (v := 0) hx hb dX12_walks_106 (by decide) ?_
          refine lv_istore_n (lv' := [(3, .int 0), (4, .int r_2), (0, .ref a_p0), (1, .int x1_71), (2, .int x2_71)]) hx hb dX12_walks_107 rfl hl (by decide) rfl (fun ls hl => ?_)
          refine lv_goto (tgt := 7) hx hb dX12_walks_108 (by decide) ?_
          exact ih7 r_4_1 mm_mileOfF_71 mm_roundsOfF_71 r_4_2 g_6 x1_71 x2_71 0 _ _ _ hf hP hD hS (lv_sub hl [2, 3, 4, 0] rfl)
        · have hf := xq_pos hf c_
          refine lv_goto (tgt := 7) hx hb dX12_walks_89 (by decide) ?_
          exact ih7 mm_askedF_71 mm_mileOfF_71 mm_roundsOfF_71 mm_stackL_71 mm_talkingOfF_71 x1_71 x2_71 x3_71 _ _ _ hf hP hD hS (lv_sub hl [1, 2, 3, 4] rfl)
      intro mm_askedF_7 mm_mileOfF_7 mm_roundsOfF_7 mm_stackL_7 mm_talkingOfF_7 x1_7 x2_7 x3_7 ls H locs hf hP hD hS hl
      have hf : fX12_walks_l7 N mmI mm_sumFromF mm_nightOfF mm_sumBehindF mm_codeSortF mm_codeValueF mm_milesToldF mm_placesF mm_placeAtF mm_talkOfF (xq_loop (fX12_walks_l7 N mmI mm_sumFromF mm_nightOfF mm_sumBehindF mm_codeSortF mm_codeValueF mm_milesToldF mm_placesF mm_placeAtF mm_talkOfF) n7) (mm_askedF_7, mm_mileOfF_7, mm_roundsOfF_7, mm_stackL_7, mm_talkingOfF_7, x1_7, x2_7, x3_7) = some (r0, r1, r2, r3, r4) := hf
      unfold fX12_walks_l7 at hf
      refine lv_iload_n hx hb dX12_walks_7 rfl (lv_at hl 3 rfl) ?_
      refine lv_if_le (tgt := 111) hx hb dX12_walks_8 (by decide) (fun c_ => ?_) (fun c_ => ?_)
      · have hf := xq_pos hf c_
        have e9 := Option.some.inj hf
        have e9_0 : mm_askedF_7 = r0 := congrArg (fun t => t.1) e9
        have e9_1 : mm_mileOfF_7 = r1 := congrArg (fun t => t.2.1) e9
        have e9_2 : mm_roundsOfF_7 = r2 := congrArg (fun t => t.2.2.1) e9
        have e9_3 : mm_stackL_7 = r3 := congrArg (fun t => t.2.2.2.1) e9
        have e9_4 : mm_talkingOfF_7 = r4 := congrArg (fun t => t.2.2.2.2) e9
        clear e9 hf
        try clear b71
        try clear l7
        try clear ih7
        subst e9_0
        subst e9_1
        subst e9_2
        subst e9_3
        subst e9_4
        exact xq_vret hx hb hr hlocks hK hP hD hS dX12_walks_111
      · have hf := xq_neg hf c_
        refine lv_iinc (v := x3_7 + (-1)) (lv' := [(3, .int (x3_7 + (-1))), (0, .ref a_p0), (1, .int x1_7), (2, .int x2_7)]) hx hb dX12_walks_11 hl (k := 3) rfl (congrArg (fun q9 => x3_7 + q9) (by decide : Int32.ofInt (-1) = (-1))) (by decide) rfl (fun ls hl => ?_)
        refine lv_aload_n hx hb dX12_walks_14 rfl (lv_at hl 1 rfl) ?_
        refine va_get (D := (dC, dI)) (ci := 12) (v := .ref ((mmR 46))) (C := RX12) (T := TX12) (N := 70) hx hb hts hinX12 hown hK hP 0 rfl rfl 46 (by decide) hw0 (fun _ h9 => h9) rfl dX12_walks_15 ?_
        refine lv_iload_n hx hb dX12_walks_18 rfl (lv_at hl 2 rfl) ?_
        refine lv_dup2_11 hx hb dX12_walks_19 rfl rfl ?_
        refine xq_iald hx hb hK hP 4 0 rfl rfl hf dX12_walks_20 (fun v_1 hf => ?_)
        refine lv_iconst (v := 1) hx hb dX12_walks_21 (by decide) ?_
        refine lv_iadd hx hb dX12_walks_22 ?_
        refine xq_iast hx hb hK hP hD hS 4 0 rfl rfl hf dX12_walks_23 (fun g_2 H locs hf hP hD hS => ?_)
        have hP : va_P (dC, dI) vwCl [(a_p0, .inr (12, oX12 mmI mmJ mmR)), ((mmR 24), .inl (cI, 6, .inl mm_sumFromF)), ((mmR 45), .inl (cI, 22, .inl mm_nightOfF)), ((mmR 58), .inl (cI, 12, .inl mm_askedF_7)), ((mmR 46), .inl (cI, 22, .inl g_2)), ((mmR 47), .inl (cI, 22, .inl mm_roundsOfF_7)), ((mmR 25), .inl (cI, 6, .inl mm_sumBehindF)), ((mmR 57), .inl (cJ, 500, .inr (.inl mm_stackL_7))), ((mmR 26), .inl (cI, 3200, .inl mm_codeSortF)), ((mmR 27), .inl (cI, 3200, .inl mm_codeValueF)), ((mmR 14), .inl (cI, 2, .inl mm_milesToldF)), ((mmR 21), .inl (cI, 2, .inl mm_placesF)), ((mmR 22), .inl (cI, 12, .inl mm_placeAtF)), ((mmR 51), .inl (cI, 132, .inl mm_talkOfF)), ((mmR 48), .inl (cI, 22, .inl mm_talkingOfF_7))] H := hP
        have hD : va_D A [(a_p0, .inr (12, oX12 mmI mmJ mmR)), ((mmR 24), .inl (cI, 6, .inl mm_sumFromF)), ((mmR 45), .inl (cI, 22, .inl mm_nightOfF)), ((mmR 58), .inl (cI, 12, .inl mm_askedF_7)), ((mmR 46), .inl (cI, 22, .inl g_2)), ((mmR 47), .inl (cI, 22, .inl mm_roundsOfF_7)), ((mmR 25), .inl (cI, 6, .inl mm_sumBehindF)), ((mmR 57), .inl (cJ, 500, .inr (.inl mm_stackL_7))), ((mmR 26), .inl (cI, 3200, .inl mm_codeSortF)), ((mmR 27), .inl (cI, 3200, .inl mm_codeValueF)), ((mmR 14), .inl (cI, 2, .inl mm_milesToldF)), ((mmR 21), .inl (cI, 2, .inl mm_placesF)), ((mmR 22), .inl (cI, 12, .inl mm_placeAtF)), ((mmR 51), .inl (cI, 132, .inl mm_talkOfF)), ((mmR 48), .inl (cI, 22, .inl mm_talkingOfF_7))] := hD
        refine lv_aload_n hx hb dX12_walks_24 rfl (lv_at hl 1 rfl) ?_
        refine va_get (D := (dC, dI)) (ci := 12) (v := .ref ((mmR 46))) (C := RX12) (T := TX12) (N := 70) hx hb hts hinX12 hown hK hP 0 rfl rfl 46 (by decide) hw0 (fun _ h9 => h9) rfl dX12_walks_25 ?_
        refine lv_iload_n hx hb dX12_walks_28 rfl (lv_at hl 2 rfl) ?_
        refine xq_iald hx hb hK hP 4 0 rfl rfl hf dX12_walks_29 (fun v_3 hf => ?_)
        refine lv_aload_n hx hb dX12_walks_30 rfl (lv_at hl 1 rfl) ?_
        refine va_get (D := (dC, dI)) (ci := 12) (v := .ref ((mmR 14))) (C := RX12) (T := TX12) (N := 70) hx hb hts hinX12 hown hK hP 0 rfl rfl 14 (by decide) hw2 (fun _ h9 => h9) rfl dX12_walks_31 ?_
        refine lv_aload_n hx hb dX12_walks_34 rfl (lv_at hl 1 rfl) ?_
        refine va_get (D := (dC, dI)) (ci := 12) (v := .int (mmI 13)) (C := RX12) (T := TX12) (N := 70) hx hb hts hinX12 hown hK hP 0 rfl rfl 13 (by decide) hw3 (fun _ h9 => h9) rfl dX12_walks_35 ?_
        refine xq_iald hx hb hK hP 10 0 rfl rfl hf dX12_walks_38 (fun v_4 hf => ?_)
        refine lv_icmp_ne (tgt := 71) hx hb dX12_walks_39 (by decide) (fun c_ => ?_) (fun c_ => ?_)
        · have hf := xq_neg hf c_
          exact b71 mm_askedF_7 g_2 mm_roundsOfF_7 mm_stackL_7 mm_talkingOfF_7 x1_7 x2_7 (x3_7 + (-1)) _ _ _ hf hP hD hS (lv_sub hl [1, 2, 3, 0] rfl)
        · have hf := xq_pos hf c_
          refine lv_aload_n hx hb dX12_walks_42 rfl (lv_at hl 1 rfl) ?_
          refine va_get (D := (dC, dI)) (ci := 12) (v := .ref ((mmR 46))) (C := RX12) (T := TX12) (N := 70) hx hb hts hinX12 hown hK hP 0 rfl rfl 46 (by decide) hw0 (fun _ h9 => h9) rfl dX12_walks_43 ?_
          refine lv_iload_n hx hb dX12_walks_46 rfl (lv_at hl 2 rfl) ?_
          refine lv_iconst (v := 0) hx hb dX12_walks_47 (by decide) ?_
          refine xq_iast hx hb hK hP hD hS 4 0 rfl rfl hf dX12_walks_48 (fun g_5 H locs hf hP hD hS => ?_)
          have hP : va_P (dC, dI) vwCl [(a_p0, .inr (12, oX12 mmI mmJ mmR)), ((mmR 24), .inl (cI, 6, .inl mm_sumFromF)), ((mmR 45), .inl (cI, 22, .inl mm_nightOfF)), ((mmR 58), .inl (cI, 12, .inl mm_askedF_7)), ((mmR 46), .inl (cI, 22, .inl g_5)), ((mmR 47), .inl (cI, 22, .inl mm_roundsOfF_7)), ((mmR 25), .inl (cI, 6, .inl mm_sumBehindF)), ((mmR 57), .inl (cJ, 500, .inr (.inl mm_stackL_7))), ((mmR 26), .inl (cI, 3200, .inl mm_codeSortF)), ((mmR 27), .inl (cI, 3200, .inl mm_codeValueF)), ((mmR 14), .inl (cI, 2, .inl mm_milesToldF)), ((mmR 21), .inl (cI, 2, .inl mm_placesF)), ((mmR 22), .inl (cI, 12, .inl mm_placeAtF)), ((mmR 51), .inl (cI, 132, .inl mm_talkOfF)), ((mmR 48), .inl (cI, 22, .inl mm_talkingOfF_7))] H := hP
          have hD : va_D A [(a_p0, .inr (12, oX12 mmI mmJ mmR)), ((mmR 24), .inl (cI, 6, .inl mm_sumFromF)), ((mmR 45), .inl (cI, 22, .inl mm_nightOfF)), ((mmR 58), .inl (cI, 12, .inl mm_askedF_7)), ((mmR 46), .inl (cI, 22, .inl g_5)), ((mmR 47), .inl (cI, 22, .inl mm_roundsOfF_7)), ((mmR 25), .inl (cI, 6, .inl mm_sumBehindF)), ((mmR 57), .inl (cJ, 500, .inr (.inl mm_stackL_7))), ((mmR 26), .inl (cI, 3200, .inl mm_codeSortF)), ((mmR 27), .inl (cI, 3200, .inl mm_codeValueF)), ((mmR 14), .inl (cI, 2, .inl mm_milesToldF)), ((mmR 21), .inl (cI, 2, .inl mm_placesF)), ((mmR 22), .inl (cI, 12, .inl mm_placeAtF)), ((mmR 51), .inl (cI, 132, .inl mm_talkOfF)), ((mmR 48), .inl (cI, 22, .inl mm_talkingOfF_7))] := hD
          refine lv_aload_n hx hb dX12_walks_49 rfl (lv_at hl 1 rfl) ?_
          refine va_get (D := (dC, dI)) (ci := 12) (v := .ref ((mmR 47))) (C := RX12) (T := TX12) (N := 70) hx hb hts hinX12 hown hK hP 0 rfl rfl 47 (by decide) hw4 (fun _ h9 => h9) rfl dX12_walks_50 ?_
          refine lv_iload_n hx hb dX12_walks_53 rfl (lv_at hl 2 rfl) ?_
          refine xq_iald hx hb hK hP 5 0 rfl rfl hf dX12_walks_54 (fun v_6 hf => ?_)
          refine lv_sipush (v := 999) hx hb dX12_walks_55 (by decide) ?_
          refine lv_icmp_ge (tgt := 71) hx hb dX12_walks_58 (by decide) (fun c_ => ?_) (fun c_ => ?_)
          · have hf := xq_pos hf c_
            exact b71 mm_askedF_7 g_5 mm_roundsOfF_7 mm_stackL_7 mm_talkingOfF_7 x1_7 x2_7 (x3_7 + (-1)) _ _ _ hf hP hD hS (lv_sub hl [1, 2, 3, 0] rfl)
          · have hf := xq_neg hf c_
            refine lv_aload_n hx hb dX12_walks_61 rfl (lv_at hl 1 rfl) ?_
            refine va_get (D := (dC, dI)) (ci := 12) (v := .ref ((mmR 47))) (C := RX12) (T := TX12) (N := 70) hx hb hts hinX12 hown hK hP 0 rfl rfl 47 (by decide) hw4 (fun _ h9 => h9) rfl dX12_walks_62 ?_
            refine lv_iload_n hx hb dX12_walks_65 rfl (lv_at hl 2 rfl) ?_
            refine lv_dup2_11 hx hb dX12_walks_66 rfl rfl ?_
            refine xq_iald hx hb hK hP 5 0 rfl rfl hf dX12_walks_67 (fun v_7 hf => ?_)
            refine lv_iconst (v := 1) hx hb dX12_walks_68 (by decide) ?_
            refine lv_iadd hx hb dX12_walks_69 ?_
            refine xq_iast hx hb hK hP hD hS 5 0 rfl rfl hf dX12_walks_70 (fun g_8 H locs hf hP hD hS => ?_)
            have hP : va_P (dC, dI) vwCl [(a_p0, .inr (12, oX12 mmI mmJ mmR)), ((mmR 24), .inl (cI, 6, .inl mm_sumFromF)), ((mmR 45), .inl (cI, 22, .inl mm_nightOfF)), ((mmR 58), .inl (cI, 12, .inl mm_askedF_7)), ((mmR 46), .inl (cI, 22, .inl g_5)), ((mmR 47), .inl (cI, 22, .inl g_8)), ((mmR 25), .inl (cI, 6, .inl mm_sumBehindF)), ((mmR 57), .inl (cJ, 500, .inr (.inl mm_stackL_7))), ((mmR 26), .inl (cI, 3200, .inl mm_codeSortF)), ((mmR 27), .inl (cI, 3200, .inl mm_codeValueF)), ((mmR 14), .inl (cI, 2, .inl mm_milesToldF)), ((mmR 21), .inl (cI, 2, .inl mm_placesF)), ((mmR 22), .inl (cI, 12, .inl mm_placeAtF)), ((mmR 51), .inl (cI, 132, .inl mm_talkOfF)), ((mmR 48), .inl (cI, 22, .inl mm_talkingOfF_7))] H := hP
            have hD : va_D A [(a_p0, .inr (12, oX12 mmI mmJ mmR)), ((mmR 24), .inl (cI, 6, .inl mm_sumFromF)), ((mmR 45), .inl (cI, 22, .inl mm_nightOfF)), ((mmR 58), .inl (cI, 12, .inl mm_askedF_7)), ((mmR 46), .inl (cI, 22, .inl g_5)), ((mmR 47), .inl (cI, 22, .inl g_8)), ((mmR 25), .inl (cI, 6, .inl mm_sumBehindF)), ((mmR 57), .inl (cJ, 500, .inr (.inl mm_stackL_7))), ((mmR 26), .inl (cI, 3200, .inl mm_codeSortF)), ((mmR 27), .inl (cI, 3200, .inl mm_codeValueF)), ((mmR 14), .inl (cI, 2, .inl mm_milesToldF)), ((mmR 21), .inl (cI, 2, .inl mm_placesF)), ((mmR 22), .inl (cI, 12, .inl mm_placeAtF)), ((mmR 51), .inl (cI, 132, .inl mm_talkOfF)), ((mmR 48), .inl (cI, 22, .inl mm_talkingOfF_7))] := hD
            exact b71 mm_askedF_7 g_5 g_8 mm_stackL_7 mm_talkingOfF_7 x1_7 x2_7 (x3_7 + (-1)) _ _ _ hf hP hD hS (lv_sub hl [1, 2, 3, 0] rfl)
  unfold fX12_walks at hf
  refine lv_aload_n hx hb dX12_walks_0 rfl (lv_at hl 0 rfl) ?_
  refine lv_iload_n hx hb dX12_walks_1 rfl (lv_at hl 1 rfl) ?_
  refine lv_iload_n hx hb dX12_walks_2 rfl (lv_at hl 2 rfl) ?_
  obtain ⟨⟨r_1_0, r_1_1, r_1_2⟩, h_2, hf⟩ := xq_bd_some hf
  refine xq_callV (As := [.int p1, .int p2]) (rest := []) (ci := 12) (q0 := 0) ⟨hx, hb, hml, hown, hts⟩ (kX12_strideOf l dC dI cI cB cJ cZ cM z ad N a_p0 mmI mmJ mmR mm_sumFromF mm_nightOfF mm_askedF mm_mileOfF mm_roundsOfF mm_sumBehindF mm_stackL mm_codeSortF mm_codeValueF p1 p2 h_2) (cwV 2 hts gX12_walks_X12_strideOf rfl rfl rfl (by decide +kernel) ⟨Nat.le_of_ble_eq_true rfl, Nat.le_of_ble_eq_true rfl⟩) hN hK hP hD hS hA [0, 1, 2, 3, 4, 5, 6, 7, 8, 9] (by decide) rfl rfl rfl rfl rfl rfl hl.1 rfl (Nat.le_of_ble_eq_true rfl) dX12_walks_3 ⟨Nat.zero_le _, Nat.zero_le _⟩ (fun H locs hP hD hS => ?_)
  have hP : va_P (dC, dI) vwCl [(a_p0, .inr (12, oX12 mmI mmJ mmR)), ((mmR 24), .inl (cI, 6, .inl mm_sumFromF)), ((mmR 45), .inl (cI, 22, .inl mm_nightOfF)), ((mmR 58), .inl (cI, 12, .inl r_1_1)), ((mmR 46), .inl (cI, 22, .inl mm_mileOfF)), ((mmR 47), .inl (cI, 22, .inl mm_roundsOfF)), ((mmR 25), .inl (cI, 6, .inl mm_sumBehindF)), ((mmR 57), .inl (cJ, 500, .inr (.inl r_1_2))), ((mmR 26), .inl (cI, 3200, .inl mm_codeSortF)), ((mmR 27), .inl (cI, 3200, .inl mm_codeValueF)), ((mmR 14), .inl (cI, 2, .inl mm_milesToldF)), ((mmR 21), .inl (cI, 2, .inl mm_placesF)), ((mmR 22), .inl (cI, 12, .inl mm_placeAtF)), ((mmR 51), .inl (cI, 132, .inl mm_talkOfF)), ((mmR 48), .inl (cI, 22, .inl mm_talkingOfF))] H := hP
  have hD : va_D A [(a_p0, .inr (12, oX12 mmI mmJ mmR)), ((mmR 24), .inl (cI, 6, .inl mm_sumFromF)), ((mmR 45), .inl (cI, 22, .inl mm_nightOfF)), ((mmR 58), .inl (cI, 12, .inl r_1_1)), ((mmR 46), .inl (cI, 22, .inl mm_mileOfF)), ((mmR 47), .inl (cI, 22, .inl mm_roundsOfF)), ((mmR 25), .inl (cI, 6, .inl mm_sumBehindF)), ((mmR 57), .inl (cJ, 500, .inr (.inl r_1_2))), ((mmR 26), .inl (cI, 3200, .inl mm_codeSortF)), ((mmR 27), .inl (cI, 3200, .inl mm_codeValueF)), ((mmR 14), .inl (cI, 2, .inl mm_milesToldF)), ((mmR 21), .inl (cI, 2, .inl mm_placesF)), ((mmR 22), .inl (cI, 12, .inl mm_placeAtF)), ((mmR 51), .inl (cI, 132, .inl mm_talkOfF)), ((mmR 48), .inl (cI, 22, .inl mm_talkingOfF))] := hD
  refine W.eq (g2 := F0 m 6 ls [.int r_1_0]) rfl ?_
  refine lv_istore_n (lv' := [(3, .int r_1_0), (0, .ref a_p0), (1, .int p1), (2, .int p2)]) hx hb dX12_walks_6 rfl hl (by decide) rfl (fun ls hl => ?_)
  exact l7 N r_1_1 mm_mileOfF mm_roundsOfF r_1_2 mm_talkingOfF p1 p2 r_1_0 _ _ _ hf hP hD hS (lv_sub hl [1, 2, 3, 0] rfl)
set_option maxRecDepth 20000 in
theorem ggX12_counts_X12_isHeardIn : GoodIn wsX12_counts wsX12_isHeardIn := goodIn_r _ [8, 9, 10, 11, 2, 12, 13, 14, 7, 15, 16, 17, 18, 19, 20, 21, 22, 23, 24, 25, 26, 27, 28, 29, 30, 31, 32, 33, 34, 35, 36, 37, 38, 39, 40, 41, 42, 43, 44, 45, 46, 47, 48, 49, 50, 51, 52, 53, 54, 55, 56, 57, 58, 59, 60, 61, 62, 63, 64, 65, 66, 67, 68, 69, 70, 71, 72, 73, 74, 75, 76, 77, 78, 79, 80, 81, 82, 83, 84, 85, 86, 87, 88, 89, 90, 91, 92, 93, 94, 95, 96, 97, 98, 99, 100, 101, 102, 103, 104, 105, 106, 107, 108, 109, 110, 111] rfl (by decide +kernel)
set_option maxRecDepth 20000 in
theorem gX12_counts_X12_isHeardIn : GoodIn wsX12_counts (wsV RX12 437 RX12 yX12_isHeardIn wsX12_isHeardIn) := goodIn_app (goodIn_of _ (by decide +kernel)) ggX12_counts_X12_isHeardIn
def dsX12_counts_0 : List (Nat × Instr × Nat) := [(0, (.iconst 0, 1)), (1, (.istore_n 3, 1)), (2, (.iload_n 3, 1)), (3, (.aload_n 0, 1)), (4, (.getfield 66, 3)), (7, (.aload_n 0, 1)), (8, (.getfield 51, 3)), (11, (.iaload, 1)), (12, (.if_icmp .ge 57, 3)), (15, (.iconst 0, 1)), (16, (.istore 4, 2)), (18, (.iload 4, 2)), (20, (.bipush 10, 2)), (22, (.if_icmp .ge 41, 3)), (25, (.aload_n 0, 1)), (26, (.getfield 192, 3)), (29, (.bipush 10, 2)), (31, (.iload_n 3, 1)), (32, (.imul, 1)), (33, (.iload 4, 2)), (35, (.iadd, 1)), (36, (.dup2, 1)), (37, (.iaload, 1)), (38, (.aload_n 0, 1)), (39, (.iload_n 1, 1)), (40, (.iload_n 3, 1)), (41, (.iload 4, 2)), (43, (.iload_n 2, 1)), (44, (.invokevirtual 437, 3)), (47, (.ifCond .eq 7, 3)), (50, (.iconst 1, 1)), (51, (.goto 4, 3)), (54, (.iconst 0, 1)), (55, (.iadd, 1)), (56, (.iastore, 1)), (57, (.iinc 4 1, 3)), (60, (.goto (-42), 3)), (63, (.iinc 3 1, 3)), (66, (.goto (-64), 3)), (69, (.return_, 1))]
theorem dsX12_counts_0_ok : (dsX12_counts_0.all fun q => decide (decode cX12_counts q.1 = .ok q.2)) = true := by decide +kernel
theorem dX12_counts_0 : decode cX12_counts 0 = .ok (.iconst 0, 1) := of_decide_eq_true (List.all_eq_true.mp dsX12_counts_0_ok (0, (.iconst 0, 1)) (List.mem_of_getElem? (i := 0) rfl))
theorem dX12_counts_1 : decode cX12_counts 1 = .ok (.istore_n 3, 1) := of_decide_eq_true (List.all_eq_true.mp dsX12_counts_0_ok (1, (.istore_n 3, 1)) (List.mem_of_getElem? (i := 1) rfl))
theorem dX12_counts_2 : decode cX12_counts 2 = .ok (.iload_n 3, 1) := of_decide_eq_true (List.all_eq_true.mp dsX12_counts_0_ok (2, (.iload_n 3, 1)) (List.mem_of_getElem? (i := 2) rfl))
theorem dX12_counts_3 : decode cX12_counts 3 = .ok (.aload_n 0, 1) := of_decide_eq_true (List.all_eq_true.mp dsX12_counts_0_ok (3, (.aload_n 0, 1)) (List.mem_of_getElem? (i := 3) rfl))
theorem dX12_counts_4 : decode cX12_counts 4 = .ok (.getfield 66, 3) := of_decide_eq_true (List.all_eq_true.mp dsX12_counts_0_ok (4, (.getfield 66, 3)) (List.mem_of_getElem? (i := 4) rfl))
theorem dX12_counts_7 : decode cX12_counts 7 = .ok (.aload_n 0, 1) := of_decide_eq_true (List.all_eq_true.mp dsX12_counts_0_ok (7, (.aload_n 0, 1)) (List.mem_of_getElem? (i := 5) rfl))
theorem dX12_counts_8 : decode cX12_counts 8 = .ok (.getfield 51, 3) := of_decide_eq_true (List.all_eq_true.mp dsX12_counts_0_ok (8, (.getfield 51, 3)) (List.mem_of_getElem? (i := 6) rfl))
theorem dX12_counts_11 : decode cX12_counts 11 = .ok (.iaload, 1) := of_decide_eq_true (List.all_eq_true.mp dsX12_counts_0_ok (11, (.iaload, 1)) (List.mem_of_getElem? (i := 7) rfl))
theorem dX12_counts_12 : decode cX12_counts 12 = .ok (.if_icmp .ge 57, 3) := of_decide_eq_true (List.all_eq_true.mp dsX12_counts_0_ok (12, (.if_icmp .ge 57, 3)) (List.mem_of_getElem? (i := 8) rfl))
theorem dX12_counts_15 : decode cX12_counts 15 = .ok (.iconst 0, 1) := of_decide_eq_true (List.all_eq_true.mp dsX12_counts_0_ok (15, (.iconst 0, 1)) (List.mem_of_getElem? (i := 9) rfl))
theorem dX12_counts_16 : decode cX12_counts 16 = .ok (.istore 4, 2) := of_decide_eq_true (List.all_eq_true.mp dsX12_counts_0_ok (16, (.istore 4, 2)) (List.mem_of_getElem? (i := 10) rfl))
theorem dX12_counts_18 : decode cX12_counts 18 = .ok (.iload 4, 2) := of_decide_eq_true (List.all_eq_true.mp dsX12_counts_0_ok (18, (.iload 4, 2)) (List.mem_of_getElem? (i := 11) rfl))
theorem dX12_counts_20 : decode cX12_counts 20 = .ok (.bipush 10, 2) := of_decide_eq_true (List.all_eq_true.mp dsX12_counts_0_ok (20, (.bipush 10, 2)) (List.mem_of_getElem? (i := 12) rfl))
theorem dX12_counts_22 : decode cX12_counts 22 = .ok (.if_icmp .ge 41, 3) := of_decide_eq_true (List.all_eq_true.mp dsX12_counts_0_ok (22, (.if_icmp .ge 41, 3)) (List.mem_of_getElem? (i := 13) rfl))
theorem dX12_counts_25 : decode cX12_counts 25 = .ok (.aload_n 0, 1) := of_decide_eq_true (List.all_eq_true.mp dsX12_counts_0_ok (25, (.aload_n 0, 1)) (List.mem_of_getElem? (i := 14) rfl))
theorem dX12_counts_26 : decode cX12_counts 26 = .ok (.getfield 192, 3) := of_decide_eq_true (List.all_eq_true.mp dsX12_counts_0_ok (26, (.getfield 192, 3)) (List.mem_of_getElem? (i := 15) rfl))
theorem dX12_counts_29 : decode cX12_counts 29 = .ok (.bipush 10, 2) := of_decide_eq_true (List.all_eq_true.mp dsX12_counts_0_ok (29, (.bipush 10, 2)) (List.mem_of_getElem? (i := 16) rfl))
theorem dX12_counts_31 : decode cX12_counts 31 = .ok (.iload_n 3, 1) := of_decide_eq_true (List.all_eq_true.mp dsX12_counts_0_ok (31, (.iload_n 3, 1)) (List.mem_of_getElem? (i := 17) rfl))
theorem dX12_counts_32 : decode cX12_counts 32 = .ok (.imul, 1) := of_decide_eq_true (List.all_eq_true.mp dsX12_counts_0_ok (32, (.imul, 1)) (List.mem_of_getElem? (i := 18) rfl))
theorem dX12_counts_33 : decode cX12_counts 33 = .ok (.iload 4, 2) := of_decide_eq_true (List.all_eq_true.mp dsX12_counts_0_ok (33, (.iload 4, 2)) (List.mem_of_getElem? (i := 19) rfl))
theorem dX12_counts_35 : decode cX12_counts 35 = .ok (.iadd, 1) := of_decide_eq_true (List.all_eq_true.mp dsX12_counts_0_ok (35, (.iadd, 1)) (List.mem_of_getElem? (i := 20) rfl))
theorem dX12_counts_36 : decode cX12_counts 36 = .ok (.dup2, 1) := of_decide_eq_true (List.all_eq_true.mp dsX12_counts_0_ok (36, (.dup2, 1)) (List.mem_of_getElem? (i := 21) rfl))
theorem dX12_counts_37 : decode cX12_counts 37 = .ok (.iaload, 1) := of_decide_eq_true (List.all_eq_true.mp dsX12_counts_0_ok (37, (.iaload, 1)) (List.mem_of_getElem? (i := 22) rfl))
theorem dX12_counts_38 : decode cX12_counts 38 = .ok (.aload_n 0, 1) := of_decide_eq_true (List.all_eq_true.mp dsX12_counts_0_ok (38, (.aload_n 0, 1)) (List.mem_of_getElem? (i := 23) rfl))
theorem dX12_counts_39 : decode cX12_counts 39 = .ok (.iload_n 1, 1) := of_decide_eq_true (List.all_eq_true.mp dsX12_counts_0_ok (39, (.iload_n 1, 1)) (List.mem_of_getElem? (i := 24) rfl))
theorem dX12_counts_40 : decode cX12_counts 40 = .ok (.iload_n 3, 1) := of_decide_eq_true (List.all_eq_true.mp dsX12_counts_0_ok (40, (.iload_n 3, 1)) (List.mem_of_getElem? (i := 25) rfl))
theorem dX12_counts_41 : decode cX12_counts 41 = .ok (.iload 4, 2) := of_decide_eq_true (List.all_eq_true.mp dsX12_counts_0_ok (41, (.iload 4, 2)) (List.mem_of_getElem? (i := 26) rfl))
theorem dX12_counts_43 : decode cX12_counts 43 = .ok (.iload_n 2, 1) := of_decide_eq_true (List.all_eq_true.mp dsX12_counts_0_ok (43, (.iload_n 2, 1)) (List.mem_of_getElem? (i := 27) rfl))
theorem dX12_counts_44 : decode cX12_counts 44 = .ok (.invokevirtual 437, 3) := of_decide_eq_true (List.all_eq_true.mp dsX12_counts_0_ok (44, (.invokevirtual 437, 3)) (List.mem_of_getElem? (i := 28) rfl))
theorem dX12_counts_47 : decode cX12_counts 47 = .ok (.ifCond .eq 7, 3) := of_decide_eq_true (List.all_eq_true.mp dsX12_counts_0_ok (47, (.ifCond .eq 7, 3)) (List.mem_of_getElem? (i := 29) rfl))
theorem dX12_counts_50 : decode cX12_counts 50 = .ok (.iconst 1, 1) := of_decide_eq_true (List.all_eq_true.mp dsX12_counts_0_ok (50, (.iconst 1, 1)) (List.mem_of_getElem? (i := 30) rfl))
theorem dX12_counts_51 : decode cX12_counts 51 = .ok (.goto 4, 3) := of_decide_eq_true (List.all_eq_true.mp dsX12_counts_0_ok (51, (.goto 4, 3)) (List.mem_of_getElem? (i := 31) rfl))
theorem dX12_counts_54 : decode cX12_counts 54 = .ok (.iconst 0, 1) := of_decide_eq_true (List.all_eq_true.mp dsX12_counts_0_ok (54, (.iconst 0, 1)) (List.mem_of_getElem? (i := 32) rfl))
theorem dX12_counts_55 : decode cX12_counts 55 = .ok (.iadd, 1) := of_decide_eq_true (List.all_eq_true.mp dsX12_counts_0_ok (55, (.iadd, 1)) (List.mem_of_getElem? (i := 33) rfl))
theorem dX12_counts_56 : decode cX12_counts 56 = .ok (.iastore, 1) := of_decide_eq_true (List.all_eq_true.mp dsX12_counts_0_ok (56, (.iastore, 1)) (List.mem_of_getElem? (i := 34) rfl))
theorem dX12_counts_57 : decode cX12_counts 57 = .ok (.iinc 4 1, 3) := of_decide_eq_true (List.all_eq_true.mp dsX12_counts_0_ok (57, (.iinc 4 1, 3)) (List.mem_of_getElem? (i := 35) rfl))
theorem dX12_counts_60 : decode cX12_counts 60 = .ok (.goto (-42), 3) := of_decide_eq_true (List.all_eq_true.mp dsX12_counts_0_ok (60, (.goto (-42), 3)) (List.mem_of_getElem? (i := 36) rfl))
theorem dX12_counts_63 : decode cX12_counts 63 = .ok (.iinc 3 1, 3) := of_decide_eq_true (List.all_eq_true.mp dsX12_counts_0_ok (63, (.iinc 3 1, 3)) (List.mem_of_getElem? (i := 37) rfl))
theorem dX12_counts_66 : decode cX12_counts 66 = .ok (.goto (-64), 3) := of_decide_eq_true (List.all_eq_true.mp dsX12_counts_0_ok (66, (.goto (-64), 3)) (List.mem_of_getElem? (i := 38) rfl))
theorem dX12_counts_69 : decode cX12_counts 69 = .ok (.return_, 1) := of_decide_eq_true (List.all_eq_true.mp dsX12_counts_0_ok (69, (.return_, 1)) (List.mem_of_getElem? (i := 39) rfl))
def fX12_counts_b55 (N : Nat) (mmI : Nat → Int32) (mm_earsF : Nat → Int32) (mm_sumFromF : Nat → Int32) (mm_nightOfF : Nat → Int32) (mm_sharpOfF : Nat → Int32) (mm_mileOfF : Nat → Int32) (mm_milesToldF : Nat → Int32) (mm_sumBehindF : Nat → Int32) (mm_codeSortF : Nat → Int32) (mm_codeValueF : Nat → Int32)  (k2 : ((Nat → Int32) × (Nat → Int32) × (Nat → Int64) × Int32 × Int32 × Int32) → Option ((Nat → Int32) × (Nat → Int32) × (Nat → Int64))) (k18 : ((Nat → Int32) × (Nat → Int32) × (Nat → Int64) × Int32 × Int32 × Int32 × Int32) → Option ((Nat → Int32) × (Nat → Int32) × (Nat → Int64))) : ((Nat → Int32) × (Nat → Int32) × (Nat → Int64) × Int32 × Int32 × Int32 × Int32 × Int32 × Int32 × Int32) → Option ((Nat → Int32) × (Nat → Int32) × (Nat → Int64)) :=
  fun (mm_heardFromF_55, mm_askedF_55, mm_stackL_55, x1_55, x2_55, x3_55, x4_55, y1_55, y2_55, y3_55) => (xq_bd (xq_ast 70 mm_heardFromF_55 y1_55 (y2_55 + y3_55)) fun g_1 => k18 (g_1, mm_askedF_55, mm_stackL_55, x1_55, x2_55, x3_55, x4_55 + 1))
def fX12_counts_l18 (N : Nat) (mmI : Nat → Int32) (mm_earsF : Nat → Int32) (mm_sumFromF : Nat → Int32) (mm_nightOfF : Nat → Int32) (mm_sharpOfF : Nat → Int32) (mm_mileOfF : Nat → Int32) (mm_milesToldF : Nat → Int32) (mm_sumBehindF : Nat → Int32) (mm_codeSortF : Nat → Int32) (mm_codeValueF : Nat → Int32)  (k2 : ((Nat → Int32) × (Nat → Int32) × (Nat → Int64) × Int32 × Int32 × Int32) → Option ((Nat → Int32) × (Nat → Int32) × (Nat → Int64))) (k18 : ((Nat → Int32) × (Nat → Int32) × (Nat → Int64) × Int32 × Int32 × Int32 × Int32) → Option ((Nat → Int32) × (Nat → Int32) × (Nat → Int64))) : ((Nat → Int32) × (Nat → Int32) × (Nat → Int64) × Int32 × Int32 × Int32 × Int32) → Option ((Nat → Int32) × (Nat → Int32) × (Nat → Int64)) :=
  fun (mm_heardFromF_18, mm_askedF_18, mm_stackL_18, x1_18, x2_18, x3_18, x4_18) => (if 10 ≤ x4_18 then k2 (mm_heardFromF_18, mm_askedF_18, mm_stackL_18, x1_18, x2_18, x3_18 + 1) else (xq_bd (xq_ald 70 mm_heardFromF_18 ((10 * x3_18) + x4_18)) fun v_2 => (xq_bd (fX12_isHeardIn N mmI mm_sumFromF mm_nightOfF mm_askedF_18 mm_sharpOfF mm_mileOfF mm_milesToldF mm_sumBehindF mm_stackL_18 mm_codeSortF mm_codeValueF x1_18 x3_18 x4_18 x2_18) fun (r_3_0, r_3_1, r_3_2) => (if r_3_0 = 0 then fX12_counts_b55 N mmI mm_earsF mm_sumFromF mm_nightOfF mm_sharpOfF mm_mileOfF mm_milesToldF mm_sumBehindF mm_codeSortF mm_codeValueF k2 k18 (mm_heardFromF_18, r_3_1, r_3_2, x1_18, x2_18, x3_18, x4_18, (10 * x3_18) + x4_18, v_2, 0) else fX12_counts_b55 N mmI mm_earsF mm_sumFromF mm_nightOfF mm_sharpOfF mm_mileOfF mm_milesToldF mm_sumBehindF mm_codeSortF mm_codeValueF k2 k18 (mm_heardFromF_18, r_3_1, r_3_2, x1_18, x2_18, x3_18, x4_18, (10 * x3_18) + x4_18, v_2, 1)))))
def fX12_counts_l2 (N : Nat) (mmI : Nat → Int32) (mm_earsF : Nat → Int32) (mm_sumFromF : Nat → Int32) (mm_nightOfF : Nat → Int32) (mm_sharpOfF : Nat → Int32) (mm_mileOfF : Nat → Int32) (mm_milesToldF : Nat → Int32) (mm_sumBehindF : Nat → Int32) (mm_codeSortF : Nat → Int32) (mm_codeValueF : Nat → Int32)  (k2 : ((Nat → Int32) × (Nat → Int32) × (Nat → Int64) × Int32 × Int32 × Int32) → Option ((Nat → Int32) × (Nat → Int32) × (Nat → Int64))) : ((Nat → Int32) × (Nat → Int32) × (Nat → Int64) × Int32 × Int32 × Int32) → Option ((Nat → Int32) × (Nat → Int32) × (Nat → Int64)) :=
  fun (mm_heardFromF_2, mm_askedF_2, mm_stackL_2, x1_2, x2_2, x3_2) => (xq_bd (xq_ald 2 mm_earsF (mmI 13)) fun v_5 => (if v_5 ≤ x3_2 then some ((mm_heardFromF_2, mm_askedF_2, mm_stackL_2)) else xq_loop (fX12_counts_l18 N mmI mm_earsF mm_sumFromF mm_nightOfF mm_sharpOfF mm_mileOfF mm_milesToldF mm_sumBehindF mm_codeSortF mm_codeValueF k2) N (mm_heardFromF_2, mm_askedF_2, mm_stackL_2, x1_2, x2_2, x3_2, 0)))
def fX12_counts (N : Nat) (mmI : Nat → Int32) (mm_earsF : Nat → Int32) (mm_heardFromF : Nat → Int32) (mm_sumFromF : Nat → Int32) (mm_nightOfF : Nat → Int32) (mm_askedF : Nat → Int32) (mm_sharpOfF : Nat → Int32) (mm_mileOfF : Nat → Int32) (mm_milesToldF : Nat → Int32) (mm_sumBehindF : Nat → Int32) (mm_stackL : Nat → Int64) (mm_codeSortF : Nat → Int32) (mm_codeValueF : Nat → Int32)  (p1 : Int32) (p2 : Int32) : Option ((Nat → Int32) × (Nat → Int32) × (Nat → Int64)) :=
  xq_loop (fX12_counts_l2 N mmI mm_earsF mm_sumFromF mm_nightOfF mm_sharpOfF mm_mileOfF mm_milesToldF mm_sumBehindF mm_codeSortF mm_codeValueF) N (mm_heardFromF, mm_askedF, mm_stackL, p1, p2, 0)
set_option maxHeartbeats 4000000 in
set_option maxRecDepth 100000 in
theorem kX12_counts (l : Launch) (dC : Nat → ClassId) (dI : Nat → Nat → Nat) (cI cB cJ cZ cM : ClassId) (z : Nat) (ad : Nat → Nat) (N : Nat) (a_p0 : Nat) (mmI : Nat → Int32) (mmJ : Nat → Int64) (mmR : Nat → Nat) (mm_earsF : Nat → Int32) (mm_heardFromF : Nat → Int32) (mm_sumFromF : Nat → Int32) (mm_nightOfF : Nat → Int32) (mm_askedF : Nat → Int32) (mm_sharpOfF : Nat → Int32) (mm_mileOfF : Nat → Int32) (mm_milesToldF : Nat → Int32) (mm_sumBehindF : Nat → Int32) (mm_stackL : Nat → Int64) (mm_codeSortF : Nat → Int32) (mm_codeValueF : Nat → Int32) (p1 : Int32) (p2 : Int32) {r0 : Nat → Int32} {r1 : Nat → Int32} {r2 : Nat → Int64} (hf : fX12_counts N mmI mm_earsF mm_heardFromF mm_sumFromF mm_nightOfF mm_askedF mm_sharpOfF mm_mileOfF mm_milesToldF mm_sumBehindF mm_stackL mm_codeSortF mm_codeValueF p1 p2 = some (r0, r1, r2)) : xq_Ct l yX12_counts wsX12_counts { frames := 4, cells := 0, slots := 0, locals := 97 } (dC, dI) vwCl (xq_tys cI cB cJ cZ cM) z ad [.ref a_p0, .int p1, .int p2] [(a_p0, .inr (12, oX12 mmI mmJ mmR)), ((mmR 18), .inl (cI, 2, .inl mm_earsF)), ((mmR 59), .inl (cI, 70, .inl mm_heardFromF)), ((mmR 24), .inl (cI, 6, .inl mm_sumFromF)), ((mmR 45), .inl (cI, 22, .inl mm_nightOfF)), ((mmR 58), .inl (cI, 12, .inl mm_askedF)), ((mmR 20), .inl (cI, 14, .inl mm_sharpOfF)), ((mmR 46), .inl (cI, 22, .inl mm_mileOfF)), ((mmR 14), .inl (cI, 2, .inl mm_milesToldF)), ((mmR 25), .inl (cI, 6, .inl mm_sumBehindF)), ((mmR 57), .inl (cJ, 500, .inr (.inl mm_stackL))), ((mmR 26), .inl (cI, 3200, .inl mm_codeSortF)), ((mmR 27), .inl (cI, 3200, .inl mm_codeValueF))] [(a_p0, .inr (12, oX12 mmI mmJ mmR)), ((mmR 18), .inl (cI, 2, .inl mm_earsF)), ((mmR 59), .inl (cI, 70, .inl r0)), ((mmR 24), .inl (cI, 6, .inl mm_sumFromF)), ((mmR 45), .inl (cI, 22, .inl mm_nightOfF)), ((mmR 58), .inl (cI, 12, .inl r1)), ((mmR 20), .inl (cI, 14, .inl mm_sharpOfF)), ((mmR 46), .inl (cI, 22, .inl mm_mileOfF)), ((mmR 14), .inl (cI, 2, .inl mm_milesToldF)), ((mmR 25), .inl (cI, 6, .inl mm_sumBehindF)), ((mmR 57), .inl (cJ, 500, .inr (.inl r2))), ((mmR 26), .inl (cI, 3200, .inl mm_codeSortF)), ((mmR 27), .inl (cI, 3200, .inl mm_codeValueF))] none := by
  intro sz
  refine Met.ofW (cc := cX12_counts) (maxL := 5) (ret := none) (by decide) rfl ?_
  intro p e s m args below meth c s₁ B hml hv
  obtain ⟨rfl, hsz, hP, hK, hD0, hE, hz⟩ := hv
  have hx := B.exec
  have hb := B.bytes
  have hr := B.returns
  have hts := atoms_spec (ws := wsX12_counts) B.pre
  have hown : s.vm.findClass RX12 = some m.cls := findClass_of_methodNamed B.named
  have hlocks := B.notSynchronized
  subst hsz
  have hD := hD0.self (sz := s.heap.size)
  have hN := xq_Env.of hE hz hD0
  generalize hAe : va_A [(a_p0, .inr (12, oX12 mmI mmJ mmR)), ((mmR 18), .inl (cI, 2, .inl mm_earsF)), ((mmR 59), .inl (cI, 70, .inl mm_heardFromF)), ((mmR 24), .inl (cI, 6, .inl mm_sumFromF)), ((mmR 45), .inl (cI, 22, .inl mm_nightOfF)), ((mmR 58), .inl (cI, 12, .inl mm_askedF)), ((mmR 20), .inl (cI, 14, .inl mm_sharpOfF)), ((mmR 46), .inl (cI, 22, .inl mm_mileOfF)), ((mmR 14), .inl (cI, 2, .inl mm_milesToldF)), ((mmR 25), .inl (cI, 6, .inl mm_sumBehindF)), ((mmR 57), .inl (cJ, 500, .inr (.inl mm_stackL))), ((mmR 26), .inl (cI, 3200, .inl mm_codeSortF)), ((mmR 27), .inl (cI, 3200, .inl mm_codeValueF))] s.heap.size = A at hD hN ⊢
  have hA : ∀ q : Nat, s.heap.size ≤ q → A q := fun q h => by rw [← hAe]; exact Or.inr h
  clear hAe hD0
  have hS : va_S A s.heap s.heap [] := va_S.rf
  have hl := lv_entry ([.ref a_p0, .int p1, .int p2]) (n := 5) (Nat.le_of_ble_eq_true rfl)
  rw [lg_entry_eq]
  generalize (lg_sl ([.ref a_p0, .int p1, .int p2]) ++ List.replicate (5 - (lg_sl ([.ref a_p0, .int p1, .int p2])).length) Slot.unset).toArray = ls at hl ⊢
  have hl : lv_has ls 5 [(0, .ref a_p0), (1, .int p1), (2, .int p2)] := hl
  have hw0 := hts (.fieldLink RX12 66 "DistantVoiceModel" "ears" "[I") (by decide +kernel)
  have hinX12 : ∀ w ∈ wsX120, w ∈ wsX12_counts := fun w h => List.mem_cons_of_mem _ (List.mem_append_right _ h)
  have hw2 := hts (.fieldLink RX12 51 "DistantVoiceModel" "bank" "I") (by decide +kernel)
  have hw3 := hts (.fieldLink RX12 192 "DistantVoiceModel" "heardFrom" "[I") (by decide +kernel)
  have l2 : ∀ n2 : Nat, ∀ (mm_heardFromF_2 : Nat → Int32) (mm_askedF_2 : Nat → Int32) (mm_stackL_2 : Nat → Int64) (x1_2 : Int32) (x2_2 : Int32) (x3_2 : Int32) (ls : Array Slot) (H : Heap) (locs : List Loc), xq_loop (fX12_counts_l2 N mmI mm_earsF mm_sumFromF mm_nightOfF mm_sharpOfF mm_mileOfF mm_milesToldF mm_sumBehindF mm_codeSortF mm_codeValueF) n2 (mm_heardFromF_2, mm_askedF_2, mm_stackL_2, x1_2, x2_2, x3_2) = some (r0, r1, r2) → va_P (dC, dI) vwCl [(a_p0, .inr (12, oX12 mmI mmJ mmR)), ((mmR 18), .inl (cI, 2, .inl mm_earsF)), ((mmR 59), .inl (cI, 70, .inl mm_heardFromF_2)), ((mmR 24), .inl (cI, 6, .inl mm_sumFromF)), ((mmR 45), .inl (cI, 22, .inl mm_nightOfF)), ((mmR 58), .inl (cI, 12, .inl mm_askedF_2)), ((mmR 20), .inl (cI, 14, .inl mm_sharpOfF)), ((mmR 46), .inl (cI, 22, .inl mm_mileOfF)), ((mmR 14), .inl (cI, 2, .inl mm_milesToldF)), ((mmR 25), .inl (cI, 6, .inl mm_sumBehindF)), ((mmR 57), .inl (cJ, 500, .inr (.inl mm_stackL_2))), ((mmR 26), .inl (cI, 3200, .inl mm_codeSortF)), ((mmR 27), .inl (cI, 3200, .inl mm_codeValueF))] H → va_D A [(a_p0, .inr (12, oX12 mmI mmJ mmR)), ((mmR 18), .inl (cI, 2, .inl mm_earsF)), ((mmR 59), .inl (cI, 70, .inl mm_heardFromF_2)), ((mmR 24), .inl (cI, 6, .inl mm_sumFromF)), ((mmR 45), .inl (cI, 22, .inl mm_nightOfF)), ((mmR 58), .inl (cI, 12, .inl mm_askedF_2)), ((mmR 20), .inl (cI, 14, .inl mm_sharpOfF)), ((mmR 46), .inl (cI, 22, .inl mm_mileOfF)), ((mmR 14), .inl (cI, 2, .inl mm_milesToldF)), ((mmR 25), .inl (cI, 6, .inl mm_sumBehindF)), ((mmR 57), .inl (cJ, 500, .inr (.inl mm_stackL_2))), ((mmR 26), .inl (cI, 3200, .inl mm_codeSortF)), ((mmR 27), .inl (cI, 3200, .inl mm_codeValueF))] → va_S A s.heap H locs → lv_has ls 5 [(0, .ref a_p0), (1, .int x1_2), (2, .int x2_2), (3, .int x3_2)] → W p l e (headSpec wsX12_counts { frames := 4, cells := 0, slots := 0, locals := 97 }).room s m [.ref a_p0, .int p1, .int p2].toArray below meth c H locs 0 0 (MQ below (xq_Q (dC, dI) vwCl (xq_tys cI cB cJ cZ cM) A [(a_p0, .inr (12, oX12 mmI mmJ mmR)), ((mmR 18), .inl (cI, 2, .inl mm_earsF)), ((mmR 59), .inl (cI, 70, .inl r0)), ((mmR 24), .inl (cI, 6, .inl mm_sumFromF)), ((mmR 45), .inl (cI, 22, .inl mm_nightOfF)), ((mmR 58), .inl (cI, 12, .inl r1)), ((mmR 20), .inl (cI, 14, .inl mm_sharpOfF)), ((mmR 46), .inl (cI, 22, .inl mm_mileOfF)), ((mmR 14), .inl (cI, 2, .inl mm_milesToldF)), ((mmR 25), .inl (cI, 6, .inl mm_sumBehindF)), ((mmR 57), .inl (cJ, 500, .inr (.inl r2))), ((mmR 26), .inl (cI, 3200, .inl mm_codeSortF)), ((mmR 27), .inl (cI, 3200, .inl mm_codeValueF))] none) [.ref a_p0, .int p1, .int p2].toArray s 0 0 A) (F0 m 2 ls []) := by
    intro n2
    induction n2 with
    | zero => intro mm_heardFromF_2 mm_askedF_2 mm_stackL_2 x1_2 x2_2 x3_2 ls H locs hf; cases (show none = some (r0, r1, r2) from hf)
    | succ n2 ih2 =>
      have l18 : ∀ n18 : Nat, ∀ (mm_heardFromF_18 : Nat → Int32) (mm_askedF_18 : Nat → Int32) (mm_stackL_18 : Nat → Int64) (x1_18 : Int32) (x2_18 : Int32) (x3_18 : Int32) (x4_18 : Int32) (ls : Array Slot) (H : Heap) (locs : List Loc), xq_loop (fX12_counts_l18 N mmI mm_earsF mm_sumFromF mm_nightOfF mm_sharpOfF mm_mileOfF mm_milesToldF mm_sumBehindF mm_codeSortF mm_codeValueF (xq_loop (fX12_counts_l2 N mmI mm_earsF mm_sumFromF mm_nightOfF mm_sharpOfF mm_mileOfF mm_milesToldF mm_sumBehindF mm_codeSortF mm_codeValueF) n2)) n18 (mm_heardFromF_18, mm_askedF_18, mm_stackL_18, x1_18, x2_18, x3_18, x4_18) = some (r0, r1, r2) → va_P (dC, dI) vwCl [(a_p0, .inr (12, oX12 mmI mmJ mmR)), ((mmR 18), .inl (cI, 2, .inl mm_earsF)), ((mmR 59), .inl (cI, 70, .inl mm_heardFromF_18)), ((mmR 24), .inl (cI, 6, .inl mm_sumFromF)), ((mmR 45), .inl (cI, 22, .inl mm_nightOfF)), ((mmR 58), .inl (cI, 12, .inl mm_askedF_18)), ((mmR 20), .inl (cI, 14, .inl mm_sharpOfF)), ((mmR 46), .inl (cI, 22, .inl mm_mileOfF)), ((mmR 14), .inl (cI, 2, .inl mm_milesToldF)), ((mmR 25), .inl (cI, 6, .inl mm_sumBehindF)), ((mmR 57), .inl (cJ, 500, .inr (.inl mm_stackL_18))), ((mmR 26), .inl (cI, 3200, .inl mm_codeSortF)), ((mmR 27), .inl (cI, 3200, .inl mm_codeValueF))] H → va_D A [(a_p0, .inr (12, oX12 mmI mmJ mmR)), ((mmR 18), .inl (cI, 2, .inl mm_earsF)), ((mmR 59), .inl (cI, 70, .inl mm_heardFromF_18)), ((mmR 24), .inl (cI, 6, .inl mm_sumFromF)), ((mmR 45), .inl (cI, 22, .inl mm_nightOfF)), ((mmR 58), .inl (cI, 12, .inl mm_askedF_18)), ((mmR 20), .inl (cI, 14, .inl mm_sharpOfF)), ((mmR 46), .inl (cI, 22, .inl mm_mileOfF)), ((mmR 14), .inl (cI, 2, .inl mm_milesToldF)), ((mmR 25), .inl (cI, 6, .inl mm_sumBehindF)), ((mmR 57), .inl (cJ, 500, .inr (.inl mm_stackL_18))), ((mmR 26), .inl (cI, 3200, .inl mm_codeSortF)), ((mmR 27), .inl (cI, 3200, .inl mm_codeValueF))] → va_S A s.heap H locs → lv_has ls 5 [(0, .ref a_p0), (1, .int x1_18), (2, .int x2_18), (3, .int x3_18), (4, .int x4_18)] → W p l e (headSpec wsX12_counts { frames := 4, cells := 0, slots := 0, locals := 97 }).room s m [.ref a_p0, .int p1, .int p2].toArray below meth c H locs 0 0 (MQ below (xq_Q (dC, dI) vwCl (xq_tys cI cB cJ cZ cM) A [(a_p0, .inr (12, oX12 mmI mmJ mmR)), ((mmR 18), .inl (cI, 2, .inl mm_earsF)), ((mmR 59), .inl (cI, 70, .inl r0)), ((mmR 24), .inl (cI, 6, .inl mm_sumFromF)), ((mmR 45), .inl (cI, 22, .inl mm_nightOfF)), ((mmR 58), .inl (cI, 12, .inl r1)), ((mmR 20), .inl (cI, 14, .inl mm_sharpOfF)), ((mmR 46), .inl (cI, 22, .inl mm_mileOfF)), ((mmR 14), .inl (cI, 2, .inl mm_milesToldF)), ((mmR 25), .inl (cI, 6, .inl mm_sumBehindF)), ((mmR 57), .inl (cJ, 500, .inr (.inl r2))), ((mmR 26), .inl (cI, 3200, .inl mm_codeSortF)), ((mmR 27), .inl (cI, 3200, .inl mm_codeValueF))] none) [.ref a_p0, .int p1, .int p2].toArray s 0 0 A) (F0 m 18 ls []) := by
        intro n18
        induction n18 with
        | zero => intro mm_heardFromF_18 mm_askedF_18 mm_stackL_18 x1_18 x2_18 x3_18 x4_18 ls H locs hf; cases (show none = some (r0, r1, r2) from hf)
        | succ n18 ih18 =>
          have b55 : ∀ (mm_heardFromF_55 : Nat → Int32) (mm_askedF_55 : Nat → Int32) (mm_stackL_55 : Nat → Int64) (x1_55 : Int32) (x2_55 : Int32) (x3_55 : Int32) (x4_55 : Int32) (y1_55 : Int32) (y2_55 : Int32) (y3_55 : Int32) (ls : Array Slot) (H : Heap) (locs : List Loc), fX12_counts_b55 N mmI mm_earsF mm_sumFromF mm_nightOfF mm_sharpOfF mm_mileOfF mm_milesToldF mm_sumBehindF mm_codeSortF mm_codeValueF (xq_loop (fX12_counts_l2 N mmI mm_earsF mm_sumFromF mm_nightOfF mm_sharpOfF mm_mileOfF mm_milesToldF mm_sumBehindF mm_codeSortF mm_codeValueF) n2) (xq_loop (fX12_counts_l18 N mmI mm_earsF mm_sumFromF mm_nightOfF mm_sharpOfF mm_mileOfF mm_milesToldF mm_sumBehindF mm_codeSortF mm_codeValueF (xq_loop (fX12_counts_l2 N mmI mm_earsF mm_sumFromF mm_nightOfF mm_sharpOfF mm_mileOfF mm_milesToldF mm_sumBehindF mm_codeSortF mm_codeValueF) n2)) n18) (mm_heardFromF_55, mm_askedF_55, mm_stackL_55, x1_55, x2_55, x3_55, x4_55, y1_55, y2_55, y3_55) = some (r0, r1, r2) → va_P (dC, dI) vwCl [(a_p0, .inr (12, oX12 mmI mmJ mmR)), ((mmR 18), .inl (cI, 2, .inl mm_earsF)), ((mmR 59), .inl (cI, 70, .inl mm_heardFromF_55)), ((mmR 24), .inl (cI, 6, .inl mm_sumFromF)), ((mmR 45), .inl (cI, 22, .inl mm_nightOfF)), ((mmR 58), .inl (cI, 12, .inl mm_askedF_55)), ((mmR 20), .inl (cI, 14, .inl mm_sharpOfF)), ((mmR 46), .inl (cI, 22, .inl mm_mileOfF)), ((mmR 14), .inl (cI, 2, .inl mm_milesToldF)), ((mmR 25), .inl (cI, 6, .inl mm_sumBehindF)), ((mmR 57), .inl (cJ, 500, .inr (.inl mm_stackL_55))), ((mmR 26), .inl (cI, 3200, .inl mm_codeSortF)), ((mmR 27), .inl (cI, 3200, .inl mm_codeValueF))] H → va_D A [(a_p0, .inr (12, oX12 mmI mmJ mmR)), ((mmR 18), .inl (cI, 2, .inl mm_earsF)), ((mmR 59), .inl (cI, 70, .inl mm_heardFromF_55)), ((mmR 24), .inl (cI, 6, .inl mm_sumFromF)), ((mmR 45), .inl (cI, 22, .inl mm_nightOfF)), ((mmR 58), .inl (cI, 12, .inl mm_askedF_55)), ((mmR 20), .inl (cI, 14, .inl mm_sharpOfF)), ((mmR 46), .inl (cI, 22, .inl mm_mileOfF)), ((mmR 14), .inl (cI, 2, .inl mm_milesToldF)), ((mmR 25), .inl (cI, 6, .inl mm_sumBehindF)), ((mmR 57), .inl (cJ, 500, .inr (.inl mm_stackL_55))), ((mmR 26), .inl (cI, 3200, .inl mm_codeSortF)), ((mmR 27), .inl (cI, 3200, .inl mm_codeValueF))] → va_S A s.heap H locs → lv_has ls 5 [(0, .ref a_p0), (1, .int x1_55), (2, .int x2_55), (3, .int x3_55), (4, .int x4_55)] → W p l e (headSpec wsX12_counts { frames := 4, cells := 0, slots := 0, locals := 97 }).room s m [.ref a_p0, .int p1, .int p2].toArray below meth c H locs 0 0 (MQ below (xq_Q (dC, dI) vwCl (xq_tys cI cB cJ cZ cM) A [(a_p0, .inr (12, oX12 mmI mmJ mmR)), ((mmR 18), .inl (cI, 2, .inl mm_earsF)), ((mmR 59), .inl (cI, 70, .inl r0)), ((mmR 24), .inl (cI, 6, .inl mm_sumFromF)), ((mmR 45), .inl (cI, 22, .inl mm_nightOfF)), ((mmR 58), .inl (cI, 12, .inl r1)), ((mmR 20), .inl (cI, 14, .inl mm_sharpOfF)), ((mmR 46), .inl (cI, 22, .inl mm_mileOfF)), ((mmR 14), .inl (cI, 2, .inl mm_milesToldF)), ((mmR 25), .inl (cI, 6, .inl mm_sumBehindF)), ((mmR 57), .inl (cJ, 500, .inr (.inl r2))), ((mmR 26), .inl (cI, 3200, .inl mm_codeSortF)), ((mmR 27), .inl (cI, 3200, .inl mm_codeValueF))] none) [.ref a_p0, .int p1, .int p2].toArray s 0 0 A) (F0 m 55 ls [.int y3_55, .int y2_55, .int y1_55, .ref ((mmR 59))]) := by
            intro mm_heardFromF_55 mm_askedF_55 mm_stackL_55 x1_55 x2_55 x3_55 x4_55 y1_55 y2_55 y3_55 ls H locs hf hP hD hS hl
            unfold fX12_counts_b55 at hf
            refine lv_iadd hx hb dX12_counts_55 ?_
            refine xq_iast hx hb hK hP hD hS 2 0 rfl rfl hf dX12_counts_56 (fun g_1 H locs hf hP hD hS => ?_)
            have hP : va_P (dC, dI) vwCl [(a_p0, .inr (12, oX12 mmI mmJ mmR)), ((mmR 18), .inl (cI, 2, .inl mm_earsF)), ((mmR 59), .inl (cI, 70, .inl g_1)), ((mmR 24), .inl (cI, 6, .inl mm_sumFromF)), ((mmR 45), .inl (cI, 22, .inl mm_nightOfF)), ((mmR 58), .inl (cI, 12, .inl mm_askedF_55)), ((mmR 20), .inl (cI, 14, .inl mm_sharpOfF)), ((mmR 46), .inl (cI, 22, .inl mm_mileOfF)), ((mmR 14), .inl (cI, 2, .inl mm_milesToldF)), ((mmR 25), .inl (cI, 6, .inl mm_sumBehindF)), ((mmR 57), .inl (cJ, 500, .inr (.inl mm_stackL_55))), ((mmR 26), .inl (cI, 3200, .inl mm_codeSortF)), ((mmR 27), .inl (cI, 3200, .inl mm_codeValueF))] H := hP
            have hD : va_D A [(a_p0, .inr (12, oX12 mmI mmJ mmR)), ((mmR 18), .inl (cI, 2, .inl mm_earsF)), ((mmR 59), .inl (cI, 70, .inl g_1)), ((mmR 24), .inl (cI, 6, .inl mm_sumFromF)), ((mmR 45), .inl (cI, 22, .inl mm_nightOfF)), ((mmR 58), .inl (cI, 12, .inl mm_askedF_55)), ((mmR 20), .inl (cI, 14, .inl mm_sharpOfF)), ((mmR 46), .inl (cI, 22, .inl mm_mileOfF)), ((mmR 14), .inl (cI, 2, .inl mm_milesToldF)), ((mmR 25), .inl (cI, 6, .inl mm_sumBehindF)), ((mmR 57), .inl (cJ, 500, .inr (.inl mm_stackL_55))), ((mmR 26), .inl (cI, 3200, .inl mm_codeSortF)), ((mmR 27), .inl (cI, 3200, .inl mm_codeValueF))] := hD
            refine lv_iinc (v := x4_55 + 1) (lv' := [(4, .int (x4_55 + 1)), (0, .ref a_p0), (1, .int x1_55), (2, .int x2_55), (3, .int x3_55)]) hx hb dX12_counts_57 hl (k := 4) rfl (congrArg (fun q9 => x4_55 + q9) (by decide : Int32.ofInt 1 = 1)) (by decide) rfl (fun ls hl => ?_)
            refine lv_goto (tgt := 18) hx hb dX12_counts_60 (by decide) ?_
            exact ih18 g_1 mm_askedF_55 mm_stackL_55 x1_55 x2_55 x3_55 (x4_55 + 1) _ _ _ hf hP hD hS (lv_sub hl [1, 2, 3, 4, 0] rfl)
          intro mm_heardFromF_18 mm_askedF_18 mm_stackL_18 x1_18 x2_18 x3_18 x4_18 ls H locs hf hP hD hS hl
          have hf : fX12_counts_l18 N mmI mm_earsF mm_sumFromF mm_nightOfF mm_sharpOfF mm_mileOfF mm_milesToldF mm_sumBehindF mm_codeSortF mm_codeValueF (xq_loop (fX12_counts_l2 N mmI mm_earsF mm_sumFromF mm_nightOfF mm_sharpOfF mm_mileOfF mm_milesToldF mm_sumBehindF mm_codeSortF mm_codeValueF) n2) (xq_loop (fX12_counts_l18 N mmI mm_earsF mm_sumFromF mm_nightOfF mm_sharpOfF mm_mileOfF mm_milesToldF mm_sumBehindF mm_codeSortF mm_codeValueF (xq_loop (fX12_counts_l2 N mmI mm_earsF mm_sumFromF mm_nightOfF mm_sharpOfF mm_mileOfF mm_milesToldF mm_sumBehindF mm_codeSortF mm_codeValueF) n2)) n18) (mm_heardFromF_18, mm_askedF_18, mm_stackL_18, x1_18, x2_18, x3_18, x4_18) = some (r0, r1, r2) := hf
          unfold fX12_counts_l18 at hf
          refine lv_iload hx hb dX12_counts_18 (lv_at hl 4 rfl) ?_
          refine lv_bipush (v := 10) hx hb dX12_counts_20 (by decide) ?_
          refine lv_icmp_ge (tgt := 63) hx hb dX12_counts_22 (by decide) (fun c_ => ?_) (fun c_ => ?_)
          · have hf := xq_pos hf c_
            refine lv_iinc (v := x3_18 + 1) (lv' := [(3, .int (x3_18 + 1)), (0, .ref a_p0), (1, .int x1_18), (2, .int x2_18), (4, .int x4_18)]) hx hb dX12_counts_63 hl (k := 3) rfl (congrArg (fun q9 => x3_18 + q9) (by decide : Int32.ofInt 1 = 1)) (by decide) rfl (fun ls hl => ?_)
            refine lv_goto (tgt := 2) hx hb dX12_counts_66 (by decide) ?_
            exact ih2 mm_heardFromF_18 mm_askedF_18 mm_stackL_18 x1_18 x2_18 (x3_18 + 1) _ _ _ hf hP hD hS (lv_sub hl [1, 2, 3, 0] rfl)
          · have hf := xq_neg hf c_
            refine lv_aload_n hx hb dX12_counts_25 rfl (lv_at hl 0 rfl) ?_
            refine va_get (D := (dC, dI)) (ci := 12) (v := .ref ((mmR 59))) (C := RX12) (T := TX12) (N := 70) hx hb hts hinX12 hown hK hP 0 rfl rfl 59 (by decide) hw3 (fun _ h9 => h9) rfl dX12_counts_26 ?_
            refine lv_bipush (v := 10) hx hb dX12_counts_29 (by decide) ?_
            refine lv_iload_n hx hb dX12_counts_31 rfl (lv_at hl 3 rfl) ?_
            refine lv_imul hx hb dX12_counts_32 ?_
            refine lv_iload hx hb dX12_counts_33 (lv_at hl 4 rfl) ?_
            refine lv_iadd hx hb dX12_counts_35 ?_
            refine lv_dup2_11 hx hb dX12_counts_36 rfl rfl ?_
            refine xq_iald hx hb hK hP 2 0 rfl rfl hf dX12_counts_37 (fun v_1 hf => ?_)
            refine lv_aload_n hx hb dX12_counts_38 rfl (lv_at hl 0 rfl) ?_
            refine lv_iload_n hx hb dX12_counts_39 rfl (lv_at hl 1 rfl) ?_
            refine lv_iload_n hx hb dX12_counts_40 rfl (lv_at hl 3 rfl) ?_
            refine lv_iload hx hb dX12_counts_41 (lv_at hl 4 rfl) ?_
            refine lv_iload_n hx hb dX12_counts_43 rfl (lv_at hl 2 rfl) ?_
            obtain ⟨⟨r_2_0, r_2_1, r_2_2⟩, h_3, hf⟩ := xq_bd_some hf
            refine xq_callV (As := [.int x1_18, .int x3_18, .int x4_18, .int x2_18]) (rest := [.int v_1, .int ((10 * x3_18) + x4_18), .ref ((mmR 59))]) (ci := 12) (q0 := 0) ⟨hx, hb, hml, hown, hts⟩ (kX12_isHeardIn l dC dI cI cB cJ cZ cM z ad N a_p0 mmI mmJ mmR mm_sumFromF mm_nightOfF mm_askedF_18 mm_sharpOfF mm_mileOfF mm_milesToldF mm_sumBehindF mm_stackL_18 mm_codeSortF mm_codeValueF x1_18 x3_18 x4_18 x2_18 h_3) (cwV 4 hts gX12_counts_X12_isHeardIn rfl rfl rfl (by decide +kernel) ⟨Nat.le_of_ble_eq_true rfl, Nat.le_of_ble_eq_true rfl⟩) hN hK hP hD hS hA [0, 3, 4, 5, 6, 7, 8, 9, 10, 11, 12] (by decide) rfl rfl rfl rfl rfl rfl hl.1 rfl (Nat.le_of_ble_eq_true rfl) dX12_counts_44 ⟨Nat.zero_le _, Nat.zero_le _⟩ (fun H locs hP hD hS => ?_)
            have hP : va_P (dC, dI) vwCl [(a_p0, .inr (12, oX12 mmI mmJ mmR)), ((mmR 18), .inl (cI, 2, .inl mm_earsF)), ((mmR 59), .inl (cI, 70, .inl mm_heardFromF_18)), ((mmR 24), .inl (cI, 6, .inl mm_sumFromF)), ((mmR 45), .inl (cI, 22, .inl mm_nightOfF)), ((mmR 58), .inl (cI, 12, .inl r_2_1)), ((mmR 20), .inl (cI, 14, .inl mm_sharpOfF)), ((mmR 46), .inl (cI, 22, .inl mm_mileOfF)), ((mmR 14), .inl (cI, 2, .inl mm_milesToldF)), ((mmR 25), .inl (cI, 6, .inl mm_sumBehindF)), ((mmR 57), .inl (cJ, 500, .inr (.inl r_2_2))), ((mmR 26), .inl (cI, 3200, .inl mm_codeSortF)), ((mmR 27), .inl (cI, 3200, .inl mm_codeValueF))] H := hP
            have hD : va_D A [(a_p0, .inr (12, oX12 mmI mmJ mmR)), ((mmR 18), .inl (cI, 2, .inl mm_earsF)), ((mmR 59), .inl (cI, 70, .inl mm_heardFromF_18)), ((mmR 24), .inl (cI, 6, .inl mm_sumFromF)), ((mmR 45), .inl (cI, 22, .inl mm_nightOfF)), ((mmR 58), .inl (cI, 12, .inl r_2_1)), ((mmR 20), .inl (cI, 14, .inl mm_sharpOfF)), ((mmR 46), .inl (cI, 22, .inl mm_mileOfF)), ((mmR 14), .inl (cI, 2, .inl mm_milesToldF)), ((mmR 25), .inl (cI, 6, .inl mm_sumBehindF)), ((mmR 57), .inl (cJ, 500, .inr (.inl r_2_2))), ((mmR 26), .inl (cI, 3200, .inl mm_codeSortF)), ((mmR 27), .inl (cI, 3200, .inl mm_codeValueF))] := hD
            refine W.eq (g2 := F0 m 47 ls [.int r_2_0, .int v_1, .int ((10 * x3_18) + x4_18), .ref ((mmR 59))]) rfl ?_
            refine lv_if_eq (tgt := 54) hx hb dX12_counts_47 (by decide) (fun c_ => ?_) (fun c_ => ?_)
            · have hf := xq_pos hf c_
              refine lv_iconst (v := 0) hx hb dX12_counts_54 (by decide) ?_
              exact b55 mm_heardFromF_18 r_2_1 r_2_2 x1_18 x2_18 x3_18 x4_18 ((10 * x3_18) + x4_18) v_1 0 _ _ _ hf hP hD hS (lv_sub hl [0, 1, 2, 3, 4] rfl)
            · have hf := xq_neg hf c_
              refine lv_iconst (v := 1) hx hb dX12_counts_50 (by decide) ?_
              refine lv_goto (tgt := 55) hx hb dX12_counts_51 (by decide) ?_
              exact b55 mm_heardFromF_18 r_2_1 r_2_2 x1_18 x2_18 x3_18 x4_18 ((10 * x3_18) + x4_18) v_1 1 _ _ _ hf hP hD hS (lv_sub hl [0, 1, 2, 3, 4] rfl)
      intro mm_heardFromF_2 mm_askedF_2 mm_stackL_2 x1_2 x2_2 x3_2 ls H locs hf hP hD hS hl
      have hf : fX12_counts_l2 N mmI mm_earsF mm_sumFromF mm_nightOfF mm_sharpOfF mm_mileOfF mm_milesToldF mm_sumBehindF mm_codeSortF mm_codeValueF (xq_loop (fX12_counts_l2 N mmI mm_earsF mm_sumFromF mm_nightOfF mm_sharpOfF mm_mileOfF mm_milesToldF mm_sumBehindF mm_codeSortF mm_codeValueF) n2) (mm_heardFromF_2, mm_askedF_2, mm_stackL_2, x1_2, x2_2, x3_2) = some (r0, r1, r2) := hf
      unfold fX12_counts_l2 at hf
      refine lv_iload_n hx hb dX12_counts_2 rfl (lv_at hl 3 rfl) ?_
      refine lv_aload_n hx hb dX12_counts_3 rfl (lv_at hl 0 rfl) ?_
      refine va_get (D := (dC, dI)) (ci := 12) (v := .ref ((mmR 18))) (C := RX12) (T := TX12) (N := 70) hx hb hts hinX12 hown hK hP 0 rfl rfl 18 (by decide) hw0 (fun _ h9 => h9) rfl dX12_counts_4 ?_
      refine lv_aload_n hx hb dX12_counts_7 rfl (lv_at hl 0 rfl) ?_
      refine va_get (D := (dC, dI)) (ci := 12) (v := .int (mmI 13)) (C := RX12) (T := TX12) (N := 70) hx hb hts hinX12 hown hK hP 0 rfl rfl 13 (by decide) hw2 (fun _ h9 => h9) rfl dX12_counts_8 ?_
      refine xq_iald hx hb hK hP 1 0 rfl rfl hf dX12_counts_11 (fun v_1 hf => ?_)
      refine lv_icmp_ge (tgt := 69) hx hb dX12_counts_12 (by decide) (fun c_ => ?_) (fun c_ => ?_)
      · have hf := xq_pos hf c_
        have e9 := Option.some.inj hf
        have e9_0 : mm_heardFromF_2 = r0 := congrArg (fun t => t.1) e9
        have e9_1 : mm_askedF_2 = r1 := congrArg (fun t => t.2.1) e9
        have e9_2 : mm_stackL_2 = r2 := congrArg (fun t => t.2.2) e9
        clear e9 hf
        try clear b55
        try clear l18
        try clear l2
        try clear ih18
        try clear ih2
        subst e9_0
        subst e9_1
        subst e9_2
        exact xq_vret hx hb hr hlocks hK hP hD hS dX12_counts_69
      · have hf := xq_neg hf c_
        refine lv_iconst (v := 0) hx hb dX12_counts_15 (by decide) ?_
        refine lv_istore (lv' := [(4, .int 0), (0, .ref a_p0), (1, .int x1_2), (2, .int x2_2), (3, .int x3_2)]) hx hb dX12_counts_16 hl (by decide) rfl (fun ls hl => ?_)
        exact l18 N mm_heardFromF_2 mm_askedF_2 mm_stackL_2 x1_2 x2_2 x3_2 0 _ _ _ hf hP hD hS (lv_sub hl [1, 2, 3, 4, 0] rfl)
  unfold fX12_counts at hf
  refine lv_iconst (v := 0) hx hb dX12_counts_0 (by decide) ?_
  refine lv_istore_n (lv' := [(3, .int 0), (0, .ref a_p0), (1, .int p1), (2, .int p2)]) hx hb dX12_counts_1 rfl hl (by decide) rfl (fun ls hl => ?_)
  exact l2 N mm_heardFromF mm_askedF mm_stackL p1 p2 0 _ _ _ hf hP hD hS (lv_sub hl [1, 2, 3, 0] rfl)
def dsX12_writesDown_0 : List (Nat × Instr × Nat) := [(0, (.aload_n 0, 1)), (1, (.getfield 171, 3)), (4, (.iload_n 1, 1)), (5, (.iaload, 1)), (6, (.bipush 40, 2)), (8, (.if_icmp .ne 51, 3)), (11, (.bipush 120, 2)), (13, (.iload_n 1, 1)), (14, (.imul, 1)), (15, (.istore_n 3, 1)), (16, (.iload_n 3, 1)), (17, (.bipush 120, 2)), (19, (.iload_n 1, 1)), (20, (.imul, 1)), (21, (.bipush 120, 2)), (23, (.iadd, 1)), (24, (.iconst 3, 1)), (25, (.isub, 1)), (26, (.if_icmp .ge 23, 3)), (29, (.aload_n 0, 1)), (30, (.getfield 174, 3)), (33, (.iload_n 3, 1)), (34, (.aload_n 0, 1)), (35, (.getfield 174, 3)), (38, (.iload_n 3, 1)), (39, (.iconst 3, 1)), (40, (.iadd, 1)), (41, (.iaload, 1)), (42, (.iastore, 1)), (43, (.iinc 3 1, 3)), (46, (.goto (-30), 3)), (49, (.aload_n 0, 1)), (50, (.getfield 171, 3)), (53, (.iload_n 1, 1)), (54, (.dup2, 1)), (55, (.iaload, 1)), (56, (.iconst 1, 1)), (57, (.isub, 1)), (58, (.iastore, 1)), (59, (.iconst 3, 1)), (60, (.bipush 40, 2)), (62, (.iload_n 1, 1)), (63, (.imul, 1)), (64, (.aload_n 0, 1)), (65, (.getfield 171, 3)), (68, (.iload_n 1, 1)), (69, (.iaload, 1)), (70, (.iadd, 1)), (71, (.imul, 1)), (72, (.istore_n 3, 1)), (73, (.aload_n 0, 1)), (74, (.getfield 174, 3)), (77, (.iload_n 3, 1)), (78, (.aload_n 0, 1)), (79, (.getfield 150, 3)), (82, (.iload_n 1, 1)), (83, (.iaload, 1)), (84, (.iastore, 1)), (85, (.aload_n 0, 1)), (86, (.getfield 174, 3))]
theorem dsX12_writesDown_0_ok : (dsX12_writesDown_0.all fun q => decide (decode cX12_writesDown q.1 = .ok q.2)) = true := by decide +kernel
theorem dX12_writesDown_0 : decode cX12_writesDown 0 = .ok (.aload_n 0, 1) := of_decide_eq_true (List.all_eq_true.mp dsX12_writesDown_0_ok (0, (.aload_n 0, 1)) (List.mem_of_getElem? (i := 0) rfl))
theorem dX12_writesDown_1 : decode cX12_writesDown 1 = .ok (.getfield 171, 3) := of_decide_eq_true (List.all_eq_true.mp dsX12_writesDown_0_ok (1, (.getfield 171, 3)) (List.mem_of_getElem? (i := 1) rfl))
theorem dX12_writesDown_4 : decode cX12_writesDown 4 = .ok (.iload_n 1, 1) := of_decide_eq_true (List.all_eq_true.mp dsX12_writesDown_0_ok (4, (.iload_n 1, 1)) (List.mem_of_getElem? (i := 2) rfl))
theorem dX12_writesDown_5 : decode cX12_writesDown 5 = .ok (.iaload, 1) := of_decide_eq_true (List.all_eq_true.mp dsX12_writesDown_0_ok (5, (.iaload, 1)) (List.mem_of_getElem? (i := 3) rfl))
theorem dX12_writesDown_6 : decode cX12_writesDown 6 = .ok (.bipush 40, 2) := of_decide_eq_true (List.all_eq_true.mp dsX12_writesDown_0_ok (6, (.bipush 40, 2)) (List.mem_of_getElem? (i := 4) rfl))
theorem dX12_writesDown_8 : decode cX12_writesDown 8 = .ok (.if_icmp .ne 51, 3) := of_decide_eq_true (List.all_eq_true.mp dsX12_writesDown_0_ok (8, (.if_icmp .ne 51, 3)) (List.mem_of_getElem? (i := 5) rfl))
theorem dX12_writesDown_11 : decode cX12_writesDown 11 = .ok (.bipush 120, 2) := of_decide_eq_true (List.all_eq_true.mp dsX12_writesDown_0_ok (11, (.bipush 120, 2)) (List.mem_of_getElem? (i := 6) rfl))
theorem dX12_writesDown_13 : decode cX12_writesDown 13 = .ok (.iload_n 1, 1) := of_decide_eq_true (List.all_eq_true.mp dsX12_writesDown_0_ok (13, (.iload_n 1, 1)) (List.mem_of_getElem? (i := 7) rfl))
theorem dX12_writesDown_14 : decode cX12_writesDown 14 = .ok (.imul, 1) := of_decide_eq_true (List.all_eq_true.mp dsX12_writesDown_0_ok (14, (.imul, 1)) (List.mem_of_getElem? (i := 8) rfl))
theorem dX12_writesDown_15 : decode cX12_writesDown 15 = .ok (.istore_n 3, 1) := of_decide_eq_true (List.all_eq_true.mp dsX12_writesDown_0_ok (15, (.istore_n 3, 1)) (List.mem_of_getElem? (i := 9) rfl))
theorem dX12_writesDown_16 : decode cX12_writesDown 16 = .ok (.iload_n 3, 1) := of_decide_eq_true (List.all_eq_true.mp dsX12_writesDown_0_ok (16, (.iload_n 3, 1)) (List.mem_of_getElem? (i := 10) rfl))
theorem dX12_writesDown_17 : decode cX12_writesDown 17 = .ok (.bipush 120, 2) := of_decide_eq_true (List.all_eq_true.mp dsX12_writesDown_0_ok (17, (.bipush 120, 2)) (List.mem_of_getElem? (i := 11) rfl))
theorem dX12_writesDown_19 : decode cX12_writesDown 19 = .ok (.iload_n 1, 1) := of_decide_eq_true (List.all_eq_true.mp dsX12_writesDown_0_ok (19, (.iload_n 1, 1)) (List.mem_of_getElem? (i := 12) rfl))
theorem dX12_writesDown_20 : decode cX12_writesDown 20 = .ok (.imul, 1) := of_decide_eq_true (List.all_eq_true.mp dsX12_writesDown_0_ok (20, (.imul, 1)) (List.mem_of_getElem? (i := 13) rfl))
theorem dX12_writesDown_21 : decode cX12_writesDown 21 = .ok (.bipush 120, 2) := of_decide_eq_true (List.all_eq_true.mp dsX12_writesDown_0_ok (21, (.bipush 120, 2)) (List.mem_of_getElem? (i := 14) rfl))
theorem dX12_writesDown_23 : decode cX12_writesDown 23 = .ok (.iadd, 1) := of_decide_eq_true (List.all_eq_true.mp dsX12_writesDown_0_ok (23, (.iadd, 1)) (List.mem_of_getElem? (i := 15) rfl))
theorem dX12_writesDown_24 : decode cX12_writesDown 24 = .ok (.iconst 3, 1) := of_decide_eq_true (List.all_eq_true.mp dsX12_writesDown_0_ok (24, (.iconst 3, 1)) (List.mem_of_getElem? (i := 16) rfl))
theorem dX12_writesDown_25 : decode cX12_writesDown 25 = .ok (.isub, 1) := of_decide_eq_true (List.all_eq_true.mp dsX12_writesDown_0_ok (25, (.isub, 1)) (List.mem_of_getElem? (i := 17) rfl))
theorem dX12_writesDown_26 : decode cX12_writesDown 26 = .ok (.if_icmp .ge 23, 3) := of_decide_eq_true (List.all_eq_true.mp dsX12_writesDown_0_ok (26, (.if_icmp .ge 23, 3)) (List.mem_of_getElem? (i := 18) rfl))
theorem dX12_writesDown_29 : decode cX12_writesDown 29 = .ok (.aload_n 0, 1) := of_decide_eq_true (List.all_eq_true.mp dsX12_writesDown_0_ok (29, (.aload_n 0, 1)) (List.mem_of_getElem? (i := 19) rfl))
theorem dX12_writesDown_30 : decode cX12_writesDown 30 = .ok (.getfield 174, 3) := of_decide_eq_true (List.all_eq_true.mp dsX12_writesDown_0_ok (30, (.getfield 174, 3)) (List.mem_of_getElem? (i := 20) rfl))
theorem dX12_writesDown_33 : decode cX12_writesDown 33 = .ok (.iload_n 3, 1) := of_decide_eq_true (List.all_eq_true.mp dsX12_writesDown_0_ok (33, (.iload_n 3, 1)) (List.mem_of_getElem? (i := 21) rfl))
theorem dX12_writesDown_34 : decode cX12_writesDown 34 = .ok (.aload_n 0, 1) := of_decide_eq_true (List.all_eq_true.mp dsX12_writesDown_0_ok (34, (.aload_n 0, 1)) (List.mem_of_getElem? (i := 22) rfl))
theorem dX12_writesDown_35 : decode cX12_writesDown 35 = .ok (.getfield 174, 3) := of_decide_eq_true (List.all_eq_true.mp dsX12_writesDown_0_ok (35, (.getfield 174, 3)) (List.mem_of_getElem? (i := 23) rfl))
theorem dX12_writesDown_38 : decode cX12_writesDown 38 = .ok (.iload_n 3, 1) := of_decide_eq_true (List.all_eq_true.mp dsX12_writesDown_0_ok (38, (.iload_n 3, 1)) (List.mem_of_getElem? (i := 24) rfl))
theorem dX12_writesDown_39 : decode cX12_writesDown 39 = .ok (.iconst 3, 1) := of_decide_eq_true (List.all_eq_true.mp dsX12_writesDown_0_ok (39, (.iconst 3, 1)) (List.mem_of_getElem? (i := 25) rfl))
theorem dX12_writesDown_40 : decode cX12_writesDown 40 = .ok (.iadd, 1) := of_decide_eq_true (List.all_eq_true.mp dsX12_writesDown_0_ok (40, (.iadd, 1)) (List.mem_of_getElem? (i := 26) rfl))
theorem dX12_writesDown_41 : decode cX12_writesDown 41 = .ok (.iaload, 1) := of_decide_eq_true (List.all_eq_true.mp dsX12_writesDown_0_ok (41, (.iaload, 1)) (List.mem_of_getElem? (i := 27) rfl))
theorem dX12_writesDown_42 : decode cX12_writesDown 42 = .ok (.iastore, 1) := of_decide_eq_true (List.all_eq_true.mp dsX12_writesDown_0_ok (42, (.iastore, 1)) (List.mem_of_getElem? (i := 28) rfl))
theorem dX12_writesDown_43 : decode cX12_writesDown 43 = .ok (.iinc 3 1, 3) := of_decide_eq_true (List.all_eq_true.mp dsX12_writesDown_0_ok (43, (.iinc 3 1, 3)) (List.mem_of_getElem? (i := 29) rfl))
theorem dX12_writesDown_46 : decode cX12_writesDown 46 = .ok (.goto (-30), 3) := of_decide_eq_true (List.all_eq_true.mp dsX12_writesDown_0_ok (46, (.goto (-30), 3)) (List.mem_of_getElem? (i := 30) rfl))
theorem dX12_writesDown_49 : decode cX12_writesDown 49 = .ok (.aload_n 0, 1) := of_decide_eq_true (List.all_eq_true.mp dsX12_writesDown_0_ok (49, (.aload_n 0, 1)) (List.mem_of_getElem? (i := 31) rfl))
theorem dX12_writesDown_50 : decode cX12_writesDown 50 = .ok (.getfield 171, 3) := of_decide_eq_true (List.all_eq_true.mp dsX12_writesDown_0_ok (50, (.getfield 171, 3)) (List.mem_of_getElem? (i := 32) rfl))
theorem dX12_writesDown_53 : decode cX12_writesDown 53 = .ok (.iload_n 1, 1) := of_decide_eq_true (List.all_eq_true.mp dsX12_writesDown_0_ok (53, (.iload_n 1, 1)) (List.mem_of_getElem? (i := 33) rfl))
theorem dX12_writesDown_54 : decode cX12_writesDown 54 = .ok (.dup2, 1) := of_decide_eq_true (List.all_eq_true.mp dsX12_writesDown_0_ok (54, (.dup2, 1)) (List.mem_of_getElem? (i := 34) rfl))
theorem dX12_writesDown_55 : decode cX12_writesDown 55 = .ok (.iaload, 1) := of_decide_eq_true (List.all_eq_true.mp dsX12_writesDown_0_ok (55, (.iaload, 1)) (List.mem_of_getElem? (i := 35) rfl))
theorem dX12_writesDown_56 : decode cX12_writesDown 56 = .ok (.iconst 1, 1) := of_decide_eq_true (List.all_eq_true.mp dsX12_writesDown_0_ok (56, (.iconst 1, 1)) (List.mem_of_getElem? (i := 36) rfl))
theorem dX12_writesDown_57 : decode cX12_writesDown 57 = .ok (.isub, 1) := of_decide_eq_true (List.all_eq_true.mp dsX12_writesDown_0_ok (57, (.isub, 1)) (List.mem_of_getElem? (i := 37) rfl))
theorem dX12_writesDown_58 : decode cX12_writesDown 58 = .ok (.iastore, 1) := of_decide_eq_true (List.all_eq_true.mp dsX12_writesDown_0_ok (58, (.iastore, 1)) (List.mem_of_getElem? (i := 38) rfl))
theorem dX12_writesDown_59 : decode cX12_writesDown 59 = .ok (.iconst 3, 1) := of_decide_eq_true (List.all_eq_true.mp dsX12_writesDown_0_ok (59, (.iconst 3, 1)) (List.mem_of_getElem? (i := 39) rfl))
theorem dX12_writesDown_60 : decode cX12_writesDown 60 = .ok (.bipush 40, 2) := of_decide_eq_true (List.all_eq_true.mp dsX12_writesDown_0_ok (60, (.bipush 40, 2)) (List.mem_of_getElem? (i := 40) rfl))
theorem dX12_writesDown_62 : decode cX12_writesDown 62 = .ok (.iload_n 1, 1) := of_decide_eq_true (List.all_eq_true.mp dsX12_writesDown_0_ok (62, (.iload_n 1, 1)) (List.mem_of_getElem? (i := 41) rfl))
theorem dX12_writesDown_63 : decode cX12_writesDown 63 = .ok (.imul, 1) := of_decide_eq_true (List.all_eq_true.mp dsX12_writesDown_0_ok (63, (.imul, 1)) (List.mem_of_getElem? (i := 42) rfl))
theorem dX12_writesDown_64 : decode cX12_writesDown 64 = .ok (.aload_n 0, 1) := of_decide_eq_true (List.all_eq_true.mp dsX12_writesDown_0_ok (64, (.aload_n 0, 1)) (List.mem_of_getElem? (i := 43) rfl))
theorem dX12_writesDown_65 : decode cX12_writesDown 65 = .ok (.getfield 171, 3) := of_decide_eq_true (List.all_eq_true.mp dsX12_writesDown_0_ok (65, (.getfield 171, 3)) (List.mem_of_getElem? (i := 44) rfl))
theorem dX12_writesDown_68 : decode cX12_writesDown 68 = .ok (.iload_n 1, 1) := of_decide_eq_true (List.all_eq_true.mp dsX12_writesDown_0_ok (68, (.iload_n 1, 1)) (List.mem_of_getElem? (i := 45) rfl))
theorem dX12_writesDown_69 : decode cX12_writesDown 69 = .ok (.iaload, 1) := of_decide_eq_true (List.all_eq_true.mp dsX12_writesDown_0_ok (69, (.iaload, 1)) (List.mem_of_getElem? (i := 46) rfl))
theorem dX12_writesDown_70 : decode cX12_writesDown 70 = .ok (.iadd, 1) := of_decide_eq_true (List.all_eq_true.mp dsX12_writesDown_0_ok (70, (.iadd, 1)) (List.mem_of_getElem? (i := 47) rfl))
theorem dX12_writesDown_71 : decode cX12_writesDown 71 = .ok (.imul, 1) := of_decide_eq_true (List.all_eq_true.mp dsX12_writesDown_0_ok (71, (.imul, 1)) (List.mem_of_getElem? (i := 48) rfl))
theorem dX12_writesDown_72 : decode cX12_writesDown 72 = .ok (.istore_n 3, 1) := of_decide_eq_true (List.all_eq_true.mp dsX12_writesDown_0_ok (72, (.istore_n 3, 1)) (List.mem_of_getElem? (i := 49) rfl))
theorem dX12_writesDown_73 : decode cX12_writesDown 73 = .ok (.aload_n 0, 1) := of_decide_eq_true (List.all_eq_true.mp dsX12_writesDown_0_ok (73, (.aload_n 0, 1)) (List.mem_of_getElem? (i := 50) rfl))
theorem dX12_writesDown_74 : decode cX12_writesDown 74 = .ok (.getfield 174, 3) := of_decide_eq_true (List.all_eq_true.mp dsX12_writesDown_0_ok (74, (.getfield 174, 3)) (List.mem_of_getElem? (i := 51) rfl))
theorem dX12_writesDown_77 : decode cX12_writesDown 77 = .ok (.iload_n 3, 1) := of_decide_eq_true (List.all_eq_true.mp dsX12_writesDown_0_ok (77, (.iload_n 3, 1)) (List.mem_of_getElem? (i := 52) rfl))
theorem dX12_writesDown_78 : decode cX12_writesDown 78 = .ok (.aload_n 0, 1) := of_decide_eq_true (List.all_eq_true.mp dsX12_writesDown_0_ok (78, (.aload_n 0, 1)) (List.mem_of_getElem? (i := 53) rfl))
theorem dX12_writesDown_79 : decode cX12_writesDown 79 = .ok (.getfield 150, 3) := of_decide_eq_true (List.all_eq_true.mp dsX12_writesDown_0_ok (79, (.getfield 150, 3)) (List.mem_of_getElem? (i := 54) rfl))
theorem dX12_writesDown_82 : decode cX12_writesDown 82 = .ok (.iload_n 1, 1) := of_decide_eq_true (List.all_eq_true.mp dsX12_writesDown_0_ok (82, (.iload_n 1, 1)) (List.mem_of_getElem? (i := 55) rfl))
theorem dX12_writesDown_83 : decode cX12_writesDown 83 = .ok (.iaload, 1) := of_decide_eq_true (List.all_eq_true.mp dsX12_writesDown_0_ok (83, (.iaload, 1)) (List.mem_of_getElem? (i := 56) rfl))
theorem dX12_writesDown_84 : decode cX12_writesDown 84 = .ok (.iastore, 1) := of_decide_eq_true (List.all_eq_true.mp dsX12_writesDown_0_ok (84, (.iastore, 1)) (List.mem_of_getElem? (i := 57) rfl))
theorem dX12_writesDown_85 : decode cX12_writesDown 85 = .ok (.aload_n 0, 1) := of_decide_eq_true (List.all_eq_true.mp dsX12_writesDown_0_ok (85, (.aload_n 0, 1)) (List.mem_of_getElem? (i := 58) rfl))
theorem dX12_writesDown_86 : decode cX12_writesDown 86 = .ok (.getfield 174, 3) := of_decide_eq_true (List.all_eq_true.mp dsX12_writesDown_0_ok (86, (.getfield 174, 3)) (List.mem_of_getElem? (i := 59) rfl))
def dsX12_writesDown_1 : List (Nat × Instr × Nat) := [(89, (.iload_n 3, 1)), (90, (.iconst 1, 1)), (91, (.iadd, 1)), (92, (.aload_n 0, 1)), (93, (.getfield 153, 3)), (96, (.iload_n 1, 1)), (97, (.iaload, 1)), (98, (.iastore, 1)), (99, (.aload_n 0, 1)), (100, (.getfield 174, 3)), (103, (.iload_n 3, 1)), (104, (.iconst 2, 1)), (105, (.iadd, 1)), (106, (.iload_n 2, 1)), (107, (.iastore, 1)), (108, (.aload_n 0, 1)), (109, (.getfield 171, 3)), (112, (.iload_n 1, 1)), (113, (.dup2, 1)), (114, (.iaload, 1)), (115, (.iconst 1, 1)), (116, (.iadd, 1)), (117, (.iastore, 1)), (118, (.return_, 1))]
theorem dsX12_writesDown_1_ok : (dsX12_writesDown_1.all fun q => decide (decode cX12_writesDown q.1 = .ok q.2)) = true := by decide +kernel
theorem dX12_writesDown_89 : decode cX12_writesDown 89 = .ok (.iload_n 3, 1) := of_decide_eq_true (List.all_eq_true.mp dsX12_writesDown_1_ok (89, (.iload_n 3, 1)) (List.mem_of_getElem? (i := 0) rfl))
theorem dX12_writesDown_90 : decode cX12_writesDown 90 = .ok (.iconst 1, 1) := of_decide_eq_true (List.all_eq_true.mp dsX12_writesDown_1_ok (90, (.iconst 1, 1)) (List.mem_of_getElem? (i := 1) rfl))
theorem dX12_writesDown_91 : decode cX12_writesDown 91 = .ok (.iadd, 1) := of_decide_eq_true (List.all_eq_true.mp dsX12_writesDown_1_ok (91, (.iadd, 1)) (List.mem_of_getElem? (i := 2) rfl))
theorem dX12_writesDown_92 : decode cX12_writesDown 92 = .ok (.aload_n 0, 1) := of_decide_eq_true (List.all_eq_true.mp dsX12_writesDown_1_ok (92, (.aload_n 0, 1)) (List.mem_of_getElem? (i := 3) rfl))
theorem dX12_writesDown_93 : decode cX12_writesDown 93 = .ok (.getfield 153, 3) := of_decide_eq_true (List.all_eq_true.mp dsX12_writesDown_1_ok (93, (.getfield 153, 3)) (List.mem_of_getElem? (i := 4) rfl))
theorem dX12_writesDown_96 : decode cX12_writesDown 96 = .ok (.iload_n 1, 1) := of_decide_eq_true (List.all_eq_true.mp dsX12_writesDown_1_ok (96, (.iload_n 1, 1)) (List.mem_of_getElem? (i := 5) rfl))
theorem dX12_writesDown_97 : decode cX12_writesDown 97 = .ok (.iaload, 1) := of_decide_eq_true (List.all_eq_true.mp dsX12_writesDown_1_ok (97, (.iaload, 1)) (List.mem_of_getElem? (i := 6) rfl))
theorem dX12_writesDown_98 : decode cX12_writesDown 98 = .ok (.iastore, 1) := of_decide_eq_true (List.all_eq_true.mp dsX12_writesDown_1_ok (98, (.iastore, 1)) (List.mem_of_getElem? (i := 7) rfl))
theorem dX12_writesDown_99 : decode cX12_writesDown 99 = .ok (.aload_n 0, 1) := of_decide_eq_true (List.all_eq_true.mp dsX12_writesDown_1_ok (99, (.aload_n 0, 1)) (List.mem_of_getElem? (i := 8) rfl))
theorem dX12_writesDown_100 : decode cX12_writesDown 100 = .ok (.getfield 174, 3) := of_decide_eq_true (List.all_eq_true.mp dsX12_writesDown_1_ok (100, (.getfield 174, 3)) (List.mem_of_getElem? (i := 9) rfl))
theorem dX12_writesDown_103 : decode cX12_writesDown 103 = .ok (.iload_n 3, 1) := of_decide_eq_true (List.all_eq_true.mp dsX12_writesDown_1_ok (103, (.iload_n 3, 1)) (List.mem_of_getElem? (i := 10) rfl))
theorem dX12_writesDown_104 : decode cX12_writesDown 104 = .ok (.iconst 2, 1) := of_decide_eq_true (List.all_eq_true.mp dsX12_writesDown_1_ok (104, (.iconst 2, 1)) (List.mem_of_getElem? (i := 11) rfl))
theorem dX12_writesDown_105 : decode cX12_writesDown 105 = .ok (.iadd, 1) := of_decide_eq_true (List.all_eq_true.mp dsX12_writesDown_1_ok (105, (.iadd, 1)) (List.mem_of_getElem? (i := 12) rfl))
theorem dX12_writesDown_106 : decode cX12_writesDown 106 = .ok (.iload_n 2, 1) := of_decide_eq_true (List.all_eq_true.mp dsX12_writesDown_1_ok (106, (.iload_n 2, 1)) (List.mem_of_getElem? (i := 13) rfl))
theorem dX12_writesDown_107 : decode cX12_writesDown 107 = .ok (.iastore, 1) := of_decide_eq_true (List.all_eq_true.mp dsX12_writesDown_1_ok (107, (.iastore, 1)) (List.mem_of_getElem? (i := 14) rfl))
theorem dX12_writesDown_108 : decode cX12_writesDown 108 = .ok (.aload_n 0, 1) := of_decide_eq_true (List.all_eq_true.mp dsX12_writesDown_1_ok (108, (.aload_n 0, 1)) (List.mem_of_getElem? (i := 15) rfl))
theorem dX12_writesDown_109 : decode cX12_writesDown 109 = .ok (.getfield 171, 3) := of_decide_eq_true (List.all_eq_true.mp dsX12_writesDown_1_ok (109, (.getfield 171, 3)) (List.mem_of_getElem? (i := 16) rfl))
theorem dX12_writesDown_112 : decode cX12_writesDown 112 = .ok (.iload_n 1, 1) := of_decide_eq_true (List.all_eq_true.mp dsX12_writesDown_1_ok (112, (.iload_n 1, 1)) (List.mem_of_getElem? (i := 17) rfl))
theorem dX12_writesDown_113 : decode cX12_writesDown 113 = .ok (.dup2, 1) := of_decide_eq_true (List.all_eq_true.mp dsX12_writesDown_1_ok (113, (.dup2, 1)) (List.mem_of_getElem? (i := 18) rfl))
theorem dX12_writesDown_114 : decode cX12_writesDown 114 = .ok (.iaload, 1) := of_decide_eq_true (List.all_eq_true.mp dsX12_writesDown_1_ok (114, (.iaload, 1)) (List.mem_of_getElem? (i := 19) rfl))
theorem dX12_writesDown_115 : decode cX12_writesDown 115 = .ok (.iconst 1, 1) := of_decide_eq_true (List.all_eq_true.mp dsX12_writesDown_1_ok (115, (.iconst 1, 1)) (List.mem_of_getElem? (i := 20) rfl))
theorem dX12_writesDown_116 : decode cX12_writesDown 116 = .ok (.iadd, 1) := of_decide_eq_true (List.all_eq_true.mp dsX12_writesDown_1_ok (116, (.iadd, 1)) (List.mem_of_getElem? (i := 21) rfl))
theorem dX12_writesDown_117 : decode cX12_writesDown 117 = .ok (.iastore, 1) := of_decide_eq_true (List.all_eq_true.mp dsX12_writesDown_1_ok (117, (.iastore, 1)) (List.mem_of_getElem? (i := 22) rfl))
theorem dX12_writesDown_118 : decode cX12_writesDown 118 = .ok (.return_, 1) := of_decide_eq_true (List.all_eq_true.mp dsX12_writesDown_1_ok (118, (.return_, 1)) (List.mem_of_getElem? (i := 23) rfl))
def fX12_writesDown_b59 (N : Nat) (mm_nightOfF : Nat → Int32) (mm_mileOfF : Nat → Int32)   : ((Nat → Int32) × (Nat → Int32) × Int32 × Int32) → Option ((Nat → Int32) × (Nat → Int32)) :=
  fun (mm_keptManyF_59, mm_keptRowF_59, x1_59, x2_59) => (xq_bd (xq_ald 22 mm_keptManyF_59 x1_59) fun v_1 => (xq_bd (xq_ald 22 mm_nightOfF x1_59) fun v_2 => (xq_bd (xq_ast 2640 mm_keptRowF_59 (3 * ((40 * x1_59) + v_1)) v_2) fun g_3 => (xq_bd (xq_ald 22 mm_mileOfF x1_59) fun v_4 => (xq_bd (xq_ast 2640 g_3 ((3 * ((40 * x1_59) + v_1)) + 1) v_4) fun g_5 => (xq_bd (xq_ast 2640 g_5 ((3 * ((40 * x1_59) + v_1)) + 2) x2_59) fun g_6 => (xq_bd (xq_ald 22 mm_keptManyF_59 x1_59) fun v_7 => (xq_bd (xq_ast 22 mm_keptManyF_59 x1_59 (v_7 + 1)) fun g_8 => some ((g_8, g_6))))))))))
def fX12_writesDown_l16 (N : Nat) (mm_nightOfF : Nat → Int32) (mm_mileOfF : Nat → Int32)  (k16 : ((Nat → Int32) × (Nat → Int32) × Int32 × Int32 × Int32) → Option ((Nat → Int32) × (Nat → Int32))) : ((Nat → Int32) × (Nat → Int32) × Int32 × Int32 × Int32) → Option ((Nat → Int32) × (Nat → Int32)) :=
  fun (mm_keptManyF_16, mm_keptRowF_16, x1_16, x2_16, x3_16) => (if (((120 * x1_16) + 120) - 3) ≤ x3_16 then (xq_bd (xq_ald 22 mm_keptManyF_16 x1_16) fun v_9 => (xq_bd (xq_ast 22 mm_keptManyF_16 x1_16 (v_9 - 1)) fun g_10 => fX12_writesDown_b59 N mm_nightOfF mm_mileOfF (g_10, mm_keptRowF_16, x1_16, x2_16))) else (xq_bd (xq_ald 2640 mm_keptRowF_16 (x3_16 + 3)) fun v_11 => (xq_bd (xq_ast 2640 mm_keptRowF_16 x3_16 v_11) fun g_12 => k16 (mm_keptManyF_16, g_12, x1_16, x2_16, x3_16 + 1))))
def fX12_writesDown (N : Nat) (mm_keptManyF : Nat → Int32) (mm_keptRowF : Nat → Int32) (mm_nightOfF : Nat → Int32) (mm_mileOfF : Nat → Int32)  (p1 : Int32) (p2 : Int32) : Option ((Nat → Int32) × (Nat → Int32)) :=
  (xq_bd (xq_ald 22 mm_keptManyF p1) fun v_1 => (if v_1 = 40 then xq_loop (fX12_writesDown_l16 N mm_nightOfF mm_mileOfF) N (mm_keptManyF, mm_keptRowF, p1, p2, 120 * p1) else fX12_writesDown_b59 N mm_nightOfF mm_mileOfF (mm_keptManyF, mm_keptRowF, p1, p2)))
set_option maxHeartbeats 4000000 in
set_option maxRecDepth 100000 in
theorem kX12_writesDown (l : Launch) (dC : Nat → ClassId) (dI : Nat → Nat → Nat) (cI cB cJ cZ cM : ClassId) (z : Nat) (ad : Nat → Nat) (N : Nat) (a_p0 : Nat) (mmI : Nat → Int32) (mmJ : Nat → Int64) (mmR : Nat → Nat) (mm_keptManyF : Nat → Int32) (mm_keptRowF : Nat → Int32) (mm_nightOfF : Nat → Int32) (mm_mileOfF : Nat → Int32) (p1 : Int32) (p2 : Int32) {r0 : Nat → Int32} {r1 : Nat → Int32} (hf : fX12_writesDown N mm_keptManyF mm_keptRowF mm_nightOfF mm_mileOfF p1 p2 = some (r0, r1)) : xq_Ct l yX12_writesDown wsX12_writesDown { frames := 0, cells := 0, slots := 0, locals := 0 } (dC, dI) vwCl (xq_tys cI cB cJ cZ cM) z ad [.ref a_p0, .int p1, .int p2] [(a_p0, .inr (12, oX12 mmI mmJ mmR)), ((mmR 52), .inl (cI, 22, .inl mm_keptManyF)), ((mmR 53), .inl (cI, 2640, .inl mm_keptRowF)), ((mmR 45), .inl (cI, 22, .inl mm_nightOfF)), ((mmR 46), .inl (cI, 22, .inl mm_mileOfF))] [(a_p0, .inr (12, oX12 mmI mmJ mmR)), ((mmR 52), .inl (cI, 22, .inl r0)), ((mmR 53), .inl (cI, 2640, .inl r1)), ((mmR 45), .inl (cI, 22, .inl mm_nightOfF)), ((mmR 46), .inl (cI, 22, .inl mm_mileOfF))] none := by
  intro sz
  refine Met.ofW (cc := cX12_writesDown) (maxL := 4) (ret := none) (by decide) rfl ?_
  intro p e s m args below meth c s₁ B hml hv
  obtain ⟨rfl, hsz, hP, hK, hD0, hE, hz⟩ := hv
  have hx := B.exec
  have hb := B.bytes
  have hr := B.returns
  have hts := atoms_spec (ws := wsX12_writesDown) B.pre
  have hown : s.vm.findClass RX12 = some m.cls := findClass_of_methodNamed B.named
  have hlocks := B.notSynchronized
  subst hsz
  have hD := hD0.self (sz := s.heap.size)
  have hN := xq_Env.of hE hz hD0
  generalize hAe : va_A [(a_p0, .inr (12, oX12 mmI mmJ mmR)), ((mmR 52), .inl (cI, 22, .inl mm_keptManyF)), ((mmR 53), .inl (cI, 2640, .inl mm_keptRowF)), ((mmR 45), .inl (cI, 22, .inl mm_nightOfF)), ((mmR 46), .inl (cI, 22, .inl mm_mileOfF))] s.heap.size = A at hD hN ⊢
  have hA : ∀ q : Nat, s.heap.size ≤ q → A q := fun q h => by rw [← hAe]; exact Or.inr h
  clear hAe hD0
  have hS : va_S A s.heap s.heap [] := va_S.rf
  have hl := lv_entry ([.ref a_p0, .int p1, .int p2]) (n := 4) (Nat.le_of_ble_eq_true rfl)
  rw [lg_entry_eq]
  generalize (lg_sl ([.ref a_p0, .int p1, .int p2]) ++ List.replicate (4 - (lg_sl ([.ref a_p0, .int p1, .int p2])).length) Slot.unset).toArray = ls at hl ⊢
  have hl : lv_has ls 4 [(0, .ref a_p0), (1, .int p1), (2, .int p2)] := hl
  have hw0 := hts (.fieldLink RX12 171 "DistantVoiceModel" "keptMany" "[I") (by decide +kernel)
  have hinX12 : ∀ w ∈ wsX120, w ∈ wsX12_writesDown := fun w h => List.mem_cons_of_mem _ (List.mem_append_right _ h)
  have hw2 := hts (.fieldLink RX12 174 "DistantVoiceModel" "keptRow" "[I") (by decide +kernel)
  have hw3 := hts (.fieldLink RX12 150 "DistantVoiceModel" "nightOf" "[I") (by decide +kernel)
  have hw4 := hts (.fieldLink RX12 153 "DistantVoiceModel" "mileOf" "[I") (by decide +kernel)
  have b59 : ∀ (mm_keptManyF_59 : Nat → Int32) (mm_keptRowF_59 : Nat → Int32) (x1_59 : Int32) (x2_59 : Int32) (ls : Array Slot) (H : Heap) (locs : List Loc), fX12_writesDown_b59 N mm_nightOfF mm_mileOfF (mm_keptManyF_59, mm_keptRowF_59, x1_59, x2_59) = some (r0, r1) → va_P (dC, dI) vwCl [(a_p0, .inr (12, oX12 mmI mmJ mmR)), ((mmR 52), .inl (cI, 22, .inl mm_keptManyF_59)), ((mmR 53), .inl (cI, 2640, .inl mm_keptRowF_59)), ((mmR 45), .inl (cI, 22, .inl mm_nightOfF)), ((mmR 46), .inl (cI, 22, .inl mm_mileOfF))] H → va_D A [(a_p0, .inr (12, oX12 mmI mmJ mmR)), ((mmR 52), .inl (cI, 22, .inl mm_keptManyF_59)), ((mmR 53), .inl (cI, 2640, .inl mm_keptRowF_59)), ((mmR 45), .inl (cI, 22, .inl mm_nightOfF)), ((mmR 46), .inl (cI, 22, .inl mm_mileOfF))] → va_S A s.heap H locs → lv_has ls 4 [(0, .ref a_p0), (1, .int x1_59), (2, .int x2_59)] → W p l e (headSpec wsX12_writesDown { frames := 0, cells := 0, slots := 0, locals := 0 }).room s m [.ref a_p0, .int p1, .int p2].toArray below meth c H locs 0 0 (MQ below (xq_Q (dC, dI) vwCl (xq_tys cI cB cJ cZ cM) A [(a_p0, .inr (12, oX12 mmI mmJ mmR)), ((mmR 52), .inl (cI, 22, .inl r0)), ((mmR 53), .inl (cI, 2640, .inl r1)), ((mmR 45), .inl (cI, 22, .inl mm_nightOfF)), ((mmR 46), .inl (cI, 22, .inl mm_mileOfF))] none) [.ref a_p0, .int p1, .int p2].toArray s 0 0 A) (F0 m 59 ls []) := by
    intro mm_keptManyF_59 mm_keptRowF_59 x1_59 x2_59 ls H locs hf hP hD hS hl
    unfold fX12_writesDown_b59 at hf
    refine lv_iconst (v := 3) hx hb dX12_writesDown_59 (by decide) ?_
    refine lv_bipush (v := 40) hx hb dX12_writesDown_60 (by decide) ?_
    refine lv_iload_n hx hb dX12_writesDown_62 rfl (lv_at hl 1 rfl) ?_
    refine lv_imul hx hb dX12_writesDown_63 ?_
    refine lv_aload_n hx hb dX12_writesDown_64 rfl (lv_at hl 0 rfl) ?_
    refine va_get (D := (dC, dI)) (ci := 12) (v := .ref ((mmR 52))) (C := RX12) (T := TX12) (N := 70) hx hb hts hinX12 hown hK hP 0 rfl rfl 52 (by decide) hw0 (fun _ h9 => h9) rfl dX12_writesDown_65 ?_
    refine lv_iload_n hx hb dX12_writesDown_68 rfl (lv_at hl 1 rfl) ?_
    refine xq_iald hx hb hK hP 1 0 rfl rfl hf dX12_writesDown_69 (fun v_1 hf => ?_)
    refine lv_iadd hx hb dX12_writesDown_70 ?_
    refine lv_imul hx hb dX12_writesDown_71 ?_
    refine lv_istore_n (lv' := [(3, .int (3 * ((40 * x1_59) + v_1))), (0, .ref a_p0), (1, .int x1_59), (2, .int x2_59)]) hx hb dX12_writesDown_72 rfl hl (by decide) rfl (fun ls hl => ?_)
    refine lv_aload_n hx hb dX12_writesDown_73 rfl (lv_at hl 1 rfl) ?_
    refine va_get (D := (dC, dI)) (ci := 12) (v := .ref ((mmR 53))) (C := RX12) (T := TX12) (N := 70) hx hb hts hinX12 hown hK hP 0 rfl rfl 53 (by decide) hw2 (fun _ h9 => h9) rfl dX12_writesDown_74 ?_
    refine lv_iload_n hx hb dX12_writesDown_77 rfl (lv_at hl 0 rfl) ?_
    refine lv_aload_n hx hb dX12_writesDown_78 rfl (lv_at hl 1 rfl) ?_
    refine va_get (D := (dC, dI)) (ci := 12) (v := .ref ((mmR 45))) (C := RX12) (T := TX12) (N := 70) hx hb hts hinX12 hown hK hP 0 rfl rfl 45 (by decide) hw3 (fun _ h9 => h9) rfl dX12_writesDown_79 ?_
    refine lv_iload_n hx hb dX12_writesDown_82 rfl (lv_at hl 2 rfl) ?_
    refine xq_iald hx hb hK hP 3 0 rfl rfl hf dX12_writesDown_83 (fun v_2 hf => ?_)
    refine xq_iast hx hb hK hP hD hS 2 0 rfl rfl hf dX12_writesDown_84 (fun g_3 H locs hf hP hD hS => ?_)
    have hP : va_P (dC, dI) vwCl [(a_p0, .inr (12, oX12 mmI mmJ mmR)), ((mmR 52), .inl (cI, 22, .inl mm_keptManyF_59)), ((mmR 53), .inl (cI, 2640, .inl g_3)), ((mmR 45), .inl (cI, 22, .inl mm_nightOfF)), ((mmR 46), .inl (cI, 22, .inl mm_mileOfF))] H := hP
    have hD : va_D A [(a_p0, .inr (12, oX12 mmI mmJ mmR)), ((mmR 52), .inl (cI, 22, .inl mm_keptManyF_59)), ((mmR 53), .inl (cI, 2640, .inl g_3)), ((mmR 45), .inl (cI, 22, .inl mm_nightOfF)), ((mmR 46), .inl (cI, 22, .inl mm_mileOfF))] := hD
    refine lv_aload_n hx hb dX12_writesDown_85 rfl (lv_at hl 1 rfl) ?_
    refine va_get (D := (dC, dI)) (ci := 12) (v := .ref ((mmR 53))) (C := RX12) (T := TX12) (N := 70) hx hb hts hinX12 hown hK hP 0 rfl rfl 53 (by decide) hw2 (fun _ h9 => h9) rfl dX12_writesDown_86 ?_
    refine lv_iload_n hx hb dX12_writesDown_89 rfl (lv_at hl 0 rfl) ?_
    refine lv_iconst (v := 1) hx hb dX12_writesDown_90 (by decide) ?_
    refine lv_iadd hx hb dX12_writesDown_91 ?_
    refine lv_aload_n hx hb dX12_writesDown_92 rfl (lv_at hl 1 rfl) ?_
    refine va_get (D := (dC, dI)) (ci := 12) (v := .ref ((mmR 46))) (C := RX12) (T := TX12) (N := 70) hx hb hts hinX12 hown hK hP 0 rfl rfl 46 (by decide) hw4 (fun _ h9 => h9) rfl dX12_writesDown_93 ?_
    refine lv_iload_n hx hb dX12_writesDown_96 rfl (lv_at hl 2 rfl) ?_
    refine xq_iald hx hb hK hP 4 0 rfl rfl hf dX12_writesDown_97 (fun v_4 hf => ?_)
    refine xq_iast hx hb hK hP hD hS 2 0 rfl rfl hf dX12_writesDown_98 (fun g_5 H locs hf hP hD hS => ?_)
    have hP : va_P (dC, dI) vwCl [(a_p0, .inr (12, oX12 mmI mmJ mmR)), ((mmR 52), .inl (cI, 22, .inl mm_keptManyF_59)), ((mmR 53), .inl (cI, 2640, .inl g_5)), ((mmR 45), .inl (cI, 22, .inl mm_nightOfF)), ((mmR 46), .inl (cI, 22, .inl mm_mileOfF))] H := hP
    have hD : va_D A [(a_p0, .inr (12, oX12 mmI mmJ mmR)), ((mmR 52), .inl (cI, 22, .inl mm_keptManyF_59)), ((mmR 53), .inl (cI, 2640, .inl g_5)), ((mmR 45), .inl (cI, 22, .inl mm_nightOfF)), ((mmR 46), .inl (cI, 22, .inl mm_mileOfF))] := hD
    refine lv_aload_n hx hb dX12_writesDown_99 rfl (lv_at hl 1 rfl) ?_
    refine va_get (D := (dC, dI)) (ci := 12) (v := .ref ((mmR 53))) (C := RX12) (T := TX12) (N := 70) hx hb hts hinX12 hown hK hP 0 rfl rfl 53 (by decide) hw2 (fun _ h9 => h9) rfl dX12_writesDown_100 ?_
    refine lv_iload_n hx hb dX12_writesDown_103 rfl (lv_at hl 0 rfl) ?_
    refine lv_iconst (v := 2) hx hb dX12_writesDown_104 (by decide) ?_
    refine lv_iadd hx hb dX12_writesDown_105 ?_
    refine lv_iload_n hx hb dX12_writesDown_106 rfl (lv_at hl 3 rfl) ?_
    refine xq_iast hx hb hK hP hD hS 2 0 rfl rfl hf dX12_writesDown_107 (fun g_6 H locs hf hP hD hS => ?_)
    have hP : va_P (dC, dI) vwCl [(a_p0, .inr (12, oX12 mmI mmJ mmR)), ((mmR 52), .inl (cI, 22, .inl mm_keptManyF_59)), ((mmR 53), .inl (cI, 2640, .inl g_6)), ((mmR 45), .inl (cI, 22, .inl mm_nightOfF)), ((mmR 46), .inl (cI, 22, .inl mm_mileOfF))] H := hP
    have hD : va_D A [(a_p0, .inr (12, oX12 mmI mmJ mmR)), ((mmR 52), .inl (cI, 22, .inl mm_keptManyF_59)), ((mmR 53), .inl (cI, 2640, .inl g_6)), ((mmR 45), .inl (cI, 22, .inl mm_nightOfF)), ((mmR 46), .inl (cI, 22, .inl mm_mileOfF))] := hD
    refine lv_aload_n hx hb dX12_writesDown_108 rfl (lv_at hl 1 rfl) ?_
    refine va_get (D := (dC, dI)) (ci := 12) (v := .ref ((mmR 52))) (C := RX12) (T := TX12) (N := 70) hx hb hts hinX12 hown hK hP 0 rfl rfl 52 (by decide) hw0 (fun _ h9 => h9) rfl dX12_writesDown_109 ?_
    refine lv_iload_n hx hb dX12_writesDown_112 rfl (lv_at hl 2 rfl) ?_
    refine lv_dup2_11 hx hb dX12_writesDown_113 rfl rfl ?_
    refine xq_iald hx hb hK hP 1 0 rfl rfl hf dX12_writesDown_114 (fun v_7 hf => ?_)
    refine lv_iconst (v := 1) hx hb dX12_writesDown_115 (by decide) ?_
    refine lv_iadd hx hb dX12_writesDown_116 ?_
    refine xq_iast hx hb hK hP hD hS 1 0 rfl rfl hf dX12_writesDown_117 (fun g_8 H locs hf hP hD hS => ?_)
    have hP : va_P (dC, dI) vwCl [(a_p0, .inr (12, oX12 mmI mmJ mmR)), ((mmR 52), .inl (cI, 22, .inl g_8)), ((mmR 53), .inl (cI, 2640, .inl g_6)), ((mmR 45), .inl (cI, 22, .inl mm_nightOfF)), ((mmR 46), .inl (cI, 22, .inl mm_mileOfF))] H := hP
    have hD : va_D A [(a_p0, .inr (12, oX12 mmI mmJ mmR)), ((mmR 52), .inl (cI, 22, .inl g_8)), ((mmR 53), .inl (cI, 2640, .inl g_6)), ((mmR 45), .inl (cI, 22, .inl mm_nightOfF)), ((mmR 46), .inl (cI, 22, .inl mm_mileOfF))] := hD
    have e9 := Option.some.inj hf
    have e9_0 : g_8 = r0 := congrArg (fun t => t.1) e9
    have e9_1 : g_6 = r1 := congrArg (fun t => t.2) e9
    clear e9 hf
    try clear b59
    try clear l16
    try clear ih16
    subst e9_0
    subst e9_1
    exact xq_vret hx hb hr hlocks hK hP hD hS dX12_writesDown_118
  have l16 : ∀ n16 : Nat, ∀ (mm_keptManyF_16 : Nat → Int32) (mm_keptRowF_16 : Nat → Int32) (x1_16 : Int32) (x2_16 : Int32) (x3_16 : Int32) (ls : Array Slot) (H : Heap) (locs : List Loc), xq_loop (fX12_writesDown_l16 N mm_nightOfF mm_mileOfF) n16 (mm_keptManyF_16, mm_keptRowF_16, x1_16, x2_16, x3_16) = some (r0, r1) → va_P (dC, dI) vwCl [(a_p0, .inr (12, oX12 mmI mmJ mmR)), ((mmR 52), .inl (cI, 22, .inl mm_keptManyF_16)), ((mmR 53), .inl (cI, 2640, .inl mm_keptRowF_16)), ((mmR 45), .inl (cI, 22, .inl mm_nightOfF)), ((mmR 46), .inl (cI, 22, .inl mm_mileOfF))] H → va_D A [(a_p0, .inr (12, oX12 mmI mmJ mmR)), ((mmR 52), .inl (cI, 22, .inl mm_keptManyF_16)), ((mmR 53), .inl (cI, 2640, .inl mm_keptRowF_16)), ((mmR 45), .inl (cI, 22, .inl mm_nightOfF)), ((mmR 46), .inl (cI, 22, .inl mm_mileOfF))] → va_S A s.heap H locs → lv_has ls 4 [(0, .ref a_p0), (1, .int x1_16), (2, .int x2_16), (3, .int x3_16)] → W p l e (headSpec wsX12_writesDown { frames := 0, cells := 0, slots := 0, locals := 0 }).room s m [.ref a_p0, .int p1, .int p2].toArray below meth c H locs 0 0 (MQ below (xq_Q (dC, dI) vwCl (xq_tys cI cB cJ cZ cM) A [(a_p0, .inr (12, oX12 mmI mmJ mmR)), ((mmR 52), .inl (cI, 22, .inl r0)), ((mmR 53), .inl (cI, 2640, .inl r1)), ((mmR 45), .inl (cI, 22, .inl mm_nightOfF)), ((mmR 46), .inl (cI, 22, .inl mm_mileOfF))] none) [.ref a_p0, .int p1, .int p2].toArray s 0 0 A) (F0 m 16 ls []) := by
    intro n16
    induction n16 with
    | zero => intro mm_keptManyF_16 mm_keptRowF_16 x1_16 x2_16 x3_16 ls H locs hf; cases (show none = some (r0, r1) from hf)
    | succ n16 ih16 =>
      intro mm_keptManyF_16 mm_keptRowF_16 x1_16 x2_16 x3_16 ls H locs hf hP hD hS hl
      have hf : fX12_writesDown_l16 N mm_nightOfF mm_mileOfF (xq_loop (fX12_writesDown_l16 N mm_nightOfF mm_mileOfF) n16) (mm_keptManyF_16, mm_keptRowF_16, x1_16, x2_16, x3_16) = some (r0, r1) := hf
      unfold fX12_writesDown_l16 at hf
      refine lv_iload_n hx hb dX12_writesDown_16 rfl (lv_at hl 3 rfl) ?_
      refine lv_bipush (v := 120) hx hb dX12_writesDown_17 (by decide) ?_
      refine lv_iload_n hx hb dX12_writesDown_19 rfl (lv_at hl 1 rfl) ?_
      refine lv_imul hx hb dX12_writesDown_20 ?_
      refine lv_bipush (v := 120) hx hb dX12_writesDown_21 (by decide) ?_
      refine lv_iadd hx hb dX12_writesDown_23 ?_
      refine lv_iconst (v := 3) hx hb dX12_writesDown_24 (by decide) ?_
      refine lv_isub hx hb dX12_writesDown_25 ?_
      refine lv_icmp_ge (tgt := 49) hx hb dX12_writesDown_26 (by decide) (fun c_ => ?_) (fun c_ => ?_)
      · have hf := xq_pos hf c_
        refine lv_aload_n hx hb dX12_writesDown_49 rfl (lv_at hl 0 rfl) ?_
        refine va_get (D := (dC, dI)) (ci := 12) (v := .ref ((mmR 52))) (C := RX12) (T := TX12) (N := 70) hx hb hts hinX12 hown hK hP 0 rfl rfl 52 (by decide) hw0 (fun _ h9 => h9) rfl dX12_writesDown_50 ?_
        refine lv_iload_n hx hb dX12_writesDown_53 rfl (lv_at hl 1 rfl) ?_
        refine lv_dup2_11 hx hb dX12_writesDown_54 rfl rfl ?_
        refine xq_iald hx hb hK hP 1 0 rfl rfl hf dX12_writesDown_55 (fun v_1 hf => ?_)
        refine lv_iconst (v := 1) hx hb dX12_writesDown_56 (by decide) ?_
        refine lv_isub hx hb dX12_writesDown_57 ?_
        refine xq_iast hx hb hK hP hD hS 1 0 rfl rfl hf dX12_writesDown_58 (fun g_2 H locs hf hP hD hS => ?_)
        have hP : va_P (dC, dI) vwCl [(a_p0, .inr (12, oX12 mmI mmJ mmR)), ((mmR 52), .inl (cI, 22, .inl g_2)), ((mmR 53), .inl (cI, 2640, .inl mm_keptRowF_16)), ((mmR 45), .inl (cI, 22, .inl mm_nightOfF)), ((mmR 46), .inl (cI, 22, .inl mm_mileOfF))] H := hP
        have hD : va_D A [(a_p0, .inr (12, oX12 mmI mmJ mmR)), ((mmR 52), .inl (cI, 22, .inl g_2)), ((mmR 53), .inl (cI, 2640, .inl mm_keptRowF_16)), ((mmR 45), .inl (cI, 22, .inl mm_nightOfF)), ((mmR 46), .inl (cI, 22, .inl mm_mileOfF))] := hD
        exact b59 g_2 mm_keptRowF_16 x1_16 x2_16 _ _ _ hf hP hD hS (lv_sub hl [0, 1, 2] rfl)
      · have hf := xq_neg hf c_
        refine lv_aload_n hx hb dX12_writesDown_29 rfl (lv_at hl 0 rfl) ?_
        refine va_get (D := (dC, dI)) (ci := 12) (v := .ref ((mmR 53))) (C := RX12) (T := TX12) (N := 70) hx hb hts hinX12 hown hK hP 0 rfl rfl 53 (by decide) hw2 (fun _ h9 => h9) rfl dX12_writesDown_30 ?_
        refine lv_iload_n hx hb dX12_writesDown_33 rfl (lv_at hl 3 rfl) ?_
        refine lv_aload_n hx hb dX12_writesDown_34 rfl (lv_at hl 0 rfl) ?_
        refine va_get (D := (dC, dI)) (ci := 12) (v := .ref ((mmR 53))) (C := RX12) (T := TX12) (N := 70) hx hb hts hinX12 hown hK hP 0 rfl rfl 53 (by decide) hw2 (fun _ h9 => h9) rfl dX12_writesDown_35 ?_
        refine lv_iload_n hx hb dX12_writesDown_38 rfl (lv_at hl 3 rfl) ?_
        refine lv_iconst (v := 3) hx hb dX12_writesDown_39 (by decide) ?_
        refine lv_iadd hx hb dX12_writesDown_40 ?_
        refine xq_iald hx hb hK hP 2 0 rfl rfl hf dX12_writesDown_41 (fun v_3 hf => ?_)
        refine xq_iast hx hb hK hP hD hS 2 0 rfl rfl hf dX12_writesDown_42 (fun g_4 H locs hf hP hD hS => ?_)
        have hP : va_P (dC, dI) vwCl [(a_p0, .inr (12, oX12 mmI mmJ mmR)), ((mmR 52), .inl (cI, 22, .inl mm_keptManyF_16)), ((mmR 53), .inl (cI, 2640, .inl g_4)), ((mmR 45), .inl (cI, 22, .inl mm_nightOfF)), ((mmR 46), .inl (cI, 22, .inl mm_mileOfF))] H := hP
        have hD : va_D A [(a_p0, .inr (12, oX12 mmI mmJ mmR)), ((mmR 52), .inl (cI, 22, .inl mm_keptManyF_16)), ((mmR 53), .inl (cI, 2640, .inl g_4)), ((mmR 45), .inl (cI, 22, .inl mm_nightOfF)), ((mmR 46), .inl (cI, 22, .inl mm_mileOfF))] := hD
        refine lv_iinc (v := x3_16 + 1) (lv' := [(3, .int (x3_16 + 1)), (0, .ref a_p0), (1, .int x1_16), (2, .int x2_16)]) hx hb dX12_writesDown_43 hl (k := 3) rfl (congrArg (fun q9 => x3_16 + q9) (by decide : Int32.ofInt 1 = 1)) (by decide) rfl (fun ls hl => ?_)
        refine lv_goto (tgt := 16) hx hb dX12_writesDown_46 (by decide) ?_
        exact ih16 mm_keptManyF_16 g_4 x1_16 x2_16 (x3_16 + 1) _ _ _ hf hP hD hS (lv_sub hl [1, 2, 3, 0] rfl)
  unfold fX12_writesDown at hf
  refine lv_aload_n hx hb dX12_writesDown_0 rfl (lv_at hl 0 rfl) ?_
  refine va_get (D := (dC, dI)) (ci := 12) (v := .ref ((mmR 52))) (C := RX12) (T := TX12) (N := 70) hx hb hts hinX12 hown hK hP 0 rfl rfl 52 (by decide) hw0 (fun _ h9 => h9) rfl dX12_writesDown_1 ?_
  refine lv_iload_n hx hb dX12_writesDown_4 rfl (lv_at hl 1 rfl) ?_
  refine xq_iald hx hb hK hP 1 0 rfl rfl hf dX12_writesDown_5 (fun v_1 hf => ?_)
  refine lv_bipush (v := 40) hx hb dX12_writesDown_6 (by decide) ?_
  refine lv_icmp_ne (tgt := 59) hx hb dX12_writesDown_8 (by decide) (fun c_ => ?_) (fun c_ => ?_)
  · have hf := xq_neg hf c_
    exact b59 mm_keptManyF mm_keptRowF p1 p2 _ _ _ hf hP hD hS (lv_sub hl [0, 1, 2] rfl)
  · have hf := xq_pos hf c_
    refine lv_bipush (v := 120) hx hb dX12_writesDown_11 (by decide) ?_
    refine lv_iload_n hx hb dX12_writesDown_13 rfl (lv_at hl 1 rfl) ?_
    refine lv_imul hx hb dX12_writesDown_14 ?_
    refine lv_istore_n (lv' := [(3, .int (120 * p1)), (0, .ref a_p0), (1, .int p1), (2, .int p2)]) hx hb dX12_writesDown_15 rfl hl (by decide) rfl (fun ls hl => ?_)
    exact l16 N mm_keptManyF mm_keptRowF p1 p2 (120 * p1) _ _ _ hf hP hD hS (lv_sub hl [1, 2, 3, 0] rfl)
set_option maxRecDepth 20000 in
theorem ggX12_ticks_X12_walks : GoodIn wsX12_ticks wsX12_walks := goodIn_r _ [10, 11, 12, 3, 13, 1, 14, 15, 16, 9, 17, 18, 5, 19, 20, 21, 22, 23, 24, 25, 26, 27, 28, 29, 30, 31, 32, 33, 34, 35, 36, 37, 38, 39, 40, 41, 42, 43, 44, 45, 46, 47, 48, 49, 50, 51, 52, 53, 54, 55, 56, 77, 78, 79, 80, 81, 82, 83, 84, 85, 86, 87, 88, 89, 90, 91, 92, 93, 94, 95, 96, 97, 98, 99, 100, 101, 102, 103, 104, 105, 106, 107, 108, 109, 110, 111, 112, 113, 114, 115, 116, 117, 118, 119, 120, 121, 122, 123, 124, 125, 126, 127, 128, 129, 130, 131, 132, 133, 134, 135, 136, 137, 138, 139, 140, 141, 142, 143, 144, 145, 146] rfl (by decide +kernel)
set_option maxRecDepth 20000 in
theorem gX12_ticks_X12_walks : GoodIn wsX12_ticks (wsV RX12 441 RX12 yX12_walks wsX12_walks) := goodIn_app (goodIn_of _ (by decide +kernel)) ggX12_ticks_X12_walks
set_option maxRecDepth 20000 in
theorem ggX12_ticks_X12_isHeardIn : GoodIn wsX12_ticks wsX12_isHeardIn := goodIn_r _ [60, 18, 5, 61, 3, 19, 20, 21, 9, 22, 23, 62, 63, 64, 65, 11, 12, 24, 25, 26, 27, 28, 29, 30, 31, 32, 33, 34, 35, 36, 37, 38, 39, 40, 41, 42, 77, 78, 79, 80, 81, 82, 83, 84, 85, 86, 87, 88, 89, 90, 91, 92, 93, 94, 95, 96, 97, 98, 99, 100, 101, 102, 103, 104, 105, 106, 107, 108, 109, 110, 111, 112, 113, 114, 115, 116, 117, 118, 119, 120, 121, 122, 123, 124, 125, 126, 127, 128, 129, 130, 131, 132, 133, 134, 135, 136, 137, 138, 139, 140, 141, 142, 143, 144, 145, 146] rfl (by decide +kernel)
set_option maxRecDepth 20000 in
theorem gX12_ticks_X12_isHeardIn : GoodIn wsX12_ticks (wsV RX12 437 RX12 yX12_isHeardIn wsX12_isHeardIn) := goodIn_app (goodIn_of _ (by decide +kernel)) ggX12_ticks_X12_isHeardIn
set_option maxRecDepth 20000 in
theorem ggX12_ticks_X12_counts : GoodIn wsX12_ticks wsX12_counts := goodIn_r _ [69, 2, 3, 70, 57, 58, 59, 9, 60, 18, 5, 61, 19, 20, 21, 22, 23, 62, 63, 64, 65, 11, 12, 24, 25, 26, 27, 28, 29, 30, 31, 32, 33, 34, 35, 36, 37, 38, 39, 40, 41, 42, 77, 78, 79, 80, 81, 82, 83, 84, 85, 86, 87, 88, 89, 90, 91, 92, 93, 94, 95, 96, 97, 98, 99, 100, 101, 102, 103, 104, 105, 106, 107, 108, 109, 110, 111, 112, 113, 114, 115, 116, 117, 118, 119, 120, 121, 122, 123, 124, 125, 126, 127, 128, 129, 130, 131, 132, 133, 134, 135, 136, 137, 138, 139, 140, 141, 142, 143, 144, 145, 146] rfl (by decide +kernel)
set_option maxRecDepth 20000 in
theorem gX12_ticks_X12_counts : GoodIn wsX12_ticks (wsV RX12 444 RX12 yX12_counts wsX12_counts) := goodIn_app (goodIn_of _ (by decide +kernel)) ggX12_ticks_X12_counts
set_option maxRecDepth 20000 in
theorem ggX12_ticks_X12_writesDown : GoodIn wsX12_ticks wsX12_writesDown := goodIn_r _ [74, 75, 76, 5, 11, 77, 78, 79, 80, 81, 82, 83, 84, 85, 86, 87, 88, 89, 90, 91, 92, 93, 94, 95, 96, 97, 98, 99, 100, 101, 102, 103, 104, 105, 106, 107, 108, 109, 110, 111, 112, 113, 114, 115, 116, 117, 118, 119, 120, 121, 122, 123, 124, 125, 126, 127, 128, 129, 130, 131, 132, 133, 134, 135, 136, 137, 138, 139, 140, 141, 142, 143, 144, 145, 146] rfl (by decide +kernel)
set_option maxRecDepth 20000 in
theorem gX12_ticks_X12_writesDown : GoodIn wsX12_ticks (wsV RX12 447 RX12 yX12_writesDown wsX12_writesDown) := goodIn_app (goodIn_of _ (by decide +kernel)) ggX12_ticks_X12_writesDown
def dsX12_ticks_0 : List (Nat × Instr × Nat) := [(0, (.aload_n 0, 1)), (1, (.getfield 159, 3)), (4, (.iload_n 1, 1)), (5, (.iaload, 1)), (6, (.ifCond .le 16, 3)), (9, (.aload_n 0, 1)), (10, (.getfield 159, 3)), (13, (.iload_n 1, 1)), (14, (.dup2, 1)), (15, (.iaload, 1)), (16, (.iconst 1, 1)), (17, (.isub, 1)), (18, (.iastore, 1)), (19, (.goto 9, 3)), (22, (.aload_n 0, 1)), (23, (.iload_n 1, 1)), (24, (.iload_n 2, 1)), (25, (.invokevirtual 441, 3)), (28, (.iconst 0, 1)), (29, (.istore 4, 2)), (31, (.iconst 0, 1)), (32, (.istore 5, 2)), (34, (.iload 5, 2)), (36, (.aload_n 0, 1)), (37, (.getfield 66, 3)), (40, (.aload_n 0, 1)), (41, (.getfield 51, 3)), (44, (.iaload, 1)), (45, (.if_icmp .ge 45, 3)), (48, (.iload 4, 2)), (50, (.aload_n 0, 1)), (51, (.iload_n 1, 1)), (52, (.iload 5, 2)), (54, (.aload_n 0, 1)), (55, (.getfield 165, 3)), (58, (.bipush 7, 2)), (60, (.iload_n 1, 1)), (61, (.imul, 1)), (62, (.iload 5, 2)), (64, (.iadd, 1)), (65, (.iaload, 1)), (66, (.iload_n 2, 1)), (67, (.invokevirtual 437, 3)), (70, (.ifCond .eq 10, 3)), (73, (.iconst 1, 1)), (74, (.iload 5, 2)), (76, (.ishl, 1)), (77, (.goto 4, 3)), (80, (.iconst 0, 1)), (81, (.ior, 1)), (82, (.istore 4, 2)), (84, (.iinc 5 1, 3)), (87, (.goto (-53), 3)), (90, (.iload_n 3, 1)), (91, (.ifCond .eq 9, 3)), (94, (.aload_n 0, 1)), (95, (.iload_n 1, 1)), (96, (.iload_n 2, 1)), (97, (.invokevirtual 444, 3)), (100, (.iload 4, 2))]
theorem dsX12_ticks_0_ok : (dsX12_ticks_0.all fun q => decide (decode cX12_ticks q.1 = .ok q.2)) = true := by decide +kernel
theorem dX12_ticks_0 : decode cX12_ticks 0 = .ok (.aload_n 0, 1) := of_decide_eq_true (List.all_eq_true.mp dsX12_ticks_0_ok (0, (.aload_n 0, 1)) (List.mem_of_getElem? (i := 0) rfl))
theorem dX12_ticks_1 : decode cX12_ticks 1 = .ok (.getfield 159, 3) := of_decide_eq_true (List.all_eq_true.mp dsX12_ticks_0_ok (1, (.getfield 159, 3)) (List.mem_of_getElem? (i := 1) rfl))
theorem dX12_ticks_4 : decode cX12_ticks 4 = .ok (.iload_n 1, 1) := of_decide_eq_true (List.all_eq_true.mp dsX12_ticks_0_ok (4, (.iload_n 1, 1)) (List.mem_of_getElem? (i := 2) rfl))
theorem dX12_ticks_5 : decode cX12_ticks 5 = .ok (.iaload, 1) := of_decide_eq_true (List.all_eq_true.mp dsX12_ticks_0_ok (5, (.iaload, 1)) (List.mem_of_getElem? (i := 3) rfl))
theorem dX12_ticks_6 : decode cX12_ticks 6 = .ok (.ifCond .le 16, 3) := of_decide_eq_true (List.all_eq_true.mp dsX12_ticks_0_ok (6, (.ifCond .le 16, 3)) (List.mem_of_getElem? (i := 4) rfl))
theorem dX12_ticks_9 : decode cX12_ticks 9 = .ok (.aload_n 0, 1) := of_decide_eq_true (List.all_eq_true.mp dsX12_ticks_0_ok (9, (.aload_n 0, 1)) (List.mem_of_getElem? (i := 5) rfl))
theorem dX12_ticks_10 : decode cX12_ticks 10 = .ok (.getfield 159, 3) := of_decide_eq_true (List.all_eq_true.mp dsX12_ticks_0_ok (10, (.getfield 159, 3)) (List.mem_of_getElem? (i := 6) rfl))
theorem dX12_ticks_13 : decode cX12_ticks 13 = .ok (.iload_n 1, 1) := of_decide_eq_true (List.all_eq_true.mp dsX12_ticks_0_ok (13, (.iload_n 1, 1)) (List.mem_of_getElem? (i := 7) rfl))
theorem dX12_ticks_14 : decode cX12_ticks 14 = .ok (.dup2, 1) := of_decide_eq_true (List.all_eq_true.mp dsX12_ticks_0_ok (14, (.dup2, 1)) (List.mem_of_getElem? (i := 8) rfl))
theorem dX12_ticks_15 : decode cX12_ticks 15 = .ok (.iaload, 1) := of_decide_eq_true (List.all_eq_true.mp dsX12_ticks_0_ok (15, (.iaload, 1)) (List.mem_of_getElem? (i := 9) rfl))
theorem dX12_ticks_16 : decode cX12_ticks 16 = .ok (.iconst 1, 1) := of_decide_eq_true (List.all_eq_true.mp dsX12_ticks_0_ok (16, (.iconst 1, 1)) (List.mem_of_getElem? (i := 10) rfl))
theorem dX12_ticks_17 : decode cX12_ticks 17 = .ok (.isub, 1) := of_decide_eq_true (List.all_eq_true.mp dsX12_ticks_0_ok (17, (.isub, 1)) (List.mem_of_getElem? (i := 11) rfl))
theorem dX12_ticks_18 : decode cX12_ticks 18 = .ok (.iastore, 1) := of_decide_eq_true (List.all_eq_true.mp dsX12_ticks_0_ok (18, (.iastore, 1)) (List.mem_of_getElem? (i := 12) rfl))
theorem dX12_ticks_19 : decode cX12_ticks 19 = .ok (.goto 9, 3) := of_decide_eq_true (List.all_eq_true.mp dsX12_ticks_0_ok (19, (.goto 9, 3)) (List.mem_of_getElem? (i := 13) rfl))
theorem dX12_ticks_22 : decode cX12_ticks 22 = .ok (.aload_n 0, 1) := of_decide_eq_true (List.all_eq_true.mp dsX12_ticks_0_ok (22, (.aload_n 0, 1)) (List.mem_of_getElem? (i := 14) rfl))
theorem dX12_ticks_23 : decode cX12_ticks 23 = .ok (.iload_n 1, 1) := of_decide_eq_true (List.all_eq_true.mp dsX12_ticks_0_ok (23, (.iload_n 1, 1)) (List.mem_of_getElem? (i := 15) rfl))
theorem dX12_ticks_24 : decode cX12_ticks 24 = .ok (.iload_n 2, 1) := of_decide_eq_true (List.all_eq_true.mp dsX12_ticks_0_ok (24, (.iload_n 2, 1)) (List.mem_of_getElem? (i := 16) rfl))
theorem dX12_ticks_25 : decode cX12_ticks 25 = .ok (.invokevirtual 441, 3) := of_decide_eq_true (List.all_eq_true.mp dsX12_ticks_0_ok (25, (.invokevirtual 441, 3)) (List.mem_of_getElem? (i := 17) rfl))
theorem dX12_ticks_28 : decode cX12_ticks 28 = .ok (.iconst 0, 1) := of_decide_eq_true (List.all_eq_true.mp dsX12_ticks_0_ok (28, (.iconst 0, 1)) (List.mem_of_getElem? (i := 18) rfl))
theorem dX12_ticks_29 : decode cX12_ticks 29 = .ok (.istore 4, 2) := of_decide_eq_true (List.all_eq_true.mp dsX12_ticks_0_ok (29, (.istore 4, 2)) (List.mem_of_getElem? (i := 19) rfl))
theorem dX12_ticks_31 : decode cX12_ticks 31 = .ok (.iconst 0, 1) := of_decide_eq_true (List.all_eq_true.mp dsX12_ticks_0_ok (31, (.iconst 0, 1)) (List.mem_of_getElem? (i := 20) rfl))
theorem dX12_ticks_32 : decode cX12_ticks 32 = .ok (.istore 5, 2) := of_decide_eq_true (List.all_eq_true.mp dsX12_ticks_0_ok (32, (.istore 5, 2)) (List.mem_of_getElem? (i := 21) rfl))
theorem dX12_ticks_34 : decode cX12_ticks 34 = .ok (.iload 5, 2) := of_decide_eq_true (List.all_eq_true.mp dsX12_ticks_0_ok (34, (.iload 5, 2)) (List.mem_of_getElem? (i := 22) rfl))
theorem dX12_ticks_36 : decode cX12_ticks 36 = .ok (.aload_n 0, 1) := of_decide_eq_true (List.all_eq_true.mp dsX12_ticks_0_ok (36, (.aload_n 0, 1)) (List.mem_of_getElem? (i := 23) rfl))
theorem dX12_ticks_37 : decode cX12_ticks 37 = .ok (.getfield 66, 3) := of_decide_eq_true (List.all_eq_true.mp dsX12_ticks_0_ok (37, (.getfield 66, 3)) (List.mem_of_getElem? (i := 24) rfl))
theorem dX12_ticks_40 : decode cX12_ticks 40 = .ok (.aload_n 0, 1) := of_decide_eq_true (List.all_eq_true.mp dsX12_ticks_0_ok (40, (.aload_n 0, 1)) (List.mem_of_getElem? (i := 25) rfl))
theorem dX12_ticks_41 : decode cX12_ticks 41 = .ok (.getfield 51, 3) := of_decide_eq_true (List.all_eq_true.mp dsX12_ticks_0_ok (41, (.getfield 51, 3)) (List.mem_of_getElem? (i := 26) rfl))
theorem dX12_ticks_44 : decode cX12_ticks 44 = .ok (.iaload, 1) := of_decide_eq_true (List.all_eq_true.mp dsX12_ticks_0_ok (44, (.iaload, 1)) (List.mem_of_getElem? (i := 27) rfl))
theorem dX12_ticks_45 : decode cX12_ticks 45 = .ok (.if_icmp .ge 45, 3) := of_decide_eq_true (List.all_eq_true.mp dsX12_ticks_0_ok (45, (.if_icmp .ge 45, 3)) (List.mem_of_getElem? (i := 28) rfl))
theorem dX12_ticks_48 : decode cX12_ticks 48 = .ok (.iload 4, 2) := of_decide_eq_true (List.all_eq_true.mp dsX12_ticks_0_ok (48, (.iload 4, 2)) (List.mem_of_getElem? (i := 29) rfl))
theorem dX12_ticks_50 : decode cX12_ticks 50 = .ok (.aload_n 0, 1) := of_decide_eq_true (List.all_eq_true.mp dsX12_ticks_0_ok (50, (.aload_n 0, 1)) (List.mem_of_getElem? (i := 30) rfl))
theorem dX12_ticks_51 : decode cX12_ticks 51 = .ok (.iload_n 1, 1) := of_decide_eq_true (List.all_eq_true.mp dsX12_ticks_0_ok (51, (.iload_n 1, 1)) (List.mem_of_getElem? (i := 31) rfl))
theorem dX12_ticks_52 : decode cX12_ticks 52 = .ok (.iload 5, 2) := of_decide_eq_true (List.all_eq_true.mp dsX12_ticks_0_ok (52, (.iload 5, 2)) (List.mem_of_getElem? (i := 32) rfl))
theorem dX12_ticks_54 : decode cX12_ticks 54 = .ok (.aload_n 0, 1) := of_decide_eq_true (List.all_eq_true.mp dsX12_ticks_0_ok (54, (.aload_n 0, 1)) (List.mem_of_getElem? (i := 33) rfl))
theorem dX12_ticks_55 : decode cX12_ticks 55 = .ok (.getfield 165, 3) := of_decide_eq_true (List.all_eq_true.mp dsX12_ticks_0_ok (55, (.getfield 165, 3)) (List.mem_of_getElem? (i := 34) rfl))
theorem dX12_ticks_58 : decode cX12_ticks 58 = .ok (.bipush 7, 2) := of_decide_eq_true (List.all_eq_true.mp dsX12_ticks_0_ok (58, (.bipush 7, 2)) (List.mem_of_getElem? (i := 35) rfl))
theorem dX12_ticks_60 : decode cX12_ticks 60 = .ok (.iload_n 1, 1) := of_decide_eq_true (List.all_eq_true.mp dsX12_ticks_0_ok (60, (.iload_n 1, 1)) (List.mem_of_getElem? (i := 36) rfl))
theorem dX12_ticks_61 : decode cX12_ticks 61 = .ok (.imul, 1) := of_decide_eq_true (List.all_eq_true.mp dsX12_ticks_0_ok (61, (.imul, 1)) (List.mem_of_getElem? (i := 37) rfl))
theorem dX12_ticks_62 : decode cX12_ticks 62 = .ok (.iload 5, 2) := of_decide_eq_true (List.all_eq_true.mp dsX12_ticks_0_ok (62, (.iload 5, 2)) (List.mem_of_getElem? (i := 38) rfl))
theorem dX12_ticks_64 : decode cX12_ticks 64 = .ok (.iadd, 1) := of_decide_eq_true (List.all_eq_true.mp dsX12_ticks_0_ok (64, (.iadd, 1)) (List.mem_of_getElem? (i := 39) rfl))
theorem dX12_ticks_65 : decode cX12_ticks 65 = .ok (.iaload, 1) := of_decide_eq_true (List.all_eq_true.mp dsX12_ticks_0_ok (65, (.iaload, 1)) (List.mem_of_getElem? (i := 40) rfl))
theorem dX12_ticks_66 : decode cX12_ticks 66 = .ok (.iload_n 2, 1) := of_decide_eq_true (List.all_eq_true.mp dsX12_ticks_0_ok (66, (.iload_n 2, 1)) (List.mem_of_getElem? (i := 41) rfl))
theorem dX12_ticks_67 : decode cX12_ticks 67 = .ok (.invokevirtual 437, 3) := of_decide_eq_true (List.all_eq_true.mp dsX12_ticks_0_ok (67, (.invokevirtual 437, 3)) (List.mem_of_getElem? (i := 42) rfl))
theorem dX12_ticks_70 : decode cX12_ticks 70 = .ok (.ifCond .eq 10, 3) := of_decide_eq_true (List.all_eq_true.mp dsX12_ticks_0_ok (70, (.ifCond .eq 10, 3)) (List.mem_of_getElem? (i := 43) rfl))
theorem dX12_ticks_73 : decode cX12_ticks 73 = .ok (.iconst 1, 1) := of_decide_eq_true (List.all_eq_true.mp dsX12_ticks_0_ok (73, (.iconst 1, 1)) (List.mem_of_getElem? (i := 44) rfl))
theorem dX12_ticks_74 : decode cX12_ticks 74 = .ok (.iload 5, 2) := of_decide_eq_true (List.all_eq_true.mp dsX12_ticks_0_ok (74, (.iload 5, 2)) (List.mem_of_getElem? (i := 45) rfl))
theorem dX12_ticks_76 : decode cX12_ticks 76 = .ok (.ishl, 1) := of_decide_eq_true (List.all_eq_true.mp dsX12_ticks_0_ok (76, (.ishl, 1)) (List.mem_of_getElem? (i := 46) rfl))
theorem dX12_ticks_77 : decode cX12_ticks 77 = .ok (.goto 4, 3) := of_decide_eq_true (List.all_eq_true.mp dsX12_ticks_0_ok (77, (.goto 4, 3)) (List.mem_of_getElem? (i := 47) rfl))
theorem dX12_ticks_80 : decode cX12_ticks 80 = .ok (.iconst 0, 1) := of_decide_eq_true (List.all_eq_true.mp dsX12_ticks_0_ok (80, (.iconst 0, 1)) (List.mem_of_getElem? (i := 48) rfl))
theorem dX12_ticks_81 : decode cX12_ticks 81 = .ok (.ior, 1) := of_decide_eq_true (List.all_eq_true.mp dsX12_ticks_0_ok (81, (.ior, 1)) (List.mem_of_getElem? (i := 49) rfl))
theorem dX12_ticks_82 : decode cX12_ticks 82 = .ok (.istore 4, 2) := of_decide_eq_true (List.all_eq_true.mp dsX12_ticks_0_ok (82, (.istore 4, 2)) (List.mem_of_getElem? (i := 50) rfl))
theorem dX12_ticks_84 : decode cX12_ticks 84 = .ok (.iinc 5 1, 3) := of_decide_eq_true (List.all_eq_true.mp dsX12_ticks_0_ok (84, (.iinc 5 1, 3)) (List.mem_of_getElem? (i := 51) rfl))
theorem dX12_ticks_87 : decode cX12_ticks 87 = .ok (.goto (-53), 3) := of_decide_eq_true (List.all_eq_true.mp dsX12_ticks_0_ok (87, (.goto (-53), 3)) (List.mem_of_getElem? (i := 52) rfl))
theorem dX12_ticks_90 : decode cX12_ticks 90 = .ok (.iload_n 3, 1) := of_decide_eq_true (List.all_eq_true.mp dsX12_ticks_0_ok (90, (.iload_n 3, 1)) (List.mem_of_getElem? (i := 53) rfl))
theorem dX12_ticks_91 : decode cX12_ticks 91 = .ok (.ifCond .eq 9, 3) := of_decide_eq_true (List.all_eq_true.mp dsX12_ticks_0_ok (91, (.ifCond .eq 9, 3)) (List.mem_of_getElem? (i := 54) rfl))
theorem dX12_ticks_94 : decode cX12_ticks 94 = .ok (.aload_n 0, 1) := of_decide_eq_true (List.all_eq_true.mp dsX12_ticks_0_ok (94, (.aload_n 0, 1)) (List.mem_of_getElem? (i := 55) rfl))
theorem dX12_ticks_95 : decode cX12_ticks 95 = .ok (.iload_n 1, 1) := of_decide_eq_true (List.all_eq_true.mp dsX12_ticks_0_ok (95, (.iload_n 1, 1)) (List.mem_of_getElem? (i := 56) rfl))
theorem dX12_ticks_96 : decode cX12_ticks 96 = .ok (.iload_n 2, 1) := of_decide_eq_true (List.all_eq_true.mp dsX12_ticks_0_ok (96, (.iload_n 2, 1)) (List.mem_of_getElem? (i := 57) rfl))
theorem dX12_ticks_97 : decode cX12_ticks 97 = .ok (.invokevirtual 444, 3) := of_decide_eq_true (List.all_eq_true.mp dsX12_ticks_0_ok (97, (.invokevirtual 444, 3)) (List.mem_of_getElem? (i := 58) rfl))
theorem dX12_ticks_100 : decode cX12_ticks 100 = .ok (.iload 4, 2) := of_decide_eq_true (List.all_eq_true.mp dsX12_ticks_0_ok (100, (.iload 4, 2)) (List.mem_of_getElem? (i := 59) rfl))
def dsX12_ticks_1 : List (Nat × Instr × Nat) := [(102, (.ifCond .eq 10, 3)), (105, (.aload_n 0, 1)), (106, (.iload_n 1, 1)), (107, (.iload 4, 2)), (109, (.invokevirtual 447, 3)), (112, (.aload_n 0, 1)), (113, (.getfield 150, 3)), (116, (.iload_n 1, 1)), (117, (.dup2, 1)), (118, (.iaload, 1)), (119, (.iconst 1, 1)), (120, (.iadd, 1)), (121, (.iastore, 1)), (122, (.iload 4, 2)), (124, (.ireturn, 1))]
theorem dsX12_ticks_1_ok : (dsX12_ticks_1.all fun q => decide (decode cX12_ticks q.1 = .ok q.2)) = true := by decide +kernel
theorem dX12_ticks_102 : decode cX12_ticks 102 = .ok (.ifCond .eq 10, 3) := of_decide_eq_true (List.all_eq_true.mp dsX12_ticks_1_ok (102, (.ifCond .eq 10, 3)) (List.mem_of_getElem? (i := 0) rfl))
theorem dX12_ticks_105 : decode cX12_ticks 105 = .ok (.aload_n 0, 1) := of_decide_eq_true (List.all_eq_true.mp dsX12_ticks_1_ok (105, (.aload_n 0, 1)) (List.mem_of_getElem? (i := 1) rfl))
theorem dX12_ticks_106 : decode cX12_ticks 106 = .ok (.iload_n 1, 1) := of_decide_eq_true (List.all_eq_true.mp dsX12_ticks_1_ok (106, (.iload_n 1, 1)) (List.mem_of_getElem? (i := 2) rfl))
theorem dX12_ticks_107 : decode cX12_ticks 107 = .ok (.iload 4, 2) := of_decide_eq_true (List.all_eq_true.mp dsX12_ticks_1_ok (107, (.iload 4, 2)) (List.mem_of_getElem? (i := 3) rfl))
theorem dX12_ticks_109 : decode cX12_ticks 109 = .ok (.invokevirtual 447, 3) := of_decide_eq_true (List.all_eq_true.mp dsX12_ticks_1_ok (109, (.invokevirtual 447, 3)) (List.mem_of_getElem? (i := 4) rfl))
theorem dX12_ticks_112 : decode cX12_ticks 112 = .ok (.aload_n 0, 1) := of_decide_eq_true (List.all_eq_true.mp dsX12_ticks_1_ok (112, (.aload_n 0, 1)) (List.mem_of_getElem? (i := 5) rfl))
theorem dX12_ticks_113 : decode cX12_ticks 113 = .ok (.getfield 150, 3) := of_decide_eq_true (List.all_eq_true.mp dsX12_ticks_1_ok (113, (.getfield 150, 3)) (List.mem_of_getElem? (i := 6) rfl))
theorem dX12_ticks_116 : decode cX12_ticks 116 = .ok (.iload_n 1, 1) := of_decide_eq_true (List.all_eq_true.mp dsX12_ticks_1_ok (116, (.iload_n 1, 1)) (List.mem_of_getElem? (i := 7) rfl))
theorem dX12_ticks_117 : decode cX12_ticks 117 = .ok (.dup2, 1) := of_decide_eq_true (List.all_eq_true.mp dsX12_ticks_1_ok (117, (.dup2, 1)) (List.mem_of_getElem? (i := 8) rfl))
theorem dX12_ticks_118 : decode cX12_ticks 118 = .ok (.iaload, 1) := of_decide_eq_true (List.all_eq_true.mp dsX12_ticks_1_ok (118, (.iaload, 1)) (List.mem_of_getElem? (i := 9) rfl))
theorem dX12_ticks_119 : decode cX12_ticks 119 = .ok (.iconst 1, 1) := of_decide_eq_true (List.all_eq_true.mp dsX12_ticks_1_ok (119, (.iconst 1, 1)) (List.mem_of_getElem? (i := 10) rfl))
theorem dX12_ticks_120 : decode cX12_ticks 120 = .ok (.iadd, 1) := of_decide_eq_true (List.all_eq_true.mp dsX12_ticks_1_ok (120, (.iadd, 1)) (List.mem_of_getElem? (i := 11) rfl))
theorem dX12_ticks_121 : decode cX12_ticks 121 = .ok (.iastore, 1) := of_decide_eq_true (List.all_eq_true.mp dsX12_ticks_1_ok (121, (.iastore, 1)) (List.mem_of_getElem? (i := 12) rfl))
theorem dX12_ticks_122 : decode cX12_ticks 122 = .ok (.iload 4, 2) := of_decide_eq_true (List.all_eq_true.mp dsX12_ticks_1_ok (122, (.iload 4, 2)) (List.mem_of_getElem? (i := 13) rfl))
theorem dX12_ticks_124 : decode cX12_ticks 124 = .ok (.ireturn, 1) := of_decide_eq_true (List.all_eq_true.mp dsX12_ticks_1_ok (124, (.ireturn, 1)) (List.mem_of_getElem? (i := 14) rfl))
def fX12_ticks_b112 (N : Nat) (mmI : Nat → Int32) (mm_sumFromF : Nat → Int32) (mm_sumBehindF : Nat → Int32) (mm_codeSortF : Nat → Int32) (mm_codeValueF : Nat → Int32) (mm_milesToldF : Nat → Int32) (mm_placesF : Nat → Int32) (mm_placeAtF : Nat → Int32) (mm_talkOfF : Nat → Int32) (mm_earsF : Nat → Int32) (mm_sharpOfF : Nat → Int32) (mm_rowOfF : Nat → Int32)   : ((Nat → Int32) × (Nat → Int32) × (Nat → Int32) × (Nat → Int32) × (Nat → Int32) × (Nat → Int64) × (Nat → Int32) × (Nat → Int32) × (Nat → Int32) × Int32 × Int32) → Option (Int32 × (Nat → Int32) × (Nat → Int32) × (Nat → Int32) × (Nat → Int32) × (Nat → Int32) × (Nat → Int64) × (Nat → Int32) × (Nat → Int32) × (Nat → Int32)) :=
  fun (mm_talkingOfF_112, mm_nightOfF_112, mm_askedF_112, mm_mileOfF_112, mm_roundsOfF_112, mm_stackL_112, mm_heardFromF_112, mm_keptManyF_112, mm_keptRowF_112, x1_112, x4_112) => (xq_bd (xq_ald 22 mm_nightOfF_112 x1_112) fun v_1 => (xq_bd (xq_ast 22 mm_nightOfF_112 x1_112 (v_1 + 1)) fun g_2 => some ((x4_112, mm_talkingOfF_112, g_2, mm_askedF_112, mm_mileOfF_112, mm_roundsOfF_112, mm_stackL_112, mm_heardFromF_112, mm_keptManyF_112, mm_keptRowF_112))))
def fX12_ticks_b100 (N : Nat) (mmI : Nat → Int32) (mm_sumFromF : Nat → Int32) (mm_sumBehindF : Nat → Int32) (mm_codeSortF : Nat → Int32) (mm_codeValueF : Nat → Int32) (mm_milesToldF : Nat → Int32) (mm_placesF : Nat → Int32) (mm_placeAtF : Nat → Int32) (mm_talkOfF : Nat → Int32) (mm_earsF : Nat → Int32) (mm_sharpOfF : Nat → Int32) (mm_rowOfF : Nat → Int32)   : ((Nat → Int32) × (Nat → Int32) × (Nat → Int32) × (Nat → Int32) × (Nat → Int32) × (Nat → Int64) × (Nat → Int32) × (Nat → Int32) × (Nat → Int32) × Int32 × Int32) → Option (Int32 × (Nat → Int32) × (Nat → Int32) × (Nat → Int32) × (Nat → Int32) × (Nat → Int32) × (Nat → Int64) × (Nat → Int32) × (Nat → Int32) × (Nat → Int32)) :=
  fun (mm_talkingOfF_100, mm_nightOfF_100, mm_askedF_100, mm_mileOfF_100, mm_roundsOfF_100, mm_stackL_100, mm_heardFromF_100, mm_keptManyF_100, mm_keptRowF_100, x1_100, x4_100) => (if x4_100 = 0 then fX12_ticks_b112 N mmI mm_sumFromF mm_sumBehindF mm_codeSortF mm_codeValueF mm_milesToldF mm_placesF mm_placeAtF mm_talkOfF mm_earsF mm_sharpOfF mm_rowOfF (mm_talkingOfF_100, mm_nightOfF_100, mm_askedF_100, mm_mileOfF_100, mm_roundsOfF_100, mm_stackL_100, mm_heardFromF_100, mm_keptManyF_100, mm_keptRowF_100, x1_100, x4_100) else (xq_bd (fX12_writesDown N mm_keptManyF_100 mm_keptRowF_100 mm_nightOfF_100 mm_mileOfF_100 x1_100 x4_100) fun (r_3_0, r_3_1) => fX12_ticks_b112 N mmI mm_sumFromF mm_sumBehindF mm_codeSortF mm_codeValueF mm_milesToldF mm_placesF mm_placeAtF mm_talkOfF mm_earsF mm_sharpOfF mm_rowOfF (mm_talkingOfF_100, mm_nightOfF_100, mm_askedF_100, mm_mileOfF_100, mm_roundsOfF_100, mm_stackL_100, mm_heardFromF_100, r_3_0, r_3_1, x1_100, x4_100)))
def fX12_ticks_b81 (N : Nat) (mmI : Nat → Int32) (mm_sumFromF : Nat → Int32) (mm_sumBehindF : Nat → Int32) (mm_codeSortF : Nat → Int32) (mm_codeValueF : Nat → Int32) (mm_milesToldF : Nat → Int32) (mm_placesF : Nat → Int32) (mm_placeAtF : Nat → Int32) (mm_talkOfF : Nat → Int32) (mm_earsF : Nat → Int32) (mm_sharpOfF : Nat → Int32) (mm_rowOfF : Nat → Int32)  (k34 : ((Nat → Int32) × (Nat → Int32) × (Nat → Int32) × (Nat → Int32) × (Nat → Int32) × (Nat → Int64) × (Nat → Int32) × (Nat → Int32) × (Nat → Int32) × Int32 × Int32 × Int32 × Int32 × Int32) → Option (Int32 × (Nat → Int32) × (Nat → Int32) × (Nat → Int32) × (Nat → Int32) × (Nat → Int32) × (Nat → Int64) × (Nat → Int32) × (Nat → Int32) × (Nat → Int32))) : ((Nat → Int32) × (Nat → Int32) × (Nat → Int32) × (Nat → Int32) × (Nat → Int32) × (Nat → Int64) × (Nat → Int32) × (Nat → Int32) × (Nat → Int32) × Int32 × Int32 × Int32 × Int32 × Int32 × Int32) → Option (Int32 × (Nat → Int32) × (Nat → Int32) × (Nat → Int32) × (Nat → Int32) × (Nat → Int32) × (Nat → Int64) × (Nat → Int32) × (Nat → Int32) × (Nat → Int32)) :=
  fun (mm_talkingOfF_81, mm_nightOfF_81, mm_askedF_81, mm_mileOfF_81, mm_roundsOfF_81, mm_stackL_81, mm_heardFromF_81, mm_keptManyF_81, mm_keptRowF_81, x1_81, x2_81, x3_81, x5_81, y0_81, y1_81) => k34 (mm_talkingOfF_81, mm_nightOfF_81, mm_askedF_81, mm_mileOfF_81, mm_roundsOfF_81, mm_stackL_81, mm_heardFromF_81, mm_keptManyF_81, mm_keptRowF_81, x1_81, x2_81, x3_81, y0_81 ||| y1_81, x5_81 + 1)
def fX12_ticks_l34 (N : Nat) (mmI : Nat → Int32) (mm_sumFromF : Nat → Int32) (mm_sumBehindF : Nat → Int32) (mm_codeSortF : Nat → Int32) (mm_codeValueF : Nat → Int32) (mm_milesToldF : Nat → Int32) (mm_placesF : Nat → Int32) (mm_placeAtF : Nat → Int32) (mm_talkOfF : Nat → Int32) (mm_earsF : Nat → Int32) (mm_sharpOfF : Nat → Int32) (mm_rowOfF : Nat → Int32)  (k34 : ((Nat → Int32) × (Nat → Int32) × (Nat → Int32) × (Nat → Int32) × (Nat → Int32) × (Nat → Int64) × (Nat → Int32) × (Nat → Int32) × (Nat → Int32) × Int32 × Int32 × Int32 × Int32 × Int32) → Option (Int32 × (Nat → Int32) × (Nat → Int32) × (Nat → Int32) × (Nat → Int32) × (Nat → Int32) × (Nat → Int64) × (Nat → Int32) × (Nat → Int32) × (Nat → Int32))) : ((Nat → Int32) × (Nat → Int32) × (Nat → Int32) × (Nat → Int32) × (Nat → Int32) × (Nat → Int64) × (Nat → Int32) × (Nat → Int32) × (Nat → Int32) × Int32 × Int32 × Int32 × Int32 × Int32) → Option (Int32 × (Nat → Int32) × (Nat → Int32) × (Nat → Int32) × (Nat → Int32) × (Nat → Int32) × (Nat → Int64) × (Nat → Int32) × (Nat → Int32) × (Nat → Int32)) :=
  fun (mm_talkingOfF_34, mm_nightOfF_34, mm_askedF_34, mm_mileOfF_34, mm_roundsOfF_34, mm_stackL_34, mm_heardFromF_34, mm_keptManyF_34, mm_keptRowF_34, x1_34, x2_34, x3_34, x4_34, x5_34) => (xq_bd (xq_ald 2 mm_earsF (mmI 13)) fun v_5 => (if v_5 ≤ x5_34 then (if x3_34 = 0 then fX12_ticks_b100 N mmI mm_sumFromF mm_sumBehindF mm_codeSortF mm_codeValueF mm_milesToldF mm_placesF mm_placeAtF mm_talkOfF mm_earsF mm_sharpOfF mm_rowOfF (mm_talkingOfF_34, mm_nightOfF_34, mm_askedF_34, mm_mileOfF_34, mm_roundsOfF_34, mm_stackL_34, mm_heardFromF_34, mm_keptManyF_34, mm_keptRowF_34, x1_34, x4_34) else (xq_bd (fX12_counts N mmI mm_earsF mm_heardFromF_34 mm_sumFromF mm_nightOfF_34 mm_askedF_34 mm_sharpOfF mm_mileOfF_34 mm_milesToldF mm_sumBehindF mm_stackL_34 mm_codeSortF mm_codeValueF x1_34 x2_34) fun (r_6_0, r_6_1, r_6_2) => fX12_ticks_b100 N mmI mm_sumFromF mm_sumBehindF mm_codeSortF mm_codeValueF mm_milesToldF mm_placesF mm_placeAtF mm_talkOfF mm_earsF mm_sharpOfF mm_rowOfF (mm_talkingOfF_34, mm_nightOfF_34, r_6_1, mm_mileOfF_34, mm_roundsOfF_34, r_6_2, r_6_0, mm_keptManyF_34, mm_keptRowF_34, x1_34, x4_34))) else (xq_bd (xq_ald 154 mm_rowOfF ((7 * x1_34) + x5_34)) fun v_8 => (xq_bd (fX12_isHeardIn N mmI mm_sumFromF mm_nightOfF_34 mm_askedF_34 mm_sharpOfF mm_mileOfF_34 mm_milesToldF mm_sumBehindF mm_stackL_34 mm_codeSortF mm_codeValueF x1_34 x5_34 v_8 x2_34) fun (r_9_0, r_9_1, r_9_2) => (if r_9_0 = 0 then fX12_ticks_b81 N mmI mm_sumFromF mm_sumBehindF mm_codeSortF mm_codeValueF mm_milesToldF mm_placesF mm_placeAtF mm_talkOfF mm_earsF mm_sharpOfF mm_rowOfF k34 (mm_talkingOfF_34, mm_nightOfF_34, r_9_1, mm_mileOfF_34, mm_roundsOfF_34, r_9_2, mm_heardFromF_34, mm_keptManyF_34, mm_keptRowF_34, x1_34, x2_34, x3_34, x5_34, x4_34, 0) else fX12_ticks_b81 N mmI mm_sumFromF mm_sumBehindF mm_codeSortF mm_codeValueF mm_milesToldF mm_placesF mm_placeAtF mm_talkOfF mm_earsF mm_sharpOfF mm_rowOfF k34 (mm_talkingOfF_34, mm_nightOfF_34, r_9_1, mm_mileOfF_34, mm_roundsOfF_34, r_9_2, mm_heardFromF_34, mm_keptManyF_34, mm_keptRowF_34, x1_34, x2_34, x3_34, x5_34, x4_34, 1 <<< (x5_34 &&& 31)))))))
def fX12_ticks_b28 (N : Nat) (mmI : Nat → Int32) (mm_sumFromF : Nat → Int32) (mm_sumBehindF : Nat → Int32) (mm_codeSortF : Nat → Int32) (mm_codeValueF : Nat → Int32) (mm_milesToldF : Nat → Int32) (mm_placesF : Nat → Int32) (mm_placeAtF : Nat → Int32) (mm_talkOfF : Nat → Int32) (mm_earsF : Nat → Int32) (mm_sharpOfF : Nat → Int32) (mm_rowOfF : Nat → Int32)   : ((Nat → Int32) × (Nat → Int32) × (Nat → Int32) × (Nat → Int32) × (Nat → Int32) × (Nat → Int64) × (Nat → Int32) × (Nat → Int32) × (Nat → Int32) × Int32 × Int32 × Int32) → Option (Int32 × (Nat → Int32) × (Nat → Int32) × (Nat → Int32) × (Nat → Int32) × (Nat → Int32) × (Nat → Int64) × (Nat → Int32) × (Nat → Int32) × (Nat → Int32)) :=
  fun (mm_talkingOfF_28, mm_nightOfF_28, mm_askedF_28, mm_mileOfF_28, mm_roundsOfF_28, mm_stackL_28, mm_heardFromF_28, mm_keptManyF_28, mm_keptRowF_28, x1_28, x2_28, x3_28) => xq_loop (fX12_ticks_l34 N mmI mm_sumFromF mm_sumBehindF mm_codeSortF mm_codeValueF mm_milesToldF mm_placesF mm_placeAtF mm_talkOfF mm_earsF mm_sharpOfF mm_rowOfF) N (mm_talkingOfF_28, mm_nightOfF_28, mm_askedF_28, mm_mileOfF_28, mm_roundsOfF_28, mm_stackL_28, mm_heardFromF_28, mm_keptManyF_28, mm_keptRowF_28, x1_28, x2_28, x3_28, 0, 0)
def fX12_ticks (N : Nat) (mmI : Nat → Int32) (mm_talkingOfF : Nat → Int32) (mm_sumFromF : Nat → Int32) (mm_nightOfF : Nat → Int32) (mm_askedF : Nat → Int32) (mm_mileOfF : Nat → Int32) (mm_roundsOfF : Nat → Int32) (mm_sumBehindF : Nat → Int32) (mm_stackL : Nat → Int64) (mm_codeSortF : Nat → Int32) (mm_codeValueF : Nat → Int32) (mm_milesToldF : Nat → Int32) (mm_placesF : Nat → Int32) (mm_placeAtF : Nat → Int32) (mm_talkOfF : Nat → Int32) (mm_earsF : Nat → Int32) (mm_heardFromF : Nat → Int32) (mm_sharpOfF : Nat → Int32) (mm_rowOfF : Nat → Int32) (mm_keptManyF : Nat → Int32) (mm_keptRowF : Nat → Int32)  (p1 : Int32) (p2 : Int32) (p3 : Int32) : Option (Int32 × (Nat → Int32) × (Nat → Int32) × (Nat → Int32) × (Nat → Int32) × (Nat → Int32) × (Nat → Int64) × (Nat → Int32) × (Nat → Int32) × (Nat → Int32)) :=
  (xq_bd (xq_ald 22 mm_talkingOfF p1) fun v_1 => (if v_1 ≤ 0 then (xq_bd (fX12_walks N mmI mm_sumFromF mm_nightOfF mm_askedF mm_mileOfF mm_roundsOfF mm_sumBehindF mm_stackL mm_codeSortF mm_codeValueF mm_milesToldF mm_placesF mm_placeAtF mm_talkOfF mm_talkingOfF p1 p2) fun (r_2_0, r_2_1, r_2_2, r_2_3, r_2_4) => fX12_ticks_b28 N mmI mm_sumFromF mm_sumBehindF mm_codeSortF mm_codeValueF mm_milesToldF mm_placesF mm_placeAtF mm_talkOfF mm_earsF mm_sharpOfF mm_rowOfF (r_2_4, mm_nightOfF, r_2_0, r_2_1, r_2_2, r_2_3, mm_heardFromF, mm_keptManyF, mm_keptRowF, p1, p2, p3)) else (xq_bd (xq_ald 22 mm_talkingOfF p1) fun v_4 => (xq_bd (xq_ast 22 mm_talkingOfF p1 (v_4 - 1)) fun g_5 => fX12_ticks_b28 N mmI mm_sumFromF mm_sumBehindF mm_codeSortF mm_codeValueF mm_milesToldF mm_placesF mm_placeAtF mm_talkOfF mm_earsF mm_sharpOfF mm_rowOfF (g_5, mm_nightOfF, mm_askedF, mm_mileOfF, mm_roundsOfF, mm_stackL, mm_heardFromF, mm_keptManyF, mm_keptRowF, p1, p2, p3)))))
set_option maxHeartbeats 4000000 in
set_option maxRecDepth 100000 in
theorem kX12_ticks (l : Launch) (dC : Nat → ClassId) (dI : Nat → Nat → Nat) (cI cB cJ cZ cM : ClassId) (z : Nat) (ad : Nat → Nat) (N : Nat) (a_p0 : Nat) (mmI : Nat → Int32) (mmJ : Nat → Int64) (mmR : Nat → Nat) (mm_talkingOfF : Nat → Int32) (mm_sumFromF : Nat → Int32) (mm_nightOfF : Nat → Int32) (mm_askedF : Nat → Int32) (mm_mileOfF : Nat → Int32) (mm_roundsOfF : Nat → Int32) (mm_sumBehindF : Nat → Int32) (mm_stackL : Nat → Int64) (mm_codeSortF : Nat → Int32) (mm_codeValueF : Nat → Int32) (mm_milesToldF : Nat → Int32) (mm_placesF : Nat → Int32) (mm_placeAtF : Nat → Int32) (mm_talkOfF : Nat → Int32) (mm_earsF : Nat → Int32) (mm_heardFromF : Nat → Int32) (mm_sharpOfF : Nat → Int32) (mm_rowOfF : Nat → Int32) (mm_keptManyF : Nat → Int32) (mm_keptRowF : Nat → Int32) (p1 : Int32) (p2 : Int32) (p3 : Int32) {r0 : Int32} {r1 : Nat → Int32} {r2 : Nat → Int32} {r3 : Nat → Int32} {r4 : Nat → Int32} {r5 : Nat → Int32} {r6 : Nat → Int64} {r7 : Nat → Int32} {r8 : Nat → Int32} {r9 : Nat → Int32} (hf : fX12_ticks N mmI mm_talkingOfF mm_sumFromF mm_nightOfF mm_askedF mm_mileOfF mm_roundsOfF mm_sumBehindF mm_stackL mm_codeSortF mm_codeValueF mm_milesToldF mm_placesF mm_placeAtF mm_talkOfF mm_earsF mm_heardFromF mm_sharpOfF mm_rowOfF mm_keptManyF mm_keptRowF p1 p2 p3 = some (r0, r1, r2, r3, r4, r5, r6, r7, r8, r9)) : xq_Ct l yX12_ticks wsX12_ticks { frames := 5, cells := 0, slots := 0, locals := 121 } (dC, dI) vwCl (xq_tys cI cB cJ cZ cM) z ad [.ref a_p0, .int p1, .int p2, .int p3] [(a_p0, .inr (12, oX12 mmI mmJ mmR)), ((mmR 48), .inl (cI, 22, .inl mm_talkingOfF)), ((mmR 24), .inl (cI, 6, .inl mm_sumFromF)), ((mmR 45), .inl (cI, 22, .inl mm_nightOfF)), ((mmR 58), .inl (cI, 12, .inl mm_askedF)), ((mmR 46), .inl (cI, 22, .inl mm_mileOfF)), ((mmR 47), .inl (cI, 22, .inl mm_roundsOfF)), ((mmR 25), .inl (cI, 6, .inl mm_sumBehindF)), ((mmR 57), .inl (cJ, 500, .inr (.inl mm_stackL))), ((mmR 26), .inl (cI, 3200, .inl mm_codeSortF)), ((mmR 27), .inl (cI, 3200, .inl mm_codeValueF)), ((mmR 14), .inl (cI, 2, .inl mm_milesToldF)), ((mmR 21), .inl (cI, 2, .inl mm_placesF)), ((mmR 22), .inl (cI, 12, .inl mm_placeAtF)), ((mmR 51), .inl (cI, 132, .inl mm_talkOfF)), ((mmR 18), .inl (cI, 2, .inl mm_earsF)), ((mmR 59), .inl (cI, 70, .inl mm_heardFromF)), ((mmR 20), .inl (cI, 14, .inl mm_sharpOfF)), ((mmR 50), .inl (cI, 154, .inl mm_rowOfF)), ((mmR 52), .inl (cI, 22, .inl mm_keptManyF)), ((mmR 53), .inl (cI, 2640, .inl mm_keptRowF))] [(a_p0, .inr (12, oX12 mmI mmJ mmR)), ((mmR 48), .inl (cI, 22, .inl r1)), ((mmR 24), .inl (cI, 6, .inl mm_sumFromF)), ((mmR 45), .inl (cI, 22, .inl r2)), ((mmR 58), .inl (cI, 12, .inl r3)), ((mmR 46), .inl (cI, 22, .inl r4)), ((mmR 47), .inl (cI, 22, .inl r5)), ((mmR 25), .inl (cI, 6, .inl mm_sumBehindF)), ((mmR 57), .inl (cJ, 500, .inr (.inl r6))), ((mmR 26), .inl (cI, 3200, .inl mm_codeSortF)), ((mmR 27), .inl (cI, 3200, .inl mm_codeValueF)), ((mmR 14), .inl (cI, 2, .inl mm_milesToldF)), ((mmR 21), .inl (cI, 2, .inl mm_placesF)), ((mmR 22), .inl (cI, 12, .inl mm_placeAtF)), ((mmR 51), .inl (cI, 132, .inl mm_talkOfF)), ((mmR 18), .inl (cI, 2, .inl mm_earsF)), ((mmR 59), .inl (cI, 70, .inl r7)), ((mmR 20), .inl (cI, 14, .inl mm_sharpOfF)), ((mmR 50), .inl (cI, 154, .inl mm_rowOfF)), ((mmR 52), .inl (cI, 22, .inl r8)), ((mmR 53), .inl (cI, 2640, .inl r9))] (some (.int r0)) := by
  intro sz
  refine Met.ofW (cc := cX12_ticks) (maxL := 6) (ret := (some .int)) (by decide) rfl ?_
  intro p e s m args below meth c s₁ B hml hv
  obtain ⟨rfl, hsz, hP, hK, hD0, hE, hz⟩ := hv
  have hx := B.exec
  have hb := B.bytes
  have hr := B.returns
  have hts := atoms_spec (ws := wsX12_ticks) B.pre
  have hown : s.vm.findClass RX12 = some m.cls := findClass_of_methodNamed B.named
  have hlocks := B.notSynchronized
  subst hsz
  have hD := hD0.self (sz := s.heap.size)
  have hN := xq_Env.of hE hz hD0
  generalize hAe : va_A [(a_p0, .inr (12, oX12 mmI mmJ mmR)), ((mmR 48), .inl (cI, 22, .inl mm_talkingOfF)), ((mmR 24), .inl (cI, 6, .inl mm_sumFromF)), ((mmR 45), .inl (cI, 22, .inl mm_nightOfF)), ((mmR 58), .inl (cI, 12, .inl mm_askedF)), ((mmR 46), .inl (cI, 22, .inl mm_mileOfF)), ((mmR 47), .inl (cI, 22, .inl mm_roundsOfF)), ((mmR 25), .inl (cI, 6, .inl mm_sumBehindF)), ((mmR 57), .inl (cJ, 500, .inr (.inl mm_stackL))), ((mmR 26), .inl (cI, 3200, .inl mm_codeSortF)), ((mmR 27), .inl (cI, 3200, .inl mm_codeValueF)), ((mmR 14), .inl (cI, 2, .inl mm_milesToldF)), ((mmR 21), .inl (cI, 2, .inl mm_placesF)), ((mmR 22), .inl (cI, 12, .inl mm_placeAtF)), ((mmR 51), .inl (cI, 132, .inl mm_talkOfF)), ((mmR 18), .inl (cI, 2, .inl mm_earsF)), ((mmR 59), .inl (cI, 70, .inl mm_heardFromF)), ((mmR 20), .inl (cI, 14, .inl mm_sharpOfF)), ((mmR 50), .inl (cI, 154, .inl mm_rowOfF)), ((mmR 52), .inl (cI, 22, .inl mm_keptManyF)), ((mmR 53), .inl (cI, 2640, .inl mm_keptRowF))] s.heap.size = A at hD hN ⊢
  have hA : ∀ q : Nat, s.heap.size ≤ q → A q := fun q h => by rw [← hAe]; exact Or.inr h
  clear hAe hD0
  have hS : va_S A s.heap s.heap [] := va_S.rf
  have hl := lv_entry ([.ref a_p0, .int p1, .int p2, .int p3]) (n := 6) (Nat.le_of_ble_eq_true rfl)
  rw [lg_entry_eq]
  generalize (lg_sl ([.ref a_p0, .int p1, .int p2, .int p3]) ++ List.replicate (6 - (lg_sl ([.ref a_p0, .int p1, .int p2, .int p3])).length) Slot.unset).toArray = ls at hl ⊢
  have hl : lv_has ls 6 [(0, .ref a_p0), (1, .int p1), (2, .int p2), (3, .int p3)] := hl
  have hw0 := hts (.fieldLink RX12 159 "DistantVoiceModel" "talkingOf" "[I") (by decide +kernel)
  have hinX12 : ∀ w ∈ wsX120, w ∈ wsX12_ticks := fun w h => List.mem_cons_of_mem _ (List.mem_append_right _ h)
  have hw2 := hts (.fieldLink RX12 66 "DistantVoiceModel" "ears" "[I") (by decide +kernel)
  have hw3 := hts (.fieldLink RX12 51 "DistantVoiceModel" "bank" "I") (by decide +kernel)
  have hw4 := hts (.fieldLink RX12 165 "DistantVoiceModel" "rowOf" "[I") (by decide +kernel)
  have hw5 := hts (.fieldLink RX12 150 "DistantVoiceModel" "nightOf" "[I") (by decide +kernel)
  have b112 : ∀ (mm_talkingOfF_112 : Nat → Int32) (mm_nightOfF_112 : Nat → Int32) (mm_askedF_112 : Nat → Int32) (mm_mileOfF_112 : Nat → Int32) (mm_roundsOfF_112 : Nat → Int32) (mm_stackL_112 : Nat → Int64) (mm_heardFromF_112 : Nat → Int32) (mm_keptManyF_112 : Nat → Int32) (mm_keptRowF_112 : Nat → Int32) (x1_112 : Int32) (x4_112 : Int32) (ls : Array Slot) (H : Heap) (locs : List Loc), fX12_ticks_b112 N mmI mm_sumFromF mm_sumBehindF mm_codeSortF mm_codeValueF mm_milesToldF mm_placesF mm_placeAtF mm_talkOfF mm_earsF mm_sharpOfF mm_rowOfF (mm_talkingOfF_112, mm_nightOfF_112, mm_askedF_112, mm_mileOfF_112, mm_roundsOfF_112, mm_stackL_112, mm_heardFromF_112, mm_keptManyF_112, mm_keptRowF_112, x1_112, x4_112) = some (r0, r1, r2, r3, r4, r5, r6, r7, r8, r9) → va_P (dC, dI) vwCl [(a_p0, .inr (12, oX12 mmI mmJ mmR)), ((mmR 48), .inl (cI, 22, .inl mm_talkingOfF_112)), ((mmR 24), .inl (cI, 6, .inl mm_sumFromF)), ((mmR 45), .inl (cI, 22, .inl mm_nightOfF_112)), ((mmR 58), .inl (cI, 12, .inl mm_askedF_112)), ((mmR 46), .inl (cI, 22, .inl mm_mileOfF_112)), ((mmR 47), .inl (cI, 22, .inl mm_roundsOfF_112)), ((mmR 25), .inl (cI, 6, .inl mm_sumBehindF)), ((mmR 57), .inl (cJ, 500, .inr (.inl mm_stackL_112))), ((mmR 26), .inl (cI, 3200, .inl mm_codeSortF)), ((mmR 27), .inl (cI, 3200, .inl mm_codeValueF)), ((mmR 14), .inl (cI, 2, .inl mm_milesToldF)), ((mmR 21), .inl (cI, 2, .inl mm_placesF)), ((mmR 22), .inl (cI, 12, .inl mm_placeAtF)), ((mmR 51), .inl (cI, 132, .inl mm_talkOfF)), ((mmR 18), .inl (cI, 2, .inl mm_earsF)), ((mmR 59), .inl (cI, 70, .inl mm_heardFromF_112)), ((mmR 20), .inl (cI, 14, .inl mm_sharpOfF)), ((mmR 50), .inl (cI, 154, .inl mm_rowOfF)), ((mmR 52), .inl (cI, 22, .inl mm_keptManyF_112)), ((mmR 53), .inl (cI, 2640, .inl mm_keptRowF_112))] H → va_D A [(a_p0, .inr (12, oX12 mmI mmJ mmR)), ((mmR 48), .inl (cI, 22, .inl mm_talkingOfF_112)), ((mmR 24), .inl (cI, 6, .inl mm_sumFromF)), ((mmR 45), .inl (cI, 22, .inl mm_nightOfF_112)), ((mmR 58), .inl (cI, 12, .inl mm_askedF_112)), ((mmR 46), .inl (cI, 22, .inl mm_mileOfF_112)), ((mmR 47), .inl (cI, 22, .inl mm_roundsOfF_112)), ((mmR 25), .inl (cI, 6, .inl mm_sumBehindF)), ((mmR 57), .inl (cJ, 500, .inr (.inl mm_stackL_112))), ((mmR 26), .inl (cI, 3200, .inl mm_codeSortF)), ((mmR 27), .inl (cI, 3200, .inl mm_codeValueF)), ((mmR 14), .inl (cI, 2, .inl mm_milesToldF)), ((mmR 21), .inl (cI, 2, .inl mm_placesF)), ((mmR 22), .inl (cI, 12, .inl mm_placeAtF)), ((mmR 51), .inl (cI, 132, .inl mm_talkOfF)), ((mmR 18), .inl (cI, 2, .inl mm_earsF)), ((mmR 59), .inl (cI, 70, .inl mm_heardFromF_112)), ((mmR 20), .inl (cI, 14, .inl mm_sharpOfF)), ((mmR 50), .inl (cI, 154, .inl mm_rowOfF)), ((mmR 52), .inl (cI, 22, .inl mm_keptManyF_112)), ((mmR 53), .inl (cI, 2640, .inl mm_keptRowF_112))] → va_S A s.heap H locs → lv_has ls 6 [(0, .ref a_p0), (1, .int x1_112), (4, .int x4_112)] → W p l e (headSpec wsX12_ticks { frames := 5, cells := 0, slots := 0, locals := 121 }).room s m [.ref a_p0, .int p1, .int p2, .int p3].toArray below meth c H locs 0 0 (MQ below (xq_Q (dC, dI) vwCl (xq_tys cI cB cJ cZ cM) A [(a_p0, .inr (12, oX12 mmI mmJ mmR)), ((mmR 48), .inl (cI, 22, .inl r1)), ((mmR 24), .inl (cI, 6, .inl mm_sumFromF)), ((mmR 45), .inl (cI, 22, .inl r2)), ((mmR 58), .inl (cI, 12, .inl r3)), ((mmR 46), .inl (cI, 22, .inl r4)), ((mmR 47), .inl (cI, 22, .inl r5)), ((mmR 25), .inl (cI, 6, .inl mm_sumBehindF)), ((mmR 57), .inl (cJ, 500, .inr (.inl r6))), ((mmR 26), .inl (cI, 3200, .inl mm_codeSortF)), ((mmR 27), .inl (cI, 3200, .inl mm_codeValueF)), ((mmR 14), .inl (cI, 2, .inl mm_milesToldF)), ((mmR 21), .inl (cI, 2, .inl mm_placesF)), ((mmR 22), .inl (cI, 12, .inl mm_placeAtF)), ((mmR 51), .inl (cI, 132, .inl mm_talkOfF)), ((mmR 18), .inl (cI, 2, .inl mm_earsF)), ((mmR 59), .inl (cI, 70, .inl r7)), ((mmR 20), .inl (cI, 14, .inl mm_sharpOfF)), ((mmR 50), .inl (cI, 154, .inl mm_rowOfF)), ((mmR 52), .inl (cI, 22, .inl r8)), ((mmR 53), .inl (cI, 2640, .inl r9))] (some (.int r0))) [.ref a_p0, .int p1, .int p2, .int p3].toArray s 0 0 A) (F0 m 112 ls []) := by
    intro mm_talkingOfF_112 mm_nightOfF_112 mm_askedF_112 mm_mileOfF_112 mm_roundsOfF_112 mm_stackL_112 mm_heardFromF_112 mm_keptManyF_112 mm_keptRowF_112 x1_112 x4_112 ls H locs hf hP hD hS hl
    unfold fX12_ticks_b112 at hf
    refine lv_aload_n hx hb dX12_ticks_112 rfl (lv_at hl 0 rfl) ?_
    refine va_get (D := (dC, dI)) (ci := 12) (v := .ref ((mmR 45))) (C := RX12) (T := TX12) (N := 70) hx hb hts hinX12 hown hK hP 0 rfl rfl 45 (by decide) hw5 (fun _ h9 => h9) rfl dX12_ticks_113 ?_
    refine lv_iload_n hx hb dX12_ticks_116 rfl (lv_at hl 1 rfl) ?_
    refine lv_dup2_11 hx hb dX12_ticks_117 rfl rfl ?_
    refine xq_iald hx hb hK hP 3 0 rfl rfl hf dX12_ticks_118 (fun v_1 hf => ?_)
    refine lv_iconst (v := 1) hx hb dX12_ticks_119 (by decide) ?_
    refine lv_iadd hx hb dX12_ticks_120 ?_
    refine xq_iast hx hb hK hP hD hS 3 0 rfl rfl hf dX12_ticks_121 (fun g_2 H locs hf hP hD hS => ?_)
    have hP : va_P (dC, dI) vwCl [(a_p0, .inr (12, oX12 mmI mmJ mmR)), ((mmR 48), .inl (cI, 22, .inl mm_talkingOfF_112)), ((mmR 24), .inl (cI, 6, .inl mm_sumFromF)), ((mmR 45), .inl (cI, 22, .inl g_2)), ((mmR 58), .inl (cI, 12, .inl mm_askedF_112)), ((mmR 46), .inl (cI, 22, .inl mm_mileOfF_112)), ((mmR 47), .inl (cI, 22, .inl mm_roundsOfF_112)), ((mmR 25), .inl (cI, 6, .inl mm_sumBehindF)), ((mmR 57), .inl (cJ, 500, .inr (.inl mm_stackL_112))), ((mmR 26), .inl (cI, 3200, .inl mm_codeSortF)), ((mmR 27), .inl (cI, 3200, .inl mm_codeValueF)), ((mmR 14), .inl (cI, 2, .inl mm_milesToldF)), ((mmR 21), .inl (cI, 2, .inl mm_placesF)), ((mmR 22), .inl (cI, 12, .inl mm_placeAtF)), ((mmR 51), .inl (cI, 132, .inl mm_talkOfF)), ((mmR 18), .inl (cI, 2, .inl mm_earsF)), ((mmR 59), .inl (cI, 70, .inl mm_heardFromF_112)), ((mmR 20), .inl (cI, 14, .inl mm_sharpOfF)), ((mmR 50), .inl (cI, 154, .inl mm_rowOfF)), ((mmR 52), .inl (cI, 22, .inl mm_keptManyF_112)), ((mmR 53), .inl (cI, 2640, .inl mm_keptRowF_112))] H := hP
    have hD : va_D A [(a_p0, .inr (12, oX12 mmI mmJ mmR)), ((mmR 48), .inl (cI, 22, .inl mm_talkingOfF_112)), ((mmR 24), .inl (cI, 6, .inl mm_sumFromF)), ((mmR 45), .inl (cI, 22, .inl g_2)), ((mmR 58), .inl (cI, 12, .inl mm_askedF_112)), ((mmR 46), .inl (cI, 22, .inl mm_mileOfF_112)), ((mmR 47), .inl (cI, 22, .inl mm_roundsOfF_112)), ((mmR 25), .inl (cI, 6, .inl mm_sumBehindF)), ((mmR 57), .inl (cJ, 500, .inr (.inl mm_stackL_112))), ((mmR 26), .inl (cI, 3200, .inl mm_codeSortF)), ((mmR 27), .inl (cI, 3200, .inl mm_codeValueF)), ((mmR 14), .inl (cI, 2, .inl mm_milesToldF)), ((mmR 21), .inl (cI, 2, .inl mm_placesF)), ((mmR 22), .inl (cI, 12, .inl mm_placeAtF)), ((mmR 51), .inl (cI, 132, .inl mm_talkOfF)), ((mmR 18), .inl (cI, 2, .inl mm_earsF)), ((mmR 59), .inl (cI, 70, .inl mm_heardFromF_112)), ((mmR 20), .inl (cI, 14, .inl mm_sharpOfF)), ((mmR 50), .inl (cI, 154, .inl mm_rowOfF)), ((mmR 52), .inl (cI, 22, .inl mm_keptManyF_112)), ((mmR 53), .inl (cI, 2640, .inl mm_keptRowF_112))] := hD
    refine lv_iload hx hb dX12_ticks_122 (lv_at hl 2 rfl) ?_
    have e9 := Option.some.inj hf
    have e9_0 : x4_112 = r0 := congrArg (fun t => t.1) e9
    have e9_1 : mm_talkingOfF_112 = r1 := congrArg (fun t => t.2.1) e9
    have e9_2 : g_2 = r2 := congrArg (fun t => t.2.2.1) e9
    have e9_3 : mm_askedF_112 = r3 := congrArg (fun t => t.2.2.2.1) e9
    have e9_4 : mm_mileOfF_112 = r4 := congrArg (fun t => t.2.2.2.2.1) e9
    have e9_5 : mm_roundsOfF_112 = r5 := congrArg (fun t => t.2.2.2.2.2.1) e9
    have e9_6 : mm_stackL_112 = r6 := congrArg (fun t => t.2.2.2.2.2.2.1) e9
    have e9_7 : mm_heardFromF_112 = r7 := congrArg (fun t => t.2.2.2.2.2.2.2.1) e9
    have e9_8 : mm_keptManyF_112 = r8 := congrArg (fun t => t.2.2.2.2.2.2.2.2.1) e9
    have e9_9 : mm_keptRowF_112 = r9 := congrArg (fun t => t.2.2.2.2.2.2.2.2.2) e9
    clear e9 hf
    try clear b100
    try clear b112
    try clear b28
    try clear b81
    try clear l34
    try clear ih34
    subst e9_0
    subst e9_1
    subst e9_2
    subst e9_3
    subst e9_4
    subst e9_5
    subst e9_6
    subst e9_7
    subst e9_8
    subst e9_9
    exact xq_iret hx hb hr hlocks hK hP hD hS dX12_ticks_124
  have b100 : ∀ (mm_talkingOfF_100 : Nat → Int32) (mm_nightOfF_100 : Nat → Int32) (mm_askedF_100 : Nat → Int32) (mm_mileOfF_100 : Nat → Int32) (mm_roundsOfF_100 : Nat → Int32) (mm_stackL_100 : Nat → Int64) (mm_heardFromF_100 : Nat → Int32) (mm_keptManyF_100 : Nat → Int32) (mm_keptRowF_100 : Nat → Int32) (x1_100 : Int32) (x4_100 : Int32) (ls : Array Slot) (H : Heap) (locs : List Loc), fX12_ticks_b100 N mmI mm_sumFromF mm_sumBehindF mm_codeSortF mm_codeValueF mm_milesToldF mm_placesF mm_placeAtF mm_talkOfF mm_earsF mm_sharpOfF mm_rowOfF (mm_talkingOfF_100, mm_nightOfF_100, mm_askedF_100, mm_mileOfF_100, mm_roundsOfF_100, mm_stackL_100, mm_heardFromF_100, mm_keptManyF_100, mm_keptRowF_100, x1_100, x4_100) = some (r0, r1, r2, r3, r4, r5, r6, r7, r8, r9) → va_P (dC, dI) vwCl [(a_p0, .inr (12, oX12 mmI mmJ mmR)), ((mmR 48), .inl (cI, 22, .inl mm_talkingOfF_100)), ((mmR 24), .inl (cI, 6, .inl mm_sumFromF)), ((mmR 45), .inl (cI, 22, .inl mm_nightOfF_100)), ((mmR 58), .inl (cI, 12, .inl mm_askedF_100)), ((mmR 46), .inl (cI, 22, .inl mm_mileOfF_100)), ((mmR 47), .inl (cI, 22, .inl mm_roundsOfF_100)), ((mmR 25), .inl (cI, 6, .inl mm_sumBehindF)), ((mmR 57), .inl (cJ, 500, .inr (.inl mm_stackL_100))), ((mmR 26), .inl (cI, 3200, .inl mm_codeSortF)), ((mmR 27), .inl (cI, 3200, .inl mm_codeValueF)), ((mmR 14), .inl (cI, 2, .inl mm_milesToldF)), ((mmR 21), .inl (cI, 2, .inl mm_placesF)), ((mmR 22), .inl (cI, 12, .inl mm_placeAtF)), ((mmR 51), .inl (cI, 132, .inl mm_talkOfF)), ((mmR 18), .inl (cI, 2, .inl mm_earsF)), ((mmR 59), .inl (cI, 70, .inl mm_heardFromF_100)), ((mmR 20), .inl (cI, 14, .inl mm_sharpOfF)), ((mmR 50), .inl (cI, 154, .inl mm_rowOfF)), ((mmR 52), .inl (cI, 22, .inl mm_keptManyF_100)), ((mmR 53), .inl (cI, 2640, .inl mm_keptRowF_100))] H → va_D A [(a_p0, .inr (12, oX12 mmI mmJ mmR)), ((mmR 48), .inl (cI, 22, .inl mm_talkingOfF_100)), ((mmR 24), .inl (cI, 6, .inl mm_sumFromF)), ((mmR 45), .inl (cI, 22, .inl mm_nightOfF_100)), ((mmR 58), .inl (cI, 12, .inl mm_askedF_100)), ((mmR 46), .inl (cI, 22, .inl mm_mileOfF_100)), ((mmR 47), .inl (cI, 22, .inl mm_roundsOfF_100)), ((mmR 25), .inl (cI, 6, .inl mm_sumBehindF)), ((mmR 57), .inl (cJ, 500, .inr (.inl mm_stackL_100))), ((mmR 26), .inl (cI, 3200, .inl mm_codeSortF)), ((mmR 27), .inl (cI, 3200, .inl mm_codeValueF)), ((mmR 14), .inl (cI, 2, .inl mm_milesToldF)), ((mmR 21), .inl (cI, 2, .inl mm_placesF)), ((mmR 22), .inl (cI, 12, .inl mm_placeAtF)), ((mmR 51), .inl (cI, 132, .inl mm_talkOfF)), ((mmR 18), .inl (cI, 2, .inl mm_earsF)), ((mmR 59), .inl (cI, 70, .inl mm_heardFromF_100)), ((mmR 20), .inl (cI, 14, .inl mm_sharpOfF)), ((mmR 50), .inl (cI, 154, .inl mm_rowOfF)), ((mmR 52), .inl (cI, 22, .inl mm_keptManyF_100)), ((mmR 53), .inl (cI, 2640, .inl mm_keptRowF_100))] → va_S A s.heap H locs → lv_has ls 6 [(0, .ref a_p0), (1, .int x1_100), (4, .int x4_100)] → W p l e (headSpec wsX12_ticks { frames := 5, cells := 0, slots := 0, locals := 121 }).room s m [.ref a_p0, .int p1, .int p2, .int p3].toArray below meth c H locs 0 0 (MQ below (xq_Q (dC, dI) vwCl (xq_tys cI cB cJ cZ cM) A [(a_p0, .inr (12, oX12 mmI mmJ mmR)), ((mmR 48), .inl (cI, 22, .inl r1)), ((mmR 24), .inl (cI, 6, .inl mm_sumFromF)), ((mmR 45), .inl (cI, 22, .inl r2)), ((mmR 58), .inl (cI, 12, .inl r3)), ((mmR 46), .inl (cI, 22, .inl r4)), ((mmR 47), .inl (cI, 22, .inl r5)), ((mmR 25), .inl (cI, 6, .inl mm_sumBehindF)), ((mmR 57), .inl (cJ, 500, .inr (.inl r6))), ((mmR 26), .inl (cI, 3200, .inl mm_codeSortF)), ((mmR 27), .inl (cI, 3200, .inl mm_codeValueF)), ((mmR 14), .inl (cI, 2, .inl mm_milesToldF)), ((mmR 21), .inl (cI, 2, .inl mm_placesF)), ((mmR 22), .inl (cI, 12, .inl mm_placeAtF)), ((mmR 51), .inl (cI, 132, .inl mm_talkOfF)), ((mmR 18), .inl (cI, 2, .inl mm_earsF)), ((mmR 59), .inl (cI, 70, .inl r7)), ((mmR 20), .inl (cI, 14, .inl mm_sharpOfF)), ((mmR 50), .inl (cI, 154, .inl mm_rowOfF)), ((mmR 52), .inl (cI, 22, .inl r8)), ((mmR 53), .inl (cI, 2640, .inl r9))] (some (.int r0))) [.ref a_p0, .int p1, .int p2, .int p3].toArray s 0 0 A) (F0 m 100 ls []) := by
    intro mm_talkingOfF_100 mm_nightOfF_100 mm_askedF_100 mm_mileOfF_100 mm_roundsOfF_100 mm_stackL_100 mm_heardFromF_100 mm_keptManyF_100 mm_keptRowF_100 x1_100 x4_100 ls H locs hf hP hD hS hl
    unfold fX12_ticks_b100 at hf
    refine lv_iload hx hb dX12_ticks_100 (lv_at hl 2 rfl) ?_
    refine lv_if_eq (tgt := 112) hx hb dX12_ticks_102 (by decide) (fun c_ => ?_) (fun c_ => ?_)
    · have hf := xq_pos hf c_
      exact b112 mm_talkingOfF_100 mm_nightOfF_100 mm_askedF_100 mm_mileOfF_100 mm_roundsOfF_100 mm_stackL_100 mm_heardFromF_100 mm_keptManyF_100 mm_keptRowF_100 x1_100 x4_100 _ _ _ hf hP hD hS (lv_sub hl [0, 1, 2] rfl)
    · have hf := xq_neg hf c_
      refine lv_aload_n hx hb dX12_ticks_105 rfl (lv_at hl 0 rfl) ?_
      refine lv_iload_n hx hb dX12_ticks_106 rfl (lv_at hl 1 rfl) ?_
      refine lv_iload hx hb dX12_ticks_107 (lv_at hl 2 rfl) ?_
      obtain ⟨⟨r_1_0, r_1_1⟩, h_2, hf⟩ := xq_bd_some hf
      refine xq_callV (As := [.int x1_100, .int x4_100]) (rest := []) (ci := 12) (q0 := 0) ⟨hx, hb, hml, hown, hts⟩ (kX12_writesDown l dC dI cI cB cJ cZ cM z ad N a_p0 mmI mmJ mmR mm_keptManyF_100 mm_keptRowF_100 mm_nightOfF_100 mm_mileOfF_100 x1_100 x4_100 h_2) (cwV 2 hts gX12_ticks_X12_writesDown rfl rfl rfl (by decide +kernel) ⟨Nat.le_of_ble_eq_true rfl, Nat.le_of_ble_eq_true rfl⟩) hN hK hP hD hS hA [0, 19, 20, 3, 5] (by decide) rfl rfl rfl rfl rfl rfl hl.1 rfl (Nat.le_of_ble_eq_true rfl) dX12_ticks_109 ⟨Nat.zero_le _, Nat.zero_le _⟩ (fun H locs hP hD hS => ?_)
      have hP : va_P (dC, dI) vwCl [(a_p0, .inr (12, oX12 mmI mmJ mmR)), ((mmR 48), .inl (cI, 22, .inl mm_talkingOfF_100)), ((mmR 24), .inl (cI, 6, .inl mm_sumFromF)), ((mmR 45), .inl (cI, 22, .inl mm_nightOfF_100)), ((mmR 58), .inl (cI, 12, .inl mm_askedF_100)), ((mmR 46), .inl (cI, 22, .inl mm_mileOfF_100)), ((mmR 47), .inl (cI, 22, .inl mm_roundsOfF_100)), ((mmR 25), .inl (cI, 6, .inl mm_sumBehindF)), ((mmR 57), .inl (cJ, 500, .inr (.inl mm_stackL_100))), ((mmR 26), .inl (cI, 3200, .inl mm_codeSortF)), ((mmR 27), .inl (cI, 3200, .inl mm_codeValueF)), ((mmR 14), .inl (cI, 2, .inl mm_milesToldF)), ((mmR 21), .inl (cI, 2, .inl mm_placesF)), ((mmR 22), .inl (cI, 12, .inl mm_placeAtF)), ((mmR 51), .inl (cI, 132, .inl mm_talkOfF)), ((mmR 18), .inl (cI, 2, .inl mm_earsF)), ((mmR 59), .inl (cI, 70, .inl mm_heardFromF_100)), ((mmR 20), .inl (cI, 14, .inl mm_sharpOfF)), ((mmR 50), .inl (cI, 154, .inl mm_rowOfF)), ((mmR 52), .inl (cI, 22, .inl r_1_0)), ((mmR 53), .inl (cI, 2640, .inl r_1_1))] H := hP
      have hD : va_D A [(a_p0, .inr (12, oX12 mmI mmJ mmR)), ((mmR 48), .inl (cI, 22, .inl mm_talkingOfF_100)), ((mmR 24), .inl (cI, 6, .inl mm_sumFromF)), ((mmR 45), .inl (cI, 22, .inl mm_nightOfF_100)), ((mmR 58), .inl (cI, 12, .inl mm_askedF_100)), ((mmR 46), .inl (cI, 22, .inl mm_mileOfF_100)), ((mmR 47), .inl (cI, 22, .inl mm_roundsOfF_100)), ((mmR 25), .inl (cI, 6, .inl mm_sumBehindF)), ((mmR 57), .inl (cJ, 500, .inr (.inl mm_stackL_100))), ((mmR 26), .inl (cI, 3200, .inl mm_codeSortF)), ((mmR 27), .inl (cI, 3200, .inl mm_codeValueF)), ((mmR 14), .inl (cI, 2, .inl mm_milesToldF)), ((mmR 21), .inl (cI, 2, .inl mm_placesF)), ((mmR 22), .inl (cI, 12, .inl mm_placeAtF)), ((mmR 51), .inl (cI, 132, .inl mm_talkOfF)), ((mmR 18), .inl (cI, 2, .inl mm_earsF)), ((mmR 59), .inl (cI, 70, .inl mm_heardFromF_100)), ((mmR 20), .inl (cI, 14, .inl mm_sharpOfF)), ((mmR 50), .inl (cI, 154, .inl mm_rowOfF)), ((mmR 52), .inl (cI, 22, .inl r_1_0)), ((mmR 53), .inl (cI, 2640, .inl r_1_1))] := hD
      refine W.eq (g2 := F0 m 112 ls []) rfl ?_
      exact b112 mm_talkingOfF_100 mm_nightOfF_100 mm_askedF_100 mm_mileOfF_100 mm_roundsOfF_100 mm_stackL_100 mm_heardFromF_100 r_1_0 r_1_1 x1_100 x4_100 _ _ _ hf hP hD hS (lv_sub hl [0, 1, 2] rfl)
  have l34 : ∀ n34 : Nat, ∀ (mm_talkingOfF_34 : Nat → Int32) (mm_nightOfF_34 : Nat → Int32) (mm_askedF_34 : Nat → Int32) (mm_mileOfF_34 : Nat → Int32) (mm_roundsOfF_34 : Nat → Int32) (mm_stackL_34 : Nat → Int64) (mm_heardFromF_34 : Nat → Int32) (mm_keptManyF_34 : Nat → Int32) (mm_keptRowF_34 : Nat → Int32) (x1_34 : Int32) (x2_34 : Int32) (x3_34 : Int32) (x4_34 : Int32) (x5_34 : Int32) (ls : Array Slot) (H : Heap) (locs : List Loc), xq_loop (fX12_ticks_l34 N mmI mm_sumFromF mm_sumBehindF mm_codeSortF mm_codeValueF mm_milesToldF mm_placesF mm_placeAtF mm_talkOfF mm_earsF mm_sharpOfF mm_rowOfF) n34 (mm_talkingOfF_34, mm_nightOfF_34, mm_askedF_34, mm_mileOfF_34, mm_roundsOfF_34, mm_stackL_34, mm_heardFromF_34, mm_keptManyF_34, mm_keptRowF_34, x1_34, x2_34, x3_34, x4_34, x5_34) = some (r0, r1, r2, r3, r4, r5, r6, r7, r8, r9) → va_P (dC, dI) vwCl [(a_p0, .inr (12, oX12 mmI mmJ mmR)), ((mmR 48), .inl (cI, 22, .inl mm_talkingOfF_34)), ((mmR 24), .inl (cI, 6, .inl mm_sumFromF)), ((mmR 45), .inl (cI, 22, .inl mm_nightOfF_34)), ((mmR 58), .inl (cI, 12, .inl mm_askedF_34)), ((mmR 46), .inl (cI, 22, .inl mm_mileOfF_34)), ((mmR 47), .inl (cI, 22, .inl mm_roundsOfF_34)), ((mmR 25), .inl (cI, 6, .inl mm_sumBehindF)), ((mmR 57), .inl (cJ, 500, .inr (.inl mm_stackL_34))), ((mmR 26), .inl (cI, 3200, .inl mm_codeSortF)), ((mmR 27), .inl (cI, 3200, .inl mm_codeValueF)), ((mmR 14), .inl (cI, 2, .inl mm_milesToldF)), ((mmR 21), .inl (cI, 2, .inl mm_placesF)), ((mmR 22), .inl (cI, 12, .inl mm_placeAtF)), ((mmR 51), .inl (cI, 132, .inl mm_talkOfF)), ((mmR 18), .inl (cI, 2, .inl mm_earsF)), ((mmR 59), .inl (cI, 70, .inl mm_heardFromF_34)), ((mmR 20), .inl (cI, 14, .inl mm_sharpOfF)), ((mmR 50), .inl (cI, 154, .inl mm_rowOfF)), ((mmR 52), .inl (cI, 22, .inl mm_keptManyF_34)), ((mmR 53), .inl (cI, 2640, .inl mm_keptRowF_34))] H → va_D A [(a_p0, .inr (12, oX12 mmI mmJ mmR)), ((mmR 48), .inl (cI, 22, .inl mm_talkingOfF_34)), ((mmR 24), .inl (cI, 6, .inl mm_sumFromF)), ((mmR 45), .inl (cI, 22, .inl mm_nightOfF_34)), ((mmR 58), .inl (cI, 12, .inl mm_askedF_34)), ((mmR 46), .inl (cI, 22, .inl mm_mileOfF_34)), ((mmR 47), .inl (cI, 22, .inl mm_roundsOfF_34)), ((mmR 25), .inl (cI, 6, .inl mm_sumBehindF)), ((mmR 57), .inl (cJ, 500, .inr (.inl mm_stackL_34))), ((mmR 26), .inl (cI, 3200, .inl mm_codeSortF)), ((mmR 27), .inl (cI, 3200, .inl mm_codeValueF)), ((mmR 14), .inl (cI, 2, .inl mm_milesToldF)), ((mmR 21), .inl (cI, 2, .inl mm_placesF)), ((mmR 22), .inl (cI, 12, .inl mm_placeAtF)), ((mmR 51), .inl (cI, 132, .inl mm_talkOfF)), ((mmR 18), .inl (cI, 2, .inl mm_earsF)), ((mmR 59), .inl (cI, 70, .inl mm_heardFromF_34)), ((mmR 20), .inl (cI, 14, .inl mm_sharpOfF)), ((mmR 50), .inl (cI, 154, .inl mm_rowOfF)), ((mmR 52), .inl (cI, 22, .inl mm_keptManyF_34)), ((mmR 53), .inl (cI, 2640, .inl mm_keptRowF_34))] → va_S A s.heap H locs → lv_has ls 6 [(0, .ref a_p0), (1, .int x1_34), (2, .int x2_34), (3, .int x3_34), (4, .int x4_34), (5, .int x5_34)] → W p l e (headSpec wsX12_ticks { frames := 5, cells := 0, slots := 0, locals := 121 }).room s m [.ref a_p0, .int p1, .int p2, .int p3].toArray below meth c H locs 0 0 (MQ below (xq_Q (dC, dI) vwCl (xq_tys cI cB cJ cZ cM) A [(a_p0, .inr (12, oX12 mmI mmJ mmR)), ((mmR 48), .inl (cI, 22, .inl r1)), ((mmR 24), .inl (cI, 6, .inl mm_sumFromF)), ((mmR 45), .inl (cI, 22, .inl r2)), ((mmR 58), .inl (cI, 12, .inl r3)), ((mmR 46), .inl (cI, 22, .inl r4)), ((mmR 47), .inl (cI, 22, .inl r5)), ((mmR 25), .inl (cI, 6, .inl mm_sumBehindF)), ((mmR 57), .inl (cJ, 500, .inr (.inl r6))), ((mmR 26), .inl (cI, 3200, .inl mm_codeSortF)), ((mmR 27), .inl (cI, 3200, .inl mm_codeValueF)), ((mmR 14), .inl (cI, 2, .inl mm_milesToldF)), ((mmR 21), .inl (cI, 2, .inl mm_placesF)), ((mmR 22), .inl (cI, 12, .inl mm_placeAtF)), ((mmR 51), .inl (cI, 132, .inl mm_talkOfF)), ((mmR 18), .inl (cI, 2, .inl mm_earsF)), ((mmR 59), .inl (cI, 70, .inl r7)), ((mmR 20), .inl (cI, 14, .inl mm_sharpOfF)), ((mmR 50), .inl (cI, 154, .inl mm_rowOfF)), ((mmR 52), .inl (cI, 22, .inl r8)), ((mmR 53), .inl (cI, 2640, .inl r9))] (some (.int r0))) [.ref a_p0, .int p1, .int p2, .int p3].toArray s 0 0 A) (F0 m 34 ls []) := by
    intro n34
    induction n34 with
    | zero => intro mm_talkingOfF_34 mm_nightOfF_34 mm_askedF_34 mm_mileOfF_34 mm_roundsOfF_34 mm_stackL_34 mm_heardFromF_34 mm_keptManyF_34 mm_keptRowF_34 x1_34 x2_34 x3_34 x4_34 x5_34 ls H locs hf; cases (show none = some (r0, r1, r2, r3, r4, r5, r6, r7, r8, r9) from hf)
    | succ n34 ih34 =>
      have b81 : ∀ (mm_talkingOfF_81 : Nat → Int32) (mm_nightOfF_81 : Nat → Int32) (mm_askedF_81 : Nat → Int32) (mm_mileOfF_81 : Nat → Int32) (mm_roundsOfF_81 : Nat → Int32) (mm_stackL_81 : Nat → Int64) (mm_heardFromF_81 : Nat → Int32) (mm_keptManyF_81 : Nat → Int32) (mm_keptRowF_81 : Nat → Int32) (x1_81 : Int32) (x2_81 : Int32) (x3_81 : Int32) (x5_81 : Int32) (y0_81 : Int32) (y1_81 : Int32) (ls : Array Slot) (H : Heap) (locs : List Loc), fX12_ticks_b81 N mmI mm_sumFromF mm_sumBehindF mm_codeSortF mm_codeValueF mm_milesToldF mm_placesF mm_placeAtF mm_talkOfF mm_earsF mm_sharpOfF mm_rowOfF (xq_loop (fX12_ticks_l34 N mmI mm_sumFromF mm_sumBehindF mm_codeSortF mm_codeValueF mm_milesToldF mm_placesF mm_placeAtF mm_talkOfF mm_earsF mm_sharpOfF mm_rowOfF) n34) (mm_talkingOfF_81, mm_nightOfF_81, mm_askedF_81, mm_mileOfF_81, mm_roundsOfF_81, mm_stackL_81, mm_heardFromF_81, mm_keptManyF_81, mm_keptRowF_81, x1_81, x2_81, x3_81, x5_81, y0_81, y1_81) = some (r0, r1, r2, r3, r4, r5, r6, r7, r8, r9) → va_P (dC, dI) vwCl [(a_p0, .inr (12, oX12 mmI mmJ mmR)), ((mmR 48), .inl (cI, 22, .inl mm_talkingOfF_81)), ((mmR 24), .inl (cI, 6, .inl mm_sumFromF)), ((mmR 45), .inl (cI, 22, .inl mm_nightOfF_81)), ((mmR 58), .inl (cI, 12, .inl mm_askedF_81)), ((mmR 46), .inl (cI, 22, .inl mm_mileOfF_81)), ((mmR 47), .inl (cI, 22, .inl mm_roundsOfF_81)), ((mmR 25), .inl (cI, 6, .inl mm_sumBehindF)), ((mmR 57), .inl (cJ, 500, .inr (.inl mm_stackL_81))), ((mmR 26), .inl (cI, 3200, .inl mm_codeSortF)), ((mmR 27), .inl (cI, 3200, .inl mm_codeValueF)), ((mmR 14), .inl (cI, 2, .inl mm_milesToldF)), ((mmR 21), .inl (cI, 2, .inl mm_placesF)), ((mmR 22), .inl (cI, 12, .inl mm_placeAtF)), ((mmR 51), .inl (cI, 132, .inl mm_talkOfF)), ((mmR 18), .inl (cI, 2, .inl mm_earsF)), ((mmR 59), .inl (cI, 70, .inl mm_heardFromF_81)), ((mmR 20), .inl (cI, 14, .inl mm_sharpOfF)), ((mmR 50), .inl (cI, 154, .inl mm_rowOfF)), ((mmR 52), .inl (cI, 22, .inl mm_keptManyF_81)), ((mmR 53), .inl (cI, 2640, .inl mm_keptRowF_81))] H → va_D A [(a_p0, .inr (12, oX12 mmI mmJ mmR)), ((mmR 48), .inl (cI, 22, .inl mm_talkingOfF_81)), ((mmR 24), .inl (cI, 6, .inl mm_sumFromF)), ((mmR 45), .inl (cI, 22, .inl mm_nightOfF_81)), ((mmR 58), .inl (cI, 12, .inl mm_askedF_81)), ((mmR 46), .inl (cI, 22, .inl mm_mileOfF_81)), ((mmR 47), .inl (cI, 22, .inl mm_roundsOfF_81)), ((mmR 25), .inl (cI, 6, .inl mm_sumBehindF)), ((mmR 57), .inl (cJ, 500, .inr (.inl mm_stackL_81))), ((mmR 26), .inl (cI, 3200, .inl mm_codeSortF)), ((mmR 27), .inl (cI, 3200, .inl mm_codeValueF)), ((mmR 14), .inl (cI, 2, .inl mm_milesToldF)), ((mmR 21), .inl (cI, 2, .inl mm_placesF)), ((mmR 22), .inl (cI, 12, .inl mm_placeAtF)), ((mmR 51), .inl (cI, 132, .inl mm_talkOfF)), ((mmR 18), .inl (cI, 2, .inl mm_earsF)), ((mmR 59), .inl (cI, 70, .inl mm_heardFromF_81)), ((mmR 20), .inl (cI, 14, .inl mm_sharpOfF)), ((mmR 50), .inl (cI, 154, .inl mm_rowOfF)), ((mmR 52), .inl (cI, 22, .inl mm_keptManyF_81)), ((mmR 53), .inl (cI, 2640, .inl mm_keptRowF_81))] → va_S A s.heap H locs → lv_has ls 6 [(0, .ref a_p0), (1, .int x1_81), (2, .int x2_81), (3, .int x3_81), (5, .int x5_81)] → W p l e (headSpec wsX12_ticks { frames := 5, cells := 0, slots := 0, locals := 121 }).room s m [.ref a_p0, .int p1, .int p2, .int p3].toArray below meth c H locs 0 0 (MQ below (xq_Q (dC, dI) vwCl (xq_tys cI cB cJ cZ cM) A [(a_p0, .inr (12, oX12 mmI mmJ mmR)), ((mmR 48), .inl (cI, 22, .inl r1)), ((mmR 24), .inl (cI, 6, .inl mm_sumFromF)), ((mmR 45), .inl (cI, 22, .inl r2)), ((mmR 58), .inl (cI, 12, .inl r3)), ((mmR 46), .inl (cI, 22, .inl r4)), ((mmR 47), .inl (cI, 22, .inl r5)), ((mmR 25), .inl (cI, 6, .inl mm_sumBehindF)), ((mmR 57), .inl (cJ, 500, .inr (.inl r6))), ((mmR 26), .inl (cI, 3200, .inl mm_codeSortF)), ((mmR 27), .inl (cI, 3200, .inl mm_codeValueF)), ((mmR 14), .inl (cI, 2, .inl mm_milesToldF)), ((mmR 21), .inl (cI, 2, .inl mm_placesF)), ((mmR 22), .inl (cI, 12, .inl mm_placeAtF)), ((mmR 51), .inl (cI, 132, .inl mm_talkOfF)), ((mmR 18), .inl (cI, 2, .inl mm_earsF)), ((mmR 59), .inl (cI, 70, .inl r7)), ((mmR 20), .inl (cI, 14, .inl mm_sharpOfF)), ((mmR 50), .inl (cI, 154, .inl mm_rowOfF)), ((mmR 52), .inl (cI, 22, .inl r8)), ((mmR 53), .inl (cI, 2640, .inl r9))] (some (.int r0))) [.ref a_p0, .int p1, .int p2, .int p3].toArray s 0 0 A) (F0 m 81 ls [.int y1_81, .int y0_81]) := by
        intro mm_talkingOfF_81 mm_nightOfF_81 mm_askedF_81 mm_mileOfF_81 mm_roundsOfF_81 mm_stackL_81 mm_heardFromF_81 mm_keptManyF_81 mm_keptRowF_81 x1_81 x2_81 x3_81 x5_81 y0_81 y1_81 ls H locs hf hP hD hS hl
        unfold fX12_ticks_b81 at hf
        refine lv_ior hx hb dX12_ticks_81 ?_
        refine lv_istore (lv' := [(4, .int (y0_81 ||| y1_81)), (0, .ref a_p0), (1, .int x1_81), (2, .int x2_81), (3, .int x3_81), (5, .int x5_81)]) hx hb dX12_ticks_82 hl (by decide) rfl (fun ls hl => ?_)
        refine lv_iinc (v := x5_81 + 1) (lv' := [(5, .int (x5_81 + 1)), (4, .int (y0_81 ||| y1_81)), (0, .ref a_p0), (1, .int x1_81), (2, .int x2_81), (3, .int x3_81)]) hx hb dX12_ticks_84 hl (k := 5) rfl (congrArg (fun q9 => x5_81 + q9) (by decide : Int32.ofInt 1 = 1)) (by decide) rfl (fun ls hl => ?_)
        refine lv_goto (tgt := 34) hx hb dX12_ticks_87 (by decide) ?_
        exact ih34 mm_talkingOfF_81 mm_nightOfF_81 mm_askedF_81 mm_mileOfF_81 mm_roundsOfF_81 mm_stackL_81 mm_heardFromF_81 mm_keptManyF_81 mm_keptRowF_81 x1_81 x2_81 x3_81 (y0_81 ||| y1_81) (x5_81 + 1) _ _ _ hf hP hD hS (lv_sub hl [2, 3, 4, 5, 1, 0] rfl)
      intro mm_talkingOfF_34 mm_nightOfF_34 mm_askedF_34 mm_mileOfF_34 mm_roundsOfF_34 mm_stackL_34 mm_heardFromF_34 mm_keptManyF_34 mm_keptRowF_34 x1_34 x2_34 x3_34 x4_34 x5_34 ls H locs hf hP hD hS hl
      have hf : fX12_ticks_l34 N mmI mm_sumFromF mm_sumBehindF mm_codeSortF mm_codeValueF mm_milesToldF mm_placesF mm_placeAtF mm_talkOfF mm_earsF mm_sharpOfF mm_rowOfF (xq_loop (fX12_ticks_l34 N mmI mm_sumFromF mm_sumBehindF mm_codeSortF mm_codeValueF mm_milesToldF mm_placesF mm_placeAtF mm_talkOfF mm_earsF mm_sharpOfF mm_rowOfF) n34) (mm_talkingOfF_34, mm_nightOfF_34, mm_askedF_34, mm_mileOfF_34, mm_roundsOfF_34, mm_stackL_34, mm_heardFromF_34, mm_keptManyF_34, mm_keptRowF_34, x1_34, x2_34, x3_34, x4_34, x5_34) = some (r0, r1, r2, r3, r4, r5, r6, r7, r8, r9) := hf
      unfold fX12_ticks_l34 at hf
      refine lv_iload hx hb dX12_ticks_34 (lv_at hl 5 rfl) ?_
      refine lv_aload_n hx hb dX12_ticks_36 rfl (lv_at hl 0 rfl) ?_
      refine va_get (D := (dC, dI)) (ci := 12) (v := .ref ((mmR 18))) (C := RX12) (T := TX12) (N := 70) hx hb hts hinX12 hown hK hP 0 rfl rfl 18 (by decide) hw2 (fun _ h9 => h9) rfl dX12_ticks_37 ?_
      refine lv_aload_n hx hb dX12_ticks_40 rfl (lv_at hl 0 rfl) ?_
      refine va_get (D := (dC, dI)) (ci := 12) (v := .int (mmI 13)) (C := RX12) (T := TX12) (N := 70) hx hb hts hinX12 hown hK hP 0 rfl rfl 13 (by decide) hw3 (fun _ h9 => h9) rfl dX12_ticks_41 ?_
      refine xq_iald hx hb hK hP 15 0 rfl rfl hf dX12_ticks_44 (fun v_1 hf => ?_)
      refine lv_icmp_ge (tgt := 90) hx hb dX12_ticks_45 (by decide) (fun c_ => ?_) (fun c_ => ?_)
      · have hf := xq_pos hf c_
        refine lv_iload_n hx hb dX12_ticks_90 rfl (lv_at hl 3 rfl) ?_
        refine lv_if_eq (tgt := 100) hx hb dX12_ticks_91 (by decide) (fun c_ => ?_) (fun c_ => ?_)
        · have hf := xq_pos hf c_
          exact b100 mm_talkingOfF_34 mm_nightOfF_34 mm_askedF_34 mm_mileOfF_34 mm_roundsOfF_34 mm_stackL_34 mm_heardFromF_34 mm_keptManyF_34 mm_keptRowF_34 x1_34 x4_34 _ _ _ hf hP hD hS (lv_sub hl [0, 1, 4] rfl)
        · have hf := xq_neg hf c_
          refine lv_aload_n hx hb dX12_ticks_94 rfl (lv_at hl 0 rfl) ?_
          refine lv_iload_n hx hb dX12_ticks_95 rfl (lv_at hl 1 rfl) ?_
          refine lv_iload_n hx hb dX12_ticks_96 rfl (lv_at hl 2 rfl) ?_
          obtain ⟨⟨r_2_0, r_2_1, r_2_2⟩, h_3, hf⟩ := xq_bd_some hf
          refine xq_callV (As := [.int x1_34, .int x2_34]) (rest := []) (ci := 12) (q0 := 0) ⟨hx, hb, hml, hown, hts⟩ (kX12_counts l dC dI cI cB cJ cZ cM z ad N a_p0 mmI mmJ mmR mm_earsF mm_heardFromF_34 mm_sumFromF mm_nightOfF_34 mm_askedF_34 mm_sharpOfF mm_mileOfF_34 mm_milesToldF mm_sumBehindF mm_stackL_34 mm_codeSortF mm_codeValueF x1_34 x2_34 h_3) (cwV 2 hts gX12_ticks_X12_counts rfl rfl rfl (by decide +kernel) ⟨Nat.le_of_ble_eq_true rfl, Nat.le_of_ble_eq_true rfl⟩) hN hK hP hD hS hA [0, 15, 16, 2, 3, 4, 17, 5, 11, 7, 8, 9, 10] (by decide) rfl rfl rfl rfl rfl rfl hl.1 rfl (Nat.le_of_ble_eq_true rfl) dX12_ticks_97 ⟨Nat.zero_le _, Nat.zero_le _⟩ (fun H locs hP hD hS => ?_)
          have hP : va_P (dC, dI) vwCl [(a_p0, .inr (12, oX12 mmI mmJ mmR)), ((mmR 48), .inl (cI, 22, .inl mm_talkingOfF_34)), ((mmR 24), .inl (cI, 6, .inl mm_sumFromF)), ((mmR 45), .inl (cI, 22, .inl mm_nightOfF_34)), ((mmR 58), .inl (cI, 12, .inl r_2_1)), ((mmR 46), .inl (cI, 22, .inl mm_mileOfF_34)), ((mmR 47), .inl (cI, 22, .inl mm_roundsOfF_34)), ((mmR 25), .inl (cI, 6, .inl mm_sumBehindF)), ((mmR 57), .inl (cJ, 500, .inr (.inl r_2_2))), ((mmR 26), .inl (cI, 3200, .inl mm_codeSortF)), ((mmR 27), .inl (cI, 3200, .inl mm_codeValueF)), ((mmR 14), .inl (cI, 2, .inl mm_milesToldF)), ((mmR 21), .inl (cI, 2, .inl mm_placesF)), ((mmR 22), .inl (cI, 12, .inl mm_placeAtF)), ((mmR 51), .inl (cI, 132, .inl mm_talkOfF)), ((mmR 18), .inl (cI, 2, .inl mm_earsF)), ((mmR 59), .inl (cI, 70, .inl r_2_0)), ((mmR 20), .inl (cI, 14, .inl mm_sharpOfF)), ((mmR 50), .inl (cI, 154, .inl mm_rowOfF)), ((mmR 52), .inl (cI, 22, .inl mm_keptManyF_34)), ((mmR 53), .inl (cI, 2640, .inl mm_keptRowF_34))] H := hP
          have hD : va_D A [(a_p0, .inr (12, oX12 mmI mmJ mmR)), ((mmR 48), .inl (cI, 22, .inl mm_talkingOfF_34)), ((mmR 24), .inl (cI, 6, .inl mm_sumFromF)), ((mmR 45), .inl (cI, 22, .inl mm_nightOfF_34)), ((mmR 58), .inl (cI, 12, .inl r_2_1)), ((mmR 46), .inl (cI, 22, .inl mm_mileOfF_34)), ((mmR 47), .inl (cI, 22, .inl mm_roundsOfF_34)), ((mmR 25), .inl (cI, 6, .inl mm_sumBehindF)), ((mmR 57), .inl (cJ, 500, .inr (.inl r_2_2))), ((mmR 26), .inl (cI, 3200, .inl mm_codeSortF)), ((mmR 27), .inl (cI, 3200, .inl mm_codeValueF)), ((mmR 14), .inl (cI, 2, .inl mm_milesToldF)), ((mmR 21), .inl (cI, 2, .inl mm_placesF)), ((mmR 22), .inl (cI, 12, .inl mm_placeAtF)), ((mmR 51), .inl (cI, 132, .inl mm_talkOfF)), ((mmR 18), .inl (cI, 2, .inl mm_earsF)), ((mmR 59), .inl (cI, 70, .inl r_2_0)), ((mmR 20), .inl (cI, 14, .inl mm_sharpOfF)), ((mmR 50), .inl (cI, 154, .inl mm_rowOfF)), ((mmR 52), .inl (cI, 22, .inl mm_keptManyF_34)), ((mmR 53), .inl (cI, 2640, .inl mm_keptRowF_34))] := hD
          refine W.eq (g2 := F0 m 100 ls []) rfl ?_
          exact b100 mm_talkingOfF_34 mm_nightOfF_34 r_2_1 mm_mileOfF_34 mm_roundsOfF_34 r_2_2 r_2_0 mm_keptManyF_34 mm_keptRowF_34 x1_34 x4_34 _ _ _ hf hP hD hS (lv_sub hl [0, 1, 4] rfl)
      · have hf := xq_neg hf c_
        refine lv_iload hx hb dX12_ticks_48 (lv_at hl 4 rfl) ?_
        refine lv_aload_n hx hb dX12_ticks_50 rfl (lv_at hl 0 rfl) ?_
        refine lv_iload_n hx hb dX12_ticks_51 rfl (lv_at hl 1 rfl) ?_
        refine lv_iload hx hb dX12_ticks_52 (lv_at hl 5 rfl) ?_
        refine lv_aload_n hx hb dX12_ticks_54 rfl (lv_at hl 0 rfl) ?_
        refine va_get (D := (dC, dI)) (ci := 12) (v := .ref ((mmR 50))) (C := RX12) (T := TX12) (N := 70) hx hb hts hinX12 hown hK hP 0 rfl rfl 50 (by decide) hw4 (fun _ h9 => h9) rfl dX12_ticks_55 ?_
        refine lv_bipush (v := 7) hx hb dX12_ticks_58 (by decide) ?_
        refine lv_iload_n hx hb dX12_ticks_60 rfl (lv_at hl 1 rfl) ?_
        refine lv_imul hx hb dX12_ticks_61 ?_
        refine lv_iload hx hb dX12_ticks_62 (lv_at hl 5 rfl) ?_
        refine lv_iadd hx hb dX12_ticks_64 ?_
        refine xq_iald hx hb hK hP 18 0 rfl rfl hf dX12_ticks_65 (fun v_4 hf => ?_)
        refine lv_iload_n hx hb dX12_ticks_66 rfl (lv_at hl 2 rfl) ?_
        obtain ⟨⟨r_5_0, r_5_1, r_5_2⟩, h_6, hf⟩ := xq_bd_some hf
        refine xq_callV (As := [.int x1_34, .int x5_34, .int v_4, .int x2_34]) (rest := [.int x4_34]) (ci := 12) (q0 := 0) ⟨hx, hb, hml, hown, hts⟩ (kX12_isHeardIn l dC dI cI cB cJ cZ cM z ad N a_p0 mmI mmJ mmR mm_sumFromF mm_nightOfF_34 mm_askedF_34 mm_sharpOfF mm_mileOfF_34 mm_milesToldF mm_sumBehindF mm_stackL_34 mm_codeSortF mm_codeValueF x1_34 x5_34 v_4 x2_34 h_6) (cwV 4 hts gX12_ticks_X12_isHeardIn rfl rfl rfl (by decide +kernel) ⟨Nat.le_of_ble_eq_true rfl, Nat.le_of_ble_eq_true rfl⟩) hN hK hP hD hS hA [0, 2, 3, 4, 17, 5, 11, 7, 8, 9, 10] (by decide) rfl rfl rfl rfl rfl rfl hl.1 rfl (Nat.le_of_ble_eq_true rfl) dX12_ticks_67 ⟨Nat.zero_le _, Nat.zero_le _⟩ (fun H locs hP hD hS => ?_)
        have hP : va_P (dC, dI) vwCl [(a_p0, .inr (12, oX12 mmI mmJ mmR)), ((mmR 48), .inl (cI, 22, .inl mm_talkingOfF_34)), ((mmR 24), .inl (cI, 6, .inl mm_sumFromF)), ((mmR 45), .inl (cI, 22, .inl mm_nightOfF_34)), ((mmR 58), .inl (cI, 12, .inl r_5_1)), ((mmR 46), .inl (cI, 22, .inl mm_mileOfF_34)), ((mmR 47), .inl (cI, 22, .inl mm_roundsOfF_34)), ((mmR 25), .inl (cI, 6, .inl mm_sumBehindF)), ((mmR 57), .inl (cJ, 500, .inr (.inl r_5_2))), ((mmR 26), .inl (cI, 3200, .inl mm_codeSortF)), ((mmR 27), .inl (cI, 3200, .inl mm_codeValueF)), ((mmR 14), .inl (cI, 2, .inl mm_milesToldF)), ((mmR 21), .inl (cI, 2, .inl mm_placesF)), ((mmR 22), .inl (cI, 12, .inl mm_placeAtF)), ((mmR 51), .inl (cI, 132, .inl mm_talkOfF)), ((mmR 18), .inl (cI, 2, .inl mm_earsF)), ((mmR 59), .inl (cI, 70, .inl mm_heardFromF_34)), ((mmR 20), .inl (cI, 14, .inl mm_sharpOfF)), ((mmR 50), .inl (cI, 154, .inl mm_rowOfF)), ((mmR 52), .inl (cI, 22, .inl mm_keptManyF_34)), ((mmR 53), .inl (cI, 2640, .inl mm_keptRowF_34))] H := hP
        have hD : va_D A [(a_p0, .inr (12, oX12 mmI mmJ mmR)), ((mmR 48), .inl (cI, 22, .inl mm_talkingOfF_34)), ((mmR 24), .inl (cI, 6, .inl mm_sumFromF)), ((mmR 45), .inl (cI, 22, .inl mm_nightOfF_34)), ((mmR 58), .inl (cI, 12, .inl r_5_1)), ((mmR 46), .inl (cI, 22, .inl mm_mileOfF_34)), ((mmR 47), .inl (cI, 22, .inl mm_roundsOfF_34)), ((mmR 25), .inl (cI, 6, .inl mm_sumBehindF)), ((mmR 57), .inl (cJ, 500, .inr (.inl r_5_2))), ((mmR 26), .inl (cI, 3200, .inl mm_codeSortF)), ((mmR 27), .inl (cI, 3200, .inl mm_codeValueF)), ((mmR 14), .inl (cI, 2, .inl mm_milesToldF)), ((mmR 21), .inl (cI, 2, .inl mm_placesF)), ((mmR 22), .inl (cI, 12, .inl mm_placeAtF)), ((mmR 51), .inl (cI, 132, .inl mm_talkOfF)), ((mmR 18), .inl (cI, 2, .inl mm_earsF)), ((mmR 59), .inl (cI, 70, .inl mm_heardFromF_34)), ((mmR 20), .inl (cI, 14, .inl mm_sharpOfF)), ((mmR 50), .inl (cI, 154, .inl mm_rowOfF)), ((mmR 52), .inl (cI, 22, .inl mm_keptManyF_34)), ((mmR 53), .inl (cI, 2640, .inl mm_keptRowF_34))] := hD
        refine W.eq (g2 := F0 m 70 ls [.int r_5_0, .int x4_34]) rfl ?_
        refine lv_if_eq (tgt := 80) hx hb dX12_ticks_70 (by decide) (fun c_ => ?_) (fun c_ => ?_)
        · have hf := xq_pos hf c_
          refine lv_iconst (v := 0) hx hb dX12_ticks_80 (by decide) ?_
          exact b81 mm_talkingOfF_34 mm_nightOfF_34 r_5_1 mm_mileOfF_34 mm_roundsOfF_34 r_5_2 mm_heardFromF_34 mm_keptManyF_34 mm_keptRowF_34 x1_34 x2_34 x3_34 x5_34 x4_34 0 _ _ _ hf hP hD hS (lv_sub hl [0, 1, 2, 3, 5] rfl)
        · have hf := xq_neg hf c_
          refine lv_iconst (v := 1) hx hb dX12_ticks_73 (by decide) ?_
          refine lv_iload hx hb dX12_ticks_74 (lv_at hl 5 rfl) ?_
          refine lv_ishl hx hb dX12_ticks_76 ?_
          refine lv_goto (tgt := 81) hx hb dX12_ticks_77 (by decide) ?_
          exact b81 mm_talkingOfF_34 mm_nightOfF_34 r_5_1 mm_mileOfF_34 mm_roundsOfF_34 r_5_2 mm_heardFromF_34 mm_keptManyF_34 mm_keptRowF_34 x1_34 x2_34 x3_34 x5_34 x4_34 (1 <<< (x5_34 &&& 31)) _ _ _ hf hP hD hS (lv_sub hl [0, 1, 2, 3, 5] rfl)
  have b28 : ∀ (mm_talkingOfF_28 : Nat → Int32) (mm_nightOfF_28 : Nat → Int32) (mm_askedF_28 : Nat → Int32) (mm_mileOfF_28 : Nat → Int32) (mm_roundsOfF_28 : Nat → Int32) (mm_stackL_28 : Nat → Int64) (mm_heardFromF_28 : Nat → Int32) (mm_keptManyF_28 : Nat → Int32) (mm_keptRowF_28 : Nat → Int32) (x1_28 : Int32) (x2_28 : Int32) (x3_28 : Int32) (ls : Array Slot) (H : Heap) (locs : List Loc), fX12_ticks_b28 N mmI mm_sumFromF mm_sumBehindF mm_codeSortF mm_codeValueF mm_milesToldF mm_placesF mm_placeAtF mm_talkOfF mm_earsF mm_sharpOfF mm_rowOfF (mm_talkingOfF_28, mm_nightOfF_28, mm_askedF_28, mm_mileOfF_28, mm_roundsOfF_28, mm_stackL_28, mm_heardFromF_28, mm_keptManyF_28, mm_keptRowF_28, x1_28, x2_28, x3_28) = some (r0, r1, r2, r3, r4, r5, r6, r7, r8, r9) → va_P (dC, dI) vwCl [(a_p0, .inr (12, oX12 mmI mmJ mmR)), ((mmR 48), .inl (cI, 22, .inl mm_talkingOfF_28)), ((mmR 24), .inl (cI, 6, .inl mm_sumFromF)), ((mmR 45), .inl (cI, 22, .inl mm_nightOfF_28)), ((mmR 58), .inl (cI, 12, .inl mm_askedF_28)), ((mmR 46), .inl (cI, 22, .inl mm_mileOfF_28)), ((mmR 47), .inl (cI, 22, .inl mm_roundsOfF_28)), ((mmR 25), .inl (cI, 6, .inl mm_sumBehindF)), ((mmR 57), .inl (cJ, 500, .inr (.inl mm_stackL_28))), ((mmR 26), .inl (cI, 3200, .inl mm_codeSortF)), ((mmR 27), .inl (cI, 3200, .inl mm_codeValueF)), ((mmR 14), .inl (cI, 2, .inl mm_milesToldF)), ((mmR 21), .inl (cI, 2, .inl mm_placesF)), ((mmR 22), .inl (cI, 12, .inl mm_placeAtF)), ((mmR 51), .inl (cI, 132, .inl mm_talkOfF)), ((mmR 18), .inl (cI, 2, .inl mm_earsF)), ((mmR 59), .inl (cI, 70, .inl mm_heardFromF_28)), ((mmR 20), .inl (cI, 14, .inl mm_sharpOfF)), ((mmR 50), .inl (cI, 154, .inl mm_rowOfF)), ((mmR 52), .inl (cI, 22, .inl mm_keptManyF_28)), ((mmR 53), .inl (cI, 2640, .inl mm_keptRowF_28))] H → va_D A [(a_p0, .inr (12, oX12 mmI mmJ mmR)), ((mmR 48), .inl (cI, 22, .inl mm_talkingOfF_28)), ((mmR 24), .inl (cI, 6, .inl mm_sumFromF)), ((mmR 45), .inl (cI, 22, .inl mm_nightOfF_28)), ((mmR 58), .inl (cI, 12, .inl mm_askedF_28)), ((mmR 46), .inl (cI, 22, .inl mm_mileOfF_28)), ((mmR 47), .inl (cI, 22, .inl mm_roundsOfF_28)), ((mmR 25), .inl (cI, 6, .inl mm_sumBehindF)), ((mmR 57), .inl (cJ, 500, .inr (.inl mm_stackL_28))), ((mmR 26), .inl (cI, 3200, .inl mm_codeSortF)), ((mmR 27), .inl (cI, 3200, .inl mm_codeValueF)), ((mmR 14), .inl (cI, 2, .inl mm_milesToldF)), ((mmR 21), .inl (cI, 2, .inl mm_placesF)), ((mmR 22), .inl (cI, 12, .inl mm_placeAtF)), ((mmR 51), .inl (cI, 132, .inl mm_talkOfF)), ((mmR 18), .inl (cI, 2, .inl mm_earsF)), ((mmR 59), .inl (cI, 70, .inl mm_heardFromF_28)), ((mmR 20), .inl (cI, 14, .inl mm_sharpOfF)), ((mmR 50), .inl (cI, 154, .inl mm_rowOfF)), ((mmR 52), .inl (cI, 22, .inl mm_keptManyF_28)), ((mmR 53), .inl (cI, 2640, .inl mm_keptRowF_28))] → va_S A s.heap H locs → lv_has ls 6 [(0, .ref a_p0), (1, .int x1_28), (2, .int x2_28), (3, .int x3_28)] → W p l e (headSpec wsX12_ticks { frames := 5, cells := 0, slots := 0, locals := 121 }).room s m [.ref a_p0, .int p1, .int p2, .int p3].toArray below meth c H locs 0 0 (MQ below (xq_Q (dC, dI) vwCl (xq_tys cI cB cJ cZ cM) A [(a_p0, .inr (12, oX12 mmI mmJ mmR)), ((mmR 48), .inl (cI, 22, .inl r1)), ((mmR 24), .inl (cI, 6, .inl mm_sumFromF)), ((mmR 45), .inl (cI, 22, .inl r2)), ((mmR 58), .inl (cI, 12, .inl r3)), ((mmR 46), .inl (cI, 22, .inl r4)), ((mmR 47), .inl (cI, 22, .inl r5)), ((mmR 25), .inl (cI, 6, .inl mm_sumBehindF)), ((mmR 57), .inl (cJ, 500, .inr (.inl r6))), ((mmR 26), .inl (cI, 3200, .inl mm_codeSortF)), ((mmR 27), .inl (cI, 3200, .inl mm_codeValueF)), ((mmR 14), .inl (cI, 2, .inl mm_milesToldF)), ((mmR 21), .inl (cI, 2, .inl mm_placesF)), ((mmR 22), .inl (cI, 12, .inl mm_placeAtF)), ((mmR 51), .inl (cI, 132, .inl mm_talkOfF)), ((mmR 18), .inl (cI, 2, .inl mm_earsF)), ((mmR 59), .inl (cI, 70, .inl r7)), ((mmR 20), .inl (cI, 14, .inl mm_sharpOfF)), ((mmR 50), .inl (cI, 154, .inl mm_rowOfF)), ((mmR 52), .inl (cI, 22, .inl r8)), ((mmR 53), .inl (cI, 2640, .inl r9))] (some (.int r0))) [.ref a_p0, .int p1, .int p2, .int p3].toArray s 0 0 A) (F0 m 28 ls []) := by
    intro mm_talkingOfF_28 mm_nightOfF_28 mm_askedF_28 mm_mileOfF_28 mm_roundsOfF_28 mm_stackL_28 mm_heardFromF_28 mm_keptManyF_28 mm_keptRowF_28 x1_28 x2_28 x3_28 ls H locs hf hP hD hS hl
    unfold fX12_ticks_b28 at hf
    refine lv_iconst (v := 0) hx hb dX12_ticks_28 (by decide) ?_
    refine lv_istore (lv' := [(4, .int 0), (0, .ref a_p0), (1, .int x1_28), (2, .int x2_28), (3, .int x3_28)]) hx hb dX12_ticks_29 hl (by decide) rfl (fun ls hl => ?_)
    refine lv_iconst (v := 0) hx hb dX12_ticks_31 (by decide) ?_
    refine lv_istore (lv' := [(5, .int 0), (4, .int 0), (0, .ref a_p0), (1, .int x1_28), (2, .int x2_28), (3, .int x3_28)]) hx hb dX12_ticks_32 hl (by decide) rfl (fun ls hl => ?_)
    exact l34 N mm_talkingOfF_28 mm_nightOfF_28 mm_askedF_28 mm_mileOfF_28 mm_roundsOfF_28 mm_stackL_28 mm_heardFromF_28 mm_keptManyF_28 mm_keptRowF_28 x1_28 x2_28 x3_28 0 0 _ _ _ hf hP hD hS (lv_sub hl [2, 3, 4, 5, 1, 0] rfl)
  unfold fX12_ticks at hf
  refine lv_aload_n hx hb dX12_ticks_0 rfl (lv_at hl 0 rfl) ?_
  refine va_get (D := (dC, dI)) (ci := 12) (v := .ref ((mmR 48))) (C := RX12) (T := TX12) (N := 70) hx hb hts hinX12 hown hK hP 0 rfl rfl 48 (by decide) hw0 (fun _ h9 => h9) rfl dX12_ticks_1 ?_
  refine lv_iload_n hx hb dX12_ticks_4 rfl (lv_at hl 1 rfl) ?_
  refine xq_iald hx hb hK hP 1 0 rfl rfl hf dX12_ticks_5 (fun v_1 hf => ?_)
  refine lv_if_le (tgt := 22) hx hb dX12_ticks_6 (by decide) (fun c_ => ?_) (fun c_ => ?_)
  · have hf := xq_pos hf c_
    refine lv_aload_n hx hb dX12_ticks_22 rfl (lv_at hl 0 rfl) ?_
    refine lv_iload_n hx hb dX12_ticks_23 rfl (lv_at hl 1 rfl) ?_
    refine lv_iload_n hx hb dX12_ticks_24 rfl (lv_at hl 2 rfl) ?_
    obtain ⟨⟨r_2_0, r_2_1, r_2_2, r_2_3, r_2_4⟩, h_3, hf⟩ := xq_bd_some hf
    refine xq_callV (As := [.int p1, .int p2]) (rest := []) (ci := 12) (q0 := 0) ⟨hx, hb, hml, hown, hts⟩ (kX12_walks l dC dI cI cB cJ cZ cM z ad N a_p0 mmI mmJ mmR mm_sumFromF mm_nightOfF mm_askedF mm_mileOfF mm_roundsOfF mm_sumBehindF mm_stackL mm_codeSortF mm_codeValueF mm_milesToldF mm_placesF mm_placeAtF mm_talkOfF mm_talkingOfF p1 p2 h_3) (cwV 2 hts gX12_ticks_X12_walks rfl rfl rfl (by decide +kernel) ⟨Nat.le_of_ble_eq_true rfl, Nat.le_of_ble_eq_true rfl⟩) hN hK hP hD hS hA [0, 2, 3, 4, 5, 6, 7, 8, 9, 10, 11, 12, 13, 14, 1] (by decide) rfl rfl rfl rfl rfl rfl hl.1 rfl (Nat.le_of_ble_eq_true rfl) dX12_ticks_25 ⟨Nat.zero_le _, Nat.zero_le _⟩ (fun H locs hP hD hS => ?_)
    have hP : va_P (dC, dI) vwCl [(a_p0, .inr (12, oX12 mmI mmJ mmR)), ((mmR 48), .inl (cI, 22, .inl r_2_4)), ((mmR 24), .inl (cI, 6, .inl mm_sumFromF)), ((mmR 45), .inl (cI, 22, .inl mm_nightOfF)), ((mmR 58), .inl (cI, 12, .inl r_2_0)), ((mmR 46), .inl (cI, 22, .inl r_2_1)), ((mmR 47), .inl (cI, 22, .inl r_2_2)), ((mmR 25), .inl (cI, 6, .inl mm_sumBehindF)), ((mmR 57), .inl (cJ, 500, .inr (.inl r_2_3))), ((mmR 26), .inl (cI, 3200, .inl mm_codeSortF)), ((mmR 27), .inl (cI, 3200, .inl mm_codeValueF)), ((mmR 14), .inl (cI, 2, .inl mm_milesToldF)), ((mmR 21), .inl (cI, 2, .inl mm_placesF)), ((mmR 22), .inl (cI, 12, .inl mm_placeAtF)), ((mmR 51), .inl (cI, 132, .inl mm_talkOfF)), ((mmR 18), .inl (cI, 2, .inl mm_earsF)), ((mmR 59), .inl (cI, 70, .inl mm_heardFromF)), ((mmR 20), .inl (cI, 14, .inl mm_sharpOfF)), ((mmR 50), .inl (cI, 154, .inl mm_rowOfF)), ((mmR 52), .inl (cI, 22, .inl mm_keptManyF)), ((mmR 53), .inl (cI, 2640, .inl mm_keptRowF))] H := hP
    have hD : va_D A [(a_p0, .inr (12, oX12 mmI mmJ mmR)), ((mmR 48), .inl (cI, 22, .inl r_2_4)), ((mmR 24), .inl (cI, 6, .inl mm_sumFromF)), ((mmR 45), .inl (cI, 22, .inl mm_nightOfF)), ((mmR 58), .inl (cI, 12, .inl r_2_0)), ((mmR 46), .inl (cI, 22, .inl r_2_1)), ((mmR 47), .inl (cI, 22, .inl r_2_2)), ((mmR 25), .inl (cI, 6, .inl mm_sumBehindF)), ((mmR 57), .inl (cJ, 500, .inr (.inl r_2_3))), ((mmR 26), .inl (cI, 3200, .inl mm_codeSortF)), ((mmR 27), .inl (cI, 3200, .inl mm_codeValueF)), ((mmR 14), .inl (cI, 2, .inl mm_milesToldF)), ((mmR 21), .inl (cI, 2, .inl mm_placesF)), ((mmR 22), .inl (cI, 12, .inl mm_placeAtF)), ((mmR 51), .inl (cI, 132, .inl mm_talkOfF)), ((mmR 18), .inl (cI, 2, .inl mm_earsF)), ((mmR 59), .inl (cI, 70, .inl mm_heardFromF)), ((mmR 20), .inl (cI, 14, .inl mm_sharpOfF)), ((mmR 50), .inl (cI, 154, .inl mm_rowOfF)), ((mmR 52), .inl (cI, 22, .inl mm_keptManyF)), ((mmR 53), .inl (cI, 2640, .inl mm_keptRowF))] := hD
    refine W.eq (g2 := F0 m 28 ls []) rfl ?_
    exact b28 r_2_4 mm_nightOfF r_2_0 r_2_1 r_2_2 r_2_3 mm_heardFromF mm_keptManyF mm_keptRowF p1 p2 p3 _ _ _ hf hP hD hS (lv_sub hl [0, 1, 2, 3] rfl)
  · have hf := xq_neg hf c_
    refine lv_aload_n hx hb dX12_ticks_9 rfl (lv_at hl 0 rfl) ?_
    refine va_get (D := (dC, dI)) (ci := 12) (v := .ref ((mmR 48))) (C := RX12) (T := TX12) (N := 70) hx hb hts hinX12 hown hK hP 0 rfl rfl 48 (by decide) hw0 (fun _ h9 => h9) rfl dX12_ticks_10 ?_
    refine lv_iload_n hx hb dX12_ticks_13 rfl (lv_at hl 1 rfl) ?_
    refine lv_dup2_11 hx hb dX12_ticks_14 rfl rfl ?_
    refine xq_iald hx hb hK hP 1 0 rfl rfl hf dX12_ticks_15 (fun v_4 hf => ?_)
    refine lv_iconst (v := 1) hx hb dX12_ticks_16 (by decide) ?_
    refine lv_isub hx hb dX12_ticks_17 ?_
    refine xq_iast hx hb hK hP hD hS 1 0 rfl rfl hf dX12_ticks_18 (fun g_5 H locs hf hP hD hS => ?_)
    have hP : va_P (dC, dI) vwCl [(a_p0, .inr (12, oX12 mmI mmJ mmR)), ((mmR 48), .inl (cI, 22, .inl g_5)), ((mmR 24), .inl (cI, 6, .inl mm_sumFromF)), ((mmR 45), .inl (cI, 22, .inl mm_nightOfF)), ((mmR 58), .inl (cI, 12, .inl mm_askedF)), ((mmR 46), .inl (cI, 22, .inl mm_mileOfF)), ((mmR 47), .inl (cI, 22, .inl mm_roundsOfF)), ((mmR 25), .inl (cI, 6, .inl mm_sumBehindF)), ((mmR 57), .inl (cJ, 500, .inr (.inl mm_stackL))), ((mmR 26), .inl (cI, 3200, .inl mm_codeSortF)), ((mmR 27), .inl (cI, 3200, .inl mm_codeValueF)), ((mmR 14), .inl (cI, 2, .inl mm_milesToldF)), ((mmR 21), .inl (cI, 2, .inl mm_placesF)), ((mmR 22), .inl (cI, 12, .inl mm_placeAtF)), ((mmR 51), .inl (cI, 132, .inl mm_talkOfF)), ((mmR 18), .inl (cI, 2, .inl mm_earsF)), ((mmR 59), .inl (cI, 70, .inl mm_heardFromF)), ((mmR 20), .inl (cI, 14, .inl mm_sharpOfF)), ((mmR 50), .inl (cI, 154, .inl mm_rowOfF)), ((mmR 52), .inl (cI, 22, .inl mm_keptManyF)), ((mmR 53), .inl (cI, 2640, .inl mm_keptRowF))] H := hP
    have hD : va_D A [(a_p0, .inr (12, oX12 mmI mmJ mmR)), ((mmR 48), .inl (cI, 22, .inl g_5)), ((mmR 24), .inl (cI, 6, .inl mm_sumFromF)), ((mmR 45), .inl (cI, 22, .inl mm_nightOfF)), ((mmR 58), .inl (cI, 12, .inl mm_askedF)), ((mmR 46), .inl (cI, 22, .inl mm_mileOfF)), ((mmR 47), .inl (cI, 22, .inl mm_roundsOfF)), ((mmR 25), .inl (cI, 6, .inl mm_sumBehindF)), ((mmR 57), .inl (cJ, 500, .inr (.inl mm_stackL))), ((mmR 26), .inl (cI, 3200, .inl mm_codeSortF)), ((mmR 27), .inl (cI, 3200, .inl mm_codeValueF)), ((mmR 14), .inl (cI, 2, .inl mm_milesToldF)), ((mmR 21), .inl (cI, 2, .inl mm_placesF)), ((mmR 22), .inl (cI, 12, .inl mm_placeAtF)), ((mmR 51), .inl (cI, 132, .inl mm_talkOfF)), ((mmR 18), .inl (cI, 2, .inl mm_earsF)), ((mmR 59), .inl (cI, 70, .inl mm_heardFromF)), ((mmR 20), .inl (cI, 14, .inl mm_sharpOfF)), ((mmR 50), .inl (cI, 154, .inl mm_rowOfF)), ((mmR 52), .inl (cI, 22, .inl mm_keptManyF)), ((mmR 53), .inl (cI, 2640, .inl mm_keptRowF))] := hD
    refine lv_goto (tgt := 28) hx hb dX12_ticks_19 (by decide) ?_
    exact b28 g_5 mm_nightOfF mm_askedF mm_mileOfF mm_roundsOfF mm_stackL mm_heardFromF mm_keptManyF mm_keptRowF p1 p2 p3 _ _ _ hf hP hD hS (lv_sub hl [0, 1, 2, 3] rfl)
set_option maxRecDepth 20000 in
theorem ggX12_passes_X12_ticks : GoodIn wsX12_passes wsX12_ticks := goodIn_r _ [6, 7, 8, 9, 10, 11, 12, 13, 14, 5, 15, 16, 17, 18, 19, 20, 21, 22, 23, 24, 25, 26, 27, 28, 29, 30, 31, 32, 33, 34, 35, 36, 37, 38, 39, 40, 41, 42, 43, 44, 45, 46, 47, 48, 49, 50, 51, 52, 53, 54, 55, 56, 57, 58, 59, 60, 61, 62, 63, 64, 65, 66, 67, 68, 69, 70, 71, 72, 73, 74, 75, 76, 77, 78, 79, 80, 81, 82, 83, 84, 85, 86, 87, 88, 89, 90, 91, 92, 93, 94, 95, 96, 97, 98, 99, 100, 101, 102, 103, 104, 105, 106, 107, 108, 109, 110, 111, 112, 113, 114, 115, 116, 117, 118, 119, 120, 121, 122, 123, 124, 125, 126, 127, 128, 129, 130, 131, 132, 133, 134, 135, 136, 137, 138, 139, 140, 141, 142, 143, 144, 145, 146, 147, 148, 149, 150, 151] rfl (by decide +kernel)
set_option maxRecDepth 20000 in
theorem gX12_passes_X12_ticks : GoodIn wsX12_passes (wsV RX12 450 RX12 yX12_ticks wsX12_ticks) := goodIn_app (goodIn_of _ (by decide +kernel)) ggX12_passes_X12_ticks
def dsX12_passes_0 : List (Nat × Instr × Nat) := [(0, (.aload_n 0, 1)), (1, (.iload_n 1, 1)), (2, (.aload_n 0, 1)), (3, (.getfield 162, 3)), (6, (.iload_n 1, 1)), (7, (.iaload, 1)), (8, (.iconst 0, 1)), (9, (.invokevirtual 450, 3)), (12, (.ireturn, 1))]
theorem dsX12_passes_0_ok : (dsX12_passes_0.all fun q => decide (decode cX12_passes q.1 = .ok q.2)) = true := by decide +kernel
theorem dX12_passes_0 : decode cX12_passes 0 = .ok (.aload_n 0, 1) := of_decide_eq_true (List.all_eq_true.mp dsX12_passes_0_ok (0, (.aload_n 0, 1)) (List.mem_of_getElem? (i := 0) rfl))
theorem dX12_passes_1 : decode cX12_passes 1 = .ok (.iload_n 1, 1) := of_decide_eq_true (List.all_eq_true.mp dsX12_passes_0_ok (1, (.iload_n 1, 1)) (List.mem_of_getElem? (i := 1) rfl))
theorem dX12_passes_2 : decode cX12_passes 2 = .ok (.aload_n 0, 1) := of_decide_eq_true (List.all_eq_true.mp dsX12_passes_0_ok (2, (.aload_n 0, 1)) (List.mem_of_getElem? (i := 2) rfl))
theorem dX12_passes_3 : decode cX12_passes 3 = .ok (.getfield 162, 3) := of_decide_eq_true (List.all_eq_true.mp dsX12_passes_0_ok (3, (.getfield 162, 3)) (List.mem_of_getElem? (i := 3) rfl))
theorem dX12_passes_6 : decode cX12_passes 6 = .ok (.iload_n 1, 1) := of_decide_eq_true (List.all_eq_true.mp dsX12_passes_0_ok (6, (.iload_n 1, 1)) (List.mem_of_getElem? (i := 4) rfl))
theorem dX12_passes_7 : decode cX12_passes 7 = .ok (.iaload, 1) := of_decide_eq_true (List.all_eq_true.mp dsX12_passes_0_ok (7, (.iaload, 1)) (List.mem_of_getElem? (i := 5) rfl))
theorem dX12_passes_8 : decode cX12_passes 8 = .ok (.iconst 0, 1) := of_decide_eq_true (List.all_eq_true.mp dsX12_passes_0_ok (8, (.iconst 0, 1)) (List.mem_of_getElem? (i := 6) rfl))
theorem dX12_passes_9 : decode cX12_passes 9 = .ok (.invokevirtual 450, 3) := of_decide_eq_true (List.all_eq_true.mp dsX12_passes_0_ok (9, (.invokevirtual 450, 3)) (List.mem_of_getElem? (i := 7) rfl))
theorem dX12_passes_12 : decode cX12_passes 12 = .ok (.ireturn, 1) := of_decide_eq_true (List.all_eq_true.mp dsX12_passes_0_ok (12, (.ireturn, 1)) (List.mem_of_getElem? (i := 8) rfl))
def fX12_passes (N : Nat) (mmI : Nat → Int32) (mm_hushOfF : Nat → Int32) (mm_talkingOfF : Nat → Int32) (mm_sumFromF : Nat → Int32) (mm_nightOfF : Nat → Int32) (mm_askedF : Nat → Int32) (mm_mileOfF : Nat → Int32) (mm_roundsOfF : Nat → Int32) (mm_sumBehindF : Nat → Int32) (mm_stackL : Nat → Int64) (mm_codeSortF : Nat → Int32) (mm_codeValueF : Nat → Int32) (mm_milesToldF : Nat → Int32) (mm_placesF : Nat → Int32) (mm_placeAtF : Nat → Int32) (mm_talkOfF : Nat → Int32) (mm_earsF : Nat → Int32) (mm_heardFromF : Nat → Int32) (mm_sharpOfF : Nat → Int32) (mm_rowOfF : Nat → Int32) (mm_keptManyF : Nat → Int32) (mm_keptRowF : Nat → Int32)  (p1 : Int32) : Option (Int32 × (Nat → Int32) × (Nat → Int32) × (Nat → Int32) × (Nat → Int32) × (Nat → Int32) × (Nat → Int64) × (Nat → Int32) × (Nat → Int32) × (Nat → Int32)) :=
  (xq_bd (xq_ald 22 mm_hushOfF p1) fun v_1 => (xq_bd (fX12_ticks N mmI mm_talkingOfF mm_sumFromF mm_nightOfF mm_askedF mm_mileOfF mm_roundsOfF mm_sumBehindF mm_stackL mm_codeSortF mm_codeValueF mm_milesToldF mm_placesF mm_placeAtF mm_talkOfF mm_earsF mm_heardFromF mm_sharpOfF mm_rowOfF mm_keptManyF mm_keptRowF p1 v_1 0) fun (r_2_0, r_2_1, r_2_2, r_2_3, r_2_4, r_2_5, r_2_6, r_2_7, r_2_8, r_2_9) => some ((r_2_0, r_2_1, r_2_2, r_2_3, r_2_4, r_2_5, r_2_6, r_2_7, r_2_8, r_2_9))))
set_option maxHeartbeats 4000000 in
set_option maxRecDepth 100000 in
theorem kX12_passes (l : Launch) (dC : Nat → ClassId) (dI : Nat → Nat → Nat) (cI cB cJ cZ cM : ClassId) (z : Nat) (ad : Nat → Nat) (N : Nat) (a_p0 : Nat) (mmI : Nat → Int32) (mmJ : Nat → Int64) (mmR : Nat → Nat) (mm_hushOfF : Nat → Int32) (mm_talkingOfF : Nat → Int32) (mm_sumFromF : Nat → Int32) (mm_nightOfF : Nat → Int32) (mm_askedF : Nat → Int32) (mm_mileOfF : Nat → Int32) (mm_roundsOfF : Nat → Int32) (mm_sumBehindF : Nat → Int32) (mm_stackL : Nat → Int64) (mm_codeSortF : Nat → Int32) (mm_codeValueF : Nat → Int32) (mm_milesToldF : Nat → Int32) (mm_placesF : Nat → Int32) (mm_placeAtF : Nat → Int32) (mm_talkOfF : Nat → Int32) (mm_earsF : Nat → Int32) (mm_heardFromF : Nat → Int32) (mm_sharpOfF : Nat → Int32) (mm_rowOfF : Nat → Int32) (mm_keptManyF : Nat → Int32) (mm_keptRowF : Nat → Int32) (p1 : Int32) {r0 : Int32} {r1 : Nat → Int32} {r2 : Nat → Int32} {r3 : Nat → Int32} {r4 : Nat → Int32} {r5 : Nat → Int32} {r6 : Nat → Int64} {r7 : Nat → Int32} {r8 : Nat → Int32} {r9 : Nat → Int32} (hf : fX12_passes N mmI mm_hushOfF mm_talkingOfF mm_sumFromF mm_nightOfF mm_askedF mm_mileOfF mm_roundsOfF mm_sumBehindF mm_stackL mm_codeSortF mm_codeValueF mm_milesToldF mm_placesF mm_placeAtF mm_talkOfF mm_earsF mm_heardFromF mm_sharpOfF mm_rowOfF mm_keptManyF mm_keptRowF p1 = some (r0, r1, r2, r3, r4, r5, r6, r7, r8, r9)) : xq_Ct l yX12_passes wsX12_passes { frames := 6, cells := 0, slots := 0, locals := 146 } (dC, dI) vwCl (xq_tys cI cB cJ cZ cM) z ad [.ref a_p0, .int p1] [(a_p0, .inr (12, oX12 mmI mmJ mmR)), ((mmR 49), .inl (cI, 22, .inl mm_hushOfF)), ((mmR 48), .inl (cI, 22, .inl mm_talkingOfF)), ((mmR 24), .inl (cI, 6, .inl mm_sumFromF)), ((mmR 45), .inl (cI, 22, .inl mm_nightOfF)), ((mmR 58), .inl (cI, 12, .inl mm_askedF)), ((mmR 46), .inl (cI, 22, .inl mm_mileOfF)), ((mmR 47), .inl (cI, 22, .inl mm_roundsOfF)), ((mmR 25), .inl (cI, 6, .inl mm_sumBehindF)), ((mmR 57), .inl (cJ, 500, .inr (.inl mm_stackL))), ((mmR 26), .inl (cI, 3200, .inl mm_codeSortF)), ((mmR 27), .inl (cI, 3200, .inl mm_codeValueF)), ((mmR 14), .inl (cI, 2, .inl mm_milesToldF)), ((mmR 21), .inl (cI, 2, .inl mm_placesF)), ((mmR 22), .inl (cI, 12, .inl mm_placeAtF)), ((mmR 51), .inl (cI, 132, .inl mm_talkOfF)), ((mmR 18), .inl (cI, 2, .inl mm_earsF)), ((mmR 59), .inl (cI, 70, .inl mm_heardFromF)), ((mmR 20), .inl (cI, 14, .inl mm_sharpOfF)), ((mmR 50), .inl (cI, 154, .inl mm_rowOfF)), ((mmR 52), .inl (cI, 22, .inl mm_keptManyF)), ((mmR 53), .inl (cI, 2640, .inl mm_keptRowF))] [(a_p0, .inr (12, oX12 mmI mmJ mmR)), ((mmR 49), .inl (cI, 22, .inl mm_hushOfF)), ((mmR 48), .inl (cI, 22, .inl r1)), ((mmR 24), .inl (cI, 6, .inl mm_sumFromF)), ((mmR 45), .inl (cI, 22, .inl r2)), ((mmR 58), .inl (cI, 12, .inl r3)), ((mmR 46), .inl (cI, 22, .inl r4)), ((mmR 47), .inl (cI, 22, .inl r5)), ((mmR 25), .inl (cI, 6, .inl mm_sumBehindF)), ((mmR 57), .inl (cJ, 500, .inr (.inl r6))), ((mmR 26), .inl (cI, 3200, .inl mm_codeSortF)), ((mmR 27), .inl (cI, 3200, .inl mm_codeValueF)), ((mmR 14), .inl (cI, 2, .inl mm_milesToldF)), ((mmR 21), .inl (cI, 2, .inl mm_placesF)), ((mmR 22), .inl (cI, 12, .inl mm_placeAtF)), ((mmR 51), .inl (cI, 132, .inl mm_talkOfF)), ((mmR 18), .inl (cI, 2, .inl mm_earsF)), ((mmR 59), .inl (cI, 70, .inl r7)), ((mmR 20), .inl (cI, 14, .inl mm_sharpOfF)), ((mmR 50), .inl (cI, 154, .inl mm_rowOfF)), ((mmR 52), .inl (cI, 22, .inl r8)), ((mmR 53), .inl (cI, 2640, .inl r9))] (some (.int r0)) := by
  intro sz
  refine Met.ofW (cc := cX12_passes) (maxL := 2) (ret := (some .int)) (by decide) rfl ?_
  intro p e s m args below meth c s₁ B hml hv
  obtain ⟨rfl, hsz, hP, hK, hD0, hE, hz⟩ := hv
  have hx := B.exec
  have hb := B.bytes
  have hr := B.returns
  have hts := atoms_spec (ws := wsX12_passes) B.pre
  have hown : s.vm.findClass RX12 = some m.cls := findClass_of_methodNamed B.named
  have hlocks := B.notSynchronized
  subst hsz
  have hD := hD0.self (sz := s.heap.size)
  have hN := xq_Env.of hE hz hD0
  generalize hAe : va_A [(a_p0, .inr (12, oX12 mmI mmJ mmR)), ((mmR 49), .inl (cI, 22, .inl mm_hushOfF)), ((mmR 48), .inl (cI, 22, .inl mm_talkingOfF)), ((mmR 24), .inl (cI, 6, .inl mm_sumFromF)), ((mmR 45), .inl (cI, 22, .inl mm_nightOfF)), ((mmR 58), .inl (cI, 12, .inl mm_askedF)), ((mmR 46), .inl (cI, 22, .inl mm_mileOfF)), ((mmR 47), .inl (cI, 22, .inl mm_roundsOfF)), ((mmR 25), .inl (cI, 6, .inl mm_sumBehindF)), ((mmR 57), .inl (cJ, 500, .inr (.inl mm_stackL))), ((mmR 26), .inl (cI, 3200, .inl mm_codeSortF)), ((mmR 27), .inl (cI, 3200, .inl mm_codeValueF)), ((mmR 14), .inl (cI, 2, .inl mm_milesToldF)), ((mmR 21), .inl (cI, 2, .inl mm_placesF)), ((mmR 22), .inl (cI, 12, .inl mm_placeAtF)), ((mmR 51), .inl (cI, 132, .inl mm_talkOfF)), ((mmR 18), .inl (cI, 2, .inl mm_earsF)), ((mmR 59), .inl (cI, 70, .inl mm_heardFromF)), ((mmR 20), .inl (cI, 14, .inl mm_sharpOfF)), ((mmR 50), .inl (cI, 154, .inl mm_rowOfF)), ((mmR 52), .inl (cI, 22, .inl mm_keptManyF)), ((mmR 53), .inl (cI, 2640, .inl mm_keptRowF))] s.heap.size = A at hD hN ⊢
  have hA : ∀ q : Nat, s.heap.size ≤ q → A q := fun q h => by rw [← hAe]; exact Or.inr h
  clear hAe hD0
  have hS : va_S A s.heap s.heap [] := va_S.rf
  have hl := lv_entry ([.ref a_p0, .int p1]) (n := 2) (Nat.le_of_ble_eq_true rfl)
  rw [lg_entry_eq]
  generalize (lg_sl ([.ref a_p0, .int p1]) ++ List.replicate (2 - (lg_sl ([.ref a_p0, .int p1])).length) Slot.unset).toArray = ls at hl ⊢
  have hl : lv_has ls 2 [(0, .ref a_p0), (1, .int p1)] := hl
  have hw0 := hts (.fieldLink RX12 162 "DistantVoiceModel" "hushOf" "[I") (by decide +kernel)
  have hinX12 : ∀ w ∈ wsX120, w ∈ wsX12_passes := fun w h => List.mem_cons_of_mem _ (List.mem_append_right _ h)
  unfold fX12_passes at hf
  refine lv_aload_n hx hb dX12_passes_0 rfl (lv_at hl 0 rfl) ?_
  refine lv_iload_n hx hb dX12_passes_1 rfl (lv_at hl 1 rfl) ?_
  refine lv_aload_n hx hb dX12_passes_2 rfl (lv_at hl 0 rfl) ?_
  refine va_get (D := (dC, dI)) (ci := 12) (v := .ref ((mmR 49))) (C := RX12) (T := TX12) (N := 70) hx hb hts hinX12 hown hK hP 0 rfl rfl 49 (by decide) hw0 (fun _ h9 => h9) rfl dX12_passes_3 ?_
  refine lv_iload_n hx hb dX12_passes_6 rfl (lv_at hl 1 rfl) ?_
  refine xq_iald hx hb hK hP 1 0 rfl rfl hf dX12_passes_7 (fun v_1 hf => ?_)
  refine lv_iconst (v := 0) hx hb dX12_passes_8 (by decide) ?_
  obtain ⟨⟨r_2_0, r_2_1, r_2_2, r_2_3, r_2_4, r_2_5, r_2_6, r_2_7, r_2_8, r_2_9⟩, h_3, hf⟩ := xq_bd_some hf
  refine xq_callV (As := [.int p1, .int v_1, .int 0]) (rest := []) (ci := 12) (q0 := 0) ⟨hx, hb, hml, hown, hts⟩ (kX12_ticks l dC dI cI cB cJ cZ cM z ad N a_p0 mmI mmJ mmR mm_talkingOfF mm_sumFromF mm_nightOfF mm_askedF mm_mileOfF mm_roundsOfF mm_sumBehindF mm_stackL mm_codeSortF mm_codeValueF mm_milesToldF mm_placesF mm_placeAtF mm_talkOfF mm_earsF mm_heardFromF mm_sharpOfF mm_rowOfF mm_keptManyF mm_keptRowF p1 v_1 0 h_3) (cwV 3 hts gX12_passes_X12_ticks rfl rfl rfl (by decide +kernel) ⟨Nat.le_of_ble_eq_true rfl, Nat.le_of_ble_eq_true rfl⟩) hN hK hP hD hS hA [0, 2, 3, 4, 5, 6, 7, 8, 9, 10, 11, 12, 13, 14, 15, 16, 17, 18, 19, 20, 21] (by decide) rfl rfl rfl rfl rfl rfl hl.1 rfl (Nat.le_of_ble_eq_true rfl) dX12_passes_9 ⟨Nat.zero_le _, Nat.zero_le _⟩ (fun H locs hP hD hS => ?_)
  have hP : va_P (dC, dI) vwCl [(a_p0, .inr (12, oX12 mmI mmJ mmR)), ((mmR 49), .inl (cI, 22, .inl mm_hushOfF)), ((mmR 48), .inl (cI, 22, .inl r_2_1)), ((mmR 24), .inl (cI, 6, .inl mm_sumFromF)), ((mmR 45), .inl (cI, 22, .inl r_2_2)), ((mmR 58), .inl (cI, 12, .inl r_2_3)), ((mmR 46), .inl (cI, 22, .inl r_2_4)), ((mmR 47), .inl (cI, 22, .inl r_2_5)), ((mmR 25), .inl (cI, 6, .inl mm_sumBehindF)), ((mmR 57), .inl (cJ, 500, .inr (.inl r_2_6))), ((mmR 26), .inl (cI, 3200, .inl mm_codeSortF)), ((mmR 27), .inl (cI, 3200, .inl mm_codeValueF)), ((mmR 14), .inl (cI, 2, .inl mm_milesToldF)), ((mmR 21), .inl (cI, 2, .inl mm_placesF)), ((mmR 22), .inl (cI, 12, .inl mm_placeAtF)), ((mmR 51), .inl (cI, 132, .inl mm_talkOfF)), ((mmR 18), .inl (cI, 2, .inl mm_earsF)), ((mmR 59), .inl (cI, 70, .inl r_2_7)), ((mmR 20), .inl (cI, 14, .inl mm_sharpOfF)), ((mmR 50), .inl (cI, 154, .inl mm_rowOfF)), ((mmR 52), .inl (cI, 22, .inl r_2_8)), ((mmR 53), .inl (cI, 2640, .inl r_2_9))] H := hP
  have hD : va_D A [(a_p0, .inr (12, oX12 mmI mmJ mmR)), ((mmR 49), .inl (cI, 22, .inl mm_hushOfF)), ((mmR 48), .inl (cI, 22, .inl r_2_1)), ((mmR 24), .inl (cI, 6, .inl mm_sumFromF)), ((mmR 45), .inl (cI, 22, .inl r_2_2)), ((mmR 58), .inl (cI, 12, .inl r_2_3)), ((mmR 46), .inl (cI, 22, .inl r_2_4)), ((mmR 47), .inl (cI, 22, .inl r_2_5)), ((mmR 25), .inl (cI, 6, .inl mm_sumBehindF)), ((mmR 57), .inl (cJ, 500, .inr (.inl r_2_6))), ((mmR 26), .inl (cI, 3200, .inl mm_codeSortF)), ((mmR 27), .inl (cI, 3200, .inl mm_codeValueF)), ((mmR 14), .inl (cI, 2, .inl mm_milesToldF)), ((mmR 21), .inl (cI, 2, .inl mm_placesF)), ((mmR 22), .inl (cI, 12, .inl mm_placeAtF)), ((mmR 51), .inl (cI, 132, .inl mm_talkOfF)), ((mmR 18), .inl (cI, 2, .inl mm_earsF)), ((mmR 59), .inl (cI, 70, .inl r_2_7)), ((mmR 20), .inl (cI, 14, .inl mm_sharpOfF)), ((mmR 50), .inl (cI, 154, .inl mm_rowOfF)), ((mmR 52), .inl (cI, 22, .inl r_2_8)), ((mmR 53), .inl (cI, 2640, .inl r_2_9))] := hD
  refine W.eq (g2 := F0 m 12 ls [.int r_2_0]) rfl ?_
  have e9 := Option.some.inj hf
  have e9_0 : r_2_0 = r0 := congrArg (fun t => t.1) e9
  have e9_1 : r_2_1 = r1 := congrArg (fun t => t.2.1) e9
  have e9_2 : r_2_2 = r2 := congrArg (fun t => t.2.2.1) e9
  have e9_3 : r_2_3 = r3 := congrArg (fun t => t.2.2.2.1) e9
  have e9_4 : r_2_4 = r4 := congrArg (fun t => t.2.2.2.2.1) e9
  have e9_5 : r_2_5 = r5 := congrArg (fun t => t.2.2.2.2.2.1) e9
  have e9_6 : r_2_6 = r6 := congrArg (fun t => t.2.2.2.2.2.2.1) e9
  have e9_7 : r_2_7 = r7 := congrArg (fun t => t.2.2.2.2.2.2.2.1) e9
  have e9_8 : r_2_8 = r8 := congrArg (fun t => t.2.2.2.2.2.2.2.2.1) e9
  have e9_9 : r_2_9 = r9 := congrArg (fun t => t.2.2.2.2.2.2.2.2.2) e9
  clear e9 hf
  subst e9_0
  subst e9_1
  subst e9_2
  subst e9_3
  subst e9_4
  subst e9_5
  subst e9_6
  subst e9_7
  subst e9_8
  subst e9_9
  exact xq_iret hx hb hr hlocks hK hP hD hS dX12_passes_12
set_option maxRecDepth 20000 in
theorem ggX12_runsOn_X12_passes : GoodIn wsX12_runsOn wsX12_passes := goodIn_r _ [5, 6, 7, 8, 9, 4, 10, 11, 12, 13, 14, 15, 16, 17, 18, 19, 20, 21, 22, 23, 24, 25, 26, 27, 28, 29, 30, 31, 32, 33, 34, 35, 36, 37, 38, 39, 40, 41, 42, 43, 44, 45, 46, 47, 48, 49, 50, 51, 52, 53, 54, 55, 56, 57, 58, 59, 60, 61, 62, 63, 64, 65, 66, 67, 68, 69, 70, 71, 72, 73, 74, 75, 76, 77, 78, 79, 80, 81, 82, 83, 84, 85, 86, 87, 88, 89, 90, 91, 92, 93, 94, 95, 96, 97, 98, 99, 100, 101, 102, 103, 104, 105, 106, 107, 108, 109, 110, 111, 112, 113, 114, 115, 116, 117, 118, 119, 120, 121, 122, 123, 124, 125, 126, 127, 128, 129, 130, 131, 132, 133, 134, 135, 136, 137, 138, 139, 140, 141, 142, 143, 144, 145, 146, 147, 148, 149, 150, 151, 152, 153, 154, 155] rfl (by decide +kernel)
set_option maxRecDepth 20000 in
theorem gX12_runsOn_X12_passes : GoodIn wsX12_runsOn (wsV RX12 462 RX12 yX12_passes wsX12_passes) := goodIn_app (goodIn_of _ (by decide +kernel)) ggX12_runsOn_X12_passes
def dsX12_runsOn_0 : List (Nat × Instr × Nat) := [(0, (.iconst 0, 1)), (1, (.istore_n 2, 1)), (2, (.iload_n 2, 1)), (3, (.iload_n 1, 1)), (4, (.if_icmp .ge 15, 3)), (7, (.aload_n 0, 1)), (8, (.iconst 1, 1)), (9, (.invokevirtual 462, 3)), (12, (.pop, 1)), (13, (.iinc 2 1, 3)), (16, (.goto (-14), 3)), (19, (.return_, 1))]
theorem dsX12_runsOn_0_ok : (dsX12_runsOn_0.all fun q => decide (decode cX12_runsOn q.1 = .ok q.2)) = true := by decide +kernel
theorem dX12_runsOn_0 : decode cX12_runsOn 0 = .ok (.iconst 0, 1) := of_decide_eq_true (List.all_eq_true.mp dsX12_runsOn_0_ok (0, (.iconst 0, 1)) (List.mem_of_getElem? (i := 0) rfl))
theorem dX12_runsOn_1 : decode cX12_runsOn 1 = .ok (.istore_n 2, 1) := of_decide_eq_true (List.all_eq_true.mp dsX12_runsOn_0_ok (1, (.istore_n 2, 1)) (List.mem_of_getElem? (i := 1) rfl))
theorem dX12_runsOn_2 : decode cX12_runsOn 2 = .ok (.iload_n 2, 1) := of_decide_eq_true (List.all_eq_true.mp dsX12_runsOn_0_ok (2, (.iload_n 2, 1)) (List.mem_of_getElem? (i := 2) rfl))
theorem dX12_runsOn_3 : decode cX12_runsOn 3 = .ok (.iload_n 1, 1) := of_decide_eq_true (List.all_eq_true.mp dsX12_runsOn_0_ok (3, (.iload_n 1, 1)) (List.mem_of_getElem? (i := 3) rfl))
theorem dX12_runsOn_4 : decode cX12_runsOn 4 = .ok (.if_icmp .ge 15, 3) := of_decide_eq_true (List.all_eq_true.mp dsX12_runsOn_0_ok (4, (.if_icmp .ge 15, 3)) (List.mem_of_getElem? (i := 4) rfl))
theorem dX12_runsOn_7 : decode cX12_runsOn 7 = .ok (.aload_n 0, 1) := of_decide_eq_true (List.all_eq_true.mp dsX12_runsOn_0_ok (7, (.aload_n 0, 1)) (List.mem_of_getElem? (i := 5) rfl))
theorem dX12_runsOn_8 : decode cX12_runsOn 8 = .ok (.iconst 1, 1) := of_decide_eq_true (List.all_eq_true.mp dsX12_runsOn_0_ok (8, (.iconst 1, 1)) (List.mem_of_getElem? (i := 6) rfl))
theorem dX12_runsOn_9 : decode cX12_runsOn 9 = .ok (.invokevirtual 462, 3) := of_decide_eq_true (List.all_eq_true.mp dsX12_runsOn_0_ok (9, (.invokevirtual 462, 3)) (List.mem_of_getElem? (i := 7) rfl))
theorem dX12_runsOn_12 : decode cX12_runsOn 12 = .ok (.pop, 1) := of_decide_eq_true (List.all_eq_true.mp dsX12_runsOn_0_ok (12, (.pop, 1)) (List.mem_of_getElem? (i := 8) rfl))
theorem dX12_runsOn_13 : decode cX12_runsOn 13 = .ok (.iinc 2 1, 3) := of_decide_eq_true (List.all_eq_true.mp dsX12_runsOn_0_ok (13, (.iinc 2 1, 3)) (List.mem_of_getElem? (i := 9) rfl))
theorem dX12_runsOn_16 : decode cX12_runsOn 16 = .ok (.goto (-14), 3) := of_decide_eq_true (List.all_eq_true.mp dsX12_runsOn_0_ok (16, (.goto (-14), 3)) (List.mem_of_getElem? (i := 10) rfl))
theorem dX12_runsOn_19 : decode cX12_runsOn 19 = .ok (.return_, 1) := of_decide_eq_true (List.all_eq_true.mp dsX12_runsOn_0_ok (19, (.return_, 1)) (List.mem_of_getElem? (i := 11) rfl))
def fX12_runsOn_l2 (N : Nat) (mmI : Nat → Int32) (mm_hushOfF : Nat → Int32) (mm_sumFromF : Nat → Int32) (mm_sumBehindF : Nat → Int32) (mm_codeSortF : Nat → Int32) (mm_codeValueF : Nat → Int32) (mm_milesToldF : Nat → Int32) (mm_placesF : Nat → Int32) (mm_placeAtF : Nat → Int32) (mm_talkOfF : Nat → Int32) (mm_earsF : Nat → Int32) (mm_sharpOfF : Nat → Int32) (mm_rowOfF : Nat → Int32)  (k2 : ((Nat → Int32) × (Nat → Int32) × (Nat → Int32) × (Nat → Int32) × (Nat → Int32) × (Nat → Int64) × (Nat → Int32) × (Nat → Int32) × (Nat → Int32) × Int32 × Int32) → Option ((Nat → Int32) × (Nat → Int32) × (Nat → Int32) × (Nat → Int32) × (Nat → Int32) × (Nat → Int64) × (Nat → Int32) × (Nat → Int32) × (Nat → Int32))) : ((Nat → Int32) × (Nat → Int32) × (Nat → Int32) × (Nat → Int32) × (Nat → Int32) × (Nat → Int64) × (Nat → Int32) × (Nat → Int32) × (Nat → Int32) × Int32 × Int32) → Option ((Nat → Int32) × (Nat → Int32) × (Nat → Int32) × (Nat → Int32) × (Nat → Int32) × (Nat → Int64) × (Nat → Int32) × (Nat → Int32) × (Nat → Int32)) :=
  fun (mm_talkingOfF_2, mm_nightOfF_2, mm_askedF_2, mm_mileOfF_2, mm_roundsOfF_2, mm_stackL_2, mm_heardFromF_2, mm_keptManyF_2, mm_keptRowF_2, x1_2, x2_2) => (if x1_2 ≤ x2_2 then some ((mm_talkingOfF_2, mm_nightOfF_2, mm_askedF_2, mm_mileOfF_2, mm_roundsOfF_2, mm_stackL_2, mm_heardFromF_2, mm_keptManyF_2, mm_keptRowF_2)) else (xq_bd (fX12_passes N mmI mm_hushOfF mm_talkingOfF_2 mm_sumFromF mm_nightOfF_2 mm_askedF_2 mm_mileOfF_2 mm_roundsOfF_2 mm_sumBehindF mm_stackL_2 mm_codeSortF mm_codeValueF mm_milesToldF mm_placesF mm_placeAtF mm_talkOfF mm_earsF mm_heardFromF_2 mm_sharpOfF mm_rowOfF mm_keptManyF_2 mm_keptRowF_2 1) fun (r_1_0, r_1_1, r_1_2, r_1_3, r_1_4, r_1_5, r_1_6, r_1_7, r_1_8, r_1_9) => k2 (r_1_1, r_1_2, r_1_3, r_1_4, r_1_5, r_1_6, r_1_7, r_1_8, r_1_9, x1_2, x2_2 + 1)))
def fX12_runsOn (N : Nat) (mmI : Nat → Int32) (mm_hushOfF : Nat → Int32) (mm_talkingOfF : Nat → Int32) (mm_sumFromF : Nat → Int32) (mm_nightOfF : Nat → Int32) (mm_askedF : Nat → Int32) (mm_mileOfF : Nat → Int32) (mm_roundsOfF : Nat → Int32) (mm_sumBehindF : Nat → Int32) (mm_stackL : Nat → Int64) (mm_codeSortF : Nat → Int32) (mm_codeValueF : Nat → Int32) (mm_milesToldF : Nat → Int32) (mm_placesF : Nat → Int32) (mm_placeAtF : Nat → Int32) (mm_talkOfF : Nat → Int32) (mm_earsF : Nat → Int32) (mm_heardFromF : Nat → Int32) (mm_sharpOfF : Nat → Int32) (mm_rowOfF : Nat → Int32) (mm_keptManyF : Nat → Int32) (mm_keptRowF : Nat → Int32)  (p1 : Int32) : Option ((Nat → Int32) × (Nat → Int32) × (Nat → Int32) × (Nat → Int32) × (Nat → Int32) × (Nat → Int64) × (Nat → Int32) × (Nat → Int32) × (Nat → Int32)) :=
  xq_loop (fX12_runsOn_l2 N mmI mm_hushOfF mm_sumFromF mm_sumBehindF mm_codeSortF mm_codeValueF mm_milesToldF mm_placesF mm_placeAtF mm_talkOfF mm_earsF mm_sharpOfF mm_rowOfF) N (mm_talkingOfF, mm_nightOfF, mm_askedF, mm_mileOfF, mm_roundsOfF, mm_stackL, mm_heardFromF, mm_keptManyF, mm_keptRowF, p1, 0)
set_option maxHeartbeats 4000000 in
set_option maxRecDepth 100000 in
theorem kX12_runsOn (l : Launch) (dC : Nat → ClassId) (dI : Nat → Nat → Nat) (cI cB cJ cZ cM : ClassId) (z : Nat) (ad : Nat → Nat) (N : Nat) (a_p0 : Nat) (mmI : Nat → Int32) (mmJ : Nat → Int64) (mmR : Nat → Nat) (mm_hushOfF : Nat → Int32) (mm_talkingOfF : Nat → Int32) (mm_sumFromF : Nat → Int32) (mm_nightOfF : Nat → Int32) (mm_askedF : Nat → Int32) (mm_mileOfF : Nat → Int32) (mm_roundsOfF : Nat → Int32) (mm_sumBehindF : Nat → Int32) (mm_stackL : Nat → Int64) (mm_codeSortF : Nat → Int32) (mm_codeValueF : Nat → Int32) (mm_milesToldF : Nat → Int32) (mm_placesF : Nat → Int32) (mm_placeAtF : Nat → Int32) (mm_talkOfF : Nat → Int32) (mm_earsF : Nat → Int32) (mm_heardFromF : Nat → Int32) (mm_sharpOfF : Nat → Int32) (mm_rowOfF : Nat → Int32) (mm_keptManyF : Nat → Int32) (mm_keptRowF : Nat → Int32) (p1 : Int32) {r0 : Nat → Int32} {r1 : Nat → Int32} {r2 : Nat → Int32} {r3 : Nat → Int32} {r4 : Nat → Int32} {r5 : Nat → Int64} {r6 : Nat → Int32} {r7 : Nat → Int32} {r8 : Nat → Int32} (hf : fX12_runsOn N mmI mm_hushOfF mm_talkingOfF mm_sumFromF mm_nightOfF mm_askedF mm_mileOfF mm_roundsOfF mm_sumBehindF mm_stackL mm_codeSortF mm_codeValueF mm_milesToldF mm_placesF mm_placeAtF mm_talkOfF mm_earsF mm_heardFromF mm_sharpOfF mm_rowOfF mm_keptManyF mm_keptRowF p1 = some (r0, r1, r2, r3, r4, r5, r6, r7, r8)) : xq_Ct l yX12_runsOn wsX12_runsOn { frames := 7, cells := 0, slots := 0, locals := 167 } (dC, dI) vwCl (xq_tys cI cB cJ cZ cM) z ad [.ref a_p0, .int p1] [(a_p0, .inr (12, oX12 mmI mmJ mmR)), ((mmR 49), .inl (cI, 22, .inl mm_hushOfF)), ((mmR 48), .inl (cI, 22, .inl mm_talkingOfF)), ((mmR 24), .inl (cI, 6, .inl mm_sumFromF)), ((mmR 45), .inl (cI, 22, .inl mm_nightOfF)), ((mmR 58), .inl (cI, 12, .inl mm_askedF)), ((mmR 46), .inl (cI, 22, .inl mm_mileOfF)), ((mmR 47), .inl (cI, 22, .inl mm_roundsOfF)), ((mmR 25), .inl (cI, 6, .inl mm_sumBehindF)), ((mmR 57), .inl (cJ, 500, .inr (.inl mm_stackL))), ((mmR 26), .inl (cI, 3200, .inl mm_codeSortF)), ((mmR 27), .inl (cI, 3200, .inl mm_codeValueF)), ((mmR 14), .inl (cI, 2, .inl mm_milesToldF)), ((mmR 21), .inl (cI, 2, .inl mm_placesF)), ((mmR 22), .inl (cI, 12, .inl mm_placeAtF)), ((mmR 51), .inl (cI, 132, .inl mm_talkOfF)), ((mmR 18), .inl (cI, 2, .inl mm_earsF)), ((mmR 59), .inl (cI, 70, .inl mm_heardFromF)), ((mmR 20), .inl (cI, 14, .inl mm_sharpOfF)), ((mmR 50), .inl (cI, 154, .inl mm_rowOfF)), ((mmR 52), .inl (cI, 22, .inl mm_keptManyF)), ((mmR 53), .inl (cI, 2640, .inl mm_keptRowF))] [(a_p0, .inr (12, oX12 mmI mmJ mmR)), ((mmR 49), .inl (cI, 22, .inl mm_hushOfF)), ((mmR 48), .inl (cI, 22, .inl r0)), ((mmR 24), .inl (cI, 6, .inl mm_sumFromF)), ((mmR 45), .inl (cI, 22, .inl r1)), ((mmR 58), .inl (cI, 12, .inl r2)), ((mmR 46), .inl (cI, 22, .inl r3)), ((mmR 47), .inl (cI, 22, .inl r4)), ((mmR 25), .inl (cI, 6, .inl mm_sumBehindF)), ((mmR 57), .inl (cJ, 500, .inr (.inl r5))), ((mmR 26), .inl (cI, 3200, .inl mm_codeSortF)), ((mmR 27), .inl (cI, 3200, .inl mm_codeValueF)), ((mmR 14), .inl (cI, 2, .inl mm_milesToldF)), ((mmR 21), .inl (cI, 2, .inl mm_placesF)), ((mmR 22), .inl (cI, 12, .inl mm_placeAtF)), ((mmR 51), .inl (cI, 132, .inl mm_talkOfF)), ((mmR 18), .inl (cI, 2, .inl mm_earsF)), ((mmR 59), .inl (cI, 70, .inl r6)), ((mmR 20), .inl (cI, 14, .inl mm_sharpOfF)), ((mmR 50), .inl (cI, 154, .inl mm_rowOfF)), ((mmR 52), .inl (cI, 22, .inl r7)), ((mmR 53), .inl (cI, 2640, .inl r8))] none := by
  intro sz
  refine Met.ofW (cc := cX12_runsOn) (maxL := 3) (ret := none) (by decide) rfl ?_
  intro p e s m args below meth c s₁ B hml hv
  obtain ⟨rfl, hsz, hP, hK, hD0, hE, hz⟩ := hv
  have hx := B.exec
  have hb := B.bytes
  have hr := B.returns
  have hts := atoms_spec (ws := wsX12_runsOn) B.pre
  have hown : s.vm.findClass RX12 = some m.cls := findClass_of_methodNamed B.named
  have hlocks := B.notSynchronized
  subst hsz
  have hD := hD0.self (sz := s.heap.size)
  have hN := xq_Env.of hE hz hD0
  generalize hAe : va_A [(a_p0, .inr (12, oX12 mmI mmJ mmR)), ((mmR 49), .inl (cI, 22, .inl mm_hushOfF)), ((mmR 48), .inl (cI, 22, .inl mm_talkingOfF)), ((mmR 24), .inl (cI, 6, .inl mm_sumFromF)), ((mmR 45), .inl (cI, 22, .inl mm_nightOfF)), ((mmR 58), .inl (cI, 12, .inl mm_askedF)), ((mmR 46), .inl (cI, 22, .inl mm_mileOfF)), ((mmR 47), .inl (cI, 22, .inl mm_roundsOfF)), ((mmR 25), .inl (cI, 6, .inl mm_sumBehindF)), ((mmR 57), .inl (cJ, 500, .inr (.inl mm_stackL))), ((mmR 26), .inl (cI, 3200, .inl mm_codeSortF)), ((mmR 27), .inl (cI, 3200, .inl mm_codeValueF)), ((mmR 14), .inl (cI, 2, .inl mm_milesToldF)), ((mmR 21), .inl (cI, 2, .inl mm_placesF)), ((mmR 22), .inl (cI, 12, .inl mm_placeAtF)), ((mmR 51), .inl (cI, 132, .inl mm_talkOfF)), ((mmR 18), .inl (cI, 2, .inl mm_earsF)), ((mmR 59), .inl (cI, 70, .inl mm_heardFromF)), ((mmR 20), .inl (cI, 14, .inl mm_sharpOfF)), ((mmR 50), .inl (cI, 154, .inl mm_rowOfF)), ((mmR 52), .inl (cI, 22, .inl mm_keptManyF)), ((mmR 53), .inl (cI, 2640, .inl mm_keptRowF))] s.heap.size = A at hD hN ⊢
  have hA : ∀ q : Nat, s.heap.size ≤ q → A q := fun q h => by rw [← hAe]; exact Or.inr h
  clear hAe hD0
  have hS : va_S A s.heap s.heap [] := va_S.rf
  have hl := lv_entry ([.ref a_p0, .int p1]) (n := 3) (Nat.le_of_ble_eq_true rfl)
  rw [lg_entry_eq]
  generalize (lg_sl ([.ref a_p0, .int p1]) ++ List.replicate (3 - (lg_sl ([.ref a_p0, .int p1])).length) Slot.unset).toArray = ls at hl ⊢
  have hl : lv_has ls 3 [(0, .ref a_p0), (1, .int p1)] := hl
  have l2 : ∀ n2 : Nat, ∀ (mm_talkingOfF_2 : Nat → Int32) (mm_nightOfF_2 : Nat → Int32) (mm_askedF_2 : Nat → Int32) (mm_mileOfF_2 : Nat → Int32) (mm_roundsOfF_2 : Nat → Int32) (mm_stackL_2 : Nat → Int64) (mm_heardFromF_2 : Nat → Int32) (mm_keptManyF_2 : Nat → Int32) (mm_keptRowF_2 : Nat → Int32) (x1_2 : Int32) (x2_2 : Int32) (ls : Array Slot) (H : Heap) (locs : List Loc), xq_loop (fX12_runsOn_l2 N mmI mm_hushOfF mm_sumFromF mm_sumBehindF mm_codeSortF mm_codeValueF mm_milesToldF mm_placesF mm_placeAtF mm_talkOfF mm_earsF mm_sharpOfF mm_rowOfF) n2 (mm_talkingOfF_2, mm_nightOfF_2, mm_askedF_2, mm_mileOfF_2, mm_roundsOfF_2, mm_stackL_2, mm_heardFromF_2, mm_keptManyF_2, mm_keptRowF_2, x1_2, x2_2) = some (r0, r1, r2, r3, r4, r5, r6, r7, r8) → va_P (dC, dI) vwCl [(a_p0, .inr (12, oX12 mmI mmJ mmR)), ((mmR 49), .inl (cI, 22, .inl mm_hushOfF)), ((mmR 48), .inl (cI, 22, .inl mm_talkingOfF_2)), ((mmR 24), .inl (cI, 6, .inl mm_sumFromF)), ((mmR 45), .inl (cI, 22, .inl mm_nightOfF_2)), ((mmR 58), .inl (cI, 12, .inl mm_askedF_2)), ((mmR 46), .inl (cI, 22, .inl mm_mileOfF_2)), ((mmR 47), .inl (cI, 22, .inl mm_roundsOfF_2)), ((mmR 25), .inl (cI, 6, .inl mm_sumBehindF)), ((mmR 57), .inl (cJ, 500, .inr (.inl mm_stackL_2))), ((mmR 26), .inl (cI, 3200, .inl mm_codeSortF)), ((mmR 27), .inl (cI, 3200, .inl mm_codeValueF)), ((mmR 14), .inl (cI, 2, .inl mm_milesToldF)), ((mmR 21), .inl (cI, 2, .inl mm_placesF)), ((mmR 22), .inl (cI, 12, .inl mm_placeAtF)), ((mmR 51), .inl (cI, 132, .inl mm_talkOfF)), ((mmR 18), .inl (cI, 2, .inl mm_earsF)), ((mmR 59), .inl (cI, 70, .inl mm_heardFromF_2)), ((mmR 20), .inl (cI, 14, .inl mm_sharpOfF)), ((mmR 50), .inl (cI, 154, .inl mm_rowOfF)), ((mmR 52), .inl (cI, 22, .inl mm_keptManyF_2)), ((mmR 53), .inl (cI, 2640, .inl mm_keptRowF_2))] H → va_D A [(a_p0, .inr (12, oX12 mmI mmJ mmR)), ((mmR 49), .inl (cI, 22, .inl mm_hushOfF)), ((mmR 48), .inl (cI, 22, .inl mm_talkingOfF_2)), ((mmR 24), .inl (cI, 6, .inl mm_sumFromF)), ((mmR 45), .inl (cI, 22, .inl mm_nightOfF_2)), ((mmR 58), .inl (cI, 12, .inl mm_askedF_2)), ((mmR 46), .inl (cI, 22, .inl mm_mileOfF_2)), ((mmR 47), .inl (cI, 22, .inl mm_roundsOfF_2)), ((mmR 25), .inl (cI, 6, .inl mm_sumBehindF)), ((mmR 57), .inl (cJ, 500, .inr (.inl mm_stackL_2))), ((mmR 26), .inl (cI, 3200, .inl mm_codeSortF)), ((mmR 27), .inl (cI, 3200, .inl mm_codeValueF)), ((mmR 14), .inl (cI, 2, .inl mm_milesToldF)), ((mmR 21), .inl (cI, 2, .inl mm_placesF)), ((mmR 22), .inl (cI, 12, .inl mm_placeAtF)), ((mmR 51), .inl (cI, 132, .inl mm_talkOfF)), ((mmR 18), .inl (cI, 2, .inl mm_earsF)), ((mmR 59), .inl (cI, 70, .inl mm_heardFromF_2)), ((mmR 20), .inl (cI, 14, .inl mm_sharpOfF)), ((mmR 50), .inl (cI, 154, .inl mm_rowOfF)), ((mmR 52), .inl (cI, 22, .inl mm_keptManyF_2)), ((mmR 53), .inl (cI, 2640, .inl mm_keptRowF_2))] → va_S A s.heap H locs → lv_has ls 3 [(0, .ref a_p0), (1, .int x1_2), (2, .int x2_2)] → W p l e (headSpec wsX12_runsOn { frames := 7, cells := 0, slots := 0, locals := 167 }).room s m [.ref a_p0, .int p1].toArray below meth c H locs 0 0 (MQ below (xq_Q (dC, dI) vwCl (xq_tys cI cB cJ cZ cM) A [(a_p0, .inr (12, oX12 mmI mmJ mmR)), ((mmR 49), .inl (cI, 22, .inl mm_hushOfF)), ((mmR 48), .inl (cI, 22, .inl r0)), ((mmR 24), .inl (cI, 6, .inl mm_sumFromF)), ((mmR 45), .inl (cI, 22, .inl r1)), ((mmR 58), .inl (cI, 12, .inl r2)), ((mmR 46), .inl (cI, 22, .inl r3)), ((mmR 47), .inl (cI, 22, .inl r4)), ((mmR 25), .inl (cI, 6, .inl mm_sumBehindF)), ((mmR 57), .inl (cJ, 500, .inr (.inl r5))), ((mmR 26), .inl (cI, 3200, .inl mm_codeSortF)), ((mmR 27), .inl (cI, 3200, .inl mm_codeValueF)), ((mmR 14), .inl (cI, 2, .inl mm_milesToldF)), ((mmR 21), .inl (cI, 2, .inl mm_placesF)), ((mmR 22), .inl (cI, 12, .inl mm_placeAtF)), ((mmR 51), .inl (cI, 132, .inl mm_talkOfF)), ((mmR 18), .inl (cI, 2, .inl mm_earsF)), ((mmR 59), .inl (cI, 70, .inl r6)), ((mmR 20), .inl (cI, 14, .inl mm_sharpOfF)), ((mmR 50), .inl (cI, 154, .inl mm_rowOfF)), ((mmR 52), .inl (cI, 22, .inl r7)), ((mmR 53), .inl (cI, 2640, .inl r8))] none) [.ref a_p0, .int p1].toArray s 0 0 A) (F0 m 2 ls []) := by
    intro n2
    induction n2 with
    | zero => intro mm_talkingOfF_2 mm_nightOfF_2 mm_askedF_2 mm_mileOfF_2 mm_roundsOfF_2 mm_stackL_2 mm_heardFromF_2 mm_keptManyF_2 mm_keptRowF_2 x1_2 x2_2 ls H locs hf; cases (show none = some (r0, r1, r2, r3, r4, r5, r6, r7, r8) from hf)
    | succ n2 ih2 =>
      intro mm_talkingOfF_2 mm_nightOfF_2 mm_askedF_2 mm_mileOfF_2 mm_roundsOfF_2 mm_stackL_2 mm_heardFromF_2 mm_keptManyF_2 mm_keptRowF_2 x1_2 x2_2 ls H locs hf hP hD hS hl
      have hf : fX12_runsOn_l2 N mmI mm_hushOfF mm_sumFromF mm_sumBehindF mm_codeSortF mm_codeValueF mm_milesToldF mm_placesF mm_placeAtF mm_talkOfF mm_earsF mm_sharpOfF mm_rowOfF (xq_loop (fX12_runsOn_l2 N mmI mm_hushOfF mm_sumFromF mm_sumBehindF mm_codeSortF mm_codeValueF mm_milesToldF mm_placesF mm_placeAtF mm_talkOfF mm_earsF mm_sharpOfF mm_rowOfF) n2) (mm_talkingOfF_2, mm_nightOfF_2, mm_askedF_2, mm_mileOfF_2, mm_roundsOfF_2, mm_stackL_2, mm_heardFromF_2, mm_keptManyF_2, mm_keptRowF_2, x1_2, x2_2) = some (r0, r1, r2, r3, r4, r5, r6, r7, r8) := hf
      unfold fX12_runsOn_l2 at hf
      refine lv_iload_n hx hb dX12_runsOn_2 rfl (lv_at hl 2 rfl) ?_
      refine lv_iload_n hx hb dX12_runsOn_3 rfl (lv_at hl 1 rfl) ?_
      refine lv_icmp_ge (tgt := 19) hx hb dX12_runsOn_4 (by decide) (fun c_ => ?_) (fun c_ => ?_)
      · have hf := xq_pos hf c_
        have e9 := Option.some.inj hf
        have e9_0 : mm_talkingOfF_2 = r0 := congrArg (fun t => t.1) e9
        have e9_1 : mm_nightOfF_2 = r1 := congrArg (fun t => t.2.1) e9
        have e9_2 : mm_askedF_2 = r2 := congrArg (fun t => t.2.2.1) e9
        have e9_3 : mm_mileOfF_2 = r3 := congrArg (fun t => t.2.2.2.1) e9
        have e9_4 : mm_roundsOfF_2 = r4 := congrArg (fun t => t.2.2.2.2.1) e9
        have e9_5 : mm_stackL_2 = r5 := congrArg (fun t => t.2.2.2.2.2.1) e9
        have e9_6 : mm_heardFromF_2 = r6 := congrArg (fun t => t.2.2.2.2.2.2.1) e9
        have e9_7 : mm_keptManyF_2 = r7 := congrArg (fun t => t.2.2.2.2.2.2.2.1) e9
        have e9_8 : mm_keptRowF_2 = r8 := congrArg (fun t => t.2.2.2.2.2.2.2.2) e9
        clear e9 hf
        try clear l2
        try clear ih2
        subst e9_0
        subst e9_1
        subst e9_2
        subst e9_3
        subst e9_4
        subst e9_5
        subst e9_6
        subst e9_7
        subst e9_8
        exact xq_vret hx hb hr hlocks hK hP hD hS dX12_runsOn_19
      · have hf := xq_neg hf c_
        refine lv_aload_n hx hb dX12_runsOn_7 rfl (lv_at hl 0 rfl) ?_
        refine lv_iconst (v := 1) hx hb dX12_runsOn_8 (by decide) ?_
        obtain ⟨⟨r_1_0, r_1_1, r_1_2, r_1_3, r_1_4, r_1_5, r_1_6, r_1_7, r_1_8, r_1_9⟩, h_2, hf⟩ := xq_bd_some hf
        refine xq_callV (As := [.int 1]) (rest := []) (ci := 12) (q0 := 0) ⟨hx, hb, hml, hown, hts⟩ (kX12_passes l dC dI cI cB cJ cZ cM z ad N a_p0 mmI mmJ mmR mm_hushOfF mm_talkingOfF_2 mm_sumFromF mm_nightOfF_2 mm_askedF_2 mm_mileOfF_2 mm_roundsOfF_2 mm_sumBehindF mm_stackL_2 mm_codeSortF mm_codeValueF mm_milesToldF mm_placesF mm_placeAtF mm_talkOfF mm_earsF mm_heardFromF_2 mm_sharpOfF mm_rowOfF mm_keptManyF_2 mm_keptRowF_2 1 h_2) (cwV 1 hts gX12_runsOn_X12_passes rfl rfl rfl (by decide +kernel) ⟨Nat.le_of_ble_eq_true rfl, Nat.le_of_ble_eq_true rfl⟩) hN hK hP hD hS hA [0, 1, 2, 3, 4, 5, 6, 7, 8, 9, 10, 11, 12, 13, 14, 15, 16, 17, 18, 19, 20, 21] (by decide) rfl rfl rfl rfl rfl rfl hl.1 rfl (Nat.le_of_ble_eq_true rfl) dX12_runsOn_9 ⟨Nat.zero_le _, Nat.zero_le _⟩ (fun H locs hP hD hS => ?_)
        have hP : va_P (dC, dI) vwCl [(a_p0, .inr (12, oX12 mmI mmJ mmR)), ((mmR 49), .inl (cI, 22, .inl mm_hushOfF)), ((mmR 48), .inl (cI, 22, .inl r_1_1)), ((mmR 24), .inl (cI, 6, .inl mm_sumFromF)), ((mmR 45), .inl (cI, 22, .inl r_1_2)), ((mmR 58), .inl (cI, 12, .inl r_1_3)), ((mmR 46), .inl (cI, 22, .inl r_1_4)), ((mmR 47), .inl (cI, 22, .inl r_1_5)), ((mmR 25), .inl (cI, 6, .inl mm_sumBehindF)), ((mmR 57), .inl (cJ, 500, .inr (.inl r_1_6))), ((mmR 26), .inl (cI, 3200, .inl mm_codeSortF)), ((mmR 27), .inl (cI, 3200, .inl mm_codeValueF)), ((mmR 14), .inl (cI, 2, .inl mm_milesToldF)), ((mmR 21), .inl (cI, 2, .inl mm_placesF)), ((mmR 22), .inl (cI, 12, .inl mm_placeAtF)), ((mmR 51), .inl (cI, 132, .inl mm_talkOfF)), ((mmR 18), .inl (cI, 2, .inl mm_earsF)), ((mmR 59), .inl (cI, 70, .inl r_1_7)), ((mmR 20), .inl (cI, 14, .inl mm_sharpOfF)), ((mmR 50), .inl (cI, 154, .inl mm_rowOfF)), ((mmR 52), .inl (cI, 22, .inl r_1_8)), ((mmR 53), .inl (cI, 2640, .inl r_1_9))] H := hP
        have hD : va_D A [(a_p0, .inr (12, oX12 mmI mmJ mmR)), ((mmR 49), .inl (cI, 22, .inl mm_hushOfF)), ((mmR 48), .inl (cI, 22, .inl r_1_1)), ((mmR 24), .inl (cI, 6, .inl mm_sumFromF)), ((mmR 45), .inl (cI, 22, .inl r_1_2)), ((mmR 58), .inl (cI, 12, .inl r_1_3)), ((mmR 46), .inl (cI, 22, .inl r_1_4)), ((mmR 47), .inl (cI, 22, .inl r_1_5)), ((mmR 25), .inl (cI, 6, .inl mm_sumBehindF)), ((mmR 57), .inl (cJ, 500, .inr (.inl r_1_6))), ((mmR 26), .inl (cI, 3200, .inl mm_codeSortF)), ((mmR 27), .inl (cI, 3200, .inl mm_codeValueF)), ((mmR 14), .inl (cI, 2, .inl mm_milesToldF)), ((mmR 21), .inl (cI, 2, .inl mm_placesF)), ((mmR 22), .inl (cI, 12, .inl mm_placeAtF)), ((mmR 51), .inl (cI, 132, .inl mm_talkOfF)), ((mmR 18), .inl (cI, 2, .inl mm_earsF)), ((mmR 59), .inl (cI, 70, .inl r_1_7)), ((mmR 20), .inl (cI, 14, .inl mm_sharpOfF)), ((mmR 50), .inl (cI, 154, .inl mm_rowOfF)), ((mmR 52), .inl (cI, 22, .inl r_1_8)), ((mmR 53), .inl (cI, 2640, .inl r_1_9))] := hD
        refine W.eq (g2 := F0 m 12 ls [.int r_1_0]) rfl ?_
        refine lv_pop hx hb dX12_runsOn_12 rfl ?_
        refine lv_iinc (v := x2_2 + 1) (lv' := [(2, .int (x2_2 + 1)), (0, .ref a_p0), (1, .int x1_2)]) hx hb dX12_runsOn_13 hl (k := 2) rfl (congrArg (fun q9 => x2_2 + q9) (by decide : Int32.ofInt 1 = 1)) (by decide) rfl (fun ls hl => ?_)
        refine lv_goto (tgt := 2) hx hb dX12_runsOn_16 (by decide) ?_
        exact ih2 r_1_1 r_1_2 r_1_3 r_1_4 r_1_5 r_1_6 r_1_7 r_1_8 r_1_9 x1_2 (x2_2 + 1) _ _ _ hf hP hD hS (lv_sub hl [1, 2, 0] rfl)
  unfold fX12_runsOn at hf
  refine lv_iconst (v := 0) hx hb dX12_runsOn_0 (by decide) ?_
  refine lv_istore_n (lv' := [(2, .int 0), (0, .ref a_p0), (1, .int p1)]) hx hb dX12_runsOn_1 rfl hl (by decide) rfl (fun ls hl => ?_)
  exact l2 N mm_talkingOfF mm_nightOfF mm_askedF mm_mileOfF mm_roundsOfF mm_stackL mm_heardFromF mm_keptManyF mm_keptRowF p1 0 _ _ _ hf hP hD hS (lv_sub hl [1, 2, 0] rfl)
def dsX12_isEar_0 : List (Nat × Instr × Nat) := [(0, (.iload_n 1, 1)), (1, (.ifCond .lt 20, 3)), (4, (.iload_n 1, 1)), (5, (.aload_n 0, 1)), (6, (.getfield 66, 3)), (9, (.aload_n 0, 1)), (10, (.getfield 51, 3)), (13, (.iaload, 1)), (14, (.if_icmp .ge 7, 3)), (17, (.iconst 1, 1)), (18, (.goto 4, 3)), (21, (.iconst 0, 1)), (22, (.ireturn, 1))]
theorem dsX12_isEar_0_ok : (dsX12_isEar_0.all fun q => decide (decode cX12_isEar q.1 = .ok q.2)) = true := by decide +kernel
theorem dX12_isEar_0 : decode cX12_isEar 0 = .ok (.iload_n 1, 1) := of_decide_eq_true (List.all_eq_true.mp dsX12_isEar_0_ok (0, (.iload_n 1, 1)) (List.mem_of_getElem? (i := 0) rfl))
theorem dX12_isEar_1 : decode cX12_isEar 1 = .ok (.ifCond .lt 20, 3) := of_decide_eq_true (List.all_eq_true.mp dsX12_isEar_0_ok (1, (.ifCond .lt 20, 3)) (List.mem_of_getElem? (i := 1) rfl))
theorem dX12_isEar_4 : decode cX12_isEar 4 = .ok (.iload_n 1, 1) := of_decide_eq_true (List.all_eq_true.mp dsX12_isEar_0_ok (4, (.iload_n 1, 1)) (List.mem_of_getElem? (i := 2) rfl))
theorem dX12_isEar_5 : decode cX12_isEar 5 = .ok (.aload_n 0, 1) := of_decide_eq_true (List.all_eq_true.mp dsX12_isEar_0_ok (5, (.aload_n 0, 1)) (List.mem_of_getElem? (i := 3) rfl))
theorem dX12_isEar_6 : decode cX12_isEar 6 = .ok (.getfield 66, 3) := of_decide_eq_true (List.all_eq_true.mp dsX12_isEar_0_ok (6, (.getfield 66, 3)) (List.mem_of_getElem? (i := 4) rfl))
theorem dX12_isEar_9 : decode cX12_isEar 9 = .ok (.aload_n 0, 1) := of_decide_eq_true (List.all_eq_true.mp dsX12_isEar_0_ok (9, (.aload_n 0, 1)) (List.mem_of_getElem? (i := 5) rfl))
theorem dX12_isEar_10 : decode cX12_isEar 10 = .ok (.getfield 51, 3) := of_decide_eq_true (List.all_eq_true.mp dsX12_isEar_0_ok (10, (.getfield 51, 3)) (List.mem_of_getElem? (i := 6) rfl))
theorem dX12_isEar_13 : decode cX12_isEar 13 = .ok (.iaload, 1) := of_decide_eq_true (List.all_eq_true.mp dsX12_isEar_0_ok (13, (.iaload, 1)) (List.mem_of_getElem? (i := 7) rfl))
theorem dX12_isEar_14 : decode cX12_isEar 14 = .ok (.if_icmp .ge 7, 3) := of_decide_eq_true (List.all_eq_true.mp dsX12_isEar_0_ok (14, (.if_icmp .ge 7, 3)) (List.mem_of_getElem? (i := 8) rfl))
theorem dX12_isEar_17 : decode cX12_isEar 17 = .ok (.iconst 1, 1) := of_decide_eq_true (List.all_eq_true.mp dsX12_isEar_0_ok (17, (.iconst 1, 1)) (List.mem_of_getElem? (i := 9) rfl))
theorem dX12_isEar_18 : decode cX12_isEar 18 = .ok (.goto 4, 3) := of_decide_eq_true (List.all_eq_true.mp dsX12_isEar_0_ok (18, (.goto 4, 3)) (List.mem_of_getElem? (i := 10) rfl))
theorem dX12_isEar_21 : decode cX12_isEar 21 = .ok (.iconst 0, 1) := of_decide_eq_true (List.all_eq_true.mp dsX12_isEar_0_ok (21, (.iconst 0, 1)) (List.mem_of_getElem? (i := 11) rfl))
theorem dX12_isEar_22 : decode cX12_isEar 22 = .ok (.ireturn, 1) := of_decide_eq_true (List.all_eq_true.mp dsX12_isEar_0_ok (22, (.ireturn, 1)) (List.mem_of_getElem? (i := 12) rfl))
def fX12_isEar (N : Nat) (mmI : Nat → Int32) (mm_earsF : Nat → Int32)  (p1 : Int32) : Option (Int32) :=
  (if p1 < 0 then some 0 else (xq_bd (xq_ald 2 mm_earsF (mmI 13)) fun v_1 => (if v_1 ≤ p1 then some 0 else some 1)))
set_option maxHeartbeats 4000000 in
set_option maxRecDepth 100000 in
theorem kX12_isEar (l : Launch) (dC : Nat → ClassId) (dI : Nat → Nat → Nat) (cI cB cJ cZ cM : ClassId) (z : Nat) (ad : Nat → Nat) (N : Nat) (a_p0 : Nat) (mmI : Nat → Int32) (mmJ : Nat → Int64) (mmR : Nat → Nat) (mm_earsF : Nat → Int32) (p1 : Int32) {r0 : Int32} (hf : fX12_isEar N mmI mm_earsF p1 = some r0) : xq_Ct l yX12_isEar wsX12_isEar { frames := 0, cells := 0, slots := 0, locals := 0 } (dC, dI) vwCl (xq_tys cI cB cJ cZ cM) z ad [.ref a_p0, .int p1] [(a_p0, .inr (12, oX12 mmI mmJ mmR)), ((mmR 18), .inl (cI, 2, .inl mm_earsF))] [(a_p0, .inr (12, oX12 mmI mmJ mmR)), ((mmR 18), .inl (cI, 2, .inl mm_earsF))] (some (.int r0)) := by
  intro sz
  refine Met.ofW (cc := cX12_isEar) (maxL := 2) (ret := (some .boolean)) (by decide) rfl ?_
  intro p e s m args below meth c s₁ B hml hv
  obtain ⟨rfl, hsz, hP, hK, hD0, hE, hz⟩ := hv
  have hx := B.exec
  have hb := B.bytes
  have hr := B.returns
  have hts := atoms_spec (ws := wsX12_isEar) B.pre
  have hown : s.vm.findClass RX12 = some m.cls := findClass_of_methodNamed B.named
  have hlocks := B.notSynchronized
  subst hsz
  have hD := hD0.self (sz := s.heap.size)
  have hN := xq_Env.of hE hz hD0
  generalize hAe : va_A [(a_p0, .inr (12, oX12 mmI mmJ mmR)), ((mmR 18), .inl (cI, 2, .inl mm_earsF))] s.heap.size = A at hD hN ⊢
  have hA : ∀ q : Nat, s.heap.size ≤ q → A q := fun q h => by rw [← hAe]; exact Or.inr h
  clear hAe hD0
  have hS : va_S A s.heap s.heap [] := va_S.rf
  have hl := lv_entry ([.ref a_p0, .int p1]) (n := 2) (Nat.le_of_ble_eq_true rfl)
  rw [lg_entry_eq]
  generalize (lg_sl ([.ref a_p0, .int p1]) ++ List.replicate (2 - (lg_sl ([.ref a_p0, .int p1])).length) Slot.unset).toArray = ls at hl ⊢
  have hl : lv_has ls 2 [(0, .ref a_p0), (1, .int p1)] := hl
  have hw0 := hts (.fieldLink RX12 66 "DistantVoiceModel" "ears" "[I") (by decide +kernel)
  have hinX12 : ∀ w ∈ wsX120, w ∈ wsX12_isEar := fun w h => List.mem_cons_of_mem _ (List.mem_append_right _ h)
  have hw2 := hts (.fieldLink RX12 51 "DistantVoiceModel" "bank" "I") (by decide +kernel)
  unfold fX12_isEar at hf
  refine lv_iload_n hx hb dX12_isEar_0 rfl (lv_at hl 1 rfl) ?_
  refine lv_if_lt (tgt := 21) hx hb dX12_isEar_1 (by decide) (fun c_ => ?_) (fun c_ => ?_)
  · have hf := xq_pos hf c_
    refine lv_iconst (v := 0) hx hb dX12_isEar_21 (by decide) ?_
    have e9_0 : 0 = r0 := Option.some.inj hf
    subst e9_0
    exact xq_zret hx hb hr (by decide +kernel) hlocks hK hP hD hS dX12_isEar_22
  · have hf := xq_neg hf c_
    refine lv_iload_n hx hb dX12_isEar_4 rfl (lv_at hl 1 rfl) ?_
    refine lv_aload_n hx hb dX12_isEar_5 rfl (lv_at hl 0 rfl) ?_
    refine va_get (D := (dC, dI)) (ci := 12) (v := .ref ((mmR 18))) (C := RX12) (T := TX12) (N := 70) hx hb hts hinX12 hown hK hP 0 rfl rfl 18 (by decide) hw0 (fun _ h9 => h9) rfl dX12_isEar_6 ?_
    refine lv_aload_n hx hb dX12_isEar_9 rfl (lv_at hl 0 rfl) ?_
    refine va_get (D := (dC, dI)) (ci := 12) (v := .int (mmI 13)) (C := RX12) (T := TX12) (N := 70) hx hb hts hinX12 hown hK hP 0 rfl rfl 13 (by decide) hw2 (fun _ h9 => h9) rfl dX12_isEar_10 ?_
    refine xq_iald hx hb hK hP 1 0 rfl rfl hf dX12_isEar_13 (fun v_1 hf => ?_)
    refine lv_icmp_ge (tgt := 21) hx hb dX12_isEar_14 (by decide) (fun c_ => ?_) (fun c_ => ?_)
    · have hf := xq_pos hf c_
      refine lv_iconst (v := 0) hx hb dX12_isEar_21 (by decide) ?_
      have e9_0 : 0 = r0 := Option.some.inj hf
      subst e9_0
      exact xq_zret hx hb hr (by decide +kernel) hlocks hK hP hD hS dX12_isEar_22
    · have hf := xq_neg hf c_
      refine lv_iconst (v := 1) hx hb dX12_isEar_17 (by decide) ?_
      refine lv_goto (tgt := 22) hx hb dX12_isEar_18 (by decide) ?_
      have e9_0 : 1 = r0 := Option.some.inj hf
      subst e9_0
      exact xq_zret hx hb hr (by decide +kernel) hlocks hK hP hD hS dX12_isEar_22
def dsX12_isPlace_0 : List (Nat × Instr × Nat) := [(0, (.iload_n 1, 1)), (1, (.ifCond .lt 20, 3)), (4, (.iload_n 1, 1)), (5, (.aload_n 0, 1)), (6, (.getfield 75, 3)), (9, (.aload_n 0, 1)), (10, (.getfield 51, 3)), (13, (.iaload, 1)), (14, (.if_icmp .ge 7, 3)), (17, (.iconst 1, 1)), (18, (.goto 4, 3)), (21, (.iconst 0, 1)), (22, (.ireturn, 1))]
theorem dsX12_isPlace_0_ok : (dsX12_isPlace_0.all fun q => decide (decode cX12_isPlace q.1 = .ok q.2)) = true := by decide +kernel
theorem dX12_isPlace_0 : decode cX12_isPlace 0 = .ok (.iload_n 1, 1) := of_decide_eq_true (List.all_eq_true.mp dsX12_isPlace_0_ok (0, (.iload_n 1, 1)) (List.mem_of_getElem? (i := 0) rfl))
theorem dX12_isPlace_1 : decode cX12_isPlace 1 = .ok (.ifCond .lt 20, 3) := of_decide_eq_true (List.all_eq_true.mp dsX12_isPlace_0_ok (1, (.ifCond .lt 20, 3)) (List.mem_of_getElem? (i := 1) rfl))
theorem dX12_isPlace_4 : decode cX12_isPlace 4 = .ok (.iload_n 1, 1) := of_decide_eq_true (List.all_eq_true.mp dsX12_isPlace_0_ok (4, (.iload_n 1, 1)) (List.mem_of_getElem? (i := 2) rfl))
theorem dX12_isPlace_5 : decode cX12_isPlace 5 = .ok (.aload_n 0, 1) := of_decide_eq_true (List.all_eq_true.mp dsX12_isPlace_0_ok (5, (.aload_n 0, 1)) (List.mem_of_getElem? (i := 3) rfl))
theorem dX12_isPlace_6 : decode cX12_isPlace 6 = .ok (.getfield 75, 3) := of_decide_eq_true (List.all_eq_true.mp dsX12_isPlace_0_ok (6, (.getfield 75, 3)) (List.mem_of_getElem? (i := 4) rfl))
theorem dX12_isPlace_9 : decode cX12_isPlace 9 = .ok (.aload_n 0, 1) := of_decide_eq_true (List.all_eq_true.mp dsX12_isPlace_0_ok (9, (.aload_n 0, 1)) (List.mem_of_getElem? (i := 5) rfl))
theorem dX12_isPlace_10 : decode cX12_isPlace 10 = .ok (.getfield 51, 3) := of_decide_eq_true (List.all_eq_true.mp dsX12_isPlace_0_ok (10, (.getfield 51, 3)) (List.mem_of_getElem? (i := 6) rfl))
theorem dX12_isPlace_13 : decode cX12_isPlace 13 = .ok (.iaload, 1) := of_decide_eq_true (List.all_eq_true.mp dsX12_isPlace_0_ok (13, (.iaload, 1)) (List.mem_of_getElem? (i := 7) rfl))
theorem dX12_isPlace_14 : decode cX12_isPlace 14 = .ok (.if_icmp .ge 7, 3) := of_decide_eq_true (List.all_eq_true.mp dsX12_isPlace_0_ok (14, (.if_icmp .ge 7, 3)) (List.mem_of_getElem? (i := 8) rfl))
theorem dX12_isPlace_17 : decode cX12_isPlace 17 = .ok (.iconst 1, 1) := of_decide_eq_true (List.all_eq_true.mp dsX12_isPlace_0_ok (17, (.iconst 1, 1)) (List.mem_of_getElem? (i := 9) rfl))
theorem dX12_isPlace_18 : decode cX12_isPlace 18 = .ok (.goto 4, 3) := of_decide_eq_true (List.all_eq_true.mp dsX12_isPlace_0_ok (18, (.goto 4, 3)) (List.mem_of_getElem? (i := 10) rfl))
theorem dX12_isPlace_21 : decode cX12_isPlace 21 = .ok (.iconst 0, 1) := of_decide_eq_true (List.all_eq_true.mp dsX12_isPlace_0_ok (21, (.iconst 0, 1)) (List.mem_of_getElem? (i := 11) rfl))
theorem dX12_isPlace_22 : decode cX12_isPlace 22 = .ok (.ireturn, 1) := of_decide_eq_true (List.all_eq_true.mp dsX12_isPlace_0_ok (22, (.ireturn, 1)) (List.mem_of_getElem? (i := 12) rfl))
def fX12_isPlace (N : Nat) (mmI : Nat → Int32) (mm_placesF : Nat → Int32)  (p1 : Int32) : Option (Int32) :=
  (if p1 < 0 then some 0 else (xq_bd (xq_ald 2 mm_placesF (mmI 13)) fun v_1 => (if v_1 ≤ p1 then some 0 else some 1)))
set_option maxHeartbeats 4000000 in
set_option maxRecDepth 100000 in
theorem kX12_isPlace (l : Launch) (dC : Nat → ClassId) (dI : Nat → Nat → Nat) (cI cB cJ cZ cM : ClassId) (z : Nat) (ad : Nat → Nat) (N : Nat) (a_p0 : Nat) (mmI : Nat → Int32) (mmJ : Nat → Int64) (mmR : Nat → Nat) (mm_placesF : Nat → Int32) (p1 : Int32) {r0 : Int32} (hf : fX12_isPlace N mmI mm_placesF p1 = some r0) : xq_Ct l yX12_isPlace wsX12_isPlace { frames := 0, cells := 0, slots := 0, locals := 0 } (dC, dI) vwCl (xq_tys cI cB cJ cZ cM) z ad [.ref a_p0, .int p1] [(a_p0, .inr (12, oX12 mmI mmJ mmR)), ((mmR 21), .inl (cI, 2, .inl mm_placesF))] [(a_p0, .inr (12, oX12 mmI mmJ mmR)), ((mmR 21), .inl (cI, 2, .inl mm_placesF))] (some (.int r0)) := by
  intro sz
  refine Met.ofW (cc := cX12_isPlace) (maxL := 2) (ret := (some .boolean)) (by decide) rfl ?_
  intro p e s m args below meth c s₁ B hml hv
  obtain ⟨rfl, hsz, hP, hK, hD0, hE, hz⟩ := hv
  have hx := B.exec
  have hb := B.bytes
  have hr := B.returns
  have hts := atoms_spec (ws := wsX12_isPlace) B.pre
  have hown : s.vm.findClass RX12 = some m.cls := findClass_of_methodNamed B.named
  have hlocks := B.notSynchronized
  subst hsz
  have hD := hD0.self (sz := s.heap.size)
  have hN := xq_Env.of hE hz hD0
  generalize hAe : va_A [(a_p0, .inr (12, oX12 mmI mmJ mmR)), ((mmR 21), .inl (cI, 2, .inl mm_placesF))] s.heap.size = A at hD hN ⊢
  have hA : ∀ q : Nat, s.heap.size ≤ q → A q := fun q h => by rw [← hAe]; exact Or.inr h
  clear hAe hD0
  have hS : va_S A s.heap s.heap [] := va_S.rf
  have hl := lv_entry ([.ref a_p0, .int p1]) (n := 2) (Nat.le_of_ble_eq_true rfl)
  rw [lg_entry_eq]
  generalize (lg_sl ([.ref a_p0, .int p1]) ++ List.replicate (2 - (lg_sl ([.ref a_p0, .int p1])).length) Slot.unset).toArray = ls at hl ⊢
  have hl : lv_has ls 2 [(0, .ref a_p0), (1, .int p1)] := hl
  have hw0 := hts (.fieldLink RX12 75 "DistantVoiceModel" "places" "[I") (by decide +kernel)
  have hinX12 : ∀ w ∈ wsX120, w ∈ wsX12_isPlace := fun w h => List.mem_cons_of_mem _ (List.mem_append_right _ h)
  have hw2 := hts (.fieldLink RX12 51 "DistantVoiceModel" "bank" "I") (by decide +kernel)
  unfold fX12_isPlace at hf
  refine lv_iload_n hx hb dX12_isPlace_0 rfl (lv_at hl 1 rfl) ?_
  refine lv_if_lt (tgt := 21) hx hb dX12_isPlace_1 (by decide) (fun c_ => ?_) (fun c_ => ?_)
  · have hf := xq_pos hf c_
    refine lv_iconst (v := 0) hx hb dX12_isPlace_21 (by decide) ?_
    have e9_0 : 0 = r0 := Option.some.inj hf
    subst e9_0
    exact xq_zret hx hb hr (by decide +kernel) hlocks hK hP hD hS dX12_isPlace_22
  · have hf := xq_neg hf c_
    refine lv_iload_n hx hb dX12_isPlace_4 rfl (lv_at hl 1 rfl) ?_
    refine lv_aload_n hx hb dX12_isPlace_5 rfl (lv_at hl 0 rfl) ?_
    refine va_get (D := (dC, dI)) (ci := 12) (v := .ref ((mmR 21))) (C := RX12) (T := TX12) (N := 70) hx hb hts hinX12 hown hK hP 0 rfl rfl 21 (by decide) hw0 (fun _ h9 => h9) rfl dX12_isPlace_6 ?_
    refine lv_aload_n hx hb dX12_isPlace_9 rfl (lv_at hl 0 rfl) ?_
    refine va_get (D := (dC, dI)) (ci := 12) (v := .int (mmI 13)) (C := RX12) (T := TX12) (N := 70) hx hb hts hinX12 hown hK hP 0 rfl rfl 13 (by decide) hw2 (fun _ h9 => h9) rfl dX12_isPlace_10 ?_
    refine xq_iald hx hb hK hP 1 0 rfl rfl hf dX12_isPlace_13 (fun v_1 hf => ?_)
    refine lv_icmp_ge (tgt := 21) hx hb dX12_isPlace_14 (by decide) (fun c_ => ?_) (fun c_ => ?_)
    · have hf := xq_pos hf c_
      refine lv_iconst (v := 0) hx hb dX12_isPlace_21 (by decide) ?_
      have e9_0 : 0 = r0 := Option.some.inj hf
      subst e9_0
      exact xq_zret hx hb hr (by decide +kernel) hlocks hK hP hD hS dX12_isPlace_22
    · have hf := xq_neg hf c_
      refine lv_iconst (v := 1) hx hb dX12_isPlace_17 (by decide) ?_
      refine lv_goto (tgt := 22) hx hb dX12_isPlace_18 (by decide) ?_
      have e9_0 : 1 = r0 := Option.some.inj hf
      subst e9_0
      exact xq_zret hx hb hr (by decide +kernel) hlocks hK hP hD hS dX12_isPlace_22
def dsX12_bits_0 : List (Nat × Instr × Nat) := [(0, (.iconst 0, 1)), (1, (.istore_n 1, 1)), (2, (.iload_n 0, 1)), (3, (.istore_n 2, 1)), (4, (.iload_n 2, 1)), (5, (.ifCond .eq 15, 3)), (8, (.iinc 1 1, 3)), (11, (.iload_n 2, 1)), (12, (.iload_n 2, 1)), (13, (.iconst 1, 1)), (14, (.isub, 1)), (15, (.iand, 1)), (16, (.istore_n 2, 1)), (17, (.goto (-13), 3)), (20, (.iload_n 1, 1)), (21, (.ireturn, 1))]
theorem dsX12_bits_0_ok : (dsX12_bits_0.all fun q => decide (decode cX12_bits q.1 = .ok q.2)) = true := by decide +kernel
theorem dX12_bits_0 : decode cX12_bits 0 = .ok (.iconst 0, 1) := of_decide_eq_true (List.all_eq_true.mp dsX12_bits_0_ok (0, (.iconst 0, 1)) (List.mem_of_getElem? (i := 0) rfl))
theorem dX12_bits_1 : decode cX12_bits 1 = .ok (.istore_n 1, 1) := of_decide_eq_true (List.all_eq_true.mp dsX12_bits_0_ok (1, (.istore_n 1, 1)) (List.mem_of_getElem? (i := 1) rfl))
theorem dX12_bits_2 : decode cX12_bits 2 = .ok (.iload_n 0, 1) := of_decide_eq_true (List.all_eq_true.mp dsX12_bits_0_ok (2, (.iload_n 0, 1)) (List.mem_of_getElem? (i := 2) rfl))
theorem dX12_bits_3 : decode cX12_bits 3 = .ok (.istore_n 2, 1) := of_decide_eq_true (List.all_eq_true.mp dsX12_bits_0_ok (3, (.istore_n 2, 1)) (List.mem_of_getElem? (i := 3) rfl))
theorem dX12_bits_4 : decode cX12_bits 4 = .ok (.iload_n 2, 1) := of_decide_eq_true (List.all_eq_true.mp dsX12_bits_0_ok (4, (.iload_n 2, 1)) (List.mem_of_getElem? (i := 4) rfl))
theorem dX12_bits_5 : decode cX12_bits 5 = .ok (.ifCond .eq 15, 3) := of_decide_eq_true (List.all_eq_true.mp dsX12_bits_0_ok (5, (.ifCond .eq 15, 3)) (List.mem_of_getElem? (i := 5) rfl))
theorem dX12_bits_8 : decode cX12_bits 8 = .ok (.iinc 1 1, 3) := of_decide_eq_true (List.all_eq_true.mp dsX12_bits_0_ok (8, (.iinc 1 1, 3)) (List.mem_of_getElem? (i := 6) rfl))
theorem dX12_bits_11 : decode cX12_bits 11 = .ok (.iload_n 2, 1) := of_decide_eq_true (List.all_eq_true.mp dsX12_bits_0_ok (11, (.iload_n 2, 1)) (List.mem_of_getElem? (i := 7) rfl))
theorem dX12_bits_12 : decode cX12_bits 12 = .ok (.iload_n 2, 1) := of_decide_eq_true (List.all_eq_true.mp dsX12_bits_0_ok (12, (.iload_n 2, 1)) (List.mem_of_getElem? (i := 8) rfl))
theorem dX12_bits_13 : decode cX12_bits 13 = .ok (.iconst 1, 1) := of_decide_eq_true (List.all_eq_true.mp dsX12_bits_0_ok (13, (.iconst 1, 1)) (List.mem_of_getElem? (i := 9) rfl))
theorem dX12_bits_14 : decode cX12_bits 14 = .ok (.isub, 1) := of_decide_eq_true (List.all_eq_true.mp dsX12_bits_0_ok (14, (.isub, 1)) (List.mem_of_getElem? (i := 10) rfl))
theorem dX12_bits_15 : decode cX12_bits 15 = .ok (.iand, 1) := of_decide_eq_true (List.all_eq_true.mp dsX12_bits_0_ok (15, (.iand, 1)) (List.mem_of_getElem? (i := 11) rfl))
theorem dX12_bits_16 : decode cX12_bits 16 = .ok (.istore_n 2, 1) := of_decide_eq_true (List.all_eq_true.mp dsX12_bits_0_ok (16, (.istore_n 2, 1)) (List.mem_of_getElem? (i := 12) rfl))
theorem dX12_bits_17 : decode cX12_bits 17 = .ok (.goto (-13), 3) := of_decide_eq_true (List.all_eq_true.mp dsX12_bits_0_ok (17, (.goto (-13), 3)) (List.mem_of_getElem? (i := 13) rfl))
theorem dX12_bits_20 : decode cX12_bits 20 = .ok (.iload_n 1, 1) := of_decide_eq_true (List.all_eq_true.mp dsX12_bits_0_ok (20, (.iload_n 1, 1)) (List.mem_of_getElem? (i := 14) rfl))
theorem dX12_bits_21 : decode cX12_bits 21 = .ok (.ireturn, 1) := of_decide_eq_true (List.all_eq_true.mp dsX12_bits_0_ok (21, (.ireturn, 1)) (List.mem_of_getElem? (i := 15) rfl))
def fX12_bits_l4 (N : Nat)   (k4 : (Int32 × Int32) → Option (Int32)) : (Int32 × Int32) → Option (Int32) :=
  fun (x1_4, x2_4) => (if x2_4 = 0 then some x1_4 else k4 (x1_4 + 1, x2_4 &&& (x2_4 - 1)))
def fX12_bits (N : Nat)   (p0 : Int32) : Option (Int32) :=
  xq_loop (fX12_bits_l4 N) N (0, p0)
set_option maxHeartbeats 4000000 in
set_option maxRecDepth 100000 in
theorem kX12_bits (l : Launch) (dC : Nat → ClassId) (dI : Nat → Nat → Nat) (cI cB cJ cZ cM : ClassId) (z : Nat) (ad : Nat → Nat) (N : Nat) (p0 : Int32) {r0 : Int32} (hf : fX12_bits N p0 = some r0) : xq_Ct l yX12_bits wsX12_bits { frames := 0, cells := 0, slots := 0, locals := 0 } (dC, dI) vwCl (xq_tys cI cB cJ cZ cM) z ad [.int p0] [] [] (some (.int r0)) := by
  intro sz
  refine Met.ofW (cc := cX12_bits) (maxL := 3) (ret := (some .int)) (by decide) rfl ?_
  intro p e s m args below meth c s₁ B hml hv
  obtain ⟨rfl, hsz, hP, hK, hD0, hE, hz⟩ := hv
  have hx := B.exec
  have hb := B.bytes
  have hr := B.returns
  have hts := atoms_spec (ws := wsX12_bits) B.pre
  have hown : s.vm.findClass RX12 = some m.cls := findClass_of_methodNamed B.named
  have hlocks := B.notSynchronized
  subst hsz
  have hD := hD0.self (sz := s.heap.size)
  have hN := xq_Env.of hE hz hD0
  generalize hAe : va_A [] s.heap.size = A at hD hN ⊢
  have hA : ∀ q : Nat, s.heap.size ≤ q → A q := fun q h => by rw [← hAe]; exact Or.inr h
  clear hAe hD0
  have hS : va_S A s.heap s.heap [] := va_S.rf
  have hl := lv_entry ([.int p0]) (n := 3) (Nat.le_of_ble_eq_true rfl)
  rw [lg_entry_eq]
  generalize (lg_sl ([.int p0]) ++ List.replicate (3 - (lg_sl ([.int p0])).length) Slot.unset).toArray = ls at hl ⊢
  have hl : lv_has ls 3 [(0, .int p0)] := hl
  have l4 : ∀ n4 : Nat, ∀ (x1_4 : Int32) (x2_4 : Int32) (ls : Array Slot) (H : Heap) (locs : List Loc), xq_loop (fX12_bits_l4 N) n4 (x1_4, x2_4) = some r0 → va_P (dC, dI) vwCl [] H → va_D A [] → va_S A s.heap H locs → lv_has ls 3 [(1, .int x1_4), (2, .int x2_4)] → W p l e (headSpec wsX12_bits { frames := 0, cells := 0, slots := 0, locals := 0 }).room s m [.int p0].toArray below meth c H locs 0 0 (MQ below (xq_Q (dC, dI) vwCl (xq_tys cI cB cJ cZ cM) A [] (some (.int r0))) [.int p0].toArray s 0 0 A) (F0 m 4 ls []) := by
    intro n4
    induction n4 with
    | zero => intro x1_4 x2_4 ls H locs hf; cases (show none = some r0 from hf)
    | succ n4 ih4 =>
      intro x1_4 x2_4 ls H locs hf hP hD hS hl
      have hf : fX12_bits_l4 N (xq_loop (fX12_bits_l4 N) n4) (x1_4, x2_4) = some r0 := hf
      unfold fX12_bits_l4 at hf
      refine lv_iload_n hx hb dX12_bits_4 rfl (lv_at hl 1 rfl) ?_
      refine lv_if_eq (tgt := 20) hx hb dX12_bits_5 (by decide) (fun c_ => ?_) (fun c_ => ?_)
      · have hf := xq_pos hf c_
        refine lv_iload_n hx hb dX12_bits_20 rfl (lv_at hl 0 rfl) ?_
        have e9_0 : x1_4 = r0 := Option.some.inj hf
        subst e9_0
        exact xq_iret hx hb hr hlocks hK hP hD hS dX12_bits_21
      · have hf := xq_neg hf c_
        refine lv_iinc (v := x1_4 + 1) (lv' := [(1, .int (x1_4 + 1)), (2, .int x2_4)]) hx hb dX12_bits_8 hl (k := 0) rfl (congrArg (fun q9 => x1_4 + q9) (by decide : Int32.ofInt 1 = 1)) (by decide) rfl (fun ls hl => ?_)
        refine lv_iload_n hx hb dX12_bits_11 rfl (lv_at hl 1 rfl) ?_
        refine lv_iload_n hx hb dX12_bits_12 rfl (lv_at hl 1 rfl) ?_
        refine lv_iconst (v := 1) hx hb dX12_bits_13 (by decide) ?_
        refine lv_isub hx hb dX12_bits_14 ?_
        refine lv_iand hx hb dX12_bits_15 ?_
        refine lv_istore_n (lv' := [(2, .int (x2_4 &&& (x2_4 - 1))), (1, .int (x1_4 + 1))]) hx hb dX12_bits_16 rfl hl (by decide) rfl (fun ls hl => ?_)
        refine lv_goto (tgt := 4) hx hb dX12_bits_17 (by decide) ?_
        exact ih4 (x1_4 + 1) (x2_4 &&& (x2_4 - 1)) _ _ _ hf hP hD hS (lv_sub hl [1, 0] rfl)
  unfold fX12_bits at hf
  refine lv_iconst (v := 0) hx hb dX12_bits_0 (by decide) ?_
  refine lv_istore_n (lv' := [(1, .int 0), (0, .int p0)]) hx hb dX12_bits_1 rfl hl (by decide) rfl (fun ls hl => ?_)
  refine lv_iload_n hx hb dX12_bits_2 rfl (lv_at hl 1 rfl) ?_
  refine lv_istore_n (lv' := [(2, .int p0), (1, .int 0), (0, .int p0)]) hx hb dX12_bits_3 rfl hl (by decide) rfl (fun ls hl => ?_)
  exact l4 N 0 p0 _ _ _ hf hP hD hS (lv_sub hl [1, 0] rfl)
set_option maxRecDepth 20000 in
theorem ggX12_has_X12_farOf : GoodIn wsX12_has wsX12_farOf := goodIn_r _ [18, 6, 1, 2, 19, 20, 21, 22, 23, 24, 25, 26, 27, 28, 29, 30, 31, 32, 33, 34, 35, 36, 37, 38, 39, 40, 41, 42, 43, 44, 45, 46, 47, 48, 49, 50, 51, 52, 53, 54, 55, 56, 57, 58, 59, 60, 61, 62, 63, 64, 65, 66, 67, 68, 69, 70, 71, 72, 73, 74, 75, 76, 77, 78, 79, 80, 81, 82, 83, 84, 85, 86, 87, 88] rfl (by decide +kernel)
set_option maxRecDepth 20000 in
theorem gX12_has_X12_farOf : GoodIn wsX12_has (wsV RX12 424 RX12 yX12_farOf wsX12_farOf) := goodIn_app (goodIn_of _ (by decide +kernel)) ggX12_has_X12_farOf
def dsX12_has_0 : List (Nat × Instr × Nat) := [(0, (.iload_n 1, 1)), (1, (.tableswitch 161 0 12 #[67, 77, 87, 97, 104, 111, 118, 125, 132, 138, 145, 150, 155], 67)), (68, (.aload_n 0, 1)), (69, (.getfield 54, 3)), (72, (.aload_n 0, 1)), (73, (.getfield 51, 3)), (76, (.iaload, 1)), (77, (.ireturn, 1)), (78, (.aload_n 0, 1)), (79, (.getfield 66, 3)), (82, (.aload_n 0, 1)), (83, (.getfield 51, 3)), (86, (.iaload, 1)), (87, (.ireturn, 1)), (88, (.aload_n 0, 1)), (89, (.getfield 75, 3)), (92, (.aload_n 0, 1)), (93, (.getfield 51, 3)), (96, (.iaload, 1)), (97, (.ireturn, 1)), (98, (.aload_n 0, 1)), (99, (.getfield 150, 3)), (102, (.iconst 0, 1)), (103, (.iaload, 1)), (104, (.ireturn, 1)), (105, (.aload_n 0, 1)), (106, (.getfield 153, 3)), (109, (.iconst 0, 1)), (110, (.iaload, 1)), (111, (.ireturn, 1)), (112, (.aload_n 0, 1)), (113, (.getfield 156, 3)), (116, (.iconst 0, 1)), (117, (.iaload, 1)), (118, (.ireturn, 1)), (119, (.aload_n 0, 1)), (120, (.getfield 159, 3)), (123, (.iconst 0, 1)), (124, (.iaload, 1)), (125, (.ireturn, 1)), (126, (.aload_n 0, 1)), (127, (.getfield 162, 3)), (130, (.iconst 0, 1)), (131, (.iaload, 1)), (132, (.ireturn, 1)), (133, (.aload_n 0, 1)), (134, (.iconst 0, 1)), (135, (.invokevirtual 424, 3)), (138, (.ireturn, 1)), (139, (.aload_n 0, 1)), (140, (.getfield 171, 3)), (143, (.iconst 0, 1)), (144, (.iaload, 1)), (145, (.ireturn, 1)), (146, (.aload_n 0, 1)), (147, (.getfield 201, 3)), (150, (.ireturn, 1)), (151, (.aload_n 0, 1)), (152, (.getfield 180, 3)), (155, (.ireturn, 1))]
theorem dsX12_has_0_ok : (dsX12_has_0.all fun q => decide (decode cX12_has q.1 = .ok q.2)) = true := by decide +kernel
theorem dX12_has_0 : decode cX12_has 0 = .ok (.iload_n 1, 1) := of_decide_eq_true (List.all_eq_true.mp dsX12_has_0_ok (0, (.iload_n 1, 1)) (List.mem_of_getElem? (i := 0) rfl))
theorem dX12_has_1 : decode cX12_has 1 = .ok (.tableswitch 161 0 12 #[67, 77, 87, 97, 104, 111, 118, 125, 132, 138, 145, 150, 155], 67) := of_decide_eq_true (List.all_eq_true.mp dsX12_has_0_ok (1, (.tableswitch 161 0 12 #[67, 77, 87, 97, 104, 111, 118, 125, 132, 138, 145, 150, 155], 67)) (List.mem_of_getElem? (i := 1) rfl))
theorem dX12_has_68 : decode cX12_has 68 = .ok (.aload_n 0, 1) := of_decide_eq_true (List.all_eq_true.mp dsX12_has_0_ok (68, (.aload_n 0, 1)) (List.mem_of_getElem? (i := 2) rfl))
theorem dX12_has_69 : decode cX12_has 69 = .ok (.getfield 54, 3) := of_decide_eq_true (List.all_eq_true.mp dsX12_has_0_ok (69, (.getfield 54, 3)) (List.mem_of_getElem? (i := 3) rfl))
theorem dX12_has_72 : decode cX12_has 72 = .ok (.aload_n 0, 1) := of_decide_eq_true (List.all_eq_true.mp dsX12_has_0_ok (72, (.aload_n 0, 1)) (List.mem_of_getElem? (i := 4) rfl))
theorem dX12_has_73 : decode cX12_has 73 = .ok (.getfield 51, 3) := of_decide_eq_true (List.all_eq_true.mp dsX12_has_0_ok (73, (.getfield 51, 3)) (List.mem_of_getElem? (i := 5) rfl))
theorem dX12_has_76 : decode cX12_has 76 = .ok (.iaload, 1) := of_decide_eq_true (List.all_eq_true.mp dsX12_has_0_ok (76, (.iaload, 1)) (List.mem_of_getElem? (i := 6) rfl))
theorem dX12_has_77 : decode cX12_has 77 = .ok (.ireturn, 1) := of_decide_eq_true (List.all_eq_true.mp dsX12_has_0_ok (77, (.ireturn, 1)) (List.mem_of_getElem? (i := 7) rfl))
theorem dX12_has_78 : decode cX12_has 78 = .ok (.aload_n 0, 1) := of_decide_eq_true (List.all_eq_true.mp dsX12_has_0_ok (78, (.aload_n 0, 1)) (List.mem_of_getElem? (i := 8) rfl))
theorem dX12_has_79 : decode cX12_has 79 = .ok (.getfield 66, 3) := of_decide_eq_true (List.all_eq_true.mp dsX12_has_0_ok (79, (.getfield 66, 3)) (List.mem_of_getElem? (i := 9) rfl))
theorem dX12_has_82 : decode cX12_has 82 = .ok (.aload_n 0, 1) := of_decide_eq_true (List.all_eq_true.mp dsX12_has_0_ok (82, (.aload_n 0, 1)) (List.mem_of_getElem? (i := 10) rfl))
theorem dX12_has_83 : decode cX12_has 83 = .ok (.getfield 51, 3) := of_decide_eq_true (List.all_eq_true.mp dsX12_has_0_ok (83, (.getfield 51, 3)) (List.mem_of_getElem? (i := 11) rfl))
theorem dX12_has_86 : decode cX12_has 86 = .ok (.iaload, 1) := of_decide_eq_true (List.all_eq_true.mp dsX12_has_0_ok (86, (.iaload, 1)) (List.mem_of_getElem? (i := 12) rfl))
theorem dX12_has_87 : decode cX12_has 87 = .ok (.ireturn, 1) := of_decide_eq_true (List.all_eq_true.mp dsX12_has_0_ok (87, (.ireturn, 1)) (List.mem_of_getElem? (i := 13) rfl))
theorem dX12_has_88 : decode cX12_has 88 = .ok (.aload_n 0, 1) := of_decide_eq_true (List.all_eq_true.mp dsX12_has_0_ok (88, (.aload_n 0, 1)) (List.mem_of_getElem? (i := 14) rfl))
theorem dX12_has_89 : decode cX12_has 89 = .ok (.getfield 75, 3) := of_decide_eq_true (List.all_eq_true.mp dsX12_has_0_ok (89, (.getfield 75, 3)) (List.mem_of_getElem? (i := 15) rfl))
theorem dX12_has_92 : decode cX12_has 92 = .ok (.aload_n 0, 1) := of_decide_eq_true (List.all_eq_true.mp dsX12_has_0_ok (92, (.aload_n 0, 1)) (List.mem_of_getElem? (i := 16) rfl))
theorem dX12_has_93 : decode cX12_has 93 = .ok (.getfield 51, 3) := of_decide_eq_true (List.all_eq_true.mp dsX12_has_0_ok (93, (.getfield 51, 3)) (List.mem_of_getElem? (i := 17) rfl))
theorem dX12_has_96 : decode cX12_has 96 = .ok (.iaload, 1) := of_decide_eq_true (List.all_eq_true.mp dsX12_has_0_ok (96, (.iaload, 1)) (List.mem_of_getElem? (i := 18) rfl))
theorem dX12_has_97 : decode cX12_has 97 = .ok (.ireturn, 1) := of_decide_eq_true (List.all_eq_true.mp dsX12_has_0_ok (97, (.ireturn, 1)) (List.mem_of_getElem? (i := 19) rfl))
theorem dX12_has_98 : decode cX12_has 98 = .ok (.aload_n 0, 1) := of_decide_eq_true (List.all_eq_true.mp dsX12_has_0_ok (98, (.aload_n 0, 1)) (List.mem_of_getElem? (i := 20) rfl))
theorem dX12_has_99 : decode cX12_has 99 = .ok (.getfield 150, 3) := of_decide_eq_true (List.all_eq_true.mp dsX12_has_0_ok (99, (.getfield 150, 3)) (List.mem_of_getElem? (i := 21) rfl))
theorem dX12_has_102 : decode cX12_has 102 = .ok (.iconst 0, 1) := of_decide_eq_true (List.all_eq_true.mp dsX12_has_0_ok (102, (.iconst 0, 1)) (List.mem_of_getElem? (i := 22) rfl))
theorem dX12_has_103 : decode cX12_has 103 = .ok (.iaload, 1) := of_decide_eq_true (List.all_eq_true.mp dsX12_has_0_ok (103, (.iaload, 1)) (List.mem_of_getElem? (i := 23) rfl))
theorem dX12_has_104 : decode cX12_has 104 = .ok (.ireturn, 1) := of_decide_eq_true (List.all_eq_true.mp dsX12_has_0_ok (104, (.ireturn, 1)) (List.mem_of_getElem? (i := 24) rfl))
theorem dX12_has_105 : decode cX12_has 105 = .ok (.aload_n 0, 1) := of_decide_eq_true (List.all_eq_true.mp dsX12_has_0_ok (105, (.aload_n 0, 1)) (List.mem_of_getElem? (i := 25) rfl))
theorem dX12_has_106 : decode cX12_has 106 = .ok (.getfield 153, 3) := of_decide_eq_true (List.all_eq_true.mp dsX12_has_0_ok (106, (.getfield 153, 3)) (List.mem_of_getElem? (i := 26) rfl))
theorem dX12_has_109 : decode cX12_has 109 = .ok (.iconst 0, 1) := of_decide_eq_true (List.all_eq_true.mp dsX12_has_0_ok (109, (.iconst 0, 1)) (List.mem_of_getElem? (i := 27) rfl))
theorem dX12_has_110 : decode cX12_has 110 = .ok (.iaload, 1) := of_decide_eq_true (List.all_eq_true.mp dsX12_has_0_ok (110, (.iaload, 1)) (List.mem_of_getElem? (i := 28) rfl))
theorem dX12_has_111 : decode cX12_has 111 = .ok (.ireturn, 1) := of_decide_eq_true (List.all_eq_true.mp dsX12_has_0_ok (111, (.ireturn, 1)) (List.mem_of_getElem? (i := 29) rfl))
theorem dX12_has_112 : decode cX12_has 112 = .ok (.aload_n 0, 1) := of_decide_eq_true (List.all_eq_true.mp dsX12_has_0_ok (112, (.aload_n 0, 1)) (List.mem_of_getElem? (i := 30) rfl))
theorem dX12_has_113 : decode cX12_has 113 = .ok (.getfield 156, 3) := of_decide_eq_true (List.all_eq_true.mp dsX12_has_0_ok (113, (.getfield 156, 3)) (List.mem_of_getElem? (i := 31) rfl))
theorem dX12_has_116 : decode cX12_has 116 = .ok (.iconst 0, 1) := of_decide_eq_true (List.all_eq_true.mp dsX12_has_0_ok (116, (.iconst 0, 1)) (List.mem_of_getElem? (i := 32) rfl))
theorem dX12_has_117 : decode cX12_has 117 = .ok (.iaload, 1) := of_decide_eq_true (List.all_eq_true.mp dsX12_has_0_ok (117, (.iaload, 1)) (List.mem_of_getElem? (i := 33) rfl))
theorem dX12_has_118 : decode cX12_has 118 = .ok (.ireturn, 1) := of_decide_eq_true (List.all_eq_true.mp dsX12_has_0_ok (118, (.ireturn, 1)) (List.mem_of_getElem? (i := 34) rfl))
theorem dX12_has_119 : decode cX12_has 119 = .ok (.aload_n 0, 1) := of_decide_eq_true (List.all_eq_true.mp dsX12_has_0_ok (119, (.aload_n 0, 1)) (List.mem_of_getElem? (i := 35) rfl))
theorem dX12_has_120 : decode cX12_has 120 = .ok (.getfield 159, 3) := of_decide_eq_true (List.all_eq_true.mp dsX12_has_0_ok (120, (.getfield 159, 3)) (List.mem_of_getElem? (i := 36) rfl))
theorem dX12_has_123 : decode cX12_has 123 = .ok (.iconst 0, 1) := of_decide_eq_true (List.all_eq_true.mp dsX12_has_0_ok (123, (.iconst 0, 1)) (List.mem_of_getElem? (i := 37) rfl))
theorem dX12_has_124 : decode cX12_has 124 = .ok (.iaload, 1) := of_decide_eq_true (List.all_eq_true.mp dsX12_has_0_ok (124, (.iaload, 1)) (List.mem_of_getElem? (i := 38) rfl))
theorem dX12_has_125 : decode cX12_has 125 = .ok (.ireturn, 1) := of_decide_eq_true (List.all_eq_true.mp dsX12_has_0_ok (125, (.ireturn, 1)) (List.mem_of_getElem? (i := 39) rfl))
theorem dX12_has_126 : decode cX12_has 126 = .ok (.aload_n 0, 1) := of_decide_eq_true (List.all_eq_true.mp dsX12_has_0_ok (126, (.aload_n 0, 1)) (List.mem_of_getElem? (i := 40) rfl))
theorem dX12_has_127 : decode cX12_has 127 = .ok (.getfield 162, 3) := of_decide_eq_true (List.all_eq_true.mp dsX12_has_0_ok (127, (.getfield 162, 3)) (List.mem_of_getElem? (i := 41) rfl))
theorem dX12_has_130 : decode cX12_has 130 = .ok (.iconst 0, 1) := of_decide_eq_true (List.all_eq_true.mp dsX12_has_0_ok (130, (.iconst 0, 1)) (List.mem_of_getElem? (i := 42) rfl))
theorem dX12_has_131 : decode cX12_has 131 = .ok (.iaload, 1) := of_decide_eq_true (List.all_eq_true.mp dsX12_has_0_ok (131, (.iaload, 1)) (List.mem_of_getElem? (i := 43) rfl))
theorem dX12_has_132 : decode cX12_has 132 = .ok (.ireturn, 1) := of_decide_eq_true (List.all_eq_true.mp dsX12_has_0_ok (132, (.ireturn, 1)) (List.mem_of_getElem? (i := 44) rfl))
theorem dX12_has_133 : decode cX12_has 133 = .ok (.aload_n 0, 1) := of_decide_eq_true (List.all_eq_true.mp dsX12_has_0_ok (133, (.aload_n 0, 1)) (List.mem_of_getElem? (i := 45) rfl))
theorem dX12_has_134 : decode cX12_has 134 = .ok (.iconst 0, 1) := of_decide_eq_true (List.all_eq_true.mp dsX12_has_0_ok (134, (.iconst 0, 1)) (List.mem_of_getElem? (i := 46) rfl))
theorem dX12_has_135 : decode cX12_has 135 = .ok (.invokevirtual 424, 3) := of_decide_eq_true (List.all_eq_true.mp dsX12_has_0_ok (135, (.invokevirtual 424, 3)) (List.mem_of_getElem? (i := 47) rfl))
theorem dX12_has_138 : decode cX12_has 138 = .ok (.ireturn, 1) := of_decide_eq_true (List.all_eq_true.mp dsX12_has_0_ok (138, (.ireturn, 1)) (List.mem_of_getElem? (i := 48) rfl))
theorem dX12_has_139 : decode cX12_has 139 = .ok (.aload_n 0, 1) := of_decide_eq_true (List.all_eq_true.mp dsX12_has_0_ok (139, (.aload_n 0, 1)) (List.mem_of_getElem? (i := 49) rfl))
theorem dX12_has_140 : decode cX12_has 140 = .ok (.getfield 171, 3) := of_decide_eq_true (List.all_eq_true.mp dsX12_has_0_ok (140, (.getfield 171, 3)) (List.mem_of_getElem? (i := 50) rfl))
theorem dX12_has_143 : decode cX12_has 143 = .ok (.iconst 0, 1) := of_decide_eq_true (List.all_eq_true.mp dsX12_has_0_ok (143, (.iconst 0, 1)) (List.mem_of_getElem? (i := 51) rfl))
theorem dX12_has_144 : decode cX12_has 144 = .ok (.iaload, 1) := of_decide_eq_true (List.all_eq_true.mp dsX12_has_0_ok (144, (.iaload, 1)) (List.mem_of_getElem? (i := 52) rfl))
theorem dX12_has_145 : decode cX12_has 145 = .ok (.ireturn, 1) := of_decide_eq_true (List.all_eq_true.mp dsX12_has_0_ok (145, (.ireturn, 1)) (List.mem_of_getElem? (i := 53) rfl))
theorem dX12_has_146 : decode cX12_has 146 = .ok (.aload_n 0, 1) := of_decide_eq_true (List.all_eq_true.mp dsX12_has_0_ok (146, (.aload_n 0, 1)) (List.mem_of_getElem? (i := 54) rfl))
theorem dX12_has_147 : decode cX12_has 147 = .ok (.getfield 201, 3) := of_decide_eq_true (List.all_eq_true.mp dsX12_has_0_ok (147, (.getfield 201, 3)) (List.mem_of_getElem? (i := 55) rfl))
theorem dX12_has_150 : decode cX12_has 150 = .ok (.ireturn, 1) := of_decide_eq_true (List.all_eq_true.mp dsX12_has_0_ok (150, (.ireturn, 1)) (List.mem_of_getElem? (i := 56) rfl))
theorem dX12_has_151 : decode cX12_has 151 = .ok (.aload_n 0, 1) := of_decide_eq_true (List.all_eq_true.mp dsX12_has_0_ok (151, (.aload_n 0, 1)) (List.mem_of_getElem? (i := 57) rfl))
theorem dX12_has_152 : decode cX12_has 152 = .ok (.getfield 180, 3) := of_decide_eq_true (List.all_eq_true.mp dsX12_has_0_ok (152, (.getfield 180, 3)) (List.mem_of_getElem? (i := 58) rfl))
theorem dX12_has_155 : decode cX12_has 155 = .ok (.ireturn, 1) := of_decide_eq_true (List.all_eq_true.mp dsX12_has_0_ok (155, (.ireturn, 1)) (List.mem_of_getElem? (i := 59) rfl))
def dsX12_has_1 : List (Nat × Instr × Nat) := [(156, (.aload_n 0, 1)), (157, (.getfield 183, 3)), (160, (.l2i, 1)), (161, (.ireturn, 1)), (162, (.iconst (-1), 1)), (163, (.ireturn, 1))]
theorem dsX12_has_1_ok : (dsX12_has_1.all fun q => decide (decode cX12_has q.1 = .ok q.2)) = true := by decide +kernel
theorem dX12_has_156 : decode cX12_has 156 = .ok (.aload_n 0, 1) := of_decide_eq_true (List.all_eq_true.mp dsX12_has_1_ok (156, (.aload_n 0, 1)) (List.mem_of_getElem? (i := 0) rfl))
theorem dX12_has_157 : decode cX12_has 157 = .ok (.getfield 183, 3) := of_decide_eq_true (List.all_eq_true.mp dsX12_has_1_ok (157, (.getfield 183, 3)) (List.mem_of_getElem? (i := 1) rfl))
theorem dX12_has_160 : decode cX12_has 160 = .ok (.l2i, 1) := of_decide_eq_true (List.all_eq_true.mp dsX12_has_1_ok (160, (.l2i, 1)) (List.mem_of_getElem? (i := 2) rfl))
theorem dX12_has_161 : decode cX12_has 161 = .ok (.ireturn, 1) := of_decide_eq_true (List.all_eq_true.mp dsX12_has_1_ok (161, (.ireturn, 1)) (List.mem_of_getElem? (i := 3) rfl))
theorem dX12_has_162 : decode cX12_has 162 = .ok (.iconst (-1), 1) := of_decide_eq_true (List.all_eq_true.mp dsX12_has_1_ok (162, (.iconst (-1), 1)) (List.mem_of_getElem? (i := 4) rfl))
theorem dX12_has_163 : decode cX12_has 163 = .ok (.ireturn, 1) := of_decide_eq_true (List.all_eq_true.mp dsX12_has_1_ok (163, (.ireturn, 1)) (List.mem_of_getElem? (i := 5) rfl))
def fX12_has (N : Nat) (mmI : Nat → Int32) (mmJ : Nat → Int64) (mm_milesToldF : Nat → Int32) (mm_earsF : Nat → Int32) (mm_placesF : Nat → Int32) (mm_nightOfF : Nat → Int32) (mm_mileOfF : Nat → Int32) (mm_roundsOfF : Nat → Int32) (mm_talkingOfF : Nat → Int32) (mm_hushOfF : Nat → Int32) (mm_keptManyF : Nat → Int32)  (p1 : Int32) : Option (Int32) :=
  (if p1 = 0 then (xq_bd (xq_ald 2 mm_milesToldF (mmI 13)) fun v_1 => some v_1) else (if p1 = 1 then (xq_bd (xq_ald 2 mm_earsF (mmI 13)) fun v_2 => some v_2) else (if p1 = 2 then (xq_bd (xq_ald 2 mm_placesF (mmI 13)) fun v_3 => some v_3) else (if p1 = 3 then (xq_bd (xq_ald 22 mm_nightOfF 0) fun v_4 => some v_4) else (if p1 = 4 then (xq_bd (xq_ald 22 mm_mileOfF 0) fun v_5 => some v_5) else (if p1 = 5 then (xq_bd (xq_ald 22 mm_roundsOfF 0) fun v_6 => some v_6) else (if p1 = 6 then (xq_bd (xq_ald 22 mm_talkingOfF 0) fun v_7 => some v_7) else (if p1 = 7 then (xq_bd (xq_ald 22 mm_hushOfF 0) fun v_8 => some v_8) else (if p1 = 8 then (xq_bd (fX12_farOf N mmI mm_mileOfF mm_milesToldF 0) fun r_9 => some r_9) else (if p1 = 9 then (xq_bd (xq_ald 22 mm_keptManyF 0) fun v_11 => some v_11) else (if p1 = 10 then some (mmI 62) else (if p1 = 11 then some (mmI 55) else (if p1 = 12 then some ((mmJ 56).toInt32) else some ((-1)))))))))))))))
set_option maxHeartbeats 4000000 in
set_option maxRecDepth 100000 in
theorem kX12_has (l : Launch) (dC : Nat → ClassId) (dI : Nat → Nat → Nat) (cI cB cJ cZ cM : ClassId) (z : Nat) (ad : Nat → Nat) (N : Nat) (a_p0 : Nat) (mmI : Nat → Int32) (mmJ : Nat → Int64) (mmR : Nat → Nat) (mm_milesToldF : Nat → Int32) (mm_earsF : Nat → Int32) (mm_placesF : Nat → Int32) (mm_nightOfF : Nat → Int32) (mm_mileOfF : Nat → Int32) (mm_roundsOfF : Nat → Int32) (mm_talkingOfF : Nat → Int32) (mm_hushOfF : Nat → Int32) (mm_keptManyF : Nat → Int32) (p1 : Int32) {r0 : Int32} (hf : fX12_has N mmI mmJ mm_milesToldF mm_earsF mm_placesF mm_nightOfF mm_mileOfF mm_roundsOfF mm_talkingOfF mm_hushOfF mm_keptManyF p1 = some r0) : xq_Ct l yX12_has wsX12_has { frames := 1, cells := 0, slots := 0, locals := 21 } (dC, dI) vwCl (xq_tys cI cB cJ cZ cM) z ad [.ref a_p0, .int p1] [(a_p0, .inr (12, oX12 mmI mmJ mmR)), ((mmR 14), .inl (cI, 2, .inl mm_milesToldF)), ((mmR 18), .inl (cI, 2, .inl mm_earsF)), ((mmR 21), .inl (cI, 2, .inl mm_placesF)), ((mmR 45), .inl (cI, 22, .inl mm_nightOfF)), ((mmR 46), .inl (cI, 22, .inl mm_mileOfF)), ((mmR 47), .inl (cI, 22, .inl mm_roundsOfF)), ((mmR 48), .inl (cI, 22, .inl mm_talkingOfF)), ((mmR 49), .inl (cI, 22, .inl mm_hushOfF)), ((mmR 52), .inl (cI, 22, .inl mm_keptManyF))] [(a_p0, .inr (12, oX12 mmI mmJ mmR)), ((mmR 14), .inl (cI, 2, .inl mm_milesToldF)), ((mmR 18), .inl (cI, 2, .inl mm_earsF)), ((mmR 21), .inl (cI, 2, .inl mm_placesF)), ((mmR 45), .inl (cI, 22, .inl mm_nightOfF)), ((mmR 46), .inl (cI, 22, .inl mm_mileOfF)), ((mmR 47), .inl (cI, 22, .inl mm_roundsOfF)), ((mmR 48), .inl (cI, 22, .inl mm_talkingOfF)), ((mmR 49), .inl (cI, 22, .inl mm_hushOfF)), ((mmR 52), .inl (cI, 22, .inl mm_keptManyF))] (some (.int r0)) := by
  intro sz
  refine Met.ofW (cc := cX12_has) (maxL := 2) (ret := (some .int)) (by decide) rfl ?_
  intro p e s m args below meth c s₁ B hml hv
  obtain ⟨rfl, hsz, hP, hK, hD0, hE, hz⟩ := hv
  have hx := B.exec
  have hb := B.bytes
  have hr := B.returns
  have hts := atoms_spec (ws := wsX12_has) B.pre
  have hown : s.vm.findClass RX12 = some m.cls := findClass_of_methodNamed B.named
  have hlocks := B.notSynchronized
  subst hsz
  have hD := hD0.self (sz := s.heap.size)
  have hN := xq_Env.of hE hz hD0
  generalize hAe : va_A [(a_p0, .inr (12, oX12 mmI mmJ mmR)), ((mmR 14), .inl (cI, 2, .inl mm_milesToldF)), ((mmR 18), .inl (cI, 2, .inl mm_earsF)), ((mmR 21), .inl (cI, 2, .inl mm_placesF)), ((mmR 45), .inl (cI, 22, .inl mm_nightOfF)), ((mmR 46), .inl (cI, 22, .inl mm_mileOfF)), ((mmR 47), .inl (cI, 22, .inl mm_roundsOfF)), ((mmR 48), .inl (cI, 22, .inl mm_talkingOfF)), ((mmR 49), .inl (cI, 22, .inl mm_hushOfF)), ((mmR 52), .inl (cI, 22, .inl mm_keptManyF))] s.heap.size = A at hD hN ⊢
  have hA : ∀ q : Nat, s.heap.size ≤ q → A q := fun q h => by rw [← hAe]; exact Or.inr h
  clear hAe hD0
  have hS : va_S A s.heap s.heap [] := va_S.rf
  have hl := lv_entry ([.ref a_p0, .int p1]) (n := 2) (Nat.le_of_ble_eq_true rfl)
  rw [lg_entry_eq]
  generalize (lg_sl ([.ref a_p0, .int p1]) ++ List.replicate (2 - (lg_sl ([.ref a_p0, .int p1])).length) Slot.unset).toArray = ls at hl ⊢
  have hl : lv_has ls 2 [(0, .ref a_p0), (1, .int p1)] := hl
  have hw0 := hts (.fieldLink RX12 54 "DistantVoiceModel" "milesTold" "[I") (by decide +kernel)
  have hinX12 : ∀ w ∈ wsX120, w ∈ wsX12_has := fun w h => List.mem_cons_of_mem _ (List.mem_append_right _ h)
  have hw2 := hts (.fieldLink RX12 51 "DistantVoiceModel" "bank" "I") (by decide +kernel)
  have hw3 := hts (.fieldLink RX12 66 "DistantVoiceModel" "ears" "[I") (by decide +kernel)
  have hw4 := hts (.fieldLink RX12 75 "DistantVoiceModel" "places" "[I") (by decide +kernel)
  have hw5 := hts (.fieldLink RX12 150 "DistantVoiceModel" "nightOf" "[I") (by decide +kernel)
  have hw6 := hts (.fieldLink RX12 153 "DistantVoiceModel" "mileOf" "[I") (by decide +kernel)
  have hw7 := hts (.fieldLink RX12 156 "DistantVoiceModel" "roundsOf" "[I") (by decide +kernel)
  have hw8 := hts (.fieldLink RX12 159 "DistantVoiceModel" "talkingOf" "[I") (by decide +kernel)
  have hw9 := hts (.fieldLink RX12 162 "DistantVoiceModel" "hushOf" "[I") (by decide +kernel)
  have hw10 := hts (.fieldLink RX12 171 "DistantVoiceModel" "keptMany" "[I") (by decide +kernel)
  have hw11 := hts (.fieldLink RX12 201 "DistantVoiceModel" "marked" "I") (by decide +kernel)
  have hw12 := hts (.fieldLink RX12 180 "DistantVoiceModel" "undos" "I") (by decide +kernel)
  have hw13 := hts (.fieldLink RX12 183 "DistantVoiceModel" "seeds" "J") (by decide +kernel)
  unfold fX12_has at hf
  refine lv_iload_n hx hb dX12_has_0 rfl (lv_at hl 1 rfl) ?_
  by_cases c0 : p1 = 0
  · have hf := xq_pos hf c0
    refine lv_tableIn (tgt := 68) hx hb dX12_has_1 (by rw [c0]; decide) (by rw [c0]; decide) (off := 67) (by rw [c0]; decide) (by decide) ?_
    refine lv_aload_n hx hb dX12_has_68 rfl (lv_at hl 0 rfl) ?_
    refine va_get (D := (dC, dI)) (ci := 12) (v := .ref ((mmR 14))) (C := RX12) (T := TX12) (N := 70) hx hb hts hinX12 hown hK hP 0 rfl rfl 14 (by decide) hw0 (fun _ h9 => h9) rfl dX12_has_69 ?_
    refine lv_aload_n hx hb dX12_has_72 rfl (lv_at hl 0 rfl) ?_
    refine va_get (D := (dC, dI)) (ci := 12) (v := .int (mmI 13)) (C := RX12) (T := TX12) (N := 70) hx hb hts hinX12 hown hK hP 0 rfl rfl 13 (by decide) hw2 (fun _ h9 => h9) rfl dX12_has_73 ?_
    refine xq_iald hx hb hK hP 1 0 rfl rfl hf dX12_has_76 (fun v_1 hf => ?_)
    have e9_0 : v_1 = r0 := Option.some.inj hf
    subst e9_0
    exact xq_iret hx hb hr hlocks hK hP hD hS dX12_has_77
  · have hf := xq_neg hf c0
    by_cases c1 : p1 = 1
    · have hf := xq_pos hf c1
      refine lv_tableIn (tgt := 78) hx hb dX12_has_1 (by rw [c1]; decide) (by rw [c1]; decide) (off := 77) (by rw [c1]; decide) (by decide) ?_
      refine lv_aload_n hx hb dX12_has_78 rfl (lv_at hl 0 rfl) ?_
      refine va_get (D := (dC, dI)) (ci := 12) (v := .ref ((mmR 18))) (C := RX12) (T := TX12) (N := 70) hx hb hts hinX12 hown hK hP 0 rfl rfl 18 (by decide) hw3 (fun _ h9 => h9) rfl dX12_has_79 ?_
      refine lv_aload_n hx hb dX12_has_82 rfl (lv_at hl 0 rfl) ?_
      refine va_get (D := (dC, dI)) (ci := 12) (v := .int (mmI 13)) (C := RX12) (T := TX12) (N := 70) hx hb hts hinX12 hown hK hP 0 rfl rfl 13 (by decide) hw2 (fun _ h9 => h9) rfl dX12_has_83 ?_
      refine xq_iald hx hb hK hP 2 0 rfl rfl hf dX12_has_86 (fun v_2 hf => ?_)
      have e9_0 : v_2 = r0 := Option.some.inj hf
      subst e9_0
      exact xq_iret hx hb hr hlocks hK hP hD hS dX12_has_87
    · have hf := xq_neg hf c1
      by_cases c2 : p1 = 2
      · have hf := xq_pos hf c2
        refine lv_tableIn (tgt := 88) hx hb dX12_has_1 (by rw [c2]; decide) (by rw [c2]; decide) (off := 87) (by rw [c2]; decide) (by decide) ?_
        refine lv_aload_n hx hb dX12_has_88 rfl (lv_at hl 0 rfl) ?_
        refine va_get (D := (dC, dI)) (ci := 12) (v := .ref ((mmR 21))) (C := RX12) (T := TX12) (N := 70) hx hb hts hinX12 hown hK hP 0 rfl rfl 21 (by decide) hw4 (fun _ h9 => h9) rfl dX12_has_89 ?_
        refine lv_aload_n hx hb dX12_has_92 rfl (lv_at hl 0 rfl) ?_
        refine va_get (D := (dC, dI)) (ci := 12) (v := .int (mmI 13)) (C := RX12) (T := TX12) (N := 70) hx hb hts hinX12 hown hK hP 0 rfl rfl 13 (by decide) hw2 (fun _ h9 => h9) rfl dX12_has_93 ?_
        refine xq_iald hx hb hK hP 3 0 rfl rfl hf dX12_has_96 (fun v_3 hf => ?_)
        have e9_0 : v_3 = r0 := Option.some.inj hf
        subst e9_0
        exact xq_iret hx hb hr hlocks hK hP hD hS dX12_has_97
      · have hf := xq_neg hf c2
        by_cases c3 : p1 = 3
        · have hf := xq_pos hf c3
          refine lv_tableIn (tgt := 98) hx hb dX12_has_1 (by rw [c3]; decide) (by rw [c3]; decide) (off := 97) (by rw [c3]; decide) (by decide) ?_
          refine lv_aload_n hx hb dX12_has_98 rfl (lv_at hl 0 rfl) ?_
          refine va_get (D := (dC, dI)) (ci := 12) (v := .ref ((mmR 45))) (C := RX12) (T := TX12) (N := 70) hx hb hts hinX12 hown hK hP 0 rfl rfl 45 (by decide) hw5 (fun _ h9 => h9) rfl dX12_has_99 ?_
          refine lv_iconst (v := 0) hx hb dX12_has_102 (by decide) ?_
          refine xq_iald hx hb hK hP 4 0 rfl rfl hf dX12_has_103 (fun v_4 hf => ?_)
          have e9_0 : v_4 = r0 := Option.some.inj hf
          subst e9_0
          exact xq_iret hx hb hr hlocks hK hP hD hS dX12_has_104
        · have hf := xq_neg hf c3
          by_cases c4 : p1 = 4
          · have hf := xq_pos hf c4
            refine lv_tableIn (tgt := 105) hx hb dX12_has_1 (by rw [c4]; decide) (by rw [c4]; decide) (off := 104) (by rw [c4]; decide) (by decide) ?_
            refine lv_aload_n hx hb dX12_has_105 rfl (lv_at hl 0 rfl) ?_
            refine va_get (D := (dC, dI)) (ci := 12) (v := .ref ((mmR 46))) (C := RX12) (T := TX12) (N := 70) hx hb hts hinX12 hown hK hP 0 rfl rfl 46 (by decide) hw6 (fun _ h9 => h9) rfl dX12_has_106 ?_
            refine lv_iconst (v := 0) hx hb dX12_has_109 (by decide) ?_
            refine xq_iald hx hb hK hP 5 0 rfl rfl hf dX12_has_110 (fun v_5 hf => ?_)
            have e9_0 : v_5 = r0 := Option.some.inj hf
            subst e9_0
            exact xq_iret hx hb hr hlocks hK hP hD hS dX12_has_111
          · have hf := xq_neg hf c4
            by_cases c5 : p1 = 5
            · have hf := xq_pos hf c5
              refine lv_tableIn (tgt := 112) hx hb dX12_has_1 (by rw [c5]; decide) (by rw [c5]; decide) (off := 111) (by rw [c5]; decide) (by decide) ?_
              refine lv_aload_n hx hb dX12_has_112 rfl (lv_at hl 0 rfl) ?_
              refine va_get (D := (dC, dI)) (ci := 12) (v := .ref ((mmR 47))) (C := RX12) (T := TX12) (N := 70) hx hb hts hinX12 hown hK hP 0 rfl rfl 47 (by decide) hw7 (fun _ h9 => h9) rfl dX12_has_113 ?_
              refine lv_iconst (v := 0) hx hb dX12_has_116 (by decide) ?_
              refine xq_iald hx hb hK hP 6 0 rfl rfl hf dX12_has_117 (fun v_6 hf => ?_)
              have e9_0 : v_6 = r0 := Option.some.inj hf
              subst e9_0
              exact xq_iret hx hb hr hlocks hK hP hD hS dX12_has_118
            · have hf := xq_neg hf c5
              by_cases c6 : p1 = 6
              · have hf := xq_pos hf c6
                refine lv_tableIn (tgt := 119) hx hb dX12_has_1 (by rw [c6]; decide) (by rw [c6]; decide) (off := 118) (by rw [c6]; decide) (by decide) ?_
                refine lv_aload_n hx hb dX12_has_119 rfl (lv_at hl 0 rfl) ?_
                refine va_get (D := (dC, dI)) (ci := 12) (v := .ref ((mmR 48))) (C := RX12) (T := TX12) (N := 70) hx hb hts hinX12 hown hK hP 0 rfl rfl 48 (by decide) hw8 (fun _ h9 => h9) rfl dX12_has_120 ?_
                refine lv_iconst (v := 0) hx hb dX12_has_123 (by decide) ?_
                refine xq_iald hx hb hK hP 7 0 rfl rfl hf dX12_has_124 (fun v_7 hf => ?_)
                have e9_0 : v_7 = r0 := Option.some.inj hf
                subst e9_0
                exact xq_iret hx hb hr hlocks hK hP hD hS dX12_has_125
              · have hf := xq_neg hf c6
                by_cases c7 : p1 = 7
                · have hf := xq_pos hf c7
                  refine lv_tableIn (tgt := 126) hx hb dX12_has_1 (by rw [c7]; decide) (by rw [c7]; decide) (off := 125) (by rw [c7]; decide) (by decide) ?_
                  refine lv_aload_n hx hb dX12_has_126 rfl (lv_at hl 0 rfl) ?_
                  refine va_get (D := (dC, dI)) (ci := 12) (v := .ref ((mmR 49))) (C := RX12) (T := TX12) (N := 70) hx hb hts hinX12 hown hK hP 0 rfl rfl 49 (by decide) hw9 (fun _ h9 => h9) rfl dX12_has_127 ?_
                  refine lv_iconst (v := 0) hx hb dX12_has_130 (by decide) ?_
                  refine xq_iald hx hb hK hP 8 0 rfl rfl hf dX12_has_131 (fun v_8 hf => ?_)
                  have e9_0 : v_8 = r0 := Option.some.inj hf
                  subst e9_0
                  exact xq_iret hx hb hr hlocks hK hP hD hS dX12_has_132
                · have hf := xq_neg hf c7
                  by_cases c8 : p1 = 8
                  · have hf := xq_pos hf c8
                    refine lv_tableIn (tgt := 133) hx hb dX12_has_1 (by rw [c8]; decide) (by rw [c8]; decide) (off := 132) (by rw [c8]; decide) (by decide) ?_
                    refine lv_aload_n hx hb dX12_has_133 rfl (lv_at hl 0 rfl) ?_
                    refine lv_iconst (v := 0) hx hb dX12_has_134 (by decide) ?_
                    obtain ⟨r_9, h_10, hf⟩ := xq_bd_some hf
                    refine xq_callV (As := [.int 0]) (rest := []) (ci := 12) (q0 := 0) ⟨hx, hb, hml, hown, hts⟩ (kX12_farOf l dC dI cI cB cJ cZ cM z ad N a_p0 mmI mmJ mmR mm_mileOfF mm_milesToldF 0 h_10) (cwV 1 hts gX12_has_X12_farOf rfl rfl rfl (by decide +kernel) ⟨Nat.le_of_ble_eq_true rfl, Nat.le_of_ble_eq_true rfl⟩) hN hK hP hD hS hA [0, 5, 1] (by decide) rfl rfl rfl rfl rfl rfl hl.1 rfl (Nat.le_of_ble_eq_true rfl) dX12_has_135 ⟨Nat.zero_le _, Nat.zero_le _⟩ (fun H locs hP hD hS => ?_)
                    have hP : va_P (dC, dI) vwCl [(a_p0, .inr (12, oX12 mmI mmJ mmR)), ((mmR 14), .inl (cI, 2, .inl mm_milesToldF)), ((mmR 18), .inl (cI, 2, .inl mm_earsF)), ((mmR 21), .inl (cI, 2, .inl mm_placesF)), ((mmR 45), .inl (cI, 22, .inl mm_nightOfF)), ((mmR 46), .inl (cI, 22, .inl mm_mileOfF)), ((mmR 47), .inl (cI, 22, .inl mm_roundsOfF)), ((mmR 48), .inl (cI, 22, .inl mm_talkingOfF)), ((mmR 49), .inl (cI, 22, .inl mm_hushOfF)), ((mmR 52), .inl (cI, 22, .inl mm_keptManyF))] H := hP
                    have hD : va_D A [(a_p0, .inr (12, oX12 mmI mmJ mmR)), ((mmR 14), .inl (cI, 2, .inl mm_milesToldF)), ((mmR 18), .inl (cI, 2, .inl mm_earsF)), ((mmR 21), .inl (cI, 2, .inl mm_placesF)), ((mmR 45), .inl (cI, 22, .inl mm_nightOfF)), ((mmR 46), .inl (cI, 22, .inl mm_mileOfF)), ((mmR 47), .inl (cI, 22, .inl mm_roundsOfF)), ((mmR 48), .inl (cI, 22, .inl mm_talkingOfF)), ((mmR 49), .inl (cI, 22, .inl mm_hushOfF)), ((mmR 52), .inl (cI, 22, .inl mm_keptManyF))] := hD
                    refine W.eq (g2 := F0 m 138 ls [.int r_9]) rfl ?_
                    have e9_0 : r_9 = r0 := Option.some.inj hf
                    subst e9_0
                    exact xq_iret hx hb hr hlocks hK hP hD hS dX12_has_138
                  · have hf := xq_neg hf c8
                    by_cases c9 : p1 = 9
                    · have hf := xq_pos hf c9
                      refine lv_tableIn (tgt := 139) hx hb dX12_has_1 (by rw [c9]; decide) (by rw [c9]; decide) (off := 138) (by rw [c9]; decide) (by decide) ?_
                      refine lv_aload_n hx hb dX12_has_139 rfl (lv_at hl 0 rfl) ?_
                      refine va_get (D := (dC, dI)) (ci := 12) (v := .ref ((mmR 52))) (C := RX12) (T := TX12) (N := 70) hx hb hts hinX12 hown hK hP 0 rfl rfl 52 (by decide) hw10 (fun _ h9 => h9) rfl dX12_has_140 ?_
                      refine lv_iconst (v := 0) hx hb dX12_has_143 (by decide) ?_
                      refine xq_iald hx hb hK hP 9 0 rfl rfl hf dX12_has_144 (fun v_11 hf => ?_)
                      have e9_0 : v_11 = r0 := Option.some.inj hf
                      subst e9_0
                      exact xq_iret hx hb hr hlocks hK hP hD hS dX12_has_145
                    · have hf := xq_neg hf c9
                      by_cases c10 : p1 = 10
                      · have hf := xq_pos hf c10
                        refine lv_tableIn (tgt := 146) hx hb dX12_has_1 (by rw [c10]; decide) (by rw [c10]; decide) (off := 145) (by rw [c10]; decide) (by decide) ?_
                        refine lv_aload_n hx hb dX12_has_146 rfl (lv_at hl 0 rfl) ?_
                        refine va_get (D := (dC, dI)) (ci := 12) (v := .int (mmI 62)) (C := RX12) (T := TX12) (N := 70) hx hb hts hinX12 hown hK hP 0 rfl rfl 62 (by decide) hw11 (fun _ h9 => h9) rfl dX12_has_147 ?_
                        have e9_0 : mmI 62 = r0 := Option.some.inj hf
                        subst e9_0
                        exact xq_iret hx hb hr hlocks hK hP hD hS dX12_has_150
                      · have hf := xq_neg hf c10
                        by_cases c11 : p1 = 11
                        · have hf := xq_pos hf c11
                          refine lv_tableIn (tgt := 151) hx hb dX12_has_1 (by rw [c11]; decide) (by rw [c11]; decide) (off := 150) (by rw [c11]; decide) (by decide) ?_
                          refine lv_aload_n hx hb dX12_has_151 rfl (lv_at hl 0 rfl) ?_
                          refine va_get (D := (dC, dI)) (ci := 12) (v := .int (mmI 55)) (C := RX12) (T := TX12) (N := 70) hx hb hts hinX12 hown hK hP 0 rfl rfl 55 (by decide) hw12 (fun _ h9 => h9) rfl dX12_has_152 ?_
                          have e9_0 : mmI 55 = r0 := Option.some.inj hf
                          subst e9_0
                          exact xq_iret hx hb hr hlocks hK hP hD hS dX12_has_155
                        · have hf := xq_neg hf c11
                          by_cases c12 : p1 = 12
                          · have hf := xq_pos hf c12
                            refine lv_tableIn (tgt := 156) hx hb dX12_has_1 (by rw [c12]; decide) (by rw [c12]; decide) (off := 155) (by rw [c12]; decide) (by decide) ?_
                            refine lv_aload_n hx hb dX12_has_156 rfl (lv_at hl 0 rfl) ?_
                            refine va_get (D := (dC, dI)) (ci := 12) (v := .long (mmJ 56)) (C := RX12) (T := TX12) (N := 70) hx hb hts hinX12 hown hK hP 0 rfl rfl 56 (by decide) hw13 (fun _ h9 => h9) rfl dX12_has_157 ?_
                            refine lv_l2i (v := (mmJ 56).toInt32) hx hb dX12_has_160 rfl ?_
                            have e9_0 : (mmJ 56).toInt32 = r0 := Option.some.inj hf
                            subst e9_0
                            exact xq_iret hx hb hr hlocks hK hP hD hS dX12_has_161
                          · have hf := xq_neg hf c12
                            have e0 := lv_neT c0 (a := 0) (by decide)
                            have e1 := lv_neT c1 (a := 1) (by decide)
                            have e2 := lv_neT c2 (a := 2) (by decide)
                            have e3 := lv_neT c3 (a := 3) (by decide)
                            have e4 := lv_neT c4 (a := 4) (by decide)
                            have e5 := lv_neT c5 (a := 5) (by decide)
                            have e6 := lv_neT c6 (a := 6) (by decide)
                            have e7 := lv_neT c7 (a := 7) (by decide)
                            have e8 := lv_neT c8 (a := 8) (by decide)
                            have e9 := lv_neT c9 (a := 9) (by decide)
                            have e10 := lv_neT c10 (a := 10) (by decide)
                            have e11 := lv_neT c11 (a := 11) (by decide)
                            have e12 := lv_neT c12 (a := 12) (by decide)
                            refine lv_tableOut (tgt := 162) hx hb dX12_has_1 (by omega) (by decide) ?_
                            refine lv_iconst (v := (-1)) hx hb dX12_has_162 (by decide) ?_
                            have e9_0 : (-1) = r0 := Option.some.inj hf
                            subst e9_0
                            exact xq_iret hx hb hr hlocks hK hP hD hS dX12_has_163
