def dsX12_has2_0 : List (Nat × Instr × Nat) := [(0, (.iload_n 0, 1)), (1, (.iload_n 1, 1)), (2, (.ishr, 1)), (3, (.iconst 1, 1)), (4, (.iand, 1)), (5, (.iconst 1, 1)), (6, (.if_icmp .ne 7, 3)), (9, (.iconst 1, 1)), (10, (.goto 4, 3)), (13, (.iconst 0, 1)), (14, (.ireturn, 1))]
theorem dsX12_has2_0_ok : (dsX12_has2_0.all fun q => decide (decode cX12_has2 q.1 = .ok q.2)) = true := by decide +kernel
theorem dX12_has2_0 : decode cX12_has2 0 = .ok (.iload_n 0, 1) := of_decide_eq_true (List.all_eq_true.mp dsX12_has2_0_ok (0, (.iload_n 0, 1)) (List.mem_of_getElem? (i := 0) rfl))
theorem dX12_has2_1 : decode cX12_has2 1 = .ok (.iload_n 1, 1) := of_decide_eq_true (List.all_eq_true.mp dsX12_has2_0_ok (1, (.iload_n 1, 1)) (List.mem_of_getElem? (i := 1) rfl))
theorem dX12_has2_2 : decode cX12_has2 2 = .ok (.ishr, 1) := of_decide_eq_true (List.all_eq_true.mp dsX12_has2_0_ok (2, (.ishr, 1)) (List.mem_of_getElem? (i := 2) rfl))
theorem dX12_has2_3 : decode cX12_has2 3 = .ok (.iconst 1, 1) := of_decide_eq_true (List.all_eq_true.mp dsX12_has2_0_ok (3, (.iconst 1, 1)) (List.mem_of_getElem? (i := 3) rfl))
theorem dX12_has2_4 : decode cX12_has2 4 = .ok (.iand, 1) := of_decide_eq_true (List.all_eq_true.mp dsX12_has2_0_ok (4, (.iand, 1)) (List.mem_of_getElem? (i := 4) rfl))
theorem dX12_has2_5 : decode cX12_has2 5 = .ok (.iconst 1, 1) := of_decide_eq_true (List.all_eq_true.mp dsX12_has2_0_ok (5, (.iconst 1, 1)) (List.mem_of_getElem? (i := 5) rfl))
theorem dX12_has2_6 : decode cX12_has2 6 = .ok (.if_icmp .ne 7, 3) := of_decide_eq_true (List.all_eq_true.mp dsX12_has2_0_ok (6, (.if_icmp .ne 7, 3)) (List.mem_of_getElem? (i := 6) rfl))
theorem dX12_has2_9 : decode cX12_has2 9 = .ok (.iconst 1, 1) := of_decide_eq_true (List.all_eq_true.mp dsX12_has2_0_ok (9, (.iconst 1, 1)) (List.mem_of_getElem? (i := 7) rfl))
theorem dX12_has2_10 : decode cX12_has2 10 = .ok (.goto 4, 3) := of_decide_eq_true (List.all_eq_true.mp dsX12_has2_0_ok (10, (.goto 4, 3)) (List.mem_of_getElem? (i := 8) rfl))
theorem dX12_has2_13 : decode cX12_has2 13 = .ok (.iconst 0, 1) := of_decide_eq_true (List.all_eq_true.mp dsX12_has2_0_ok (13, (.iconst 0, 1)) (List.mem_of_getElem? (i := 9) rfl))
theorem dX12_has2_14 : decode cX12_has2 14 = .ok (.ireturn, 1) := of_decide_eq_true (List.all_eq_true.mp dsX12_has2_0_ok (14, (.ireturn, 1)) (List.mem_of_getElem? (i := 10) rfl))
def fX12_has2 (N : Nat)   (p0 : Int32) (p1 : Int32) : Option (Int32) :=
  (if ((p0 >>> (p1 &&& 31)) &&& 1) = 1 then some 1 else some 0)
set_option maxHeartbeats 4000000 in
set_option maxRecDepth 100000 in
theorem kX12_has2 (l : Launch) (dC : Nat → ClassId) (dI : Nat → Nat → Nat) (cI cB cJ cZ cM : ClassId) (z : Nat) (ad : Nat → Nat) (N : Nat) (p0 : Int32) (p1 : Int32) {r0 : Int32} (hf : fX12_has2 N p0 p1 = some r0) : xq_Ct l yX12_has2 wsX12_has2 { frames := 0, cells := 0, slots := 0, locals := 0 } (dC, dI) vwCl (xq_tys cI cB cJ cZ cM) z ad [.int p0, .int p1] [] [] (some (.int r0)) := by
  intro sz
  refine Met.ofW (cc := cX12_has2) (maxL := 2) (ret := (some .boolean)) (by decide) rfl ?_
  intro p e s m args below meth c s₁ B hml hv
  obtain ⟨rfl, hsz, hP, hK, hD0, hE, hz⟩ := hv
  have hx := B.exec
  have hb := B.bytes
  have hr := B.returns
  have hts := atoms_spec (ws := wsX12_has2) B.pre
  have hown : s.vm.findClass RX12 = some m.cls := findClass_of_methodNamed B.named
  have hlocks := B.notSynchronized
  subst hsz
  have hD := hD0.self (sz := s.heap.size)
  have hN := xq_Env.of hE hz hD0
  generalize hAe : va_A [] s.heap.size = A at hD hN ⊢
  have hA : ∀ q : Nat, s.heap.size ≤ q → A q := fun q h => by rw [← hAe]; exact Or.inr h
  clear hAe hD0
  have hS : va_S A s.heap s.heap [] := va_S.rf
  have hl := lv_entry ([.int p0, .int p1]) (n := 2) (Nat.le_of_ble_eq_true rfl)
  rw [lg_entry_eq]
  generalize (lg_sl ([.int p0, .int p1]) ++ List.replicate (2 - (lg_sl ([.int p0, .int p1])).length) Slot.unset).toArray = ls at hl ⊢
  have hl : lv_has ls 2 [(0, .int p0), (1, .int p1)] := hl
  unfold fX12_has2 at hf
  refine lv_iload_n hx hb dX12_has2_0 rfl (lv_at hl 0 rfl) ?_
  refine lv_iload_n hx hb dX12_has2_1 rfl (lv_at hl 1 rfl) ?_
  refine lv_ishr hx hb dX12_has2_2 ?_
  refine lv_iconst (v := 1) hx hb dX12_has2_3 (by decide) ?_
  refine lv_iand hx hb dX12_has2_4 ?_
  refine lv_iconst (v := 1) hx hb dX12_has2_5 (by decide) ?_
  refine lv_icmp_ne (tgt := 13) hx hb dX12_has2_6 (by decide) (fun c_ => ?_) (fun c_ => ?_)
  · have hf := xq_neg hf c_
    refine lv_iconst (v := 0) hx hb dX12_has2_13 (by decide) ?_
    have e9_0 : 0 = r0 := Option.some.inj hf
    subst e9_0
    exact xq_zret hx hb hr (by decide +kernel) hlocks hK hP hD hS dX12_has2_14
  · have hf := xq_pos hf c_
    refine lv_iconst (v := 1) hx hb dX12_has2_9 (by decide) ?_
    refine lv_goto (tgt := 14) hx hb dX12_has2_10 (by decide) ?_
    have e9_0 : 1 = r0 := Option.some.inj hf
    subst e9_0
    exact xq_zret hx hb hr (by decide +kernel) hlocks hK hP hD hS dX12_has2_14
def dsX12_fault_0 : List (Nat × Instr × Nat) := [(0, (.iload_n 1, 1)), (1, (.ifCond .ne 10, 3)), (4, (.aload_n 0, 1)), (5, (.getfield 42, 3)), (8, (.goto 16, 3)), (11, (.iload_n 1, 1)), (12, (.iconst 1, 1)), (13, (.if_icmp .ne 10, 3)), (16, (.aload_n 0, 1)), (17, (.getfield 45, 3)), (20, (.goto 4, 3)), (23, (.iconst (-1), 1)), (24, (.ireturn, 1))]
theorem dsX12_fault_0_ok : (dsX12_fault_0.all fun q => decide (decode cX12_fault q.1 = .ok q.2)) = true := by decide +kernel
theorem dX12_fault_0 : decode cX12_fault 0 = .ok (.iload_n 1, 1) := of_decide_eq_true (List.all_eq_true.mp dsX12_fault_0_ok (0, (.iload_n 1, 1)) (List.mem_of_getElem? (i := 0) rfl))
theorem dX12_fault_1 : decode cX12_fault 1 = .ok (.ifCond .ne 10, 3) := of_decide_eq_true (List.all_eq_true.mp dsX12_fault_0_ok (1, (.ifCond .ne 10, 3)) (List.mem_of_getElem? (i := 1) rfl))
theorem dX12_fault_4 : decode cX12_fault 4 = .ok (.aload_n 0, 1) := of_decide_eq_true (List.all_eq_true.mp dsX12_fault_0_ok (4, (.aload_n 0, 1)) (List.mem_of_getElem? (i := 2) rfl))
theorem dX12_fault_5 : decode cX12_fault 5 = .ok (.getfield 42, 3) := of_decide_eq_true (List.all_eq_true.mp dsX12_fault_0_ok (5, (.getfield 42, 3)) (List.mem_of_getElem? (i := 3) rfl))
theorem dX12_fault_8 : decode cX12_fault 8 = .ok (.goto 16, 3) := of_decide_eq_true (List.all_eq_true.mp dsX12_fault_0_ok (8, (.goto 16, 3)) (List.mem_of_getElem? (i := 4) rfl))
theorem dX12_fault_11 : decode cX12_fault 11 = .ok (.iload_n 1, 1) := of_decide_eq_true (List.all_eq_true.mp dsX12_fault_0_ok (11, (.iload_n 1, 1)) (List.mem_of_getElem? (i := 5) rfl))
theorem dX12_fault_12 : decode cX12_fault 12 = .ok (.iconst 1, 1) := of_decide_eq_true (List.all_eq_true.mp dsX12_fault_0_ok (12, (.iconst 1, 1)) (List.mem_of_getElem? (i := 6) rfl))
theorem dX12_fault_13 : decode cX12_fault 13 = .ok (.if_icmp .ne 10, 3) := of_decide_eq_true (List.all_eq_true.mp dsX12_fault_0_ok (13, (.if_icmp .ne 10, 3)) (List.mem_of_getElem? (i := 7) rfl))
theorem dX12_fault_16 : decode cX12_fault 16 = .ok (.aload_n 0, 1) := of_decide_eq_true (List.all_eq_true.mp dsX12_fault_0_ok (16, (.aload_n 0, 1)) (List.mem_of_getElem? (i := 8) rfl))
theorem dX12_fault_17 : decode cX12_fault 17 = .ok (.getfield 45, 3) := of_decide_eq_true (List.all_eq_true.mp dsX12_fault_0_ok (17, (.getfield 45, 3)) (List.mem_of_getElem? (i := 9) rfl))
theorem dX12_fault_20 : decode cX12_fault 20 = .ok (.goto 4, 3) := of_decide_eq_true (List.all_eq_true.mp dsX12_fault_0_ok (20, (.goto 4, 3)) (List.mem_of_getElem? (i := 10) rfl))
theorem dX12_fault_23 : decode cX12_fault 23 = .ok (.iconst (-1), 1) := of_decide_eq_true (List.all_eq_true.mp dsX12_fault_0_ok (23, (.iconst (-1), 1)) (List.mem_of_getElem? (i := 11) rfl))
theorem dX12_fault_24 : decode cX12_fault 24 = .ok (.ireturn, 1) := of_decide_eq_true (List.all_eq_true.mp dsX12_fault_0_ok (24, (.ireturn, 1)) (List.mem_of_getElem? (i := 12) rfl))
def fX12_fault (N : Nat) (mmI : Nat → Int32)  (p1 : Int32) : Option (Int32) :=
  (if p1 = 0 then some (mmI 10) else (if p1 = 1 then some (mmI 11) else some ((-1))))
set_option maxHeartbeats 4000000 in
set_option maxRecDepth 100000 in
theorem kX12_fault (l : Launch) (dC : Nat → ClassId) (dI : Nat → Nat → Nat) (cI cB cJ cZ cM : ClassId) (z : Nat) (ad : Nat → Nat) (N : Nat) (a_p0 : Nat) (mmI : Nat → Int32) (mmJ : Nat → Int64) (mmR : Nat → Nat) (p1 : Int32) {r0 : Int32} (hf : fX12_fault N mmI p1 = some r0) : xq_Ct l yX12_fault wsX12_fault { frames := 0, cells := 0, slots := 0, locals := 0 } (dC, dI) vwCl (xq_tys cI cB cJ cZ cM) z ad [.ref a_p0, .int p1] [(a_p0, .inr (12, oX12 mmI mmJ mmR))] [(a_p0, .inr (12, oX12 mmI mmJ mmR))] (some (.int r0)) := by
  intro sz
  refine Met.ofW (cc := cX12_fault) (maxL := 2) (ret := (some .int)) (by decide) rfl ?_
  intro p e s m args below meth c s₁ B hml hv
  obtain ⟨rfl, hsz, hP, hK, hD0, hE, hz⟩ := hv
  have hx := B.exec
  have hb := B.bytes
  have hr := B.returns
  have hts := atoms_spec (ws := wsX12_fault) B.pre
  have hown : s.vm.findClass RX12 = some m.cls := findClass_of_methodNamed B.named
  have hlocks := B.notSynchronized
  subst hsz
  have hD := hD0.self (sz := s.heap.size)
  have hN := xq_Env.of hE hz hD0
  generalize hAe : va_A [(a_p0, .inr (12, oX12 mmI mmJ mmR))] s.heap.size = A at hD hN ⊢
  have hA : ∀ q : Nat, s.heap.size ≤ q → A q := fun q h => by rw [← hAe]; exact Or.inr h
  clear hAe hD0
  have hS : va_S A s.heap s.heap [] := va_S.rf
  have hl := lv_entry ([.ref a_p0, .int p1]) (n := 2) (Nat.le_of_ble_eq_true rfl)
  rw [lg_entry_eq]
  generalize (lg_sl ([.ref a_p0, .int p1]) ++ List.replicate (2 - (lg_sl ([.ref a_p0, .int p1])).length) Slot.unset).toArray = ls at hl ⊢
  have hl : lv_has ls 2 [(0, .ref a_p0), (1, .int p1)] := hl
  have hw0 := hts (.fieldLink RX12 45 "DistantVoiceModel" "toldPlace" "I") (by decide +kernel)
  have hinX12 : ∀ w ∈ wsX120, w ∈ wsX12_fault := fun w h => List.mem_cons_of_mem _ (List.mem_append_right _ h)
  have hw2 := hts (.fieldLink RX12 42 "DistantVoiceModel" "toldKind" "I") (by decide +kernel)
  unfold fX12_fault at hf
  refine lv_iload_n hx hb dX12_fault_0 rfl (lv_at hl 1 rfl) ?_
  refine lv_if_ne (tgt := 11) hx hb dX12_fault_1 (by decide) (fun c_ => ?_) (fun c_ => ?_)
  · have hf := xq_neg hf c_
    refine lv_iload_n hx hb dX12_fault_11 rfl (lv_at hl 1 rfl) ?_
    refine lv_iconst (v := 1) hx hb dX12_fault_12 (by decide) ?_
    refine lv_icmp_ne (tgt := 23) hx hb dX12_fault_13 (by decide) (fun c_ => ?_) (fun c_ => ?_)
    · have hf := xq_neg hf c_
      refine lv_iconst (v := (-1)) hx hb dX12_fault_23 (by decide) ?_
      have e9_0 : (-1) = r0 := Option.some.inj hf
      subst e9_0
      exact xq_iret hx hb hr hlocks hK hP hD hS dX12_fault_24
    · have hf := xq_pos hf c_
      refine lv_aload_n hx hb dX12_fault_16 rfl (lv_at hl 0 rfl) ?_
      refine va_get (D := (dC, dI)) (ci := 12) (v := .int (mmI 11)) (C := RX12) (T := TX12) (N := 70) hx hb hts hinX12 hown hK hP 0 rfl rfl 11 (by decide) hw0 (fun _ h9 => h9) rfl dX12_fault_17 ?_
      refine lv_goto (tgt := 24) hx hb dX12_fault_20 (by decide) ?_
      have e9_0 : mmI 11 = r0 := Option.some.inj hf
      subst e9_0
      exact xq_iret hx hb hr hlocks hK hP hD hS dX12_fault_24
  · have hf := xq_pos hf c_
    refine lv_aload_n hx hb dX12_fault_4 rfl (lv_at hl 0 rfl) ?_
    refine va_get (D := (dC, dI)) (ci := 12) (v := .int (mmI 10)) (C := RX12) (T := TX12) (N := 70) hx hb hts hinX12 hown hK hP 0 rfl rfl 10 (by decide) hw2 (fun _ h9 => h9) rfl dX12_fault_5 ?_
    refine lv_goto (tgt := 24) hx hb dX12_fault_8 (by decide) ?_
    have e9_0 : mmI 10 = r0 := Option.some.inj hf
    subst e9_0
    exact xq_iret hx hb hr hlocks hK hP hD hS dX12_fault_24
set_option maxRecDepth 20000 in
theorem ggX12_status_X12_is : GoodIn wsX12_status wsX12_is := goodIn_r _ [5] rfl (by decide +kernel)
set_option maxRecDepth 20000 in
theorem gX12_status_X12_is : GoodIn wsX12_status (va_wsS RX12 301 yX12_is wsX12_is) := goodIn_app (goodIn_of _ (by decide +kernel)) ggX12_status_X12_is
def dsX12_status_0 : List (Nat × Instr × Nat) := [(0, (.iload_n 1, 1)), (1, (.iconst 0, 1)), (2, (.iconst 5, 1)), (3, (.invokestatic 301, 3)), (6, (.ifCond .eq 12, 3)), (9, (.aload_n 0, 1)), (10, (.getfield 147, 3)), (13, (.iload_n 1, 1)), (14, (.iaload, 1)), (15, (.goto 4, 3)), (18, (.iconst (-1), 1)), (19, (.ireturn, 1))]
theorem dsX12_status_0_ok : (dsX12_status_0.all fun q => decide (decode cX12_status q.1 = .ok q.2)) = true := by decide +kernel
theorem dX12_status_0 : decode cX12_status 0 = .ok (.iload_n 1, 1) := of_decide_eq_true (List.all_eq_true.mp dsX12_status_0_ok (0, (.iload_n 1, 1)) (List.mem_of_getElem? (i := 0) rfl))
theorem dX12_status_1 : decode cX12_status 1 = .ok (.iconst 0, 1) := of_decide_eq_true (List.all_eq_true.mp dsX12_status_0_ok (1, (.iconst 0, 1)) (List.mem_of_getElem? (i := 1) rfl))
theorem dX12_status_2 : decode cX12_status 2 = .ok (.iconst 5, 1) := of_decide_eq_true (List.all_eq_true.mp dsX12_status_0_ok (2, (.iconst 5, 1)) (List.mem_of_getElem? (i := 2) rfl))
theorem dX12_status_3 : decode cX12_status 3 = .ok (.invokestatic 301, 3) := of_decide_eq_true (List.all_eq_true.mp dsX12_status_0_ok (3, (.invokestatic 301, 3)) (List.mem_of_getElem? (i := 3) rfl))
theorem dX12_status_6 : decode cX12_status 6 = .ok (.ifCond .eq 12, 3) := of_decide_eq_true (List.all_eq_true.mp dsX12_status_0_ok (6, (.ifCond .eq 12, 3)) (List.mem_of_getElem? (i := 4) rfl))
theorem dX12_status_9 : decode cX12_status 9 = .ok (.aload_n 0, 1) := of_decide_eq_true (List.all_eq_true.mp dsX12_status_0_ok (9, (.aload_n 0, 1)) (List.mem_of_getElem? (i := 5) rfl))
theorem dX12_status_10 : decode cX12_status 10 = .ok (.getfield 147, 3) := of_decide_eq_true (List.all_eq_true.mp dsX12_status_0_ok (10, (.getfield 147, 3)) (List.mem_of_getElem? (i := 6) rfl))
theorem dX12_status_13 : decode cX12_status 13 = .ok (.iload_n 1, 1) := of_decide_eq_true (List.all_eq_true.mp dsX12_status_0_ok (13, (.iload_n 1, 1)) (List.mem_of_getElem? (i := 7) rfl))
theorem dX12_status_14 : decode cX12_status 14 = .ok (.iaload, 1) := of_decide_eq_true (List.all_eq_true.mp dsX12_status_0_ok (14, (.iaload, 1)) (List.mem_of_getElem? (i := 8) rfl))
theorem dX12_status_15 : decode cX12_status 15 = .ok (.goto 4, 3) := of_decide_eq_true (List.all_eq_true.mp dsX12_status_0_ok (15, (.goto 4, 3)) (List.mem_of_getElem? (i := 9) rfl))
theorem dX12_status_18 : decode cX12_status 18 = .ok (.iconst (-1), 1) := of_decide_eq_true (List.all_eq_true.mp dsX12_status_0_ok (18, (.iconst (-1), 1)) (List.mem_of_getElem? (i := 10) rfl))
theorem dX12_status_19 : decode cX12_status 19 = .ok (.ireturn, 1) := of_decide_eq_true (List.all_eq_true.mp dsX12_status_0_ok (19, (.ireturn, 1)) (List.mem_of_getElem? (i := 11) rfl))
def fX12_status (N : Nat) (mm_refusedF : Nat → Int32)  (p1 : Int32) : Option (Int32) :=
  (xq_bd (fX12_is N p1 0 5) fun r_1 => (if r_1 = 0 then some ((-1)) else (xq_bd (xq_ald 6 mm_refusedF p1) fun v_3 => some v_3)))
set_option maxHeartbeats 4000000 in
set_option maxRecDepth 100000 in
theorem kX12_status (l : Launch) (dC : Nat → ClassId) (dI : Nat → Nat → Nat) (cI cB cJ cZ cM : ClassId) (z : Nat) (ad : Nat → Nat) (N : Nat) (a_p0 : Nat) (mmI : Nat → Int32) (mmJ : Nat → Int64) (mmR : Nat → Nat) (mm_refusedF : Nat → Int32) (p1 : Int32) {r0 : Int32} (hf : fX12_status N mm_refusedF p1 = some r0) : xq_Ct l yX12_status wsX12_status { frames := 1, cells := 0, slots := 0, locals := 22 } (dC, dI) vwCl (xq_tys cI cB cJ cZ cM) z ad [.ref a_p0, .int p1] [(a_p0, .inr (12, oX12 mmI mmJ mmR)), ((mmR 44), .inl (cI, 6, .inl mm_refusedF))] [(a_p0, .inr (12, oX12 mmI mmJ mmR)), ((mmR 44), .inl (cI, 6, .inl mm_refusedF))] (some (.int r0)) := by
  intro sz
  refine Met.ofW (cc := cX12_status) (maxL := 2) (ret := (some .int)) (by decide) rfl ?_
  intro p e s m args below meth c s₁ B hml hv
  obtain ⟨rfl, hsz, hP, hK, hD0, hE, hz⟩ := hv
  have hx := B.exec
  have hb := B.bytes
  have hr := B.returns
  have hts := atoms_spec (ws := wsX12_status) B.pre
  have hown : s.vm.findClass RX12 = some m.cls := findClass_of_methodNamed B.named
  have hlocks := B.notSynchronized
  subst hsz
  have hD := hD0.self (sz := s.heap.size)
  have hN := xq_Env.of hE hz hD0
  generalize hAe : va_A [(a_p0, .inr (12, oX12 mmI mmJ mmR)), ((mmR 44), .inl (cI, 6, .inl mm_refusedF))] s.heap.size = A at hD hN ⊢
  have hA : ∀ q : Nat, s.heap.size ≤ q → A q := fun q h => by rw [← hAe]; exact Or.inr h
  clear hAe hD0
  have hS : va_S A s.heap s.heap [] := va_S.rf
  have hl := lv_entry ([.ref a_p0, .int p1]) (n := 2) (Nat.le_of_ble_eq_true rfl)
  rw [lg_entry_eq]
  generalize (lg_sl ([.ref a_p0, .int p1]) ++ List.replicate (2 - (lg_sl ([.ref a_p0, .int p1])).length) Slot.unset).toArray = ls at hl ⊢
  have hl : lv_has ls 2 [(0, .ref a_p0), (1, .int p1)] := hl
  have hw0 := hts (.fieldLink RX12 147 "DistantVoiceModel" "refused" "[I") (by decide +kernel)
  have hinX12 : ∀ w ∈ wsX120, w ∈ wsX12_status := fun w h => List.mem_cons_of_mem _ (List.mem_append_right _ h)
  unfold fX12_status at hf
  refine lv_iload_n hx hb dX12_status_0 rfl (lv_at hl 1 rfl) ?_
  refine lv_iconst (v := 0) hx hb dX12_status_1 (by decide) ?_
  refine lv_iconst (v := 5) hx hb dX12_status_2 (by decide) ?_
  obtain ⟨r_1, h_2, hf⟩ := xq_bd_some hf
  refine xq_callS (As := [.int p1, .int 0, .int 5]) (rest := []) ⟨hx, hb, hml, hown, hts⟩ (kX12_is l dC dI cI cB cJ cZ cM z ad N p1 0 5 h_2) (va_cwS 3 hts gX12_status_X12_is rfl rfl rfl (by decide +kernel) ⟨Nat.le_of_ble_eq_true rfl, Nat.le_of_ble_eq_true rfl⟩) hN hK hP hD hS hA [] (by decide) rfl rfl rfl hl.1 rfl (Nat.le_of_ble_eq_true rfl) dX12_status_3 ⟨Nat.zero_le _, Nat.zero_le _⟩ (fun H locs hP hD hS => ?_)
  have hP : va_P (dC, dI) vwCl [(a_p0, .inr (12, oX12 mmI mmJ mmR)), ((mmR 44), .inl (cI, 6, .inl mm_refusedF))] H := hP
  have hD : va_D A [(a_p0, .inr (12, oX12 mmI mmJ mmR)), ((mmR 44), .inl (cI, 6, .inl mm_refusedF))] := hD
  refine W.eq (g2 := F0 m 6 ls [.int r_1]) rfl ?_
  refine lv_if_eq (tgt := 18) hx hb dX12_status_6 (by decide) (fun c_ => ?_) (fun c_ => ?_)
  · have hf := xq_pos hf c_
    refine lv_iconst (v := (-1)) hx hb dX12_status_18 (by decide) ?_
    have e9_0 : (-1) = r0 := Option.some.inj hf
    subst e9_0
    exact xq_iret hx hb hr hlocks hK hP hD hS dX12_status_19
  · have hf := xq_neg hf c_
    refine lv_aload_n hx hb dX12_status_9 rfl (lv_at hl 0 rfl) ?_
    refine va_get (D := (dC, dI)) (ci := 12) (v := .ref ((mmR 44))) (C := RX12) (T := TX12) (N := 70) hx hb hts hinX12 hown hK hP 0 rfl rfl 44 (by decide) hw0 (fun _ h9 => h9) rfl dX12_status_10 ?_
    refine lv_iload_n hx hb dX12_status_13 rfl (lv_at hl 1 rfl) ?_
    refine xq_iald hx hb hK hP 1 0 rfl rfl hf dX12_status_14 (fun v_3 hf => ?_)
    refine lv_goto (tgt := 19) hx hb dX12_status_15 (by decide) ?_
    have e9_0 : v_3 = r0 := Option.some.inj hf
    subst e9_0
    exact xq_iret hx hb hr hlocks hK hP hD hS dX12_status_19
def dsX12_copies_0 : List (Nat × Instr × Nat) := [(0, (.aload_n 0, 1)), (1, (.getfield 150, 3)), (4, (.iload_n 1, 1)), (5, (.aload_n 0, 1)), (6, (.getfield 150, 3)), (9, (.iload_n 2, 1)), (10, (.iaload, 1)), (11, (.iastore, 1)), (12, (.aload_n 0, 1)), (13, (.getfield 153, 3)), (16, (.iload_n 1, 1)), (17, (.aload_n 0, 1)), (18, (.getfield 153, 3)), (21, (.iload_n 2, 1)), (22, (.iaload, 1)), (23, (.iastore, 1)), (24, (.aload_n 0, 1)), (25, (.getfield 156, 3)), (28, (.iload_n 1, 1)), (29, (.aload_n 0, 1)), (30, (.getfield 156, 3)), (33, (.iload_n 2, 1)), (34, (.iaload, 1)), (35, (.iastore, 1)), (36, (.aload_n 0, 1)), (37, (.getfield 159, 3)), (40, (.iload_n 1, 1)), (41, (.aload_n 0, 1)), (42, (.getfield 159, 3)), (45, (.iload_n 2, 1)), (46, (.iaload, 1)), (47, (.iastore, 1)), (48, (.aload_n 0, 1)), (49, (.getfield 162, 3)), (52, (.iload_n 1, 1)), (53, (.aload_n 0, 1)), (54, (.getfield 162, 3)), (57, (.iload_n 2, 1)), (58, (.iaload, 1)), (59, (.iastore, 1)), (60, (.iconst 0, 1)), (61, (.istore_n 3, 1)), (62, (.iload_n 3, 1)), (63, (.bipush 7, 2)), (65, (.if_icmp .ge 31, 3)), (68, (.aload_n 0, 1)), (69, (.getfield 165, 3)), (72, (.bipush 7, 2)), (74, (.iload_n 1, 1)), (75, (.imul, 1)), (76, (.iload_n 3, 1)), (77, (.iadd, 1)), (78, (.aload_n 0, 1)), (79, (.getfield 165, 3)), (82, (.bipush 7, 2)), (84, (.iload_n 2, 1)), (85, (.imul, 1)), (86, (.iload_n 3, 1)), (87, (.iadd, 1)), (88, (.iaload, 1))]
theorem dsX12_copies_0_ok : (dsX12_copies_0.all fun q => decide (decode cX12_copies q.1 = .ok q.2)) = true := by decide +kernel
theorem dX12_copies_0 : decode cX12_copies 0 = .ok (.aload_n 0, 1) := of_decide_eq_true (List.all_eq_true.mp dsX12_copies_0_ok (0, (.aload_n 0, 1)) (List.mem_of_getElem? (i := 0) rfl))
theorem dX12_copies_1 : decode cX12_copies 1 = .ok (.getfield 150, 3) := of_decide_eq_true (List.all_eq_true.mp dsX12_copies_0_ok (1, (.getfield 150, 3)) (List.mem_of_getElem? (i := 1) rfl))
theorem dX12_copies_4 : decode cX12_copies 4 = .ok (.iload_n 1, 1) := of_decide_eq_true (List.all_eq_true.mp dsX12_copies_0_ok (4, (.iload_n 1, 1)) (List.mem_of_getElem? (i := 2) rfl))
theorem dX12_copies_5 : decode cX12_copies 5 = .ok (.aload_n 0, 1) := of_decide_eq_true (List.all_eq_true.mp dsX12_copies_0_ok (5, (.aload_n 0, 1)) (List.mem_of_getElem? (i := 3) rfl))
theorem dX12_copies_6 : decode cX12_copies 6 = .ok (.getfield 150, 3) := of_decide_eq_true (List.all_eq_true.mp dsX12_copies_0_ok (6, (.getfield 150, 3)) (List.mem_of_getElem? (i := 4) rfl))
theorem dX12_copies_9 : decode cX12_copies 9 = .ok (.iload_n 2, 1) := of_decide_eq_true (List.all_eq_true.mp dsX12_copies_0_ok (9, (.iload_n 2, 1)) (List.mem_of_getElem? (i := 5) rfl))
theorem dX12_copies_10 : decode cX12_copies 10 = .ok (.iaload, 1) := of_decide_eq_true (List.all_eq_true.mp dsX12_copies_0_ok (10, (.iaload, 1)) (List.mem_of_getElem? (i := 6) rfl))
theorem dX12_copies_11 : decode cX12_copies 11 = .ok (.iastore, 1) := of_decide_eq_true (List.all_eq_true.mp dsX12_copies_0_ok (11, (.iastore, 1)) (List.mem_of_getElem? (i := 7) rfl))
theorem dX12_copies_12 : decode cX12_copies 12 = .ok (.aload_n 0, 1) := of_decide_eq_true (List.all_eq_true.mp dsX12_copies_0_ok (12, (.aload_n 0, 1)) (List.mem_of_getElem? (i := 8) rfl))
theorem dX12_copies_13 : decode cX12_copies 13 = .ok (.getfield 153, 3) := of_decide_eq_true (List.all_eq_true.mp dsX12_copies_0_ok (13, (.getfield 153, 3)) (List.mem_of_getElem? (i := 9) rfl))
theorem dX12_copies_16 : decode cX12_copies 16 = .ok (.iload_n 1, 1) := of_decide_eq_true (List.all_eq_true.mp dsX12_copies_0_ok (16, (.iload_n 1, 1)) (List.mem_of_getElem? (i := 10) rfl))
theorem dX12_copies_17 : decode cX12_copies 17 = .ok (.aload_n 0, 1) := of_decide_eq_true (List.all_eq_true.mp dsX12_copies_0_ok (17, (.aload_n 0, 1)) (List.mem_of_getElem? (i := 11) rfl))
theorem dX12_copies_18 : decode cX12_copies 18 = .ok (.getfield 153, 3) := of_decide_eq_true (List.all_eq_true.mp dsX12_copies_0_ok (18, (.getfield 153, 3)) (List.mem_of_getElem? (i := 12) rfl))
theorem dX12_copies_21 : decode cX12_copies 21 = .ok (.iload_n 2, 1) := of_decide_eq_true (List.all_eq_true.mp dsX12_copies_0_ok (21, (.iload_n 2, 1)) (List.mem_of_getElem? (i := 13) rfl))
theorem dX12_copies_22 : decode cX12_copies 22 = .ok (.iaload, 1) := of_decide_eq_true (List.all_eq_true.mp dsX12_copies_0_ok (22, (.iaload, 1)) (List.mem_of_getElem? (i := 14) rfl))
theorem dX12_copies_23 : decode cX12_copies 23 = .ok (.iastore, 1) := of_decide_eq_true (List.all_eq_true.mp dsX12_copies_0_ok (23, (.iastore, 1)) (List.mem_of_getElem? (i := 15) rfl))
theorem dX12_copies_24 : decode cX12_copies 24 = .ok (.aload_n 0, 1) := of_decide_eq_true (List.all_eq_true.mp dsX12_copies_0_ok (24, (.aload_n 0, 1)) (List.mem_of_getElem? (i := 16) rfl))
theorem dX12_copies_25 : decode cX12_copies 25 = .ok (.getfield 156, 3) := of_decide_eq_true (List.all_eq_true.mp dsX12_copies_0_ok (25, (.getfield 156, 3)) (List.mem_of_getElem? (i := 17) rfl))
theorem dX12_copies_28 : decode cX12_copies 28 = .ok (.iload_n 1, 1) := of_decide_eq_true (List.all_eq_true.mp dsX12_copies_0_ok (28, (.iload_n 1, 1)) (List.mem_of_getElem? (i := 18) rfl))
theorem dX12_copies_29 : decode cX12_copies 29 = .ok (.aload_n 0, 1) := of_decide_eq_true (List.all_eq_true.mp dsX12_copies_0_ok (29, (.aload_n 0, 1)) (List.mem_of_getElem? (i := 19) rfl))
theorem dX12_copies_30 : decode cX12_copies 30 = .ok (.getfield 156, 3) := of_decide_eq_true (List.all_eq_true.mp dsX12_copies_0_ok (30, (.getfield 156, 3)) (List.mem_of_getElem? (i := 20) rfl))
theorem dX12_copies_33 : decode cX12_copies 33 = .ok (.iload_n 2, 1) := of_decide_eq_true (List.all_eq_true.mp dsX12_copies_0_ok (33, (.iload_n 2, 1)) (List.mem_of_getElem? (i := 21) rfl))
theorem dX12_copies_34 : decode cX12_copies 34 = .ok (.iaload, 1) := of_decide_eq_true (List.all_eq_true.mp dsX12_copies_0_ok (34, (.iaload, 1)) (List.mem_of_getElem? (i := 22) rfl))
theorem dX12_copies_35 : decode cX12_copies 35 = .ok (.iastore, 1) := of_decide_eq_true (List.all_eq_true.mp dsX12_copies_0_ok (35, (.iastore, 1)) (List.mem_of_getElem? (i := 23) rfl))
theorem dX12_copies_36 : decode cX12_copies 36 = .ok (.aload_n 0, 1) := of_decide_eq_true (List.all_eq_true.mp dsX12_copies_0_ok (36, (.aload_n 0, 1)) (List.mem_of_getElem? (i := 24) rfl))
theorem dX12_copies_37 : decode cX12_copies 37 = .ok (.getfield 159, 3) := of_decide_eq_true (List.all_eq_true.mp dsX12_copies_0_ok (37, (.getfield 159, 3)) (List.mem_of_getElem? (i := 25) rfl))
theorem dX12_copies_40 : decode cX12_copies 40 = .ok (.iload_n 1, 1) := of_decide_eq_true (List.all_eq_true.mp dsX12_copies_0_ok (40, (.iload_n 1, 1)) (List.mem_of_getElem? (i := 26) rfl))
theorem dX12_copies_41 : decode cX12_copies 41 = .ok (.aload_n 0, 1) := of_decide_eq_true (List.all_eq_true.mp dsX12_copies_0_ok (41, (.aload_n 0, 1)) (List.mem_of_getElem? (i := 27) rfl))
theorem dX12_copies_42 : decode cX12_copies 42 = .ok (.getfield 159, 3) := of_decide_eq_true (List.all_eq_true.mp dsX12_copies_0_ok (42, (.getfield 159, 3)) (List.mem_of_getElem? (i := 28) rfl))
theorem dX12_copies_45 : decode cX12_copies 45 = .ok (.iload_n 2, 1) := of_decide_eq_true (List.all_eq_true.mp dsX12_copies_0_ok (45, (.iload_n 2, 1)) (List.mem_of_getElem? (i := 29) rfl))
theorem dX12_copies_46 : decode cX12_copies 46 = .ok (.iaload, 1) := of_decide_eq_true (List.all_eq_true.mp dsX12_copies_0_ok (46, (.iaload, 1)) (List.mem_of_getElem? (i := 30) rfl))
theorem dX12_copies_47 : decode cX12_copies 47 = .ok (.iastore, 1) := of_decide_eq_true (List.all_eq_true.mp dsX12_copies_0_ok (47, (.iastore, 1)) (List.mem_of_getElem? (i := 31) rfl))
theorem dX12_copies_48 : decode cX12_copies 48 = .ok (.aload_n 0, 1) := of_decide_eq_true (List.all_eq_true.mp dsX12_copies_0_ok (48, (.aload_n 0, 1)) (List.mem_of_getElem? (i := 32) rfl))
theorem dX12_copies_49 : decode cX12_copies 49 = .ok (.getfield 162, 3) := of_decide_eq_true (List.all_eq_true.mp dsX12_copies_0_ok (49, (.getfield 162, 3)) (List.mem_of_getElem? (i := 33) rfl))
theorem dX12_copies_52 : decode cX12_copies 52 = .ok (.iload_n 1, 1) := of_decide_eq_true (List.all_eq_true.mp dsX12_copies_0_ok (52, (.iload_n 1, 1)) (List.mem_of_getElem? (i := 34) rfl))
theorem dX12_copies_53 : decode cX12_copies 53 = .ok (.aload_n 0, 1) := of_decide_eq_true (List.all_eq_true.mp dsX12_copies_0_ok (53, (.aload_n 0, 1)) (List.mem_of_getElem? (i := 35) rfl))
theorem dX12_copies_54 : decode cX12_copies 54 = .ok (.getfield 162, 3) := of_decide_eq_true (List.all_eq_true.mp dsX12_copies_0_ok (54, (.getfield 162, 3)) (List.mem_of_getElem? (i := 36) rfl))
theorem dX12_copies_57 : decode cX12_copies 57 = .ok (.iload_n 2, 1) := of_decide_eq_true (List.all_eq_true.mp dsX12_copies_0_ok (57, (.iload_n 2, 1)) (List.mem_of_getElem? (i := 37) rfl))
theorem dX12_copies_58 : decode cX12_copies 58 = .ok (.iaload, 1) := of_decide_eq_true (List.all_eq_true.mp dsX12_copies_0_ok (58, (.iaload, 1)) (List.mem_of_getElem? (i := 38) rfl))
theorem dX12_copies_59 : decode cX12_copies 59 = .ok (.iastore, 1) := of_decide_eq_true (List.all_eq_true.mp dsX12_copies_0_ok (59, (.iastore, 1)) (List.mem_of_getElem? (i := 39) rfl))
theorem dX12_copies_60 : decode cX12_copies 60 = .ok (.iconst 0, 1) := of_decide_eq_true (List.all_eq_true.mp dsX12_copies_0_ok (60, (.iconst 0, 1)) (List.mem_of_getElem? (i := 40) rfl))
theorem dX12_copies_61 : decode cX12_copies 61 = .ok (.istore_n 3, 1) := of_decide_eq_true (List.all_eq_true.mp dsX12_copies_0_ok (61, (.istore_n 3, 1)) (List.mem_of_getElem? (i := 41) rfl))
theorem dX12_copies_62 : decode cX12_copies 62 = .ok (.iload_n 3, 1) := of_decide_eq_true (List.all_eq_true.mp dsX12_copies_0_ok (62, (.iload_n 3, 1)) (List.mem_of_getElem? (i := 42) rfl))
theorem dX12_copies_63 : decode cX12_copies 63 = .ok (.bipush 7, 2) := of_decide_eq_true (List.all_eq_true.mp dsX12_copies_0_ok (63, (.bipush 7, 2)) (List.mem_of_getElem? (i := 43) rfl))
theorem dX12_copies_65 : decode cX12_copies 65 = .ok (.if_icmp .ge 31, 3) := of_decide_eq_true (List.all_eq_true.mp dsX12_copies_0_ok (65, (.if_icmp .ge 31, 3)) (List.mem_of_getElem? (i := 44) rfl))
theorem dX12_copies_68 : decode cX12_copies 68 = .ok (.aload_n 0, 1) := of_decide_eq_true (List.all_eq_true.mp dsX12_copies_0_ok (68, (.aload_n 0, 1)) (List.mem_of_getElem? (i := 45) rfl))
theorem dX12_copies_69 : decode cX12_copies 69 = .ok (.getfield 165, 3) := of_decide_eq_true (List.all_eq_true.mp dsX12_copies_0_ok (69, (.getfield 165, 3)) (List.mem_of_getElem? (i := 46) rfl))
theorem dX12_copies_72 : decode cX12_copies 72 = .ok (.bipush 7, 2) := of_decide_eq_true (List.all_eq_true.mp dsX12_copies_0_ok (72, (.bipush 7, 2)) (List.mem_of_getElem? (i := 47) rfl))
theorem dX12_copies_74 : decode cX12_copies 74 = .ok (.iload_n 1, 1) := of_decide_eq_true (List.all_eq_true.mp dsX12_copies_0_ok (74, (.iload_n 1, 1)) (List.mem_of_getElem? (i := 48) rfl))
theorem dX12_copies_75 : decode cX12_copies 75 = .ok (.imul, 1) := of_decide_eq_true (List.all_eq_true.mp dsX12_copies_0_ok (75, (.imul, 1)) (List.mem_of_getElem? (i := 49) rfl))
theorem dX12_copies_76 : decode cX12_copies 76 = .ok (.iload_n 3, 1) := of_decide_eq_true (List.all_eq_true.mp dsX12_copies_0_ok (76, (.iload_n 3, 1)) (List.mem_of_getElem? (i := 50) rfl))
theorem dX12_copies_77 : decode cX12_copies 77 = .ok (.iadd, 1) := of_decide_eq_true (List.all_eq_true.mp dsX12_copies_0_ok (77, (.iadd, 1)) (List.mem_of_getElem? (i := 51) rfl))
theorem dX12_copies_78 : decode cX12_copies 78 = .ok (.aload_n 0, 1) := of_decide_eq_true (List.all_eq_true.mp dsX12_copies_0_ok (78, (.aload_n 0, 1)) (List.mem_of_getElem? (i := 52) rfl))
theorem dX12_copies_79 : decode cX12_copies 79 = .ok (.getfield 165, 3) := of_decide_eq_true (List.all_eq_true.mp dsX12_copies_0_ok (79, (.getfield 165, 3)) (List.mem_of_getElem? (i := 53) rfl))
theorem dX12_copies_82 : decode cX12_copies 82 = .ok (.bipush 7, 2) := of_decide_eq_true (List.all_eq_true.mp dsX12_copies_0_ok (82, (.bipush 7, 2)) (List.mem_of_getElem? (i := 54) rfl))
theorem dX12_copies_84 : decode cX12_copies 84 = .ok (.iload_n 2, 1) := of_decide_eq_true (List.all_eq_true.mp dsX12_copies_0_ok (84, (.iload_n 2, 1)) (List.mem_of_getElem? (i := 55) rfl))
theorem dX12_copies_85 : decode cX12_copies 85 = .ok (.imul, 1) := of_decide_eq_true (List.all_eq_true.mp dsX12_copies_0_ok (85, (.imul, 1)) (List.mem_of_getElem? (i := 56) rfl))
theorem dX12_copies_86 : decode cX12_copies 86 = .ok (.iload_n 3, 1) := of_decide_eq_true (List.all_eq_true.mp dsX12_copies_0_ok (86, (.iload_n 3, 1)) (List.mem_of_getElem? (i := 57) rfl))
theorem dX12_copies_87 : decode cX12_copies 87 = .ok (.iadd, 1) := of_decide_eq_true (List.all_eq_true.mp dsX12_copies_0_ok (87, (.iadd, 1)) (List.mem_of_getElem? (i := 58) rfl))
theorem dX12_copies_88 : decode cX12_copies 88 = .ok (.iaload, 1) := of_decide_eq_true (List.all_eq_true.mp dsX12_copies_0_ok (88, (.iaload, 1)) (List.mem_of_getElem? (i := 59) rfl))
def dsX12_copies_1 : List (Nat × Instr × Nat) := [(89, (.iastore, 1)), (90, (.iinc 3 1, 3)), (93, (.goto (-31), 3)), (96, (.iconst 0, 1)), (97, (.istore_n 3, 1)), (98, (.iload_n 3, 1)), (99, (.bipush 6, 2)), (101, (.if_icmp .ge 31, 3)), (104, (.aload_n 0, 1)), (105, (.getfield 168, 3)), (108, (.bipush 6, 2)), (110, (.iload_n 1, 1)), (111, (.imul, 1)), (112, (.iload_n 3, 1)), (113, (.iadd, 1)), (114, (.aload_n 0, 1)), (115, (.getfield 168, 3)), (118, (.bipush 6, 2)), (120, (.iload_n 2, 1)), (121, (.imul, 1)), (122, (.iload_n 3, 1)), (123, (.iadd, 1)), (124, (.iaload, 1)), (125, (.iastore, 1)), (126, (.iinc 3 1, 3)), (129, (.goto (-31), 3)), (132, (.aload_n 0, 1)), (133, (.getfield 171, 3)), (136, (.iload_n 1, 1)), (137, (.aload_n 0, 1)), (138, (.getfield 171, 3)), (141, (.iload_n 2, 1)), (142, (.iaload, 1)), (143, (.iastore, 1)), (144, (.iconst 0, 1)), (145, (.istore_n 3, 1)), (146, (.iload_n 3, 1)), (147, (.iconst 3, 1)), (148, (.aload_n 0, 1)), (149, (.getfield 171, 3)), (152, (.iload_n 2, 1)), (153, (.iaload, 1)), (154, (.imul, 1)), (155, (.if_icmp .ge 31, 3)), (158, (.aload_n 0, 1)), (159, (.getfield 174, 3)), (162, (.bipush 120, 2)), (164, (.iload_n 1, 1)), (165, (.imul, 1)), (166, (.iload_n 3, 1)), (167, (.iadd, 1)), (168, (.aload_n 0, 1)), (169, (.getfield 174, 3)), (172, (.bipush 120, 2)), (174, (.iload_n 2, 1)), (175, (.imul, 1)), (176, (.iload_n 3, 1)), (177, (.iadd, 1)), (178, (.iaload, 1)), (179, (.iastore, 1))]
theorem dsX12_copies_1_ok : (dsX12_copies_1.all fun q => decide (decode cX12_copies q.1 = .ok q.2)) = true := by decide +kernel
theorem dX12_copies_89 : decode cX12_copies 89 = .ok (.iastore, 1) := of_decide_eq_true (List.all_eq_true.mp dsX12_copies_1_ok (89, (.iastore, 1)) (List.mem_of_getElem? (i := 0) rfl))
theorem dX12_copies_90 : decode cX12_copies 90 = .ok (.iinc 3 1, 3) := of_decide_eq_true (List.all_eq_true.mp dsX12_copies_1_ok (90, (.iinc 3 1, 3)) (List.mem_of_getElem? (i := 1) rfl))
theorem dX12_copies_93 : decode cX12_copies 93 = .ok (.goto (-31), 3) := of_decide_eq_true (List.all_eq_true.mp dsX12_copies_1_ok (93, (.goto (-31), 3)) (List.mem_of_getElem? (i := 2) rfl))
theorem dX12_copies_96 : decode cX12_copies 96 = .ok (.iconst 0, 1) := of_decide_eq_true (List.all_eq_true.mp dsX12_copies_1_ok (96, (.iconst 0, 1)) (List.mem_of_getElem? (i := 3) rfl))
theorem dX12_copies_97 : decode cX12_copies 97 = .ok (.istore_n 3, 1) := of_decide_eq_true (List.all_eq_true.mp dsX12_copies_1_ok (97, (.istore_n 3, 1)) (List.mem_of_getElem? (i := 4) rfl))
theorem dX12_copies_98 : decode cX12_copies 98 = .ok (.iload_n 3, 1) := of_decide_eq_true (List.all_eq_true.mp dsX12_copies_1_ok (98, (.iload_n 3, 1)) (List.mem_of_getElem? (i := 5) rfl))
theorem dX12_copies_99 : decode cX12_copies 99 = .ok (.bipush 6, 2) := of_decide_eq_true (List.all_eq_true.mp dsX12_copies_1_ok (99, (.bipush 6, 2)) (List.mem_of_getElem? (i := 6) rfl))
theorem dX12_copies_101 : decode cX12_copies 101 = .ok (.if_icmp .ge 31, 3) := of_decide_eq_true (List.all_eq_true.mp dsX12_copies_1_ok (101, (.if_icmp .ge 31, 3)) (List.mem_of_getElem? (i := 7) rfl))
theorem dX12_copies_104 : decode cX12_copies 104 = .ok (.aload_n 0, 1) := of_decide_eq_true (List.all_eq_true.mp dsX12_copies_1_ok (104, (.aload_n 0, 1)) (List.mem_of_getElem? (i := 8) rfl))
theorem dX12_copies_105 : decode cX12_copies 105 = .ok (.getfield 168, 3) := of_decide_eq_true (List.all_eq_true.mp dsX12_copies_1_ok (105, (.getfield 168, 3)) (List.mem_of_getElem? (i := 9) rfl))
theorem dX12_copies_108 : decode cX12_copies 108 = .ok (.bipush 6, 2) := of_decide_eq_true (List.all_eq_true.mp dsX12_copies_1_ok (108, (.bipush 6, 2)) (List.mem_of_getElem? (i := 10) rfl))
theorem dX12_copies_110 : decode cX12_copies 110 = .ok (.iload_n 1, 1) := of_decide_eq_true (List.all_eq_true.mp dsX12_copies_1_ok (110, (.iload_n 1, 1)) (List.mem_of_getElem? (i := 11) rfl))
theorem dX12_copies_111 : decode cX12_copies 111 = .ok (.imul, 1) := of_decide_eq_true (List.all_eq_true.mp dsX12_copies_1_ok (111, (.imul, 1)) (List.mem_of_getElem? (i := 12) rfl))
theorem dX12_copies_112 : decode cX12_copies 112 = .ok (.iload_n 3, 1) := of_decide_eq_true (List.all_eq_true.mp dsX12_copies_1_ok (112, (.iload_n 3, 1)) (List.mem_of_getElem? (i := 13) rfl))
theorem dX12_copies_113 : decode cX12_copies 113 = .ok (.iadd, 1) := of_decide_eq_true (List.all_eq_true.mp dsX12_copies_1_ok (113, (.iadd, 1)) (List.mem_of_getElem? (i := 14) rfl))
theorem dX12_copies_114 : decode cX12_copies 114 = .ok (.aload_n 0, 1) := of_decide_eq_true (List.all_eq_true.mp dsX12_copies_1_ok (114, (.aload_n 0, 1)) (List.mem_of_getElem? (i := 15) rfl))
theorem dX12_copies_115 : decode cX12_copies 115 = .ok (.getfield 168, 3) := of_decide_eq_true (List.all_eq_true.mp dsX12_copies_1_ok (115, (.getfield 168, 3)) (List.mem_of_getElem? (i := 16) rfl))
theorem dX12_copies_118 : decode cX12_copies 118 = .ok (.bipush 6, 2) := of_decide_eq_true (List.all_eq_true.mp dsX12_copies_1_ok (118, (.bipush 6, 2)) (List.mem_of_getElem? (i := 17) rfl))
theorem dX12_copies_120 : decode cX12_copies 120 = .ok (.iload_n 2, 1) := of_decide_eq_true (List.all_eq_true.mp dsX12_copies_1_ok (120, (.iload_n 2, 1)) (List.mem_of_getElem? (i := 18) rfl))
theorem dX12_copies_121 : decode cX12_copies 121 = .ok (.imul, 1) := of_decide_eq_true (List.all_eq_true.mp dsX12_copies_1_ok (121, (.imul, 1)) (List.mem_of_getElem? (i := 19) rfl))
theorem dX12_copies_122 : decode cX12_copies 122 = .ok (.iload_n 3, 1) := of_decide_eq_true (List.all_eq_true.mp dsX12_copies_1_ok (122, (.iload_n 3, 1)) (List.mem_of_getElem? (i := 20) rfl))
theorem dX12_copies_123 : decode cX12_copies 123 = .ok (.iadd, 1) := of_decide_eq_true (List.all_eq_true.mp dsX12_copies_1_ok (123, (.iadd, 1)) (List.mem_of_getElem? (i := 21) rfl))
theorem dX12_copies_124 : decode cX12_copies 124 = .ok (.iaload, 1) := of_decide_eq_true (List.all_eq_true.mp dsX12_copies_1_ok (124, (.iaload, 1)) (List.mem_of_getElem? (i := 22) rfl))
theorem dX12_copies_125 : decode cX12_copies 125 = .ok (.iastore, 1) := of_decide_eq_true (List.all_eq_true.mp dsX12_copies_1_ok (125, (.iastore, 1)) (List.mem_of_getElem? (i := 23) rfl))
theorem dX12_copies_126 : decode cX12_copies 126 = .ok (.iinc 3 1, 3) := of_decide_eq_true (List.all_eq_true.mp dsX12_copies_1_ok (126, (.iinc 3 1, 3)) (List.mem_of_getElem? (i := 24) rfl))
theorem dX12_copies_129 : decode cX12_copies 129 = .ok (.goto (-31), 3) := of_decide_eq_true (List.all_eq_true.mp dsX12_copies_1_ok (129, (.goto (-31), 3)) (List.mem_of_getElem? (i := 25) rfl))
theorem dX12_copies_132 : decode cX12_copies 132 = .ok (.aload_n 0, 1) := of_decide_eq_true (List.all_eq_true.mp dsX12_copies_1_ok (132, (.aload_n 0, 1)) (List.mem_of_getElem? (i := 26) rfl))
theorem dX12_copies_133 : decode cX12_copies 133 = .ok (.getfield 171, 3) := of_decide_eq_true (List.all_eq_true.mp dsX12_copies_1_ok (133, (.getfield 171, 3)) (List.mem_of_getElem? (i := 27) rfl))
theorem dX12_copies_136 : decode cX12_copies 136 = .ok (.iload_n 1, 1) := of_decide_eq_true (List.all_eq_true.mp dsX12_copies_1_ok (136, (.iload_n 1, 1)) (List.mem_of_getElem? (i := 28) rfl))
theorem dX12_copies_137 : decode cX12_copies 137 = .ok (.aload_n 0, 1) := of_decide_eq_true (List.all_eq_true.mp dsX12_copies_1_ok (137, (.aload_n 0, 1)) (List.mem_of_getElem? (i := 29) rfl))
theorem dX12_copies_138 : decode cX12_copies 138 = .ok (.getfield 171, 3) := of_decide_eq_true (List.all_eq_true.mp dsX12_copies_1_ok (138, (.getfield 171, 3)) (List.mem_of_getElem? (i := 30) rfl))
theorem dX12_copies_141 : decode cX12_copies 141 = .ok (.iload_n 2, 1) := of_decide_eq_true (List.all_eq_true.mp dsX12_copies_1_ok (141, (.iload_n 2, 1)) (List.mem_of_getElem? (i := 31) rfl))
theorem dX12_copies_142 : decode cX12_copies 142 = .ok (.iaload, 1) := of_decide_eq_true (List.all_eq_true.mp dsX12_copies_1_ok (142, (.iaload, 1)) (List.mem_of_getElem? (i := 32) rfl))
theorem dX12_copies_143 : decode cX12_copies 143 = .ok (.iastore, 1) := of_decide_eq_true (List.all_eq_true.mp dsX12_copies_1_ok (143, (.iastore, 1)) (List.mem_of_getElem? (i := 33) rfl))
theorem dX12_copies_144 : decode cX12_copies 144 = .ok (.iconst 0, 1) := of_decide_eq_true (List.all_eq_true.mp dsX12_copies_1_ok (144, (.iconst 0, 1)) (List.mem_of_getElem? (i := 34) rfl))
theorem dX12_copies_145 : decode cX12_copies 145 = .ok (.istore_n 3, 1) := of_decide_eq_true (List.all_eq_true.mp dsX12_copies_1_ok (145, (.istore_n 3, 1)) (List.mem_of_getElem? (i := 35) rfl))
theorem dX12_copies_146 : decode cX12_copies 146 = .ok (.iload_n 3, 1) := of_decide_eq_true (List.all_eq_true.mp dsX12_copies_1_ok (146, (.iload_n 3, 1)) (List.mem_of_getElem? (i := 36) rfl))
theorem dX12_copies_147 : decode cX12_copies 147 = .ok (.iconst 3, 1) := of_decide_eq_true (List.all_eq_true.mp dsX12_copies_1_ok (147, (.iconst 3, 1)) (List.mem_of_getElem? (i := 37) rfl))
theorem dX12_copies_148 : decode cX12_copies 148 = .ok (.aload_n 0, 1) := of_decide_eq_true (List.all_eq_true.mp dsX12_copies_1_ok (148, (.aload_n 0, 1)) (List.mem_of_getElem? (i := 38) rfl))
theorem dX12_copies_149 : decode cX12_copies 149 = .ok (.getfield 171, 3) := of_decide_eq_true (List.all_eq_true.mp dsX12_copies_1_ok (149, (.getfield 171, 3)) (List.mem_of_getElem? (i := 39) rfl))
theorem dX12_copies_152 : decode cX12_copies 152 = .ok (.iload_n 2, 1) := of_decide_eq_true (List.all_eq_true.mp dsX12_copies_1_ok (152, (.iload_n 2, 1)) (List.mem_of_getElem? (i := 40) rfl))
theorem dX12_copies_153 : decode cX12_copies 153 = .ok (.iaload, 1) := of_decide_eq_true (List.all_eq_true.mp dsX12_copies_1_ok (153, (.iaload, 1)) (List.mem_of_getElem? (i := 41) rfl))
theorem dX12_copies_154 : decode cX12_copies 154 = .ok (.imul, 1) := of_decide_eq_true (List.all_eq_true.mp dsX12_copies_1_ok (154, (.imul, 1)) (List.mem_of_getElem? (i := 42) rfl))
theorem dX12_copies_155 : decode cX12_copies 155 = .ok (.if_icmp .ge 31, 3) := of_decide_eq_true (List.all_eq_true.mp dsX12_copies_1_ok (155, (.if_icmp .ge 31, 3)) (List.mem_of_getElem? (i := 43) rfl))
theorem dX12_copies_158 : decode cX12_copies 158 = .ok (.aload_n 0, 1) := of_decide_eq_true (List.all_eq_true.mp dsX12_copies_1_ok (158, (.aload_n 0, 1)) (List.mem_of_getElem? (i := 44) rfl))
theorem dX12_copies_159 : decode cX12_copies 159 = .ok (.getfield 174, 3) := of_decide_eq_true (List.all_eq_true.mp dsX12_copies_1_ok (159, (.getfield 174, 3)) (List.mem_of_getElem? (i := 45) rfl))
theorem dX12_copies_162 : decode cX12_copies 162 = .ok (.bipush 120, 2) := of_decide_eq_true (List.all_eq_true.mp dsX12_copies_1_ok (162, (.bipush 120, 2)) (List.mem_of_getElem? (i := 46) rfl))
theorem dX12_copies_164 : decode cX12_copies 164 = .ok (.iload_n 1, 1) := of_decide_eq_true (List.all_eq_true.mp dsX12_copies_1_ok (164, (.iload_n 1, 1)) (List.mem_of_getElem? (i := 47) rfl))
theorem dX12_copies_165 : decode cX12_copies 165 = .ok (.imul, 1) := of_decide_eq_true (List.all_eq_true.mp dsX12_copies_1_ok (165, (.imul, 1)) (List.mem_of_getElem? (i := 48) rfl))
theorem dX12_copies_166 : decode cX12_copies 166 = .ok (.iload_n 3, 1) := of_decide_eq_true (List.all_eq_true.mp dsX12_copies_1_ok (166, (.iload_n 3, 1)) (List.mem_of_getElem? (i := 49) rfl))
theorem dX12_copies_167 : decode cX12_copies 167 = .ok (.iadd, 1) := of_decide_eq_true (List.all_eq_true.mp dsX12_copies_1_ok (167, (.iadd, 1)) (List.mem_of_getElem? (i := 50) rfl))
theorem dX12_copies_168 : decode cX12_copies 168 = .ok (.aload_n 0, 1) := of_decide_eq_true (List.all_eq_true.mp dsX12_copies_1_ok (168, (.aload_n 0, 1)) (List.mem_of_getElem? (i := 51) rfl))
theorem dX12_copies_169 : decode cX12_copies 169 = .ok (.getfield 174, 3) := of_decide_eq_true (List.all_eq_true.mp dsX12_copies_1_ok (169, (.getfield 174, 3)) (List.mem_of_getElem? (i := 52) rfl))
theorem dX12_copies_172 : decode cX12_copies 172 = .ok (.bipush 120, 2) := of_decide_eq_true (List.all_eq_true.mp dsX12_copies_1_ok (172, (.bipush 120, 2)) (List.mem_of_getElem? (i := 53) rfl))
theorem dX12_copies_174 : decode cX12_copies 174 = .ok (.iload_n 2, 1) := of_decide_eq_true (List.all_eq_true.mp dsX12_copies_1_ok (174, (.iload_n 2, 1)) (List.mem_of_getElem? (i := 54) rfl))
theorem dX12_copies_175 : decode cX12_copies 175 = .ok (.imul, 1) := of_decide_eq_true (List.all_eq_true.mp dsX12_copies_1_ok (175, (.imul, 1)) (List.mem_of_getElem? (i := 55) rfl))
theorem dX12_copies_176 : decode cX12_copies 176 = .ok (.iload_n 3, 1) := of_decide_eq_true (List.all_eq_true.mp dsX12_copies_1_ok (176, (.iload_n 3, 1)) (List.mem_of_getElem? (i := 56) rfl))
theorem dX12_copies_177 : decode cX12_copies 177 = .ok (.iadd, 1) := of_decide_eq_true (List.all_eq_true.mp dsX12_copies_1_ok (177, (.iadd, 1)) (List.mem_of_getElem? (i := 57) rfl))
theorem dX12_copies_178 : decode cX12_copies 178 = .ok (.iaload, 1) := of_decide_eq_true (List.all_eq_true.mp dsX12_copies_1_ok (178, (.iaload, 1)) (List.mem_of_getElem? (i := 58) rfl))
theorem dX12_copies_179 : decode cX12_copies 179 = .ok (.iastore, 1) := of_decide_eq_true (List.all_eq_true.mp dsX12_copies_1_ok (179, (.iastore, 1)) (List.mem_of_getElem? (i := 59) rfl))
def dsX12_copies_2 : List (Nat × Instr × Nat) := [(180, (.iinc 3 1, 3)), (183, (.goto (-37), 3)), (186, (.return_, 1))]
theorem dsX12_copies_2_ok : (dsX12_copies_2.all fun q => decide (decode cX12_copies q.1 = .ok q.2)) = true := by decide +kernel
theorem dX12_copies_180 : decode cX12_copies 180 = .ok (.iinc 3 1, 3) := of_decide_eq_true (List.all_eq_true.mp dsX12_copies_2_ok (180, (.iinc 3 1, 3)) (List.mem_of_getElem? (i := 0) rfl))
theorem dX12_copies_183 : decode cX12_copies 183 = .ok (.goto (-37), 3) := of_decide_eq_true (List.all_eq_true.mp dsX12_copies_2_ok (183, (.goto (-37), 3)) (List.mem_of_getElem? (i := 1) rfl))
theorem dX12_copies_186 : decode cX12_copies 186 = .ok (.return_, 1) := of_decide_eq_true (List.all_eq_true.mp dsX12_copies_2_ok (186, (.return_, 1)) (List.mem_of_getElem? (i := 2) rfl))
def fX12_copies_l146 (N : Nat)   (k146 : ((Nat → Int32) × (Nat → Int32) × (Nat → Int32) × (Nat → Int32) × (Nat → Int32) × (Nat → Int32) × (Nat → Int32) × (Nat → Int32) × (Nat → Int32) × Int32 × Int32 × Int32) → Option ((Nat → Int32) × (Nat → Int32) × (Nat → Int32) × (Nat → Int32) × (Nat → Int32) × (Nat → Int32) × (Nat → Int32) × (Nat → Int32) × (Nat → Int32))) : ((Nat → Int32) × (Nat → Int32) × (Nat → Int32) × (Nat → Int32) × (Nat → Int32) × (Nat → Int32) × (Nat → Int32) × (Nat → Int32) × (Nat → Int32) × Int32 × Int32 × Int32) → Option ((Nat → Int32) × (Nat → Int32) × (Nat → Int32) × (Nat → Int32) × (Nat → Int32) × (Nat → Int32) × (Nat → Int32) × (Nat → Int32) × (Nat → Int32)) :=
  fun (mm_nightOfF_146, mm_mileOfF_146, mm_roundsOfF_146, mm_talkingOfF_146, mm_hushOfF_146, mm_rowOfF_146, mm_keptManyF_146, mm_talkOfF_146, mm_keptRowF_146, x1_146, x2_146, x3_146) => (xq_bd (xq_ald 22 mm_keptManyF_146 x2_146) fun v_1 => (if (3 * v_1) ≤ x3_146 then some ((mm_nightOfF_146, mm_mileOfF_146, mm_roundsOfF_146, mm_talkingOfF_146, mm_hushOfF_146, mm_rowOfF_146, mm_keptManyF_146, mm_talkOfF_146, mm_keptRowF_146)) else (xq_bd (xq_ald 2640 mm_keptRowF_146 ((120 * x2_146) + x3_146)) fun v_2 => (xq_bd (xq_ast 2640 mm_keptRowF_146 ((120 * x1_146) + x3_146) v_2) fun g_3 => k146 (mm_nightOfF_146, mm_mileOfF_146, mm_roundsOfF_146, mm_talkingOfF_146, mm_hushOfF_146, mm_rowOfF_146, mm_keptManyF_146, mm_talkOfF_146, g_3, x1_146, x2_146, x3_146 + 1)))))
def fX12_copies_l98 (N : Nat)   (k98 : ((Nat → Int32) × (Nat → Int32) × (Nat → Int32) × (Nat → Int32) × (Nat → Int32) × (Nat → Int32) × (Nat → Int32) × (Nat → Int32) × (Nat → Int32) × Int32 × Int32 × Int32) → Option ((Nat → Int32) × (Nat → Int32) × (Nat → Int32) × (Nat → Int32) × (Nat → Int32) × (Nat → Int32) × (Nat → Int32) × (Nat → Int32) × (Nat → Int32))) : ((Nat → Int32) × (Nat → Int32) × (Nat → Int32) × (Nat → Int32) × (Nat → Int32) × (Nat → Int32) × (Nat → Int32) × (Nat → Int32) × (Nat → Int32) × Int32 × Int32 × Int32) → Option ((Nat → Int32) × (Nat → Int32) × (Nat → Int32) × (Nat → Int32) × (Nat → Int32) × (Nat → Int32) × (Nat → Int32) × (Nat → Int32) × (Nat → Int32)) :=
  fun (mm_nightOfF_98, mm_mileOfF_98, mm_roundsOfF_98, mm_talkingOfF_98, mm_hushOfF_98, mm_rowOfF_98, mm_keptManyF_98, mm_talkOfF_98, mm_keptRowF_98, x1_98, x2_98, x3_98) => (if 6 ≤ x3_98 then (xq_bd (xq_ald 22 mm_keptManyF_98 x2_98) fun v_4 => (xq_bd (xq_ast 22 mm_keptManyF_98 x1_98 v_4) fun g_5 => xq_loop (fX12_copies_l146 N) N (mm_nightOfF_98, mm_mileOfF_98, mm_roundsOfF_98, mm_talkingOfF_98, mm_hushOfF_98, mm_rowOfF_98, g_5, mm_talkOfF_98, mm_keptRowF_98, x1_98, x2_98, 0))) else (xq_bd (xq_ald 132 mm_talkOfF_98 ((6 * x2_98) + x3_98)) fun v_6 => (xq_bd (xq_ast 132 mm_talkOfF_98 ((6 * x1_98) + x3_98) v_6) fun g_7 => k98 (mm_nightOfF_98, mm_mileOfF_98, mm_roundsOfF_98, mm_talkingOfF_98, mm_hushOfF_98, mm_rowOfF_98, mm_keptManyF_98, g_7, mm_keptRowF_98, x1_98, x2_98, x3_98 + 1))))
def fX12_copies_l62 (N : Nat)   (k62 : ((Nat → Int32) × (Nat → Int32) × (Nat → Int32) × (Nat → Int32) × (Nat → Int32) × (Nat → Int32) × (Nat → Int32) × (Nat → Int32) × (Nat → Int32) × Int32 × Int32 × Int32) → Option ((Nat → Int32) × (Nat → Int32) × (Nat → Int32) × (Nat → Int32) × (Nat → Int32) × (Nat → Int32) × (Nat → Int32) × (Nat → Int32) × (Nat → Int32))) : ((Nat → Int32) × (Nat → Int32) × (Nat → Int32) × (Nat → Int32) × (Nat → Int32) × (Nat → Int32) × (Nat → Int32) × (Nat → Int32) × (Nat → Int32) × Int32 × Int32 × Int32) → Option ((Nat → Int32) × (Nat → Int32) × (Nat → Int32) × (Nat → Int32) × (Nat → Int32) × (Nat → Int32) × (Nat → Int32) × (Nat → Int32) × (Nat → Int32)) :=
  fun (mm_nightOfF_62, mm_mileOfF_62, mm_roundsOfF_62, mm_talkingOfF_62, mm_hushOfF_62, mm_rowOfF_62, mm_keptManyF_62, mm_talkOfF_62, mm_keptRowF_62, x1_62, x2_62, x3_62) => (if 7 ≤ x3_62 then xq_loop (fX12_copies_l98 N) N (mm_nightOfF_62, mm_mileOfF_62, mm_roundsOfF_62, mm_talkingOfF_62, mm_hushOfF_62, mm_rowOfF_62, mm_keptManyF_62, mm_talkOfF_62, mm_keptRowF_62, x1_62, x2_62, 0) else (xq_bd (xq_ald 154 mm_rowOfF_62 ((7 * x2_62) + x3_62)) fun v_8 => (xq_bd (xq_ast 154 mm_rowOfF_62 ((7 * x1_62) + x3_62) v_8) fun g_9 => k62 (mm_nightOfF_62, mm_mileOfF_62, mm_roundsOfF_62, mm_talkingOfF_62, mm_hushOfF_62, g_9, mm_keptManyF_62, mm_talkOfF_62, mm_keptRowF_62, x1_62, x2_62, x3_62 + 1))))
def fX12_copies (N : Nat) (mm_nightOfF : Nat → Int32) (mm_mileOfF : Nat → Int32) (mm_roundsOfF : Nat → Int32) (mm_talkingOfF : Nat → Int32) (mm_hushOfF : Nat → Int32) (mm_rowOfF : Nat → Int32) (mm_keptManyF : Nat → Int32) (mm_talkOfF : Nat → Int32) (mm_keptRowF : Nat → Int32)  (p1 : Int32) (p2 : Int32) : Option ((Nat → Int32) × (Nat → Int32) × (Nat → Int32) × (Nat → Int32) × (Nat → Int32) × (Nat → Int32) × (Nat → Int32) × (Nat → Int32) × (Nat → Int32)) :=
  (xq_bd (xq_ald 22 mm_nightOfF p2) fun v_1 => (xq_bd (xq_ast 22 mm_nightOfF p1 v_1) fun g_2 => (xq_bd (xq_ald 22 mm_mileOfF p2) fun v_3 => (xq_bd (xq_ast 22 mm_mileOfF p1 v_3) fun g_4 => (xq_bd (xq_ald 22 mm_roundsOfF p2) fun v_5 => (xq_bd (xq_ast 22 mm_roundsOfF p1 v_5) fun g_6 => (xq_bd (xq_ald 22 mm_talkingOfF p2) fun v_7 => (xq_bd (xq_ast 22 mm_talkingOfF p1 v_7) fun g_8 => (xq_bd (xq_ald 22 mm_hushOfF p2) fun v_9 => (xq_bd (xq_ast 22 mm_hushOfF p1 v_9) fun g_10 => xq_loop (fX12_copies_l62 N) N (g_2, g_4, g_6, g_8, g_10, mm_rowOfF, mm_keptManyF, mm_talkOfF, mm_keptRowF, p1, p2, 0)))))))))))
set_option maxHeartbeats 4000000 in
set_option maxRecDepth 100000 in
theorem kX12_copies (l : Launch) (dC : Nat → ClassId) (dI : Nat → Nat → Nat) (cI cB cJ cZ cM : ClassId) (z : Nat) (ad : Nat → Nat) (N : Nat) (a_p0 : Nat) (mmI : Nat → Int32) (mmJ : Nat → Int64) (mmR : Nat → Nat) (mm_nightOfF : Nat → Int32) (mm_mileOfF : Nat → Int32) (mm_roundsOfF : Nat → Int32) (mm_talkingOfF : Nat → Int32) (mm_hushOfF : Nat → Int32) (mm_rowOfF : Nat → Int32) (mm_keptManyF : Nat → Int32) (mm_talkOfF : Nat → Int32) (mm_keptRowF : Nat → Int32) (p1 : Int32) (p2 : Int32) {r0 : Nat → Int32} {r1 : Nat → Int32} {r2 : Nat → Int32} {r3 : Nat → Int32} {r4 : Nat → Int32} {r5 : Nat → Int32} {r6 : Nat → Int32} {r7 : Nat → Int32} {r8 : Nat → Int32} (hf : fX12_copies N mm_nightOfF mm_mileOfF mm_roundsOfF mm_talkingOfF mm_hushOfF mm_rowOfF mm_keptManyF mm_talkOfF mm_keptRowF p1 p2 = some (r0, r1, r2, r3, r4, r5, r6, r7, r8)) : xq_Ct l yX12_copies wsX12_copies { frames := 0, cells := 0, slots := 0, locals := 0 } (dC, dI) vwCl (xq_tys cI cB cJ cZ cM) z ad [.ref a_p0, .int p1, .int p2] [(a_p0, .inr (12, oX12 mmI mmJ mmR)), ((mmR 45), .inl (cI, 22, .inl mm_nightOfF)), ((mmR 46), .inl (cI, 22, .inl mm_mileOfF)), ((mmR 47), .inl (cI, 22, .inl mm_roundsOfF)), ((mmR 48), .inl (cI, 22, .inl mm_talkingOfF)), ((mmR 49), .inl (cI, 22, .inl mm_hushOfF)), ((mmR 50), .inl (cI, 154, .inl mm_rowOfF)), ((mmR 52), .inl (cI, 22, .inl mm_keptManyF)), ((mmR 51), .inl (cI, 132, .inl mm_talkOfF)), ((mmR 53), .inl (cI, 2640, .inl mm_keptRowF))] [(a_p0, .inr (12, oX12 mmI mmJ mmR)), ((mmR 45), .inl (cI, 22, .inl r0)), ((mmR 46), .inl (cI, 22, .inl r1)), ((mmR 47), .inl (cI, 22, .inl r2)), ((mmR 48), .inl (cI, 22, .inl r3)), ((mmR 49), .inl (cI, 22, .inl r4)), ((mmR 50), .inl (cI, 154, .inl r5)), ((mmR 52), .inl (cI, 22, .inl r6)), ((mmR 51), .inl (cI, 132, .inl r7)), ((mmR 53), .inl (cI, 2640, .inl r8))] none := by
  intro sz
  refine Met.ofW (cc := cX12_copies) (maxL := 4) (ret := none) (by decide) rfl ?_
  intro p e s m args below meth c s₁ B hml hv
  obtain ⟨rfl, hsz, hP, hK, hD0, hE, hz⟩ := hv
  have hx := B.exec
  have hb := B.bytes
  have hr := B.returns
  have hts := atoms_spec (ws := wsX12_copies) B.pre
  have hown : s.vm.findClass RX12 = some m.cls := findClass_of_methodNamed B.named
  have hlocks := B.notSynchronized
  subst hsz
  have hD := hD0.self (sz := s.heap.size)
  have hN := xq_Env.of hE hz hD0
  generalize hAe : va_A [(a_p0, .inr (12, oX12 mmI mmJ mmR)), ((mmR 45), .inl (cI, 22, .inl mm_nightOfF)), ((mmR 46), .inl (cI, 22, .inl mm_mileOfF)), ((mmR 47), .inl (cI, 22, .inl mm_roundsOfF)), ((mmR 48), .inl (cI, 22, .inl mm_talkingOfF)), ((mmR 49), .inl (cI, 22, .inl mm_hushOfF)), ((mmR 50), .inl (cI, 154, .inl mm_rowOfF)), ((mmR 52), .inl (cI, 22, .inl mm_keptManyF)), ((mmR 51), .inl (cI, 132, .inl mm_talkOfF)), ((mmR 53), .inl (cI, 2640, .inl mm_keptRowF))] s.heap.size = A at hD hN ⊢
  have hA : ∀ q : Nat, s.heap.size ≤ q → A q := fun q h => by rw [← hAe]; exact Or.inr h
  clear hAe hD0
  have hS : va_S A s.heap s.heap [] := va_S.rf
  have hl := lv_entry ([.ref a_p0, .int p1, .int p2]) (n := 4) (Nat.le_of_ble_eq_true rfl)
  rw [lg_entry_eq]
  generalize (lg_sl ([.ref a_p0, .int p1, .int p2]) ++ List.replicate (4 - (lg_sl ([.ref a_p0, .int p1, .int p2])).length) Slot.unset).toArray = ls at hl ⊢
  have hl : lv_has ls 4 [(0, .ref a_p0), (1, .int p1), (2, .int p2)] := hl
  have hw0 := hts (.fieldLink RX12 150 "DistantVoiceModel" "nightOf" "[I") (by decide +kernel)
  have hinX12 : ∀ w ∈ wsX120, w ∈ wsX12_copies := fun w h => List.mem_cons_of_mem _ (List.mem_append_right _ h)
  have hw2 := hts (.fieldLink RX12 153 "DistantVoiceModel" "mileOf" "[I") (by decide +kernel)
  have hw3 := hts (.fieldLink RX12 156 "DistantVoiceModel" "roundsOf" "[I") (by decide +kernel)
  have hw4 := hts (.fieldLink RX12 159 "DistantVoiceModel" "talkingOf" "[I") (by decide +kernel)
  have hw5 := hts (.fieldLink RX12 162 "DistantVoiceModel" "hushOf" "[I") (by decide +kernel)
  have hw6 := hts (.fieldLink RX12 165 "DistantVoiceModel" "rowOf" "[I") (by decide +kernel)
  have hw7 := hts (.fieldLink RX12 171 "DistantVoiceModel" "keptMany" "[I") (by decide +kernel)
  have hw8 := hts (.fieldLink RX12 168 "DistantVoiceModel" "talkOf" "[I") (by decide +kernel)
  have hw9 := hts (.fieldLink RX12 174 "DistantVoiceModel" "keptRow" "[I") (by decide +kernel)
  have l146 : ∀ n146 : Nat, ∀ (mm_nightOfF_146 : Nat → Int32) (mm_mileOfF_146 : Nat → Int32) (mm_roundsOfF_146 : Nat → Int32) (mm_talkingOfF_146 : Nat → Int32) (mm_hushOfF_146 : Nat → Int32) (mm_rowOfF_146 : Nat → Int32) (mm_keptManyF_146 : Nat → Int32) (mm_talkOfF_146 : Nat → Int32) (mm_keptRowF_146 : Nat → Int32) (x1_146 : Int32) (x2_146 : Int32) (x3_146 : Int32) (ls : Array Slot) (H : Heap) (locs : List Loc), xq_loop (fX12_copies_l146 N) n146 (mm_nightOfF_146, mm_mileOfF_146, mm_roundsOfF_146, mm_talkingOfF_146, mm_hushOfF_146, mm_rowOfF_146, mm_keptManyF_146, mm_talkOfF_146, mm_keptRowF_146, x1_146, x2_146, x3_146) = some (r0, r1, r2, r3, r4, r5, r6, r7, r8) → va_P (dC, dI) vwCl [(a_p0, .inr (12, oX12 mmI mmJ mmR)), ((mmR 45), .inl (cI, 22, .inl mm_nightOfF_146)), ((mmR 46), .inl (cI, 22, .inl mm_mileOfF_146)), ((mmR 47), .inl (cI, 22, .inl mm_roundsOfF_146)), ((mmR 48), .inl (cI, 22, .inl mm_talkingOfF_146)), ((mmR 49), .inl (cI, 22, .inl mm_hushOfF_146)), ((mmR 50), .inl (cI, 154, .inl mm_rowOfF_146)), ((mmR 52), .inl (cI, 22, .inl mm_keptManyF_146)), ((mmR 51), .inl (cI, 132, .inl mm_talkOfF_146)), ((mmR 53), .inl (cI, 2640, .inl mm_keptRowF_146))] H → va_D A [(a_p0, .inr (12, oX12 mmI mmJ mmR)), ((mmR 45), .inl (cI, 22, .inl mm_nightOfF_146)), ((mmR 46), .inl (cI, 22, .inl mm_mileOfF_146)), ((mmR 47), .inl (cI, 22, .inl mm_roundsOfF_146)), ((mmR 48), .inl (cI, 22, .inl mm_talkingOfF_146)), ((mmR 49), .inl (cI, 22, .inl mm_hushOfF_146)), ((mmR 50), .inl (cI, 154, .inl mm_rowOfF_146)), ((mmR 52), .inl (cI, 22, .inl mm_keptManyF_146)), ((mmR 51), .inl (cI, 132, .inl mm_talkOfF_146)), ((mmR 53), .inl (cI, 2640, .inl mm_keptRowF_146))] → va_S A s.heap H locs → lv_has ls 4 [(0, .ref a_p0), (1, .int x1_146), (2, .int x2_146), (3, .int x3_146)] → W p l e (headSpec wsX12_copies { frames := 0, cells := 0, slots := 0, locals := 0 }).room s m [.ref a_p0, .int p1, .int p2].toArray below meth c H locs 0 0 (MQ below (xq_Q (dC, dI) vwCl (xq_tys cI cB cJ cZ cM) A [(a_p0, .inr (12, oX12 mmI mmJ mmR)), ((mmR 45), .inl (cI, 22, .inl r0)), ((mmR 46), .inl (cI, 22, .inl r1)), ((mmR 47), .inl (cI, 22, .inl r2)), ((mmR 48), .inl (cI, 22, .inl r3)), ((mmR 49), .inl (cI, 22, .inl r4)), ((mmR 50), .inl (cI, 154, .inl r5)), ((mmR 52), .inl (cI, 22, .inl r6)), ((mmR 51), .inl (cI, 132, .inl r7)), ((mmR 53), .inl (cI, 2640, .inl r8))] none) [.ref a_p0, .int p1, .int p2].toArray s 0 0 A) (F0 m 146 ls []) := by
    intro n146
    induction n146 with
    | zero => intro mm_nightOfF_146 mm_mileOfF_146 mm_roundsOfF_146 mm_talkingOfF_146 mm_hushOfF_146 mm_rowOfF_146 mm_keptManyF_146 mm_talkOfF_146 mm_keptRowF_146 x1_146 x2_146 x3_146 ls H locs hf; cases (show none = some (r0, r1, r2, r3, r4, r5, r6, r7, r8) from hf)
    | succ n146 ih146 =>
      intro mm_nightOfF_146 mm_mileOfF_146 mm_roundsOfF_146 mm_talkingOfF_146 mm_hushOfF_146 mm_rowOfF_146 mm_keptManyF_146 mm_talkOfF_146 mm_keptRowF_146 x1_146 x2_146 x3_146 ls H locs hf hP hD hS hl
      have hf : fX12_copies_l146 N (xq_loop (fX12_copies_l146 N) n146) (mm_nightOfF_146, mm_mileOfF_146, mm_roundsOfF_146, mm_talkingOfF_146, mm_hushOfF_146, mm_rowOfF_146, mm_keptManyF_146, mm_talkOfF_146, mm_keptRowF_146, x1_146, x2_146, x3_146) = some (r0, r1, r2, r3, r4, r5, r6, r7, r8) := hf
      unfold fX12_copies_l146 at hf
      refine lv_iload_n hx hb dX12_copies_146 rfl (lv_at hl 3 rfl) ?_
      refine lv_iconst (v := 3) hx hb dX12_copies_147 (by decide) ?_
      refine lv_aload_n hx hb dX12_copies_148 rfl (lv_at hl 0 rfl) ?_
      refine va_get (D := (dC, dI)) (ci := 12) (v := .ref ((mmR 52))) (C := RX12) (T := TX12) (N := 70) hx hb hts hinX12 hown hK hP 0 rfl rfl 52 (by decide) hw7 (fun _ h9 => h9) rfl dX12_copies_149 ?_
      refine lv_iload_n hx hb dX12_copies_152 rfl (lv_at hl 2 rfl) ?_
      refine xq_iald hx hb hK hP 7 0 rfl rfl hf dX12_copies_153 (fun v_1 hf => ?_)
      refine lv_imul hx hb dX12_copies_154 ?_
      refine lv_icmp_ge (tgt := 186) hx hb dX12_copies_155 (by decide) (fun c_ => ?_) (fun c_ => ?_)
      · have hf := xq_pos hf c_
        have e9 := Option.some.inj hf
        have e9_0 : mm_nightOfF_146 = r0 := congrArg (fun t => t.1) e9
        have e9_1 : mm_mileOfF_146 = r1 := congrArg (fun t => t.2.1) e9
        have e9_2 : mm_roundsOfF_146 = r2 := congrArg (fun t => t.2.2.1) e9
        have e9_3 : mm_talkingOfF_146 = r3 := congrArg (fun t => t.2.2.2.1) e9
        have e9_4 : mm_hushOfF_146 = r4 := congrArg (fun t => t.2.2.2.2.1) e9
        have e9_5 : mm_rowOfF_146 = r5 := congrArg (fun t => t.2.2.2.2.2.1) e9
        have e9_6 : mm_keptManyF_146 = r6 := congrArg (fun t => t.2.2.2.2.2.2.1) e9
        have e9_7 : mm_talkOfF_146 = r7 := congrArg (fun t => t.2.2.2.2.2.2.2.1) e9
        have e9_8 : mm_keptRowF_146 = r8 := congrArg (fun t => t.2.2.2.2.2.2.2.2) e9
        clear e9 hf
        try clear l146
        try clear l62
        try clear l98
        try clear ih146
        try clear ih62
        try clear ih98
        subst e9_0
        subst e9_1
        subst e9_2
        subst e9_3
        subst e9_4
        subst e9_5
        subst e9_6
        subst e9_7
        subst e9_8
        exact xq_vret hx hb hr hlocks hK hP hD hS dX12_copies_186
      · have hf := xq_neg hf c_
        refine lv_aload_n hx hb dX12_copies_158 rfl (lv_at hl 0 rfl) ?_
        refine va_get (D := (dC, dI)) (ci := 12) (v := .ref ((mmR 53))) (C := RX12) (T := TX12) (N := 70) hx hb hts hinX12 hown hK hP 0 rfl rfl 53 (by decide) hw9 (fun _ h9 => h9) rfl dX12_copies_159 ?_
        refine lv_bipush (v := 120) hx hb dX12_copies_162 (by decide) ?_
        refine lv_iload_n hx hb dX12_copies_164 rfl (lv_at hl 1 rfl) ?_
        refine lv_imul hx hb dX12_copies_165 ?_
        refine lv_iload_n hx hb dX12_copies_166 rfl (lv_at hl 3 rfl) ?_
        refine lv_iadd hx hb dX12_copies_167 ?_
        refine lv_aload_n hx hb dX12_copies_168 rfl (lv_at hl 0 rfl) ?_
        refine va_get (D := (dC, dI)) (ci := 12) (v := .ref ((mmR 53))) (C := RX12) (T := TX12) (N := 70) hx hb hts hinX12 hown hK hP 0 rfl rfl 53 (by decide) hw9 (fun _ h9 => h9) rfl dX12_copies_169 ?_
        refine lv_bipush (v := 120) hx hb dX12_copies_172 (by decide) ?_
        refine lv_iload_n hx hb dX12_copies_174 rfl (lv_at hl 2 rfl) ?_
        refine lv_imul hx hb dX12_copies_175 ?_
        refine lv_iload_n hx hb dX12_copies_176 rfl (lv_at hl 3 rfl) ?_
        refine lv_iadd hx hb dX12_copies_177 ?_
        refine xq_iald hx hb hK hP 9 0 rfl rfl hf dX12_copies_178 (fun v_2 hf => ?_)
        refine xq_iast hx hb hK hP hD hS 9 0 rfl rfl hf dX12_copies_179 (fun g_3 H locs hf hP hD hS => ?_)
        have hP : va_P (dC, dI) vwCl [(a_p0, .inr (12, oX12 mmI mmJ mmR)), ((mmR 45), .inl (cI, 22, .inl mm_nightOfF_146)), ((mmR 46), .inl (cI, 22, .inl mm_mileOfF_146)), ((mmR 47), .inl (cI, 22, .inl mm_roundsOfF_146)), ((mmR 48), .inl (cI, 22, .inl mm_talkingOfF_146)), ((mmR 49), .inl (cI, 22, .inl mm_hushOfF_146)), ((mmR 50), .inl (cI, 154, .inl mm_rowOfF_146)), ((mmR 52), .inl (cI, 22, .inl mm_keptManyF_146)), ((mmR 51), .inl (cI, 132, .inl mm_talkOfF_146)), ((mmR 53), .inl (cI, 2640, .inl g_3))] H := hP
        have hD : va_D A [(a_p0, .inr (12, oX12 mmI mmJ mmR)), ((mmR 45), .inl (cI, 22, .inl mm_nightOfF_146)), ((mmR 46), .inl (cI, 22, .inl mm_mileOfF_146)), ((mmR 47), .inl (cI, 22, .inl mm_roundsOfF_146)), ((mmR 48), .inl (cI, 22, .inl mm_talkingOfF_146)), ((mmR 49), .inl (cI, 22, .inl mm_hushOfF_146)), ((mmR 50), .inl (cI, 154, .inl mm_rowOfF_146)), ((mmR 52), .inl (cI, 22, .inl mm_keptManyF_146)), ((mmR 51), .inl (cI, 132, .inl mm_talkOfF_146)), ((mmR 53), .inl (cI, 2640, .inl g_3))] := hD
        refine lv_iinc (v := x3_146 + 1) (lv' := [(3, .int (x3_146 + 1)), (0, .ref a_p0), (1, .int x1_146), (2, .int x2_146)]) hx hb dX12_copies_180 hl (k := 3) rfl (congrArg (fun q9 => x3_146 + q9) (by decide : Int32.ofInt 1 = 1)) (by decide) rfl (fun ls hl => ?_)
        refine lv_goto (tgt := 146) hx hb dX12_copies_183 (by decide) ?_
        exact ih146 mm_nightOfF_146 mm_mileOfF_146 mm_roundsOfF_146 mm_talkingOfF_146 mm_hushOfF_146 mm_rowOfF_146 mm_keptManyF_146 mm_talkOfF_146 g_3 x1_146 x2_146 (x3_146 + 1) _ _ _ hf hP hD hS (lv_sub hl [1, 2, 3, 0] rfl)
  have l98 : ∀ n98 : Nat, ∀ (mm_nightOfF_98 : Nat → Int32) (mm_mileOfF_98 : Nat → Int32) (mm_roundsOfF_98 : Nat → Int32) (mm_talkingOfF_98 : Nat → Int32) (mm_hushOfF_98 : Nat → Int32) (mm_rowOfF_98 : Nat → Int32) (mm_keptManyF_98 : Nat → Int32) (mm_talkOfF_98 : Nat → Int32) (mm_keptRowF_98 : Nat → Int32) (x1_98 : Int32) (x2_98 : Int32) (x3_98 : Int32) (ls : Array Slot) (H : Heap) (locs : List Loc), xq_loop (fX12_copies_l98 N) n98 (mm_nightOfF_98, mm_mileOfF_98, mm_roundsOfF_98, mm_talkingOfF_98, mm_hushOfF_98, mm_rowOfF_98, mm_keptManyF_98, mm_talkOfF_98, mm_keptRowF_98, x1_98, x2_98, x3_98) = some (r0, r1, r2, r3, r4, r5, r6, r7, r8) → va_P (dC, dI) vwCl [(a_p0, .inr (12, oX12 mmI mmJ mmR)), ((mmR 45), .inl (cI, 22, .inl mm_nightOfF_98)), ((mmR 46), .inl (cI, 22, .inl mm_mileOfF_98)), ((mmR 47), .inl (cI, 22, .inl mm_roundsOfF_98)), ((mmR 48), .inl (cI, 22, .inl mm_talkingOfF_98)), ((mmR 49), .inl (cI, 22, .inl mm_hushOfF_98)), ((mmR 50), .inl (cI, 154, .inl mm_rowOfF_98)), ((mmR 52), .inl (cI, 22, .inl mm_keptManyF_98)), ((mmR 51), .inl (cI, 132, .inl mm_talkOfF_98)), ((mmR 53), .inl (cI, 2640, .inl mm_keptRowF_98))] H → va_D A [(a_p0, .inr (12, oX12 mmI mmJ mmR)), ((mmR 45), .inl (cI, 22, .inl mm_nightOfF_98)), ((mmR 46), .inl (cI, 22, .inl mm_mileOfF_98)), ((mmR 47), .inl (cI, 22, .inl mm_roundsOfF_98)), ((mmR 48), .inl (cI, 22, .inl mm_talkingOfF_98)), ((mmR 49), .inl (cI, 22, .inl mm_hushOfF_98)), ((mmR 50), .inl (cI, 154, .inl mm_rowOfF_98)), ((mmR 52), .inl (cI, 22, .inl mm_keptManyF_98)), ((mmR 51), .inl (cI, 132, .inl mm_talkOfF_98)), ((mmR 53), .inl (cI, 2640, .inl mm_keptRowF_98))] → va_S A s.heap H locs → lv_has ls 4 [(0, .ref a_p0), (1, .int x1_98), (2, .int x2_98), (3, .int x3_98)] → W p l e (headSpec wsX12_copies { frames := 0, cells := 0, slots := 0, locals := 0 }).room s m [.ref a_p0, .int p1, .int p2].toArray below meth c H locs 0 0 (MQ below (xq_Q (dC, dI) vwCl (xq_tys cI cB cJ cZ cM) A [(a_p0, .inr (12, oX12 mmI mmJ mmR)), ((mmR 45), .inl (cI, 22, .inl r0)), ((mmR 46), .inl (cI, 22, .inl r1)), ((mmR 47), .inl (cI, 22, .inl r2)), ((mmR 48), .inl (cI, 22, .inl r3)), ((mmR 49), .inl (cI, 22, .inl r4)), ((mmR 50), .inl (cI, 154, .inl r5)), ((mmR 52), .inl (cI, 22, .inl r6)), ((mmR 51), .inl (cI, 132, .inl r7)), ((mmR 53), .inl (cI, 2640, .inl r8))] none) [.ref a_p0, .int p1, .int p2].toArray s 0 0 A) (F0 m 98 ls []) := by
    intro n98
    induction n98 with
    | zero => intro mm_nightOfF_98 mm_mileOfF_98 mm_roundsOfF_98 mm_talkingOfF_98 mm_hushOfF_98 mm_rowOfF_98 mm_keptManyF_98 mm_talkOfF_98 mm_keptRowF_98 x1_98 x2_98 x3_98 ls H locs hf; cases (show none = some (r0, r1, r2, r3, r4, r5, r6, r7, r8) from hf)
    | succ n98 ih98 =>
      intro mm_nightOfF_98 mm_mileOfF_98 mm_roundsOfF_98 mm_talkingOfF_98 mm_hushOfF_98 mm_rowOfF_98 mm_keptManyF_98 mm_talkOfF_98 mm_keptRowF_98 x1_98 x2_98 x3_98 ls H locs hf hP hD hS hl
      have hf : fX12_copies_l98 N (xq_loop (fX12_copies_l98 N) n98) (mm_nightOfF_98, mm_mileOfF_98, mm_roundsOfF_98, mm_talkingOfF_98, mm_hushOfF_98, mm_rowOfF_98, mm_keptManyF_98, mm_talkOfF_98, mm_keptRowF_98, x1_98, x2_98, x3_98) = some (r0, r1, r2, r3, r4, r5, r6, r7, r8) := hf
      unfold fX12_copies_l98 at hf
      refine lv_iload_n hx hb dX12_copies_98 rfl (lv_at hl 3 rfl) ?_
      refine lv_bipush (v := 6) hx hb dX12_copies_99 (by decide) ?_
      refine lv_icmp_ge (tgt := 132) hx hb dX12_copies_101 (by decide) (fun c_ => ?_) (fun c_ => ?_)
      · have hf := xq_pos hf c_
        refine lv_aload_n hx hb dX12_copies_132 rfl (lv_at hl 0 rfl) ?_
        refine va_get (D := (dC, dI)) (ci := 12) (v := .ref ((mmR 52))) (C := RX12) (T := TX12) (N := 70) hx hb hts hinX12 hown hK hP 0 rfl rfl 52 (by decide) hw7 (fun _ h9 => h9) rfl dX12_copies_133 ?_
        refine lv_iload_n hx hb dX12_copies_136 rfl (lv_at hl 1 rfl) ?_
        refine lv_aload_n hx hb dX12_copies_137 rfl (lv_at hl 0 rfl) ?_
        refine va_get (D := (dC, dI)) (ci := 12) (v := .ref ((mmR 52))) (C := RX12) (T := TX12) (N := 70) hx hb hts hinX12 hown hK hP 0 rfl rfl 52 (by decide) hw7 (fun _ h9 => h9) rfl dX12_copies_138 ?_
        refine lv_iload_n hx hb dX12_copies_141 rfl (lv_at hl 2 rfl) ?_
        refine xq_iald hx hb hK hP 7 0 rfl rfl hf dX12_copies_142 (fun v_1 hf => ?_)
        refine xq_iast hx hb hK hP hD hS 7 0 rfl rfl hf dX12_copies_143 (fun g_2 H locs hf hP hD hS => ?_)
        have hP : va_P (dC, dI) vwCl [(a_p0, .inr (12, oX12 mmI mmJ mmR)), ((mmR 45), .inl (cI, 22, .inl mm_nightOfF_98)), ((mmR 46), .inl (cI, 22, .inl mm_mileOfF_98)), ((mmR 47), .inl (cI, 22, .inl mm_roundsOfF_98)), ((mmR 48), .inl (cI, 22, .inl mm_talkingOfF_98)), ((mmR 49), .inl (cI, 22, .inl mm_hushOfF_98)), ((mmR 50), .inl (cI, 154, .inl mm_rowOfF_98)), ((mmR 52), .inl (cI, 22, .inl g_2)), ((mmR 51), .inl (cI, 132, .inl mm_talkOfF_98)), ((mmR 53), .inl (cI, 2640, .inl mm_keptRowF_98))] H := hP
        have hD : va_D A [(a_p0, .inr (12, oX12 mmI mmJ mmR)), ((mmR 45), .inl (cI, 22, .inl mm_nightOfF_98)), ((mmR 46), .inl (cI, 22, .inl mm_mileOfF_98)), ((mmR 47), .inl (cI, 22, .inl mm_roundsOfF_98)), ((mmR 48), .inl (cI, 22, .inl mm_talkingOfF_98)), ((mmR 49), .inl (cI, 22, .inl mm_hushOfF_98)), ((mmR 50), .inl (cI, 154, .inl mm_rowOfF_98)), ((mmR 52), .inl (cI, 22, .inl g_2)), ((mmR 51), .inl (cI, 132, .inl mm_talkOfF_98)), ((mmR 53), .inl (cI, 2640, .inl mm_keptRowF_98))] := hD
        refine lv_iconst (v := 0) hx hb dX12_copies_144 (by decide) ?_
        refine lv_istore_n (lv' := [(3, .int 0), (0, .ref a_p0), (1, .int x1_98), (2, .int x2_98)]) hx hb dX12_copies_145 rfl hl (by decide) rfl (fun ls hl => ?_)
        exact l146 N mm_nightOfF_98 mm_mileOfF_98 mm_roundsOfF_98 mm_talkingOfF_98 mm_hushOfF_98 mm_rowOfF_98 g_2 mm_talkOfF_98 mm_keptRowF_98 x1_98 x2_98 0 _ _ _ hf hP hD hS (lv_sub hl [1, 2, 3, 0] rfl)
      · have hf := xq_neg hf c_
        refine lv_aload_n hx hb dX12_copies_104 rfl (lv_at hl 0 rfl) ?_
        refine va_get (D := (dC, dI)) (ci := 12) (v := .ref ((mmR 51))) (C := RX12) (T := TX12) (N := 70) hx hb hts hinX12 hown hK hP 0 rfl rfl 51 (by decide) hw8 (fun _ h9 => h9) rfl dX12_copies_105 ?_
        refine lv_bipush (v := 6) hx hb dX12_copies_108 (by decide) ?_
        refine lv_iload_n hx hb dX12_copies_110 rfl (lv_at hl 1 rfl) ?_
        refine lv_imul hx hb dX12_copies_111 ?_
        refine lv_iload_n hx hb dX12_copies_112 rfl (lv_at hl 3 rfl) ?_
        refine lv_iadd hx hb dX12_copies_113 ?_
        refine lv_aload_n hx hb dX12_copies_114 rfl (lv_at hl 0 rfl) ?_
        refine va_get (D := (dC, dI)) (ci := 12) (v := .ref ((mmR 51))) (C := RX12) (T := TX12) (N := 70) hx hb hts hinX12 hown hK hP 0 rfl rfl 51 (by decide) hw8 (fun _ h9 => h9) rfl dX12_copies_115 ?_
        refine lv_bipush (v := 6) hx hb dX12_copies_118 (by decide) ?_
        refine lv_iload_n hx hb dX12_copies_120 rfl (lv_at hl 2 rfl) ?_
        refine lv_imul hx hb dX12_copies_121 ?_
        refine lv_iload_n hx hb dX12_copies_122 rfl (lv_at hl 3 rfl) ?_
        refine lv_iadd hx hb dX12_copies_123 ?_
        refine xq_iald hx hb hK hP 8 0 rfl rfl hf dX12_copies_124 (fun v_3 hf => ?_)
        refine xq_iast hx hb hK hP hD hS 8 0 rfl rfl hf dX12_copies_125 (fun g_4 H locs hf hP hD hS => ?_)
        have hP : va_P (dC, dI) vwCl [(a_p0, .inr (12, oX12 mmI mmJ mmR)), ((mmR 45), .inl (cI, 22, .inl mm_nightOfF_98)), ((mmR 46), .inl (cI, 22, .inl mm_mileOfF_98)), ((mmR 47), .inl (cI, 22, .inl mm_roundsOfF_98)), ((mmR 48), .inl (cI, 22, .inl mm_talkingOfF_98)), ((mmR 49), .inl (cI, 22, .inl mm_hushOfF_98)), ((mmR 50), .inl (cI, 154, .inl mm_rowOfF_98)), ((mmR 52), .inl (cI, 22, .inl mm_keptManyF_98)), ((mmR 51), .inl (cI, 132, .inl g_4)), ((mmR 53), .inl (cI, 2640, .inl mm_keptRowF_98))] H := hP
        have hD : va_D A [(a_p0, .inr (12, oX12 mmI mmJ mmR)), ((mmR 45), .inl (cI, 22, .inl mm_nightOfF_98)), ((mmR 46), .inl (cI, 22, .inl mm_mileOfF_98)), ((mmR 47), .inl (cI, 22, .inl mm_roundsOfF_98)), ((mmR 48), .inl (cI, 22, .inl mm_talkingOfF_98)), ((mmR 49), .inl (cI, 22, .inl mm_hushOfF_98)), ((mmR 50), .inl (cI, 154, .inl mm_rowOfF_98)), ((mmR 52), .inl (cI, 22, .inl mm_keptManyF_98)), ((mmR 51), .inl (cI, 132, .inl g_4)), ((mmR 53), .inl (cI, 2640, .inl mm_keptRowF_98))] := hD
        refine lv_iinc (v := x3_98 + 1) (lv' := [(3, .int (x3_98 + 1)), (0, .ref a_p0), (1, .int x1_98), (2, .int x2_98)]) hx hb dX12_copies_126 hl (k := 3) rfl (congrArg (fun q9 => x3_98 + q9) (by decide : Int32.ofInt 1 = 1)) (by decide) rfl (fun ls hl => ?_)
        refine lv_goto (tgt := 98) hx hb dX12_copies_129 (by decide) ?_
        exact ih98 mm_nightOfF_98 mm_mileOfF_98 mm_roundsOfF_98 mm_talkingOfF_98 mm_hushOfF_98 mm_rowOfF_98 mm_keptManyF_98 g_4 mm_keptRowF_98 x1_98 x2_98 (x3_98 + 1) _ _ _ hf hP hD hS (lv_sub hl [1, 2, 3, 0] rfl)
  have l62 : ∀ n62 : Nat, ∀ (mm_nightOfF_62 : Nat → Int32) (mm_mileOfF_62 : Nat → Int32) (mm_roundsOfF_62 : Nat → Int32) (mm_talkingOfF_62 : Nat → Int32) (mm_hushOfF_62 : Nat → Int32) (mm_rowOfF_62 : Nat → Int32) (mm_keptManyF_62 : Nat → Int32) (mm_talkOfF_62 : Nat → Int32) (mm_keptRowF_62 : Nat → Int32) (x1_62 : Int32) (x2_62 : Int32) (x3_62 : Int32) (ls : Array Slot) (H : Heap) (locs : List Loc), xq_loop (fX12_copies_l62 N) n62 (mm_nightOfF_62, mm_mileOfF_62, mm_roundsOfF_62, mm_talkingOfF_62, mm_hushOfF_62, mm_rowOfF_62, mm_keptManyF_62, mm_talkOfF_62, mm_keptRowF_62, x1_62, x2_62, x3_62) = some (r0, r1, r2, r3, r4, r5, r6, r7, r8) → va_P (dC, dI) vwCl [(a_p0, .inr (12, oX12 mmI mmJ mmR)), ((mmR 45), .inl (cI, 22, .inl mm_nightOfF_62)), ((mmR 46), .inl (cI, 22, .inl mm_mileOfF_62)), ((mmR 47), .inl (cI, 22, .inl mm_roundsOfF_62)), ((mmR 48), .inl (cI, 22, .inl mm_talkingOfF_62)), ((mmR 49), .inl (cI, 22, .inl mm_hushOfF_62)), ((mmR 50), .inl (cI, 154, .inl mm_rowOfF_62)), ((mmR 52), .inl (cI, 22, .inl mm_keptManyF_62)), ((mmR 51), .inl (cI, 132, .inl mm_talkOfF_62)), ((mmR 53), .inl (cI, 2640, .inl mm_keptRowF_62))] H → va_D A [(a_p0, .inr (12, oX12 mmI mmJ mmR)), ((mmR 45), .inl (cI, 22, .inl mm_nightOfF_62)), ((mmR 46), .inl (cI, 22, .inl mm_mileOfF_62)), ((mmR 47), .inl (cI, 22, .inl mm_roundsOfF_62)), ((mmR 48), .inl (cI, 22, .inl mm_talkingOfF_62)), ((mmR 49), .inl (cI, 22, .inl mm_hushOfF_62)), ((mmR 50), .inl (cI, 154, .inl mm_rowOfF_62)), ((mmR 52), .inl (cI, 22, .inl mm_keptManyF_62)), ((mmR 51), .inl (cI, 132, .inl mm_talkOfF_62)), ((mmR 53), .inl (cI, 2640, .inl mm_keptRowF_62))] → va_S A s.heap H locs → lv_has ls 4 [(0, .ref a_p0), (1, .int x1_62), (2, .int x2_62), (3, .int x3_62)] → W p l e (headSpec wsX12_copies { frames := 0, cells := 0, slots := 0, locals := 0 }).room s m [.ref a_p0, .int p1, .int p2].toArray below meth c H locs 0 0 (MQ below (xq_Q (dC, dI) vwCl (xq_tys cI cB cJ cZ cM) A [(a_p0, .inr (12, oX12 mmI mmJ mmR)), ((mmR 45), .inl (cI, 22, .inl r0)), ((mmR 46), .inl (cI, 22, .inl r1)), ((mmR 47), .inl (cI, 22, .inl r2)), ((mmR 48), .inl (cI, 22, .inl r3)), ((mmR 49), .inl (cI, 22, .inl r4)), ((mmR 50), .inl (cI, 154, .inl r5)), ((mmR 52), .inl (cI, 22, .inl r6)), ((mmR 51), .inl (cI, 132, .inl r7)), ((mmR 53), .inl (cI, 2640, .inl r8))] none) [.ref a_p0, .int p1, .int p2].toArray s 0 0 A) (F0 m 62 ls []) := by
    intro n62
    induction n62 with
    | zero => intro mm_nightOfF_62 mm_mileOfF_62 mm_roundsOfF_62 mm_talkingOfF_62 mm_hushOfF_62 mm_rowOfF_62 mm_keptManyF_62 mm_talkOfF_62 mm_keptRowF_62 x1_62 x2_62 x3_62 ls H locs hf; cases (show none = some (r0, r1, r2, r3, r4, r5, r6, r7, r8) from hf)
    | succ n62 ih62 =>
      intro mm_nightOfF_62 mm_mileOfF_62 mm_roundsOfF_62 mm_talkingOfF_62 mm_hushOfF_62 mm_rowOfF_62 mm_keptManyF_62 mm_talkOfF_62 mm_keptRowF_62 x1_62 x2_62 x3_62 ls H locs hf hP hD hS hl
      have hf : fX12_copies_l62 N (xq_loop (fX12_copies_l62 N) n62) (mm_nightOfF_62, mm_mileOfF_62, mm_roundsOfF_62, mm_talkingOfF_62, mm_hushOfF_62, mm_rowOfF_62, mm_keptManyF_62, mm_talkOfF_62, mm_keptRowF_62, x1_62, x2_62, x3_62) = some (r0, r1, r2, r3, r4, r5, r6, r7, r8) := hf
      unfold fX12_copies_l62 at hf
      refine lv_iload_n hx hb dX12_copies_62 rfl (lv_at hl 3 rfl) ?_
      refine lv_bipush (v := 7) hx hb dX12_copies_63 (by decide) ?_
      refine lv_icmp_ge (tgt := 96) hx hb dX12_copies_65 (by decide) (fun c_ => ?_) (fun c_ => ?_)
      · have hf := xq_pos hf c_
        refine lv_iconst (v := 0) hx hb dX12_copies_96 (by decide) ?_
        refine lv_istore_n (lv' := [(3, .int 0), (0, .ref a_p0), (1, .int x1_62), (2, .int x2_62)]) hx hb dX12_copies_97 rfl hl (by decide) rfl (fun ls hl => ?_)
        exact l98 N mm_nightOfF_62 mm_mileOfF_62 mm_roundsOfF_62 mm_talkingOfF_62 mm_hushOfF_62 mm_rowOfF_62 mm_keptManyF_62 mm_talkOfF_62 mm_keptRowF_62 x1_62 x2_62 0 _ _ _ hf hP hD hS (lv_sub hl [1, 2, 3, 0] rfl)
      · have hf := xq_neg hf c_
        refine lv_aload_n hx hb dX12_copies_68 rfl (lv_at hl 0 rfl) ?_
        refine va_get (D := (dC, dI)) (ci := 12) (v := .ref ((mmR 50))) (C := RX12) (T := TX12) (N := 70) hx hb hts hinX12 hown hK hP 0 rfl rfl 50 (by decide) hw6 (fun _ h9 => h9) rfl dX12_copies_69 ?_
        refine lv_bipush (v := 7) hx hb dX12_copies_72 (by decide) ?_
        refine lv_iload_n hx hb dX12_copies_74 rfl (lv_at hl 1 rfl) ?_
        refine lv_imul hx hb dX12_copies_75 ?_
        refine lv_iload_n hx hb dX12_copies_76 rfl (lv_at hl 3 rfl) ?_
        refine lv_iadd hx hb dX12_copies_77 ?_
        refine lv_aload_n hx hb dX12_copies_78 rfl (lv_at hl 0 rfl) ?_
        refine va_get (D := (dC, dI)) (ci := 12) (v := .ref ((mmR 50))) (C := RX12) (T := TX12) (N := 70) hx hb hts hinX12 hown hK hP 0 rfl rfl 50 (by decide) hw6 (fun _ h9 => h9) rfl dX12_copies_79 ?_
        refine lv_bipush (v := 7) hx hb dX12_copies_82 (by decide) ?_
        refine lv_iload_n hx hb dX12_copies_84 rfl (lv_at hl 2 rfl) ?_
        refine lv_imul hx hb dX12_copies_85 ?_
        refine lv_iload_n hx hb dX12_copies_86 rfl (lv_at hl 3 rfl) ?_
        refine lv_iadd hx hb dX12_copies_87 ?_
        refine xq_iald hx hb hK hP 6 0 rfl rfl hf dX12_copies_88 (fun v_1 hf => ?_)
        refine xq_iast hx hb hK hP hD hS 6 0 rfl rfl hf dX12_copies_89 (fun g_2 H locs hf hP hD hS => ?_)
        have hP : va_P (dC, dI) vwCl [(a_p0, .inr (12, oX12 mmI mmJ mmR)), ((mmR 45), .inl (cI, 22, .inl mm_nightOfF_62)), ((mmR 46), .inl (cI, 22, .inl mm_mileOfF_62)), ((mmR 47), .inl (cI, 22, .inl mm_roundsOfF_62)), ((mmR 48), .inl (cI, 22, .inl mm_talkingOfF_62)), ((mmR 49), .inl (cI, 22, .inl mm_hushOfF_62)), ((mmR 50), .inl (cI, 154, .inl g_2)), ((mmR 52), .inl (cI, 22, .inl mm_keptManyF_62)), ((mmR 51), .inl (cI, 132, .inl mm_talkOfF_62)), ((mmR 53), .inl (cI, 2640, .inl mm_keptRowF_62))] H := hP
        have hD : va_D A [(a_p0, .inr (12, oX12 mmI mmJ mmR)), ((mmR 45), .inl (cI, 22, .inl mm_nightOfF_62)), ((mmR 46), .inl (cI, 22, .inl mm_mileOfF_62)), ((mmR 47), .inl (cI, 22, .inl mm_roundsOfF_62)), ((mmR 48), .inl (cI, 22, .inl mm_talkingOfF_62)), ((mmR 49), .inl (cI, 22, .inl mm_hushOfF_62)), ((mmR 50), .inl (cI, 154, .inl g_2)), ((mmR 52), .inl (cI, 22, .inl mm_keptManyF_62)), ((mmR 51), .inl (cI, 132, .inl mm_talkOfF_62)), ((mmR 53), .inl (cI, 2640, .inl mm_keptRowF_62))] := hD
        refine lv_iinc (v := x3_62 + 1) (lv' := [(3, .int (x3_62 + 1)), (0, .ref a_p0), (1, .int x1_62), (2, .int x2_62)]) hx hb dX12_copies_90 hl (k := 3) rfl (congrArg (fun q9 => x3_62 + q9) (by decide : Int32.ofInt 1 = 1)) (by decide) rfl (fun ls hl => ?_)
        refine lv_goto (tgt := 62) hx hb dX12_copies_93 (by decide) ?_
        exact ih62 mm_nightOfF_62 mm_mileOfF_62 mm_roundsOfF_62 mm_talkingOfF_62 mm_hushOfF_62 g_2 mm_keptManyF_62 mm_talkOfF_62 mm_keptRowF_62 x1_62 x2_62 (x3_62 + 1) _ _ _ hf hP hD hS (lv_sub hl [1, 2, 3, 0] rfl)
  unfold fX12_copies at hf
  refine lv_aload_n hx hb dX12_copies_0 rfl (lv_at hl 0 rfl) ?_
  refine va_get (D := (dC, dI)) (ci := 12) (v := .ref ((mmR 45))) (C := RX12) (T := TX12) (N := 70) hx hb hts hinX12 hown hK hP 0 rfl rfl 45 (by decide) hw0 (fun _ h9 => h9) rfl dX12_copies_1 ?_
  refine lv_iload_n hx hb dX12_copies_4 rfl (lv_at hl 1 rfl) ?_
  refine lv_aload_n hx hb dX12_copies_5 rfl (lv_at hl 0 rfl) ?_
  refine va_get (D := (dC, dI)) (ci := 12) (v := .ref ((mmR 45))) (C := RX12) (T := TX12) (N := 70) hx hb hts hinX12 hown hK hP 0 rfl rfl 45 (by decide) hw0 (fun _ h9 => h9) rfl dX12_copies_6 ?_
  refine lv_iload_n hx hb dX12_copies_9 rfl (lv_at hl 2 rfl) ?_
  refine xq_iald hx hb hK hP 1 0 rfl rfl hf dX12_copies_10 (fun v_1 hf => ?_)
  refine xq_iast hx hb hK hP hD hS 1 0 rfl rfl hf dX12_copies_11 (fun g_2 H locs hf hP hD hS => ?_)
  have hP : va_P (dC, dI) vwCl [(a_p0, .inr (12, oX12 mmI mmJ mmR)), ((mmR 45), .inl (cI, 22, .inl g_2)), ((mmR 46), .inl (cI, 22, .inl mm_mileOfF)), ((mmR 47), .inl (cI, 22, .inl mm_roundsOfF)), ((mmR 48), .inl (cI, 22, .inl mm_talkingOfF)), ((mmR 49), .inl (cI, 22, .inl mm_hushOfF)), ((mmR 50), .inl (cI, 154, .inl mm_rowOfF)), ((mmR 52), .inl (cI, 22, .inl mm_keptManyF)), ((mmR 51), .inl (cI, 132, .inl mm_talkOfF)), ((mmR 53), .inl (cI, 2640, .inl mm_keptRowF))] H := hP
  have hD : va_D A [(a_p0, .inr (12, oX12 mmI mmJ mmR)), ((mmR 45), .inl (cI, 22, .inl g_2)), ((mmR 46), .inl (cI, 22, .inl mm_mileOfF)), ((mmR 47), .inl (cI, 22, .inl mm_roundsOfF)), ((mmR 48), .inl (cI, 22, .inl mm_talkingOfF)), ((mmR 49), .inl (cI, 22, .inl mm_hushOfF)), ((mmR 50), .inl (cI, 154, .inl mm_rowOfF)), ((mmR 52), .inl (cI, 22, .inl mm_keptManyF)), ((mmR 51), .inl (cI, 132, .inl mm_talkOfF)), ((mmR 53), .inl (cI, 2640, .inl mm_keptRowF))] := hD
  refine lv_aload_n hx hb dX12_copies_12 rfl (lv_at hl 0 rfl) ?_
  refine va_get (D := (dC, dI)) (ci := 12) (v := .ref ((mmR 46))) (C := RX12) (T := TX12) (N := 70) hx hb hts hinX12 hown hK hP 0 rfl rfl 46 (by decide) hw2 (fun _ h9 => h9) rfl dX12_copies_13 ?_
  refine lv_iload_n hx hb dX12_copies_16 rfl (lv_at hl 1 rfl) ?_
  refine lv_aload_n hx hb dX12_copies_17 rfl (lv_at hl 0 rfl) ?_
  refine va_get (D := (dC, dI)) (ci := 12) (v := .ref ((mmR 46))) (C := RX12) (T := TX12) (N := 70) hx hb hts hinX12 hown hK hP 0 rfl rfl 46 (by decide) hw2 (fun _ h9 => h9) rfl dX12_copies_18 ?_
  refine lv_iload_n hx hb dX12_copies_21 rfl (lv_at hl 2 rfl) ?_
  refine xq_iald hx hb hK hP 2 0 rfl rfl hf dX12_copies_22 (fun v_3 hf => ?_)
  refine xq_iast hx hb hK hP hD hS 2 0 rfl rfl hf dX12_copies_23 (fun g_4 H locs hf hP hD hS => ?_)
  have hP : va_P (dC, dI) vwCl [(a_p0, .inr (12, oX12 mmI mmJ mmR)), ((mmR 45), .inl (cI, 22, .inl g_2)), ((mmR 46), .inl (cI, 22, .inl g_4)), ((mmR 47), .inl (cI, 22, .inl mm_roundsOfF)), ((mmR 48), .inl (cI, 22, .inl mm_talkingOfF)), ((mmR 49), .inl (cI, 22, .inl mm_hushOfF)), ((mmR 50), .inl (cI, 154, .inl mm_rowOfF)), ((mmR 52), .inl (cI, 22, .inl mm_keptManyF)), ((mmR 51), .inl (cI, 132, .inl mm_talkOfF)), ((mmR 53), .inl (cI, 2640, .inl mm_keptRowF))] H := hP
  have hD : va_D A [(a_p0, .inr (12, oX12 mmI mmJ mmR)), ((mmR 45), .inl (cI, 22, .inl g_2)), ((mmR 46), .inl (cI, 22, .inl g_4)), ((mmR 47), .inl (cI, 22, .inl mm_roundsOfF)), ((mmR 48), .inl (cI, 22, .inl mm_talkingOfF)), ((mmR 49), .inl (cI, 22, .inl mm_hushOfF)), ((mmR 50), .inl (cI, 154, .inl mm_rowOfF)), ((mmR 52), .inl (cI, 22, .inl mm_keptManyF)), ((mmR 51), .inl (cI, 132, .inl mm_talkOfF)), ((mmR 53), .inl (cI, 2640, .inl mm_keptRowF))] := hD
  refine lv_aload_n hx hb dX12_copies_24 rfl (lv_at hl 0 rfl) ?_
  refine va_get (D := (dC, dI)) (ci := 12) (v := .ref ((mmR 47))) (C := RX12) (T := TX12) (N := 70) hx hb hts hinX12 hown hK hP 0 rfl rfl 47 (by decide) hw3 (fun _ h9 => h9) rfl dX12_copies_25 ?_
  refine lv_iload_n hx hb dX12_copies_28 rfl (lv_at hl 1 rfl) ?_
  refine lv_aload_n hx hb dX12_copies_29 rfl (lv_at hl 0 rfl) ?_
  refine va_get (D := (dC, dI)) (ci := 12) (v := .ref ((mmR 47))) (C := RX12) (T := TX12) (N := 70) hx hb hts hinX12 hown hK hP 0 rfl rfl 47 (by decide) hw3 (fun _ h9 => h9) rfl dX12_copies_30 ?_
  refine lv_iload_n hx hb dX12_copies_33 rfl (lv_at hl 2 rfl) ?_
  refine xq_iald hx hb hK hP 3 0 rfl rfl hf dX12_copies_34 (fun v_5 hf => ?_)
  refine xq_iast hx hb hK hP hD hS 3 0 rfl rfl hf dX12_copies_35 (fun g_6 H locs hf hP hD hS => ?_)
  have hP : va_P (dC, dI) vwCl [(a_p0, .inr (12, oX12 mmI mmJ mmR)), ((mmR 45), .inl (cI, 22, .inl g_2)), ((mmR 46), .inl (cI, 22, .inl g_4)), ((mmR 47), .inl (cI, 22, .inl g_6)), ((mmR 48), .inl (cI, 22, .inl mm_talkingOfF)), ((mmR 49), .inl (cI, 22, .inl mm_hushOfF)), ((mmR 50), .inl (cI, 154, .inl mm_rowOfF)), ((mmR 52), .inl (cI, 22, .inl mm_keptManyF)), ((mmR 51), .inl (cI, 132, .inl mm_talkOfF)), ((mmR 53), .inl (cI, 2640, .inl mm_keptRowF))] H := hP
  have hD : va_D A [(a_p0, .inr (12, oX12 mmI mmJ mmR)), ((mmR 45), .inl (cI, 22, .inl g_2)), ((mmR 46), .inl (cI, 22, .inl g_4)), ((mmR 47), .inl (cI, 22, .inl g_6)), ((mmR 48), .inl (cI, 22, .inl mm_talkingOfF)), ((mmR 49), .inl (cI, 22, .inl mm_hushOfF)), ((mmR 50), .inl (cI, 154, .inl mm_rowOfF)), ((mmR 52), .inl (cI, 22, .inl mm_keptManyF)), ((mmR 51), .inl (cI, 132, .inl mm_talkOfF)), ((mmR 53), .inl (cI, 2640, .inl mm_keptRowF))] := hD
  refine lv_aload_n hx hb dX12_copies_36 rfl (lv_at hl 0 rfl) ?_
  refine va_get (D := (dC, dI)) (ci := 12) (v := .ref ((mmR 48))) (C := RX12) (T := TX12) (N := 70) hx hb hts hinX12 hown hK hP 0 rfl rfl 48 (by decide) hw4 (fun _ h9 => h9) rfl dX12_copies_37 ?_
  refine lv_iload_n hx hb dX12_copies_40 rfl (lv_at hl 1 rfl) ?_
  refine lv_aload_n hx hb dX12_copies_41 rfl (lv_at hl 0 rfl) ?_
  refine va_get (D := (dC, dI)) (ci := 12) (v := .ref ((mmR 48))) (C := RX12) (T := TX12) (N := 70) hx hb hts hinX12 hown hK hP 0 rfl rfl 48 (by decide) hw4 (fun _ h9 => h9) rfl dX12_copies_42 ?_
  refine lv_iload_n hx hb dX12_copies_45 rfl (lv_at hl 2 rfl) ?_
  refine xq_iald hx hb hK hP 4 0 rfl rfl hf dX12_copies_46 (fun v_7 hf => ?_)
  refine xq_iast hx hb hK hP hD hS 4 0 rfl rfl hf dX12_copies_47 (fun g_8 H locs hf hP hD hS => ?_)
  have hP : va_P (dC, dI) vwCl [(a_p0, .inr (12, oX12 mmI mmJ mmR)), ((mmR 45), .inl (cI, 22, .inl g_2)), ((mmR 46), .inl (cI, 22, .inl g_4)), ((mmR 47), .inl (cI, 22, .inl g_6)), ((mmR 48), .inl (cI, 22, .inl g_8)), ((mmR 49), .inl (cI, 22, .inl mm_hushOfF)), ((mmR 50), .inl (cI, 154, .inl mm_rowOfF)), ((mmR 52), .inl (cI, 22, .inl mm_keptManyF)), ((mmR 51), .inl (cI, 132, .inl mm_talkOfF)), ((mmR 53), .inl (cI, 2640, .inl mm_keptRowF))] H := hP
  have hD : va_D A [(a_p0, .inr (12, oX12 mmI mmJ mmR)), ((mmR 45), .inl (cI, 22, .inl g_2)), ((mmR 46), .inl (cI, 22, .inl g_4)), ((mmR 47), .inl (cI, 22, .inl g_6)), ((mmR 48), .inl (cI, 22, .inl g_8)), ((mmR 49), .inl (cI, 22, .inl mm_hushOfF)), ((mmR 50), .inl (cI, 154, .inl mm_rowOfF)), ((mmR 52), .inl (cI, 22, .inl mm_keptManyF)), ((mmR 51), .inl (cI, 132, .inl mm_talkOfF)), ((mmR 53), .inl (cI, 2640, .inl mm_keptRowF))] := hD
  refine lv_aload_n hx hb dX12_copies_48 rfl (lv_at hl 0 rfl) ?_
  refine va_get (D := (dC, dI)) (ci := 12) (v := .ref ((mmR 49))) (C := RX12) (T := TX12) (N := 70) hx hb hts hinX12 hown hK hP 0 rfl rfl 49 (by decide) hw5 (fun _ h9 => h9) rfl dX12_copies_49 ?_
  refine lv_iload_n hx hb dX12_copies_52 rfl (lv_at hl 1 rfl) ?_
  refine lv_aload_n hx hb dX12_copies_53 rfl (lv_at hl 0 rfl) ?_
  refine va_get (D := (dC, dI)) (ci := 12) (v := .ref ((mmR 49))) (C := RX12) (T := TX12) (N := 70) hx hb hts hinX12 hown hK hP 0 rfl rfl 49 (by decide) hw5 (fun _ h9 => h9) rfl dX12_copies_54 ?_
  refine lv_iload_n hx hb dX12_copies_57 rfl (lv_at hl 2 rfl) ?_
  refine xq_iald hx hb hK hP 5 0 rfl rfl hf dX12_copies_58 (fun v_9 hf => ?_)
  refine xq_iast hx hb hK hP hD hS 5 0 rfl rfl hf dX12_copies_59 (fun g_10 H locs hf hP hD hS => ?_)
  have hP : va_P (dC, dI) vwCl [(a_p0, .inr (12, oX12 mmI mmJ mmR)), ((mmR 45), .inl (cI, 22, .inl g_2)), ((mmR 46), .inl (cI, 22, .inl g_4)), ((mmR 47), .inl (cI, 22, .inl g_6)), ((mmR 48), .inl (cI, 22, .inl g_8)), ((mmR 49), .inl (cI, 22, .inl g_10)), ((mmR 50), .inl (cI, 154, .inl mm_rowOfF)), ((mmR 52), .inl (cI, 22, .inl mm_keptManyF)), ((mmR 51), .inl (cI, 132, .inl mm_talkOfF)), ((mmR 53), .inl (cI, 2640, .inl mm_keptRowF))] H := hP
  have hD : va_D A [(a_p0, .inr (12, oX12 mmI mmJ mmR)), ((mmR 45), .inl (cI, 22, .inl g_2)), ((mmR 46), .inl (cI, 22, .inl g_4)), ((mmR 47), .inl (cI, 22, .inl g_6)), ((mmR 48), .inl (cI, 22, .inl g_8)), ((mmR 49), .inl (cI, 22, .inl g_10)), ((mmR 50), .inl (cI, 154, .inl mm_rowOfF)), ((mmR 52), .inl (cI, 22, .inl mm_keptManyF)), ((mmR 51), .inl (cI, 132, .inl mm_talkOfF)), ((mmR 53), .inl (cI, 2640, .inl mm_keptRowF))] := hD
  refine lv_iconst (v := 0) hx hb dX12_copies_60 (by decide) ?_
  refine lv_istore_n (lv' := [(3, .int 0), (0, .ref a_p0), (1, .int p1), (2, .int p2)]) hx hb dX12_copies_61 rfl hl (by decide) rfl (fun ls hl => ?_)
  exact l62 N g_2 g_4 g_6 g_8 g_10 mm_rowOfF mm_keptManyF mm_talkOfF mm_keptRowF p1 p2 0 _ _ _ hf hP hD hS (lv_sub hl [1, 2, 3, 0] rfl)
def dsX12_begin_0 : List (Nat × Instr × Nat) := [(0, (.aload_n 0, 1)), (1, (.getfield 150, 3)), (4, (.iconst 0, 1)), (5, (.iconst 0, 1)), (6, (.iastore, 1)), (7, (.aload_n 0, 1)), (8, (.getfield 153, 3)), (11, (.iconst 0, 1)), (12, (.aload_n 0, 1)), (13, (.getfield 57, 3)), (16, (.aload_n 0, 1)), (17, (.getfield 51, 3)), (20, (.iaload, 1)), (21, (.iastore, 1)), (22, (.aload_n 0, 1)), (23, (.getfield 156, 3)), (26, (.iconst 0, 1)), (27, (.iconst 0, 1)), (28, (.iastore, 1)), (29, (.aload_n 0, 1)), (30, (.getfield 159, 3)), (33, (.iconst 0, 1)), (34, (.iconst 0, 1)), (35, (.iastore, 1)), (36, (.aload_n 0, 1)), (37, (.getfield 162, 3)), (40, (.iconst 0, 1)), (41, (.aload_n 0, 1)), (42, (.getfield 60, 3)), (45, (.aload_n 0, 1)), (46, (.getfield 51, 3)), (49, (.iaload, 1)), (50, (.iastore, 1)), (51, (.iconst 0, 1)), (52, (.istore_n 1, 1)), (53, (.iload_n 1, 1)), (54, (.bipush 7, 2)), (56, (.if_icmp .ge 29, 3)), (59, (.aload_n 0, 1)), (60, (.getfield 165, 3)), (63, (.iload_n 1, 1)), (64, (.aload_n 0, 1)), (65, (.getfield 69, 3)), (68, (.bipush 7, 2)), (70, (.aload_n 0, 1)), (71, (.getfield 51, 3)), (74, (.imul, 1)), (75, (.iload_n 1, 1)), (76, (.iadd, 1)), (77, (.iaload, 1)), (78, (.iastore, 1)), (79, (.iinc 1 1, 3)), (82, (.goto (-29), 3)), (85, (.iconst 0, 1)), (86, (.istore_n 1, 1)), (87, (.iload_n 1, 1)), (88, (.bipush 6, 2)), (90, (.if_icmp .ge 29, 3)), (93, (.aload_n 0, 1)), (94, (.getfield 168, 3))]
theorem dsX12_begin_0_ok : (dsX12_begin_0.all fun q => decide (decode cX12_begin q.1 = .ok q.2)) = true := by decide +kernel
theorem dX12_begin_0 : decode cX12_begin 0 = .ok (.aload_n 0, 1) := of_decide_eq_true (List.all_eq_true.mp dsX12_begin_0_ok (0, (.aload_n 0, 1)) (List.mem_of_getElem? (i := 0) rfl))
theorem dX12_begin_1 : decode cX12_begin 1 = .ok (.getfield 150, 3) := of_decide_eq_true (List.all_eq_true.mp dsX12_begin_0_ok (1, (.getfield 150, 3)) (List.mem_of_getElem? (i := 1) rfl))
theorem dX12_begin_4 : decode cX12_begin 4 = .ok (.iconst 0, 1) := of_decide_eq_true (List.all_eq_true.mp dsX12_begin_0_ok (4, (.iconst 0, 1)) (List.mem_of_getElem? (i := 2) rfl))
theorem dX12_begin_5 : decode cX12_begin 5 = .ok (.iconst 0, 1) := of_decide_eq_true (List.all_eq_true.mp dsX12_begin_0_ok (5, (.iconst 0, 1)) (List.mem_of_getElem? (i := 3) rfl))
theorem dX12_begin_6 : decode cX12_begin 6 = .ok (.iastore, 1) := of_decide_eq_true (List.all_eq_true.mp dsX12_begin_0_ok (6, (.iastore, 1)) (List.mem_of_getElem? (i := 4) rfl))
theorem dX12_begin_7 : decode cX12_begin 7 = .ok (.aload_n 0, 1) := of_decide_eq_true (List.all_eq_true.mp dsX12_begin_0_ok (7, (.aload_n 0, 1)) (List.mem_of_getElem? (i := 5) rfl))
theorem dX12_begin_8 : decode cX12_begin 8 = .ok (.getfield 153, 3) := of_decide_eq_true (List.all_eq_true.mp dsX12_begin_0_ok (8, (.getfield 153, 3)) (List.mem_of_getElem? (i := 6) rfl))
theorem dX12_begin_11 : decode cX12_begin 11 = .ok (.iconst 0, 1) := of_decide_eq_true (List.all_eq_true.mp dsX12_begin_0_ok (11, (.iconst 0, 1)) (List.mem_of_getElem? (i := 7) rfl))
theorem dX12_begin_12 : decode cX12_begin 12 = .ok (.aload_n 0, 1) := of_decide_eq_true (List.all_eq_true.mp dsX12_begin_0_ok (12, (.aload_n 0, 1)) (List.mem_of_getElem? (i := 8) rfl))
theorem dX12_begin_13 : decode cX12_begin 13 = .ok (.getfield 57, 3) := of_decide_eq_true (List.all_eq_true.mp dsX12_begin_0_ok (13, (.getfield 57, 3)) (List.mem_of_getElem? (i := 9) rfl))
theorem dX12_begin_16 : decode cX12_begin 16 = .ok (.aload_n 0, 1) := of_decide_eq_true (List.all_eq_true.mp dsX12_begin_0_ok (16, (.aload_n 0, 1)) (List.mem_of_getElem? (i := 10) rfl))
theorem dX12_begin_17 : decode cX12_begin 17 = .ok (.getfield 51, 3) := of_decide_eq_true (List.all_eq_true.mp dsX12_begin_0_ok (17, (.getfield 51, 3)) (List.mem_of_getElem? (i := 11) rfl))
theorem dX12_begin_20 : decode cX12_begin 20 = .ok (.iaload, 1) := of_decide_eq_true (List.all_eq_true.mp dsX12_begin_0_ok (20, (.iaload, 1)) (List.mem_of_getElem? (i := 12) rfl))
theorem dX12_begin_21 : decode cX12_begin 21 = .ok (.iastore, 1) := of_decide_eq_true (List.all_eq_true.mp dsX12_begin_0_ok (21, (.iastore, 1)) (List.mem_of_getElem? (i := 13) rfl))
theorem dX12_begin_22 : decode cX12_begin 22 = .ok (.aload_n 0, 1) := of_decide_eq_true (List.all_eq_true.mp dsX12_begin_0_ok (22, (.aload_n 0, 1)) (List.mem_of_getElem? (i := 14) rfl))
theorem dX12_begin_23 : decode cX12_begin 23 = .ok (.getfield 156, 3) := of_decide_eq_true (List.all_eq_true.mp dsX12_begin_0_ok (23, (.getfield 156, 3)) (List.mem_of_getElem? (i := 15) rfl))
theorem dX12_begin_26 : decode cX12_begin 26 = .ok (.iconst 0, 1) := of_decide_eq_true (List.all_eq_true.mp dsX12_begin_0_ok (26, (.iconst 0, 1)) (List.mem_of_getElem? (i := 16) rfl))
theorem dX12_begin_27 : decode cX12_begin 27 = .ok (.iconst 0, 1) := of_decide_eq_true (List.all_eq_true.mp dsX12_begin_0_ok (27, (.iconst 0, 1)) (List.mem_of_getElem? (i := 17) rfl))
theorem dX12_begin_28 : decode cX12_begin 28 = .ok (.iastore, 1) := of_decide_eq_true (List.all_eq_true.mp dsX12_begin_0_ok (28, (.iastore, 1)) (List.mem_of_getElem? (i := 18) rfl))
theorem dX12_begin_29 : decode cX12_begin 29 = .ok (.aload_n 0, 1) := of_decide_eq_true (List.all_eq_true.mp dsX12_begin_0_ok (29, (.aload_n 0, 1)) (List.mem_of_getElem? (i := 19) rfl))
theorem dX12_begin_30 : decode cX12_begin 30 = .ok (.getfield 159, 3) := of_decide_eq_true (List.all_eq_true.mp dsX12_begin_0_ok (30, (.getfield 159, 3)) (List.mem_of_getElem? (i := 20) rfl))
theorem dX12_begin_33 : decode cX12_begin 33 = .ok (.iconst 0, 1) := of_decide_eq_true (List.all_eq_true.mp dsX12_begin_0_ok (33, (.iconst 0, 1)) (List.mem_of_getElem? (i := 21) rfl))
theorem dX12_begin_34 : decode cX12_begin 34 = .ok (.iconst 0, 1) := of_decide_eq_true (List.all_eq_true.mp dsX12_begin_0_ok (34, (.iconst 0, 1)) (List.mem_of_getElem? (i := 22) rfl))
theorem dX12_begin_35 : decode cX12_begin 35 = .ok (.iastore, 1) := of_decide_eq_true (List.all_eq_true.mp dsX12_begin_0_ok (35, (.iastore, 1)) (List.mem_of_getElem? (i := 23) rfl))
theorem dX12_begin_36 : decode cX12_begin 36 = .ok (.aload_n 0, 1) := of_decide_eq_true (List.all_eq_true.mp dsX12_begin_0_ok (36, (.aload_n 0, 1)) (List.mem_of_getElem? (i := 24) rfl))
theorem dX12_begin_37 : decode cX12_begin 37 = .ok (.getfield 162, 3) := of_decide_eq_true (List.all_eq_true.mp dsX12_begin_0_ok (37, (.getfield 162, 3)) (List.mem_of_getElem? (i := 25) rfl))
theorem dX12_begin_40 : decode cX12_begin 40 = .ok (.iconst 0, 1) := of_decide_eq_true (List.all_eq_true.mp dsX12_begin_0_ok (40, (.iconst 0, 1)) (List.mem_of_getElem? (i := 26) rfl))
theorem dX12_begin_41 : decode cX12_begin 41 = .ok (.aload_n 0, 1) := of_decide_eq_true (List.all_eq_true.mp dsX12_begin_0_ok (41, (.aload_n 0, 1)) (List.mem_of_getElem? (i := 27) rfl))
theorem dX12_begin_42 : decode cX12_begin 42 = .ok (.getfield 60, 3) := of_decide_eq_true (List.all_eq_true.mp dsX12_begin_0_ok (42, (.getfield 60, 3)) (List.mem_of_getElem? (i := 28) rfl))
theorem dX12_begin_45 : decode cX12_begin 45 = .ok (.aload_n 0, 1) := of_decide_eq_true (List.all_eq_true.mp dsX12_begin_0_ok (45, (.aload_n 0, 1)) (List.mem_of_getElem? (i := 29) rfl))
theorem dX12_begin_46 : decode cX12_begin 46 = .ok (.getfield 51, 3) := of_decide_eq_true (List.all_eq_true.mp dsX12_begin_0_ok (46, (.getfield 51, 3)) (List.mem_of_getElem? (i := 30) rfl))
theorem dX12_begin_49 : decode cX12_begin 49 = .ok (.iaload, 1) := of_decide_eq_true (List.all_eq_true.mp dsX12_begin_0_ok (49, (.iaload, 1)) (List.mem_of_getElem? (i := 31) rfl))
theorem dX12_begin_50 : decode cX12_begin 50 = .ok (.iastore, 1) := of_decide_eq_true (List.all_eq_true.mp dsX12_begin_0_ok (50, (.iastore, 1)) (List.mem_of_getElem? (i := 32) rfl))
theorem dX12_begin_51 : decode cX12_begin 51 = .ok (.iconst 0, 1) := of_decide_eq_true (List.all_eq_true.mp dsX12_begin_0_ok (51, (.iconst 0, 1)) (List.mem_of_getElem? (i := 33) rfl))
theorem dX12_begin_52 : decode cX12_begin 52 = .ok (.istore_n 1, 1) := of_decide_eq_true (List.all_eq_true.mp dsX12_begin_0_ok (52, (.istore_n 1, 1)) (List.mem_of_getElem? (i := 34) rfl))
theorem dX12_begin_53 : decode cX12_begin 53 = .ok (.iload_n 1, 1) := of_decide_eq_true (List.all_eq_true.mp dsX12_begin_0_ok (53, (.iload_n 1, 1)) (List.mem_of_getElem? (i := 35) rfl))
theorem dX12_begin_54 : decode cX12_begin 54 = .ok (.bipush 7, 2) := of_decide_eq_true (List.all_eq_true.mp dsX12_begin_0_ok (54, (.bipush 7, 2)) (List.mem_of_getElem? (i := 36) rfl))
theorem dX12_begin_56 : decode cX12_begin 56 = .ok (.if_icmp .ge 29, 3) := of_decide_eq_true (List.all_eq_true.mp dsX12_begin_0_ok (56, (.if_icmp .ge 29, 3)) (List.mem_of_getElem? (i := 37) rfl))
theorem dX12_begin_59 : decode cX12_begin 59 = .ok (.aload_n 0, 1) := of_decide_eq_true (List.all_eq_true.mp dsX12_begin_0_ok (59, (.aload_n 0, 1)) (List.mem_of_getElem? (i := 38) rfl))
theorem dX12_begin_60 : decode cX12_begin 60 = .ok (.getfield 165, 3) := of_decide_eq_true (List.all_eq_true.mp dsX12_begin_0_ok (60, (.getfield 165, 3)) (List.mem_of_getElem? (i := 39) rfl))
theorem dX12_begin_63 : decode cX12_begin 63 = .ok (.iload_n 1, 1) := of_decide_eq_true (List.all_eq_true.mp dsX12_begin_0_ok (63, (.iload_n 1, 1)) (List.mem_of_getElem? (i := 40) rfl))
theorem dX12_begin_64 : decode cX12_begin 64 = .ok (.aload_n 0, 1) := of_decide_eq_true (List.all_eq_true.mp dsX12_begin_0_ok (64, (.aload_n 0, 1)) (List.mem_of_getElem? (i := 41) rfl))
theorem dX12_begin_65 : decode cX12_begin 65 = .ok (.getfield 69, 3) := of_decide_eq_true (List.all_eq_true.mp dsX12_begin_0_ok (65, (.getfield 69, 3)) (List.mem_of_getElem? (i := 42) rfl))
theorem dX12_begin_68 : decode cX12_begin 68 = .ok (.bipush 7, 2) := of_decide_eq_true (List.all_eq_true.mp dsX12_begin_0_ok (68, (.bipush 7, 2)) (List.mem_of_getElem? (i := 43) rfl))
theorem dX12_begin_70 : decode cX12_begin 70 = .ok (.aload_n 0, 1) := of_decide_eq_true (List.all_eq_true.mp dsX12_begin_0_ok (70, (.aload_n 0, 1)) (List.mem_of_getElem? (i := 44) rfl))
theorem dX12_begin_71 : decode cX12_begin 71 = .ok (.getfield 51, 3) := of_decide_eq_true (List.all_eq_true.mp dsX12_begin_0_ok (71, (.getfield 51, 3)) (List.mem_of_getElem? (i := 45) rfl))
theorem dX12_begin_74 : decode cX12_begin 74 = .ok (.imul, 1) := of_decide_eq_true (List.all_eq_true.mp dsX12_begin_0_ok (74, (.imul, 1)) (List.mem_of_getElem? (i := 46) rfl))
theorem dX12_begin_75 : decode cX12_begin 75 = .ok (.iload_n 1, 1) := of_decide_eq_true (List.all_eq_true.mp dsX12_begin_0_ok (75, (.iload_n 1, 1)) (List.mem_of_getElem? (i := 47) rfl))
theorem dX12_begin_76 : decode cX12_begin 76 = .ok (.iadd, 1) := of_decide_eq_true (List.all_eq_true.mp dsX12_begin_0_ok (76, (.iadd, 1)) (List.mem_of_getElem? (i := 48) rfl))
theorem dX12_begin_77 : decode cX12_begin 77 = .ok (.iaload, 1) := of_decide_eq_true (List.all_eq_true.mp dsX12_begin_0_ok (77, (.iaload, 1)) (List.mem_of_getElem? (i := 49) rfl))
theorem dX12_begin_78 : decode cX12_begin 78 = .ok (.iastore, 1) := of_decide_eq_true (List.all_eq_true.mp dsX12_begin_0_ok (78, (.iastore, 1)) (List.mem_of_getElem? (i := 50) rfl))
theorem dX12_begin_79 : decode cX12_begin 79 = .ok (.iinc 1 1, 3) := of_decide_eq_true (List.all_eq_true.mp dsX12_begin_0_ok (79, (.iinc 1 1, 3)) (List.mem_of_getElem? (i := 51) rfl))
theorem dX12_begin_82 : decode cX12_begin 82 = .ok (.goto (-29), 3) := of_decide_eq_true (List.all_eq_true.mp dsX12_begin_0_ok (82, (.goto (-29), 3)) (List.mem_of_getElem? (i := 52) rfl))
theorem dX12_begin_85 : decode cX12_begin 85 = .ok (.iconst 0, 1) := of_decide_eq_true (List.all_eq_true.mp dsX12_begin_0_ok (85, (.iconst 0, 1)) (List.mem_of_getElem? (i := 53) rfl))
theorem dX12_begin_86 : decode cX12_begin 86 = .ok (.istore_n 1, 1) := of_decide_eq_true (List.all_eq_true.mp dsX12_begin_0_ok (86, (.istore_n 1, 1)) (List.mem_of_getElem? (i := 54) rfl))
theorem dX12_begin_87 : decode cX12_begin 87 = .ok (.iload_n 1, 1) := of_decide_eq_true (List.all_eq_true.mp dsX12_begin_0_ok (87, (.iload_n 1, 1)) (List.mem_of_getElem? (i := 55) rfl))
theorem dX12_begin_88 : decode cX12_begin 88 = .ok (.bipush 6, 2) := of_decide_eq_true (List.all_eq_true.mp dsX12_begin_0_ok (88, (.bipush 6, 2)) (List.mem_of_getElem? (i := 56) rfl))
theorem dX12_begin_90 : decode cX12_begin 90 = .ok (.if_icmp .ge 29, 3) := of_decide_eq_true (List.all_eq_true.mp dsX12_begin_0_ok (90, (.if_icmp .ge 29, 3)) (List.mem_of_getElem? (i := 57) rfl))
theorem dX12_begin_93 : decode cX12_begin 93 = .ok (.aload_n 0, 1) := of_decide_eq_true (List.all_eq_true.mp dsX12_begin_0_ok (93, (.aload_n 0, 1)) (List.mem_of_getElem? (i := 58) rfl))
theorem dX12_begin_94 : decode cX12_begin 94 = .ok (.getfield 168, 3) := of_decide_eq_true (List.all_eq_true.mp dsX12_begin_0_ok (94, (.getfield 168, 3)) (List.mem_of_getElem? (i := 59) rfl))
def dsX12_begin_1 : List (Nat × Instr × Nat) := [(97, (.iload_n 1, 1)), (98, (.aload_n 0, 1)), (99, (.getfield 81, 3)), (102, (.bipush 6, 2)), (104, (.aload_n 0, 1)), (105, (.getfield 51, 3)), (108, (.imul, 1)), (109, (.iload_n 1, 1)), (110, (.iadd, 1)), (111, (.iaload, 1)), (112, (.iastore, 1)), (113, (.iinc 1 1, 3)), (116, (.goto (-29), 3)), (119, (.aload_n 0, 1)), (120, (.getfield 171, 3)), (123, (.iconst 0, 1)), (124, (.iconst 0, 1)), (125, (.iastore, 1)), (126, (.aload_n 0, 1)), (127, (.iconst 0, 1)), (128, (.putfield 180, 3)), (131, (.aload_n 0, 1)), (132, (.iconst 0, 1)), (133, (.putfield 201, 3)), (136, (.return_, 1))]
theorem dsX12_begin_1_ok : (dsX12_begin_1.all fun q => decide (decode cX12_begin q.1 = .ok q.2)) = true := by decide +kernel
theorem dX12_begin_97 : decode cX12_begin 97 = .ok (.iload_n 1, 1) := of_decide_eq_true (List.all_eq_true.mp dsX12_begin_1_ok (97, (.iload_n 1, 1)) (List.mem_of_getElem? (i := 0) rfl))
theorem dX12_begin_98 : decode cX12_begin 98 = .ok (.aload_n 0, 1) := of_decide_eq_true (List.all_eq_true.mp dsX12_begin_1_ok (98, (.aload_n 0, 1)) (List.mem_of_getElem? (i := 1) rfl))
theorem dX12_begin_99 : decode cX12_begin 99 = .ok (.getfield 81, 3) := of_decide_eq_true (List.all_eq_true.mp dsX12_begin_1_ok (99, (.getfield 81, 3)) (List.mem_of_getElem? (i := 2) rfl))
theorem dX12_begin_102 : decode cX12_begin 102 = .ok (.bipush 6, 2) := of_decide_eq_true (List.all_eq_true.mp dsX12_begin_1_ok (102, (.bipush 6, 2)) (List.mem_of_getElem? (i := 3) rfl))
theorem dX12_begin_104 : decode cX12_begin 104 = .ok (.aload_n 0, 1) := of_decide_eq_true (List.all_eq_true.mp dsX12_begin_1_ok (104, (.aload_n 0, 1)) (List.mem_of_getElem? (i := 4) rfl))
theorem dX12_begin_105 : decode cX12_begin 105 = .ok (.getfield 51, 3) := of_decide_eq_true (List.all_eq_true.mp dsX12_begin_1_ok (105, (.getfield 51, 3)) (List.mem_of_getElem? (i := 5) rfl))
theorem dX12_begin_108 : decode cX12_begin 108 = .ok (.imul, 1) := of_decide_eq_true (List.all_eq_true.mp dsX12_begin_1_ok (108, (.imul, 1)) (List.mem_of_getElem? (i := 6) rfl))
theorem dX12_begin_109 : decode cX12_begin 109 = .ok (.iload_n 1, 1) := of_decide_eq_true (List.all_eq_true.mp dsX12_begin_1_ok (109, (.iload_n 1, 1)) (List.mem_of_getElem? (i := 7) rfl))
theorem dX12_begin_110 : decode cX12_begin 110 = .ok (.iadd, 1) := of_decide_eq_true (List.all_eq_true.mp dsX12_begin_1_ok (110, (.iadd, 1)) (List.mem_of_getElem? (i := 8) rfl))
theorem dX12_begin_111 : decode cX12_begin 111 = .ok (.iaload, 1) := of_decide_eq_true (List.all_eq_true.mp dsX12_begin_1_ok (111, (.iaload, 1)) (List.mem_of_getElem? (i := 9) rfl))
theorem dX12_begin_112 : decode cX12_begin 112 = .ok (.iastore, 1) := of_decide_eq_true (List.all_eq_true.mp dsX12_begin_1_ok (112, (.iastore, 1)) (List.mem_of_getElem? (i := 10) rfl))
theorem dX12_begin_113 : decode cX12_begin 113 = .ok (.iinc 1 1, 3) := of_decide_eq_true (List.all_eq_true.mp dsX12_begin_1_ok (113, (.iinc 1 1, 3)) (List.mem_of_getElem? (i := 11) rfl))
theorem dX12_begin_116 : decode cX12_begin 116 = .ok (.goto (-29), 3) := of_decide_eq_true (List.all_eq_true.mp dsX12_begin_1_ok (116, (.goto (-29), 3)) (List.mem_of_getElem? (i := 12) rfl))
theorem dX12_begin_119 : decode cX12_begin 119 = .ok (.aload_n 0, 1) := of_decide_eq_true (List.all_eq_true.mp dsX12_begin_1_ok (119, (.aload_n 0, 1)) (List.mem_of_getElem? (i := 13) rfl))
theorem dX12_begin_120 : decode cX12_begin 120 = .ok (.getfield 171, 3) := of_decide_eq_true (List.all_eq_true.mp dsX12_begin_1_ok (120, (.getfield 171, 3)) (List.mem_of_getElem? (i := 14) rfl))
theorem dX12_begin_123 : decode cX12_begin 123 = .ok (.iconst 0, 1) := of_decide_eq_true (List.all_eq_true.mp dsX12_begin_1_ok (123, (.iconst 0, 1)) (List.mem_of_getElem? (i := 15) rfl))
theorem dX12_begin_124 : decode cX12_begin 124 = .ok (.iconst 0, 1) := of_decide_eq_true (List.all_eq_true.mp dsX12_begin_1_ok (124, (.iconst 0, 1)) (List.mem_of_getElem? (i := 16) rfl))
theorem dX12_begin_125 : decode cX12_begin 125 = .ok (.iastore, 1) := of_decide_eq_true (List.all_eq_true.mp dsX12_begin_1_ok (125, (.iastore, 1)) (List.mem_of_getElem? (i := 17) rfl))
theorem dX12_begin_126 : decode cX12_begin 126 = .ok (.aload_n 0, 1) := of_decide_eq_true (List.all_eq_true.mp dsX12_begin_1_ok (126, (.aload_n 0, 1)) (List.mem_of_getElem? (i := 18) rfl))
theorem dX12_begin_127 : decode cX12_begin 127 = .ok (.iconst 0, 1) := of_decide_eq_true (List.all_eq_true.mp dsX12_begin_1_ok (127, (.iconst 0, 1)) (List.mem_of_getElem? (i := 19) rfl))
theorem dX12_begin_128 : decode cX12_begin 128 = .ok (.putfield 180, 3) := of_decide_eq_true (List.all_eq_true.mp dsX12_begin_1_ok (128, (.putfield 180, 3)) (List.mem_of_getElem? (i := 20) rfl))
theorem dX12_begin_131 : decode cX12_begin 131 = .ok (.aload_n 0, 1) := of_decide_eq_true (List.all_eq_true.mp dsX12_begin_1_ok (131, (.aload_n 0, 1)) (List.mem_of_getElem? (i := 21) rfl))
theorem dX12_begin_132 : decode cX12_begin 132 = .ok (.iconst 0, 1) := of_decide_eq_true (List.all_eq_true.mp dsX12_begin_1_ok (132, (.iconst 0, 1)) (List.mem_of_getElem? (i := 22) rfl))
theorem dX12_begin_133 : decode cX12_begin 133 = .ok (.putfield 201, 3) := of_decide_eq_true (List.all_eq_true.mp dsX12_begin_1_ok (133, (.putfield 201, 3)) (List.mem_of_getElem? (i := 23) rfl))
theorem dX12_begin_136 : decode cX12_begin 136 = .ok (.return_, 1) := of_decide_eq_true (List.all_eq_true.mp dsX12_begin_1_ok (136, (.return_, 1)) (List.mem_of_getElem? (i := 24) rfl))
def fX12_begin_l87 (N : Nat) (mm_voiceToldF : Nat → Int32) (mm_hushToldF : Nat → Int32) (mm_rowToldF : Nat → Int32) (mm_talkToldF : Nat → Int32)  (k87 : ((Nat → Int32) × (Nat → Int32) × (Nat → Int32) × (Nat → Int32) × (Nat → Int32) × (Nat → Int32) × (Nat → Int32) × (Nat → Int32) × (Nat → Int32) × Int32) → Option ((Nat → Int32) × (Nat → Int32) × (Nat → Int32) × (Nat → Int32) × (Nat → Int32) × (Nat → Int32) × (Nat → Int32) × (Nat → Int32) × (Nat → Int32))) : ((Nat → Int32) × (Nat → Int32) × (Nat → Int32) × (Nat → Int32) × (Nat → Int32) × (Nat → Int32) × (Nat → Int32) × (Nat → Int32) × (Nat → Int32) × Int32) → Option ((Nat → Int32) × (Nat → Int32) × (Nat → Int32) × (Nat → Int32) × (Nat → Int32) × (Nat → Int32) × (Nat → Int32) × (Nat → Int32) × (Nat → Int32)) :=
  fun (mmI_87, mm_nightOfF_87, mm_mileOfF_87, mm_roundsOfF_87, mm_talkingOfF_87, mm_hushOfF_87, mm_rowOfF_87, mm_keptManyF_87, mm_talkOfF_87, x1_87) => (if 6 ≤ x1_87 then (xq_bd (xq_ast 22 mm_keptManyF_87 0 0) fun g_1 => some (((va_up (va_up mmI_87 55 0) 62 0), mm_nightOfF_87, mm_mileOfF_87, mm_roundsOfF_87, mm_talkingOfF_87, mm_hushOfF_87, mm_rowOfF_87, g_1, mm_talkOfF_87))) else (xq_bd (xq_ald 12 mm_talkToldF ((6 * (mmI_87 13)) + x1_87)) fun v_2 => (xq_bd (xq_ast 132 mm_talkOfF_87 x1_87 v_2) fun g_3 => k87 (mmI_87, mm_nightOfF_87, mm_mileOfF_87, mm_roundsOfF_87, mm_talkingOfF_87, mm_hushOfF_87, mm_rowOfF_87, mm_keptManyF_87, g_3, x1_87 + 1))))
def fX12_begin_l53 (N : Nat) (mm_voiceToldF : Nat → Int32) (mm_hushToldF : Nat → Int32) (mm_rowToldF : Nat → Int32) (mm_talkToldF : Nat → Int32)  (k53 : ((Nat → Int32) × (Nat → Int32) × (Nat → Int32) × (Nat → Int32) × (Nat → Int32) × (Nat → Int32) × (Nat → Int32) × (Nat → Int32) × (Nat → Int32) × Int32) → Option ((Nat → Int32) × (Nat → Int32) × (Nat → Int32) × (Nat → Int32) × (Nat → Int32) × (Nat → Int32) × (Nat → Int32) × (Nat → Int32) × (Nat → Int32))) : ((Nat → Int32) × (Nat → Int32) × (Nat → Int32) × (Nat → Int32) × (Nat → Int32) × (Nat → Int32) × (Nat → Int32) × (Nat → Int32) × (Nat → Int32) × Int32) → Option ((Nat → Int32) × (Nat → Int32) × (Nat → Int32) × (Nat → Int32) × (Nat → Int32) × (Nat → Int32) × (Nat → Int32) × (Nat → Int32) × (Nat → Int32)) :=
  fun (mmI_53, mm_nightOfF_53, mm_mileOfF_53, mm_roundsOfF_53, mm_talkingOfF_53, mm_hushOfF_53, mm_rowOfF_53, mm_keptManyF_53, mm_talkOfF_53, x1_53) => (if 7 ≤ x1_53 then xq_loop (fX12_begin_l87 N mm_voiceToldF mm_hushToldF mm_rowToldF mm_talkToldF) N (mmI_53, mm_nightOfF_53, mm_mileOfF_53, mm_roundsOfF_53, mm_talkingOfF_53, mm_hushOfF_53, mm_rowOfF_53, mm_keptManyF_53, mm_talkOfF_53, 0) else (xq_bd (xq_ald 14 mm_rowToldF ((7 * (mmI_53 13)) + x1_53)) fun v_4 => (xq_bd (xq_ast 154 mm_rowOfF_53 x1_53 v_4) fun g_5 => k53 (mmI_53, mm_nightOfF_53, mm_mileOfF_53, mm_roundsOfF_53, mm_talkingOfF_53, mm_hushOfF_53, g_5, mm_keptManyF_53, mm_talkOfF_53, x1_53 + 1))))
def fX12_begin (N : Nat) (mmI : Nat → Int32) (mm_nightOfF : Nat → Int32) (mm_voiceToldF : Nat → Int32) (mm_mileOfF : Nat → Int32) (mm_roundsOfF : Nat → Int32) (mm_talkingOfF : Nat → Int32) (mm_hushToldF : Nat → Int32) (mm_hushOfF : Nat → Int32) (mm_rowToldF : Nat → Int32) (mm_rowOfF : Nat → Int32) (mm_keptManyF : Nat → Int32) (mm_talkToldF : Nat → Int32) (mm_talkOfF : Nat → Int32)   : Option ((Nat → Int32) × (Nat → Int32) × (Nat → Int32) × (Nat → Int32) × (Nat → Int32) × (Nat → Int32) × (Nat → Int32) × (Nat → Int32) × (Nat → Int32)) :=
  (xq_bd (xq_ast 22 mm_nightOfF 0 0) fun g_1 => (xq_bd (xq_ald 2 mm_voiceToldF (mmI 13)) fun v_2 => (xq_bd (xq_ast 22 mm_mileOfF 0 v_2) fun g_3 => (xq_bd (xq_ast 22 mm_roundsOfF 0 0) fun g_4 => (xq_bd (xq_ast 22 mm_talkingOfF 0 0) fun g_5 => (xq_bd (xq_ald 2 mm_hushToldF (mmI 13)) fun v_6 => (xq_bd (xq_ast 22 mm_hushOfF 0 v_6) fun g_7 => xq_loop (fX12_begin_l53 N mm_voiceToldF mm_hushToldF mm_rowToldF mm_talkToldF) N (mmI, g_1, g_3, g_4, g_5, g_7, mm_rowOfF, mm_keptManyF, mm_talkOfF, 0))))))))
set_option maxHeartbeats 4000000 in
set_option maxRecDepth 100000 in
theorem kX12_begin (l : Launch) (dC : Nat → ClassId) (dI : Nat → Nat → Nat) (cI cB cJ cZ cM : ClassId) (z : Nat) (ad : Nat → Nat) (N : Nat) (a_p0 : Nat) (mmI : Nat → Int32) (mmJ : Nat → Int64) (mmR : Nat → Nat) (mm_nightOfF : Nat → Int32) (mm_voiceToldF : Nat → Int32) (mm_mileOfF : Nat → Int32) (mm_roundsOfF : Nat → Int32) (mm_talkingOfF : Nat → Int32) (mm_hushToldF : Nat → Int32) (mm_hushOfF : Nat → Int32) (mm_rowToldF : Nat → Int32) (mm_rowOfF : Nat → Int32) (mm_keptManyF : Nat → Int32) (mm_talkToldF : Nat → Int32) (mm_talkOfF : Nat → Int32) {r0 : Nat → Int32} {r1 : Nat → Int32} {r2 : Nat → Int32} {r3 : Nat → Int32} {r4 : Nat → Int32} {r5 : Nat → Int32} {r6 : Nat → Int32} {r7 : Nat → Int32} {r8 : Nat → Int32} (hf : fX12_begin N mmI mm_nightOfF mm_voiceToldF mm_mileOfF mm_roundsOfF mm_talkingOfF mm_hushToldF mm_hushOfF mm_rowToldF mm_rowOfF mm_keptManyF mm_talkToldF mm_talkOfF = some (r0, r1, r2, r3, r4, r5, r6, r7, r8)) : xq_Ct l yX12_begin wsX12_begin { frames := 0, cells := 0, slots := 0, locals := 0 } (dC, dI) vwCl (xq_tys cI cB cJ cZ cM) z ad [.ref a_p0] [(a_p0, .inr (12, oX12 mmI mmJ mmR)), ((mmR 45), .inl (cI, 22, .inl mm_nightOfF)), ((mmR 15), .inl (cI, 2, .inl mm_voiceToldF)), ((mmR 46), .inl (cI, 22, .inl mm_mileOfF)), ((mmR 47), .inl (cI, 22, .inl mm_roundsOfF)), ((mmR 48), .inl (cI, 22, .inl mm_talkingOfF)), ((mmR 16), .inl (cI, 2, .inl mm_hushToldF)), ((mmR 49), .inl (cI, 22, .inl mm_hushOfF)), ((mmR 19), .inl (cI, 14, .inl mm_rowToldF)), ((mmR 50), .inl (cI, 154, .inl mm_rowOfF)), ((mmR 52), .inl (cI, 22, .inl mm_keptManyF)), ((mmR 23), .inl (cI, 12, .inl mm_talkToldF)), ((mmR 51), .inl (cI, 132, .inl mm_talkOfF))] [(a_p0, .inr (12, oX12 r0 mmJ mmR)), ((mmR 45), .inl (cI, 22, .inl r1)), ((mmR 15), .inl (cI, 2, .inl mm_voiceToldF)), ((mmR 46), .inl (cI, 22, .inl r2)), ((mmR 47), .inl (cI, 22, .inl r3)), ((mmR 48), .inl (cI, 22, .inl r4)), ((mmR 16), .inl (cI, 2, .inl mm_hushToldF)), ((mmR 49), .inl (cI, 22, .inl r5)), ((mmR 19), .inl (cI, 14, .inl mm_rowToldF)), ((mmR 50), .inl (cI, 154, .inl r6)), ((mmR 52), .inl (cI, 22, .inl r7)), ((mmR 23), .inl (cI, 12, .inl mm_talkToldF)), ((mmR 51), .inl (cI, 132, .inl r8))] none := by
  intro sz
  refine Met.ofW (cc := cX12_begin) (maxL := 2) (ret := none) (by decide) rfl ?_
  intro p e s m args below meth c s₁ B hml hv
  obtain ⟨rfl, hsz, hP, hK, hD0, hE, hz⟩ := hv
  have hx := B.exec
  have hb := B.bytes
  have hr := B.returns
  have hts := atoms_spec (ws := wsX12_begin) B.pre
  have hown : s.vm.findClass RX12 = some m.cls := findClass_of_methodNamed B.named
  have hlocks := B.notSynchronized
  subst hsz
  have hD := hD0.self (sz := s.heap.size)
  have hN := xq_Env.of hE hz hD0
  generalize hAe : va_A [(a_p0, .inr (12, oX12 mmI mmJ mmR)), ((mmR 45), .inl (cI, 22, .inl mm_nightOfF)), ((mmR 15), .inl (cI, 2, .inl mm_voiceToldF)), ((mmR 46), .inl (cI, 22, .inl mm_mileOfF)), ((mmR 47), .inl (cI, 22, .inl mm_roundsOfF)), ((mmR 48), .inl (cI, 22, .inl mm_talkingOfF)), ((mmR 16), .inl (cI, 2, .inl mm_hushToldF)), ((mmR 49), .inl (cI, 22, .inl mm_hushOfF)), ((mmR 19), .inl (cI, 14, .inl mm_rowToldF)), ((mmR 50), .inl (cI, 154, .inl mm_rowOfF)), ((mmR 52), .inl (cI, 22, .inl mm_keptManyF)), ((mmR 23), .inl (cI, 12, .inl mm_talkToldF)), ((mmR 51), .inl (cI, 132, .inl mm_talkOfF))] s.heap.size = A at hD hN ⊢
  have hA : ∀ q : Nat, s.heap.size ≤ q → A q := fun q h => by rw [← hAe]; exact Or.inr h
  clear hAe hD0
  have hS : va_S A s.heap s.heap [] := va_S.rf
  have hl := lv_entry ([.ref a_p0]) (n := 2) (Nat.le_of_ble_eq_true rfl)
  rw [lg_entry_eq]
  generalize (lg_sl ([.ref a_p0]) ++ List.replicate (2 - (lg_sl ([.ref a_p0])).length) Slot.unset).toArray = ls at hl ⊢
  have hl : lv_has ls 2 [(0, .ref a_p0)] := hl
  have hw0 := hts (.fieldLink RX12 150 "DistantVoiceModel" "nightOf" "[I") (by decide +kernel)
  have hinX12 : ∀ w ∈ wsX120, w ∈ wsX12_begin := fun w h => List.mem_cons_of_mem _ (List.mem_append_right _ h)
  have hw2 := hts (.fieldLink RX12 153 "DistantVoiceModel" "mileOf" "[I") (by decide +kernel)
  have hw3 := hts (.fieldLink RX12 57 "DistantVoiceModel" "voiceTold" "[I") (by decide +kernel)
  have hw4 := hts (.fieldLink RX12 51 "DistantVoiceModel" "bank" "I") (by decide +kernel)
  have hw5 := hts (.fieldLink RX12 156 "DistantVoiceModel" "roundsOf" "[I") (by decide +kernel)
  have hw6 := hts (.fieldLink RX12 159 "DistantVoiceModel" "talkingOf" "[I") (by decide +kernel)
  have hw7 := hts (.fieldLink RX12 162 "DistantVoiceModel" "hushOf" "[I") (by decide +kernel)
  have hw8 := hts (.fieldLink RX12 60 "DistantVoiceModel" "hushTold" "[I") (by decide +kernel)
  have hw9 := hts (.fieldLink RX12 165 "DistantVoiceModel" "rowOf" "[I") (by decide +kernel)
  have hw10 := hts (.fieldLink RX12 69 "DistantVoiceModel" "rowTold" "[I") (by decide +kernel)
  have hw11 := hts (.fieldLink RX12 171 "DistantVoiceModel" "keptMany" "[I") (by decide +kernel)
  have hw12 := hts (.fieldLink RX12 180 "DistantVoiceModel" "undos" "I") (by decide +kernel)
  have hw13 := hts (.fieldLink RX12 201 "DistantVoiceModel" "marked" "I") (by decide +kernel)
  have hw14 := hts (.fieldLink RX12 168 "DistantVoiceModel" "talkOf" "[I") (by decide +kernel)
  have hw15 := hts (.fieldLink RX12 81 "DistantVoiceModel" "talkTold" "[I") (by decide +kernel)
  have l87 : ∀ n87 : Nat, ∀ (mmI_87 : Nat → Int32) (mm_nightOfF_87 : Nat → Int32) (mm_mileOfF_87 : Nat → Int32) (mm_roundsOfF_87 : Nat → Int32) (mm_talkingOfF_87 : Nat → Int32) (mm_hushOfF_87 : Nat → Int32) (mm_rowOfF_87 : Nat → Int32) (mm_keptManyF_87 : Nat → Int32) (mm_talkOfF_87 : Nat → Int32) (x1_87 : Int32) (ls : Array Slot) (H : Heap) (locs : List Loc), xq_loop (fX12_begin_l87 N mm_voiceToldF mm_hushToldF mm_rowToldF mm_talkToldF) n87 (mmI_87, mm_nightOfF_87, mm_mileOfF_87, mm_roundsOfF_87, mm_talkingOfF_87, mm_hushOfF_87, mm_rowOfF_87, mm_keptManyF_87, mm_talkOfF_87, x1_87) = some (r0, r1, r2, r3, r4, r5, r6, r7, r8) → va_P (dC, dI) vwCl [(a_p0, .inr (12, oX12 mmI_87 mmJ mmR)), ((mmR 45), .inl (cI, 22, .inl mm_nightOfF_87)), ((mmR 15), .inl (cI, 2, .inl mm_voiceToldF)), ((mmR 46), .inl (cI, 22, .inl mm_mileOfF_87)), ((mmR 47), .inl (cI, 22, .inl mm_roundsOfF_87)), ((mmR 48), .inl (cI, 22, .inl mm_talkingOfF_87)), ((mmR 16), .inl (cI, 2, .inl mm_hushToldF)), ((mmR 49), .inl (cI, 22, .inl mm_hushOfF_87)), ((mmR 19), .inl (cI, 14, .inl mm_rowToldF)), ((mmR 50), .inl (cI, 154, .inl mm_rowOfF_87)), ((mmR 52), .inl (cI, 22, .inl mm_keptManyF_87)), ((mmR 23), .inl (cI, 12, .inl mm_talkToldF)), ((mmR 51), .inl (cI, 132, .inl mm_talkOfF_87))] H → va_D A [(a_p0, .inr (12, oX12 mmI_87 mmJ mmR)), ((mmR 45), .inl (cI, 22, .inl mm_nightOfF_87)), ((mmR 15), .inl (cI, 2, .inl mm_voiceToldF)), ((mmR 46), .inl (cI, 22, .inl mm_mileOfF_87)), ((mmR 47), .inl (cI, 22, .inl mm_roundsOfF_87)), ((mmR 48), .inl (cI, 22, .inl mm_talkingOfF_87)), ((mmR 16), .inl (cI, 2, .inl mm_hushToldF)), ((mmR 49), .inl (cI, 22, .inl mm_hushOfF_87)), ((mmR 19), .inl (cI, 14, .inl mm_rowToldF)), ((mmR 50), .inl (cI, 154, .inl mm_rowOfF_87)), ((mmR 52), .inl (cI, 22, .inl mm_keptManyF_87)), ((mmR 23), .inl (cI, 12, .inl mm_talkToldF)), ((mmR 51), .inl (cI, 132, .inl mm_talkOfF_87))] → va_S A s.heap H locs → lv_has ls 2 [(0, .ref a_p0), (1, .int x1_87)] → W p l e (headSpec wsX12_begin { frames := 0, cells := 0, slots := 0, locals := 0 }).room s m [.ref a_p0].toArray below meth c H locs 0 0 (MQ below (xq_Q (dC, dI) vwCl (xq_tys cI cB cJ cZ cM) A [(a_p0, .inr (12, oX12 r0 mmJ mmR)), ((mmR 45), .inl (cI, 22, .inl r1)), ((mmR 15), .inl (cI, 2, .inl mm_voiceToldF)), ((mmR 46), .inl (cI, 22, .inl r2)), ((mmR 47), .inl (cI, 22, .inl r3)), ((mmR 48), .inl (cI, 22, .inl r4)), ((mmR 16), .inl (cI, 2, .inl mm_hushToldF)), ((mmR 49), .inl (cI, 22, .inl r5)), ((mmR 19), .inl (cI, 14, .inl mm_rowToldF)), ((mmR 50), .inl (cI, 154, .inl r6)), ((mmR 52), .inl (cI, 22, .inl r7)), ((mmR 23), .inl (cI, 12, .inl mm_talkToldF)), ((mmR 51), .inl (cI, 132, .inl r8))] none) [.ref a_p0].toArray s 0 0 A) (F0 m 87 ls []) := by
    intro n87
    induction n87 with
    | zero => intro mmI_87 mm_nightOfF_87 mm_mileOfF_87 mm_roundsOfF_87 mm_talkingOfF_87 mm_hushOfF_87 mm_rowOfF_87 mm_keptManyF_87 mm_talkOfF_87 x1_87 ls H locs hf; cases (show none = some (r0, r1, r2, r3, r4, r5, r6, r7, r8) from hf)
    | succ n87 ih87 =>
      intro mmI_87 mm_nightOfF_87 mm_mileOfF_87 mm_roundsOfF_87 mm_talkingOfF_87 mm_hushOfF_87 mm_rowOfF_87 mm_keptManyF_87 mm_talkOfF_87 x1_87 ls H locs hf hP hD hS hl
      have hf : fX12_begin_l87 N mm_voiceToldF mm_hushToldF mm_rowToldF mm_talkToldF (xq_loop (fX12_begin_l87 N mm_voiceToldF mm_hushToldF mm_rowToldF mm_talkToldF) n87) (mmI_87, mm_nightOfF_87, mm_mileOfF_87, mm_roundsOfF_87, mm_talkingOfF_87, mm_hushOfF_87, mm_rowOfF_87, mm_keptManyF_87, mm_talkOfF_87, x1_87) = some (r0, r1, r2, r3, r4, r5, r6, r7, r8) := hf
      unfold fX12_begin_l87 at hf
      refine lv_iload_n hx hb dX12_begin_87 rfl (lv_at hl 1 rfl) ?_
      refine lv_bipush (v := 6) hx hb dX12_begin_88 (by decide) ?_
      refine lv_icmp_ge (tgt := 119) hx hb dX12_begin_90 (by decide) (fun c_ => ?_) (fun c_ => ?_)
      · have hf := xq_pos hf c_
        refine lv_aload_n hx hb dX12_begin_119 rfl (lv_at hl 0 rfl) ?_
        refine va_get (D := (dC, dI)) (ci := 12) (v := .ref ((mmR 52))) (C := RX12) (T := TX12) (N := 70) hx hb hts hinX12 hown hK hP 0 rfl rfl 52 (by decide) hw11 (fun _ h9 => h9) rfl dX12_begin_120 ?_
        refine lv_iconst (v := 0) hx hb dX12_begin_123 (by decide) ?_
        refine lv_iconst (v := 0) hx hb dX12_begin_124 (by decide) ?_
        refine xq_iast hx hb hK hP hD hS 10 0 rfl rfl hf dX12_begin_125 (fun g_1 H locs hf hP hD hS => ?_)
        have hP : va_P (dC, dI) vwCl [(a_p0, .inr (12, oX12 mmI_87 mmJ mmR)), ((mmR 45), .inl (cI, 22, .inl mm_nightOfF_87)), ((mmR 15), .inl (cI, 2, .inl mm_voiceToldF)), ((mmR 46), .inl (cI, 22, .inl mm_mileOfF_87)), ((mmR 47), .inl (cI, 22, .inl mm_roundsOfF_87)), ((mmR 48), .inl (cI, 22, .inl mm_talkingOfF_87)), ((mmR 16), .inl (cI, 2, .inl mm_hushToldF)), ((mmR 49), .inl (cI, 22, .inl mm_hushOfF_87)), ((mmR 19), .inl (cI, 14, .inl mm_rowToldF)), ((mmR 50), .inl (cI, 154, .inl mm_rowOfF_87)), ((mmR 52), .inl (cI, 22, .inl g_1)), ((mmR 23), .inl (cI, 12, .inl mm_talkToldF)), ((mmR 51), .inl (cI, 132, .inl mm_talkOfF_87))] H := hP
        have hD : va_D A [(a_p0, .inr (12, oX12 mmI_87 mmJ mmR)), ((mmR 45), .inl (cI, 22, .inl mm_nightOfF_87)), ((mmR 15), .inl (cI, 2, .inl mm_voiceToldF)), ((mmR 46), .inl (cI, 22, .inl mm_mileOfF_87)), ((mmR 47), .inl (cI, 22, .inl mm_roundsOfF_87)), ((mmR 48), .inl (cI, 22, .inl mm_talkingOfF_87)), ((mmR 16), .inl (cI, 2, .inl mm_hushToldF)), ((mmR 49), .inl (cI, 22, .inl mm_hushOfF_87)), ((mmR 19), .inl (cI, 14, .inl mm_rowToldF)), ((mmR 50), .inl (cI, 154, .inl mm_rowOfF_87)), ((mmR 52), .inl (cI, 22, .inl g_1)), ((mmR 23), .inl (cI, 12, .inl mm_talkToldF)), ((mmR 51), .inl (cI, 132, .inl mm_talkOfF_87))] := hD
        refine lv_aload_n hx hb dX12_begin_126 rfl (lv_at hl 0 rfl) ?_
        refine lv_iconst (v := 0) hx hb dX12_begin_127 (by decide) ?_
        refine va_put (D := (dC, dI)) (ci := 12) (v := .int 0) (ty := .int) (C := RX12) (T := TX12) (N := 70) hx hb hts hinX12 tyX12 tyX12_ok nmX12 hown hK hP hD hS 0 rfl rfl 55 (by decide) hw12 (fun _ h9 => h9) rfl (by decide +kernel) rfl rfl (Nat.le_of_ble_eq_true rfl) dX12_begin_128 (fun H locs hP hD hS => ?_)
        have hP : va_P (dC, dI) vwCl [(a_p0, .inr (12, oX12 (va_up mmI_87 55 0) mmJ mmR)), ((mmR 45), .inl (cI, 22, .inl mm_nightOfF_87)), ((mmR 15), .inl (cI, 2, .inl mm_voiceToldF)), ((mmR 46), .inl (cI, 22, .inl mm_mileOfF_87)), ((mmR 47), .inl (cI, 22, .inl mm_roundsOfF_87)), ((mmR 48), .inl (cI, 22, .inl mm_talkingOfF_87)), ((mmR 16), .inl (cI, 2, .inl mm_hushToldF)), ((mmR 49), .inl (cI, 22, .inl mm_hushOfF_87)), ((mmR 19), .inl (cI, 14, .inl mm_rowToldF)), ((mmR 50), .inl (cI, 154, .inl mm_rowOfF_87)), ((mmR 52), .inl (cI, 22, .inl g_1)), ((mmR 23), .inl (cI, 12, .inl mm_talkToldF)), ((mmR 51), .inl (cI, 132, .inl mm_talkOfF_87))] H := hP
        have hD : va_D A [(a_p0, .inr (12, oX12 (va_up mmI_87 55 0) mmJ mmR)), ((mmR 45), .inl (cI, 22, .inl mm_nightOfF_87)), ((mmR 15), .inl (cI, 2, .inl mm_voiceToldF)), ((mmR 46), .inl (cI, 22, .inl mm_mileOfF_87)), ((mmR 47), .inl (cI, 22, .inl mm_roundsOfF_87)), ((mmR 48), .inl (cI, 22, .inl mm_talkingOfF_87)), ((mmR 16), .inl (cI, 2, .inl mm_hushToldF)), ((mmR 49), .inl (cI, 22, .inl mm_hushOfF_87)), ((mmR 19), .inl (cI, 14, .inl mm_rowToldF)), ((mmR 50), .inl (cI, 154, .inl mm_rowOfF_87)), ((mmR 52), .inl (cI, 22, .inl g_1)), ((mmR 23), .inl (cI, 12, .inl mm_talkToldF)), ((mmR 51), .inl (cI, 132, .inl mm_talkOfF_87))] := hD
        refine lv_aload_n hx hb dX12_begin_131 rfl (lv_at hl 0 rfl) ?_
        refine lv_iconst (v := 0) hx hb dX12_begin_132 (by decide) ?_
        refine va_put (D := (dC, dI)) (ci := 12) (v := .int 0) (ty := .int) (C := RX12) (T := TX12) (N := 70) hx hb hts hinX12 tyX12 tyX12_ok nmX12 hown hK hP hD hS 0 rfl rfl 62 (by decide) hw13 (fun _ h9 => h9) rfl (by decide +kernel) rfl rfl (Nat.le_of_ble_eq_true rfl) dX12_begin_133 (fun H locs hP hD hS => ?_)
        have hP : va_P (dC, dI) vwCl [(a_p0, .inr (12, oX12 (va_up (va_up mmI_87 55 0) 62 0) mmJ mmR)), ((mmR 45), .inl (cI, 22, .inl mm_nightOfF_87)), ((mmR 15), .inl (cI, 2, .inl mm_voiceToldF)), ((mmR 46), .inl (cI, 22, .inl mm_mileOfF_87)), ((mmR 47), .inl (cI, 22, .inl mm_roundsOfF_87)), ((mmR 48), .inl (cI, 22, .inl mm_talkingOfF_87)), ((mmR 16), .inl (cI, 2, .inl mm_hushToldF)), ((mmR 49), .inl (cI, 22, .inl mm_hushOfF_87)), ((mmR 19), .inl (cI, 14, .inl mm_rowToldF)), ((mmR 50), .inl (cI, 154, .inl mm_rowOfF_87)), ((mmR 52), .inl (cI, 22, .inl g_1)), ((mmR 23), .inl (cI, 12, .inl mm_talkToldF)), ((mmR 51), .inl (cI, 132, .inl mm_talkOfF_87))] H := hP
        have hD : va_D A [(a_p0, .inr (12, oX12 (va_up (va_up mmI_87 55 0) 62 0) mmJ mmR)), ((mmR 45), .inl (cI, 22, .inl mm_nightOfF_87)), ((mmR 15), .inl (cI, 2, .inl mm_voiceToldF)), ((mmR 46), .inl (cI, 22, .inl mm_mileOfF_87)), ((mmR 47), .inl (cI, 22, .inl mm_roundsOfF_87)), ((mmR 48), .inl (cI, 22, .inl mm_talkingOfF_87)), ((mmR 16), .inl (cI, 2, .inl mm_hushToldF)), ((mmR 49), .inl (cI, 22, .inl mm_hushOfF_87)), ((mmR 19), .inl (cI, 14, .inl mm_rowToldF)), ((mmR 50), .inl (cI, 154, .inl mm_rowOfF_87)), ((mmR 52), .inl (cI, 22, .inl g_1)), ((mmR 23), .inl (cI, 12, .inl mm_talkToldF)), ((mmR 51), .inl (cI, 132, .inl mm_talkOfF_87))] := hD
        have e9 := Option.some.inj hf
        have e9_0 : (va_up (va_up mmI_87 55 0) 62 0) = r0 := congrArg (fun t => t.1) e9
        have e9_1 : mm_nightOfF_87 = r1 := congrArg (fun t => t.2.1) e9
        have e9_2 : mm_mileOfF_87 = r2 := congrArg (fun t => t.2.2.1) e9
        have e9_3 : mm_roundsOfF_87 = r3 := congrArg (fun t => t.2.2.2.1) e9
        have e9_4 : mm_talkingOfF_87 = r4 := congrArg (fun t => t.2.2.2.2.1) e9
        have e9_5 : mm_hushOfF_87 = r5 := congrArg (fun t => t.2.2.2.2.2.1) e9
        have e9_6 : mm_rowOfF_87 = r6 := congrArg (fun t => t.2.2.2.2.2.2.1) e9
        have e9_7 : g_1 = r7 := congrArg (fun t => t.2.2.2.2.2.2.2.1) e9
        have e9_8 : mm_talkOfF_87 = r8 := congrArg (fun t => t.2.2.2.2.2.2.2.2) e9
        clear e9 hf
        try clear l53
        try clear l87
        try clear ih53
        try clear ih87
        subst e9_0
        subst e9_1
        subst e9_2
        subst e9_3
        subst e9_4
        subst e9_5
        subst e9_6
        subst e9_7
        subst e9_8
        exact xq_vret hx hb hr hlocks hK hP hD hS dX12_begin_136
      · have hf := xq_neg hf c_
        refine lv_aload_n hx hb dX12_begin_93 rfl (lv_at hl 0 rfl) ?_
        refine va_get (D := (dC, dI)) (ci := 12) (v := .ref ((mmR 51))) (C := RX12) (T := TX12) (N := 70) hx hb hts hinX12 hown hK hP 0 rfl rfl 51 (by decide) hw14 (fun _ h9 => h9) rfl dX12_begin_94 ?_
        refine lv_iload_n hx hb dX12_begin_97 rfl (lv_at hl 1 rfl) ?_
        refine lv_aload_n hx hb dX12_begin_98 rfl (lv_at hl 0 rfl) ?_
        refine va_get (D := (dC, dI)) (ci := 12) (v := .ref ((mmR 23))) (C := RX12) (T := TX12) (N := 70) hx hb hts hinX12 hown hK hP 0 rfl rfl 23 (by decide) hw15 (fun _ h9 => h9) rfl dX12_begin_99 ?_
        refine lv_bipush (v := 6) hx hb dX12_begin_102 (by decide) ?_
        refine lv_aload_n hx hb dX12_begin_104 rfl (lv_at hl 0 rfl) ?_
        refine va_get (D := (dC, dI)) (ci := 12) (v := .int (mmI_87 13)) (C := RX12) (T := TX12) (N := 70) hx hb hts hinX12 hown hK hP 0 rfl rfl 13 (by decide) hw4 (fun _ h9 => h9) rfl dX12_begin_105 ?_
        refine lv_imul hx hb dX12_begin_108 ?_
        refine lv_iload_n hx hb dX12_begin_109 rfl (lv_at hl 1 rfl) ?_
        refine lv_iadd hx hb dX12_begin_110 ?_
        refine xq_iald hx hb hK hP 11 0 rfl rfl hf dX12_begin_111 (fun v_2 hf => ?_)
        refine xq_iast hx hb hK hP hD hS 12 0 rfl rfl hf dX12_begin_112 (fun g_3 H locs hf hP hD hS => ?_)
        have hP : va_P (dC, dI) vwCl [(a_p0, .inr (12, oX12 mmI_87 mmJ mmR)), ((mmR 45), .inl (cI, 22, .inl mm_nightOfF_87)), ((mmR 15), .inl (cI, 2, .inl mm_voiceToldF)), ((mmR 46), .inl (cI, 22, .inl mm_mileOfF_87)), ((mmR 47), .inl (cI, 22, .inl mm_roundsOfF_87)), ((mmR 48), .inl (cI, 22, .inl mm_talkingOfF_87)), ((mmR 16), .inl (cI, 2, .inl mm_hushToldF)), ((mmR 49), .inl (cI, 22, .inl mm_hushOfF_87)), ((mmR 19), .inl (cI, 14, .inl mm_rowToldF)), ((mmR 50), .inl (cI, 154, .inl mm_rowOfF_87)), ((mmR 52), .inl (cI, 22, .inl mm_keptManyF_87)), ((mmR 23), .inl (cI, 12, .inl mm_talkToldF)), ((mmR 51), .inl (cI, 132, .inl g_3))] H := hP
        have hD : va_D A [(a_p0, .inr (12, oX12 mmI_87 mmJ mmR)), ((mmR 45), .inl (cI, 22, .inl mm_nightOfF_87)), ((mmR 15), .inl (cI, 2, .inl mm_voiceToldF)), ((mmR 46), .inl (cI, 22, .inl mm_mileOfF_87)), ((mmR 47), .inl (cI, 22, .inl mm_roundsOfF_87)), ((mmR 48), .inl (cI, 22, .inl mm_talkingOfF_87)), ((mmR 16), .inl (cI, 2, .inl mm_hushToldF)), ((mmR 49), .inl (cI, 22, .inl mm_hushOfF_87)), ((mmR 19), .inl (cI, 14, .inl mm_rowToldF)), ((mmR 50), .inl (cI, 154, .inl mm_rowOfF_87)), ((mmR 52), .inl (cI, 22, .inl mm_keptManyF_87)), ((mmR 23), .inl (cI, 12, .inl mm_talkToldF)), ((mmR 51), .inl (cI, 132, .inl g_3))] := hD
        refine lv_iinc (v := x1_87 + 1) (lv' := [(1, .int (x1_87 + 1)), (0, .ref a_p0)]) hx hb dX12_begin_113 hl (k := 1) rfl (congrArg (fun q9 => x1_87 + q9) (by decide : Int32.ofInt 1 = 1)) (by decide) rfl (fun ls hl => ?_)
        refine lv_goto (tgt := 87) hx hb dX12_begin_116 (by decide) ?_
        exact ih87 mmI_87 mm_nightOfF_87 mm_mileOfF_87 mm_roundsOfF_87 mm_talkingOfF_87 mm_hushOfF_87 mm_rowOfF_87 mm_keptManyF_87 g_3 (x1_87 + 1) _ _ _ hf hP hD hS (lv_sub hl [1, 0] rfl)
  have l53 : ∀ n53 : Nat, ∀ (mmI_53 : Nat → Int32) (mm_nightOfF_53 : Nat → Int32) (mm_mileOfF_53 : Nat → Int32) (mm_roundsOfF_53 : Nat → Int32) (mm_talkingOfF_53 : Nat → Int32) (mm_hushOfF_53 : Nat → Int32) (mm_rowOfF_53 : Nat → Int32) (mm_keptManyF_53 : Nat → Int32) (mm_talkOfF_53 : Nat → Int32) (x1_53 : Int32) (ls : Array Slot) (H : Heap) (locs : List Loc), xq_loop (fX12_begin_l53 N mm_voiceToldF mm_hushToldF mm_rowToldF mm_talkToldF) n53 (mmI_53, mm_nightOfF_53, mm_mileOfF_53, mm_roundsOfF_53, mm_talkingOfF_53, mm_hushOfF_53, mm_rowOfF_53, mm_keptManyF_53, mm_talkOfF_53, x1_53) = some (r0, r1, r2, r3, r4, r5, r6, r7, r8) → va_P (dC, dI) vwCl [(a_p0, .inr (12, oX12 mmI_53 mmJ mmR)), ((mmR 45), .inl (cI, 22, .inl mm_nightOfF_53)), ((mmR 15), .inl (cI, 2, .inl mm_voiceToldF)), ((mmR 46), .inl (cI, 22, .inl mm_mileOfF_53)), ((mmR 47), .inl (cI, 22, .inl mm_roundsOfF_53)), ((mmR 48), .inl (cI, 22, .inl mm_talkingOfF_53)), ((mmR 16), .inl (cI, 2, .inl mm_hushToldF)), ((mmR 49), .inl (cI, 22, .inl mm_hushOfF_53)), ((mmR 19), .inl (cI, 14, .inl mm_rowToldF)), ((mmR 50), .inl (cI, 154, .inl mm_rowOfF_53)), ((mmR 52), .inl (cI, 22, .inl mm_keptManyF_53)), ((mmR 23), .inl (cI, 12, .inl mm_talkToldF)), ((mmR 51), .inl (cI, 132, .inl mm_talkOfF_53))] H → va_D A [(a_p0, .inr (12, oX12 mmI_53 mmJ mmR)), ((mmR 45), .inl (cI, 22, .inl mm_nightOfF_53)), ((mmR 15), .inl (cI, 2, .inl mm_voiceToldF)), ((mmR 46), .inl (cI, 22, .inl mm_mileOfF_53)), ((mmR 47), .inl (cI, 22, .inl mm_roundsOfF_53)), ((mmR 48), .inl (cI, 22, .inl mm_talkingOfF_53)), ((mmR 16), .inl (cI, 2, .inl mm_hushToldF)), ((mmR 49), .inl (cI, 22, .inl mm_hushOfF_53)), ((mmR 19), .inl (cI, 14, .inl mm_rowToldF)), ((mmR 50), .inl (cI, 154, .inl mm_rowOfF_53)), ((mmR 52), .inl (cI, 22, .inl mm_keptManyF_53)), ((mmR 23), .inl (cI, 12, .inl mm_talkToldF)), ((mmR 51), .inl (cI, 132, .inl mm_talkOfF_53))] → va_S A s.heap H locs → lv_has ls 2 [(0, .ref a_p0), (1, .int x1_53)] → W p l e (headSpec wsX12_begin { frames := 0, cells := 0, slots := 0, locals := 0 }).room s m [.ref a_p0].toArray below meth c H locs 0 0 (MQ below (xq_Q (dC, dI) vwCl (xq_tys cI cB cJ cZ cM) A [(a_p0, .inr (12, oX12 r0 mmJ mmR)), ((mmR 45), .inl (cI, 22, .inl r1)), ((mmR 15), .inl (cI, 2, .inl mm_voiceToldF)), ((mmR 46), .inl (cI, 22, .inl r2)), ((mmR 47), .inl (cI, 22, .inl r3)), ((mmR 48), .inl (cI, 22, .inl r4)), ((mmR 16), .inl (cI, 2, .inl mm_hushToldF)), ((mmR 49), .inl (cI, 22, .inl r5)), ((mmR 19), .inl (cI, 14, .inl mm_rowToldF)), ((mmR 50), .inl (cI, 154, .inl r6)), ((mmR 52), .inl (cI, 22, .inl r7)), ((mmR 23), .inl (cI, 12, .inl mm_talkToldF)), ((mmR 51), .inl (cI, 132, .inl r8))] none) [.ref a_p0].toArray s 0 0 A) (F0 m 53 ls []) := by
    intro n53
    induction n53 with
    | zero => intro mmI_53 mm_nightOfF_53 mm_mileOfF_53 mm_roundsOfF_53 mm_talkingOfF_53 mm_hushOfF_53 mm_rowOfF_53 mm_keptManyF_53 mm_talkOfF_53 x1_53 ls H locs hf; cases (show none = some (r0, r1, r2, r3, r4, r5, r6, r7, r8) from hf)
    | succ n53 ih53 =>
      intro mmI_53 mm_nightOfF_53 mm_mileOfF_53 mm_roundsOfF_53 mm_talkingOfF_53 mm_hushOfF_53 mm_rowOfF_53 mm_keptManyF_53 mm_talkOfF_53 x1_53 ls H locs hf hP hD hS hl
      have hf : fX12_begin_l53 N mm_voiceToldF mm_hushToldF mm_rowToldF mm_talkToldF (xq_loop (fX12_begin_l53 N mm_voiceToldF mm_hushToldF mm_rowToldF mm_talkToldF) n53) (mmI_53, mm_nightOfF_53, mm_mileOfF_53, mm_roundsOfF_53, mm_talkingOfF_53, mm_hushOfF_53, mm_rowOfF_53, mm_keptManyF_53, mm_talkOfF_53, x1_53) = some (r0, r1, r2, r3, r4, r5, r6, r7, r8) := hf
      unfold fX12_begin_l53 at hf
      refine lv_iload_n hx hb dX12_begin_53 rfl (lv_at hl 1 rfl) ?_
      refine lv_bipush (v := 7) hx hb dX12_begin_54 (by decide) ?_
      refine lv_icmp_ge (tgt := 85) hx hb dX12_begin_56 (by decide) (fun c_ => ?_) (fun c_ => ?_)
      · have hf := xq_pos hf c_
        refine lv_iconst (v := 0) hx hb dX12_begin_85 (by decide) ?_
        refine lv_istore_n (lv' := [(1, .int 0), (0, .ref a_p0)]) hx hb dX12_begin_86 rfl hl (by decide) rfl (fun ls hl => ?_)
        exact l87 N mmI_53 mm_nightOfF_53 mm_mileOfF_53 mm_roundsOfF_53 mm_talkingOfF_53 mm_hushOfF_53 mm_rowOfF_53 mm_keptManyF_53 mm_talkOfF_53 0 _ _ _ hf hP hD hS (lv_sub hl [1, 0] rfl)
      · have hf := xq_neg hf c_
        refine lv_aload_n hx hb dX12_begin_59 rfl (lv_at hl 0 rfl) ?_
        refine va_get (D := (dC, dI)) (ci := 12) (v := .ref ((mmR 50))) (C := RX12) (T := TX12) (N := 70) hx hb hts hinX12 hown hK hP 0 rfl rfl 50 (by decide) hw9 (fun _ h9 => h9) rfl dX12_begin_60 ?_
        refine lv_iload_n hx hb dX12_begin_63 rfl (lv_at hl 1 rfl) ?_
        refine lv_aload_n hx hb dX12_begin_64 rfl (lv_at hl 0 rfl) ?_
        refine va_get (D := (dC, dI)) (ci := 12) (v := .ref ((mmR 19))) (C := RX12) (T := TX12) (N := 70) hx hb hts hinX12 hown hK hP 0 rfl rfl 19 (by decide) hw10 (fun _ h9 => h9) rfl dX12_begin_65 ?_
        refine lv_bipush (v := 7) hx hb dX12_begin_68 (by decide) ?_
        refine lv_aload_n hx hb dX12_begin_70 rfl (lv_at hl 0 rfl) ?_
        refine va_get (D := (dC, dI)) (ci := 12) (v := .int (mmI_53 13)) (C := RX12) (T := TX12) (N := 70) hx hb hts hinX12 hown hK hP 0 rfl rfl 13 (by decide) hw4 (fun _ h9 => h9) rfl dX12_begin_71 ?_
        refine lv_imul hx hb dX12_begin_74 ?_
        refine lv_iload_n hx hb dX12_begin_75 rfl (lv_at hl 1 rfl) ?_
        refine lv_iadd hx hb dX12_begin_76 ?_
        refine xq_iald hx hb hK hP 8 0 rfl rfl hf dX12_begin_77 (fun v_1 hf => ?_)
        refine xq_iast hx hb hK hP hD hS 9 0 rfl rfl hf dX12_begin_78 (fun g_2 H locs hf hP hD hS => ?_)
        have hP : va_P (dC, dI) vwCl [(a_p0, .inr (12, oX12 mmI_53 mmJ mmR)), ((mmR 45), .inl (cI, 22, .inl mm_nightOfF_53)), ((mmR 15), .inl (cI, 2, .inl mm_voiceToldF)), ((mmR 46), .inl (cI, 22, .inl mm_mileOfF_53)), ((mmR 47), .inl (cI, 22, .inl mm_roundsOfF_53)), ((mmR 48), .inl (cI, 22, .inl mm_talkingOfF_53)), ((mmR 16), .inl (cI, 2, .inl mm_hushToldF)), ((mmR 49), .inl (cI, 22, .inl mm_hushOfF_53)), ((mmR 19), .inl (cI, 14, .inl mm_rowToldF)), ((mmR 50), .inl (cI, 154, .inl g_2)), ((mmR 52), .inl (cI, 22, .inl mm_keptManyF_53)), ((mmR 23), .inl (cI, 12, .inl mm_talkToldF)), ((mmR 51), .inl (cI, 132, .inl mm_talkOfF_53))] H := hP
        have hD : va_D A [(a_p0, .inr (12, oX12 mmI_53 mmJ mmR)), ((mmR 45), .inl (cI, 22, .inl mm_nightOfF_53)), ((mmR 15), .inl (cI, 2, .inl mm_voiceToldF)), ((mmR 46), .inl (cI, 22, .inl mm_mileOfF_53)), ((mmR 47), .inl (cI, 22, .inl mm_roundsOfF_53)), ((mmR 48), .inl (cI, 22, .inl mm_talkingOfF_53)), ((mmR 16), .inl (cI, 2, .inl mm_hushToldF)), ((mmR 49), .inl (cI, 22, .inl mm_hushOfF_53)), ((mmR 19), .inl (cI, 14, .inl mm_rowToldF)), ((mmR 50), .inl (cI, 154, .inl g_2)), ((mmR 52), .inl (cI, 22, .inl mm_keptManyF_53)), ((mmR 23), .inl (cI, 12, .inl mm_talkToldF)), ((mmR 51), .inl (cI, 132, .inl mm_talkOfF_53))] := hD
        refine lv_iinc (v := x1_53 + 1) (lv' := [(1, .int (x1_53 + 1)), (0, .ref a_p0)]) hx hb dX12_begin_79 hl (k := 1) rfl (congrArg (fun q9 => x1_53 + q9) (by decide : Int32.ofInt 1 = 1)) (by decide) rfl (fun ls hl => ?_)
        refine lv_goto (tgt := 53) hx hb dX12_begin_82 (by decide) ?_
        exact ih53 mmI_53 mm_nightOfF_53 mm_mileOfF_53 mm_roundsOfF_53 mm_talkingOfF_53 mm_hushOfF_53 g_2 mm_keptManyF_53 mm_talkOfF_53 (x1_53 + 1) _ _ _ hf hP hD hS (lv_sub hl [1, 0] rfl)
  unfold fX12_begin at hf
  refine lv_aload_n hx hb dX12_begin_0 rfl (lv_at hl 0 rfl) ?_
  refine va_get (D := (dC, dI)) (ci := 12) (v := .ref ((mmR 45))) (C := RX12) (T := TX12) (N := 70) hx hb hts hinX12 hown hK hP 0 rfl rfl 45 (by decide) hw0 (fun _ h9 => h9) rfl dX12_begin_1 ?_
  refine lv_iconst (v := 0) hx hb dX12_begin_4 (by decide) ?_
  refine lv_iconst (v := 0) hx hb dX12_begin_5 (by decide) ?_
  refine xq_iast hx hb hK hP hD hS 1 0 rfl rfl hf dX12_begin_6 (fun g_1 H locs hf hP hD hS => ?_)
  have hP : va_P (dC, dI) vwCl [(a_p0, .inr (12, oX12 mmI mmJ mmR)), ((mmR 45), .inl (cI, 22, .inl g_1)), ((mmR 15), .inl (cI, 2, .inl mm_voiceToldF)), ((mmR 46), .inl (cI, 22, .inl mm_mileOfF)), ((mmR 47), .inl (cI, 22, .inl mm_roundsOfF)), ((mmR 48), .inl (cI, 22, .inl mm_talkingOfF)), ((mmR 16), .inl (cI, 2, .inl mm_hushToldF)), ((mmR 49), .inl (cI, 22, .inl mm_hushOfF)), ((mmR 19), .inl (cI, 14, .inl mm_rowToldF)), ((mmR 50), .inl (cI, 154, .inl mm_rowOfF)), ((mmR 52), .inl (cI, 22, .inl mm_keptManyF)), ((mmR 23), .inl (cI, 12, .inl mm_talkToldF)), ((mmR 51), .inl (cI, 132, .inl mm_talkOfF))] H := hP
  have hD : va_D A [(a_p0, .inr (12, oX12 mmI mmJ mmR)), ((mmR 45), .inl (cI, 22, .inl g_1)), ((mmR 15), .inl (cI, 2, .inl mm_voiceToldF)), ((mmR 46), .inl (cI, 22, .inl mm_mileOfF)), ((mmR 47), .inl (cI, 22, .inl mm_roundsOfF)), ((mmR 48), .inl (cI, 22, .inl mm_talkingOfF)), ((mmR 16), .inl (cI, 2, .inl mm_hushToldF)), ((mmR 49), .inl (cI, 22, .inl mm_hushOfF)), ((mmR 19), .inl (cI, 14, .inl mm_rowToldF)), ((mmR 50), .inl (cI, 154, .inl mm_rowOfF)), ((mmR 52), .inl (cI, 22, .inl mm_keptManyF)), ((mmR 23), .inl (cI, 12, .inl mm_talkToldF)), ((mmR 51), .inl (cI, 132, .inl mm_talkOfF))] := hD
  refine lv_aload_n hx hb dX12_begin_7 rfl (lv_at hl 0 rfl) ?_
  refine va_get (D := (dC, dI)) (ci := 12) (v := .ref ((mmR 46))) (C := RX12) (T := TX12) (N := 70) hx hb hts hinX12 hown hK hP 0 rfl rfl 46 (by decide) hw2 (fun _ h9 => h9) rfl dX12_begin_8 ?_
  refine lv_iconst (v := 0) hx hb dX12_begin_11 (by decide) ?_
  refine lv_aload_n hx hb dX12_begin_12 rfl (lv_at hl 0 rfl) ?_
  refine va_get (D := (dC, dI)) (ci := 12) (v := .ref ((mmR 15))) (C := RX12) (T := TX12) (N := 70) hx hb hts hinX12 hown hK hP 0 rfl rfl 15 (by decide) hw3 (fun _ h9 => h9) rfl dX12_begin_13 ?_
  refine lv_aload_n hx hb dX12_begin_16 rfl (lv_at hl 0 rfl) ?_
  refine va_get (D := (dC, dI)) (ci := 12) (v := .int (mmI 13)) (C := RX12) (T := TX12) (N := 70) hx hb hts hinX12 hown hK hP 0 rfl rfl 13 (by decide) hw4 (fun _ h9 => h9) rfl dX12_begin_17 ?_
  refine xq_iald hx hb hK hP 2 0 rfl rfl hf dX12_begin_20 (fun v_2 hf => ?_)
  refine xq_iast hx hb hK hP hD hS 3 0 rfl rfl hf dX12_begin_21 (fun g_3 H locs hf hP hD hS => ?_)
  have hP : va_P (dC, dI) vwCl [(a_p0, .inr (12, oX12 mmI mmJ mmR)), ((mmR 45), .inl (cI, 22, .inl g_1)), ((mmR 15), .inl (cI, 2, .inl mm_voiceToldF)), ((mmR 46), .inl (cI, 22, .inl g_3)), ((mmR 47), .inl (cI, 22, .inl mm_roundsOfF)), ((mmR 48), .inl (cI, 22, .inl mm_talkingOfF)), ((mmR 16), .inl (cI, 2, .inl mm_hushToldF)), ((mmR 49), .inl (cI, 22, .inl mm_hushOfF)), ((mmR 19), .inl (cI, 14, .inl mm_rowToldF)), ((mmR 50), .inl (cI, 154, .inl mm_rowOfF)), ((mmR 52), .inl (cI, 22, .inl mm_keptManyF)), ((mmR 23), .inl (cI, 12, .inl mm_talkToldF)), ((mmR 51), .inl (cI, 132, .inl mm_talkOfF))] H := hP
  have hD : va_D A [(a_p0, .inr (12, oX12 mmI mmJ mmR)), ((mmR 45), .inl (cI, 22, .inl g_1)), ((mmR 15), .inl (cI, 2, .inl mm_voiceToldF)), ((mmR 46), .inl (cI, 22, .inl g_3)), ((mmR 47), .inl (cI, 22, .inl mm_roundsOfF)), ((mmR 48), .inl (cI, 22, .inl mm_talkingOfF)), ((mmR 16), .inl (cI, 2, .inl mm_hushToldF)), ((mmR 49), .inl (cI, 22, .inl mm_hushOfF)), ((mmR 19), .inl (cI, 14, .inl mm_rowToldF)), ((mmR 50), .inl (cI, 154, .inl mm_rowOfF)), ((mmR 52), .inl (cI, 22, .inl mm_keptManyF)), ((mmR 23), .inl (cI, 12, .inl mm_talkToldF)), ((mmR 51), .inl (cI, 132, .inl mm_talkOfF))] := hD
  refine lv_aload_n hx hb dX12_begin_22 rfl (lv_at hl 0 rfl) ?_
  refine va_get (D := (dC, dI)) (ci := 12) (v := .ref ((mmR 47))) (C := RX12) (T := TX12) (N := 70) hx hb hts hinX12 hown hK hP 0 rfl rfl 47 (by decide) hw5 (fun _ h9 => h9) rfl dX12_begin_23 ?_
  refine lv_iconst (v := 0) hx hb dX12_begin_26 (by decide) ?_
  refine lv_iconst (v := 0) hx hb dX12_begin_27 (by decide) ?_
  refine xq_iast hx hb hK hP hD hS 4 0 rfl rfl hf dX12_begin_28 (fun g_4 H locs hf hP hD hS => ?_)
  have hP : va_P (dC, dI) vwCl [(a_p0, .inr (12, oX12 mmI mmJ mmR)), ((mmR 45), .inl (cI, 22, .inl g_1)), ((mmR 15), .inl (cI, 2, .inl mm_voiceToldF)), ((mmR 46), .inl (cI, 22, .inl g_3)), ((mmR 47), .inl (cI, 22, .inl g_4)), ((mmR 48), .inl (cI, 22, .inl mm_talkingOfF)), ((mmR 16), .inl (cI, 2, .inl mm_hushToldF)), ((mmR 49), .inl (cI, 22, .inl mm_hushOfF)), ((mmR 19), .inl (cI, 14, .inl mm_rowToldF)), ((mmR 50), .inl (cI, 154, .inl mm_rowOfF)), ((mmR 52), .inl (cI, 22, .inl mm_keptManyF)), ((mmR 23), .inl (cI, 12, .inl mm_talkToldF)), ((mmR 51), .inl (cI, 132, .inl mm_talkOfF))] H := hP
  have hD : va_D A [(a_p0, .inr (12, oX12 mmI mmJ mmR)), ((mmR 45), .inl (cI, 22, .inl g_1)), ((mmR 15), .inl (cI, 2, .inl mm_voiceToldF)), ((mmR 46), .inl (cI, 22, .inl g_3)), ((mmR 47), .inl (cI, 22, .inl g_4)), ((mmR 48), .inl (cI, 22, .inl mm_talkingOfF)), ((mmR 16), .inl (cI, 2, .inl mm_hushToldF)), ((mmR 49), .inl (cI, 22, .inl mm_hushOfF)), ((mmR 19), .inl (cI, 14, .inl mm_rowToldF)), ((mmR 50), .inl (cI, 154, .inl mm_rowOfF)), ((mmR 52), .inl (cI, 22, .inl mm_keptManyF)), ((mmR 23), .inl (cI, 12, .inl mm_talkToldF)), ((mmR 51), .inl (cI, 132, .inl mm_talkOfF))] := hD
  refine lv_aload_n hx hb dX12_begin_29 rfl (lv_at hl 0 rfl) ?_
  refine va_get (D := (dC, dI)) (ci := 12) (v := .ref ((mmR 48))) (C := RX12) (T := TX12) (N := 70) hx hb hts hinX12 hown hK hP 0 rfl rfl 48 (by decide) hw6 (fun _ h9 => h9) rfl dX12_begin_30 ?_
  refine lv_iconst (v := 0) hx hb dX12_begin_33 (by decide) ?_
  refine lv_iconst (v := 0) hx hb dX12_begin_34 (by decide) ?_
  refine xq_iast hx hb hK hP hD hS 5 0 rfl rfl hf dX12_begin_35 (fun g_5 H locs hf hP hD hS => ?_)
  have hP : va_P (dC, dI) vwCl [(a_p0, .inr (12, oX12 mmI mmJ mmR)), ((mmR 45), .inl (cI, 22, .inl g_1)), ((mmR 15), .inl (cI, 2, .inl mm_voiceToldF)), ((mmR 46), .inl (cI, 22, .inl g_3)), ((mmR 47), .inl (cI, 22, .inl g_4)), ((mmR 48), .inl (cI, 22, .inl g_5)), ((mmR 16), .inl (cI, 2, .inl mm_hushToldF)), ((mmR 49), .inl (cI, 22, .inl mm_hushOfF)), ((mmR 19), .inl (cI, 14, .inl mm_rowToldF)), ((mmR 50), .inl (cI, 154, .inl mm_rowOfF)), ((mmR 52), .inl (cI, 22, .inl mm_keptManyF)), ((mmR 23), .inl (cI, 12, .inl mm_talkToldF)), ((mmR 51), .inl (cI, 132, .inl mm_talkOfF))] H := hP
  have hD : va_D A [(a_p0, .inr (12, oX12 mmI mmJ mmR)), ((mmR 45), .inl (cI, 22, .inl g_1)), ((mmR 15), .inl (cI, 2, .inl mm_voiceToldF)), ((mmR 46), .inl (cI, 22, .inl g_3)), ((mmR 47), .inl (cI, 22, .inl g_4)), ((mmR 48), .inl (cI, 22, .inl g_5)), ((mmR 16), .inl (cI, 2, .inl mm_hushToldF)), ((mmR 49), .inl (cI, 22, .inl mm_hushOfF)), ((mmR 19), .inl (cI, 14, .inl mm_rowToldF)), ((mmR 50), .inl (cI, 154, .inl mm_rowOfF)), ((mmR 52), .inl (cI, 22, .inl mm_keptManyF)), ((mmR 23), .inl (cI, 12, .inl mm_talkToldF)), ((mmR 51), .inl (cI, 132, .inl mm_talkOfF))] := hD
  refine lv_aload_n hx hb dX12_begin_36 rfl (lv_at hl 0 rfl) ?_
  refine va_get (D := (dC, dI)) (ci := 12) (v := .ref ((mmR 49))) (C := RX12) (T := TX12) (N := 70) hx hb hts hinX12 hown hK hP 0 rfl rfl 49 (by decide) hw7 (fun _ h9 => h9) rfl dX12_begin_37 ?_
  refine lv_iconst (v := 0) hx hb dX12_begin_40 (by decide) ?_
  refine lv_aload_n hx hb dX12_begin_41 rfl (lv_at hl 0 rfl) ?_
  refine va_get (D := (dC, dI)) (ci := 12) (v := .ref ((mmR 16))) (C := RX12) (T := TX12) (N := 70) hx hb hts hinX12 hown hK hP 0 rfl rfl 16 (by decide) hw8 (fun _ h9 => h9) rfl dX12_begin_42 ?_
  refine lv_aload_n hx hb dX12_begin_45 rfl (lv_at hl 0 rfl) ?_
  refine va_get (D := (dC, dI)) (ci := 12) (v := .int (mmI 13)) (C := RX12) (T := TX12) (N := 70) hx hb hts hinX12 hown hK hP 0 rfl rfl 13 (by decide) hw4 (fun _ h9 => h9) rfl dX12_begin_46 ?_
  refine xq_iald hx hb hK hP 6 0 rfl rfl hf dX12_begin_49 (fun v_6 hf => ?_)
  refine xq_iast hx hb hK hP hD hS 7 0 rfl rfl hf dX12_begin_50 (fun g_7 H locs hf hP hD hS => ?_)
  have hP : va_P (dC, dI) vwCl [(a_p0, .inr (12, oX12 mmI mmJ mmR)), ((mmR 45), .inl (cI, 22, .inl g_1)), ((mmR 15), .inl (cI, 2, .inl mm_voiceToldF)), ((mmR 46), .inl (cI, 22, .inl g_3)), ((mmR 47), .inl (cI, 22, .inl g_4)), ((mmR 48), .inl (cI, 22, .inl g_5)), ((mmR 16), .inl (cI, 2, .inl mm_hushToldF)), ((mmR 49), .inl (cI, 22, .inl g_7)), ((mmR 19), .inl (cI, 14, .inl mm_rowToldF)), ((mmR 50), .inl (cI, 154, .inl mm_rowOfF)), ((mmR 52), .inl (cI, 22, .inl mm_keptManyF)), ((mmR 23), .inl (cI, 12, .inl mm_talkToldF)), ((mmR 51), .inl (cI, 132, .inl mm_talkOfF))] H := hP
  have hD : va_D A [(a_p0, .inr (12, oX12 mmI mmJ mmR)), ((mmR 45), .inl (cI, 22, .inl g_1)), ((mmR 15), .inl (cI, 2, .inl mm_voiceToldF)), ((mmR 46), .inl (cI, 22, .inl g_3)), ((mmR 47), .inl (cI, 22, .inl g_4)), ((mmR 48), .inl (cI, 22, .inl g_5)), ((mmR 16), .inl (cI, 2, .inl mm_hushToldF)), ((mmR 49), .inl (cI, 22, .inl g_7)), ((mmR 19), .inl (cI, 14, .inl mm_rowToldF)), ((mmR 50), .inl (cI, 154, .inl mm_rowOfF)), ((mmR 52), .inl (cI, 22, .inl mm_keptManyF)), ((mmR 23), .inl (cI, 12, .inl mm_talkToldF)), ((mmR 51), .inl (cI, 132, .inl mm_talkOfF))] := hD
  refine lv_iconst (v := 0) hx hb dX12_begin_51 (by decide) ?_
  refine lv_istore_n (lv' := [(1, .int 0), (0, .ref a_p0)]) hx hb dX12_begin_52 rfl hl (by decide) rfl (fun ls hl => ?_)
  exact l53 N mmI g_1 g_3 g_4 g_5 g_7 mm_rowOfF mm_keptManyF mm_talkOfF 0 _ _ _ hf hP hD hS (lv_sub hl [1, 0] rfl)
def dsX12_slot_0 : List (Nat × Instr × Nat) := [(0, (.iconst 2, 1)), (1, (.aload_n 0, 1)), (2, (.getfield 177, 3)), (5, (.iload_n 1, 1)), (6, (.iadd, 1)), (7, (.bipush 20, 2)), (9, (.irem, 1)), (10, (.iadd, 1)), (11, (.ireturn, 1))]
theorem dsX12_slot_0_ok : (dsX12_slot_0.all fun q => decide (decode cX12_slot q.1 = .ok q.2)) = true := by decide +kernel
theorem dX12_slot_0 : decode cX12_slot 0 = .ok (.iconst 2, 1) := of_decide_eq_true (List.all_eq_true.mp dsX12_slot_0_ok (0, (.iconst 2, 1)) (List.mem_of_getElem? (i := 0) rfl))
theorem dX12_slot_1 : decode cX12_slot 1 = .ok (.aload_n 0, 1) := of_decide_eq_true (List.all_eq_true.mp dsX12_slot_0_ok (1, (.aload_n 0, 1)) (List.mem_of_getElem? (i := 1) rfl))
theorem dX12_slot_2 : decode cX12_slot 2 = .ok (.getfield 177, 3) := of_decide_eq_true (List.all_eq_true.mp dsX12_slot_0_ok (2, (.getfield 177, 3)) (List.mem_of_getElem? (i := 2) rfl))
theorem dX12_slot_5 : decode cX12_slot 5 = .ok (.iload_n 1, 1) := of_decide_eq_true (List.all_eq_true.mp dsX12_slot_0_ok (5, (.iload_n 1, 1)) (List.mem_of_getElem? (i := 3) rfl))
theorem dX12_slot_6 : decode cX12_slot 6 = .ok (.iadd, 1) := of_decide_eq_true (List.all_eq_true.mp dsX12_slot_0_ok (6, (.iadd, 1)) (List.mem_of_getElem? (i := 4) rfl))
theorem dX12_slot_7 : decode cX12_slot 7 = .ok (.bipush 20, 2) := of_decide_eq_true (List.all_eq_true.mp dsX12_slot_0_ok (7, (.bipush 20, 2)) (List.mem_of_getElem? (i := 5) rfl))
theorem dX12_slot_9 : decode cX12_slot 9 = .ok (.irem, 1) := of_decide_eq_true (List.all_eq_true.mp dsX12_slot_0_ok (9, (.irem, 1)) (List.mem_of_getElem? (i := 6) rfl))
theorem dX12_slot_10 : decode cX12_slot 10 = .ok (.iadd, 1) := of_decide_eq_true (List.all_eq_true.mp dsX12_slot_0_ok (10, (.iadd, 1)) (List.mem_of_getElem? (i := 7) rfl))
theorem dX12_slot_11 : decode cX12_slot 11 = .ok (.ireturn, 1) := of_decide_eq_true (List.all_eq_true.mp dsX12_slot_0_ok (11, (.ireturn, 1)) (List.mem_of_getElem? (i := 8) rfl))
def fX12_slot (N : Nat) (mmI : Nat → Int32)  (p1 : Int32) : Option (Int32) :=
  (xq_bd (xq_rm ((mmI 54) + p1) 20) fun v_1 => some (2 + v_1))
set_option maxHeartbeats 4000000 in
set_option maxRecDepth 100000 in
theorem kX12_slot (l : Launch) (dC : Nat → ClassId) (dI : Nat → Nat → Nat) (cI cB cJ cZ cM : ClassId) (z : Nat) (ad : Nat → Nat) (N : Nat) (a_p0 : Nat) (mmI : Nat → Int32) (mmJ : Nat → Int64) (mmR : Nat → Nat) (p1 : Int32) {r0 : Int32} (hf : fX12_slot N mmI p1 = some r0) : xq_Ct l yX12_slot wsX12_slot { frames := 0, cells := 0, slots := 0, locals := 0 } (dC, dI) vwCl (xq_tys cI cB cJ cZ cM) z ad [.ref a_p0, .int p1] [(a_p0, .inr (12, oX12 mmI mmJ mmR))] [(a_p0, .inr (12, oX12 mmI mmJ mmR))] (some (.int r0)) := by
  intro sz
  refine Met.ofW (cc := cX12_slot) (maxL := 2) (ret := (some .int)) (by decide) rfl ?_
  intro p e s m args below meth c s₁ B hml hv
  obtain ⟨rfl, hsz, hP, hK, hD0, hE, hz⟩ := hv
  have hx := B.exec
  have hb := B.bytes
  have hr := B.returns
  have hts := atoms_spec (ws := wsX12_slot) B.pre
  have hown : s.vm.findClass RX12 = some m.cls := findClass_of_methodNamed B.named
  have hlocks := B.notSynchronized
  subst hsz
  have hD := hD0.self (sz := s.heap.size)
  have hN := xq_Env.of hE hz hD0
  generalize hAe : va_A [(a_p0, .inr (12, oX12 mmI mmJ mmR))] s.heap.size = A at hD hN ⊢
  have hA : ∀ q : Nat, s.heap.size ≤ q → A q := fun q h => by rw [← hAe]; exact Or.inr h
  clear hAe hD0
  have hS : va_S A s.heap s.heap [] := va_S.rf
  have hl := lv_entry ([.ref a_p0, .int p1]) (n := 2) (Nat.le_of_ble_eq_true rfl)
  rw [lg_entry_eq]
  generalize (lg_sl ([.ref a_p0, .int p1]) ++ List.replicate (2 - (lg_sl ([.ref a_p0, .int p1])).length) Slot.unset).toArray = ls at hl ⊢
  have hl : lv_has ls 2 [(0, .ref a_p0), (1, .int p1)] := hl
  have hw0 := hts (.fieldLink RX12 177 "DistantVoiceModel" "undoFirst" "I") (by decide +kernel)
  have hinX12 : ∀ w ∈ wsX120, w ∈ wsX12_slot := fun w h => List.mem_cons_of_mem _ (List.mem_append_right _ h)
  unfold fX12_slot at hf
  refine lv_iconst (v := 2) hx hb dX12_slot_0 (by decide) ?_
  refine lv_aload_n hx hb dX12_slot_1 rfl (lv_at hl 0 rfl) ?_
  refine va_get (D := (dC, dI)) (ci := 12) (v := .int (mmI 54)) (C := RX12) (T := TX12) (N := 70) hx hb hts hinX12 hown hK hP 0 rfl rfl 54 (by decide) hw0 (fun _ h9 => h9) rfl dX12_slot_2 ?_
  refine lv_iload_n hx hb dX12_slot_5 rfl (lv_at hl 1 rfl) ?_
  refine lv_iadd hx hb dX12_slot_6 ?_
  refine lv_bipush (v := 20) hx hb dX12_slot_7 (by decide) ?_
  refine xq_irem hx hb hf dX12_slot_9 (fun v_1 hf => ?_)
  refine lv_iadd hx hb dX12_slot_10 ?_
  have e9_0 : 2 + v_1 = r0 := Option.some.inj hf
  subst e9_0
  exact xq_iret hx hb hr hlocks hK hP hD hS dX12_slot_11
set_option maxRecDepth 20000 in
theorem ggX12_keeps_X12_slot : GoodIn wsX12_keeps wsX12_slot := goodIn_r _ [7, 2, 21, 22, 23, 24, 25, 26, 27, 28, 29, 30, 31, 32, 33, 34, 35, 36, 37, 38, 39, 40, 41, 42, 43, 44, 45, 46, 47, 48, 49, 50, 51, 52, 53, 54, 55, 56, 57, 58, 59, 60, 61, 62, 63, 64, 65, 66, 67, 68, 69, 70, 71, 72, 73, 74, 75, 76, 77, 78, 79, 80, 81, 82, 83, 84, 85, 86, 87, 88, 89, 90] rfl (by decide +kernel)
set_option maxRecDepth 20000 in
theorem gX12_keeps_X12_slot : GoodIn wsX12_keeps (wsV RX12 391 RX12 yX12_slot wsX12_slot) := goodIn_app (goodIn_of _ (by decide +kernel)) ggX12_keeps_X12_slot
set_option maxRecDepth 20000 in
theorem ggX12_keeps_X12_copies : GoodIn wsX12_keeps wsX12_copies := goodIn_r _ [11, 12, 13, 14, 15, 16, 17, 18, 19, 20, 21, 22, 23, 24, 25, 26, 27, 28, 29, 30, 31, 32, 33, 34, 35, 36, 37, 38, 39, 40, 41, 42, 43, 44, 45, 46, 47, 48, 49, 50, 51, 52, 53, 54, 55, 56, 57, 58, 59, 60, 61, 62, 63, 64, 65, 66, 67, 68, 69, 70, 71, 72, 73, 74, 75, 76, 77, 78, 79, 80, 81, 82, 83, 84, 85, 86, 87, 88, 89, 90] rfl (by decide +kernel)
set_option maxRecDepth 20000 in
theorem gX12_keeps_X12_copies : GoodIn wsX12_keeps (wsV RX12 394 RX12 yX12_copies wsX12_copies) := goodIn_app (goodIn_of _ (by decide +kernel)) ggX12_keeps_X12_copies
def dsX12_keeps_0 : List (Nat × Instr × Nat) := [(0, (.aload_n 0, 1)), (1, (.getfield 180, 3)), (4, (.bipush 20, 2)), (6, (.if_icmp .ne 26, 3)), (9, (.aload_n 0, 1)), (10, (.aload_n 0, 1)), (11, (.getfield 177, 3)), (14, (.iconst 1, 1)), (15, (.iadd, 1)), (16, (.bipush 20, 2)), (18, (.irem, 1)), (19, (.putfield 177, 3)), (22, (.aload_n 0, 1)), (23, (.dup, 1)), (24, (.getfield 180, 3)), (27, (.iconst 1, 1)), (28, (.isub, 1)), (29, (.putfield 180, 3)), (32, (.aload_n 0, 1)), (33, (.aload_n 0, 1)), (34, (.aload_n 0, 1)), (35, (.getfield 180, 3)), (38, (.invokevirtual 391, 3)), (41, (.iconst 0, 1)), (42, (.invokevirtual 394, 3)), (45, (.aload_n 0, 1)), (46, (.dup, 1)), (47, (.getfield 180, 3)), (50, (.iconst 1, 1)), (51, (.iadd, 1)), (52, (.putfield 180, 3)), (55, (.return_, 1))]
theorem dsX12_keeps_0_ok : (dsX12_keeps_0.all fun q => decide (decode cX12_keeps q.1 = .ok q.2)) = true := by decide +kernel
theorem dX12_keeps_0 : decode cX12_keeps 0 = .ok (.aload_n 0, 1) := of_decide_eq_true (List.all_eq_true.mp dsX12_keeps_0_ok (0, (.aload_n 0, 1)) (List.mem_of_getElem? (i := 0) rfl))
theorem dX12_keeps_1 : decode cX12_keeps 1 = .ok (.getfield 180, 3) := of_decide_eq_true (List.all_eq_true.mp dsX12_keeps_0_ok (1, (.getfield 180, 3)) (List.mem_of_getElem? (i := 1) rfl))
theorem dX12_keeps_4 : decode cX12_keeps 4 = .ok (.bipush 20, 2) := of_decide_eq_true (List.all_eq_true.mp dsX12_keeps_0_ok (4, (.bipush 20, 2)) (List.mem_of_getElem? (i := 2) rfl))
theorem dX12_keeps_6 : decode cX12_keeps 6 = .ok (.if_icmp .ne 26, 3) := of_decide_eq_true (List.all_eq_true.mp dsX12_keeps_0_ok (6, (.if_icmp .ne 26, 3)) (List.mem_of_getElem? (i := 3) rfl))
theorem dX12_keeps_9 : decode cX12_keeps 9 = .ok (.aload_n 0, 1) := of_decide_eq_true (List.all_eq_true.mp dsX12_keeps_0_ok (9, (.aload_n 0, 1)) (List.mem_of_getElem? (i := 4) rfl))
theorem dX12_keeps_10 : decode cX12_keeps 10 = .ok (.aload_n 0, 1) := of_decide_eq_true (List.all_eq_true.mp dsX12_keeps_0_ok (10, (.aload_n 0, 1)) (List.mem_of_getElem? (i := 5) rfl))
theorem dX12_keeps_11 : decode cX12_keeps 11 = .ok (.getfield 177, 3) := of_decide_eq_true (List.all_eq_true.mp dsX12_keeps_0_ok (11, (.getfield 177, 3)) (List.mem_of_getElem? (i := 6) rfl))
theorem dX12_keeps_14 : decode cX12_keeps 14 = .ok (.iconst 1, 1) := of_decide_eq_true (List.all_eq_true.mp dsX12_keeps_0_ok (14, (.iconst 1, 1)) (List.mem_of_getElem? (i := 7) rfl))
theorem dX12_keeps_15 : decode cX12_keeps 15 = .ok (.iadd, 1) := of_decide_eq_true (List.all_eq_true.mp dsX12_keeps_0_ok (15, (.iadd, 1)) (List.mem_of_getElem? (i := 8) rfl))
theorem dX12_keeps_16 : decode cX12_keeps 16 = .ok (.bipush 20, 2) := of_decide_eq_true (List.all_eq_true.mp dsX12_keeps_0_ok (16, (.bipush 20, 2)) (List.mem_of_getElem? (i := 9) rfl))
theorem dX12_keeps_18 : decode cX12_keeps 18 = .ok (.irem, 1) := of_decide_eq_true (List.all_eq_true.mp dsX12_keeps_0_ok (18, (.irem, 1)) (List.mem_of_getElem? (i := 10) rfl))
theorem dX12_keeps_19 : decode cX12_keeps 19 = .ok (.putfield 177, 3) := of_decide_eq_true (List.all_eq_true.mp dsX12_keeps_0_ok (19, (.putfield 177, 3)) (List.mem_of_getElem? (i := 11) rfl))
theorem dX12_keeps_22 : decode cX12_keeps 22 = .ok (.aload_n 0, 1) := of_decide_eq_true (List.all_eq_true.mp dsX12_keeps_0_ok (22, (.aload_n 0, 1)) (List.mem_of_getElem? (i := 12) rfl))
theorem dX12_keeps_23 : decode cX12_keeps 23 = .ok (.dup, 1) := of_decide_eq_true (List.all_eq_true.mp dsX12_keeps_0_ok (23, (.dup, 1)) (List.mem_of_getElem? (i := 13) rfl))
theorem dX12_keeps_24 : decode cX12_keeps 24 = .ok (.getfield 180, 3) := of_decide_eq_true (List.all_eq_true.mp dsX12_keeps_0_ok (24, (.getfield 180, 3)) (List.mem_of_getElem? (i := 14) rfl))
theorem dX12_keeps_27 : decode cX12_keeps 27 = .ok (.iconst 1, 1) := of_decide_eq_true (List.all_eq_true.mp dsX12_keeps_0_ok (27, (.iconst 1, 1)) (List.mem_of_getElem? (i := 15) rfl))
theorem dX12_keeps_28 : decode cX12_keeps 28 = .ok (.isub, 1) := of_decide_eq_true (List.all_eq_true.mp dsX12_keeps_0_ok (28, (.isub, 1)) (List.mem_of_getElem? (i := 16) rfl))
theorem dX12_keeps_29 : decode cX12_keeps 29 = .ok (.putfield 180, 3) := of_decide_eq_true (List.all_eq_true.mp dsX12_keeps_0_ok (29, (.putfield 180, 3)) (List.mem_of_getElem? (i := 17) rfl))
theorem dX12_keeps_32 : decode cX12_keeps 32 = .ok (.aload_n 0, 1) := of_decide_eq_true (List.all_eq_true.mp dsX12_keeps_0_ok (32, (.aload_n 0, 1)) (List.mem_of_getElem? (i := 18) rfl))
theorem dX12_keeps_33 : decode cX12_keeps 33 = .ok (.aload_n 0, 1) := of_decide_eq_true (List.all_eq_true.mp dsX12_keeps_0_ok (33, (.aload_n 0, 1)) (List.mem_of_getElem? (i := 19) rfl))
theorem dX12_keeps_34 : decode cX12_keeps 34 = .ok (.aload_n 0, 1) := of_decide_eq_true (List.all_eq_true.mp dsX12_keeps_0_ok (34, (.aload_n 0, 1)) (List.mem_of_getElem? (i := 20) rfl))
theorem dX12_keeps_35 : decode cX12_keeps 35 = .ok (.getfield 180, 3) := of_decide_eq_true (List.all_eq_true.mp dsX12_keeps_0_ok (35, (.getfield 180, 3)) (List.mem_of_getElem? (i := 21) rfl))
theorem dX12_keeps_38 : decode cX12_keeps 38 = .ok (.invokevirtual 391, 3) := of_decide_eq_true (List.all_eq_true.mp dsX12_keeps_0_ok (38, (.invokevirtual 391, 3)) (List.mem_of_getElem? (i := 22) rfl))
theorem dX12_keeps_41 : decode cX12_keeps 41 = .ok (.iconst 0, 1) := of_decide_eq_true (List.all_eq_true.mp dsX12_keeps_0_ok (41, (.iconst 0, 1)) (List.mem_of_getElem? (i := 23) rfl))
theorem dX12_keeps_42 : decode cX12_keeps 42 = .ok (.invokevirtual 394, 3) := of_decide_eq_true (List.all_eq_true.mp dsX12_keeps_0_ok (42, (.invokevirtual 394, 3)) (List.mem_of_getElem? (i := 24) rfl))
theorem dX12_keeps_45 : decode cX12_keeps 45 = .ok (.aload_n 0, 1) := of_decide_eq_true (List.all_eq_true.mp dsX12_keeps_0_ok (45, (.aload_n 0, 1)) (List.mem_of_getElem? (i := 25) rfl))
theorem dX12_keeps_46 : decode cX12_keeps 46 = .ok (.dup, 1) := of_decide_eq_true (List.all_eq_true.mp dsX12_keeps_0_ok (46, (.dup, 1)) (List.mem_of_getElem? (i := 26) rfl))
theorem dX12_keeps_47 : decode cX12_keeps 47 = .ok (.getfield 180, 3) := of_decide_eq_true (List.all_eq_true.mp dsX12_keeps_0_ok (47, (.getfield 180, 3)) (List.mem_of_getElem? (i := 27) rfl))
theorem dX12_keeps_50 : decode cX12_keeps 50 = .ok (.iconst 1, 1) := of_decide_eq_true (List.all_eq_true.mp dsX12_keeps_0_ok (50, (.iconst 1, 1)) (List.mem_of_getElem? (i := 28) rfl))
theorem dX12_keeps_51 : decode cX12_keeps 51 = .ok (.iadd, 1) := of_decide_eq_true (List.all_eq_true.mp dsX12_keeps_0_ok (51, (.iadd, 1)) (List.mem_of_getElem? (i := 29) rfl))
theorem dX12_keeps_52 : decode cX12_keeps 52 = .ok (.putfield 180, 3) := of_decide_eq_true (List.all_eq_true.mp dsX12_keeps_0_ok (52, (.putfield 180, 3)) (List.mem_of_getElem? (i := 30) rfl))
theorem dX12_keeps_55 : decode cX12_keeps 55 = .ok (.return_, 1) := of_decide_eq_true (List.all_eq_true.mp dsX12_keeps_0_ok (55, (.return_, 1)) (List.mem_of_getElem? (i := 31) rfl))
def fX12_keeps_b32 (N : Nat)    : ((Nat → Int32) × (Nat → Int32) × (Nat → Int32) × (Nat → Int32) × (Nat → Int32) × (Nat → Int32) × (Nat → Int32) × (Nat → Int32) × (Nat → Int32) × (Nat → Int32)) → Option ((Nat → Int32) × (Nat → Int32) × (Nat → Int32) × (Nat → Int32) × (Nat → Int32) × (Nat → Int32) × (Nat → Int32) × (Nat → Int32) × (Nat → Int32) × (Nat → Int32)) :=
  fun (mmI_32, mm_nightOfF_32, mm_mileOfF_32, mm_roundsOfF_32, mm_talkingOfF_32, mm_hushOfF_32, mm_rowOfF_32, mm_keptManyF_32, mm_talkOfF_32, mm_keptRowF_32) => (xq_bd (fX12_slot N mmI_32 (mmI_32 55)) fun r_1 => (xq_bd (fX12_copies N mm_nightOfF_32 mm_mileOfF_32 mm_roundsOfF_32 mm_talkingOfF_32 mm_hushOfF_32 mm_rowOfF_32 mm_keptManyF_32 mm_talkOfF_32 mm_keptRowF_32 r_1 0) fun (r_3_0, r_3_1, r_3_2, r_3_3, r_3_4, r_3_5, r_3_6, r_3_7, r_3_8) => some (((va_up mmI_32 55 ((mmI_32 55) + 1)), r_3_0, r_3_1, r_3_2, r_3_3, r_3_4, r_3_5, r_3_6, r_3_7, r_3_8))))
def fX12_keeps (N : Nat) (mmI : Nat → Int32) (mm_nightOfF : Nat → Int32) (mm_mileOfF : Nat → Int32) (mm_roundsOfF : Nat → Int32) (mm_talkingOfF : Nat → Int32) (mm_hushOfF : Nat → Int32) (mm_rowOfF : Nat → Int32) (mm_keptManyF : Nat → Int32) (mm_talkOfF : Nat → Int32) (mm_keptRowF : Nat → Int32)   : Option ((Nat → Int32) × (Nat → Int32) × (Nat → Int32) × (Nat → Int32) × (Nat → Int32) × (Nat → Int32) × (Nat → Int32) × (Nat → Int32) × (Nat → Int32) × (Nat → Int32)) :=
  (if (mmI 55) = 20 then (xq_bd (xq_rm ((mmI 54) + 1) 20) fun v_1 => fX12_keeps_b32 N ((va_up (va_up mmI 54 v_1) 55 ((mmI 55) - 1)), mm_nightOfF, mm_mileOfF, mm_roundsOfF, mm_talkingOfF, mm_hushOfF, mm_rowOfF, mm_keptManyF, mm_talkOfF, mm_keptRowF)) else fX12_keeps_b32 N (mmI, mm_nightOfF, mm_mileOfF, mm_roundsOfF, mm_talkingOfF, mm_hushOfF, mm_rowOfF, mm_keptManyF, mm_talkOfF, mm_keptRowF))
set_option maxHeartbeats 4000000 in
set_option maxRecDepth 100000 in
theorem kX12_keeps (l : Launch) (dC : Nat → ClassId) (dI : Nat → Nat → Nat) (cI cB cJ cZ cM : ClassId) (z : Nat) (ad : Nat → Nat) (N : Nat) (a_p0 : Nat) (mmI : Nat → Int32) (mmJ : Nat → Int64) (mmR : Nat → Nat) (mm_nightOfF : Nat → Int32) (mm_mileOfF : Nat → Int32) (mm_roundsOfF : Nat → Int32) (mm_talkingOfF : Nat → Int32) (mm_hushOfF : Nat → Int32) (mm_rowOfF : Nat → Int32) (mm_keptManyF : Nat → Int32) (mm_talkOfF : Nat → Int32) (mm_keptRowF : Nat → Int32) {r0 : Nat → Int32} {r1 : Nat → Int32} {r2 : Nat → Int32} {r3 : Nat → Int32} {r4 : Nat → Int32} {r5 : Nat → Int32} {r6 : Nat → Int32} {r7 : Nat → Int32} {r8 : Nat → Int32} {r9 : Nat → Int32} (hf : fX12_keeps N mmI mm_nightOfF mm_mileOfF mm_roundsOfF mm_talkingOfF mm_hushOfF mm_rowOfF mm_keptManyF mm_talkOfF mm_keptRowF = some (r0, r1, r2, r3, r4, r5, r6, r7, r8, r9)) : xq_Ct l yX12_keeps wsX12_keeps { frames := 1, cells := 0, slots := 0, locals := 23 } (dC, dI) vwCl (xq_tys cI cB cJ cZ cM) z ad [.ref a_p0] [(a_p0, .inr (12, oX12 mmI mmJ mmR)), ((mmR 45), .inl (cI, 22, .inl mm_nightOfF)), ((mmR 46), .inl (cI, 22, .inl mm_mileOfF)), ((mmR 47), .inl (cI, 22, .inl mm_roundsOfF)), ((mmR 48), .inl (cI, 22, .inl mm_talkingOfF)), ((mmR 49), .inl (cI, 22, .inl mm_hushOfF)), ((mmR 50), .inl (cI, 154, .inl mm_rowOfF)), ((mmR 52), .inl (cI, 22, .inl mm_keptManyF)), ((mmR 51), .inl (cI, 132, .inl mm_talkOfF)), ((mmR 53), .inl (cI, 2640, .inl mm_keptRowF))] [(a_p0, .inr (12, oX12 r0 mmJ mmR)), ((mmR 45), .inl (cI, 22, .inl r1)), ((mmR 46), .inl (cI, 22, .inl r2)), ((mmR 47), .inl (cI, 22, .inl r3)), ((mmR 48), .inl (cI, 22, .inl r4)), ((mmR 49), .inl (cI, 22, .inl r5)), ((mmR 50), .inl (cI, 154, .inl r6)), ((mmR 52), .inl (cI, 22, .inl r7)), ((mmR 51), .inl (cI, 132, .inl r8)), ((mmR 53), .inl (cI, 2640, .inl r9))] none := by
  intro sz
  refine Met.ofW (cc := cX12_keeps) (maxL := 1) (ret := none) (by decide) rfl ?_
  intro p e s m args below meth c s₁ B hml hv
  obtain ⟨rfl, hsz, hP, hK, hD0, hE, hz⟩ := hv
  have hx := B.exec
  have hb := B.bytes
  have hr := B.returns
  have hts := atoms_spec (ws := wsX12_keeps) B.pre
  have hown : s.vm.findClass RX12 = some m.cls := findClass_of_methodNamed B.named
  have hlocks := B.notSynchronized
  subst hsz
  have hD := hD0.self (sz := s.heap.size)
  have hN := xq_Env.of hE hz hD0
  generalize hAe : va_A [(a_p0, .inr (12, oX12 mmI mmJ mmR)), ((mmR 45), .inl (cI, 22, .inl mm_nightOfF)), ((mmR 46), .inl (cI, 22, .inl mm_mileOfF)), ((mmR 47), .inl (cI, 22, .inl mm_roundsOfF)), ((mmR 48), .inl (cI, 22, .inl mm_talkingOfF)), ((mmR 49), .inl (cI, 22, .inl mm_hushOfF)), ((mmR 50), .inl (cI, 154, .inl mm_rowOfF)), ((mmR 52), .inl (cI, 22, .inl mm_keptManyF)), ((mmR 51), .inl (cI, 132, .inl mm_talkOfF)), ((mmR 53), .inl (cI, 2640, .inl mm_keptRowF))] s.heap.size = A at hD hN ⊢
  have hA : ∀ q : Nat, s.heap.size ≤ q → A q := fun q h => by rw [← hAe]; exact Or.inr h
  clear hAe hD0
  have hS : va_S A s.heap s.heap [] := va_S.rf
  have hl := lv_entry ([.ref a_p0]) (n := 1) (Nat.le_of_ble_eq_true rfl)
  rw [lg_entry_eq]
  generalize (lg_sl ([.ref a_p0]) ++ List.replicate (1 - (lg_sl ([.ref a_p0])).length) Slot.unset).toArray = ls at hl ⊢
  have hl : lv_has ls 1 [(0, .ref a_p0)] := hl
  have hw0 := hts (.fieldLink RX12 180 "DistantVoiceModel" "undos" "I") (by decide +kernel)
  have hinX12 : ∀ w ∈ wsX120, w ∈ wsX12_keeps := fun w h => List.mem_cons_of_mem _ (List.mem_append_right _ h)
  have hw2 := hts (.fieldLink RX12 177 "DistantVoiceModel" "undoFirst" "I") (by decide +kernel)
  have b32 : ∀ (mmI_32 : Nat → Int32) (mm_nightOfF_32 : Nat → Int32) (mm_mileOfF_32 : Nat → Int32) (mm_roundsOfF_32 : Nat → Int32) (mm_talkingOfF_32 : Nat → Int32) (mm_hushOfF_32 : Nat → Int32) (mm_rowOfF_32 : Nat → Int32) (mm_keptManyF_32 : Nat → Int32) (mm_talkOfF_32 : Nat → Int32) (mm_keptRowF_32 : Nat → Int32) (ls : Array Slot) (H : Heap) (locs : List Loc), fX12_keeps_b32 N (mmI_32, mm_nightOfF_32, mm_mileOfF_32, mm_roundsOfF_32, mm_talkingOfF_32, mm_hushOfF_32, mm_rowOfF_32, mm_keptManyF_32, mm_talkOfF_32, mm_keptRowF_32) = some (r0, r1, r2, r3, r4, r5, r6, r7, r8, r9) → va_P (dC, dI) vwCl [(a_p0, .inr (12, oX12 mmI_32 mmJ mmR)), ((mmR 45), .inl (cI, 22, .inl mm_nightOfF_32)), ((mmR 46), .inl (cI, 22, .inl mm_mileOfF_32)), ((mmR 47), .inl (cI, 22, .inl mm_roundsOfF_32)), ((mmR 48), .inl (cI, 22, .inl mm_talkingOfF_32)), ((mmR 49), .inl (cI, 22, .inl mm_hushOfF_32)), ((mmR 50), .inl (cI, 154, .inl mm_rowOfF_32)), ((mmR 52), .inl (cI, 22, .inl mm_keptManyF_32)), ((mmR 51), .inl (cI, 132, .inl mm_talkOfF_32)), ((mmR 53), .inl (cI, 2640, .inl mm_keptRowF_32))] H → va_D A [(a_p0, .inr (12, oX12 mmI_32 mmJ mmR)), ((mmR 45), .inl (cI, 22, .inl mm_nightOfF_32)), ((mmR 46), .inl (cI, 22, .inl mm_mileOfF_32)), ((mmR 47), .inl (cI, 22, .inl mm_roundsOfF_32)), ((mmR 48), .inl (cI, 22, .inl mm_talkingOfF_32)), ((mmR 49), .inl (cI, 22, .inl mm_hushOfF_32)), ((mmR 50), .inl (cI, 154, .inl mm_rowOfF_32)), ((mmR 52), .inl (cI, 22, .inl mm_keptManyF_32)), ((mmR 51), .inl (cI, 132, .inl mm_talkOfF_32)), ((mmR 53), .inl (cI, 2640, .inl mm_keptRowF_32))] → va_S A s.heap H locs → lv_has ls 1 [(0, .ref a_p0)] → W p l e (headSpec wsX12_keeps { frames := 1, cells := 0, slots := 0, locals := 23 }).room s m [.ref a_p0].toArray below meth c H locs 0 0 (MQ below (xq_Q (dC, dI) vwCl (xq_tys cI cB cJ cZ cM) A [(a_p0, .inr (12, oX12 r0 mmJ mmR)), ((mmR 45), .inl (cI, 22, .inl r1)), ((mmR 46), .inl (cI, 22, .inl r2)), ((mmR 47), .inl (cI, 22, .inl r3)), ((mmR 48), .inl (cI, 22, .inl r4)), ((mmR 49), .inl (cI, 22, .inl r5)), ((mmR 50), .inl (cI, 154, .inl r6)), ((mmR 52), .inl (cI, 22, .inl r7)), ((mmR 51), .inl (cI, 132, .inl r8)), ((mmR 53), .inl (cI, 2640, .inl r9))] none) [.ref a_p0].toArray s 0 0 A) (F0 m 32 ls []) := by
    intro mmI_32 mm_nightOfF_32 mm_mileOfF_32 mm_roundsOfF_32 mm_talkingOfF_32 mm_hushOfF_32 mm_rowOfF_32 mm_keptManyF_32 mm_talkOfF_32 mm_keptRowF_32 ls H locs hf hP hD hS hl
    unfold fX12_keeps_b32 at hf
    refine lv_aload_n hx hb dX12_keeps_32 rfl (lv_at hl 0 rfl) ?_
    refine lv_aload_n hx hb dX12_keeps_33 rfl (lv_at hl 0 rfl) ?_
    refine lv_aload_n hx hb dX12_keeps_34 rfl (lv_at hl 0 rfl) ?_
    refine va_get (D := (dC, dI)) (ci := 12) (v := .int (mmI_32 55)) (C := RX12) (T := TX12) (N := 70) hx hb hts hinX12 hown hK hP 0 rfl rfl 55 (by decide) hw0 (fun _ h9 => h9) rfl dX12_keeps_35 ?_
    obtain ⟨r_1, h_2, hf⟩ := xq_bd_some hf
    refine xq_callV (As := [.int (mmI_32 55)]) (rest := [.ref a_p0]) (ci := 12) (q0 := 0) ⟨hx, hb, hml, hown, hts⟩ (kX12_slot l dC dI cI cB cJ cZ cM z ad N a_p0 mmI_32 mmJ mmR (mmI_32 55) h_2) (cwV 1 hts gX12_keeps_X12_slot rfl rfl rfl (by decide +kernel) ⟨Nat.le_of_ble_eq_true rfl, Nat.le_of_ble_eq_true rfl⟩) hN hK hP hD hS hA [0] (by decide) rfl rfl rfl rfl rfl rfl hl.1 rfl (Nat.le_of_ble_eq_true rfl) dX12_keeps_38 ⟨Nat.zero_le _, Nat.zero_le _⟩ (fun H locs hP hD hS => ?_)
    have hP : va_P (dC, dI) vwCl [(a_p0, .inr (12, oX12 mmI_32 mmJ mmR)), ((mmR 45), .inl (cI, 22, .inl mm_nightOfF_32)), ((mmR 46), .inl (cI, 22, .inl mm_mileOfF_32)), ((mmR 47), .inl (cI, 22, .inl mm_roundsOfF_32)), ((mmR 48), .inl (cI, 22, .inl mm_talkingOfF_32)), ((mmR 49), .inl (cI, 22, .inl mm_hushOfF_32)), ((mmR 50), .inl (cI, 154, .inl mm_rowOfF_32)), ((mmR 52), .inl (cI, 22, .inl mm_keptManyF_32)), ((mmR 51), .inl (cI, 132, .inl mm_talkOfF_32)), ((mmR 53), .inl (cI, 2640, .inl mm_keptRowF_32))] H := hP
    have hD : va_D A [(a_p0, .inr (12, oX12 mmI_32 mmJ mmR)), ((mmR 45), .inl (cI, 22, .inl mm_nightOfF_32)), ((mmR 46), .inl (cI, 22, .inl mm_mileOfF_32)), ((mmR 47), .inl (cI, 22, .inl mm_roundsOfF_32)), ((mmR 48), .inl (cI, 22, .inl mm_talkingOfF_32)), ((mmR 49), .inl (cI, 22, .inl mm_hushOfF_32)), ((mmR 50), .inl (cI, 154, .inl mm_rowOfF_32)), ((mmR 52), .inl (cI, 22, .inl mm_keptManyF_32)), ((mmR 51), .inl (cI, 132, .inl mm_talkOfF_32)), ((mmR 53), .inl (cI, 2640, .inl mm_keptRowF_32))] := hD
    refine W.eq (g2 := F0 m 41 ls [.int r_1, .ref a_p0]) rfl ?_
    refine lv_iconst (v := 0) hx hb dX12_keeps_41 (by decide) ?_
    obtain ⟨⟨r_3_0, r_3_1, r_3_2, r_3_3, r_3_4, r_3_5, r_3_6, r_3_7, r_3_8⟩, h_4, hf⟩ := xq_bd_some hf
    refine xq_callV (As := [.int r_1, .int 0]) (rest := []) (ci := 12) (q0 := 0) ⟨hx, hb, hml, hown, hts⟩ (kX12_copies l dC dI cI cB cJ cZ cM z ad N a_p0 mmI_32 mmJ mmR mm_nightOfF_32 mm_mileOfF_32 mm_roundsOfF_32 mm_talkingOfF_32 mm_hushOfF_32 mm_rowOfF_32 mm_keptManyF_32 mm_talkOfF_32 mm_keptRowF_32 r_1 0 h_4) (cwV 2 hts gX12_keeps_X12_copies rfl rfl rfl (by decide +kernel) ⟨Nat.le_of_ble_eq_true rfl, Nat.le_of_ble_eq_true rfl⟩) hN hK hP hD hS hA [0, 1, 2, 3, 4, 5, 6, 7, 8, 9] (by decide) rfl rfl rfl rfl rfl rfl hl.1 rfl (Nat.le_of_ble_eq_true rfl) dX12_keeps_42 ⟨Nat.zero_le _, Nat.zero_le _⟩ (fun H locs hP hD hS => ?_)
    have hP : va_P (dC, dI) vwCl [(a_p0, .inr (12, oX12 mmI_32 mmJ mmR)), ((mmR 45), .inl (cI, 22, .inl r_3_0)), ((mmR 46), .inl (cI, 22, .inl r_3_1)), ((mmR 47), .inl (cI, 22, .inl r_3_2)), ((mmR 48), .inl (cI, 22, .inl r_3_3)), ((mmR 49), .inl (cI, 22, .inl r_3_4)), ((mmR 50), .inl (cI, 154, .inl r_3_5)), ((mmR 52), .inl (cI, 22, .inl r_3_6)), ((mmR 51), .inl (cI, 132, .inl r_3_7)), ((mmR 53), .inl (cI, 2640, .inl r_3_8))] H := hP
    have hD : va_D A [(a_p0, .inr (12, oX12 mmI_32 mmJ mmR)), ((mmR 45), .inl (cI, 22, .inl r_3_0)), ((mmR 46), .inl (cI, 22, .inl r_3_1)), ((mmR 47), .inl (cI, 22, .inl r_3_2)), ((mmR 48), .inl (cI, 22, .inl r_3_3)), ((mmR 49), .inl (cI, 22, .inl r_3_4)), ((mmR 50), .inl (cI, 154, .inl r_3_5)), ((mmR 52), .inl (cI, 22, .inl r_3_6)), ((mmR 51), .inl (cI, 132, .inl r_3_7)), ((mmR 53), .inl (cI, 2640, .inl r_3_8))] := hD
    refine W.eq (g2 := F0 m 45 ls []) rfl ?_
    refine lv_aload_n hx hb dX12_keeps_45 rfl (lv_at hl 0 rfl) ?_
    refine lv_dup hx hb dX12_keeps_46 rfl ?_
    refine va_get (D := (dC, dI)) (ci := 12) (v := .int (mmI_32 55)) (C := RX12) (T := TX12) (N := 70) hx hb hts hinX12 hown hK hP 0 rfl rfl 55 (by decide) hw0 (fun _ h9 => h9) rfl dX12_keeps_47 ?_
    refine lv_iconst (v := 1) hx hb dX12_keeps_50 (by decide) ?_
    refine lv_iadd hx hb dX12_keeps_51 ?_
    refine va_put (D := (dC, dI)) (ci := 12) (v := .int ((mmI_32 55) + 1)) (ty := .int) (C := RX12) (T := TX12) (N := 70) hx hb hts hinX12 tyX12 tyX12_ok nmX12 hown hK hP hD hS 0 rfl rfl 55 (by decide) hw0 (fun _ h9 => h9) rfl (by decide +kernel) rfl rfl (Nat.le_of_ble_eq_true rfl) dX12_keeps_52 (fun H locs hP hD hS => ?_)
    have hP : va_P (dC, dI) vwCl [(a_p0, .inr (12, oX12 (va_up mmI_32 55 ((mmI_32 55) + 1)) mmJ mmR)), ((mmR 45), .inl (cI, 22, .inl r_3_0)), ((mmR 46), .inl (cI, 22, .inl r_3_1)), ((mmR 47), .inl (cI, 22, .inl r_3_2)), ((mmR 48), .inl (cI, 22, .inl r_3_3)), ((mmR 49), .inl (cI, 22, .inl r_3_4)), ((mmR 50), .inl (cI, 154, .inl r_3_5)), ((mmR 52), .inl (cI, 22, .inl r_3_6)), ((mmR 51), .inl (cI, 132, .inl r_3_7)), ((mmR 53), .inl (cI, 2640, .inl r_3_8))] H := hP
    have hD : va_D A [(a_p0, .inr (12, oX12 (va_up mmI_32 55 ((mmI_32 55) + 1)) mmJ mmR)), ((mmR 45), .inl (cI, 22, .inl r_3_0)), ((mmR 46), .inl (cI, 22, .inl r_3_1)), ((mmR 47), .inl (cI, 22, .inl r_3_2)), ((mmR 48), .inl (cI, 22, .inl r_3_3)), ((mmR 49), .inl (cI, 22, .inl r_3_4)), ((mmR 50), .inl (cI, 154, .inl r_3_5)), ((mmR 52), .inl (cI, 22, .inl r_3_6)), ((mmR 51), .inl (cI, 132, .inl r_3_7)), ((mmR 53), .inl (cI, 2640, .inl r_3_8))] := hD
    have e9 := Option.some.inj hf
    have e9_0 : (va_up mmI_32 55 ((mmI_32 55) + 1)) = r0 := congrArg (fun t => t.1) e9
    have e9_1 : r_3_0 = r1 := congrArg (fun t => t.2.1) e9
    have e9_2 : r_3_1 = r2 := congrArg (fun t => t.2.2.1) e9
    have e9_3 : r_3_2 = r3 := congrArg (fun t => t.2.2.2.1) e9
    have e9_4 : r_3_3 = r4 := congrArg (fun t => t.2.2.2.2.1) e9
    have e9_5 : r_3_4 = r5 := congrArg (fun t => t.2.2.2.2.2.1) e9
    have e9_6 : r_3_5 = r6 := congrArg (fun t => t.2.2.2.2.2.2.1) e9
    have e9_7 : r_3_6 = r7 := congrArg (fun t => t.2.2.2.2.2.2.2.1) e9
    have e9_8 : r_3_7 = r8 := congrArg (fun t => t.2.2.2.2.2.2.2.2.1) e9
    have e9_9 : r_3_8 = r9 := congrArg (fun t => t.2.2.2.2.2.2.2.2.2) e9
    clear e9 hf
    try clear b32
    subst e9_0
    subst e9_1
    subst e9_2
    subst e9_3
    subst e9_4
    subst e9_5
    subst e9_6
    subst e9_7
    subst e9_8
    subst e9_9
    exact xq_vret hx hb hr hlocks hK hP hD hS dX12_keeps_55
  unfold fX12_keeps at hf
  refine lv_aload_n hx hb dX12_keeps_0 rfl (lv_at hl 0 rfl) ?_
  refine va_get (D := (dC, dI)) (ci := 12) (v := .int (mmI 55)) (C := RX12) (T := TX12) (N := 70) hx hb hts hinX12 hown hK hP 0 rfl rfl 55 (by decide) hw0 (fun _ h9 => h9) rfl dX12_keeps_1 ?_
  refine lv_bipush (v := 20) hx hb dX12_keeps_4 (by decide) ?_
  refine lv_icmp_ne (tgt := 32) hx hb dX12_keeps_6 (by decide) (fun c_ => ?_) (fun c_ => ?_)
  · have hf := xq_neg hf c_
    exact b32 mmI mm_nightOfF mm_mileOfF mm_roundsOfF mm_talkingOfF mm_hushOfF mm_rowOfF mm_keptManyF mm_talkOfF mm_keptRowF _ _ _ hf hP hD hS (lv_sub hl [0] rfl)
  · have hf := xq_pos hf c_
    refine lv_aload_n hx hb dX12_keeps_9 rfl (lv_at hl 0 rfl) ?_
    refine lv_aload_n hx hb dX12_keeps_10 rfl (lv_at hl 0 rfl) ?_
    refine va_get (D := (dC, dI)) (ci := 12) (v := .int (mmI 54)) (C := RX12) (T := TX12) (N := 70) hx hb hts hinX12 hown hK hP 0 rfl rfl 54 (by decide) hw2 (fun _ h9 => h9) rfl dX12_keeps_11 ?_
    refine lv_iconst (v := 1) hx hb dX12_keeps_14 (by decide) ?_
    refine lv_iadd hx hb dX12_keeps_15 ?_
    refine lv_bipush (v := 20) hx hb dX12_keeps_16 (by decide) ?_
    refine xq_irem hx hb hf dX12_keeps_18 (fun v_1 hf => ?_)
    refine va_put (D := (dC, dI)) (ci := 12) (v := .int v_1) (ty := .int) (C := RX12) (T := TX12) (N := 70) hx hb hts hinX12 tyX12 tyX12_ok nmX12 hown hK hP hD hS 0 rfl rfl 54 (by decide) hw2 (fun _ h9 => h9) rfl (by decide +kernel) rfl rfl (Nat.le_of_ble_eq_true rfl) dX12_keeps_19 (fun H locs hP hD hS => ?_)
    have hP : va_P (dC, dI) vwCl [(a_p0, .inr (12, oX12 (va_up mmI 54 v_1) mmJ mmR)), ((mmR 45), .inl (cI, 22, .inl mm_nightOfF)), ((mmR 46), .inl (cI, 22, .inl mm_mileOfF)), ((mmR 47), .inl (cI, 22, .inl mm_roundsOfF)), ((mmR 48), .inl (cI, 22, .inl mm_talkingOfF)), ((mmR 49), .inl (cI, 22, .inl mm_hushOfF)), ((mmR 50), .inl (cI, 154, .inl mm_rowOfF)), ((mmR 52), .inl (cI, 22, .inl mm_keptManyF)), ((mmR 51), .inl (cI, 132, .inl mm_talkOfF)), ((mmR 53), .inl (cI, 2640, .inl mm_keptRowF))] H := hP
    have hD : va_D A [(a_p0, .inr (12, oX12 (va_up mmI 54 v_1) mmJ mmR)), ((mmR 45), .inl (cI, 22, .inl mm_nightOfF)), ((mmR 46), .inl (cI, 22, .inl mm_mileOfF)), ((mmR 47), .inl (cI, 22, .inl mm_roundsOfF)), ((mmR 48), .inl (cI, 22, .inl mm_talkingOfF)), ((mmR 49), .inl (cI, 22, .inl mm_hushOfF)), ((mmR 50), .inl (cI, 154, .inl mm_rowOfF)), ((mmR 52), .inl (cI, 22, .inl mm_keptManyF)), ((mmR 51), .inl (cI, 132, .inl mm_talkOfF)), ((mmR 53), .inl (cI, 2640, .inl mm_keptRowF))] := hD
    refine lv_aload_n hx hb dX12_keeps_22 rfl (lv_at hl 0 rfl) ?_
    refine lv_dup hx hb dX12_keeps_23 rfl ?_
    refine va_get (D := (dC, dI)) (ci := 12) (v := .int (mmI 55)) (C := RX12) (T := TX12) (N := 70) hx hb hts hinX12 hown hK hP 0 rfl rfl 55 (by decide) hw0 (fun _ h9 => h9) rfl dX12_keeps_24 ?_
    refine lv_iconst (v := 1) hx hb dX12_keeps_27 (by decide) ?_
    refine lv_isub hx hb dX12_keeps_28 ?_
    refine va_put (D := (dC, dI)) (ci := 12) (v := .int ((mmI 55) - 1)) (ty := .int) (C := RX12) (T := TX12) (N := 70) hx hb hts hinX12 tyX12 tyX12_ok nmX12 hown hK hP hD hS 0 rfl rfl 55 (by decide) hw0 (fun _ h9 => h9) rfl (by decide +kernel) rfl rfl (Nat.le_of_ble_eq_true rfl) dX12_keeps_29 (fun H locs hP hD hS => ?_)
    have hP : va_P (dC, dI) vwCl [(a_p0, .inr (12, oX12 (va_up (va_up mmI 54 v_1) 55 ((mmI 55) - 1)) mmJ mmR)), ((mmR 45), .inl (cI, 22, .inl mm_nightOfF)), ((mmR 46), .inl (cI, 22, .inl mm_mileOfF)), ((mmR 47), .inl (cI, 22, .inl mm_roundsOfF)), ((mmR 48), .inl (cI, 22, .inl mm_talkingOfF)), ((mmR 49), .inl (cI, 22, .inl mm_hushOfF)), ((mmR 50), .inl (cI, 154, .inl mm_rowOfF)), ((mmR 52), .inl (cI, 22, .inl mm_keptManyF)), ((mmR 51), .inl (cI, 132, .inl mm_talkOfF)), ((mmR 53), .inl (cI, 2640, .inl mm_keptRowF))] H := hP
    have hD : va_D A [(a_p0, .inr (12, oX12 (va_up (va_up mmI 54 v_1) 55 ((mmI 55) - 1)) mmJ mmR)), ((mmR 45), .inl (cI, 22, .inl mm_nightOfF)), ((mmR 46), .inl (cI, 22, .inl mm_mileOfF)), ((mmR 47), .inl (cI, 22, .inl mm_roundsOfF)), ((mmR 48), .inl (cI, 22, .inl mm_talkingOfF)), ((mmR 49), .inl (cI, 22, .inl mm_hushOfF)), ((mmR 50), .inl (cI, 154, .inl mm_rowOfF)), ((mmR 52), .inl (cI, 22, .inl mm_keptManyF)), ((mmR 51), .inl (cI, 132, .inl mm_talkOfF)), ((mmR 53), .inl (cI, 2640, .inl mm_keptRowF))] := hD
    exact b32 ((va_up (va_up mmI 54 v_1) 55 ((mmI 55) - 1))) mm_nightOfF mm_mileOfF mm_roundsOfF mm_talkingOfF mm_hushOfF mm_rowOfF mm_keptManyF mm_talkOfF mm_keptRowF _ _ _ hf hP hD hS (lv_sub hl [0] rfl)
set_option maxRecDepth 20000 in
theorem ggX12_undo_X12_refuses : GoodIn wsX12_undo wsX12_refuses := goodIn_r _ [6, 7, 26, 27, 28, 29, 30, 31, 32, 33, 34, 35, 36, 37, 38, 39, 40, 41, 42, 43, 44, 45, 46, 47, 48, 49, 50, 51, 52, 53, 54, 55, 56, 57, 58, 59, 60, 61, 62, 63, 64, 65, 66, 67, 68, 69, 70, 71, 72, 73, 74, 75, 76, 77, 78, 79, 80, 81, 82, 83, 84, 85, 86, 87, 88, 89, 90, 91, 92, 93, 94, 95] rfl (by decide +kernel)
set_option maxRecDepth 20000 in
theorem gX12_undo_X12_refuses : GoodIn wsX12_undo (wsV RX12 225 RX12 yX12_refuses wsX12_refuses) := goodIn_app (goodIn_of _ (by decide +kernel)) ggX12_undo_X12_refuses
set_option maxRecDepth 20000 in
theorem ggX12_undo_X12_slot : GoodIn wsX12_undo wsX12_slot := goodIn_r _ [11, 12, 26, 27, 28, 29, 30, 31, 32, 33, 34, 35, 36, 37, 38, 39, 40, 41, 42, 43, 44, 45, 46, 47, 48, 49, 50, 51, 52, 53, 54, 55, 56, 57, 58, 59, 60, 61, 62, 63, 64, 65, 66, 67, 68, 69, 70, 71, 72, 73, 74, 75, 76, 77, 78, 79, 80, 81, 82, 83, 84, 85, 86, 87, 88, 89, 90, 91, 92, 93, 94, 95] rfl (by decide +kernel)
set_option maxRecDepth 20000 in
theorem gX12_undo_X12_slot : GoodIn wsX12_undo (wsV RX12 391 RX12 yX12_slot wsX12_slot) := goodIn_app (goodIn_of _ (by decide +kernel)) ggX12_undo_X12_slot
set_option maxRecDepth 20000 in
theorem ggX12_undo_X12_copies : GoodIn wsX12_undo wsX12_copies := goodIn_r _ [16, 17, 18, 19, 20, 21, 22, 23, 24, 25, 26, 27, 28, 29, 30, 31, 32, 33, 34, 35, 36, 37, 38, 39, 40, 41, 42, 43, 44, 45, 46, 47, 48, 49, 50, 51, 52, 53, 54, 55, 56, 57, 58, 59, 60, 61, 62, 63, 64, 65, 66, 67, 68, 69, 70, 71, 72, 73, 74, 75, 76, 77, 78, 79, 80, 81, 82, 83, 84, 85, 86, 87, 88, 89, 90, 91, 92, 93, 94, 95] rfl (by decide +kernel)
set_option maxRecDepth 20000 in
theorem gX12_undo_X12_copies : GoodIn wsX12_undo (wsV RX12 394 RX12 yX12_copies wsX12_copies) := goodIn_app (goodIn_of _ (by decide +kernel)) ggX12_undo_X12_copies
def dsX12_undo_0 : List (Nat × Instr × Nat) := [(0, (.aload_n 0, 1)), (1, (.getfield 180, 3)), (4, (.ifCond .ne 17, 3)), (7, (.aload_n 0, 1)), (8, (.iconst 4, 1)), (9, (.invokevirtual 225, 3)), (12, (.ifCond .lt 7, 3)), (15, (.iconst 1, 1)), (16, (.goto 4, 3)), (19, (.iconst 0, 1)), (20, (.ireturn, 1)), (21, (.aload_n 0, 1)), (22, (.dup, 1)), (23, (.getfield 180, 3)), (26, (.iconst 1, 1)), (27, (.isub, 1)), (28, (.putfield 180, 3)), (31, (.aload_n 0, 1)), (32, (.iconst 0, 1)), (33, (.aload_n 0, 1)), (34, (.aload_n 0, 1)), (35, (.getfield 180, 3)), (38, (.invokevirtual 391, 3)), (41, (.invokevirtual 394, 3)), (44, (.iconst 1, 1)), (45, (.ireturn, 1))]
theorem dsX12_undo_0_ok : (dsX12_undo_0.all fun q => decide (decode cX12_undo q.1 = .ok q.2)) = true := by decide +kernel
theorem dX12_undo_0 : decode cX12_undo 0 = .ok (.aload_n 0, 1) := of_decide_eq_true (List.all_eq_true.mp dsX12_undo_0_ok (0, (.aload_n 0, 1)) (List.mem_of_getElem? (i := 0) rfl))
theorem dX12_undo_1 : decode cX12_undo 1 = .ok (.getfield 180, 3) := of_decide_eq_true (List.all_eq_true.mp dsX12_undo_0_ok (1, (.getfield 180, 3)) (List.mem_of_getElem? (i := 1) rfl))
theorem dX12_undo_4 : decode cX12_undo 4 = .ok (.ifCond .ne 17, 3) := of_decide_eq_true (List.all_eq_true.mp dsX12_undo_0_ok (4, (.ifCond .ne 17, 3)) (List.mem_of_getElem? (i := 2) rfl))
theorem dX12_undo_7 : decode cX12_undo 7 = .ok (.aload_n 0, 1) := of_decide_eq_true (List.all_eq_true.mp dsX12_undo_0_ok (7, (.aload_n 0, 1)) (List.mem_of_getElem? (i := 3) rfl))
theorem dX12_undo_8 : decode cX12_undo 8 = .ok (.iconst 4, 1) := of_decide_eq_true (List.all_eq_true.mp dsX12_undo_0_ok (8, (.iconst 4, 1)) (List.mem_of_getElem? (i := 4) rfl))
theorem dX12_undo_9 : decode cX12_undo 9 = .ok (.invokevirtual 225, 3) := of_decide_eq_true (List.all_eq_true.mp dsX12_undo_0_ok (9, (.invokevirtual 225, 3)) (List.mem_of_getElem? (i := 5) rfl))
theorem dX12_undo_12 : decode cX12_undo 12 = .ok (.ifCond .lt 7, 3) := of_decide_eq_true (List.all_eq_true.mp dsX12_undo_0_ok (12, (.ifCond .lt 7, 3)) (List.mem_of_getElem? (i := 6) rfl))
theorem dX12_undo_15 : decode cX12_undo 15 = .ok (.iconst 1, 1) := of_decide_eq_true (List.all_eq_true.mp dsX12_undo_0_ok (15, (.iconst 1, 1)) (List.mem_of_getElem? (i := 7) rfl))
theorem dX12_undo_16 : decode cX12_undo 16 = .ok (.goto 4, 3) := of_decide_eq_true (List.all_eq_true.mp dsX12_undo_0_ok (16, (.goto 4, 3)) (List.mem_of_getElem? (i := 8) rfl))
theorem dX12_undo_19 : decode cX12_undo 19 = .ok (.iconst 0, 1) := of_decide_eq_true (List.all_eq_true.mp dsX12_undo_0_ok (19, (.iconst 0, 1)) (List.mem_of_getElem? (i := 9) rfl))
theorem dX12_undo_20 : decode cX12_undo 20 = .ok (.ireturn, 1) := of_decide_eq_true (List.all_eq_true.mp dsX12_undo_0_ok (20, (.ireturn, 1)) (List.mem_of_getElem? (i := 10) rfl))
theorem dX12_undo_21 : decode cX12_undo 21 = .ok (.aload_n 0, 1) := of_decide_eq_true (List.all_eq_true.mp dsX12_undo_0_ok (21, (.aload_n 0, 1)) (List.mem_of_getElem? (i := 11) rfl))
theorem dX12_undo_22 : decode cX12_undo 22 = .ok (.dup, 1) := of_decide_eq_true (List.all_eq_true.mp dsX12_undo_0_ok (22, (.dup, 1)) (List.mem_of_getElem? (i := 12) rfl))
theorem dX12_undo_23 : decode cX12_undo 23 = .ok (.getfield 180, 3) := of_decide_eq_true (List.all_eq_true.mp dsX12_undo_0_ok (23, (.getfield 180, 3)) (List.mem_of_getElem? (i := 13) rfl))
theorem dX12_undo_26 : decode cX12_undo 26 = .ok (.iconst 1, 1) := of_decide_eq_true (List.all_eq_true.mp dsX12_undo_0_ok (26, (.iconst 1, 1)) (List.mem_of_getElem? (i := 14) rfl))
theorem dX12_undo_27 : decode cX12_undo 27 = .ok (.isub, 1) := of_decide_eq_true (List.all_eq_true.mp dsX12_undo_0_ok (27, (.isub, 1)) (List.mem_of_getElem? (i := 15) rfl))
theorem dX12_undo_28 : decode cX12_undo 28 = .ok (.putfield 180, 3) := of_decide_eq_true (List.all_eq_true.mp dsX12_undo_0_ok (28, (.putfield 180, 3)) (List.mem_of_getElem? (i := 16) rfl))
theorem dX12_undo_31 : decode cX12_undo 31 = .ok (.aload_n 0, 1) := of_decide_eq_true (List.all_eq_true.mp dsX12_undo_0_ok (31, (.aload_n 0, 1)) (List.mem_of_getElem? (i := 17) rfl))
theorem dX12_undo_32 : decode cX12_undo 32 = .ok (.iconst 0, 1) := of_decide_eq_true (List.all_eq_true.mp dsX12_undo_0_ok (32, (.iconst 0, 1)) (List.mem_of_getElem? (i := 18) rfl))
theorem dX12_undo_33 : decode cX12_undo 33 = .ok (.aload_n 0, 1) := of_decide_eq_true (List.all_eq_true.mp dsX12_undo_0_ok (33, (.aload_n 0, 1)) (List.mem_of_getElem? (i := 19) rfl))
theorem dX12_undo_34 : decode cX12_undo 34 = .ok (.aload_n 0, 1) := of_decide_eq_true (List.all_eq_true.mp dsX12_undo_0_ok (34, (.aload_n 0, 1)) (List.mem_of_getElem? (i := 20) rfl))
theorem dX12_undo_35 : decode cX12_undo 35 = .ok (.getfield 180, 3) := of_decide_eq_true (List.all_eq_true.mp dsX12_undo_0_ok (35, (.getfield 180, 3)) (List.mem_of_getElem? (i := 21) rfl))
theorem dX12_undo_38 : decode cX12_undo 38 = .ok (.invokevirtual 391, 3) := of_decide_eq_true (List.all_eq_true.mp dsX12_undo_0_ok (38, (.invokevirtual 391, 3)) (List.mem_of_getElem? (i := 22) rfl))
theorem dX12_undo_41 : decode cX12_undo 41 = .ok (.invokevirtual 394, 3) := of_decide_eq_true (List.all_eq_true.mp dsX12_undo_0_ok (41, (.invokevirtual 394, 3)) (List.mem_of_getElem? (i := 23) rfl))
theorem dX12_undo_44 : decode cX12_undo 44 = .ok (.iconst 1, 1) := of_decide_eq_true (List.all_eq_true.mp dsX12_undo_0_ok (44, (.iconst 1, 1)) (List.mem_of_getElem? (i := 24) rfl))
theorem dX12_undo_45 : decode cX12_undo 45 = .ok (.ireturn, 1) := of_decide_eq_true (List.all_eq_true.mp dsX12_undo_0_ok (45, (.ireturn, 1)) (List.mem_of_getElem? (i := 25) rfl))
def fX12_undo (N : Nat) (mmI : Nat → Int32) (mm_nightOfF : Nat → Int32) (mm_mileOfF : Nat → Int32) (mm_roundsOfF : Nat → Int32) (mm_talkingOfF : Nat → Int32) (mm_hushOfF : Nat → Int32) (mm_rowOfF : Nat → Int32) (mm_keptManyF : Nat → Int32) (mm_talkOfF : Nat → Int32) (mm_keptRowF : Nat → Int32) (mm_refusedF : Nat → Int32)   : Option (Int32 × (Nat → Int32) × (Nat → Int32) × (Nat → Int32) × (Nat → Int32) × (Nat → Int32) × (Nat → Int32) × (Nat → Int32) × (Nat → Int32) × (Nat → Int32) × (Nat → Int32) × (Nat → Int32)) :=
  (if (mmI 55) = 0 then (xq_bd (fX12_refuses N mm_refusedF 4) fun (r_5_0, r_5_1) => (if r_5_0 < 0 then some ((0, mmI, mm_nightOfF, mm_mileOfF, mm_roundsOfF, mm_talkingOfF, mm_hushOfF, mm_rowOfF, mm_keptManyF, mm_talkOfF, mm_keptRowF, r_5_1)) else some ((1, mmI, mm_nightOfF, mm_mileOfF, mm_roundsOfF, mm_talkingOfF, mm_hushOfF, mm_rowOfF, mm_keptManyF, mm_talkOfF, mm_keptRowF, r_5_1)))) else (xq_bd (fX12_slot N ((va_up mmI 55 ((mmI 55) - 1))) ((mmI 55) - 1)) fun r_1 => (xq_bd (fX12_copies N mm_nightOfF mm_mileOfF mm_roundsOfF mm_talkingOfF mm_hushOfF mm_rowOfF mm_keptManyF mm_talkOfF mm_keptRowF 0 r_1) fun (r_3_0, r_3_1, r_3_2, r_3_3, r_3_4, r_3_5, r_3_6, r_3_7, r_3_8) => some ((1, (va_up mmI 55 ((mmI 55) - 1)), r_3_0, r_3_1, r_3_2, r_3_3, r_3_4, r_3_5, r_3_6, r_3_7, r_3_8, mm_refusedF)))))
set_option maxHeartbeats 4000000 in
set_option maxRecDepth 100000 in
theorem kX12_undo (l : Launch) (dC : Nat → ClassId) (dI : Nat → Nat → Nat) (cI cB cJ cZ cM : ClassId) (z : Nat) (ad : Nat → Nat) (N : Nat) (a_p0 : Nat) (mmI : Nat → Int32) (mmJ : Nat → Int64) (mmR : Nat → Nat) (mm_nightOfF : Nat → Int32) (mm_mileOfF : Nat → Int32) (mm_roundsOfF : Nat → Int32) (mm_talkingOfF : Nat → Int32) (mm_hushOfF : Nat → Int32) (mm_rowOfF : Nat → Int32) (mm_keptManyF : Nat → Int32) (mm_talkOfF : Nat → Int32) (mm_keptRowF : Nat → Int32) (mm_refusedF : Nat → Int32) {r0 : Int32} {r1 : Nat → Int32} {r2 : Nat → Int32} {r3 : Nat → Int32} {r4 : Nat → Int32} {r5 : Nat → Int32} {r6 : Nat → Int32} {r7 : Nat → Int32} {r8 : Nat → Int32} {r9 : Nat → Int32} {r10 : Nat → Int32} {r11 : Nat → Int32} (hf : fX12_undo N mmI mm_nightOfF mm_mileOfF mm_roundsOfF mm_talkingOfF mm_hushOfF mm_rowOfF mm_keptManyF mm_talkOfF mm_keptRowF mm_refusedF = some (r0, r1, r2, r3, r4, r5, r6, r7, r8, r9, r10, r11)) : xq_Ct l yX12_undo wsX12_undo { frames := 1, cells := 0, slots := 0, locals := 23 } (dC, dI) vwCl (xq_tys cI cB cJ cZ cM) z ad [.ref a_p0] [(a_p0, .inr (12, oX12 mmI mmJ mmR)), ((mmR 45), .inl (cI, 22, .inl mm_nightOfF)), ((mmR 46), .inl (cI, 22, .inl mm_mileOfF)), ((mmR 47), .inl (cI, 22, .inl mm_roundsOfF)), ((mmR 48), .inl (cI, 22, .inl mm_talkingOfF)), ((mmR 49), .inl (cI, 22, .inl mm_hushOfF)), ((mmR 50), .inl (cI, 154, .inl mm_rowOfF)), ((mmR 52), .inl (cI, 22, .inl mm_keptManyF)), ((mmR 51), .inl (cI, 132, .inl mm_talkOfF)), ((mmR 53), .inl (cI, 2640, .inl mm_keptRowF)), ((mmR 44), .inl (cI, 6, .inl mm_refusedF))] [(a_p0, .inr (12, oX12 r1 mmJ mmR)), ((mmR 45), .inl (cI, 22, .inl r2)), ((mmR 46), .inl (cI, 22, .inl r3)), ((mmR 47), .inl (cI, 22, .inl r4)), ((mmR 48), .inl (cI, 22, .inl r5)), ((mmR 49), .inl (cI, 22, .inl r6)), ((mmR 50), .inl (cI, 154, .inl r7)), ((mmR 52), .inl (cI, 22, .inl r8)), ((mmR 51), .inl (cI, 132, .inl r9)), ((mmR 53), .inl (cI, 2640, .inl r10)), ((mmR 44), .inl (cI, 6, .inl r11))] (some (.int r0)) := by
  intro sz
  refine Met.ofW (cc := cX12_undo) (maxL := 1) (ret := (some .boolean)) (by decide) rfl ?_
  intro p e s m args below meth c s₁ B hml hv
  obtain ⟨rfl, hsz, hP, hK, hD0, hE, hz⟩ := hv
  have hx := B.exec
  have hb := B.bytes
  have hr := B.returns
  have hts := atoms_spec (ws := wsX12_undo) B.pre
  have hown : s.vm.findClass RX12 = some m.cls := findClass_of_methodNamed B.named
  have hlocks := B.notSynchronized
  subst hsz
  have hD := hD0.self (sz := s.heap.size)
  have hN := xq_Env.of hE hz hD0
  generalize hAe : va_A [(a_p0, .inr (12, oX12 mmI mmJ mmR)), ((mmR 45), .inl (cI, 22, .inl mm_nightOfF)), ((mmR 46), .inl (cI, 22, .inl mm_mileOfF)), ((mmR 47), .inl (cI, 22, .inl mm_roundsOfF)), ((mmR 48), .inl (cI, 22, .inl mm_talkingOfF)), ((mmR 49), .inl (cI, 22, .inl mm_hushOfF)), ((mmR 50), .inl (cI, 154, .inl mm_rowOfF)), ((mmR 52), .inl (cI, 22, .inl mm_keptManyF)), ((mmR 51), .inl (cI, 132, .inl mm_talkOfF)), ((mmR 53), .inl (cI, 2640, .inl mm_keptRowF)), ((mmR 44), .inl (cI, 6, .inl mm_refusedF))] s.heap.size = A at hD hN ⊢
  have hA : ∀ q : Nat, s.heap.size ≤ q → A q := fun q h => by rw [← hAe]; exact Or.inr h
  clear hAe hD0
  have hS : va_S A s.heap s.heap [] := va_S.rf
  have hl := lv_entry ([.ref a_p0]) (n := 1) (Nat.le_of_ble_eq_true rfl)
  rw [lg_entry_eq]
  generalize (lg_sl ([.ref a_p0]) ++ List.replicate (1 - (lg_sl ([.ref a_p0])).length) Slot.unset).toArray = ls at hl ⊢
  have hl : lv_has ls 1 [(0, .ref a_p0)] := hl
  have hw0 := hts (.fieldLink RX12 180 "DistantVoiceModel" "undos" "I") (by decide +kernel)
  have hinX12 : ∀ w ∈ wsX120, w ∈ wsX12_undo := fun w h => List.mem_cons_of_mem _ (List.mem_append_right _ h)
  unfold fX12_undo at hf
  refine lv_aload_n hx hb dX12_undo_0 rfl (lv_at hl 0 rfl) ?_
  refine va_get (D := (dC, dI)) (ci := 12) (v := .int (mmI 55)) (C := RX12) (T := TX12) (N := 70) hx hb hts hinX12 hown hK hP 0 rfl rfl 55 (by decide) hw0 (fun _ h9 => h9) rfl dX12_undo_1 ?_
  refine lv_if_ne (tgt := 21) hx hb dX12_undo_4 (by decide) (fun c_ => ?_) (fun c_ => ?_)
  · have hf := xq_neg hf c_
    refine lv_aload_n hx hb dX12_undo_21 rfl (lv_at hl 0 rfl) ?_
    refine lv_dup hx hb dX12_undo_22 rfl ?_
    refine va_get (D := (dC, dI)) (ci := 12) (v := .int (mmI 55)) (C := RX12) (T := TX12) (N := 70) hx hb hts hinX12 hown hK hP 0 rfl rfl 55 (by decide) hw0 (fun _ h9 => h9) rfl dX12_undo_23 ?_
    refine lv_iconst (v := 1) hx hb dX12_undo_26 (by decide) ?_
    refine lv_isub hx hb dX12_undo_27 ?_
    refine va_put (D := (dC, dI)) (ci := 12) (v := .int ((mmI 55) - 1)) (ty := .int) (C := RX12) (T := TX12) (N := 70) hx hb hts hinX12 tyX12 tyX12_ok nmX12 hown hK hP hD hS 0 rfl rfl 55 (by decide) hw0 (fun _ h9 => h9) rfl (by decide +kernel) rfl rfl (Nat.le_of_ble_eq_true rfl) dX12_undo_28 (fun H locs hP hD hS => ?_)
    have hP : va_P (dC, dI) vwCl [(a_p0, .inr (12, oX12 (va_up mmI 55 ((mmI 55) - 1)) mmJ mmR)), ((mmR 45), .inl (cI, 22, .inl mm_nightOfF)), ((mmR 46), .inl (cI, 22, .inl mm_mileOfF)), ((mmR 47), .inl (cI, 22, .inl mm_roundsOfF)), ((mmR 48), .inl (cI, 22, .inl mm_talkingOfF)), ((mmR 49), .inl (cI, 22, .inl mm_hushOfF)), ((mmR 50), .inl (cI, 154, .inl mm_rowOfF)), ((mmR 52), .inl (cI, 22, .inl mm_keptManyF)), ((mmR 51), .inl (cI, 132, .inl mm_talkOfF)), ((mmR 53), .inl (cI, 2640, .inl mm_keptRowF)), ((mmR 44), .inl (cI, 6, .inl mm_refusedF))] H := hP
    have hD : va_D A [(a_p0, .inr (12, oX12 (va_up mmI 55 ((mmI 55) - 1)) mmJ mmR)), ((mmR 45), .inl (cI, 22, .inl mm_nightOfF)), ((mmR 46), .inl (cI, 22, .inl mm_mileOfF)), ((mmR 47), .inl (cI, 22, .inl mm_roundsOfF)), ((mmR 48), .inl (cI, 22, .inl mm_talkingOfF)), ((mmR 49), .inl (cI, 22, .inl mm_hushOfF)), ((mmR 50), .inl (cI, 154, .inl mm_rowOfF)), ((mmR 52), .inl (cI, 22, .inl mm_keptManyF)), ((mmR 51), .inl (cI, 132, .inl mm_talkOfF)), ((mmR 53), .inl (cI, 2640, .inl mm_keptRowF)), ((mmR 44), .inl (cI, 6, .inl mm_refusedF))] := hD
    refine lv_aload_n hx hb dX12_undo_31 rfl (lv_at hl 0 rfl) ?_
    refine lv_iconst (v := 0) hx hb dX12_undo_32 (by decide) ?_
    refine lv_aload_n hx hb dX12_undo_33 rfl (lv_at hl 0 rfl) ?_
    refine lv_aload_n hx hb dX12_undo_34 rfl (lv_at hl 0 rfl) ?_
    refine va_get (D := (dC, dI)) (ci := 12) (v := .int ((mmI 55) - 1)) (C := RX12) (T := TX12) (N := 70) hx hb hts hinX12 hown hK hP 0 rfl rfl 55 (by decide) hw0 (fun _ h9 => h9) rfl dX12_undo_35 ?_
    obtain ⟨r_1, h_2, hf⟩ := xq_bd_some hf
    refine xq_callV (As := [.int ((mmI 55) - 1)]) (rest := [.int 0, .ref a_p0]) (ci := 12) (q0 := 0) ⟨hx, hb, hml, hown, hts⟩ (kX12_slot l dC dI cI cB cJ cZ cM z ad N a_p0 ((va_up mmI 55 ((mmI 55) - 1))) mmJ mmR ((mmI 55) - 1) h_2) (cwV 1 hts gX12_undo_X12_slot rfl rfl rfl (by decide +kernel) ⟨Nat.le_of_ble_eq_true rfl, Nat.le_of_ble_eq_true rfl⟩) hN hK hP hD hS hA [0] (by decide) rfl rfl rfl rfl rfl rfl hl.1 rfl (Nat.le_of_ble_eq_true rfl) dX12_undo_38 ⟨Nat.zero_le _, Nat.zero_le _⟩ (fun H locs hP hD hS => ?_)
    have hP : va_P (dC, dI) vwCl [(a_p0, .inr (12, oX12 (va_up mmI 55 ((mmI 55) - 1)) mmJ mmR)), ((mmR 45), .inl (cI, 22, .inl mm_nightOfF)), ((mmR 46), .inl (cI, 22, .inl mm_mileOfF)), ((mmR 47), .inl (cI, 22, .inl mm_roundsOfF)), ((mmR 48), .inl (cI, 22, .inl mm_talkingOfF)), ((mmR 49), .inl (cI, 22, .inl mm_hushOfF)), ((mmR 50), .inl (cI, 154, .inl mm_rowOfF)), ((mmR 52), .inl (cI, 22, .inl mm_keptManyF)), ((mmR 51), .inl (cI, 132, .inl mm_talkOfF)), ((mmR 53), .inl (cI, 2640, .inl mm_keptRowF)), ((mmR 44), .inl (cI, 6, .inl mm_refusedF))] H := hP
    have hD : va_D A [(a_p0, .inr (12, oX12 (va_up mmI 55 ((mmI 55) - 1)) mmJ mmR)), ((mmR 45), .inl (cI, 22, .inl mm_nightOfF)), ((mmR 46), .inl (cI, 22, .inl mm_mileOfF)), ((mmR 47), .inl (cI, 22, .inl mm_roundsOfF)), ((mmR 48), .inl (cI, 22, .inl mm_talkingOfF)), ((mmR 49), .inl (cI, 22, .inl mm_hushOfF)), ((mmR 50), .inl (cI, 154, .inl mm_rowOfF)), ((mmR 52), .inl (cI, 22, .inl mm_keptManyF)), ((mmR 51), .inl (cI, 132, .inl mm_talkOfF)), ((mmR 53), .inl (cI, 2640, .inl mm_keptRowF)), ((mmR 44), .inl (cI, 6, .inl mm_refusedF))] := hD
    refine W.eq (g2 := F0 m 41 ls [.int r_1, .int 0, .ref a_p0]) rfl ?_
    obtain ⟨⟨r_3_0, r_3_1, r_3_2, r_3_3, r_3_4, r_3_5, r_3_6, r_3_7, r_3_8⟩, h_4, hf⟩ := xq_bd_some hf
    refine xq_callV (As := [.int 0, .int r_1]) (rest := []) (ci := 12) (q0 := 0) ⟨hx, hb, hml, hown, hts⟩ (kX12_copies l dC dI cI cB cJ cZ cM z ad N a_p0 ((va_up mmI 55 ((mmI 55) - 1))) mmJ mmR mm_nightOfF mm_mileOfF mm_roundsOfF mm_talkingOfF mm_hushOfF mm_rowOfF mm_keptManyF mm_talkOfF mm_keptRowF 0 r_1 h_4) (cwV 2 hts gX12_undo_X12_copies rfl rfl rfl (by decide +kernel) ⟨Nat.le_of_ble_eq_true rfl, Nat.le_of_ble_eq_true rfl⟩) hN hK hP hD hS hA [0, 1, 2, 3, 4, 5, 6, 7, 8, 9] (by decide) rfl rfl rfl rfl rfl rfl hl.1 rfl (Nat.le_of_ble_eq_true rfl) dX12_undo_41 ⟨Nat.zero_le _, Nat.zero_le _⟩ (fun H locs hP hD hS => ?_)
    have hP : va_P (dC, dI) vwCl [(a_p0, .inr (12, oX12 (va_up mmI 55 ((mmI 55) - 1)) mmJ mmR)), ((mmR 45), .inl (cI, 22, .inl r_3_0)), ((mmR 46), .inl (cI, 22, .inl r_3_1)), ((mmR 47), .inl (cI, 22, .inl r_3_2)), ((mmR 48), .inl (cI, 22, .inl r_3_3)), ((mmR 49), .inl (cI, 22, .inl r_3_4)), ((mmR 50), .inl (cI, 154, .inl r_3_5)), ((mmR 52), .inl (cI, 22, .inl r_3_6)), ((mmR 51), .inl (cI, 132, .inl r_3_7)), ((mmR 53), .inl (cI, 2640, .inl r_3_8)), ((mmR 44), .inl (cI, 6, .inl mm_refusedF))] H := hP
    have hD : va_D A [(a_p0, .inr (12, oX12 (va_up mmI 55 ((mmI 55) - 1)) mmJ mmR)), ((mmR 45), .inl (cI, 22, .inl r_3_0)), ((mmR 46), .inl (cI, 22, .inl r_3_1)), ((mmR 47), .inl (cI, 22, .inl r_3_2)), ((mmR 48), .inl (cI, 22, .inl r_3_3)), ((mmR 49), .inl (cI, 22, .inl r_3_4)), ((mmR 50), .inl (cI, 154, .inl r_3_5)), ((mmR 52), .inl (cI, 22, .inl r_3_6)), ((mmR 51), .inl (cI, 132, .inl r_3_7)), ((mmR 53), .inl (cI, 2640, .inl r_3_8)), ((mmR 44), .inl (cI, 6, .inl mm_refusedF))] := hD
    refine W.eq (g2 := F0 m 44 ls []) rfl ?_
    refine lv_iconst (v := 1) hx hb dX12_undo_44 (by decide) ?_
    have e9 := Option.some.inj hf
    have e9_0 : 1 = r0 := congrArg (fun t => t.1) e9
    have e9_1 : (va_up mmI 55 ((mmI 55) - 1)) = r1 := congrArg (fun t => t.2.1) e9
    have e9_2 : r_3_0 = r2 := congrArg (fun t => t.2.2.1) e9
    have e9_3 : r_3_1 = r3 := congrArg (fun t => t.2.2.2.1) e9
    have e9_4 : r_3_2 = r4 := congrArg (fun t => t.2.2.2.2.1) e9
    have e9_5 : r_3_3 = r5 := congrArg (fun t => t.2.2.2.2.2.1) e9
    have e9_6 : r_3_4 = r6 := congrArg (fun t => t.2.2.2.2.2.2.1) e9
    have e9_7 : r_3_5 = r7 := congrArg (fun t => t.2.2.2.2.2.2.2.1) e9
    have e9_8 : r_3_6 = r8 := congrArg (fun t => t.2.2.2.2.2.2.2.2.1) e9
    have e9_9 : r_3_7 = r9 := congrArg (fun t => t.2.2.2.2.2.2.2.2.2.1) e9
    have e9_10 : r_3_8 = r10 := congrArg (fun t => t.2.2.2.2.2.2.2.2.2.2.1) e9
    have e9_11 : mm_refusedF = r11 := congrArg (fun t => t.2.2.2.2.2.2.2.2.2.2.2) e9
    clear e9 hf
    subst e9_0
    subst e9_1
    subst e9_2
    subst e9_3
    subst e9_4
    subst e9_5
    subst e9_6
    subst e9_7
    subst e9_8
    subst e9_9
    subst e9_10
    subst e9_11
    exact xq_zret hx hb hr (by decide +kernel) hlocks hK hP hD hS dX12_undo_45
  · have hf := xq_pos hf c_
    refine lv_aload_n hx hb dX12_undo_7 rfl (lv_at hl 0 rfl) ?_
    refine lv_iconst (v := 4) hx hb dX12_undo_8 (by decide) ?_
    obtain ⟨⟨r_5_0, r_5_1⟩, h_6, hf⟩ := xq_bd_some hf
    refine xq_callV (As := [.int 4]) (rest := []) (ci := 12) (q0 := 0) ⟨hx, hb, hml, hown, hts⟩ (kX12_refuses l dC dI cI cB cJ cZ cM z ad N a_p0 mmI mmJ mmR mm_refusedF 4 h_6) (cwV 1 hts gX12_undo_X12_refuses rfl rfl rfl (by decide +kernel) ⟨Nat.le_of_ble_eq_true rfl, Nat.le_of_ble_eq_true rfl⟩) hN hK hP hD hS hA [0, 10] (by decide) rfl rfl rfl rfl rfl rfl hl.1 rfl (Nat.le_of_ble_eq_true rfl) dX12_undo_9 ⟨Nat.zero_le _, Nat.zero_le _⟩ (fun H locs hP hD hS => ?_)
    have hP : va_P (dC, dI) vwCl [(a_p0, .inr (12, oX12 mmI mmJ mmR)), ((mmR 45), .inl (cI, 22, .inl mm_nightOfF)), ((mmR 46), .inl (cI, 22, .inl mm_mileOfF)), ((mmR 47), .inl (cI, 22, .inl mm_roundsOfF)), ((mmR 48), .inl (cI, 22, .inl mm_talkingOfF)), ((mmR 49), .inl (cI, 22, .inl mm_hushOfF)), ((mmR 50), .inl (cI, 154, .inl mm_rowOfF)), ((mmR 52), .inl (cI, 22, .inl mm_keptManyF)), ((mmR 51), .inl (cI, 132, .inl mm_talkOfF)), ((mmR 53), .inl (cI, 2640, .inl mm_keptRowF)), ((mmR 44), .inl (cI, 6, .inl r_5_1))] H := hP
    have hD : va_D A [(a_p0, .inr (12, oX12 mmI mmJ mmR)), ((mmR 45), .inl (cI, 22, .inl mm_nightOfF)), ((mmR 46), .inl (cI, 22, .inl mm_mileOfF)), ((mmR 47), .inl (cI, 22, .inl mm_roundsOfF)), ((mmR 48), .inl (cI, 22, .inl mm_talkingOfF)), ((mmR 49), .inl (cI, 22, .inl mm_hushOfF)), ((mmR 50), .inl (cI, 154, .inl mm_rowOfF)), ((mmR 52), .inl (cI, 22, .inl mm_keptManyF)), ((mmR 51), .inl (cI, 132, .inl mm_talkOfF)), ((mmR 53), .inl (cI, 2640, .inl mm_keptRowF)), ((mmR 44), .inl (cI, 6, .inl r_5_1))] := hD
    refine W.eq (g2 := F0 m 12 ls [.int r_5_0]) rfl ?_
    refine lv_if_lt (tgt := 19) hx hb dX12_undo_12 (by decide) (fun c_ => ?_) (fun c_ => ?_)
    · have hf := xq_pos hf c_
      refine lv_iconst (v := 0) hx hb dX12_undo_19 (by decide) ?_
      have e9 := Option.some.inj hf
      have e9_0 : 0 = r0 := congrArg (fun t => t.1) e9
      have e9_1 : mmI = r1 := congrArg (fun t => t.2.1) e9
      have e9_2 : mm_nightOfF = r2 := congrArg (fun t => t.2.2.1) e9
      have e9_3 : mm_mileOfF = r3 := congrArg (fun t => t.2.2.2.1) e9
      have e9_4 : mm_roundsOfF = r4 := congrArg (fun t => t.2.2.2.2.1) e9
      have e9_5 : mm_talkingOfF = r5 := congrArg (fun t => t.2.2.2.2.2.1) e9
      have e9_6 : mm_hushOfF = r6 := congrArg (fun t => t.2.2.2.2.2.2.1) e9
      have e9_7 : mm_rowOfF = r7 := congrArg (fun t => t.2.2.2.2.2.2.2.1) e9
      have e9_8 : mm_keptManyF = r8 := congrArg (fun t => t.2.2.2.2.2.2.2.2.1) e9
      have e9_9 : mm_talkOfF = r9 := congrArg (fun t => t.2.2.2.2.2.2.2.2.2.1) e9
      have e9_10 : mm_keptRowF = r10 := congrArg (fun t => t.2.2.2.2.2.2.2.2.2.2.1) e9
      have e9_11 : r_5_1 = r11 := congrArg (fun t => t.2.2.2.2.2.2.2.2.2.2.2) e9
      clear e9 hf
      subst e9_0
      subst e9_1
      subst e9_2
      subst e9_3
      subst e9_4
      subst e9_5
      subst e9_6
      subst e9_7
      subst e9_8
      subst e9_9
      subst e9_10
      subst e9_11
      exact xq_zret hx hb hr (by decide +kernel) hlocks hK hP hD hS dX12_undo_20
    · have hf := xq_neg hf c_
      refine lv_iconst (v := 1) hx hb dX12_undo_15 (by decide) ?_
      refine lv_goto (tgt := 20) hx hb dX12_undo_16 (by decide) ?_
      have e9 := Option.some.inj hf
      have e9_0 : 1 = r0 := congrArg (fun t => t.1) e9
      have e9_1 : mmI = r1 := congrArg (fun t => t.2.1) e9
      have e9_2 : mm_nightOfF = r2 := congrArg (fun t => t.2.2.1) e9
      have e9_3 : mm_mileOfF = r3 := congrArg (fun t => t.2.2.2.1) e9
      have e9_4 : mm_roundsOfF = r4 := congrArg (fun t => t.2.2.2.2.1) e9
      have e9_5 : mm_talkingOfF = r5 := congrArg (fun t => t.2.2.2.2.2.1) e9
      have e9_6 : mm_hushOfF = r6 := congrArg (fun t => t.2.2.2.2.2.2.1) e9
      have e9_7 : mm_rowOfF = r7 := congrArg (fun t => t.2.2.2.2.2.2.2.1) e9
      have e9_8 : mm_keptManyF = r8 := congrArg (fun t => t.2.2.2.2.2.2.2.2.1) e9
      have e9_9 : mm_talkOfF = r9 := congrArg (fun t => t.2.2.2.2.2.2.2.2.2.1) e9
      have e9_10 : mm_keptRowF = r10 := congrArg (fun t => t.2.2.2.2.2.2.2.2.2.2.1) e9
      have e9_11 : r_5_1 = r11 := congrArg (fun t => t.2.2.2.2.2.2.2.2.2.2.2) e9
      clear e9 hf
      subst e9_0
      subst e9_1
      subst e9_2
      subst e9_3
      subst e9_4
      subst e9_5
      subst e9_6
      subst e9_7
      subst e9_8
      subst e9_9
      subst e9_10
      subst e9_11
      exact xq_zret hx hb hr (by decide +kernel) hlocks hK hP hD hS dX12_undo_20
