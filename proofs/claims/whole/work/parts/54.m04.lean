def dsX12_within_0 : List (Nat × Instr × Nat) := [(0, (.lload_n 0, 1)), (1, (.ldc2_w 397, 3)), (4, (.lcmp, 1)), (5, (.ifCond .le 9, 3)), (8, (.ldc2_w 397, 3)), (11, (.goto 18, 3)), (14, (.lload_n 0, 1)), (15, (.ldc2_w 399, 3)), (18, (.lcmp, 1)), (19, (.ifCond .ge 9, 3)), (22, (.ldc2_w 399, 3)), (25, (.goto 4, 3)), (28, (.lload_n 0, 1)), (29, (.lreturn, 1))]
theorem dsX12_within_0_ok : (dsX12_within_0.all fun q => decide (decode cX12_within q.1 = .ok q.2)) = true := by decide +kernel
theorem dX12_within_0 : decode cX12_within 0 = .ok (.lload_n 0, 1) := of_decide_eq_true (List.all_eq_true.mp dsX12_within_0_ok (0, (.lload_n 0, 1)) (List.mem_of_getElem? (i := 0) rfl))
theorem dX12_within_1 : decode cX12_within 1 = .ok (.ldc2_w 397, 3) := of_decide_eq_true (List.all_eq_true.mp dsX12_within_0_ok (1, (.ldc2_w 397, 3)) (List.mem_of_getElem? (i := 1) rfl))
theorem dX12_within_4 : decode cX12_within 4 = .ok (.lcmp, 1) := of_decide_eq_true (List.all_eq_true.mp dsX12_within_0_ok (4, (.lcmp, 1)) (List.mem_of_getElem? (i := 2) rfl))
theorem dX12_within_5 : decode cX12_within 5 = .ok (.ifCond .le 9, 3) := of_decide_eq_true (List.all_eq_true.mp dsX12_within_0_ok (5, (.ifCond .le 9, 3)) (List.mem_of_getElem? (i := 3) rfl))
theorem dX12_within_8 : decode cX12_within 8 = .ok (.ldc2_w 397, 3) := of_decide_eq_true (List.all_eq_true.mp dsX12_within_0_ok (8, (.ldc2_w 397, 3)) (List.mem_of_getElem? (i := 4) rfl))
theorem dX12_within_11 : decode cX12_within 11 = .ok (.goto 18, 3) := of_decide_eq_true (List.all_eq_true.mp dsX12_within_0_ok (11, (.goto 18, 3)) (List.mem_of_getElem? (i := 5) rfl))
theorem dX12_within_14 : decode cX12_within 14 = .ok (.lload_n 0, 1) := of_decide_eq_true (List.all_eq_true.mp dsX12_within_0_ok (14, (.lload_n 0, 1)) (List.mem_of_getElem? (i := 6) rfl))
theorem dX12_within_15 : decode cX12_within 15 = .ok (.ldc2_w 399, 3) := of_decide_eq_true (List.all_eq_true.mp dsX12_within_0_ok (15, (.ldc2_w 399, 3)) (List.mem_of_getElem? (i := 7) rfl))
theorem dX12_within_18 : decode cX12_within 18 = .ok (.lcmp, 1) := of_decide_eq_true (List.all_eq_true.mp dsX12_within_0_ok (18, (.lcmp, 1)) (List.mem_of_getElem? (i := 8) rfl))
theorem dX12_within_19 : decode cX12_within 19 = .ok (.ifCond .ge 9, 3) := of_decide_eq_true (List.all_eq_true.mp dsX12_within_0_ok (19, (.ifCond .ge 9, 3)) (List.mem_of_getElem? (i := 9) rfl))
theorem dX12_within_22 : decode cX12_within 22 = .ok (.ldc2_w 399, 3) := of_decide_eq_true (List.all_eq_true.mp dsX12_within_0_ok (22, (.ldc2_w 399, 3)) (List.mem_of_getElem? (i := 10) rfl))
theorem dX12_within_25 : decode cX12_within 25 = .ok (.goto 4, 3) := of_decide_eq_true (List.all_eq_true.mp dsX12_within_0_ok (25, (.goto 4, 3)) (List.mem_of_getElem? (i := 11) rfl))
theorem dX12_within_28 : decode cX12_within 28 = .ok (.lload_n 0, 1) := of_decide_eq_true (List.all_eq_true.mp dsX12_within_0_ok (28, (.lload_n 0, 1)) (List.mem_of_getElem? (i := 12) rfl))
theorem dX12_within_29 : decode cX12_within 29 = .ok (.lreturn, 1) := of_decide_eq_true (List.all_eq_true.mp dsX12_within_0_ok (29, (.lreturn, 1)) (List.mem_of_getElem? (i := 13) rfl))
def fX12_within (N : Nat)   (p0 : Int64) : Option (Int64) :=
  (if (lg_cmp p0 1000000) ≤ 0 then (if 0 ≤ (lg_cmp p0 ((-1000000))) then some p0 else some ((-1000000))) else some 1000000)
set_option maxHeartbeats 4000000 in
set_option maxRecDepth 100000 in
theorem kX12_within (l : Launch) (dC : Nat → ClassId) (dI : Nat → Nat → Nat) (cI cB cJ cZ cM : ClassId) (z : Nat) (ad : Nat → Nat) (N : Nat) (p0 : Int64) {r0 : Int64} (hf : fX12_within N p0 = some r0) : xq_Ct l yX12_within wsX12_within { frames := 0, cells := 0, slots := 0, locals := 0 } (dC, dI) vwCl (xq_tys cI cB cJ cZ cM) z ad [.long p0] [] [] (some (.long r0)) := by
  intro sz
  refine Met.ofW (cc := cX12_within) (maxL := 2) (ret := (some .long)) (by decide) rfl ?_
  intro p e s m args below meth c s₁ B hml hv
  obtain ⟨rfl, hsz, hP, hK, hD0, hE, hz⟩ := hv
  have hx := B.exec
  have hb := B.bytes
  have hr := B.returns
  have hts := atoms_spec (ws := wsX12_within) B.pre
  have hown : s.vm.findClass RX12 = some m.cls := findClass_of_methodNamed B.named
  have hlocks := B.notSynchronized
  subst hsz
  have hD := hD0.self (sz := s.heap.size)
  have hN := xq_Env.of hE hz hD0
  generalize hAe : va_A [] s.heap.size = A at hD hN ⊢
  have hA : ∀ q : Nat, s.heap.size ≤ q → A q := fun q h => by rw [← hAe]; exact Or.inr h
  clear hAe hD0
  have hS : va_S A s.heap s.heap [] := va_S.rf
  have hl := lv_entry ([.long p0]) (n := 2) (Nat.le_of_ble_eq_true rfl)
  rw [lg_entry_eq]
  generalize (lg_sl ([.long p0]) ++ List.replicate (2 - (lg_sl ([.long p0])).length) Slot.unset).toArray = ls at hl ⊢
  have hl : lv_has ls 2 [(0, .long p0)] := hl
  have hw0 := hts (.constantLong RX12 397 (1000000)) (by decide +kernel)
  have hw1 := hts (.constantLong RX12 399 (-1000000)) (by decide +kernel)
  unfold fX12_within at hf
  refine lv_lload_n hx hb dX12_within_0 rfl (lv_at hl 0 rfl) ?_
  refine lv_ldc2 (v := 1000000) hx hb hown hw0 dX12_within_1 ?_
  refine W.lcmp hx hb dX12_within_4 ?_
  refine lv_if_le (tgt := 14) hx hb dX12_within_5 (by decide) (fun c_ => ?_) (fun c_ => ?_)
  · have hf := xq_pos hf c_
    refine lv_lload_n hx hb dX12_within_14 rfl (lv_at hl 0 rfl) ?_
    refine lv_ldc2 (v := (-1000000)) hx hb hown hw1 dX12_within_15 ?_
    refine W.lcmp hx hb dX12_within_18 ?_
    refine lv_if_ge (tgt := 28) hx hb dX12_within_19 (by decide) (fun c_ => ?_) (fun c_ => ?_)
    · have hf := xq_pos hf c_
      refine lv_lload_n hx hb dX12_within_28 rfl (lv_at hl 0 rfl) ?_
      have e9_0 : p0 = r0 := Option.some.inj hf
      subst e9_0
      exact xq_lret hx hb hr hlocks hK hP hD hS dX12_within_29
    · have hf := xq_neg hf c_
      refine lv_ldc2 (v := (-1000000)) hx hb hown hw1 dX12_within_22 ?_
      refine lv_goto (tgt := 29) hx hb dX12_within_25 (by decide) ?_
      have e9_0 : (-1000000) = r0 := Option.some.inj hf
      subst e9_0
      exact xq_lret hx hb hr hlocks hK hP hD hS dX12_within_29
  · have hf := xq_neg hf c_
    refine lv_ldc2 (v := 1000000) hx hb hown hw0 dX12_within_8 ?_
    refine lv_goto (tgt := 29) hx hb dX12_within_11 (by decide) ?_
    have e9_0 : 1000000 = r0 := Option.some.inj hf
    subst e9_0
    exact xq_lret hx hb hr hlocks hK hP hD hS dX12_within_29
def dsX12_floor_0 : List (Nat × Instr × Nat) := [(0, (.lload_n 2, 1)), (1, (.lconst 0, 1)), (2, (.lcmp, 1)), (3, (.ifCond .ne 5, 3)), (6, (.lconst 0, 1)), (7, (.lreturn, 1)), (8, (.lload_n 0, 1)), (9, (.lload_n 2, 1)), (10, (.ldiv, 1)), (11, (.lstore 4, 2)), (13, (.lload_n 0, 1)), (14, (.lload_n 2, 1)), (15, (.lrem, 1)), (16, (.lconst 0, 1)), (17, (.lcmp, 1)), (18, (.ifCond .eq 35, 3)), (21, (.lload_n 0, 1)), (22, (.lconst 0, 1)), (23, (.lcmp, 1)), (24, (.ifCond .ge 7, 3)), (27, (.iconst 1, 1)), (28, (.goto 4, 3)), (31, (.iconst 0, 1)), (32, (.lload_n 2, 1)), (33, (.lconst 0, 1)), (34, (.lcmp, 1)), (35, (.ifCond .ge 7, 3)), (38, (.iconst 1, 1)), (39, (.goto 4, 3)), (42, (.iconst 0, 1)), (43, (.if_icmp .eq 10, 3)), (46, (.lload 4, 2)), (48, (.lconst 1, 1)), (49, (.lsub, 1)), (50, (.goto 5, 3)), (53, (.lload 4, 2)), (55, (.lreturn, 1))]
theorem dsX12_floor_0_ok : (dsX12_floor_0.all fun q => decide (decode cX12_floor q.1 = .ok q.2)) = true := by decide +kernel
theorem dX12_floor_0 : decode cX12_floor 0 = .ok (.lload_n 2, 1) := of_decide_eq_true (List.all_eq_true.mp dsX12_floor_0_ok (0, (.lload_n 2, 1)) (List.mem_of_getElem? (i := 0) rfl))
theorem dX12_floor_1 : decode cX12_floor 1 = .ok (.lconst 0, 1) := of_decide_eq_true (List.all_eq_true.mp dsX12_floor_0_ok (1, (.lconst 0, 1)) (List.mem_of_getElem? (i := 1) rfl))
theorem dX12_floor_2 : decode cX12_floor 2 = .ok (.lcmp, 1) := of_decide_eq_true (List.all_eq_true.mp dsX12_floor_0_ok (2, (.lcmp, 1)) (List.mem_of_getElem? (i := 2) rfl))
theorem dX12_floor_3 : decode cX12_floor 3 = .ok (.ifCond .ne 5, 3) := of_decide_eq_true (List.all_eq_true.mp dsX12_floor_0_ok (3, (.ifCond .ne 5, 3)) (List.mem_of_getElem? (i := 3) rfl))
theorem dX12_floor_6 : decode cX12_floor 6 = .ok (.lconst 0, 1) := of_decide_eq_true (List.all_eq_true.mp dsX12_floor_0_ok (6, (.lconst 0, 1)) (List.mem_of_getElem? (i := 4) rfl))
theorem dX12_floor_7 : decode cX12_floor 7 = .ok (.lreturn, 1) := of_decide_eq_true (List.all_eq_true.mp dsX12_floor_0_ok (7, (.lreturn, 1)) (List.mem_of_getElem? (i := 5) rfl))
theorem dX12_floor_8 : decode cX12_floor 8 = .ok (.lload_n 0, 1) := of_decide_eq_true (List.all_eq_true.mp dsX12_floor_0_ok (8, (.lload_n 0, 1)) (List.mem_of_getElem? (i := 6) rfl))
theorem dX12_floor_9 : decode cX12_floor 9 = .ok (.lload_n 2, 1) := of_decide_eq_true (List.all_eq_true.mp dsX12_floor_0_ok (9, (.lload_n 2, 1)) (List.mem_of_getElem? (i := 7) rfl))
theorem dX12_floor_10 : decode cX12_floor 10 = .ok (.ldiv, 1) := of_decide_eq_true (List.all_eq_true.mp dsX12_floor_0_ok (10, (.ldiv, 1)) (List.mem_of_getElem? (i := 8) rfl))
theorem dX12_floor_11 : decode cX12_floor 11 = .ok (.lstore 4, 2) := of_decide_eq_true (List.all_eq_true.mp dsX12_floor_0_ok (11, (.lstore 4, 2)) (List.mem_of_getElem? (i := 9) rfl))
theorem dX12_floor_13 : decode cX12_floor 13 = .ok (.lload_n 0, 1) := of_decide_eq_true (List.all_eq_true.mp dsX12_floor_0_ok (13, (.lload_n 0, 1)) (List.mem_of_getElem? (i := 10) rfl))
theorem dX12_floor_14 : decode cX12_floor 14 = .ok (.lload_n 2, 1) := of_decide_eq_true (List.all_eq_true.mp dsX12_floor_0_ok (14, (.lload_n 2, 1)) (List.mem_of_getElem? (i := 11) rfl))
theorem dX12_floor_15 : decode cX12_floor 15 = .ok (.lrem, 1) := of_decide_eq_true (List.all_eq_true.mp dsX12_floor_0_ok (15, (.lrem, 1)) (List.mem_of_getElem? (i := 12) rfl))
theorem dX12_floor_16 : decode cX12_floor 16 = .ok (.lconst 0, 1) := of_decide_eq_true (List.all_eq_true.mp dsX12_floor_0_ok (16, (.lconst 0, 1)) (List.mem_of_getElem? (i := 13) rfl))
theorem dX12_floor_17 : decode cX12_floor 17 = .ok (.lcmp, 1) := of_decide_eq_true (List.all_eq_true.mp dsX12_floor_0_ok (17, (.lcmp, 1)) (List.mem_of_getElem? (i := 14) rfl))
theorem dX12_floor_18 : decode cX12_floor 18 = .ok (.ifCond .eq 35, 3) := of_decide_eq_true (List.all_eq_true.mp dsX12_floor_0_ok (18, (.ifCond .eq 35, 3)) (List.mem_of_getElem? (i := 15) rfl))
theorem dX12_floor_21 : decode cX12_floor 21 = .ok (.lload_n 0, 1) := of_decide_eq_true (List.all_eq_true.mp dsX12_floor_0_ok (21, (.lload_n 0, 1)) (List.mem_of_getElem? (i := 16) rfl))
theorem dX12_floor_22 : decode cX12_floor 22 = .ok (.lconst 0, 1) := of_decide_eq_true (List.all_eq_true.mp dsX12_floor_0_ok (22, (.lconst 0, 1)) (List.mem_of_getElem? (i := 17) rfl))
theorem dX12_floor_23 : decode cX12_floor 23 = .ok (.lcmp, 1) := of_decide_eq_true (List.all_eq_true.mp dsX12_floor_0_ok (23, (.lcmp, 1)) (List.mem_of_getElem? (i := 18) rfl))
theorem dX12_floor_24 : decode cX12_floor 24 = .ok (.ifCond .ge 7, 3) := of_decide_eq_true (List.all_eq_true.mp dsX12_floor_0_ok (24, (.ifCond .ge 7, 3)) (List.mem_of_getElem? (i := 19) rfl))
theorem dX12_floor_27 : decode cX12_floor 27 = .ok (.iconst 1, 1) := of_decide_eq_true (List.all_eq_true.mp dsX12_floor_0_ok (27, (.iconst 1, 1)) (List.mem_of_getElem? (i := 20) rfl))
theorem dX12_floor_28 : decode cX12_floor 28 = .ok (.goto 4, 3) := of_decide_eq_true (List.all_eq_true.mp dsX12_floor_0_ok (28, (.goto 4, 3)) (List.mem_of_getElem? (i := 21) rfl))
theorem dX12_floor_31 : decode cX12_floor 31 = .ok (.iconst 0, 1) := of_decide_eq_true (List.all_eq_true.mp dsX12_floor_0_ok (31, (.iconst 0, 1)) (List.mem_of_getElem? (i := 22) rfl))
theorem dX12_floor_32 : decode cX12_floor 32 = .ok (.lload_n 2, 1) := of_decide_eq_true (List.all_eq_true.mp dsX12_floor_0_ok (32, (.lload_n 2, 1)) (List.mem_of_getElem? (i := 23) rfl))
theorem dX12_floor_33 : decode cX12_floor 33 = .ok (.lconst 0, 1) := of_decide_eq_true (List.all_eq_true.mp dsX12_floor_0_ok (33, (.lconst 0, 1)) (List.mem_of_getElem? (i := 24) rfl))
theorem dX12_floor_34 : decode cX12_floor 34 = .ok (.lcmp, 1) := of_decide_eq_true (List.all_eq_true.mp dsX12_floor_0_ok (34, (.lcmp, 1)) (List.mem_of_getElem? (i := 25) rfl))
theorem dX12_floor_35 : decode cX12_floor 35 = .ok (.ifCond .ge 7, 3) := of_decide_eq_true (List.all_eq_true.mp dsX12_floor_0_ok (35, (.ifCond .ge 7, 3)) (List.mem_of_getElem? (i := 26) rfl))
theorem dX12_floor_38 : decode cX12_floor 38 = .ok (.iconst 1, 1) := of_decide_eq_true (List.all_eq_true.mp dsX12_floor_0_ok (38, (.iconst 1, 1)) (List.mem_of_getElem? (i := 27) rfl))
theorem dX12_floor_39 : decode cX12_floor 39 = .ok (.goto 4, 3) := of_decide_eq_true (List.all_eq_true.mp dsX12_floor_0_ok (39, (.goto 4, 3)) (List.mem_of_getElem? (i := 28) rfl))
theorem dX12_floor_42 : decode cX12_floor 42 = .ok (.iconst 0, 1) := of_decide_eq_true (List.all_eq_true.mp dsX12_floor_0_ok (42, (.iconst 0, 1)) (List.mem_of_getElem? (i := 29) rfl))
theorem dX12_floor_43 : decode cX12_floor 43 = .ok (.if_icmp .eq 10, 3) := of_decide_eq_true (List.all_eq_true.mp dsX12_floor_0_ok (43, (.if_icmp .eq 10, 3)) (List.mem_of_getElem? (i := 30) rfl))
theorem dX12_floor_46 : decode cX12_floor 46 = .ok (.lload 4, 2) := of_decide_eq_true (List.all_eq_true.mp dsX12_floor_0_ok (46, (.lload 4, 2)) (List.mem_of_getElem? (i := 31) rfl))
theorem dX12_floor_48 : decode cX12_floor 48 = .ok (.lconst 1, 1) := of_decide_eq_true (List.all_eq_true.mp dsX12_floor_0_ok (48, (.lconst 1, 1)) (List.mem_of_getElem? (i := 32) rfl))
theorem dX12_floor_49 : decode cX12_floor 49 = .ok (.lsub, 1) := of_decide_eq_true (List.all_eq_true.mp dsX12_floor_0_ok (49, (.lsub, 1)) (List.mem_of_getElem? (i := 33) rfl))
theorem dX12_floor_50 : decode cX12_floor 50 = .ok (.goto 5, 3) := of_decide_eq_true (List.all_eq_true.mp dsX12_floor_0_ok (50, (.goto 5, 3)) (List.mem_of_getElem? (i := 34) rfl))
theorem dX12_floor_53 : decode cX12_floor 53 = .ok (.lload 4, 2) := of_decide_eq_true (List.all_eq_true.mp dsX12_floor_0_ok (53, (.lload 4, 2)) (List.mem_of_getElem? (i := 35) rfl))
theorem dX12_floor_55 : decode cX12_floor 55 = .ok (.lreturn, 1) := of_decide_eq_true (List.all_eq_true.mp dsX12_floor_0_ok (55, (.lreturn, 1)) (List.mem_of_getElem? (i := 36) rfl))
def fX12_floor_b43 (N : Nat)    : (Int64 × Int32 × Int32) → Option (Int64) :=
  fun (x4_43, y0_43, y1_43) => (if y0_43 = y1_43 then some x4_43 else some (x4_43 - 1))
def fX12_floor_b32 (N : Nat)    : (Int64 × Int64 × Int32) → Option (Int64) :=
  fun (x2_32, x4_32, y0_32) => (if 0 ≤ (lg_cmp x2_32 0) then fX12_floor_b43 N (x4_32, y0_32, 0) else fX12_floor_b43 N (x4_32, y0_32, 1))
def fX12_floor (N : Nat)   (p0 : Int64) (p1 : Int64) : Option (Int64) :=
  (if (lg_cmp p1 0) = 0 then some 0 else (xq_bd (xq_dvL p0 p1) fun v_1 => (xq_bd (xq_rmL p0 p1) fun v_2 => (if (lg_cmp v_2 0) = 0 then some v_1 else (if 0 ≤ (lg_cmp p0 0) then fX12_floor_b32 N (p1, v_1, 0) else fX12_floor_b32 N (p1, v_1, 1))))))
set_option maxHeartbeats 4000000 in
set_option maxRecDepth 100000 in
theorem kX12_floor (l : Launch) (dC : Nat → ClassId) (dI : Nat → Nat → Nat) (cI cB cJ cZ cM : ClassId) (z : Nat) (ad : Nat → Nat) (N : Nat) (p0 : Int64) (p1 : Int64) {r0 : Int64} (hf : fX12_floor N p0 p1 = some r0) : xq_Ct l yX12_floor wsX12_floor { frames := 0, cells := 0, slots := 0, locals := 0 } (dC, dI) vwCl (xq_tys cI cB cJ cZ cM) z ad [.long p0, .long p1] [] [] (some (.long r0)) := by
  intro sz
  refine Met.ofW (cc := cX12_floor) (maxL := 6) (ret := (some .long)) (by decide) rfl ?_
  intro p e s m args below meth c s₁ B hml hv
  obtain ⟨rfl, hsz, hP, hK, hD0, hE, hz⟩ := hv
  have hx := B.exec
  have hb := B.bytes
  have hr := B.returns
  have hts := atoms_spec (ws := wsX12_floor) B.pre
  have hown : s.vm.findClass RX12 = some m.cls := findClass_of_methodNamed B.named
  have hlocks := B.notSynchronized
  subst hsz
  have hD := hD0.self (sz := s.heap.size)
  have hN := xq_Env.of hE hz hD0
  generalize hAe : va_A [] s.heap.size = A at hD hN ⊢
  have hA : ∀ q : Nat, s.heap.size ≤ q → A q := fun q h => by rw [← hAe]; exact Or.inr h
  clear hAe hD0
  have hS : va_S A s.heap s.heap [] := va_S.rf
  have hl := lv_entry ([.long p0, .long p1]) (n := 6) (Nat.le_of_ble_eq_true rfl)
  rw [lg_entry_eq]
  generalize (lg_sl ([.long p0, .long p1]) ++ List.replicate (6 - (lg_sl ([.long p0, .long p1])).length) Slot.unset).toArray = ls at hl ⊢
  have hl : lv_has ls 6 [(0, .long p0), (2, .long p1)] := hl
  have b43 : ∀ (x4_43 : Int64) (y0_43 : Int32) (y1_43 : Int32) (ls : Array Slot) (H : Heap) (locs : List Loc), fX12_floor_b43 N (x4_43, y0_43, y1_43) = some r0 → va_P (dC, dI) vwCl [] H → va_D A [] → va_S A s.heap H locs → lv_has ls 6 [(4, .long x4_43)] → W p l e (headSpec wsX12_floor { frames := 0, cells := 0, slots := 0, locals := 0 }).room s m [.long p0, .long p1].toArray below meth c H locs 0 0 (MQ below (xq_Q (dC, dI) vwCl (xq_tys cI cB cJ cZ cM) A [] (some (.long r0))) [.long p0, .long p1].toArray s 0 0 A) (F0 m 43 ls [.int y1_43, .int y0_43]) := by
    intro x4_43 y0_43 y1_43 ls H locs hf hP hD hS hl
    unfold fX12_floor_b43 at hf
    refine lv_icmp_eq (tgt := 53) hx hb dX12_floor_43 (by decide) (fun c_ => ?_) (fun c_ => ?_)
    · have hf := xq_pos hf c_
      refine lv_lload hx hb dX12_floor_53 (lv_at hl 0 rfl) ?_
      have e9_0 : x4_43 = r0 := Option.some.inj hf
      subst e9_0
      exact xq_lret hx hb hr hlocks hK hP hD hS dX12_floor_55
    · have hf := xq_neg hf c_
      refine lv_lload hx hb dX12_floor_46 (lv_at hl 0 rfl) ?_
      refine lv_lconst (v := 1) hx hb dX12_floor_48 (by decide) ?_
      refine lv_lsub hx hb dX12_floor_49 ?_
      refine lv_goto (tgt := 55) hx hb dX12_floor_50 (by decide) ?_
      have e9_0 : x4_43 - 1 = r0 := Option.some.inj hf
      subst e9_0
      exact xq_lret hx hb hr hlocks hK hP hD hS dX12_floor_55
  have b32 : ∀ (x2_32 : Int64) (x4_32 : Int64) (y0_32 : Int32) (ls : Array Slot) (H : Heap) (locs : List Loc), fX12_floor_b32 N (x2_32, x4_32, y0_32) = some r0 → va_P (dC, dI) vwCl [] H → va_D A [] → va_S A s.heap H locs → lv_has ls 6 [(2, .long x2_32), (4, .long x4_32)] → W p l e (headSpec wsX12_floor { frames := 0, cells := 0, slots := 0, locals := 0 }).room s m [.long p0, .long p1].toArray below meth c H locs 0 0 (MQ below (xq_Q (dC, dI) vwCl (xq_tys cI cB cJ cZ cM) A [] (some (.long r0))) [.long p0, .long p1].toArray s 0 0 A) (F0 m 32 ls [.int y0_32]) := by
    intro x2_32 x4_32 y0_32 ls H locs hf hP hD hS hl
    unfold fX12_floor_b32 at hf
    refine lv_lload_n hx hb dX12_floor_32 rfl (lv_at hl 0 rfl) ?_
    refine lv_lconst (v := 0) hx hb dX12_floor_33 (by decide) ?_
    refine W.lcmp hx hb dX12_floor_34 ?_
    refine lv_if_ge (tgt := 42) hx hb dX12_floor_35 (by decide) (fun c_ => ?_) (fun c_ => ?_)
    · have hf := xq_pos hf c_
      refine lv_iconst (v := 0) hx hb dX12_floor_42 (by decide) ?_
      exact b43 x4_32 y0_32 0 _ _ _ hf hP hD hS (lv_sub hl [1] rfl)
    · have hf := xq_neg hf c_
      refine lv_iconst (v := 1) hx hb dX12_floor_38 (by decide) ?_
      refine lv_goto (tgt := 43) hx hb dX12_floor_39 (by decide) ?_
      exact b43 x4_32 y0_32 1 _ _ _ hf hP hD hS (lv_sub hl [1] rfl)
  unfold fX12_floor at hf
  refine lv_lload_n hx hb dX12_floor_0 rfl (lv_at hl 1 rfl) ?_
  refine lv_lconst (v := 0) hx hb dX12_floor_1 (by decide) ?_
  refine W.lcmp hx hb dX12_floor_2 ?_
  refine lv_if_ne (tgt := 8) hx hb dX12_floor_3 (by decide) (fun c_ => ?_) (fun c_ => ?_)
  · have hf := xq_neg hf c_
    refine lv_lload_n hx hb dX12_floor_8 rfl (lv_at hl 0 rfl) ?_
    refine lv_lload_n hx hb dX12_floor_9 rfl (lv_at hl 1 rfl) ?_
    refine xq_ldiv hx hb hf dX12_floor_10 (fun v_1 hf => ?_)
    refine lv_lstore (lv' := [(4, .long v_1), (0, .long p0), (2, .long p1)]) hx hb dX12_floor_11 hl (by decide) rfl (fun ls hl => ?_)
    refine lv_lload_n hx hb dX12_floor_13 rfl (lv_at hl 1 rfl) ?_
    refine lv_lload_n hx hb dX12_floor_14 rfl (lv_at hl 2 rfl) ?_
    refine xq_lrem hx hb hf dX12_floor_15 (fun v_2 hf => ?_)
    refine lv_lconst (v := 0) hx hb dX12_floor_16 (by decide) ?_
    refine W.lcmp hx hb dX12_floor_17 ?_
    refine lv_if_eq (tgt := 53) hx hb dX12_floor_18 (by decide) (fun c_ => ?_) (fun c_ => ?_)
    · have hf := xq_pos hf c_
      refine lv_lload hx hb dX12_floor_53 (lv_at hl 0 rfl) ?_
      have e9_0 : v_1 = r0 := Option.some.inj hf
      subst e9_0
      exact xq_lret hx hb hr hlocks hK hP hD hS dX12_floor_55
    · have hf := xq_neg hf c_
      refine lv_lload_n hx hb dX12_floor_21 rfl (lv_at hl 1 rfl) ?_
      refine lv_lconst (v := 0) hx hb dX12_floor_22 (by decide) ?_
      refine W.lcmp hx hb dX12_floor_23 ?_
      refine lv_if_ge (tgt := 31) hx hb dX12_floor_24 (by decide) (fun c_ => ?_) (fun c_ => ?_)
      · have hf := xq_pos hf c_
        refine lv_iconst (v := 0) hx hb dX12_floor_31 (by decide) ?_
        exact b32 p1 v_1 0 _ _ _ hf hP hD hS (lv_sub hl [2, 0] rfl)
      · have hf := xq_neg hf c_
        refine lv_iconst (v := 1) hx hb dX12_floor_27 (by decide) ?_
        refine lv_goto (tgt := 32) hx hb dX12_floor_28 (by decide) ?_
        exact b32 p1 v_1 1 _ _ _ hf hP hD hS (lv_sub hl [2, 0] rfl)
  · have hf := xq_pos hf c_
    refine lv_lconst (v := 0) hx hb dX12_floor_6 (by decide) ?_
    have e9_0 : 0 = r0 := Option.some.inj hf
    subst e9_0
    exact xq_lret hx hb hr hlocks hK hP hD hS dX12_floor_7
set_option maxRecDepth 20000 in
theorem ggX12_two_X12_within : GoodIn wsX12_two wsX12_within := goodIn_r _ [4, 5, 6] rfl (by decide +kernel)
set_option maxRecDepth 20000 in
theorem gX12_two_X12_within : GoodIn wsX12_two (va_wsS RX12 401 yX12_within wsX12_within) := goodIn_app (goodIn_of _ (by decide +kernel)) ggX12_two_X12_within
set_option maxRecDepth 20000 in
theorem ggX12_two_X12_floor : GoodIn wsX12_two wsX12_floor := goodIn_r _ [9] rfl (by decide +kernel)
set_option maxRecDepth 20000 in
theorem gX12_two_X12_floor : GoodIn wsX12_two (va_wsS RX12 405 yX12_floor wsX12_floor) := goodIn_app (goodIn_of _ (by decide +kernel)) ggX12_two_X12_floor
def dsX12_two_0 : List (Nat × Instr × Nat) := [(0, (.iload_n 0, 1)), (1, (.tableswitch 176 31 41 #[59, 66, 73, 80, 89, 112, 124, 136, 148, 160, 172], 59)), (60, (.lload_n 1, 1)), (61, (.lload_n 3, 1)), (62, (.ladd, 1)), (63, (.invokestatic 401, 3)), (66, (.lreturn, 1)), (67, (.lload_n 1, 1)), (68, (.lload_n 3, 1)), (69, (.lsub, 1)), (70, (.invokestatic 401, 3)), (73, (.lreturn, 1)), (74, (.lload_n 1, 1)), (75, (.lload_n 3, 1)), (76, (.lmul, 1)), (77, (.invokestatic 401, 3)), (80, (.lreturn, 1)), (81, (.lload_n 1, 1)), (82, (.lload_n 3, 1)), (83, (.invokestatic 405, 3)), (86, (.invokestatic 401, 3)), (89, (.lreturn, 1)), (90, (.lload_n 3, 1)), (91, (.lconst 0, 1)), (92, (.lcmp, 1)), (93, (.ifCond .ne 7, 3)), (96, (.lconst 0, 1)), (97, (.goto 15, 3)), (100, (.lload_n 1, 1)), (101, (.lload_n 3, 1)), (102, (.lload_n 1, 1)), (103, (.lload_n 3, 1)), (104, (.invokestatic 405, 3)), (107, (.lmul, 1)), (108, (.lsub, 1)), (109, (.invokestatic 401, 3)), (112, (.lreturn, 1)), (113, (.lload_n 1, 1)), (114, (.lload_n 3, 1)), (115, (.lcmp, 1)), (116, (.ifCond .ge 7, 3)), (119, (.lload_n 1, 1)), (120, (.goto 4, 3)), (123, (.lload_n 3, 1)), (124, (.lreturn, 1)), (125, (.lload_n 1, 1)), (126, (.lload_n 3, 1)), (127, (.lcmp, 1)), (128, (.ifCond .le 7, 3)), (131, (.lload_n 1, 1)), (132, (.goto 4, 3)), (135, (.lload_n 3, 1)), (136, (.lreturn, 1)), (137, (.lload_n 1, 1)), (138, (.lload_n 3, 1)), (139, (.lcmp, 1)), (140, (.ifCond .ge 7, 3)), (143, (.lconst 1, 1)), (144, (.goto 4, 3)), (147, (.lconst 0, 1))]
theorem dsX12_two_0_ok : (dsX12_two_0.all fun q => decide (decode cX12_two q.1 = .ok q.2)) = true := by decide +kernel
theorem dX12_two_0 : decode cX12_two 0 = .ok (.iload_n 0, 1) := of_decide_eq_true (List.all_eq_true.mp dsX12_two_0_ok (0, (.iload_n 0, 1)) (List.mem_of_getElem? (i := 0) rfl))
theorem dX12_two_1 : decode cX12_two 1 = .ok (.tableswitch 176 31 41 #[59, 66, 73, 80, 89, 112, 124, 136, 148, 160, 172], 59) := of_decide_eq_true (List.all_eq_true.mp dsX12_two_0_ok (1, (.tableswitch 176 31 41 #[59, 66, 73, 80, 89, 112, 124, 136, 148, 160, 172], 59)) (List.mem_of_getElem? (i := 1) rfl))
theorem dX12_two_60 : decode cX12_two 60 = .ok (.lload_n 1, 1) := of_decide_eq_true (List.all_eq_true.mp dsX12_two_0_ok (60, (.lload_n 1, 1)) (List.mem_of_getElem? (i := 2) rfl))
theorem dX12_two_61 : decode cX12_two 61 = .ok (.lload_n 3, 1) := of_decide_eq_true (List.all_eq_true.mp dsX12_two_0_ok (61, (.lload_n 3, 1)) (List.mem_of_getElem? (i := 3) rfl))
theorem dX12_two_62 : decode cX12_two 62 = .ok (.ladd, 1) := of_decide_eq_true (List.all_eq_true.mp dsX12_two_0_ok (62, (.ladd, 1)) (List.mem_of_getElem? (i := 4) rfl))
theorem dX12_two_63 : decode cX12_two 63 = .ok (.invokestatic 401, 3) := of_decide_eq_true (List.all_eq_true.mp dsX12_two_0_ok (63, (.invokestatic 401, 3)) (List.mem_of_getElem? (i := 5) rfl))
theorem dX12_two_66 : decode cX12_two 66 = .ok (.lreturn, 1) := of_decide_eq_true (List.all_eq_true.mp dsX12_two_0_ok (66, (.lreturn, 1)) (List.mem_of_getElem? (i := 6) rfl))
theorem dX12_two_67 : decode cX12_two 67 = .ok (.lload_n 1, 1) := of_decide_eq_true (List.all_eq_true.mp dsX12_two_0_ok (67, (.lload_n 1, 1)) (List.mem_of_getElem? (i := 7) rfl))
theorem dX12_two_68 : decode cX12_two 68 = .ok (.lload_n 3, 1) := of_decide_eq_true (List.all_eq_true.mp dsX12_two_0_ok (68, (.lload_n 3, 1)) (List.mem_of_getElem? (i := 8) rfl))
theorem dX12_two_69 : decode cX12_two 69 = .ok (.lsub, 1) := of_decide_eq_true (List.all_eq_true.mp dsX12_two_0_ok (69, (.lsub, 1)) (List.mem_of_getElem? (i := 9) rfl))
theorem dX12_two_70 : decode cX12_two 70 = .ok (.invokestatic 401, 3) := of_decide_eq_true (List.all_eq_true.mp dsX12_two_0_ok (70, (.invokestatic 401, 3)) (List.mem_of_getElem? (i := 10) rfl))
theorem dX12_two_73 : decode cX12_two 73 = .ok (.lreturn, 1) := of_decide_eq_true (List.all_eq_true.mp dsX12_two_0_ok (73, (.lreturn, 1)) (List.mem_of_getElem? (i := 11) rfl))
theorem dX12_two_74 : decode cX12_two 74 = .ok (.lload_n 1, 1) := of_decide_eq_true (List.all_eq_true.mp dsX12_two_0_ok (74, (.lload_n 1, 1)) (List.mem_of_getElem? (i := 12) rfl))
theorem dX12_two_75 : decode cX12_two 75 = .ok (.lload_n 3, 1) := of_decide_eq_true (List.all_eq_true.mp dsX12_two_0_ok (75, (.lload_n 3, 1)) (List.mem_of_getElem? (i := 13) rfl))
theorem dX12_two_76 : decode cX12_two 76 = .ok (.lmul, 1) := of_decide_eq_true (List.all_eq_true.mp dsX12_two_0_ok (76, (.lmul, 1)) (List.mem_of_getElem? (i := 14) rfl))
theorem dX12_two_77 : decode cX12_two 77 = .ok (.invokestatic 401, 3) := of_decide_eq_true (List.all_eq_true.mp dsX12_two_0_ok (77, (.invokestatic 401, 3)) (List.mem_of_getElem? (i := 15) rfl))
theorem dX12_two_80 : decode cX12_two 80 = .ok (.lreturn, 1) := of_decide_eq_true (List.all_eq_true.mp dsX12_two_0_ok (80, (.lreturn, 1)) (List.mem_of_getElem? (i := 16) rfl))
theorem dX12_two_81 : decode cX12_two 81 = .ok (.lload_n 1, 1) := of_decide_eq_true (List.all_eq_true.mp dsX12_two_0_ok (81, (.lload_n 1, 1)) (List.mem_of_getElem? (i := 17) rfl))
theorem dX12_two_82 : decode cX12_two 82 = .ok (.lload_n 3, 1) := of_decide_eq_true (List.all_eq_true.mp dsX12_two_0_ok (82, (.lload_n 3, 1)) (List.mem_of_getElem? (i := 18) rfl))
theorem dX12_two_83 : decode cX12_two 83 = .ok (.invokestatic 405, 3) := of_decide_eq_true (List.all_eq_true.mp dsX12_two_0_ok (83, (.invokestatic 405, 3)) (List.mem_of_getElem? (i := 19) rfl))
theorem dX12_two_86 : decode cX12_two 86 = .ok (.invokestatic 401, 3) := of_decide_eq_true (List.all_eq_true.mp dsX12_two_0_ok (86, (.invokestatic 401, 3)) (List.mem_of_getElem? (i := 20) rfl))
theorem dX12_two_89 : decode cX12_two 89 = .ok (.lreturn, 1) := of_decide_eq_true (List.all_eq_true.mp dsX12_two_0_ok (89, (.lreturn, 1)) (List.mem_of_getElem? (i := 21) rfl))
theorem dX12_two_90 : decode cX12_two 90 = .ok (.lload_n 3, 1) := of_decide_eq_true (List.all_eq_true.mp dsX12_two_0_ok (90, (.lload_n 3, 1)) (List.mem_of_getElem? (i := 22) rfl))
theorem dX12_two_91 : decode cX12_two 91 = .ok (.lconst 0, 1) := of_decide_eq_true (List.all_eq_true.mp dsX12_two_0_ok (91, (.lconst 0, 1)) (List.mem_of_getElem? (i := 23) rfl))
theorem dX12_two_92 : decode cX12_two 92 = .ok (.lcmp, 1) := of_decide_eq_true (List.all_eq_true.mp dsX12_two_0_ok (92, (.lcmp, 1)) (List.mem_of_getElem? (i := 24) rfl))
theorem dX12_two_93 : decode cX12_two 93 = .ok (.ifCond .ne 7, 3) := of_decide_eq_true (List.all_eq_true.mp dsX12_two_0_ok (93, (.ifCond .ne 7, 3)) (List.mem_of_getElem? (i := 25) rfl))
theorem dX12_two_96 : decode cX12_two 96 = .ok (.lconst 0, 1) := of_decide_eq_true (List.all_eq_true.mp dsX12_two_0_ok (96, (.lconst 0, 1)) (List.mem_of_getElem? (i := 26) rfl))
theorem dX12_two_97 : decode cX12_two 97 = .ok (.goto 15, 3) := of_decide_eq_true (List.all_eq_true.mp dsX12_two_0_ok (97, (.goto 15, 3)) (List.mem_of_getElem? (i := 27) rfl))
theorem dX12_two_100 : decode cX12_two 100 = .ok (.lload_n 1, 1) := of_decide_eq_true (List.all_eq_true.mp dsX12_two_0_ok (100, (.lload_n 1, 1)) (List.mem_of_getElem? (i := 28) rfl))
theorem dX12_two_101 : decode cX12_two 101 = .ok (.lload_n 3, 1) := of_decide_eq_true (List.all_eq_true.mp dsX12_two_0_ok (101, (.lload_n 3, 1)) (List.mem_of_getElem? (i := 29) rfl))
theorem dX12_two_102 : decode cX12_two 102 = .ok (.lload_n 1, 1) := of_decide_eq_true (List.all_eq_true.mp dsX12_two_0_ok (102, (.lload_n 1, 1)) (List.mem_of_getElem? (i := 30) rfl))
theorem dX12_two_103 : decode cX12_two 103 = .ok (.lload_n 3, 1) := of_decide_eq_true (List.all_eq_true.mp dsX12_two_0_ok (103, (.lload_n 3, 1)) (List.mem_of_getElem? (i := 31) rfl))
theorem dX12_two_104 : decode cX12_two 104 = .ok (.invokestatic 405, 3) := of_decide_eq_true (List.all_eq_true.mp dsX12_two_0_ok (104, (.invokestatic 405, 3)) (List.mem_of_getElem? (i := 32) rfl))
theorem dX12_two_107 : decode cX12_two 107 = .ok (.lmul, 1) := of_decide_eq_true (List.all_eq_true.mp dsX12_two_0_ok (107, (.lmul, 1)) (List.mem_of_getElem? (i := 33) rfl))
theorem dX12_two_108 : decode cX12_two 108 = .ok (.lsub, 1) := of_decide_eq_true (List.all_eq_true.mp dsX12_two_0_ok (108, (.lsub, 1)) (List.mem_of_getElem? (i := 34) rfl))
theorem dX12_two_109 : decode cX12_two 109 = .ok (.invokestatic 401, 3) := of_decide_eq_true (List.all_eq_true.mp dsX12_two_0_ok (109, (.invokestatic 401, 3)) (List.mem_of_getElem? (i := 35) rfl))
theorem dX12_two_112 : decode cX12_two 112 = .ok (.lreturn, 1) := of_decide_eq_true (List.all_eq_true.mp dsX12_two_0_ok (112, (.lreturn, 1)) (List.mem_of_getElem? (i := 36) rfl))
theorem dX12_two_113 : decode cX12_two 113 = .ok (.lload_n 1, 1) := of_decide_eq_true (List.all_eq_true.mp dsX12_two_0_ok (113, (.lload_n 1, 1)) (List.mem_of_getElem? (i := 37) rfl))
theorem dX12_two_114 : decode cX12_two 114 = .ok (.lload_n 3, 1) := of_decide_eq_true (List.all_eq_true.mp dsX12_two_0_ok (114, (.lload_n 3, 1)) (List.mem_of_getElem? (i := 38) rfl))
theorem dX12_two_115 : decode cX12_two 115 = .ok (.lcmp, 1) := of_decide_eq_true (List.all_eq_true.mp dsX12_two_0_ok (115, (.lcmp, 1)) (List.mem_of_getElem? (i := 39) rfl))
theorem dX12_two_116 : decode cX12_two 116 = .ok (.ifCond .ge 7, 3) := of_decide_eq_true (List.all_eq_true.mp dsX12_two_0_ok (116, (.ifCond .ge 7, 3)) (List.mem_of_getElem? (i := 40) rfl))
theorem dX12_two_119 : decode cX12_two 119 = .ok (.lload_n 1, 1) := of_decide_eq_true (List.all_eq_true.mp dsX12_two_0_ok (119, (.lload_n 1, 1)) (List.mem_of_getElem? (i := 41) rfl))
theorem dX12_two_120 : decode cX12_two 120 = .ok (.goto 4, 3) := of_decide_eq_true (List.all_eq_true.mp dsX12_two_0_ok (120, (.goto 4, 3)) (List.mem_of_getElem? (i := 42) rfl))
theorem dX12_two_123 : decode cX12_two 123 = .ok (.lload_n 3, 1) := of_decide_eq_true (List.all_eq_true.mp dsX12_two_0_ok (123, (.lload_n 3, 1)) (List.mem_of_getElem? (i := 43) rfl))
theorem dX12_two_124 : decode cX12_two 124 = .ok (.lreturn, 1) := of_decide_eq_true (List.all_eq_true.mp dsX12_two_0_ok (124, (.lreturn, 1)) (List.mem_of_getElem? (i := 44) rfl))
theorem dX12_two_125 : decode cX12_two 125 = .ok (.lload_n 1, 1) := of_decide_eq_true (List.all_eq_true.mp dsX12_two_0_ok (125, (.lload_n 1, 1)) (List.mem_of_getElem? (i := 45) rfl))
theorem dX12_two_126 : decode cX12_two 126 = .ok (.lload_n 3, 1) := of_decide_eq_true (List.all_eq_true.mp dsX12_two_0_ok (126, (.lload_n 3, 1)) (List.mem_of_getElem? (i := 46) rfl))
theorem dX12_two_127 : decode cX12_two 127 = .ok (.lcmp, 1) := of_decide_eq_true (List.all_eq_true.mp dsX12_two_0_ok (127, (.lcmp, 1)) (List.mem_of_getElem? (i := 47) rfl))
theorem dX12_two_128 : decode cX12_two 128 = .ok (.ifCond .le 7, 3) := of_decide_eq_true (List.all_eq_true.mp dsX12_two_0_ok (128, (.ifCond .le 7, 3)) (List.mem_of_getElem? (i := 48) rfl))
theorem dX12_two_131 : decode cX12_two 131 = .ok (.lload_n 1, 1) := of_decide_eq_true (List.all_eq_true.mp dsX12_two_0_ok (131, (.lload_n 1, 1)) (List.mem_of_getElem? (i := 49) rfl))
theorem dX12_two_132 : decode cX12_two 132 = .ok (.goto 4, 3) := of_decide_eq_true (List.all_eq_true.mp dsX12_two_0_ok (132, (.goto 4, 3)) (List.mem_of_getElem? (i := 50) rfl))
theorem dX12_two_135 : decode cX12_two 135 = .ok (.lload_n 3, 1) := of_decide_eq_true (List.all_eq_true.mp dsX12_two_0_ok (135, (.lload_n 3, 1)) (List.mem_of_getElem? (i := 51) rfl))
theorem dX12_two_136 : decode cX12_two 136 = .ok (.lreturn, 1) := of_decide_eq_true (List.all_eq_true.mp dsX12_two_0_ok (136, (.lreturn, 1)) (List.mem_of_getElem? (i := 52) rfl))
theorem dX12_two_137 : decode cX12_two 137 = .ok (.lload_n 1, 1) := of_decide_eq_true (List.all_eq_true.mp dsX12_two_0_ok (137, (.lload_n 1, 1)) (List.mem_of_getElem? (i := 53) rfl))
theorem dX12_two_138 : decode cX12_two 138 = .ok (.lload_n 3, 1) := of_decide_eq_true (List.all_eq_true.mp dsX12_two_0_ok (138, (.lload_n 3, 1)) (List.mem_of_getElem? (i := 54) rfl))
theorem dX12_two_139 : decode cX12_two 139 = .ok (.lcmp, 1) := of_decide_eq_true (List.all_eq_true.mp dsX12_two_0_ok (139, (.lcmp, 1)) (List.mem_of_getElem? (i := 55) rfl))
theorem dX12_two_140 : decode cX12_two 140 = .ok (.ifCond .ge 7, 3) := of_decide_eq_true (List.all_eq_true.mp dsX12_two_0_ok (140, (.ifCond .ge 7, 3)) (List.mem_of_getElem? (i := 56) rfl))
theorem dX12_two_143 : decode cX12_two 143 = .ok (.lconst 1, 1) := of_decide_eq_true (List.all_eq_true.mp dsX12_two_0_ok (143, (.lconst 1, 1)) (List.mem_of_getElem? (i := 57) rfl))
theorem dX12_two_144 : decode cX12_two 144 = .ok (.goto 4, 3) := of_decide_eq_true (List.all_eq_true.mp dsX12_two_0_ok (144, (.goto 4, 3)) (List.mem_of_getElem? (i := 58) rfl))
theorem dX12_two_147 : decode cX12_two 147 = .ok (.lconst 0, 1) := of_decide_eq_true (List.all_eq_true.mp dsX12_two_0_ok (147, (.lconst 0, 1)) (List.mem_of_getElem? (i := 59) rfl))
def dsX12_two_1 : List (Nat × Instr × Nat) := [(148, (.lreturn, 1)), (149, (.lload_n 1, 1)), (150, (.lload_n 3, 1)), (151, (.lcmp, 1)), (152, (.ifCond .le 7, 3)), (155, (.lconst 1, 1)), (156, (.goto 4, 3)), (159, (.lconst 0, 1)), (160, (.lreturn, 1)), (161, (.lload_n 1, 1)), (162, (.lload_n 3, 1)), (163, (.lcmp, 1)), (164, (.ifCond .ne 7, 3)), (167, (.lconst 1, 1)), (168, (.goto 4, 3)), (171, (.lconst 0, 1)), (172, (.lreturn, 1)), (173, (.lload_n 1, 1)), (174, (.lload_n 3, 1)), (175, (.land, 1)), (176, (.lreturn, 1)), (177, (.lload_n 1, 1)), (178, (.lload_n 3, 1)), (179, (.lor, 1)), (180, (.lreturn, 1))]
theorem dsX12_two_1_ok : (dsX12_two_1.all fun q => decide (decode cX12_two q.1 = .ok q.2)) = true := by decide +kernel
theorem dX12_two_148 : decode cX12_two 148 = .ok (.lreturn, 1) := of_decide_eq_true (List.all_eq_true.mp dsX12_two_1_ok (148, (.lreturn, 1)) (List.mem_of_getElem? (i := 0) rfl))
theorem dX12_two_149 : decode cX12_two 149 = .ok (.lload_n 1, 1) := of_decide_eq_true (List.all_eq_true.mp dsX12_two_1_ok (149, (.lload_n 1, 1)) (List.mem_of_getElem? (i := 1) rfl))
theorem dX12_two_150 : decode cX12_two 150 = .ok (.lload_n 3, 1) := of_decide_eq_true (List.all_eq_true.mp dsX12_two_1_ok (150, (.lload_n 3, 1)) (List.mem_of_getElem? (i := 2) rfl))
theorem dX12_two_151 : decode cX12_two 151 = .ok (.lcmp, 1) := of_decide_eq_true (List.all_eq_true.mp dsX12_two_1_ok (151, (.lcmp, 1)) (List.mem_of_getElem? (i := 3) rfl))
theorem dX12_two_152 : decode cX12_two 152 = .ok (.ifCond .le 7, 3) := of_decide_eq_true (List.all_eq_true.mp dsX12_two_1_ok (152, (.ifCond .le 7, 3)) (List.mem_of_getElem? (i := 4) rfl))
theorem dX12_two_155 : decode cX12_two 155 = .ok (.lconst 1, 1) := of_decide_eq_true (List.all_eq_true.mp dsX12_two_1_ok (155, (.lconst 1, 1)) (List.mem_of_getElem? (i := 5) rfl))
theorem dX12_two_156 : decode cX12_two 156 = .ok (.goto 4, 3) := of_decide_eq_true (List.all_eq_true.mp dsX12_two_1_ok (156, (.goto 4, 3)) (List.mem_of_getElem? (i := 6) rfl))
theorem dX12_two_159 : decode cX12_two 159 = .ok (.lconst 0, 1) := of_decide_eq_true (List.all_eq_true.mp dsX12_two_1_ok (159, (.lconst 0, 1)) (List.mem_of_getElem? (i := 7) rfl))
theorem dX12_two_160 : decode cX12_two 160 = .ok (.lreturn, 1) := of_decide_eq_true (List.all_eq_true.mp dsX12_two_1_ok (160, (.lreturn, 1)) (List.mem_of_getElem? (i := 8) rfl))
theorem dX12_two_161 : decode cX12_two 161 = .ok (.lload_n 1, 1) := of_decide_eq_true (List.all_eq_true.mp dsX12_two_1_ok (161, (.lload_n 1, 1)) (List.mem_of_getElem? (i := 9) rfl))
theorem dX12_two_162 : decode cX12_two 162 = .ok (.lload_n 3, 1) := of_decide_eq_true (List.all_eq_true.mp dsX12_two_1_ok (162, (.lload_n 3, 1)) (List.mem_of_getElem? (i := 10) rfl))
theorem dX12_two_163 : decode cX12_two 163 = .ok (.lcmp, 1) := of_decide_eq_true (List.all_eq_true.mp dsX12_two_1_ok (163, (.lcmp, 1)) (List.mem_of_getElem? (i := 11) rfl))
theorem dX12_two_164 : decode cX12_two 164 = .ok (.ifCond .ne 7, 3) := of_decide_eq_true (List.all_eq_true.mp dsX12_two_1_ok (164, (.ifCond .ne 7, 3)) (List.mem_of_getElem? (i := 12) rfl))
theorem dX12_two_167 : decode cX12_two 167 = .ok (.lconst 1, 1) := of_decide_eq_true (List.all_eq_true.mp dsX12_two_1_ok (167, (.lconst 1, 1)) (List.mem_of_getElem? (i := 13) rfl))
theorem dX12_two_168 : decode cX12_two 168 = .ok (.goto 4, 3) := of_decide_eq_true (List.all_eq_true.mp dsX12_two_1_ok (168, (.goto 4, 3)) (List.mem_of_getElem? (i := 14) rfl))
theorem dX12_two_171 : decode cX12_two 171 = .ok (.lconst 0, 1) := of_decide_eq_true (List.all_eq_true.mp dsX12_two_1_ok (171, (.lconst 0, 1)) (List.mem_of_getElem? (i := 15) rfl))
theorem dX12_two_172 : decode cX12_two 172 = .ok (.lreturn, 1) := of_decide_eq_true (List.all_eq_true.mp dsX12_two_1_ok (172, (.lreturn, 1)) (List.mem_of_getElem? (i := 16) rfl))
theorem dX12_two_173 : decode cX12_two 173 = .ok (.lload_n 1, 1) := of_decide_eq_true (List.all_eq_true.mp dsX12_two_1_ok (173, (.lload_n 1, 1)) (List.mem_of_getElem? (i := 17) rfl))
theorem dX12_two_174 : decode cX12_two 174 = .ok (.lload_n 3, 1) := of_decide_eq_true (List.all_eq_true.mp dsX12_two_1_ok (174, (.lload_n 3, 1)) (List.mem_of_getElem? (i := 18) rfl))
theorem dX12_two_175 : decode cX12_two 175 = .ok (.land, 1) := of_decide_eq_true (List.all_eq_true.mp dsX12_two_1_ok (175, (.land, 1)) (List.mem_of_getElem? (i := 19) rfl))
theorem dX12_two_176 : decode cX12_two 176 = .ok (.lreturn, 1) := of_decide_eq_true (List.all_eq_true.mp dsX12_two_1_ok (176, (.lreturn, 1)) (List.mem_of_getElem? (i := 20) rfl))
theorem dX12_two_177 : decode cX12_two 177 = .ok (.lload_n 1, 1) := of_decide_eq_true (List.all_eq_true.mp dsX12_two_1_ok (177, (.lload_n 1, 1)) (List.mem_of_getElem? (i := 21) rfl))
theorem dX12_two_178 : decode cX12_two 178 = .ok (.lload_n 3, 1) := of_decide_eq_true (List.all_eq_true.mp dsX12_two_1_ok (178, (.lload_n 3, 1)) (List.mem_of_getElem? (i := 22) rfl))
theorem dX12_two_179 : decode cX12_two 179 = .ok (.lor, 1) := of_decide_eq_true (List.all_eq_true.mp dsX12_two_1_ok (179, (.lor, 1)) (List.mem_of_getElem? (i := 23) rfl))
theorem dX12_two_180 : decode cX12_two 180 = .ok (.lreturn, 1) := of_decide_eq_true (List.all_eq_true.mp dsX12_two_1_ok (180, (.lreturn, 1)) (List.mem_of_getElem? (i := 24) rfl))
def fX12_two (N : Nat)   (p0 : Int32) (p1 : Int64) (p2 : Int64) : Option (Int64) :=
  (if p0 = 31 then (xq_bd (fX12_within N (p1 + p2)) fun r_1 => some r_1) else (if p0 = 32 then (xq_bd (fX12_within N (p1 - p2)) fun r_3 => some r_3) else (if p0 = 33 then (xq_bd (fX12_within N (p1 * p2)) fun r_5 => some r_5) else (if p0 = 34 then (xq_bd (fX12_floor N p1 p2) fun r_7 => (xq_bd (fX12_within N r_7) fun r_9 => some r_9)) else (if p0 = 35 then (if (lg_cmp p2 0) = 0 then some 0 else (xq_bd (fX12_floor N p1 p2) fun r_11 => (xq_bd (fX12_within N (p1 - (p2 * r_11))) fun r_13 => some r_13))) else (if p0 = 36 then (if 0 ≤ (lg_cmp p1 p2) then some p2 else some p1) else (if p0 = 37 then (if (lg_cmp p1 p2) ≤ 0 then some p2 else some p1) else (if p0 = 38 then (if 0 ≤ (lg_cmp p1 p2) then some 0 else some 1) else (if p0 = 39 then (if (lg_cmp p1 p2) ≤ 0 then some 0 else some 1) else (if p0 = 40 then (if (lg_cmp p1 p2) = 0 then some 1 else some 0) else (if p0 = 41 then some (p1 &&& p2) else some (p1 ||| p2))))))))))))
set_option maxHeartbeats 4000000 in
set_option maxRecDepth 100000 in
theorem kX12_two (l : Launch) (dC : Nat → ClassId) (dI : Nat → Nat → Nat) (cI cB cJ cZ cM : ClassId) (z : Nat) (ad : Nat → Nat) (N : Nat) (p0 : Int32) (p1 : Int64) (p2 : Int64) {r0 : Int64} (hf : fX12_two N p0 p1 p2 = some r0) : xq_Ct l yX12_two wsX12_two { frames := 1, cells := 0, slots := 0, locals := 25 } (dC, dI) vwCl (xq_tys cI cB cJ cZ cM) z ad [.int p0, .long p1, .long p2] [] [] (some (.long r0)) := by
  intro sz
  refine Met.ofW (cc := cX12_two) (maxL := 5) (ret := (some .long)) (by decide) rfl ?_
  intro p e s m args below meth c s₁ B hml hv
  obtain ⟨rfl, hsz, hP, hK, hD0, hE, hz⟩ := hv
  have hx := B.exec
  have hb := B.bytes
  have hr := B.returns
  have hts := atoms_spec (ws := wsX12_two) B.pre
  have hown : s.vm.findClass RX12 = some m.cls := findClass_of_methodNamed B.named
  have hlocks := B.notSynchronized
  subst hsz
  have hD := hD0.self (sz := s.heap.size)
  have hN := xq_Env.of hE hz hD0
  generalize hAe : va_A [] s.heap.size = A at hD hN ⊢
  have hA : ∀ q : Nat, s.heap.size ≤ q → A q := fun q h => by rw [← hAe]; exact Or.inr h
  clear hAe hD0
  have hS : va_S A s.heap s.heap [] := va_S.rf
  have hl := lv_entry ([.int p0, .long p1, .long p2]) (n := 5) (Nat.le_of_ble_eq_true rfl)
  rw [lg_entry_eq]
  generalize (lg_sl ([.int p0, .long p1, .long p2]) ++ List.replicate (5 - (lg_sl ([.int p0, .long p1, .long p2])).length) Slot.unset).toArray = ls at hl ⊢
  have hl : lv_has ls 5 [(0, .int p0), (1, .long p1), (3, .long p2)] := hl
  unfold fX12_two at hf
  refine lv_iload_n hx hb dX12_two_0 rfl (lv_at hl 0 rfl) ?_
  by_cases c0 : p0 = 31
  · have hf := xq_pos hf c0
    refine lv_tableIn (tgt := 60) hx hb dX12_two_1 (by rw [c0]; decide) (by rw [c0]; decide) (off := 59) (by rw [c0]; decide) (by decide) ?_
    refine lv_lload_n hx hb dX12_two_60 rfl (lv_at hl 1 rfl) ?_
    refine lv_lload_n hx hb dX12_two_61 rfl (lv_at hl 2 rfl) ?_
    refine lv_ladd hx hb dX12_two_62 ?_
    obtain ⟨r_1, h_2, hf⟩ := xq_bd_some hf
    refine xq_callS (As := [.long (p1 + p2)]) (rest := []) ⟨hx, hb, hml, hown, hts⟩ (kX12_within l dC dI cI cB cJ cZ cM z ad N (p1 + p2) h_2) (va_cwS 1 hts gX12_two_X12_within rfl rfl rfl (by decide +kernel) ⟨Nat.le_of_ble_eq_true rfl, Nat.le_of_ble_eq_true rfl⟩) hN hK hP hD hS hA [] (by decide) rfl rfl rfl hl.1 rfl (Nat.le_of_ble_eq_true rfl) dX12_two_63 ⟨Nat.zero_le _, Nat.zero_le _⟩ (fun H locs hP hD hS => ?_)
    have hP : va_P (dC, dI) vwCl [] H := hP
    have hD : va_D A [] := hD
    refine W.eq (g2 := F0 m 66 ls [.long r_1]) rfl ?_
    have e9_0 : r_1 = r0 := Option.some.inj hf
    subst e9_0
    exact xq_lret hx hb hr hlocks hK hP hD hS dX12_two_66
  · have hf := xq_neg hf c0
    by_cases c1 : p0 = 32
    · have hf := xq_pos hf c1
      refine lv_tableIn (tgt := 67) hx hb dX12_two_1 (by rw [c1]; decide) (by rw [c1]; decide) (off := 66) (by rw [c1]; decide) (by decide) ?_
      refine lv_lload_n hx hb dX12_two_67 rfl (lv_at hl 1 rfl) ?_
      refine lv_lload_n hx hb dX12_two_68 rfl (lv_at hl 2 rfl) ?_
      refine lv_lsub hx hb dX12_two_69 ?_
      obtain ⟨r_3, h_4, hf⟩ := xq_bd_some hf
      refine xq_callS (As := [.long (p1 - p2)]) (rest := []) ⟨hx, hb, hml, hown, hts⟩ (kX12_within l dC dI cI cB cJ cZ cM z ad N (p1 - p2) h_4) (va_cwS 1 hts gX12_two_X12_within rfl rfl rfl (by decide +kernel) ⟨Nat.le_of_ble_eq_true rfl, Nat.le_of_ble_eq_true rfl⟩) hN hK hP hD hS hA [] (by decide) rfl rfl rfl hl.1 rfl (Nat.le_of_ble_eq_true rfl) dX12_two_70 ⟨Nat.zero_le _, Nat.zero_le _⟩ (fun H locs hP hD hS => ?_)
      have hP : va_P (dC, dI) vwCl [] H := hP
      have hD : va_D A [] := hD
      refine W.eq (g2 := F0 m 73 ls [.long r_3]) rfl ?_
      have e9_0 : r_3 = r0 := Option.some.inj hf
      subst e9_0
      exact xq_lret hx hb hr hlocks hK hP hD hS dX12_two_73
    · have hf := xq_neg hf c1
      by_cases c2 : p0 = 33
      · have hf := xq_pos hf c2
        refine lv_tableIn (tgt := 74) hx hb dX12_two_1 (by rw [c2]; decide) (by rw [c2]; decide) (off := 73) (by rw [c2]; decide) (by decide) ?_
        refine lv_lload_n hx hb dX12_two_74 rfl (lv_at hl 1 rfl) ?_
        refine lv_lload_n hx hb dX12_two_75 rfl (lv_at hl 2 rfl) ?_
        refine lv_lmul hx hb dX12_two_76 ?_
        obtain ⟨r_5, h_6, hf⟩ := xq_bd_some hf
        refine xq_callS (As := [.long (p1 * p2)]) (rest := []) ⟨hx, hb, hml, hown, hts⟩ (kX12_within l dC dI cI cB cJ cZ cM z ad N (p1 * p2) h_6) (va_cwS 1 hts gX12_two_X12_within rfl rfl rfl (by decide +kernel) ⟨Nat.le_of_ble_eq_true rfl, Nat.le_of_ble_eq_true rfl⟩) hN hK hP hD hS hA [] (by decide) rfl rfl rfl hl.1 rfl (Nat.le_of_ble_eq_true rfl) dX12_two_77 ⟨Nat.zero_le _, Nat.zero_le _⟩ (fun H locs hP hD hS => ?_)
        have hP : va_P (dC, dI) vwCl [] H := hP
        have hD : va_D A [] := hD
        refine W.eq (g2 := F0 m 80 ls [.long r_5]) rfl ?_
        have e9_0 : r_5 = r0 := Option.some.inj hf
        subst e9_0
        exact xq_lret hx hb hr hlocks hK hP hD hS dX12_two_80
      · have hf := xq_neg hf c2
        by_cases c3 : p0 = 34
        · have hf := xq_pos hf c3
          refine lv_tableIn (tgt := 81) hx hb dX12_two_1 (by rw [c3]; decide) (by rw [c3]; decide) (off := 80) (by rw [c3]; decide) (by decide) ?_
          refine lv_lload_n hx hb dX12_two_81 rfl (lv_at hl 1 rfl) ?_
          refine lv_lload_n hx hb dX12_two_82 rfl (lv_at hl 2 rfl) ?_
          obtain ⟨r_7, h_8, hf⟩ := xq_bd_some hf
          refine xq_callS (As := [.long p1, .long p2]) (rest := []) ⟨hx, hb, hml, hown, hts⟩ (kX12_floor l dC dI cI cB cJ cZ cM z ad N p1 p2 h_8) (va_cwS 2 hts gX12_two_X12_floor rfl rfl rfl (by decide +kernel) ⟨Nat.le_of_ble_eq_true rfl, Nat.le_of_ble_eq_true rfl⟩) hN hK hP hD hS hA [] (by decide) rfl rfl rfl hl.1 rfl (Nat.le_of_ble_eq_true rfl) dX12_two_83 ⟨Nat.zero_le _, Nat.zero_le _⟩ (fun H locs hP hD hS => ?_)
          have hP : va_P (dC, dI) vwCl [] H := hP
          have hD : va_D A [] := hD
          refine W.eq (g2 := F0 m 86 ls [.long r_7]) rfl ?_
          obtain ⟨r_9, h_10, hf⟩ := xq_bd_some hf
          refine xq_callS (As := [.long r_7]) (rest := []) ⟨hx, hb, hml, hown, hts⟩ (kX12_within l dC dI cI cB cJ cZ cM z ad N r_7 h_10) (va_cwS 1 hts gX12_two_X12_within rfl rfl rfl (by decide +kernel) ⟨Nat.le_of_ble_eq_true rfl, Nat.le_of_ble_eq_true rfl⟩) hN hK hP hD hS hA [] (by decide) rfl rfl rfl hl.1 rfl (Nat.le_of_ble_eq_true rfl) dX12_two_86 ⟨Nat.zero_le _, Nat.zero_le _⟩ (fun H locs hP hD hS => ?_)
          have hP : va_P (dC, dI) vwCl [] H := hP
          have hD : va_D A [] := hD
          refine W.eq (g2 := F0 m 89 ls [.long r_9]) rfl ?_
          have e9_0 : r_9 = r0 := Option.some.inj hf
          subst e9_0
          exact xq_lret hx hb hr hlocks hK hP hD hS dX12_two_89
        · have hf := xq_neg hf c3
          by_cases c4 : p0 = 35
          · have hf := xq_pos hf c4
            refine lv_tableIn (tgt := 90) hx hb dX12_two_1 (by rw [c4]; decide) (by rw [c4]; decide) (off := 89) (by rw [c4]; decide) (by decide) ?_
            refine lv_lload_n hx hb dX12_two_90 rfl (lv_at hl 2 rfl) ?_
            refine lv_lconst (v := 0) hx hb dX12_two_91 (by decide) ?_
            refine W.lcmp hx hb dX12_two_92 ?_
            refine lv_if_ne (tgt := 100) hx hb dX12_two_93 (by decide) (fun c_ => ?_) (fun c_ => ?_)
            · have hf := xq_neg hf c_
              refine lv_lload_n hx hb dX12_two_100 rfl (lv_at hl 1 rfl) ?_
              refine lv_lload_n hx hb dX12_two_101 rfl (lv_at hl 2 rfl) ?_
              refine lv_lload_n hx hb dX12_two_102 rfl (lv_at hl 1 rfl) ?_
              refine lv_lload_n hx hb dX12_two_103 rfl (lv_at hl 2 rfl) ?_
              obtain ⟨r_11, h_12, hf⟩ := xq_bd_some hf
              refine xq_callS (As := [.long p1, .long p2]) (rest := [.long p2, .long p1]) ⟨hx, hb, hml, hown, hts⟩ (kX12_floor l dC dI cI cB cJ cZ cM z ad N p1 p2 h_12) (va_cwS 2 hts gX12_two_X12_floor rfl rfl rfl (by decide +kernel) ⟨Nat.le_of_ble_eq_true rfl, Nat.le_of_ble_eq_true rfl⟩) hN hK hP hD hS hA [] (by decide) rfl rfl rfl hl.1 rfl (Nat.le_of_ble_eq_true rfl) dX12_two_104 ⟨Nat.zero_le _, Nat.zero_le _⟩ (fun H locs hP hD hS => ?_)
              have hP : va_P (dC, dI) vwCl [] H := hP
              have hD : va_D A [] := hD
              refine W.eq (g2 := F0 m 107 ls [.long r_11, .long p2, .long p1]) rfl ?_
              refine lv_lmul hx hb dX12_two_107 ?_
              refine lv_lsub hx hb dX12_two_108 ?_
              obtain ⟨r_13, h_14, hf⟩ := xq_bd_some hf
              refine xq_callS (As := [.long (p1 - (p2 * r_11))]) (rest := []) ⟨hx, hb, hml, hown, hts⟩ (kX12_within l dC dI cI cB cJ cZ cM z ad N (p1 - (p2 * r_11)) h_14) (va_cwS 1 hts gX12_two_X12_within rfl rfl rfl (by decide +kernel) ⟨Nat.le_of_ble_eq_true rfl, Nat.le_of_ble_eq_true rfl⟩) hN hK hP hD hS hA [] (by decide) rfl rfl rfl hl.1 rfl (Nat.le_of_ble_eq_true rfl) dX12_two_109 ⟨Nat.zero_le _, Nat.zero_le _⟩ (fun H locs hP hD hS => ?_)
              have hP : va_P (dC, dI) vwCl [] H := hP
              have hD : va_D A [] := hD
              refine W.eq (g2 := F0 m 112 ls [.long r_13]) rfl ?_
              have e9_0 : r_13 = r0 := Option.some.inj hf
              subst e9_0
              exact xq_lret hx hb hr hlocks hK hP hD hS dX12_two_112
            · have hf := xq_pos hf c_
              refine lv_lconst (v := 0) hx hb dX12_two_96 (by decide) ?_
              refine lv_goto (tgt := 112) hx hb dX12_two_97 (by decide) ?_
              have e9_0 : 0 = r0 := Option.some.inj hf
              subst e9_0
              exact xq_lret hx hb hr hlocks hK hP hD hS dX12_two_112
          · have hf := xq_neg hf c4
            by_cases c5 : p0 = 36
            · have hf := xq_pos hf c5
              refine lv_tableIn (tgt := 113) hx hb dX12_two_1 (by rw [c5]; decide) (by rw [c5]; decide) (off := 112) (by rw [c5]; decide) (by decide) ?_
              refine lv_lload_n hx hb dX12_two_113 rfl (lv_at hl 1 rfl) ?_
              refine lv_lload_n hx hb dX12_two_114 rfl (lv_at hl 2 rfl) ?_
              refine W.lcmp hx hb dX12_two_115 ?_
              refine lv_if_ge (tgt := 123) hx hb dX12_two_116 (by decide) (fun c_ => ?_) (fun c_ => ?_)
              · have hf := xq_pos hf c_
                refine lv_lload_n hx hb dX12_two_123 rfl (lv_at hl 2 rfl) ?_
                have e9_0 : p2 = r0 := Option.some.inj hf
                subst e9_0
                exact xq_lret hx hb hr hlocks hK hP hD hS dX12_two_124
              · have hf := xq_neg hf c_
                refine lv_lload_n hx hb dX12_two_119 rfl (lv_at hl 1 rfl) ?_
                refine lv_goto (tgt := 124) hx hb dX12_two_120 (by decide) ?_
                have e9_0 : p1 = r0 := Option.some.inj hf
                subst e9_0
                exact xq_lret hx hb hr hlocks hK hP hD hS dX12_two_124
            · have hf := xq_neg hf c5
              by_cases c6 : p0 = 37
              · have hf := xq_pos hf c6
                refine lv_tableIn (tgt := 125) hx hb dX12_two_1 (by rw [c6]; decide) (by rw [c6]; decide) (off := 124) (by rw [c6]; decide) (by decide) ?_
                refine lv_lload_n hx hb dX12_two_125 rfl (lv_at hl 1 rfl) ?_
                refine lv_lload_n hx hb dX12_two_126 rfl (lv_at hl 2 rfl) ?_
                refine W.lcmp hx hb dX12_two_127 ?_
                refine lv_if_le (tgt := 135) hx hb dX12_two_128 (by decide) (fun c_ => ?_) (fun c_ => ?_)
                · have hf := xq_pos hf c_
                  refine lv_lload_n hx hb dX12_two_135 rfl (lv_at hl 2 rfl) ?_
                  have e9_0 : p2 = r0 := Option.some.inj hf
                  subst e9_0
                  exact xq_lret hx hb hr hlocks hK hP hD hS dX12_two_136
                · have hf := xq_neg hf c_
                  refine lv_lload_n hx hb dX12_two_131 rfl (lv_at hl 1 rfl) ?_
                  refine lv_goto (tgt := 136) hx hb dX12_two_132 (by decide) ?_
                  have e9_0 : p1 = r0 := Option.some.inj hf
                  subst e9_0
                  exact xq_lret hx hb hr hlocks hK hP hD hS dX12_two_136
              · have hf := xq_neg hf c6
                by_cases c7 : p0 = 38
                · have hf := xq_pos hf c7
                  refine lv_tableIn (tgt := 137) hx hb dX12_two_1 (by rw [c7]; decide) (by rw [c7]; decide) (off := 136) (by rw [c7]; decide) (by decide) ?_
                  refine lv_lload_n hx hb dX12_two_137 rfl (lv_at hl 1 rfl) ?_
                  refine lv_lload_n hx hb dX12_two_138 rfl (lv_at hl 2 rfl) ?_
                  refine W.lcmp hx hb dX12_two_139 ?_
                  refine lv_if_ge (tgt := 147) hx hb dX12_two_140 (by decide) (fun c_ => ?_) (fun c_ => ?_)
                  · have hf := xq_pos hf c_
                    refine lv_lconst (v := 0) hx hb dX12_two_147 (by decide) ?_
                    have e9_0 : 0 = r0 := Option.some.inj hf
                    subst e9_0
                    exact xq_lret hx hb hr hlocks hK hP hD hS dX12_two_148
                  · have hf := xq_neg hf c_
                    refine lv_lconst (v := 1) hx hb dX12_two_143 (by decide) ?_
                    refine lv_goto (tgt := 148) hx hb dX12_two_144 (by decide) ?_
                    have e9_0 : 1 = r0 := Option.some.inj hf
                    subst e9_0
                    exact xq_lret hx hb hr hlocks hK hP hD hS dX12_two_148
                · have hf := xq_neg hf c7
                  by_cases c8 : p0 = 39
                  · have hf := xq_pos hf c8
                    refine lv_tableIn (tgt := 149) hx hb dX12_two_1 (by rw [c8]; decide) (by rw [c8]; decide) (off := 148) (by rw [c8]; decide) (by decide) ?_
                    refine lv_lload_n hx hb dX12_two_149 rfl (lv_at hl 1 rfl) ?_
                    refine lv_lload_n hx hb dX12_two_150 rfl (lv_at hl 2 rfl) ?_
                    refine W.lcmp hx hb dX12_two_151 ?_
                    refine lv_if_le (tgt := 159) hx hb dX12_two_152 (by decide) (fun c_ => ?_) (fun c_ => ?_)
                    · have hf := xq_pos hf c_
                      refine lv_lconst (v := 0) hx hb dX12_two_159 (by decide) ?_
                      have e9_0 : 0 = r0 := Option.some.inj hf
                      subst e9_0
                      exact xq_lret hx hb hr hlocks hK hP hD hS dX12_two_160
                    · have hf := xq_neg hf c_
                      refine lv_lconst (v := 1) hx hb dX12_two_155 (by decide) ?_
                      refine lv_goto (tgt := 160) hx hb dX12_two_156 (by decide) ?_
                      have e9_0 : 1 = r0 := Option.some.inj hf
                      subst e9_0
                      exact xq_lret hx hb hr hlocks hK hP hD hS dX12_two_160
                  · have hf := xq_neg hf c8
                    by_cases c9 : p0 = 40
                    · have hf := xq_pos hf c9
                      refine lv_tableIn (tgt := 161) hx hb dX12_two_1 (by rw [c9]; decide) (by rw [c9]; decide) (off := 160) (by rw [c9]; decide) (by decide) ?_
                      refine lv_lload_n hx hb dX12_two_161 rfl (lv_at hl 1 rfl) ?_
                      refine lv_lload_n hx hb dX12_two_162 rfl (lv_at hl 2 rfl) ?_
                      refine W.lcmp hx hb dX12_two_163 ?_
                      refine lv_if_ne (tgt := 171) hx hb dX12_two_164 (by decide) (fun c_ => ?_) (fun c_ => ?_)
                      · have hf := xq_neg hf c_
                        refine lv_lconst (v := 0) hx hb dX12_two_171 (by decide) ?_
                        have e9_0 : 0 = r0 := Option.some.inj hf
                        subst e9_0
                        exact xq_lret hx hb hr hlocks hK hP hD hS dX12_two_172
                      · have hf := xq_pos hf c_
                        refine lv_lconst (v := 1) hx hb dX12_two_167 (by decide) ?_
                        refine lv_goto (tgt := 172) hx hb dX12_two_168 (by decide) ?_
                        have e9_0 : 1 = r0 := Option.some.inj hf
                        subst e9_0
                        exact xq_lret hx hb hr hlocks hK hP hD hS dX12_two_172
                    · have hf := xq_neg hf c9
                      by_cases c10 : p0 = 41
                      · have hf := xq_pos hf c10
                        refine lv_tableIn (tgt := 173) hx hb dX12_two_1 (by rw [c10]; decide) (by rw [c10]; decide) (off := 172) (by rw [c10]; decide) (by decide) ?_
                        refine lv_lload_n hx hb dX12_two_173 rfl (lv_at hl 1 rfl) ?_
                        refine lv_lload_n hx hb dX12_two_174 rfl (lv_at hl 2 rfl) ?_
                        refine lv_land hx hb dX12_two_175 ?_
                        have e9_0 : p1 &&& p2 = r0 := Option.some.inj hf
                        subst e9_0
                        exact xq_lret hx hb hr hlocks hK hP hD hS dX12_two_176
                      · have hf := xq_neg hf c10
                        have e0 := lv_neT c0 (a := 31) (by decide)
                        have e1 := lv_neT c1 (a := 32) (by decide)
                        have e2 := lv_neT c2 (a := 33) (by decide)
                        have e3 := lv_neT c3 (a := 34) (by decide)
                        have e4 := lv_neT c4 (a := 35) (by decide)
                        have e5 := lv_neT c5 (a := 36) (by decide)
                        have e6 := lv_neT c6 (a := 37) (by decide)
                        have e7 := lv_neT c7 (a := 38) (by decide)
                        have e8 := lv_neT c8 (a := 39) (by decide)
                        have e9 := lv_neT c9 (a := 40) (by decide)
                        have e10 := lv_neT c10 (a := 41) (by decide)
                        refine lv_tableOut (tgt := 177) hx hb dX12_two_1 (by omega) (by decide) ?_
                        refine lv_lload_n hx hb dX12_two_177 rfl (lv_at hl 1 rfl) ?_
                        refine lv_lload_n hx hb dX12_two_178 rfl (lv_at hl 2 rfl) ?_
                        refine lv_lor hx hb dX12_two_179 ?_
                        have e9_0 : p1 ||| p2 = r0 := Option.some.inj hf
                        subst e9_0
                        exact xq_lret hx hb hr hlocks hK hP hD hS dX12_two_180
set_option maxRecDepth 20000 in
theorem ggX12_reckons_X12_two : GoodIn wsX12_reckons wsX12_two := goodIn_r _ [11, 12, 13, 10, 14, 15, 16, 17, 18, 19] rfl (by decide +kernel)
set_option maxRecDepth 20000 in
theorem gX12_reckons_X12_two : GoodIn wsX12_reckons (va_wsS RX12 409 yX12_two wsX12_two) := goodIn_app (goodIn_of _ (by decide +kernel)) ggX12_reckons_X12_two
def dsX12_reckons_0 : List (Nat × Instr × Nat) := [(0, (.iconst 0, 1)), (1, (.istore_n 2, 1)), (2, (.sipush 1600, 3)), (5, (.aload_n 0, 1)), (6, (.getfield 51, 3)), (9, (.imul, 1)), (10, (.aload_n 0, 1)), (11, (.getfield 84, 3)), (14, (.iconst 3, 1)), (15, (.aload_n 0, 1)), (16, (.getfield 51, 3)), (19, (.imul, 1)), (20, (.iload_n 1, 1)), (21, (.iadd, 1)), (22, (.iaload, 1)), (23, (.iadd, 1)), (24, (.istore_n 3, 1)), (25, (.iload_n 3, 1)), (26, (.sipush 1600, 3)), (29, (.aload_n 0, 1)), (30, (.getfield 51, 3)), (33, (.imul, 1)), (34, (.aload_n 0, 1)), (35, (.getfield 87, 3)), (38, (.iconst 3, 1)), (39, (.aload_n 0, 1)), (40, (.getfield 51, 3)), (43, (.imul, 1)), (44, (.iload_n 1, 1)), (45, (.iadd, 1)), (46, (.iaload, 1)), (47, (.iadd, 1)), (48, (.if_icmp .ge 179, 3)), (51, (.aload_n 0, 1)), (52, (.getfield 90, 3)), (55, (.iload_n 3, 1)), (56, (.iaload, 1)), (57, (.istore 4, 2)), (59, (.iload 4, 2)), (61, (.bipush 30, 2)), (63, (.if_icmp .gt 49, 3)), (66, (.aload_n 0, 1)), (67, (.getfield 186, 3)), (70, (.iload_n 2, 1)), (71, (.iload 4, 2)), (73, (.ifCond .ne 13, 3)), (76, (.aload_n 0, 1)), (77, (.getfield 93, 3)), (80, (.iload_n 3, 1)), (81, (.iaload, 1)), (82, (.i2l, 1)), (83, (.goto 22, 3)), (86, (.iload 4, 2)), (88, (.bipush 30, 2)), (90, (.if_icmp .ne 7, 3)), (93, (.lconst 1, 1)), (94, (.goto 11, 3)), (97, (.aload_n 0, 1)), (98, (.getfield 189, 3)), (101, (.iload 4, 2))]
theorem dsX12_reckons_0_ok : (dsX12_reckons_0.all fun q => decide (decode cX12_reckons q.1 = .ok q.2)) = true := by decide +kernel
theorem dX12_reckons_0 : decode cX12_reckons 0 = .ok (.iconst 0, 1) := of_decide_eq_true (List.all_eq_true.mp dsX12_reckons_0_ok (0, (.iconst 0, 1)) (List.mem_of_getElem? (i := 0) rfl))
theorem dX12_reckons_1 : decode cX12_reckons 1 = .ok (.istore_n 2, 1) := of_decide_eq_true (List.all_eq_true.mp dsX12_reckons_0_ok (1, (.istore_n 2, 1)) (List.mem_of_getElem? (i := 1) rfl))
theorem dX12_reckons_2 : decode cX12_reckons 2 = .ok (.sipush 1600, 3) := of_decide_eq_true (List.all_eq_true.mp dsX12_reckons_0_ok (2, (.sipush 1600, 3)) (List.mem_of_getElem? (i := 2) rfl))
theorem dX12_reckons_5 : decode cX12_reckons 5 = .ok (.aload_n 0, 1) := of_decide_eq_true (List.all_eq_true.mp dsX12_reckons_0_ok (5, (.aload_n 0, 1)) (List.mem_of_getElem? (i := 3) rfl))
theorem dX12_reckons_6 : decode cX12_reckons 6 = .ok (.getfield 51, 3) := of_decide_eq_true (List.all_eq_true.mp dsX12_reckons_0_ok (6, (.getfield 51, 3)) (List.mem_of_getElem? (i := 4) rfl))
theorem dX12_reckons_9 : decode cX12_reckons 9 = .ok (.imul, 1) := of_decide_eq_true (List.all_eq_true.mp dsX12_reckons_0_ok (9, (.imul, 1)) (List.mem_of_getElem? (i := 5) rfl))
theorem dX12_reckons_10 : decode cX12_reckons 10 = .ok (.aload_n 0, 1) := of_decide_eq_true (List.all_eq_true.mp dsX12_reckons_0_ok (10, (.aload_n 0, 1)) (List.mem_of_getElem? (i := 6) rfl))
theorem dX12_reckons_11 : decode cX12_reckons 11 = .ok (.getfield 84, 3) := of_decide_eq_true (List.all_eq_true.mp dsX12_reckons_0_ok (11, (.getfield 84, 3)) (List.mem_of_getElem? (i := 7) rfl))
theorem dX12_reckons_14 : decode cX12_reckons 14 = .ok (.iconst 3, 1) := of_decide_eq_true (List.all_eq_true.mp dsX12_reckons_0_ok (14, (.iconst 3, 1)) (List.mem_of_getElem? (i := 8) rfl))
theorem dX12_reckons_15 : decode cX12_reckons 15 = .ok (.aload_n 0, 1) := of_decide_eq_true (List.all_eq_true.mp dsX12_reckons_0_ok (15, (.aload_n 0, 1)) (List.mem_of_getElem? (i := 9) rfl))
theorem dX12_reckons_16 : decode cX12_reckons 16 = .ok (.getfield 51, 3) := of_decide_eq_true (List.all_eq_true.mp dsX12_reckons_0_ok (16, (.getfield 51, 3)) (List.mem_of_getElem? (i := 10) rfl))
theorem dX12_reckons_19 : decode cX12_reckons 19 = .ok (.imul, 1) := of_decide_eq_true (List.all_eq_true.mp dsX12_reckons_0_ok (19, (.imul, 1)) (List.mem_of_getElem? (i := 11) rfl))
theorem dX12_reckons_20 : decode cX12_reckons 20 = .ok (.iload_n 1, 1) := of_decide_eq_true (List.all_eq_true.mp dsX12_reckons_0_ok (20, (.iload_n 1, 1)) (List.mem_of_getElem? (i := 12) rfl))
theorem dX12_reckons_21 : decode cX12_reckons 21 = .ok (.iadd, 1) := of_decide_eq_true (List.all_eq_true.mp dsX12_reckons_0_ok (21, (.iadd, 1)) (List.mem_of_getElem? (i := 13) rfl))
theorem dX12_reckons_22 : decode cX12_reckons 22 = .ok (.iaload, 1) := of_decide_eq_true (List.all_eq_true.mp dsX12_reckons_0_ok (22, (.iaload, 1)) (List.mem_of_getElem? (i := 14) rfl))
theorem dX12_reckons_23 : decode cX12_reckons 23 = .ok (.iadd, 1) := of_decide_eq_true (List.all_eq_true.mp dsX12_reckons_0_ok (23, (.iadd, 1)) (List.mem_of_getElem? (i := 15) rfl))
theorem dX12_reckons_24 : decode cX12_reckons 24 = .ok (.istore_n 3, 1) := of_decide_eq_true (List.all_eq_true.mp dsX12_reckons_0_ok (24, (.istore_n 3, 1)) (List.mem_of_getElem? (i := 16) rfl))
theorem dX12_reckons_25 : decode cX12_reckons 25 = .ok (.iload_n 3, 1) := of_decide_eq_true (List.all_eq_true.mp dsX12_reckons_0_ok (25, (.iload_n 3, 1)) (List.mem_of_getElem? (i := 17) rfl))
theorem dX12_reckons_26 : decode cX12_reckons 26 = .ok (.sipush 1600, 3) := of_decide_eq_true (List.all_eq_true.mp dsX12_reckons_0_ok (26, (.sipush 1600, 3)) (List.mem_of_getElem? (i := 18) rfl))
theorem dX12_reckons_29 : decode cX12_reckons 29 = .ok (.aload_n 0, 1) := of_decide_eq_true (List.all_eq_true.mp dsX12_reckons_0_ok (29, (.aload_n 0, 1)) (List.mem_of_getElem? (i := 19) rfl))
theorem dX12_reckons_30 : decode cX12_reckons 30 = .ok (.getfield 51, 3) := of_decide_eq_true (List.all_eq_true.mp dsX12_reckons_0_ok (30, (.getfield 51, 3)) (List.mem_of_getElem? (i := 20) rfl))
theorem dX12_reckons_33 : decode cX12_reckons 33 = .ok (.imul, 1) := of_decide_eq_true (List.all_eq_true.mp dsX12_reckons_0_ok (33, (.imul, 1)) (List.mem_of_getElem? (i := 21) rfl))
theorem dX12_reckons_34 : decode cX12_reckons 34 = .ok (.aload_n 0, 1) := of_decide_eq_true (List.all_eq_true.mp dsX12_reckons_0_ok (34, (.aload_n 0, 1)) (List.mem_of_getElem? (i := 22) rfl))
theorem dX12_reckons_35 : decode cX12_reckons 35 = .ok (.getfield 87, 3) := of_decide_eq_true (List.all_eq_true.mp dsX12_reckons_0_ok (35, (.getfield 87, 3)) (List.mem_of_getElem? (i := 23) rfl))
theorem dX12_reckons_38 : decode cX12_reckons 38 = .ok (.iconst 3, 1) := of_decide_eq_true (List.all_eq_true.mp dsX12_reckons_0_ok (38, (.iconst 3, 1)) (List.mem_of_getElem? (i := 24) rfl))
theorem dX12_reckons_39 : decode cX12_reckons 39 = .ok (.aload_n 0, 1) := of_decide_eq_true (List.all_eq_true.mp dsX12_reckons_0_ok (39, (.aload_n 0, 1)) (List.mem_of_getElem? (i := 25) rfl))
theorem dX12_reckons_40 : decode cX12_reckons 40 = .ok (.getfield 51, 3) := of_decide_eq_true (List.all_eq_true.mp dsX12_reckons_0_ok (40, (.getfield 51, 3)) (List.mem_of_getElem? (i := 26) rfl))
theorem dX12_reckons_43 : decode cX12_reckons 43 = .ok (.imul, 1) := of_decide_eq_true (List.all_eq_true.mp dsX12_reckons_0_ok (43, (.imul, 1)) (List.mem_of_getElem? (i := 27) rfl))
theorem dX12_reckons_44 : decode cX12_reckons 44 = .ok (.iload_n 1, 1) := of_decide_eq_true (List.all_eq_true.mp dsX12_reckons_0_ok (44, (.iload_n 1, 1)) (List.mem_of_getElem? (i := 28) rfl))
theorem dX12_reckons_45 : decode cX12_reckons 45 = .ok (.iadd, 1) := of_decide_eq_true (List.all_eq_true.mp dsX12_reckons_0_ok (45, (.iadd, 1)) (List.mem_of_getElem? (i := 29) rfl))
theorem dX12_reckons_46 : decode cX12_reckons 46 = .ok (.iaload, 1) := of_decide_eq_true (List.all_eq_true.mp dsX12_reckons_0_ok (46, (.iaload, 1)) (List.mem_of_getElem? (i := 30) rfl))
theorem dX12_reckons_47 : decode cX12_reckons 47 = .ok (.iadd, 1) := of_decide_eq_true (List.all_eq_true.mp dsX12_reckons_0_ok (47, (.iadd, 1)) (List.mem_of_getElem? (i := 31) rfl))
theorem dX12_reckons_48 : decode cX12_reckons 48 = .ok (.if_icmp .ge 179, 3) := of_decide_eq_true (List.all_eq_true.mp dsX12_reckons_0_ok (48, (.if_icmp .ge 179, 3)) (List.mem_of_getElem? (i := 32) rfl))
theorem dX12_reckons_51 : decode cX12_reckons 51 = .ok (.aload_n 0, 1) := of_decide_eq_true (List.all_eq_true.mp dsX12_reckons_0_ok (51, (.aload_n 0, 1)) (List.mem_of_getElem? (i := 33) rfl))
theorem dX12_reckons_52 : decode cX12_reckons 52 = .ok (.getfield 90, 3) := of_decide_eq_true (List.all_eq_true.mp dsX12_reckons_0_ok (52, (.getfield 90, 3)) (List.mem_of_getElem? (i := 34) rfl))
theorem dX12_reckons_55 : decode cX12_reckons 55 = .ok (.iload_n 3, 1) := of_decide_eq_true (List.all_eq_true.mp dsX12_reckons_0_ok (55, (.iload_n 3, 1)) (List.mem_of_getElem? (i := 35) rfl))
theorem dX12_reckons_56 : decode cX12_reckons 56 = .ok (.iaload, 1) := of_decide_eq_true (List.all_eq_true.mp dsX12_reckons_0_ok (56, (.iaload, 1)) (List.mem_of_getElem? (i := 36) rfl))
theorem dX12_reckons_57 : decode cX12_reckons 57 = .ok (.istore 4, 2) := of_decide_eq_true (List.all_eq_true.mp dsX12_reckons_0_ok (57, (.istore 4, 2)) (List.mem_of_getElem? (i := 37) rfl))
theorem dX12_reckons_59 : decode cX12_reckons 59 = .ok (.iload 4, 2) := of_decide_eq_true (List.all_eq_true.mp dsX12_reckons_0_ok (59, (.iload 4, 2)) (List.mem_of_getElem? (i := 38) rfl))
theorem dX12_reckons_61 : decode cX12_reckons 61 = .ok (.bipush 30, 2) := of_decide_eq_true (List.all_eq_true.mp dsX12_reckons_0_ok (61, (.bipush 30, 2)) (List.mem_of_getElem? (i := 39) rfl))
theorem dX12_reckons_63 : decode cX12_reckons 63 = .ok (.if_icmp .gt 49, 3) := of_decide_eq_true (List.all_eq_true.mp dsX12_reckons_0_ok (63, (.if_icmp .gt 49, 3)) (List.mem_of_getElem? (i := 40) rfl))
theorem dX12_reckons_66 : decode cX12_reckons 66 = .ok (.aload_n 0, 1) := of_decide_eq_true (List.all_eq_true.mp dsX12_reckons_0_ok (66, (.aload_n 0, 1)) (List.mem_of_getElem? (i := 41) rfl))
theorem dX12_reckons_67 : decode cX12_reckons 67 = .ok (.getfield 186, 3) := of_decide_eq_true (List.all_eq_true.mp dsX12_reckons_0_ok (67, (.getfield 186, 3)) (List.mem_of_getElem? (i := 42) rfl))
theorem dX12_reckons_70 : decode cX12_reckons 70 = .ok (.iload_n 2, 1) := of_decide_eq_true (List.all_eq_true.mp dsX12_reckons_0_ok (70, (.iload_n 2, 1)) (List.mem_of_getElem? (i := 43) rfl))
theorem dX12_reckons_71 : decode cX12_reckons 71 = .ok (.iload 4, 2) := of_decide_eq_true (List.all_eq_true.mp dsX12_reckons_0_ok (71, (.iload 4, 2)) (List.mem_of_getElem? (i := 44) rfl))
theorem dX12_reckons_73 : decode cX12_reckons 73 = .ok (.ifCond .ne 13, 3) := of_decide_eq_true (List.all_eq_true.mp dsX12_reckons_0_ok (73, (.ifCond .ne 13, 3)) (List.mem_of_getElem? (i := 45) rfl))
theorem dX12_reckons_76 : decode cX12_reckons 76 = .ok (.aload_n 0, 1) := of_decide_eq_true (List.all_eq_true.mp dsX12_reckons_0_ok (76, (.aload_n 0, 1)) (List.mem_of_getElem? (i := 46) rfl))
theorem dX12_reckons_77 : decode cX12_reckons 77 = .ok (.getfield 93, 3) := of_decide_eq_true (List.all_eq_true.mp dsX12_reckons_0_ok (77, (.getfield 93, 3)) (List.mem_of_getElem? (i := 47) rfl))
theorem dX12_reckons_80 : decode cX12_reckons 80 = .ok (.iload_n 3, 1) := of_decide_eq_true (List.all_eq_true.mp dsX12_reckons_0_ok (80, (.iload_n 3, 1)) (List.mem_of_getElem? (i := 48) rfl))
theorem dX12_reckons_81 : decode cX12_reckons 81 = .ok (.iaload, 1) := of_decide_eq_true (List.all_eq_true.mp dsX12_reckons_0_ok (81, (.iaload, 1)) (List.mem_of_getElem? (i := 49) rfl))
theorem dX12_reckons_82 : decode cX12_reckons 82 = .ok (.i2l, 1) := of_decide_eq_true (List.all_eq_true.mp dsX12_reckons_0_ok (82, (.i2l, 1)) (List.mem_of_getElem? (i := 50) rfl))
theorem dX12_reckons_83 : decode cX12_reckons 83 = .ok (.goto 22, 3) := of_decide_eq_true (List.all_eq_true.mp dsX12_reckons_0_ok (83, (.goto 22, 3)) (List.mem_of_getElem? (i := 51) rfl))
theorem dX12_reckons_86 : decode cX12_reckons 86 = .ok (.iload 4, 2) := of_decide_eq_true (List.all_eq_true.mp dsX12_reckons_0_ok (86, (.iload 4, 2)) (List.mem_of_getElem? (i := 52) rfl))
theorem dX12_reckons_88 : decode cX12_reckons 88 = .ok (.bipush 30, 2) := of_decide_eq_true (List.all_eq_true.mp dsX12_reckons_0_ok (88, (.bipush 30, 2)) (List.mem_of_getElem? (i := 53) rfl))
theorem dX12_reckons_90 : decode cX12_reckons 90 = .ok (.if_icmp .ne 7, 3) := of_decide_eq_true (List.all_eq_true.mp dsX12_reckons_0_ok (90, (.if_icmp .ne 7, 3)) (List.mem_of_getElem? (i := 54) rfl))
theorem dX12_reckons_93 : decode cX12_reckons 93 = .ok (.lconst 1, 1) := of_decide_eq_true (List.all_eq_true.mp dsX12_reckons_0_ok (93, (.lconst 1, 1)) (List.mem_of_getElem? (i := 55) rfl))
theorem dX12_reckons_94 : decode cX12_reckons 94 = .ok (.goto 11, 3) := of_decide_eq_true (List.all_eq_true.mp dsX12_reckons_0_ok (94, (.goto 11, 3)) (List.mem_of_getElem? (i := 56) rfl))
theorem dX12_reckons_97 : decode cX12_reckons 97 = .ok (.aload_n 0, 1) := of_decide_eq_true (List.all_eq_true.mp dsX12_reckons_0_ok (97, (.aload_n 0, 1)) (List.mem_of_getElem? (i := 57) rfl))
theorem dX12_reckons_98 : decode cX12_reckons 98 = .ok (.getfield 189, 3) := of_decide_eq_true (List.all_eq_true.mp dsX12_reckons_0_ok (98, (.getfield 189, 3)) (List.mem_of_getElem? (i := 58) rfl))
theorem dX12_reckons_101 : decode cX12_reckons 101 = .ok (.iload 4, 2) := of_decide_eq_true (List.all_eq_true.mp dsX12_reckons_0_ok (101, (.iload 4, 2)) (List.mem_of_getElem? (i := 59) rfl))
def dsX12_reckons_1 : List (Nat × Instr × Nat) := [(103, (.iaload, 1)), (104, (.i2l, 1)), (105, (.lastore, 1)), (106, (.iinc 2 1, 3)), (109, (.goto 112, 3)), (112, (.iload 4, 2)), (114, (.bipush 43, 2)), (116, (.if_icmp .ne 24, 3)), (119, (.aload_n 0, 1)), (120, (.getfield 186, 3)), (123, (.iload_n 2, 1)), (124, (.iconst 1, 1)), (125, (.isub, 1)), (126, (.lconst 1, 1)), (127, (.aload_n 0, 1)), (128, (.getfield 186, 3)), (131, (.iload_n 2, 1)), (132, (.iconst 1, 1)), (133, (.isub, 1)), (134, (.laload, 1)), (135, (.lsub, 1)), (136, (.lastore, 1)), (137, (.goto 84, 3)), (140, (.iload 4, 2)), (142, (.bipush 44, 2)), (144, (.if_icmp .ne 47, 3)), (147, (.iinc 2 (-2), 3)), (150, (.aload_n 0, 1)), (151, (.getfield 186, 3)), (154, (.iload_n 2, 1)), (155, (.iconst 1, 1)), (156, (.isub, 1)), (157, (.aload_n 0, 1)), (158, (.getfield 186, 3)), (161, (.iload_n 2, 1)), (162, (.iconst 1, 1)), (163, (.isub, 1)), (164, (.laload, 1)), (165, (.lconst 1, 1)), (166, (.lcmp, 1)), (167, (.ifCond .ne 12, 3)), (170, (.aload_n 0, 1)), (171, (.getfield 186, 3)), (174, (.iload_n 2, 1)), (175, (.laload, 1)), (176, (.goto 11, 3)), (179, (.aload_n 0, 1)), (180, (.getfield 186, 3)), (183, (.iload_n 2, 1)), (184, (.iconst 1, 1)), (185, (.iadd, 1)), (186, (.laload, 1)), (187, (.lastore, 1)), (188, (.goto 33, 3)), (191, (.iinc 2 (-1), 3)), (194, (.aload_n 0, 1)), (195, (.getfield 186, 3)), (198, (.iload_n 2, 1)), (199, (.iconst 1, 1)), (200, (.isub, 1))]
theorem dsX12_reckons_1_ok : (dsX12_reckons_1.all fun q => decide (decode cX12_reckons q.1 = .ok q.2)) = true := by decide +kernel
theorem dX12_reckons_103 : decode cX12_reckons 103 = .ok (.iaload, 1) := of_decide_eq_true (List.all_eq_true.mp dsX12_reckons_1_ok (103, (.iaload, 1)) (List.mem_of_getElem? (i := 0) rfl))
theorem dX12_reckons_104 : decode cX12_reckons 104 = .ok (.i2l, 1) := of_decide_eq_true (List.all_eq_true.mp dsX12_reckons_1_ok (104, (.i2l, 1)) (List.mem_of_getElem? (i := 1) rfl))
theorem dX12_reckons_105 : decode cX12_reckons 105 = .ok (.lastore, 1) := of_decide_eq_true (List.all_eq_true.mp dsX12_reckons_1_ok (105, (.lastore, 1)) (List.mem_of_getElem? (i := 2) rfl))
theorem dX12_reckons_106 : decode cX12_reckons 106 = .ok (.iinc 2 1, 3) := of_decide_eq_true (List.all_eq_true.mp dsX12_reckons_1_ok (106, (.iinc 2 1, 3)) (List.mem_of_getElem? (i := 3) rfl))
theorem dX12_reckons_109 : decode cX12_reckons 109 = .ok (.goto 112, 3) := of_decide_eq_true (List.all_eq_true.mp dsX12_reckons_1_ok (109, (.goto 112, 3)) (List.mem_of_getElem? (i := 4) rfl))
theorem dX12_reckons_112 : decode cX12_reckons 112 = .ok (.iload 4, 2) := of_decide_eq_true (List.all_eq_true.mp dsX12_reckons_1_ok (112, (.iload 4, 2)) (List.mem_of_getElem? (i := 5) rfl))
theorem dX12_reckons_114 : decode cX12_reckons 114 = .ok (.bipush 43, 2) := of_decide_eq_true (List.all_eq_true.mp dsX12_reckons_1_ok (114, (.bipush 43, 2)) (List.mem_of_getElem? (i := 6) rfl))
theorem dX12_reckons_116 : decode cX12_reckons 116 = .ok (.if_icmp .ne 24, 3) := of_decide_eq_true (List.all_eq_true.mp dsX12_reckons_1_ok (116, (.if_icmp .ne 24, 3)) (List.mem_of_getElem? (i := 7) rfl))
theorem dX12_reckons_119 : decode cX12_reckons 119 = .ok (.aload_n 0, 1) := of_decide_eq_true (List.all_eq_true.mp dsX12_reckons_1_ok (119, (.aload_n 0, 1)) (List.mem_of_getElem? (i := 8) rfl))
theorem dX12_reckons_120 : decode cX12_reckons 120 = .ok (.getfield 186, 3) := of_decide_eq_true (List.all_eq_true.mp dsX12_reckons_1_ok (120, (.getfield 186, 3)) (List.mem_of_getElem? (i := 9) rfl))
theorem dX12_reckons_123 : decode cX12_reckons 123 = .ok (.iload_n 2, 1) := of_decide_eq_true (List.all_eq_true.mp dsX12_reckons_1_ok (123, (.iload_n 2, 1)) (List.mem_of_getElem? (i := 10) rfl))
theorem dX12_reckons_124 : decode cX12_reckons 124 = .ok (.iconst 1, 1) := of_decide_eq_true (List.all_eq_true.mp dsX12_reckons_1_ok (124, (.iconst 1, 1)) (List.mem_of_getElem? (i := 11) rfl))
theorem dX12_reckons_125 : decode cX12_reckons 125 = .ok (.isub, 1) := of_decide_eq_true (List.all_eq_true.mp dsX12_reckons_1_ok (125, (.isub, 1)) (List.mem_of_getElem? (i := 12) rfl))
theorem dX12_reckons_126 : decode cX12_reckons 126 = .ok (.lconst 1, 1) := of_decide_eq_true (List.all_eq_true.mp dsX12_reckons_1_ok (126, (.lconst 1, 1)) (List.mem_of_getElem? (i := 13) rfl))
theorem dX12_reckons_127 : decode cX12_reckons 127 = .ok (.aload_n 0, 1) := of_decide_eq_true (List.all_eq_true.mp dsX12_reckons_1_ok (127, (.aload_n 0, 1)) (List.mem_of_getElem? (i := 14) rfl))
theorem dX12_reckons_128 : decode cX12_reckons 128 = .ok (.getfield 186, 3) := of_decide_eq_true (List.all_eq_true.mp dsX12_reckons_1_ok (128, (.getfield 186, 3)) (List.mem_of_getElem? (i := 15) rfl))
theorem dX12_reckons_131 : decode cX12_reckons 131 = .ok (.iload_n 2, 1) := of_decide_eq_true (List.all_eq_true.mp dsX12_reckons_1_ok (131, (.iload_n 2, 1)) (List.mem_of_getElem? (i := 16) rfl))
theorem dX12_reckons_132 : decode cX12_reckons 132 = .ok (.iconst 1, 1) := of_decide_eq_true (List.all_eq_true.mp dsX12_reckons_1_ok (132, (.iconst 1, 1)) (List.mem_of_getElem? (i := 17) rfl))
theorem dX12_reckons_133 : decode cX12_reckons 133 = .ok (.isub, 1) := of_decide_eq_true (List.all_eq_true.mp dsX12_reckons_1_ok (133, (.isub, 1)) (List.mem_of_getElem? (i := 18) rfl))
theorem dX12_reckons_134 : decode cX12_reckons 134 = .ok (.laload, 1) := of_decide_eq_true (List.all_eq_true.mp dsX12_reckons_1_ok (134, (.laload, 1)) (List.mem_of_getElem? (i := 19) rfl))
theorem dX12_reckons_135 : decode cX12_reckons 135 = .ok (.lsub, 1) := of_decide_eq_true (List.all_eq_true.mp dsX12_reckons_1_ok (135, (.lsub, 1)) (List.mem_of_getElem? (i := 20) rfl))
theorem dX12_reckons_136 : decode cX12_reckons 136 = .ok (.lastore, 1) := of_decide_eq_true (List.all_eq_true.mp dsX12_reckons_1_ok (136, (.lastore, 1)) (List.mem_of_getElem? (i := 21) rfl))
theorem dX12_reckons_137 : decode cX12_reckons 137 = .ok (.goto 84, 3) := of_decide_eq_true (List.all_eq_true.mp dsX12_reckons_1_ok (137, (.goto 84, 3)) (List.mem_of_getElem? (i := 22) rfl))
theorem dX12_reckons_140 : decode cX12_reckons 140 = .ok (.iload 4, 2) := of_decide_eq_true (List.all_eq_true.mp dsX12_reckons_1_ok (140, (.iload 4, 2)) (List.mem_of_getElem? (i := 23) rfl))
theorem dX12_reckons_142 : decode cX12_reckons 142 = .ok (.bipush 44, 2) := of_decide_eq_true (List.all_eq_true.mp dsX12_reckons_1_ok (142, (.bipush 44, 2)) (List.mem_of_getElem? (i := 24) rfl))
theorem dX12_reckons_144 : decode cX12_reckons 144 = .ok (.if_icmp .ne 47, 3) := of_decide_eq_true (List.all_eq_true.mp dsX12_reckons_1_ok (144, (.if_icmp .ne 47, 3)) (List.mem_of_getElem? (i := 25) rfl))
theorem dX12_reckons_147 : decode cX12_reckons 147 = .ok (.iinc 2 (-2), 3) := of_decide_eq_true (List.all_eq_true.mp dsX12_reckons_1_ok (147, (.iinc 2 (-2), 3)) (List.mem_of_getElem? (i := 26) rfl))
theorem dX12_reckons_150 : decode cX12_reckons 150 = .ok (.aload_n 0, 1) := of_decide_eq_true (List.all_eq_true.mp dsX12_reckons_1_ok (150, (.aload_n 0, 1)) (List.mem_of_getElem? (i := 27) rfl))
theorem dX12_reckons_151 : decode cX12_reckons 151 = .ok (.getfield 186, 3) := of_decide_eq_true (List.all_eq_true.mp dsX12_reckons_1_ok (151, (.getfield 186, 3)) (List.mem_of_getElem? (i := 28) rfl))
theorem dX12_reckons_154 : decode cX12_reckons 154 = .ok (.iload_n 2, 1) := of_decide_eq_true (List.all_eq_true.mp dsX12_reckons_1_ok (154, (.iload_n 2, 1)) (List.mem_of_getElem? (i := 29) rfl))
theorem dX12_reckons_155 : decode cX12_reckons 155 = .ok (.iconst 1, 1) := of_decide_eq_true (List.all_eq_true.mp dsX12_reckons_1_ok (155, (.iconst 1, 1)) (List.mem_of_getElem? (i := 30) rfl))
theorem dX12_reckons_156 : decode cX12_reckons 156 = .ok (.isub, 1) := of_decide_eq_true (List.all_eq_true.mp dsX12_reckons_1_ok (156, (.isub, 1)) (List.mem_of_getElem? (i := 31) rfl))
theorem dX12_reckons_157 : decode cX12_reckons 157 = .ok (.aload_n 0, 1) := of_decide_eq_true (List.all_eq_true.mp dsX12_reckons_1_ok (157, (.aload_n 0, 1)) (List.mem_of_getElem? (i := 32) rfl))
theorem dX12_reckons_158 : decode cX12_reckons 158 = .ok (.getfield 186, 3) := of_decide_eq_true (List.all_eq_true.mp dsX12_reckons_1_ok (158, (.getfield 186, 3)) (List.mem_of_getElem? (i := 33) rfl))
theorem dX12_reckons_161 : decode cX12_reckons 161 = .ok (.iload_n 2, 1) := of_decide_eq_true (List.all_eq_true.mp dsX12_reckons_1_ok (161, (.iload_n 2, 1)) (List.mem_of_getElem? (i := 34) rfl))
theorem dX12_reckons_162 : decode cX12_reckons 162 = .ok (.iconst 1, 1) := of_decide_eq_true (List.all_eq_true.mp dsX12_reckons_1_ok (162, (.iconst 1, 1)) (List.mem_of_getElem? (i := 35) rfl))
theorem dX12_reckons_163 : decode cX12_reckons 163 = .ok (.isub, 1) := of_decide_eq_true (List.all_eq_true.mp dsX12_reckons_1_ok (163, (.isub, 1)) (List.mem_of_getElem? (i := 36) rfl))
theorem dX12_reckons_164 : decode cX12_reckons 164 = .ok (.laload, 1) := of_decide_eq_true (List.all_eq_true.mp dsX12_reckons_1_ok (164, (.laload, 1)) (List.mem_of_getElem? (i := 37) rfl))
theorem dX12_reckons_165 : decode cX12_reckons 165 = .ok (.lconst 1, 1) := of_decide_eq_true (List.all_eq_true.mp dsX12_reckons_1_ok (165, (.lconst 1, 1)) (List.mem_of_getElem? (i := 38) rfl))
theorem dX12_reckons_166 : decode cX12_reckons 166 = .ok (.lcmp, 1) := of_decide_eq_true (List.all_eq_true.mp dsX12_reckons_1_ok (166, (.lcmp, 1)) (List.mem_of_getElem? (i := 39) rfl))
theorem dX12_reckons_167 : decode cX12_reckons 167 = .ok (.ifCond .ne 12, 3) := of_decide_eq_true (List.all_eq_true.mp dsX12_reckons_1_ok (167, (.ifCond .ne 12, 3)) (List.mem_of_getElem? (i := 40) rfl))
theorem dX12_reckons_170 : decode cX12_reckons 170 = .ok (.aload_n 0, 1) := of_decide_eq_true (List.all_eq_true.mp dsX12_reckons_1_ok (170, (.aload_n 0, 1)) (List.mem_of_getElem? (i := 41) rfl))
theorem dX12_reckons_171 : decode cX12_reckons 171 = .ok (.getfield 186, 3) := of_decide_eq_true (List.all_eq_true.mp dsX12_reckons_1_ok (171, (.getfield 186, 3)) (List.mem_of_getElem? (i := 42) rfl))
theorem dX12_reckons_174 : decode cX12_reckons 174 = .ok (.iload_n 2, 1) := of_decide_eq_true (List.all_eq_true.mp dsX12_reckons_1_ok (174, (.iload_n 2, 1)) (List.mem_of_getElem? (i := 43) rfl))
theorem dX12_reckons_175 : decode cX12_reckons 175 = .ok (.laload, 1) := of_decide_eq_true (List.all_eq_true.mp dsX12_reckons_1_ok (175, (.laload, 1)) (List.mem_of_getElem? (i := 44) rfl))
theorem dX12_reckons_176 : decode cX12_reckons 176 = .ok (.goto 11, 3) := of_decide_eq_true (List.all_eq_true.mp dsX12_reckons_1_ok (176, (.goto 11, 3)) (List.mem_of_getElem? (i := 45) rfl))
theorem dX12_reckons_179 : decode cX12_reckons 179 = .ok (.aload_n 0, 1) := of_decide_eq_true (List.all_eq_true.mp dsX12_reckons_1_ok (179, (.aload_n 0, 1)) (List.mem_of_getElem? (i := 46) rfl))
theorem dX12_reckons_180 : decode cX12_reckons 180 = .ok (.getfield 186, 3) := of_decide_eq_true (List.all_eq_true.mp dsX12_reckons_1_ok (180, (.getfield 186, 3)) (List.mem_of_getElem? (i := 47) rfl))
theorem dX12_reckons_183 : decode cX12_reckons 183 = .ok (.iload_n 2, 1) := of_decide_eq_true (List.all_eq_true.mp dsX12_reckons_1_ok (183, (.iload_n 2, 1)) (List.mem_of_getElem? (i := 48) rfl))
theorem dX12_reckons_184 : decode cX12_reckons 184 = .ok (.iconst 1, 1) := of_decide_eq_true (List.all_eq_true.mp dsX12_reckons_1_ok (184, (.iconst 1, 1)) (List.mem_of_getElem? (i := 49) rfl))
theorem dX12_reckons_185 : decode cX12_reckons 185 = .ok (.iadd, 1) := of_decide_eq_true (List.all_eq_true.mp dsX12_reckons_1_ok (185, (.iadd, 1)) (List.mem_of_getElem? (i := 50) rfl))
theorem dX12_reckons_186 : decode cX12_reckons 186 = .ok (.laload, 1) := of_decide_eq_true (List.all_eq_true.mp dsX12_reckons_1_ok (186, (.laload, 1)) (List.mem_of_getElem? (i := 51) rfl))
theorem dX12_reckons_187 : decode cX12_reckons 187 = .ok (.lastore, 1) := of_decide_eq_true (List.all_eq_true.mp dsX12_reckons_1_ok (187, (.lastore, 1)) (List.mem_of_getElem? (i := 52) rfl))
theorem dX12_reckons_188 : decode cX12_reckons 188 = .ok (.goto 33, 3) := of_decide_eq_true (List.all_eq_true.mp dsX12_reckons_1_ok (188, (.goto 33, 3)) (List.mem_of_getElem? (i := 53) rfl))
theorem dX12_reckons_191 : decode cX12_reckons 191 = .ok (.iinc 2 (-1), 3) := of_decide_eq_true (List.all_eq_true.mp dsX12_reckons_1_ok (191, (.iinc 2 (-1), 3)) (List.mem_of_getElem? (i := 54) rfl))
theorem dX12_reckons_194 : decode cX12_reckons 194 = .ok (.aload_n 0, 1) := of_decide_eq_true (List.all_eq_true.mp dsX12_reckons_1_ok (194, (.aload_n 0, 1)) (List.mem_of_getElem? (i := 55) rfl))
theorem dX12_reckons_195 : decode cX12_reckons 195 = .ok (.getfield 186, 3) := of_decide_eq_true (List.all_eq_true.mp dsX12_reckons_1_ok (195, (.getfield 186, 3)) (List.mem_of_getElem? (i := 56) rfl))
theorem dX12_reckons_198 : decode cX12_reckons 198 = .ok (.iload_n 2, 1) := of_decide_eq_true (List.all_eq_true.mp dsX12_reckons_1_ok (198, (.iload_n 2, 1)) (List.mem_of_getElem? (i := 57) rfl))
theorem dX12_reckons_199 : decode cX12_reckons 199 = .ok (.iconst 1, 1) := of_decide_eq_true (List.all_eq_true.mp dsX12_reckons_1_ok (199, (.iconst 1, 1)) (List.mem_of_getElem? (i := 58) rfl))
theorem dX12_reckons_200 : decode cX12_reckons 200 = .ok (.isub, 1) := of_decide_eq_true (List.all_eq_true.mp dsX12_reckons_1_ok (200, (.isub, 1)) (List.mem_of_getElem? (i := 59) rfl))
def dsX12_reckons_2 : List (Nat × Instr × Nat) := [(201, (.iload 4, 2)), (203, (.aload_n 0, 1)), (204, (.getfield 186, 3)), (207, (.iload_n 2, 1)), (208, (.iconst 1, 1)), (209, (.isub, 1)), (210, (.laload, 1)), (211, (.aload_n 0, 1)), (212, (.getfield 186, 3)), (215, (.iload_n 2, 1)), (216, (.laload, 1)), (217, (.invokestatic 409, 3)), (220, (.lastore, 1)), (221, (.iinc 3 1, 3)), (224, (.goto (-199), 3)), (227, (.aload_n 0, 1)), (228, (.getfield 186, 3)), (231, (.iconst 0, 1)), (232, (.laload, 1)), (233, (.lreturn, 1))]
theorem dsX12_reckons_2_ok : (dsX12_reckons_2.all fun q => decide (decode cX12_reckons q.1 = .ok q.2)) = true := by decide +kernel
theorem dX12_reckons_201 : decode cX12_reckons 201 = .ok (.iload 4, 2) := of_decide_eq_true (List.all_eq_true.mp dsX12_reckons_2_ok (201, (.iload 4, 2)) (List.mem_of_getElem? (i := 0) rfl))
theorem dX12_reckons_203 : decode cX12_reckons 203 = .ok (.aload_n 0, 1) := of_decide_eq_true (List.all_eq_true.mp dsX12_reckons_2_ok (203, (.aload_n 0, 1)) (List.mem_of_getElem? (i := 1) rfl))
theorem dX12_reckons_204 : decode cX12_reckons 204 = .ok (.getfield 186, 3) := of_decide_eq_true (List.all_eq_true.mp dsX12_reckons_2_ok (204, (.getfield 186, 3)) (List.mem_of_getElem? (i := 2) rfl))
theorem dX12_reckons_207 : decode cX12_reckons 207 = .ok (.iload_n 2, 1) := of_decide_eq_true (List.all_eq_true.mp dsX12_reckons_2_ok (207, (.iload_n 2, 1)) (List.mem_of_getElem? (i := 3) rfl))
theorem dX12_reckons_208 : decode cX12_reckons 208 = .ok (.iconst 1, 1) := of_decide_eq_true (List.all_eq_true.mp dsX12_reckons_2_ok (208, (.iconst 1, 1)) (List.mem_of_getElem? (i := 4) rfl))
theorem dX12_reckons_209 : decode cX12_reckons 209 = .ok (.isub, 1) := of_decide_eq_true (List.all_eq_true.mp dsX12_reckons_2_ok (209, (.isub, 1)) (List.mem_of_getElem? (i := 5) rfl))
theorem dX12_reckons_210 : decode cX12_reckons 210 = .ok (.laload, 1) := of_decide_eq_true (List.all_eq_true.mp dsX12_reckons_2_ok (210, (.laload, 1)) (List.mem_of_getElem? (i := 6) rfl))
theorem dX12_reckons_211 : decode cX12_reckons 211 = .ok (.aload_n 0, 1) := of_decide_eq_true (List.all_eq_true.mp dsX12_reckons_2_ok (211, (.aload_n 0, 1)) (List.mem_of_getElem? (i := 7) rfl))
theorem dX12_reckons_212 : decode cX12_reckons 212 = .ok (.getfield 186, 3) := of_decide_eq_true (List.all_eq_true.mp dsX12_reckons_2_ok (212, (.getfield 186, 3)) (List.mem_of_getElem? (i := 8) rfl))
theorem dX12_reckons_215 : decode cX12_reckons 215 = .ok (.iload_n 2, 1) := of_decide_eq_true (List.all_eq_true.mp dsX12_reckons_2_ok (215, (.iload_n 2, 1)) (List.mem_of_getElem? (i := 9) rfl))
theorem dX12_reckons_216 : decode cX12_reckons 216 = .ok (.laload, 1) := of_decide_eq_true (List.all_eq_true.mp dsX12_reckons_2_ok (216, (.laload, 1)) (List.mem_of_getElem? (i := 10) rfl))
theorem dX12_reckons_217 : decode cX12_reckons 217 = .ok (.invokestatic 409, 3) := of_decide_eq_true (List.all_eq_true.mp dsX12_reckons_2_ok (217, (.invokestatic 409, 3)) (List.mem_of_getElem? (i := 11) rfl))
theorem dX12_reckons_220 : decode cX12_reckons 220 = .ok (.lastore, 1) := of_decide_eq_true (List.all_eq_true.mp dsX12_reckons_2_ok (220, (.lastore, 1)) (List.mem_of_getElem? (i := 12) rfl))
theorem dX12_reckons_221 : decode cX12_reckons 221 = .ok (.iinc 3 1, 3) := of_decide_eq_true (List.all_eq_true.mp dsX12_reckons_2_ok (221, (.iinc 3 1, 3)) (List.mem_of_getElem? (i := 13) rfl))
theorem dX12_reckons_224 : decode cX12_reckons 224 = .ok (.goto (-199), 3) := of_decide_eq_true (List.all_eq_true.mp dsX12_reckons_2_ok (224, (.goto (-199), 3)) (List.mem_of_getElem? (i := 14) rfl))
theorem dX12_reckons_227 : decode cX12_reckons 227 = .ok (.aload_n 0, 1) := of_decide_eq_true (List.all_eq_true.mp dsX12_reckons_2_ok (227, (.aload_n 0, 1)) (List.mem_of_getElem? (i := 15) rfl))
theorem dX12_reckons_228 : decode cX12_reckons 228 = .ok (.getfield 186, 3) := of_decide_eq_true (List.all_eq_true.mp dsX12_reckons_2_ok (228, (.getfield 186, 3)) (List.mem_of_getElem? (i := 16) rfl))
theorem dX12_reckons_231 : decode cX12_reckons 231 = .ok (.iconst 0, 1) := of_decide_eq_true (List.all_eq_true.mp dsX12_reckons_2_ok (231, (.iconst 0, 1)) (List.mem_of_getElem? (i := 17) rfl))
theorem dX12_reckons_232 : decode cX12_reckons 232 = .ok (.laload, 1) := of_decide_eq_true (List.all_eq_true.mp dsX12_reckons_2_ok (232, (.laload, 1)) (List.mem_of_getElem? (i := 18) rfl))
theorem dX12_reckons_233 : decode cX12_reckons 233 = .ok (.lreturn, 1) := of_decide_eq_true (List.all_eq_true.mp dsX12_reckons_2_ok (233, (.lreturn, 1)) (List.mem_of_getElem? (i := 19) rfl))
def fX12_reckons_b221 (N : Nat) (mmI : Nat → Int32) (mm_sumFromF : Nat → Int32) (mm_sumBehindF : Nat → Int32) (mm_codeSortF : Nat → Int32) (mm_askedF : Nat → Int32) (mm_codeValueF : Nat → Int32)  (k25 : ((Nat → Int64) × Int32 × Int32 × Int32) → Option (Int64 × (Nat → Int64))) : ((Nat → Int64) × Int32 × Int32 × Int32) → Option (Int64 × (Nat → Int64)) :=
  fun (mm_stackL_221, x1_221, x2_221, x3_221) => k25 (mm_stackL_221, x1_221, x2_221, x3_221 + 1)
def fX12_reckons_b187 (N : Nat) (mmI : Nat → Int32) (mm_sumFromF : Nat → Int32) (mm_sumBehindF : Nat → Int32) (mm_codeSortF : Nat → Int32) (mm_askedF : Nat → Int32) (mm_codeValueF : Nat → Int32)  (k25 : ((Nat → Int64) × Int32 × Int32 × Int32) → Option (Int64 × (Nat → Int64))) : ((Nat → Int64) × Int32 × Int32 × Int32 × Int32 × Int64) → Option (Int64 × (Nat → Int64)) :=
  fun (mm_stackL_187, x1_187, x2_187, x3_187, y1_187, y2_187) => (xq_bd (xq_astL 500 mm_stackL_187 y1_187 y2_187) fun g_1 => fX12_reckons_b221 N mmI mm_sumFromF mm_sumBehindF mm_codeSortF mm_askedF mm_codeValueF k25 (g_1, x1_187, x2_187, x3_187))
def fX12_reckons_b105 (N : Nat) (mmI : Nat → Int32) (mm_sumFromF : Nat → Int32) (mm_sumBehindF : Nat → Int32) (mm_codeSortF : Nat → Int32) (mm_askedF : Nat → Int32) (mm_codeValueF : Nat → Int32)  (k25 : ((Nat → Int64) × Int32 × Int32 × Int32) → Option (Int64 × (Nat → Int64))) : ((Nat → Int64) × Int32 × Int32 × Int32 × Int32 × Int64) → Option (Int64 × (Nat → Int64)) :=
  fun (mm_stackL_105, x1_105, x2_105, x3_105, y1_105, y2_105) => (xq_bd (xq_astL 500 mm_stackL_105 y1_105 y2_105) fun g_2 => fX12_reckons_b221 N mmI mm_sumFromF mm_sumBehindF mm_codeSortF mm_askedF mm_codeValueF k25 (g_2, x1_105, x2_105 + 1, x3_105))
def fX12_reckons_l25 (N : Nat) (mmI : Nat → Int32) (mm_sumFromF : Nat → Int32) (mm_sumBehindF : Nat → Int32) (mm_codeSortF : Nat → Int32) (mm_askedF : Nat → Int32) (mm_codeValueF : Nat → Int32)  (k25 : ((Nat → Int64) × Int32 × Int32 × Int32) → Option (Int64 × (Nat → Int64))) : ((Nat → Int64) × Int32 × Int32 × Int32) → Option (Int64 × (Nat → Int64)) :=
  fun (mm_stackL_25, x1_25, x2_25, x3_25) => (xq_bd (xq_ald 6 mm_sumBehindF ((3 * (mmI 13)) + x1_25)) fun v_3 => (if ((1600 * (mmI 13)) + v_3) ≤ x3_25 then (xq_bd (xq_aldL 500 mm_stackL_25 0) fun v_4 => some ((v_4, mm_stackL_25))) else (xq_bd (xq_ald 3200 mm_codeSortF x3_25) fun v_5 => (if 30 < v_5 then (if v_5 = 43 then (xq_bd (xq_aldL 500 mm_stackL_25 (x2_25 - 1)) fun v_14 => (xq_bd (xq_astL 500 mm_stackL_25 (x2_25 - 1) (1 - v_14)) fun g_15 => fX12_reckons_b221 N mmI mm_sumFromF mm_sumBehindF mm_codeSortF mm_askedF mm_codeValueF k25 (g_15, x1_25, x2_25, x3_25))) else (if v_5 = 44 then (xq_bd (xq_aldL 500 mm_stackL_25 ((x2_25 + (-2)) - 1)) fun v_11 => (if (lg_cmp v_11 1) = 0 then (xq_bd (xq_aldL 500 mm_stackL_25 (x2_25 + (-2))) fun v_13 => fX12_reckons_b187 N mmI mm_sumFromF mm_sumBehindF mm_codeSortF mm_askedF mm_codeValueF k25 (mm_stackL_25, x1_25, x2_25 + (-2), x3_25, (x2_25 + (-2)) - 1, v_13)) else (xq_bd (xq_aldL 500 mm_stackL_25 ((x2_25 + (-2)) + 1)) fun v_12 => fX12_reckons_b187 N mmI mm_sumFromF mm_sumBehindF mm_codeSortF mm_askedF mm_codeValueF k25 (mm_stackL_25, x1_25, x2_25 + (-2), x3_25, (x2_25 + (-2)) - 1, v_12)))) else (xq_bd (xq_aldL 500 mm_stackL_25 ((x2_25 + (-1)) - 1)) fun v_6 => (xq_bd (xq_aldL 500 mm_stackL_25 (x2_25 + (-1))) fun v_7 => (xq_bd (fX12_two N v_5 v_6 v_7) fun r_8 => (xq_bd (xq_astL 500 mm_stackL_25 ((x2_25 + (-1)) - 1) r_8) fun g_10 => fX12_reckons_b221 N mmI mm_sumFromF mm_sumBehindF mm_codeSortF mm_askedF mm_codeValueF k25 (g_10, x1_25, x2_25 + (-1), x3_25))))))) else (if v_5 = 0 then (xq_bd (xq_ald 3200 mm_codeValueF x3_25) fun v_17 => fX12_reckons_b105 N mmI mm_sumFromF mm_sumBehindF mm_codeSortF mm_askedF mm_codeValueF k25 (mm_stackL_25, x1_25, x2_25, x3_25, x2_25, v_17.toInt64)) else (if v_5 = 30 then fX12_reckons_b105 N mmI mm_sumFromF mm_sumBehindF mm_codeSortF mm_askedF mm_codeValueF k25 (mm_stackL_25, x1_25, x2_25, x3_25, x2_25, 1) else (xq_bd (xq_ald 12 mm_askedF v_5) fun v_16 => fX12_reckons_b105 N mmI mm_sumFromF mm_sumBehindF mm_codeSortF mm_askedF mm_codeValueF k25 (mm_stackL_25, x1_25, x2_25, x3_25, x2_25, v_16.toInt64))))))))
def fX12_reckons (N : Nat) (mmI : Nat → Int32) (mm_sumFromF : Nat → Int32) (mm_sumBehindF : Nat → Int32) (mm_stackL : Nat → Int64) (mm_codeSortF : Nat → Int32) (mm_askedF : Nat → Int32) (mm_codeValueF : Nat → Int32)  (p1 : Int32) : Option (Int64 × (Nat → Int64)) :=
  (xq_bd (xq_ald 6 mm_sumFromF ((3 * (mmI 13)) + p1)) fun v_1 => xq_loop (fX12_reckons_l25 N mmI mm_sumFromF mm_sumBehindF mm_codeSortF mm_askedF mm_codeValueF) N (mm_stackL, p1, 0, (1600 * (mmI 13)) + v_1))
set_option maxHeartbeats 4000000 in
set_option maxRecDepth 100000 in
theorem kX12_reckons (l : Launch) (dC : Nat → ClassId) (dI : Nat → Nat → Nat) (cI cB cJ cZ cM : ClassId) (z : Nat) (ad : Nat → Nat) (N : Nat) (a_p0 : Nat) (mmI : Nat → Int32) (mmJ : Nat → Int64) (mmR : Nat → Nat) (mm_sumFromF : Nat → Int32) (mm_sumBehindF : Nat → Int32) (mm_stackL : Nat → Int64) (mm_codeSortF : Nat → Int32) (mm_askedF : Nat → Int32) (mm_codeValueF : Nat → Int32) (p1 : Int32) {r0 : Int64} {r1 : Nat → Int64} (hf : fX12_reckons N mmI mm_sumFromF mm_sumBehindF mm_stackL mm_codeSortF mm_askedF mm_codeValueF p1 = some (r0, r1)) : xq_Ct l yX12_reckons wsX12_reckons { frames := 2, cells := 0, slots := 0, locals := 49 } (dC, dI) vwCl (xq_tys cI cB cJ cZ cM) z ad [.ref a_p0, .int p1] [(a_p0, .inr (12, oX12 mmI mmJ mmR)), ((mmR 24), .inl (cI, 6, .inl mm_sumFromF)), ((mmR 25), .inl (cI, 6, .inl mm_sumBehindF)), ((mmR 57), .inl (cJ, 500, .inr (.inl mm_stackL))), ((mmR 26), .inl (cI, 3200, .inl mm_codeSortF)), ((mmR 58), .inl (cI, 12, .inl mm_askedF)), ((mmR 27), .inl (cI, 3200, .inl mm_codeValueF))] [(a_p0, .inr (12, oX12 mmI mmJ mmR)), ((mmR 24), .inl (cI, 6, .inl mm_sumFromF)), ((mmR 25), .inl (cI, 6, .inl mm_sumBehindF)), ((mmR 57), .inl (cJ, 500, .inr (.inl r1))), ((mmR 26), .inl (cI, 3200, .inl mm_codeSortF)), ((mmR 58), .inl (cI, 12, .inl mm_askedF)), ((mmR 27), .inl (cI, 3200, .inl mm_codeValueF))] (some (.long r0)) := by
  intro sz
  refine Met.ofW (cc := cX12_reckons) (maxL := 5) (ret := (some .long)) (by decide) rfl ?_
  intro p e s m args below meth c s₁ B hml hv
  obtain ⟨rfl, hsz, hP, hK, hD0, hE, hz⟩ := hv
  have hx := B.exec
  have hb := B.bytes
  have hr := B.returns
  have hts := atoms_spec (ws := wsX12_reckons) B.pre
  have hown : s.vm.findClass RX12 = some m.cls := findClass_of_methodNamed B.named
  have hlocks := B.notSynchronized
  subst hsz
  have hD := hD0.self (sz := s.heap.size)
  have hN := xq_Env.of hE hz hD0
  generalize hAe : va_A [(a_p0, .inr (12, oX12 mmI mmJ mmR)), ((mmR 24), .inl (cI, 6, .inl mm_sumFromF)), ((mmR 25), .inl (cI, 6, .inl mm_sumBehindF)), ((mmR 57), .inl (cJ, 500, .inr (.inl mm_stackL))), ((mmR 26), .inl (cI, 3200, .inl mm_codeSortF)), ((mmR 58), .inl (cI, 12, .inl mm_askedF)), ((mmR 27), .inl (cI, 3200, .inl mm_codeValueF))] s.heap.size = A at hD hN ⊢
  have hA : ∀ q : Nat, s.heap.size ≤ q → A q := fun q h => by rw [← hAe]; exact Or.inr h
  clear hAe hD0
  have hS : va_S A s.heap s.heap [] := va_S.rf
  have hl := lv_entry ([.ref a_p0, .int p1]) (n := 5) (Nat.le_of_ble_eq_true rfl)
  rw [lg_entry_eq]
  generalize (lg_sl ([.ref a_p0, .int p1]) ++ List.replicate (5 - (lg_sl ([.ref a_p0, .int p1])).length) Slot.unset).toArray = ls at hl ⊢
  have hl : lv_has ls 5 [(0, .ref a_p0), (1, .int p1)] := hl
  have hw0 := hts (.fieldLink RX12 51 "DistantVoiceModel" "bank" "I") (by decide +kernel)
  have hinX12 : ∀ w ∈ wsX120, w ∈ wsX12_reckons := fun w h => List.mem_cons_of_mem _ (List.mem_append_right _ h)
  have hw2 := hts (.fieldLink RX12 84 "DistantVoiceModel" "sumFrom" "[I") (by decide +kernel)
  have hw3 := hts (.fieldLink RX12 87 "DistantVoiceModel" "sumBehind" "[I") (by decide +kernel)
  have hw4 := hts (.fieldLink RX12 186 "DistantVoiceModel" "stack" "[J") (by decide +kernel)
  have hw5 := hts (.fieldLink RX12 90 "DistantVoiceModel" "codeSort" "[I") (by decide +kernel)
  have hw6 := hts (.fieldLink RX12 189 "DistantVoiceModel" "asked" "[I") (by decide +kernel)
  have hw7 := hts (.fieldLink RX12 93 "DistantVoiceModel" "codeValue" "[I") (by decide +kernel)
  have l25 : ∀ n25 : Nat, ∀ (mm_stackL_25 : Nat → Int64) (x1_25 : Int32) (x2_25 : Int32) (x3_25 : Int32) (ls : Array Slot) (H : Heap) (locs : List Loc), xq_loop (fX12_reckons_l25 N mmI mm_sumFromF mm_sumBehindF mm_codeSortF mm_askedF mm_codeValueF) n25 (mm_stackL_25, x1_25, x2_25, x3_25) = some (r0, r1) → va_P (dC, dI) vwCl [(a_p0, .inr (12, oX12 mmI mmJ mmR)), ((mmR 24), .inl (cI, 6, .inl mm_sumFromF)), ((mmR 25), .inl (cI, 6, .inl mm_sumBehindF)), ((mmR 57), .inl (cJ, 500, .inr (.inl mm_stackL_25))), ((mmR 26), .inl (cI, 3200, .inl mm_codeSortF)), ((mmR 58), .inl (cI, 12, .inl mm_askedF)), ((mmR 27), .inl (cI, 3200, .inl mm_codeValueF))] H → va_D A [(a_p0, .inr (12, oX12 mmI mmJ mmR)), ((mmR 24), .inl (cI, 6, .inl mm_sumFromF)), ((mmR 25), .inl (cI, 6, .inl mm_sumBehindF)), ((mmR 57), .inl (cJ, 500, .inr (.inl mm_stackL_25))), ((mmR 26), .inl (cI, 3200, .inl mm_codeSortF)), ((mmR 58), .inl (cI, 12, .inl mm_askedF)), ((mmR 27), .inl (cI, 3200, .inl mm_codeValueF))] → va_S A s.heap H locs → lv_has ls 5 [(0, .ref a_p0), (1, .int x1_25), (2, .int x2_25), (3, .int x3_25)] → W p l e (headSpec wsX12_reckons { frames := 2, cells := 0, slots := 0, locals := 49 }).room s m [.ref a_p0, .int p1].toArray below meth c H locs 0 0 (MQ below (xq_Q (dC, dI) vwCl (xq_tys cI cB cJ cZ cM) A [(a_p0, .inr (12, oX12 mmI mmJ mmR)), ((mmR 24), .inl (cI, 6, .inl mm_sumFromF)), ((mmR 25), .inl (cI, 6, .inl mm_sumBehindF)), ((mmR 57), .inl (cJ, 500, .inr (.inl r1))), ((mmR 26), .inl (cI, 3200, .inl mm_codeSortF)), ((mmR 58), .inl (cI, 12, .inl mm_askedF)), ((mmR 27), .inl (cI, 3200, .inl mm_codeValueF))] (some (.long r0))) [.ref a_p0, .int p1].toArray s 0 0 A) (F0 m 25 ls []) := by
    intro n25
    induction n25 with
    | zero => intro mm_stackL_25 x1_25 x2_25 x3_25 ls H locs hf; cases (show none = some (r0, r1) from hf)
    | succ n25 ih25 =>
      have b221 : ∀ (mm_stackL_221 : Nat → Int64) (x1_221 : Int32) (x2_221 : Int32) (x3_221 : Int32) (ls : Array Slot) (H : Heap) (locs : List Loc), fX12_reckons_b221 N mmI mm_sumFromF mm_sumBehindF mm_codeSortF mm_askedF mm_codeValueF (xq_loop (fX12_reckons_l25 N mmI mm_sumFromF mm_sumBehindF mm_codeSortF mm_askedF mm_codeValueF) n25) (mm_stackL_221, x1_221, x2_221, x3_221) = some (r0, r1) → va_P (dC, dI) vwCl [(a_p0, .inr (12, oX12 mmI mmJ mmR)), ((mmR 24), .inl (cI, 6, .inl mm_sumFromF)), ((mmR 25), .inl (cI, 6, .inl mm_sumBehindF)), ((mmR 57), .inl (cJ, 500, .inr (.inl mm_stackL_221))), ((mmR 26), .inl (cI, 3200, .inl mm_codeSortF)), ((mmR 58), .inl (cI, 12, .inl mm_askedF)), ((mmR 27), .inl (cI, 3200, .inl mm_codeValueF))] H → va_D A [(a_p0, .inr (12, oX12 mmI mmJ mmR)), ((mmR 24), .inl (cI, 6, .inl mm_sumFromF)), ((mmR 25), .inl (cI, 6, .inl mm_sumBehindF)), ((mmR 57), .inl (cJ, 500, .inr (.inl mm_stackL_221))), ((mmR 26), .inl (cI, 3200, .inl mm_codeSortF)), ((mmR 58), .inl (cI, 12, .inl mm_askedF)), ((mmR 27), .inl (cI, 3200, .inl mm_codeValueF))] → va_S A s.heap H locs → lv_has ls 5 [(0, .ref a_p0), (1, .int x1_221), (2, .int x2_221), (3, .int x3_221)] → W p l e (headSpec wsX12_reckons { frames := 2, cells := 0, slots := 0, locals := 49 }).room s m [.ref a_p0, .int p1].toArray below meth c H locs 0 0 (MQ below (xq_Q (dC, dI) vwCl (xq_tys cI cB cJ cZ cM) A [(a_p0, .inr (12, oX12 mmI mmJ mmR)), ((mmR 24), .inl (cI, 6, .inl mm_sumFromF)), ((mmR 25), .inl (cI, 6, .inl mm_sumBehindF)), ((mmR 57), .inl (cJ, 500, .inr (.inl r1))), ((mmR 26), .inl (cI, 3200, .inl mm_codeSortF)), ((mmR 58), .inl (cI, 12, .inl mm_askedF)), ((mmR 27), .inl (cI, 3200, .inl mm_codeValueF))] (some (.long r0))) [.ref a_p0, .int p1].toArray s 0 0 A) (F0 m 221 ls []) := by
        intro mm_stackL_221 x1_221 x2_221 x3_221 ls H locs hf hP hD hS hl
        unfold fX12_reckons_b221 at hf
        refine lv_iinc (v := x3_221 + 1) (lv' := [(3, .int (x3_221 + 1)), (0, .ref a_p0), (1, .int x1_221), (2, .int x2_221)]) hx hb dX12_reckons_221 hl (k := 3) rfl (congrArg (fun q9 => x3_221 + q9) (by decide : Int32.ofInt 1 = 1)) (by decide) rfl (fun ls hl => ?_)
        refine lv_goto (tgt := 25) hx hb dX12_reckons_224 (by decide) ?_
        exact ih25 mm_stackL_221 x1_221 x2_221 (x3_221 + 1) _ _ _ hf hP hD hS (lv_sub hl [1, 2, 3, 0] rfl)
      have b187 : ∀ (mm_stackL_187 : Nat → Int64) (x1_187 : Int32) (x2_187 : Int32) (x3_187 : Int32) (y1_187 : Int32) (y2_187 : Int64) (ls : Array Slot) (H : Heap) (locs : List Loc), fX12_reckons_b187 N mmI mm_sumFromF mm_sumBehindF mm_codeSortF mm_askedF mm_codeValueF (xq_loop (fX12_reckons_l25 N mmI mm_sumFromF mm_sumBehindF mm_codeSortF mm_askedF mm_codeValueF) n25) (mm_stackL_187, x1_187, x2_187, x3_187, y1_187, y2_187) = some (r0, r1) → va_P (dC, dI) vwCl [(a_p0, .inr (12, oX12 mmI mmJ mmR)), ((mmR 24), .inl (cI, 6, .inl mm_sumFromF)), ((mmR 25), .inl (cI, 6, .inl mm_sumBehindF)), ((mmR 57), .inl (cJ, 500, .inr (.inl mm_stackL_187))), ((mmR 26), .inl (cI, 3200, .inl mm_codeSortF)), ((mmR 58), .inl (cI, 12, .inl mm_askedF)), ((mmR 27), .inl (cI, 3200, .inl mm_codeValueF))] H → va_D A [(a_p0, .inr (12, oX12 mmI mmJ mmR)), ((mmR 24), .inl (cI, 6, .inl mm_sumFromF)), ((mmR 25), .inl (cI, 6, .inl mm_sumBehindF)), ((mmR 57), .inl (cJ, 500, .inr (.inl mm_stackL_187))), ((mmR 26), .inl (cI, 3200, .inl mm_codeSortF)), ((mmR 58), .inl (cI, 12, .inl mm_askedF)), ((mmR 27), .inl (cI, 3200, .inl mm_codeValueF))] → va_S A s.heap H locs → lv_has ls 5 [(0, .ref a_p0), (1, .int x1_187), (2, .int x2_187), (3, .int x3_187)] → W p l e (headSpec wsX12_reckons { frames := 2, cells := 0, slots := 0, locals := 49 }).room s m [.ref a_p0, .int p1].toArray below meth c H locs 0 0 (MQ below (xq_Q (dC, dI) vwCl (xq_tys cI cB cJ cZ cM) A [(a_p0, .inr (12, oX12 mmI mmJ mmR)), ((mmR 24), .inl (cI, 6, .inl mm_sumFromF)), ((mmR 25), .inl (cI, 6, .inl mm_sumBehindF)), ((mmR 57), .inl (cJ, 500, .inr (.inl r1))), ((mmR 26), .inl (cI, 3200, .inl mm_codeSortF)), ((mmR 58), .inl (cI, 12, .inl mm_askedF)), ((mmR 27), .inl (cI, 3200, .inl mm_codeValueF))] (some (.long r0))) [.ref a_p0, .int p1].toArray s 0 0 A) (F0 m 187 ls [.long y2_187, .int y1_187, .ref ((mmR 57))]) := by
        intro mm_stackL_187 x1_187 x2_187 x3_187 y1_187 y2_187 ls H locs hf hP hD hS hl
        unfold fX12_reckons_b187 at hf
        refine xq_last hx hb hK hP hD hS 3 2 rfl rfl hf dX12_reckons_187 (fun g_1 H locs hf hP hD hS => ?_)
        have hP : va_P (dC, dI) vwCl [(a_p0, .inr (12, oX12 mmI mmJ mmR)), ((mmR 24), .inl (cI, 6, .inl mm_sumFromF)), ((mmR 25), .inl (cI, 6, .inl mm_sumBehindF)), ((mmR 57), .inl (cJ, 500, .inr (.inl g_1))), ((mmR 26), .inl (cI, 3200, .inl mm_codeSortF)), ((mmR 58), .inl (cI, 12, .inl mm_askedF)), ((mmR 27), .inl (cI, 3200, .inl mm_codeValueF))] H := hP
        have hD : va_D A [(a_p0, .inr (12, oX12 mmI mmJ mmR)), ((mmR 24), .inl (cI, 6, .inl mm_sumFromF)), ((mmR 25), .inl (cI, 6, .inl mm_sumBehindF)), ((mmR 57), .inl (cJ, 500, .inr (.inl g_1))), ((mmR 26), .inl (cI, 3200, .inl mm_codeSortF)), ((mmR 58), .inl (cI, 12, .inl mm_askedF)), ((mmR 27), .inl (cI, 3200, .inl mm_codeValueF))] := hD
        refine lv_goto (tgt := 221) hx hb dX12_reckons_188 (by decide) ?_
        exact b221 g_1 x1_187 x2_187 x3_187 _ _ _ hf hP hD hS (lv_sub hl [0, 1, 2, 3] rfl)
      have b105 : ∀ (mm_stackL_105 : Nat → Int64) (x1_105 : Int32) (x2_105 : Int32) (x3_105 : Int32) (y1_105 : Int32) (y2_105 : Int64) (ls : Array Slot) (H : Heap) (locs : List Loc), fX12_reckons_b105 N mmI mm_sumFromF mm_sumBehindF mm_codeSortF mm_askedF mm_codeValueF (xq_loop (fX12_reckons_l25 N mmI mm_sumFromF mm_sumBehindF mm_codeSortF mm_askedF mm_codeValueF) n25) (mm_stackL_105, x1_105, x2_105, x3_105, y1_105, y2_105) = some (r0, r1) → va_P (dC, dI) vwCl [(a_p0, .inr (12, oX12 mmI mmJ mmR)), ((mmR 24), .inl (cI, 6, .inl mm_sumFromF)), ((mmR 25), .inl (cI, 6, .inl mm_sumBehindF)), ((mmR 57), .inl (cJ, 500, .inr (.inl mm_stackL_105))), ((mmR 26), .inl (cI, 3200, .inl mm_codeSortF)), ((mmR 58), .inl (cI, 12, .inl mm_askedF)), ((mmR 27), .inl (cI, 3200, .inl mm_codeValueF))] H → va_D A [(a_p0, .inr (12, oX12 mmI mmJ mmR)), ((mmR 24), .inl (cI, 6, .inl mm_sumFromF)), ((mmR 25), .inl (cI, 6, .inl mm_sumBehindF)), ((mmR 57), .inl (cJ, 500, .inr (.inl mm_stackL_105))), ((mmR 26), .inl (cI, 3200, .inl mm_codeSortF)), ((mmR 58), .inl (cI, 12, .inl mm_askedF)), ((mmR 27), .inl (cI, 3200, .inl mm_codeValueF))] → va_S A s.heap H locs → lv_has ls 5 [(0, .ref a_p0), (1, .int x1_105), (2, .int x2_105), (3, .int x3_105)] → W p l e (headSpec wsX12_reckons { frames := 2, cells := 0, slots := 0, locals := 49 }).room s m [.ref a_p0, .int p1].toArray below meth c H locs 0 0 (MQ below (xq_Q (dC, dI) vwCl (xq_tys cI cB cJ cZ cM) A [(a_p0, .inr (12, oX12 mmI mmJ mmR)), ((mmR 24), .inl (cI, 6, .inl mm_sumFromF)), ((mmR 25), .inl (cI, 6, .inl mm_sumBehindF)), ((mmR 57), .inl (cJ, 500, .inr (.inl r1))), ((mmR 26), .inl (cI, 3200, .inl mm_codeSortF)), ((mmR 58), .inl (cI, 12, .inl mm_askedF)), ((mmR 27), .inl (cI, 3200, .inl mm_codeValueF))] (some (.long r0))) [.ref a_p0, .int p1].toArray s 0 0 A) (F0 m 105 ls [.long y2_105, .int y1_105, .ref ((mmR 57))]) := by
        intro mm_stackL_105 x1_105 x2_105 x3_105 y1_105 y2_105 ls H locs hf hP hD hS hl
        unfold fX12_reckons_b105 at hf
        refine xq_last hx hb hK hP hD hS 3 2 rfl rfl hf dX12_reckons_105 (fun g_1 H locs hf hP hD hS => ?_)
        have hP : va_P (dC, dI) vwCl [(a_p0, .inr (12, oX12 mmI mmJ mmR)), ((mmR 24), .inl (cI, 6, .inl mm_sumFromF)), ((mmR 25), .inl (cI, 6, .inl mm_sumBehindF)), ((mmR 57), .inl (cJ, 500, .inr (.inl g_1))), ((mmR 26), .inl (cI, 3200, .inl mm_codeSortF)), ((mmR 58), .inl (cI, 12, .inl mm_askedF)), ((mmR 27), .inl (cI, 3200, .inl mm_codeValueF))] H := hP
        have hD : va_D A [(a_p0, .inr (12, oX12 mmI mmJ mmR)), ((mmR 24), .inl (cI, 6, .inl mm_sumFromF)), ((mmR 25), .inl (cI, 6, .inl mm_sumBehindF)), ((mmR 57), .inl (cJ, 500, .inr (.inl g_1))), ((mmR 26), .inl (cI, 3200, .inl mm_codeSortF)), ((mmR 58), .inl (cI, 12, .inl mm_askedF)), ((mmR 27), .inl (cI, 3200, .inl mm_codeValueF))] := hD
        refine lv_iinc (v := x2_105 + 1) (lv' := [(2, .int (x2_105 + 1)), (0, .ref a_p0), (1, .int x1_105), (3, .int x3_105)]) hx hb dX12_reckons_106 hl (k := 2) rfl (congrArg (fun q9 => x2_105 + q9) (by decide : Int32.ofInt 1 = 1)) (by decide) rfl (fun ls hl => ?_)
        refine lv_goto (tgt := 221) hx hb dX12_reckons_109 (by decide) ?_
        exact b221 g_1 x1_105 (x2_105 + 1) x3_105 _ _ _ hf hP hD hS (lv_sub hl [1, 2, 0, 3] rfl)
      intro mm_stackL_25 x1_25 x2_25 x3_25 ls H locs hf hP hD hS hl
      have hf : fX12_reckons_l25 N mmI mm_sumFromF mm_sumBehindF mm_codeSortF mm_askedF mm_codeValueF (xq_loop (fX12_reckons_l25 N mmI mm_sumFromF mm_sumBehindF mm_codeSortF mm_askedF mm_codeValueF) n25) (mm_stackL_25, x1_25, x2_25, x3_25) = some (r0, r1) := hf
      unfold fX12_reckons_l25 at hf
      refine lv_iload_n hx hb dX12_reckons_25 rfl (lv_at hl 3 rfl) ?_
      refine lv_sipush (v := 1600) hx hb dX12_reckons_26 (by decide) ?_
      refine lv_aload_n hx hb dX12_reckons_29 rfl (lv_at hl 0 rfl) ?_
      refine va_get (D := (dC, dI)) (ci := 12) (v := .int (mmI 13)) (C := RX12) (T := TX12) (N := 70) hx hb hts hinX12 hown hK hP 0 rfl rfl 13 (by decide) hw0 (fun _ h9 => h9) rfl dX12_reckons_30 ?_
      refine lv_imul hx hb dX12_reckons_33 ?_
      refine lv_aload_n hx hb dX12_reckons_34 rfl (lv_at hl 0 rfl) ?_
      refine va_get (D := (dC, dI)) (ci := 12) (v := .ref ((mmR 25))) (C := RX12) (T := TX12) (N := 70) hx hb hts hinX12 hown hK hP 0 rfl rfl 25 (by decide) hw3 (fun _ h9 => h9) rfl dX12_reckons_35 ?_
      refine lv_iconst (v := 3) hx hb dX12_reckons_38 (by decide) ?_
      refine lv_aload_n hx hb dX12_reckons_39 rfl (lv_at hl 0 rfl) ?_
      refine va_get (D := (dC, dI)) (ci := 12) (v := .int (mmI 13)) (C := RX12) (T := TX12) (N := 70) hx hb hts hinX12 hown hK hP 0 rfl rfl 13 (by decide) hw0 (fun _ h9 => h9) rfl dX12_reckons_40 ?_
      refine lv_imul hx hb dX12_reckons_43 ?_
      refine lv_iload_n hx hb dX12_reckons_44 rfl (lv_at hl 1 rfl) ?_
      refine lv_iadd hx hb dX12_reckons_45 ?_
      refine xq_iald hx hb hK hP 2 0 rfl rfl hf dX12_reckons_46 (fun v_1 hf => ?_)
      refine lv_iadd hx hb dX12_reckons_47 ?_
      refine lv_icmp_ge (tgt := 227) hx hb dX12_reckons_48 (by decide) (fun c_ => ?_) (fun c_ => ?_)
      · have hf := xq_pos hf c_
        refine lv_aload_n hx hb dX12_reckons_227 rfl (lv_at hl 0 rfl) ?_
        refine va_get (D := (dC, dI)) (ci := 12) (v := .ref ((mmR 57))) (C := RX12) (T := TX12) (N := 70) hx hb hts hinX12 hown hK hP 0 rfl rfl 57 (by decide) hw4 (fun _ h9 => h9) rfl dX12_reckons_228 ?_
        refine lv_iconst (v := 0) hx hb dX12_reckons_231 (by decide) ?_
        refine xq_lald hx hb hK hP 3 2 rfl rfl hf dX12_reckons_232 (fun v_2 hf => ?_)
        have e9 := Option.some.inj hf
        have e9_0 : v_2 = r0 := congrArg (fun t => t.1) e9
        have e9_1 : mm_stackL_25 = r1 := congrArg (fun t => t.2) e9
        clear e9 hf
        try clear b105
        try clear b187
        try clear b221
        try clear l25
        try clear ih25
        subst e9_0
        subst e9_1
        exact xq_lret hx hb hr hlocks hK hP hD hS dX12_reckons_233
      · have hf := xq_neg hf c_
        refine lv_aload_n hx hb dX12_reckons_51 rfl (lv_at hl 0 rfl) ?_
        refine va_get (D := (dC, dI)) (ci := 12) (v := .ref ((mmR 26))) (C := RX12) (T := TX12) (N := 70) hx hb hts hinX12 hown hK hP 0 rfl rfl 26 (by decide) hw5 (fun _ h9 => h9) rfl dX12_reckons_52 ?_
        refine lv_iload_n hx hb dX12_reckons_55 rfl (lv_at hl 3 rfl) ?_
        refine xq_iald hx hb hK hP 4 0 rfl rfl hf dX12_reckons_56 (fun v_3 hf => ?_)
        refine lv_istore (lv' := [(4, .int v_3), (0, .ref a_p0), (1, .int x1_25), (2, .int x2_25), (3, .int x3_25)]) hx hb dX12_reckons_57 hl (by decide) rfl (fun ls hl => ?_)
        refine lv_iload hx hb dX12_reckons_59 (lv_at hl 0 rfl) ?_
        refine lv_bipush (v := 30) hx hb dX12_reckons_61 (by decide) ?_
        refine lv_icmp_gt (tgt := 112) hx hb dX12_reckons_63 (by decide) (fun c_ => ?_) (fun c_ => ?_)
        · have hf := xq_pos hf c_
          refine lv_iload hx hb dX12_reckons_112 (lv_at hl 0 rfl) ?_
          refine lv_bipush (v := 43) hx hb dX12_reckons_114 (by decide) ?_
          refine lv_icmp_ne (tgt := 140) hx hb dX12_reckons_116 (by decide) (fun c_ => ?_) (fun c_ => ?_)
          · have hf := xq_neg hf c_
            refine lv_iload hx hb dX12_reckons_140 (lv_at hl 0 rfl) ?_
            refine lv_bipush (v := 44) hx hb dX12_reckons_142 (by decide) ?_
            refine lv_icmp_ne (tgt := 191) hx hb dX12_reckons_144 (by decide) (fun c_ => ?_) (fun c_ => ?_)
            · have hf := xq_neg hf c_
              refine lv_iinc (v := x2_25 + (-1)) (lv' := [(2, .int (x2_25 + (-1))), (4, .int v_3), (0, .ref a_p0), (1, .int x1_25), (3, .int x3_25)]) hx hb dX12_reckons_191 hl (k := 3) rfl (congrArg (fun q9 => x2_25 + q9) (by decide : Int32.ofInt (-1) = (-1))) (by decide) rfl (fun ls hl => ?_)
              refine lv_aload_n hx hb dX12_reckons_194 rfl (lv_at hl 2 rfl) ?_
              refine va_get (D := (dC, dI)) (ci := 12) (v := .ref ((mmR 57))) (C := RX12) (T := TX12) (N := 70) hx hb hts hinX12 hown hK hP 0 rfl rfl 57 (by decide) hw4 (fun _ h9 => h9) rfl dX12_reckons_195 ?_
              refine lv_iload_n hx hb dX12_reckons_198 rfl (lv_at hl 0 rfl) ?_
              refine lv_iconst (v := 1) hx hb dX12_reckons_199 (by decide) ?_
              refine lv_isub hx hb dX12_reckons_200 ?_
              refine lv_iload hx hb dX12_reckons_201 (lv_at hl 1 rfl) ?_
              refine lv_aload_n hx hb dX12_reckons_203 rfl (lv_at hl 2 rfl) ?_
              refine va_get (D := (dC, dI)) (ci := 12) (v := .ref ((mmR 57))) (C := RX12) (T := TX12) (N := 70) hx hb hts hinX12 hown hK hP 0 rfl rfl 57 (by decide) hw4 (fun _ h9 => h9) rfl dX12_reckons_204 ?_
              refine lv_iload_n hx hb dX12_reckons_207 rfl (lv_at hl 0 rfl) ?_
              refine lv_iconst (v := 1) hx hb dX12_reckons_208 (by decide) ?_
              refine lv_isub hx hb dX12_reckons_209 ?_
              refine xq_lald hx hb hK hP 3 2 rfl rfl hf dX12_reckons_210 (fun v_4 hf => ?_)
              refine lv_aload_n hx hb dX12_reckons_211 rfl (lv_at hl 2 rfl) ?_
              refine va_get (D := (dC, dI)) (ci := 12) (v := .ref ((mmR 57))) (C := RX12) (T := TX12) (N := 70) hx hb hts hinX12 hown hK hP 0 rfl rfl 57 (by decide) hw4 (fun _ h9 => h9) rfl dX12_reckons_212 ?_
              refine lv_iload_n hx hb dX12_reckons_215 rfl (lv_at hl 0 rfl) ?_
              refine xq_lald hx hb hK hP 3 2 rfl rfl hf dX12_reckons_216 (fun v_5 hf => ?_)
              obtain ⟨r_6, h_7, hf⟩ := xq_bd_some hf
              refine xq_callS (As := [.int v_3, .long v_4, .long v_5]) (rest := [.int ((x2_25 + (-1)) - 1), .ref ((mmR 57))]) ⟨hx, hb, hml, hown, hts⟩ (kX12_two l dC dI cI cB cJ cZ cM z ad N v_3 v_4 v_5 h_7) (va_cwS 3 hts gX12_reckons_X12_two rfl rfl rfl (by decide +kernel) ⟨Nat.le_of_ble_eq_true rfl, Nat.le_of_ble_eq_true rfl⟩) hN hK hP hD hS hA [] (by decide) rfl rfl rfl hl.1 rfl (Nat.le_of_ble_eq_true rfl) dX12_reckons_217 ⟨Nat.zero_le _, Nat.zero_le _⟩ (fun H locs hP hD hS => ?_)
              have hP : va_P (dC, dI) vwCl [(a_p0, .inr (12, oX12 mmI mmJ mmR)), ((mmR 24), .inl (cI, 6, .inl mm_sumFromF)), ((mmR 25), .inl (cI, 6, .inl mm_sumBehindF)), ((mmR 57), .inl (cJ, 500, .inr (.inl mm_stackL_25))), ((mmR 26), .inl (cI, 3200, .inl mm_codeSortF)), ((mmR 58), .inl (cI, 12, .inl mm_askedF)), ((mmR 27), .inl (cI, 3200, .inl mm_codeValueF))] H := hP
              have hD : va_D A [(a_p0, .inr (12, oX12 mmI mmJ mmR)), ((mmR 24), .inl (cI, 6, .inl mm_sumFromF)), ((mmR 25), .inl (cI, 6, .inl mm_sumBehindF)), ((mmR 57), .inl (cJ, 500, .inr (.inl mm_stackL_25))), ((mmR 26), .inl (cI, 3200, .inl mm_codeSortF)), ((mmR 58), .inl (cI, 12, .inl mm_askedF)), ((mmR 27), .inl (cI, 3200, .inl mm_codeValueF))] := hD
              refine W.eq (g2 := F0 m 220 ls [.long r_6, .int ((x2_25 + (-1)) - 1), .ref ((mmR 57))]) rfl ?_
              refine xq_last hx hb hK hP hD hS 3 2 rfl rfl hf dX12_reckons_220 (fun g_8 H locs hf hP hD hS => ?_)
              have hP : va_P (dC, dI) vwCl [(a_p0, .inr (12, oX12 mmI mmJ mmR)), ((mmR 24), .inl (cI, 6, .inl mm_sumFromF)), ((mmR 25), .inl (cI, 6, .inl mm_sumBehindF)), ((mmR 57), .inl (cJ, 500, .inr (.inl g_8))), ((mmR 26), .inl (cI, 3200, .inl mm_codeSortF)), ((mmR 58), .inl (cI, 12, .inl mm_askedF)), ((mmR 27), .inl (cI, 3200, .inl mm_codeValueF))] H := hP
              have hD : va_D A [(a_p0, .inr (12, oX12 mmI mmJ mmR)), ((mmR 24), .inl (cI, 6, .inl mm_sumFromF)), ((mmR 25), .inl (cI, 6, .inl mm_sumBehindF)), ((mmR 57), .inl (cJ, 500, .inr (.inl g_8))), ((mmR 26), .inl (cI, 3200, .inl mm_codeSortF)), ((mmR 58), .inl (cI, 12, .inl mm_askedF)), ((mmR 27), .inl (cI, 3200, .inl mm_codeValueF))] := hD
              exact b221 g_8 x1_25 (x2_25 + (-1)) x3_25 _ _ _ hf hP hD hS (lv_sub hl [2, 3, 0, 4] rfl)
            · have hf := xq_pos hf c_
              refine lv_iinc (v := x2_25 + (-2)) (lv' := [(2, .int (x2_25 + (-2))), (4, .int v_3), (0, .ref a_p0), (1, .int x1_25), (3, .int x3_25)]) hx hb dX12_reckons_147 hl (k := 3) rfl (congrArg (fun q9 => x2_25 + q9) (by decide : Int32.ofInt (-2) = (-2))) (by decide) rfl (fun ls hl => ?_)
              refine lv_aload_n hx hb dX12_reckons_150 rfl (lv_at hl 2 rfl) ?_
              refine va_get (D := (dC, dI)) (ci := 12) (v := .ref ((mmR 57))) (C := RX12) (T := TX12) (N := 70) hx hb hts hinX12 hown hK hP 0 rfl rfl 57 (by decide) hw4 (fun _ h9 => h9) rfl dX12_reckons_151 ?_
              refine lv_iload_n hx hb dX12_reckons_154 rfl (lv_at hl 0 rfl) ?_
              refine lv_iconst (v := 1) hx hb dX12_reckons_155 (by decide) ?_
              refine lv_isub hx hb dX12_reckons_156 ?_
              refine lv_aload_n hx hb dX12_reckons_157 rfl (lv_at hl 2 rfl) ?_
              refine va_get (D := (dC, dI)) (ci := 12) (v := .ref ((mmR 57))) (C := RX12) (T := TX12) (N := 70) hx hb hts hinX12 hown hK hP 0 rfl rfl 57 (by decide) hw4 (fun _ h9 => h9) rfl dX12_reckons_158 ?_
              refine lv_iload_n hx hb dX12_reckons_161 rfl (lv_at hl 0 rfl) ?_
              refine lv_iconst (v := 1) hx hb dX12_reckons_162 (by decide) ?_
              refine lv_isub hx hb dX12_reckons_163 ?_
              refine xq_lald hx hb hK hP 3 2 rfl rfl hf dX12_reckons_164 (fun v_9 hf => ?_)
              refine lv_lconst (v := 1) hx hb dX12_reckons_165 (by decide) ?_
              refine W.lcmp hx hb dX12_reckons_166 ?_
              refine lv_if_ne (tgt := 179) hx hb dX12_reckons_167 (by decide) (fun c_ => ?_) (fun c_ => ?_)
              · have hf := xq_neg hf c_
                refine lv_aload_n hx hb dX12_reckons_179 rfl (lv_at hl 2 rfl) ?_
                refine va_get (D := (dC, dI)) (ci := 12) (v := .ref ((mmR 57))) (C := RX12) (T := TX12) (N := 70) hx hb hts hinX12 hown hK hP 0 rfl rfl 57 (by decide) hw4 (fun _ h9 => h9) rfl dX12_reckons_180 ?_
                refine lv_iload_n hx hb dX12_reckons_183 rfl (lv_at hl 0 rfl) ?_
                refine lv_iconst (v := 1) hx hb dX12_reckons_184 (by decide) ?_
                refine lv_iadd hx hb dX12_reckons_185 ?_
                refine xq_lald hx hb hK hP 3 2 rfl rfl hf dX12_reckons_186 (fun v_10 hf => ?_)
                exact b187 mm_stackL_25 x1_25 (x2_25 + (-2)) x3_25 ((x2_25 + (-2)) - 1) v_10 _ _ _ hf hP hD hS (lv_sub hl [2, 3, 0, 4] rfl)
              · have hf := xq_pos hf c_
                refine lv_aload_n hx hb dX12_reckons_170 rfl (lv_at hl 2 rfl) ?_
                refine va_get (D := (dC, dI)) (ci := 12) (v := .ref ((mmR 57))) (C := RX12) (T := TX12) (N := 70) hx hb hts hinX12 hown hK hP 0 rfl rfl 57 (by decide) hw4 (fun _ h9 => h9) rfl dX12_reckons_171 ?_
                refine lv_iload_n hx hb dX12_reckons_174 rfl (lv_at hl 0 rfl) ?_
                refine xq_lald hx hb hK hP 3 2 rfl rfl hf dX12_reckons_175 (fun v_11 hf => ?_)
                refine lv_goto (tgt := 187) hx hb dX12_reckons_176 (by decide) ?_
                exact b187 mm_stackL_25 x1_25 (x2_25 + (-2)) x3_25 ((x2_25 + (-2)) - 1) v_11 _ _ _ hf hP hD hS (lv_sub hl [2, 3, 0, 4] rfl)
          · have hf := xq_pos hf c_
            refine lv_aload_n hx hb dX12_reckons_119 rfl (lv_at hl 1 rfl) ?_
            refine va_get (D := (dC, dI)) (ci := 12) (v := .ref ((mmR 57))) (C := RX12) (T := TX12) (N := 70) hx hb hts hinX12 hown hK hP 0 rfl rfl 57 (by decide) hw4 (fun _ h9 => h9) rfl dX12_reckons_120 ?_
            refine lv_iload_n hx hb dX12_reckons_123 rfl (lv_at hl 3 rfl) ?_
            refine lv_iconst (v := 1) hx hb dX12_reckons_124 (by decide) ?_
            refine lv_isub hx hb dX12_reckons_125 ?_
            refine lv_lconst (v := 1) hx hb dX12_reckons_126 (by decide) ?_
            refine lv_aload_n hx hb dX12_reckons_127 rfl (lv_at hl 1 rfl) ?_
            refine va_get (D := (dC, dI)) (ci := 12) (v := .ref ((mmR 57))) (C := RX12) (T := TX12) (N := 70) hx hb hts hinX12 hown hK hP 0 rfl rfl 57 (by decide) hw4 (fun _ h9 => h9) rfl dX12_reckons_128 ?_
            refine lv_iload_n hx hb dX12_reckons_131 rfl (lv_at hl 3 rfl) ?_
            refine lv_iconst (v := 1) hx hb dX12_reckons_132 (by decide) ?_
            refine lv_isub hx hb dX12_reckons_133 ?_
            refine xq_lald hx hb hK hP 3 2 rfl rfl hf dX12_reckons_134 (fun v_12 hf => ?_)
            refine lv_lsub hx hb dX12_reckons_135 ?_
            refine xq_last hx hb hK hP hD hS 3 2 rfl rfl hf dX12_reckons_136 (fun g_13 H locs hf hP hD hS => ?_)
            have hP : va_P (dC, dI) vwCl [(a_p0, .inr (12, oX12 mmI mmJ mmR)), ((mmR 24), .inl (cI, 6, .inl mm_sumFromF)), ((mmR 25), .inl (cI, 6, .inl mm_sumBehindF)), ((mmR 57), .inl (cJ, 500, .inr (.inl g_13))), ((mmR 26), .inl (cI, 3200, .inl mm_codeSortF)), ((mmR 58), .inl (cI, 12, .inl mm_askedF)), ((mmR 27), .inl (cI, 3200, .inl mm_codeValueF))] H := hP
            have hD : va_D A [(a_p0, .inr (12, oX12 mmI mmJ mmR)), ((mmR 24), .inl (cI, 6, .inl mm_sumFromF)), ((mmR 25), .inl (cI, 6, .inl mm_sumBehindF)), ((mmR 57), .inl (cJ, 500, .inr (.inl g_13))), ((mmR 26), .inl (cI, 3200, .inl mm_codeSortF)), ((mmR 58), .inl (cI, 12, .inl mm_askedF)), ((mmR 27), .inl (cI, 3200, .inl mm_codeValueF))] := hD
            refine lv_goto (tgt := 221) hx hb dX12_reckons_137 (by decide) ?_
            exact b221 g_13 x1_25 x2_25 x3_25 _ _ _ hf hP hD hS (lv_sub hl [1, 2, 3, 4] rfl)
        · have hf := xq_neg hf c_
          refine lv_aload_n hx hb dX12_reckons_66 rfl (lv_at hl 1 rfl) ?_
          refine va_get (D := (dC, dI)) (ci := 12) (v := .ref ((mmR 57))) (C := RX12) (T := TX12) (N := 70) hx hb hts hinX12 hown hK hP 0 rfl rfl 57 (by decide) hw4 (fun _ h9 => h9) rfl dX12_reckons_67 ?_
          refine lv_iload_n hx hb dX12_reckons_70 rfl (lv_at hl 3 rfl) ?_
          refine lv_iload hx hb dX12_reckons_71 (lv_at hl 0 rfl) ?_
          refine lv_if_ne (tgt := 86) hx hb dX12_reckons_73 (by decide) (fun c_ => ?_) (fun c_ => ?_)
          · have hf := xq_neg hf c_
            refine lv_iload hx hb dX12_reckons_86 (lv_at hl 0 rfl) ?_
            refine lv_bipush (v := 30) hx hb dX12_reckons_88 (by decide) ?_
            refine lv_icmp_ne (tgt := 97) hx hb dX12_reckons_90 (by decide) (fun c_ => ?_) (fun c_ => ?_)
            · have hf := xq_neg hf c_
              refine lv_aload_n hx hb dX12_reckons_97 rfl (lv_at hl 1 rfl) ?_
              refine va_get (D := (dC, dI)) (ci := 12) (v := .ref ((mmR 58))) (C := RX12) (T := TX12) (N := 70) hx hb hts hinX12 hown hK hP 0 rfl rfl 58 (by decide) hw6 (fun _ h9 => h9) rfl dX12_reckons_98 ?_
              refine lv_iload hx hb dX12_reckons_101 (lv_at hl 0 rfl) ?_
              refine xq_iald hx hb hK hP 5 0 rfl rfl hf dX12_reckons_103 (fun v_14 hf => ?_)
              refine lv_i2l (v := v_14.toInt64) hx hb dX12_reckons_104 rfl ?_
              exact b105 mm_stackL_25 x1_25 x2_25 x3_25 x2_25 v_14.toInt64 _ _ _ hf hP hD hS (lv_sub hl [1, 2, 3, 4] rfl)
            · have hf := xq_pos hf c_
              refine lv_lconst (v := 1) hx hb dX12_reckons_93 (by decide) ?_
              refine lv_goto (tgt := 105) hx hb dX12_reckons_94 (by decide) ?_
              exact b105 mm_stackL_25 x1_25 x2_25 x3_25 x2_25 1 _ _ _ hf hP hD hS (lv_sub hl [1, 2, 3, 4] rfl)
          · have hf := xq_pos hf c_
            refine lv_aload_n hx hb dX12_reckons_76 rfl (lv_at hl 1 rfl) ?_
            refine va_get (D := (dC, dI)) (ci := 12) (v := .ref ((mmR 27))) (C := RX12) (T := TX12) (N := 70) hx hb hts hinX12 hown hK hP 0 rfl rfl 27 (by decide) hw7 (fun _ h9 => h9) rfl dX12_reckons_77 ?_
            refine lv_iload_n hx hb dX12_reckons_80 rfl (lv_at hl 4 rfl) ?_
            refine xq_iald hx hb hK hP 6 0 rfl rfl hf dX12_reckons_81 (fun v_15 hf => ?_)
            refine lv_i2l (v := v_15.toInt64) hx hb dX12_reckons_82 rfl ?_
            refine lv_goto (tgt := 105) hx hb dX12_reckons_83 (by decide) ?_
            exact b105 mm_stackL_25 x1_25 x2_25 x3_25 x2_25 v_15.toInt64 _ _ _ hf hP hD hS (lv_sub hl [1, 2, 3, 4] rfl)
  unfold fX12_reckons at hf
  refine lv_iconst (v := 0) hx hb dX12_reckons_0 (by decide) ?_
  refine lv_istore_n (lv' := [(2, .int 0), (0, .ref a_p0), (1, .int p1)]) hx hb dX12_reckons_1 rfl hl (by decide) rfl (fun ls hl => ?_)
  refine lv_sipush (v := 1600) hx hb dX12_reckons_2 (by decide) ?_
  refine lv_aload_n hx hb dX12_reckons_5 rfl (lv_at hl 1 rfl) ?_
  refine va_get (D := (dC, dI)) (ci := 12) (v := .int (mmI 13)) (C := RX12) (T := TX12) (N := 70) hx hb hts hinX12 hown hK hP 0 rfl rfl 13 (by decide) hw0 (fun _ h9 => h9) rfl dX12_reckons_6 ?_
  refine lv_imul hx hb dX12_reckons_9 ?_
  refine lv_aload_n hx hb dX12_reckons_10 rfl (lv_at hl 1 rfl) ?_
  refine va_get (D := (dC, dI)) (ci := 12) (v := .ref ((mmR 24))) (C := RX12) (T := TX12) (N := 70) hx hb hts hinX12 hown hK hP 0 rfl rfl 24 (by decide) hw2 (fun _ h9 => h9) rfl dX12_reckons_11 ?_
  refine lv_iconst (v := 3) hx hb dX12_reckons_14 (by decide) ?_
  refine lv_aload_n hx hb dX12_reckons_15 rfl (lv_at hl 1 rfl) ?_
  refine va_get (D := (dC, dI)) (ci := 12) (v := .int (mmI 13)) (C := RX12) (T := TX12) (N := 70) hx hb hts hinX12 hown hK hP 0 rfl rfl 13 (by decide) hw0 (fun _ h9 => h9) rfl dX12_reckons_16 ?_
  refine lv_imul hx hb dX12_reckons_19 ?_
  refine lv_iload_n hx hb dX12_reckons_20 rfl (lv_at hl 2 rfl) ?_
  refine lv_iadd hx hb dX12_reckons_21 ?_
  refine xq_iald hx hb hK hP 1 0 rfl rfl hf dX12_reckons_22 (fun v_1 hf => ?_)
  refine lv_iadd hx hb dX12_reckons_23 ?_
  refine lv_istore_n (lv' := [(3, .int ((1600 * (mmI 13)) + v_1)), (2, .int 0), (0, .ref a_p0), (1, .int p1)]) hx hb dX12_reckons_24 rfl hl (by decide) rfl (fun ls hl => ?_)
  exact l25 N mm_stackL p1 0 ((1600 * (mmI 13)) + v_1) _ _ _ hf hP hD hS (lv_sub hl [2, 3, 1, 0] rfl)
def dsX12_isTold_0 : List (Nat × Instr × Nat) := [(0, (.aload_n 0, 1)), (1, (.getfield 84, 3)), (4, (.iconst 3, 1)), (5, (.aload_n 0, 1)), (6, (.getfield 51, 3)), (9, (.imul, 1)), (10, (.iload_n 1, 1)), (11, (.iadd, 1)), (12, (.iaload, 1)), (13, (.iconst (-1), 1)), (14, (.if_icmp .eq 7, 3)), (17, (.iconst 1, 1)), (18, (.goto 4, 3)), (21, (.iconst 0, 1)), (22, (.ireturn, 1))]
theorem dsX12_isTold_0_ok : (dsX12_isTold_0.all fun q => decide (decode cX12_isTold q.1 = .ok q.2)) = true := by decide +kernel
theorem dX12_isTold_0 : decode cX12_isTold 0 = .ok (.aload_n 0, 1) := of_decide_eq_true (List.all_eq_true.mp dsX12_isTold_0_ok (0, (.aload_n 0, 1)) (List.mem_of_getElem? (i := 0) rfl))
theorem dX12_isTold_1 : decode cX12_isTold 1 = .ok (.getfield 84, 3) := of_decide_eq_true (List.all_eq_true.mp dsX12_isTold_0_ok (1, (.getfield 84, 3)) (List.mem_of_getElem? (i := 1) rfl))
theorem dX12_isTold_4 : decode cX12_isTold 4 = .ok (.iconst 3, 1) := of_decide_eq_true (List.all_eq_true.mp dsX12_isTold_0_ok (4, (.iconst 3, 1)) (List.mem_of_getElem? (i := 2) rfl))
theorem dX12_isTold_5 : decode cX12_isTold 5 = .ok (.aload_n 0, 1) := of_decide_eq_true (List.all_eq_true.mp dsX12_isTold_0_ok (5, (.aload_n 0, 1)) (List.mem_of_getElem? (i := 3) rfl))
theorem dX12_isTold_6 : decode cX12_isTold 6 = .ok (.getfield 51, 3) := of_decide_eq_true (List.all_eq_true.mp dsX12_isTold_0_ok (6, (.getfield 51, 3)) (List.mem_of_getElem? (i := 4) rfl))
theorem dX12_isTold_9 : decode cX12_isTold 9 = .ok (.imul, 1) := of_decide_eq_true (List.all_eq_true.mp dsX12_isTold_0_ok (9, (.imul, 1)) (List.mem_of_getElem? (i := 5) rfl))
theorem dX12_isTold_10 : decode cX12_isTold 10 = .ok (.iload_n 1, 1) := of_decide_eq_true (List.all_eq_true.mp dsX12_isTold_0_ok (10, (.iload_n 1, 1)) (List.mem_of_getElem? (i := 6) rfl))
theorem dX12_isTold_11 : decode cX12_isTold 11 = .ok (.iadd, 1) := of_decide_eq_true (List.all_eq_true.mp dsX12_isTold_0_ok (11, (.iadd, 1)) (List.mem_of_getElem? (i := 7) rfl))
theorem dX12_isTold_12 : decode cX12_isTold 12 = .ok (.iaload, 1) := of_decide_eq_true (List.all_eq_true.mp dsX12_isTold_0_ok (12, (.iaload, 1)) (List.mem_of_getElem? (i := 8) rfl))
theorem dX12_isTold_13 : decode cX12_isTold 13 = .ok (.iconst (-1), 1) := of_decide_eq_true (List.all_eq_true.mp dsX12_isTold_0_ok (13, (.iconst (-1), 1)) (List.mem_of_getElem? (i := 9) rfl))
theorem dX12_isTold_14 : decode cX12_isTold 14 = .ok (.if_icmp .eq 7, 3) := of_decide_eq_true (List.all_eq_true.mp dsX12_isTold_0_ok (14, (.if_icmp .eq 7, 3)) (List.mem_of_getElem? (i := 10) rfl))
theorem dX12_isTold_17 : decode cX12_isTold 17 = .ok (.iconst 1, 1) := of_decide_eq_true (List.all_eq_true.mp dsX12_isTold_0_ok (17, (.iconst 1, 1)) (List.mem_of_getElem? (i := 11) rfl))
theorem dX12_isTold_18 : decode cX12_isTold 18 = .ok (.goto 4, 3) := of_decide_eq_true (List.all_eq_true.mp dsX12_isTold_0_ok (18, (.goto 4, 3)) (List.mem_of_getElem? (i := 12) rfl))
theorem dX12_isTold_21 : decode cX12_isTold 21 = .ok (.iconst 0, 1) := of_decide_eq_true (List.all_eq_true.mp dsX12_isTold_0_ok (21, (.iconst 0, 1)) (List.mem_of_getElem? (i := 13) rfl))
theorem dX12_isTold_22 : decode cX12_isTold 22 = .ok (.ireturn, 1) := of_decide_eq_true (List.all_eq_true.mp dsX12_isTold_0_ok (22, (.ireturn, 1)) (List.mem_of_getElem? (i := 14) rfl))
def fX12_isTold (N : Nat) (mmI : Nat → Int32) (mm_sumFromF : Nat → Int32)  (p1 : Int32) : Option (Int32) :=
  (xq_bd (xq_ald 6 mm_sumFromF ((3 * (mmI 13)) + p1)) fun v_1 => (if v_1 = ((-1)) then some 0 else some 1))
set_option maxHeartbeats 4000000 in
set_option maxRecDepth 100000 in
theorem kX12_isTold (l : Launch) (dC : Nat → ClassId) (dI : Nat → Nat → Nat) (cI cB cJ cZ cM : ClassId) (z : Nat) (ad : Nat → Nat) (N : Nat) (a_p0 : Nat) (mmI : Nat → Int32) (mmJ : Nat → Int64) (mmR : Nat → Nat) (mm_sumFromF : Nat → Int32) (p1 : Int32) {r0 : Int32} (hf : fX12_isTold N mmI mm_sumFromF p1 = some r0) : xq_Ct l yX12_isTold wsX12_isTold { frames := 0, cells := 0, slots := 0, locals := 0 } (dC, dI) vwCl (xq_tys cI cB cJ cZ cM) z ad [.ref a_p0, .int p1] [(a_p0, .inr (12, oX12 mmI mmJ mmR)), ((mmR 24), .inl (cI, 6, .inl mm_sumFromF))] [(a_p0, .inr (12, oX12 mmI mmJ mmR)), ((mmR 24), .inl (cI, 6, .inl mm_sumFromF))] (some (.int r0)) := by
  intro sz
  refine Met.ofW (cc := cX12_isTold) (maxL := 2) (ret := (some .boolean)) (by decide) rfl ?_
  intro p e s m args below meth c s₁ B hml hv
  obtain ⟨rfl, hsz, hP, hK, hD0, hE, hz⟩ := hv
  have hx := B.exec
  have hb := B.bytes
  have hr := B.returns
  have hts := atoms_spec (ws := wsX12_isTold) B.pre
  have hown : s.vm.findClass RX12 = some m.cls := findClass_of_methodNamed B.named
  have hlocks := B.notSynchronized
  subst hsz
  have hD := hD0.self (sz := s.heap.size)
  have hN := xq_Env.of hE hz hD0
  generalize hAe : va_A [(a_p0, .inr (12, oX12 mmI mmJ mmR)), ((mmR 24), .inl (cI, 6, .inl mm_sumFromF))] s.heap.size = A at hD hN ⊢
  have hA : ∀ q : Nat, s.heap.size ≤ q → A q := fun q h => by rw [← hAe]; exact Or.inr h
  clear hAe hD0
  have hS : va_S A s.heap s.heap [] := va_S.rf
  have hl := lv_entry ([.ref a_p0, .int p1]) (n := 2) (Nat.le_of_ble_eq_true rfl)
  rw [lg_entry_eq]
  generalize (lg_sl ([.ref a_p0, .int p1]) ++ List.replicate (2 - (lg_sl ([.ref a_p0, .int p1])).length) Slot.unset).toArray = ls at hl ⊢
  have hl : lv_has ls 2 [(0, .ref a_p0), (1, .int p1)] := hl
  have hw0 := hts (.fieldLink RX12 84 "DistantVoiceModel" "sumFrom" "[I") (by decide +kernel)
  have hinX12 : ∀ w ∈ wsX120, w ∈ wsX12_isTold := fun w h => List.mem_cons_of_mem _ (List.mem_append_right _ h)
  have hw2 := hts (.fieldLink RX12 51 "DistantVoiceModel" "bank" "I") (by decide +kernel)
  unfold fX12_isTold at hf
  refine lv_aload_n hx hb dX12_isTold_0 rfl (lv_at hl 0 rfl) ?_
  refine va_get (D := (dC, dI)) (ci := 12) (v := .ref ((mmR 24))) (C := RX12) (T := TX12) (N := 70) hx hb hts hinX12 hown hK hP 0 rfl rfl 24 (by decide) hw0 (fun _ h9 => h9) rfl dX12_isTold_1 ?_
  refine lv_iconst (v := 3) hx hb dX12_isTold_4 (by decide) ?_
  refine lv_aload_n hx hb dX12_isTold_5 rfl (lv_at hl 0 rfl) ?_
  refine va_get (D := (dC, dI)) (ci := 12) (v := .int (mmI 13)) (C := RX12) (T := TX12) (N := 70) hx hb hts hinX12 hown hK hP 0 rfl rfl 13 (by decide) hw2 (fun _ h9 => h9) rfl dX12_isTold_6 ?_
  refine lv_imul hx hb dX12_isTold_9 ?_
  refine lv_iload_n hx hb dX12_isTold_10 rfl (lv_at hl 1 rfl) ?_
  refine lv_iadd hx hb dX12_isTold_11 ?_
  refine xq_iald hx hb hK hP 1 0 rfl rfl hf dX12_isTold_12 (fun v_1 hf => ?_)
  refine lv_iconst (v := (-1)) hx hb dX12_isTold_13 (by decide) ?_
  refine lv_icmp_eq (tgt := 21) hx hb dX12_isTold_14 (by decide) (fun c_ => ?_) (fun c_ => ?_)
  · have hf := xq_pos hf c_
    refine lv_iconst (v := 0) hx hb dX12_isTold_21 (by decide) ?_
    have e9_0 : 0 = r0 := Option.some.inj hf
    subst e9_0
    exact xq_zret hx hb hr (by decide +kernel) hlocks hK hP hD hS dX12_isTold_22
  · have hf := xq_neg hf c_
    refine lv_iconst (v := 1) hx hb dX12_isTold_17 (by decide) ?_
    refine lv_goto (tgt := 22) hx hb dX12_isTold_18 (by decide) ?_
    have e9_0 : 1 = r0 := Option.some.inj hf
    subst e9_0
    exact xq_zret hx hb hr (by decide +kernel) hlocks hK hP hD hS dX12_isTold_22
def dsX12_cut_0 : List (Nat × Instr × Nat) := [(0, (.lload_n 0, 1)), (1, (.lconst 0, 1)), (2, (.lcmp, 1)), (3, (.ifCond .ge 7, 3)), (6, (.iconst 0, 1)), (7, (.goto 16, 3)), (10, (.lload_n 0, 1)), (11, (.iload_n 2, 1)), (12, (.i2l, 1)), (13, (.lcmp, 1)), (14, (.ifCond .le 7, 3)), (17, (.iload_n 2, 1)), (18, (.goto 5, 3)), (21, (.lload_n 0, 1)), (22, (.l2i, 1)), (23, (.ireturn, 1))]
theorem dsX12_cut_0_ok : (dsX12_cut_0.all fun q => decide (decode cX12_cut q.1 = .ok q.2)) = true := by decide +kernel
theorem dX12_cut_0 : decode cX12_cut 0 = .ok (.lload_n 0, 1) := of_decide_eq_true (List.all_eq_true.mp dsX12_cut_0_ok (0, (.lload_n 0, 1)) (List.mem_of_getElem? (i := 0) rfl))
theorem dX12_cut_1 : decode cX12_cut 1 = .ok (.lconst 0, 1) := of_decide_eq_true (List.all_eq_true.mp dsX12_cut_0_ok (1, (.lconst 0, 1)) (List.mem_of_getElem? (i := 1) rfl))
theorem dX12_cut_2 : decode cX12_cut 2 = .ok (.lcmp, 1) := of_decide_eq_true (List.all_eq_true.mp dsX12_cut_0_ok (2, (.lcmp, 1)) (List.mem_of_getElem? (i := 2) rfl))
theorem dX12_cut_3 : decode cX12_cut 3 = .ok (.ifCond .ge 7, 3) := of_decide_eq_true (List.all_eq_true.mp dsX12_cut_0_ok (3, (.ifCond .ge 7, 3)) (List.mem_of_getElem? (i := 3) rfl))
theorem dX12_cut_6 : decode cX12_cut 6 = .ok (.iconst 0, 1) := of_decide_eq_true (List.all_eq_true.mp dsX12_cut_0_ok (6, (.iconst 0, 1)) (List.mem_of_getElem? (i := 4) rfl))
theorem dX12_cut_7 : decode cX12_cut 7 = .ok (.goto 16, 3) := of_decide_eq_true (List.all_eq_true.mp dsX12_cut_0_ok (7, (.goto 16, 3)) (List.mem_of_getElem? (i := 5) rfl))
theorem dX12_cut_10 : decode cX12_cut 10 = .ok (.lload_n 0, 1) := of_decide_eq_true (List.all_eq_true.mp dsX12_cut_0_ok (10, (.lload_n 0, 1)) (List.mem_of_getElem? (i := 6) rfl))
theorem dX12_cut_11 : decode cX12_cut 11 = .ok (.iload_n 2, 1) := of_decide_eq_true (List.all_eq_true.mp dsX12_cut_0_ok (11, (.iload_n 2, 1)) (List.mem_of_getElem? (i := 7) rfl))
theorem dX12_cut_12 : decode cX12_cut 12 = .ok (.i2l, 1) := of_decide_eq_true (List.all_eq_true.mp dsX12_cut_0_ok (12, (.i2l, 1)) (List.mem_of_getElem? (i := 8) rfl))
theorem dX12_cut_13 : decode cX12_cut 13 = .ok (.lcmp, 1) := of_decide_eq_true (List.all_eq_true.mp dsX12_cut_0_ok (13, (.lcmp, 1)) (List.mem_of_getElem? (i := 9) rfl))
theorem dX12_cut_14 : decode cX12_cut 14 = .ok (.ifCond .le 7, 3) := of_decide_eq_true (List.all_eq_true.mp dsX12_cut_0_ok (14, (.ifCond .le 7, 3)) (List.mem_of_getElem? (i := 10) rfl))
theorem dX12_cut_17 : decode cX12_cut 17 = .ok (.iload_n 2, 1) := of_decide_eq_true (List.all_eq_true.mp dsX12_cut_0_ok (17, (.iload_n 2, 1)) (List.mem_of_getElem? (i := 11) rfl))
theorem dX12_cut_18 : decode cX12_cut 18 = .ok (.goto 5, 3) := of_decide_eq_true (List.all_eq_true.mp dsX12_cut_0_ok (18, (.goto 5, 3)) (List.mem_of_getElem? (i := 12) rfl))
theorem dX12_cut_21 : decode cX12_cut 21 = .ok (.lload_n 0, 1) := of_decide_eq_true (List.all_eq_true.mp dsX12_cut_0_ok (21, (.lload_n 0, 1)) (List.mem_of_getElem? (i := 13) rfl))
theorem dX12_cut_22 : decode cX12_cut 22 = .ok (.l2i, 1) := of_decide_eq_true (List.all_eq_true.mp dsX12_cut_0_ok (22, (.l2i, 1)) (List.mem_of_getElem? (i := 14) rfl))
theorem dX12_cut_23 : decode cX12_cut 23 = .ok (.ireturn, 1) := of_decide_eq_true (List.all_eq_true.mp dsX12_cut_0_ok (23, (.ireturn, 1)) (List.mem_of_getElem? (i := 15) rfl))
def fX12_cut (N : Nat)   (p0 : Int64) (p1 : Int32) : Option (Int32) :=
  (if 0 ≤ (lg_cmp p0 0) then (if (lg_cmp p0 p1.toInt64) ≤ 0 then some p0.toInt32 else some p1) else some 0)
set_option maxHeartbeats 4000000 in
set_option maxRecDepth 100000 in
theorem kX12_cut (l : Launch) (dC : Nat → ClassId) (dI : Nat → Nat → Nat) (cI cB cJ cZ cM : ClassId) (z : Nat) (ad : Nat → Nat) (N : Nat) (p0 : Int64) (p1 : Int32) {r0 : Int32} (hf : fX12_cut N p0 p1 = some r0) : xq_Ct l yX12_cut wsX12_cut { frames := 0, cells := 0, slots := 0, locals := 0 } (dC, dI) vwCl (xq_tys cI cB cJ cZ cM) z ad [.long p0, .int p1] [] [] (some (.int r0)) := by
  intro sz
  refine Met.ofW (cc := cX12_cut) (maxL := 3) (ret := (some .int)) (by decide) rfl ?_
  intro p e s m args below meth c s₁ B hml hv
  obtain ⟨rfl, hsz, hP, hK, hD0, hE, hz⟩ := hv
  have hx := B.exec
  have hb := B.bytes
  have hr := B.returns
  have hts := atoms_spec (ws := wsX12_cut) B.pre
  have hown : s.vm.findClass RX12 = some m.cls := findClass_of_methodNamed B.named
  have hlocks := B.notSynchronized
  subst hsz
  have hD := hD0.self (sz := s.heap.size)
  have hN := xq_Env.of hE hz hD0
  generalize hAe : va_A [] s.heap.size = A at hD hN ⊢
  have hA : ∀ q : Nat, s.heap.size ≤ q → A q := fun q h => by rw [← hAe]; exact Or.inr h
  clear hAe hD0
  have hS : va_S A s.heap s.heap [] := va_S.rf
  have hl := lv_entry ([.long p0, .int p1]) (n := 3) (Nat.le_of_ble_eq_true rfl)
  rw [lg_entry_eq]
  generalize (lg_sl ([.long p0, .int p1]) ++ List.replicate (3 - (lg_sl ([.long p0, .int p1])).length) Slot.unset).toArray = ls at hl ⊢
  have hl : lv_has ls 3 [(0, .long p0), (2, .int p1)] := hl
  unfold fX12_cut at hf
  refine lv_lload_n hx hb dX12_cut_0 rfl (lv_at hl 0 rfl) ?_
  refine lv_lconst (v := 0) hx hb dX12_cut_1 (by decide) ?_
  refine W.lcmp hx hb dX12_cut_2 ?_
  refine lv_if_ge (tgt := 10) hx hb dX12_cut_3 (by decide) (fun c_ => ?_) (fun c_ => ?_)
  · have hf := xq_pos hf c_
    refine lv_lload_n hx hb dX12_cut_10 rfl (lv_at hl 0 rfl) ?_
    refine lv_iload_n hx hb dX12_cut_11 rfl (lv_at hl 1 rfl) ?_
    refine lv_i2l (v := p1.toInt64) hx hb dX12_cut_12 rfl ?_
    refine W.lcmp hx hb dX12_cut_13 ?_
    refine lv_if_le (tgt := 21) hx hb dX12_cut_14 (by decide) (fun c_ => ?_) (fun c_ => ?_)
    · have hf := xq_pos hf c_
      refine lv_lload_n hx hb dX12_cut_21 rfl (lv_at hl 0 rfl) ?_
      refine lv_l2i (v := p0.toInt32) hx hb dX12_cut_22 rfl ?_
      have e9_0 : p0.toInt32 = r0 := Option.some.inj hf
      subst e9_0
      exact xq_iret hx hb hr hlocks hK hP hD hS dX12_cut_23
    · have hf := xq_neg hf c_
      refine lv_iload_n hx hb dX12_cut_17 rfl (lv_at hl 1 rfl) ?_
      refine lv_goto (tgt := 23) hx hb dX12_cut_18 (by decide) ?_
      have e9_0 : p1 = r0 := Option.some.inj hf
      subst e9_0
      exact xq_iret hx hb hr hlocks hK hP hD hS dX12_cut_23
  · have hf := xq_neg hf c_
    refine lv_iconst (v := 0) hx hb dX12_cut_6 (by decide) ?_
    refine lv_goto (tgt := 23) hx hb dX12_cut_7 (by decide) ?_
    have e9_0 : 0 = r0 := Option.some.inj hf
    subst e9_0
    exact xq_iret hx hb hr hlocks hK hP hD hS dX12_cut_23
def dsX12_farOf_0 : List (Nat × Instr × Nat) := [(0, (.iconst 2, 1)), (1, (.aload_n 0, 1)), (2, (.getfield 153, 3)), (5, (.iload_n 1, 1)), (6, (.iaload, 1)), (7, (.imul, 1)), (8, (.aload_n 0, 1)), (9, (.getfield 54, 3)), (12, (.aload_n 0, 1)), (13, (.getfield 51, 3)), (16, (.iaload, 1)), (17, (.if_icmp .le 22, 3)), (20, (.aload_n 0, 1)), (21, (.getfield 54, 3)), (24, (.aload_n 0, 1)), (25, (.getfield 51, 3)), (28, (.iaload, 1)), (29, (.aload_n 0, 1)), (30, (.getfield 153, 3)), (33, (.iload_n 1, 1)), (34, (.iaload, 1)), (35, (.isub, 1)), (36, (.goto 9, 3)), (39, (.aload_n 0, 1)), (40, (.getfield 153, 3)), (43, (.iload_n 1, 1)), (44, (.iaload, 1)), (45, (.ireturn, 1))]
theorem dsX12_farOf_0_ok : (dsX12_farOf_0.all fun q => decide (decode cX12_farOf q.1 = .ok q.2)) = true := by decide +kernel
theorem dX12_farOf_0 : decode cX12_farOf 0 = .ok (.iconst 2, 1) := of_decide_eq_true (List.all_eq_true.mp dsX12_farOf_0_ok (0, (.iconst 2, 1)) (List.mem_of_getElem? (i := 0) rfl))
theorem dX12_farOf_1 : decode cX12_farOf 1 = .ok (.aload_n 0, 1) := of_decide_eq_true (List.all_eq_true.mp dsX12_farOf_0_ok (1, (.aload_n 0, 1)) (List.mem_of_getElem? (i := 1) rfl))
theorem dX12_farOf_2 : decode cX12_farOf 2 = .ok (.getfield 153, 3) := of_decide_eq_true (List.all_eq_true.mp dsX12_farOf_0_ok (2, (.getfield 153, 3)) (List.mem_of_getElem? (i := 2) rfl))
theorem dX12_farOf_5 : decode cX12_farOf 5 = .ok (.iload_n 1, 1) := of_decide_eq_true (List.all_eq_true.mp dsX12_farOf_0_ok (5, (.iload_n 1, 1)) (List.mem_of_getElem? (i := 3) rfl))
theorem dX12_farOf_6 : decode cX12_farOf 6 = .ok (.iaload, 1) := of_decide_eq_true (List.all_eq_true.mp dsX12_farOf_0_ok (6, (.iaload, 1)) (List.mem_of_getElem? (i := 4) rfl))
theorem dX12_farOf_7 : decode cX12_farOf 7 = .ok (.imul, 1) := of_decide_eq_true (List.all_eq_true.mp dsX12_farOf_0_ok (7, (.imul, 1)) (List.mem_of_getElem? (i := 5) rfl))
theorem dX12_farOf_8 : decode cX12_farOf 8 = .ok (.aload_n 0, 1) := of_decide_eq_true (List.all_eq_true.mp dsX12_farOf_0_ok (8, (.aload_n 0, 1)) (List.mem_of_getElem? (i := 6) rfl))
theorem dX12_farOf_9 : decode cX12_farOf 9 = .ok (.getfield 54, 3) := of_decide_eq_true (List.all_eq_true.mp dsX12_farOf_0_ok (9, (.getfield 54, 3)) (List.mem_of_getElem? (i := 7) rfl))
theorem dX12_farOf_12 : decode cX12_farOf 12 = .ok (.aload_n 0, 1) := of_decide_eq_true (List.all_eq_true.mp dsX12_farOf_0_ok (12, (.aload_n 0, 1)) (List.mem_of_getElem? (i := 8) rfl))
theorem dX12_farOf_13 : decode cX12_farOf 13 = .ok (.getfield 51, 3) := of_decide_eq_true (List.all_eq_true.mp dsX12_farOf_0_ok (13, (.getfield 51, 3)) (List.mem_of_getElem? (i := 9) rfl))
theorem dX12_farOf_16 : decode cX12_farOf 16 = .ok (.iaload, 1) := of_decide_eq_true (List.all_eq_true.mp dsX12_farOf_0_ok (16, (.iaload, 1)) (List.mem_of_getElem? (i := 10) rfl))
theorem dX12_farOf_17 : decode cX12_farOf 17 = .ok (.if_icmp .le 22, 3) := of_decide_eq_true (List.all_eq_true.mp dsX12_farOf_0_ok (17, (.if_icmp .le 22, 3)) (List.mem_of_getElem? (i := 11) rfl))
theorem dX12_farOf_20 : decode cX12_farOf 20 = .ok (.aload_n 0, 1) := of_decide_eq_true (List.all_eq_true.mp dsX12_farOf_0_ok (20, (.aload_n 0, 1)) (List.mem_of_getElem? (i := 12) rfl))
theorem dX12_farOf_21 : decode cX12_farOf 21 = .ok (.getfield 54, 3) := of_decide_eq_true (List.all_eq_true.mp dsX12_farOf_0_ok (21, (.getfield 54, 3)) (List.mem_of_getElem? (i := 13) rfl))
theorem dX12_farOf_24 : decode cX12_farOf 24 = .ok (.aload_n 0, 1) := of_decide_eq_true (List.all_eq_true.mp dsX12_farOf_0_ok (24, (.aload_n 0, 1)) (List.mem_of_getElem? (i := 14) rfl))
theorem dX12_farOf_25 : decode cX12_farOf 25 = .ok (.getfield 51, 3) := of_decide_eq_true (List.all_eq_true.mp dsX12_farOf_0_ok (25, (.getfield 51, 3)) (List.mem_of_getElem? (i := 15) rfl))
theorem dX12_farOf_28 : decode cX12_farOf 28 = .ok (.iaload, 1) := of_decide_eq_true (List.all_eq_true.mp dsX12_farOf_0_ok (28, (.iaload, 1)) (List.mem_of_getElem? (i := 16) rfl))
theorem dX12_farOf_29 : decode cX12_farOf 29 = .ok (.aload_n 0, 1) := of_decide_eq_true (List.all_eq_true.mp dsX12_farOf_0_ok (29, (.aload_n 0, 1)) (List.mem_of_getElem? (i := 17) rfl))
theorem dX12_farOf_30 : decode cX12_farOf 30 = .ok (.getfield 153, 3) := of_decide_eq_true (List.all_eq_true.mp dsX12_farOf_0_ok (30, (.getfield 153, 3)) (List.mem_of_getElem? (i := 18) rfl))
theorem dX12_farOf_33 : decode cX12_farOf 33 = .ok (.iload_n 1, 1) := of_decide_eq_true (List.all_eq_true.mp dsX12_farOf_0_ok (33, (.iload_n 1, 1)) (List.mem_of_getElem? (i := 19) rfl))
theorem dX12_farOf_34 : decode cX12_farOf 34 = .ok (.iaload, 1) := of_decide_eq_true (List.all_eq_true.mp dsX12_farOf_0_ok (34, (.iaload, 1)) (List.mem_of_getElem? (i := 20) rfl))
theorem dX12_farOf_35 : decode cX12_farOf 35 = .ok (.isub, 1) := of_decide_eq_true (List.all_eq_true.mp dsX12_farOf_0_ok (35, (.isub, 1)) (List.mem_of_getElem? (i := 21) rfl))
theorem dX12_farOf_36 : decode cX12_farOf 36 = .ok (.goto 9, 3) := of_decide_eq_true (List.all_eq_true.mp dsX12_farOf_0_ok (36, (.goto 9, 3)) (List.mem_of_getElem? (i := 22) rfl))
theorem dX12_farOf_39 : decode cX12_farOf 39 = .ok (.aload_n 0, 1) := of_decide_eq_true (List.all_eq_true.mp dsX12_farOf_0_ok (39, (.aload_n 0, 1)) (List.mem_of_getElem? (i := 23) rfl))
theorem dX12_farOf_40 : decode cX12_farOf 40 = .ok (.getfield 153, 3) := of_decide_eq_true (List.all_eq_true.mp dsX12_farOf_0_ok (40, (.getfield 153, 3)) (List.mem_of_getElem? (i := 24) rfl))
theorem dX12_farOf_43 : decode cX12_farOf 43 = .ok (.iload_n 1, 1) := of_decide_eq_true (List.all_eq_true.mp dsX12_farOf_0_ok (43, (.iload_n 1, 1)) (List.mem_of_getElem? (i := 25) rfl))
theorem dX12_farOf_44 : decode cX12_farOf 44 = .ok (.iaload, 1) := of_decide_eq_true (List.all_eq_true.mp dsX12_farOf_0_ok (44, (.iaload, 1)) (List.mem_of_getElem? (i := 26) rfl))
theorem dX12_farOf_45 : decode cX12_farOf 45 = .ok (.ireturn, 1) := of_decide_eq_true (List.all_eq_true.mp dsX12_farOf_0_ok (45, (.ireturn, 1)) (List.mem_of_getElem? (i := 27) rfl))
def fX12_farOf (N : Nat) (mmI : Nat → Int32) (mm_mileOfF : Nat → Int32) (mm_milesToldF : Nat → Int32)  (p1 : Int32) : Option (Int32) :=
  (xq_bd (xq_ald 22 mm_mileOfF p1) fun v_1 => (xq_bd (xq_ald 2 mm_milesToldF (mmI 13)) fun v_2 => (if (2 * v_1) ≤ v_2 then (xq_bd (xq_ald 22 mm_mileOfF p1) fun v_3 => some v_3) else (xq_bd (xq_ald 2 mm_milesToldF (mmI 13)) fun v_4 => (xq_bd (xq_ald 22 mm_mileOfF p1) fun v_5 => some (v_4 - v_5))))))
set_option maxHeartbeats 4000000 in
set_option maxRecDepth 100000 in
theorem kX12_farOf (l : Launch) (dC : Nat → ClassId) (dI : Nat → Nat → Nat) (cI cB cJ cZ cM : ClassId) (z : Nat) (ad : Nat → Nat) (N : Nat) (a_p0 : Nat) (mmI : Nat → Int32) (mmJ : Nat → Int64) (mmR : Nat → Nat) (mm_mileOfF : Nat → Int32) (mm_milesToldF : Nat → Int32) (p1 : Int32) {r0 : Int32} (hf : fX12_farOf N mmI mm_mileOfF mm_milesToldF p1 = some r0) : xq_Ct l yX12_farOf wsX12_farOf { frames := 0, cells := 0, slots := 0, locals := 0 } (dC, dI) vwCl (xq_tys cI cB cJ cZ cM) z ad [.ref a_p0, .int p1] [(a_p0, .inr (12, oX12 mmI mmJ mmR)), ((mmR 46), .inl (cI, 22, .inl mm_mileOfF)), ((mmR 14), .inl (cI, 2, .inl mm_milesToldF))] [(a_p0, .inr (12, oX12 mmI mmJ mmR)), ((mmR 46), .inl (cI, 22, .inl mm_mileOfF)), ((mmR 14), .inl (cI, 2, .inl mm_milesToldF))] (some (.int r0)) := by
  intro sz
  refine Met.ofW (cc := cX12_farOf) (maxL := 2) (ret := (some .int)) (by decide) rfl ?_
  intro p e s m args below meth c s₁ B hml hv
  obtain ⟨rfl, hsz, hP, hK, hD0, hE, hz⟩ := hv
  have hx := B.exec
  have hb := B.bytes
  have hr := B.returns
  have hts := atoms_spec (ws := wsX12_farOf) B.pre
  have hown : s.vm.findClass RX12 = some m.cls := findClass_of_methodNamed B.named
  have hlocks := B.notSynchronized
  subst hsz
  have hD := hD0.self (sz := s.heap.size)
  have hN := xq_Env.of hE hz hD0
  generalize hAe : va_A [(a_p0, .inr (12, oX12 mmI mmJ mmR)), ((mmR 46), .inl (cI, 22, .inl mm_mileOfF)), ((mmR 14), .inl (cI, 2, .inl mm_milesToldF))] s.heap.size = A at hD hN ⊢
  have hA : ∀ q : Nat, s.heap.size ≤ q → A q := fun q h => by rw [← hAe]; exact Or.inr h
  clear hAe hD0
  have hS : va_S A s.heap s.heap [] := va_S.rf
  have hl := lv_entry ([.ref a_p0, .int p1]) (n := 2) (Nat.le_of_ble_eq_true rfl)
  rw [lg_entry_eq]
  generalize (lg_sl ([.ref a_p0, .int p1]) ++ List.replicate (2 - (lg_sl ([.ref a_p0, .int p1])).length) Slot.unset).toArray = ls at hl ⊢
  have hl : lv_has ls 2 [(0, .ref a_p0), (1, .int p1)] := hl
  have hw0 := hts (.fieldLink RX12 153 "DistantVoiceModel" "mileOf" "[I") (by decide +kernel)
  have hinX12 : ∀ w ∈ wsX120, w ∈ wsX12_farOf := fun w h => List.mem_cons_of_mem _ (List.mem_append_right _ h)
  have hw2 := hts (.fieldLink RX12 54 "DistantVoiceModel" "milesTold" "[I") (by decide +kernel)
  have hw3 := hts (.fieldLink RX12 51 "DistantVoiceModel" "bank" "I") (by decide +kernel)
  unfold fX12_farOf at hf
  refine lv_iconst (v := 2) hx hb dX12_farOf_0 (by decide) ?_
  refine lv_aload_n hx hb dX12_farOf_1 rfl (lv_at hl 0 rfl) ?_
  refine va_get (D := (dC, dI)) (ci := 12) (v := .ref ((mmR 46))) (C := RX12) (T := TX12) (N := 70) hx hb hts hinX12 hown hK hP 0 rfl rfl 46 (by decide) hw0 (fun _ h9 => h9) rfl dX12_farOf_2 ?_
  refine lv_iload_n hx hb dX12_farOf_5 rfl (lv_at hl 1 rfl) ?_
  refine xq_iald hx hb hK hP 1 0 rfl rfl hf dX12_farOf_6 (fun v_1 hf => ?_)
  refine lv_imul hx hb dX12_farOf_7 ?_
  refine lv_aload_n hx hb dX12_farOf_8 rfl (lv_at hl 0 rfl) ?_
  refine va_get (D := (dC, dI)) (ci := 12) (v := .ref ((mmR 14))) (C := RX12) (T := TX12) (N := 70) hx hb hts hinX12 hown hK hP 0 rfl rfl 14 (by decide) hw2 (fun _ h9 => h9) rfl dX12_farOf_9 ?_
  refine lv_aload_n hx hb dX12_farOf_12 rfl (lv_at hl 0 rfl) ?_
  refine va_get (D := (dC, dI)) (ci := 12) (v := .int (mmI 13)) (C := RX12) (T := TX12) (N := 70) hx hb hts hinX12 hown hK hP 0 rfl rfl 13 (by decide) hw3 (fun _ h9 => h9) rfl dX12_farOf_13 ?_
  refine xq_iald hx hb hK hP 2 0 rfl rfl hf dX12_farOf_16 (fun v_2 hf => ?_)
  refine lv_icmp_le (tgt := 39) hx hb dX12_farOf_17 (by decide) (fun c_ => ?_) (fun c_ => ?_)
  · have hf := xq_pos hf c_
    refine lv_aload_n hx hb dX12_farOf_39 rfl (lv_at hl 0 rfl) ?_
    refine va_get (D := (dC, dI)) (ci := 12) (v := .ref ((mmR 46))) (C := RX12) (T := TX12) (N := 70) hx hb hts hinX12 hown hK hP 0 rfl rfl 46 (by decide) hw0 (fun _ h9 => h9) rfl dX12_farOf_40 ?_
    refine lv_iload_n hx hb dX12_farOf_43 rfl (lv_at hl 1 rfl) ?_
    refine xq_iald hx hb hK hP 1 0 rfl rfl hf dX12_farOf_44 (fun v_3 hf => ?_)
    have e9_0 : v_3 = r0 := Option.some.inj hf
    subst e9_0
    exact xq_iret hx hb hr hlocks hK hP hD hS dX12_farOf_45
  · have hf := xq_neg hf c_
    refine lv_aload_n hx hb dX12_farOf_20 rfl (lv_at hl 0 rfl) ?_
    refine va_get (D := (dC, dI)) (ci := 12) (v := .ref ((mmR 14))) (C := RX12) (T := TX12) (N := 70) hx hb hts hinX12 hown hK hP 0 rfl rfl 14 (by decide) hw2 (fun _ h9 => h9) rfl dX12_farOf_21 ?_
    refine lv_aload_n hx hb dX12_farOf_24 rfl (lv_at hl 0 rfl) ?_
    refine va_get (D := (dC, dI)) (ci := 12) (v := .int (mmI 13)) (C := RX12) (T := TX12) (N := 70) hx hb hts hinX12 hown hK hP 0 rfl rfl 13 (by decide) hw3 (fun _ h9 => h9) rfl dX12_farOf_25 ?_
    refine xq_iald hx hb hK hP 2 0 rfl rfl hf dX12_farOf_28 (fun v_4 hf => ?_)
    refine lv_aload_n hx hb dX12_farOf_29 rfl (lv_at hl 0 rfl) ?_
    refine va_get (D := (dC, dI)) (ci := 12) (v := .ref ((mmR 46))) (C := RX12) (T := TX12) (N := 70) hx hb hts hinX12 hown hK hP 0 rfl rfl 46 (by decide) hw0 (fun _ h9 => h9) rfl dX12_farOf_30 ?_
    refine lv_iload_n hx hb dX12_farOf_33 rfl (lv_at hl 1 rfl) ?_
    refine xq_iald hx hb hK hP 1 0 rfl rfl hf dX12_farOf_34 (fun v_5 hf => ?_)
    refine lv_isub hx hb dX12_farOf_35 ?_
    refine lv_goto (tgt := 45) hx hb dX12_farOf_36 (by decide) ?_
    have e9_0 : v_4 - v_5 = r0 := Option.some.inj hf
    subst e9_0
    exact xq_iret hx hb hr hlocks hK hP hD hS dX12_farOf_45
set_option maxRecDepth 20000 in
theorem ggX12_strideOf_X12_isTold : GoodIn wsX12_strideOf wsX12_isTold := goodIn_r _ [9, 10, 11, 34, 35, 36, 37, 38, 39, 40, 41, 42, 43, 44, 45, 46, 47, 48, 49, 50, 51, 52, 53, 54, 55, 56, 57, 58, 59, 60, 61, 62, 63, 64, 65, 66, 67, 68, 69, 70, 71, 72, 73, 74, 75, 76, 77, 78, 79, 80, 81, 82, 83, 84, 85, 86, 87, 88, 89, 90, 91, 92, 93, 94, 95, 96, 97, 98, 99, 100, 101, 102, 103] rfl (by decide +kernel)
set_option maxRecDepth 20000 in
theorem gX12_strideOf_X12_isTold : GoodIn wsX12_strideOf (wsV RX12 413 RX12 yX12_isTold wsX12_isTold) := goodIn_app (goodIn_of _ (by decide +kernel)) ggX12_strideOf_X12_isTold
set_option maxRecDepth 20000 in
theorem ggX12_strideOf_X12_reckons : GoodIn wsX12_strideOf wsX12_reckons := goodIn_r _ [15, 11, 10, 16, 17, 18, 19, 1, 20, 21, 8, 22, 23, 24, 25, 26, 27, 28, 29, 30, 34, 35, 36, 37, 38, 39, 40, 41, 42, 43, 44, 45, 46, 47, 48, 49, 50, 51, 52, 53, 54, 55, 56, 57, 58, 59, 60, 61, 62, 63, 64, 65, 66, 67, 68, 69, 70, 71, 72, 73, 74, 75, 76, 77, 78, 79, 80, 81, 82, 83, 84, 85, 86, 87, 88, 89, 90, 91, 92, 93, 94, 95, 96, 97, 98, 99, 100, 101, 102, 103] rfl (by decide +kernel)
set_option maxRecDepth 20000 in
theorem gX12_strideOf_X12_reckons : GoodIn wsX12_strideOf (wsV RX12 416 RX12 yX12_reckons wsX12_reckons) := goodIn_app (goodIn_of _ (by decide +kernel)) ggX12_strideOf_X12_reckons
set_option maxRecDepth 20000 in
theorem ggX12_strideOf_X12_cut : GoodIn wsX12_strideOf wsX12_cut := goodIn_r _ [33] rfl (by decide +kernel)
set_option maxRecDepth 20000 in
theorem gX12_strideOf_X12_cut : GoodIn wsX12_strideOf (va_wsS RX12 420 yX12_cut wsX12_cut) := goodIn_app (goodIn_of _ (by decide +kernel)) ggX12_strideOf_X12_cut
def dsX12_strideOf_0 : List (Nat × Instr × Nat) := [(0, (.aload_n 0, 1)), (1, (.iconst 0, 1)), (2, (.invokevirtual 413, 3)), (5, (.ifCond .ne 5, 3)), (8, (.iconst 1, 1)), (9, (.ireturn, 1)), (10, (.aload_n 0, 1)), (11, (.getfield 189, 3)), (14, (.iconst 1, 1)), (15, (.aload_n 0, 1)), (16, (.getfield 150, 3)), (19, (.iload_n 1, 1)), (20, (.iaload, 1)), (21, (.iastore, 1)), (22, (.aload_n 0, 1)), (23, (.getfield 189, 3)), (26, (.iconst 2, 1)), (27, (.iload_n 2, 1)), (28, (.iastore, 1)), (29, (.aload_n 0, 1)), (30, (.getfield 189, 3)), (33, (.iconst 3, 1)), (34, (.aload_n 0, 1)), (35, (.getfield 153, 3)), (38, (.iload_n 1, 1)), (39, (.iaload, 1)), (40, (.iastore, 1)), (41, (.aload_n 0, 1)), (42, (.getfield 189, 3)), (45, (.iconst 4, 1)), (46, (.aload_n 0, 1)), (47, (.getfield 156, 3)), (50, (.iload_n 1, 1)), (51, (.iaload, 1)), (52, (.iastore, 1)), (53, (.aload_n 0, 1)), (54, (.iconst 0, 1)), (55, (.invokevirtual 416, 3)), (58, (.bipush 99, 2)), (60, (.invokestatic 420, 3)), (63, (.ireturn, 1))]
theorem dsX12_strideOf_0_ok : (dsX12_strideOf_0.all fun q => decide (decode cX12_strideOf q.1 = .ok q.2)) = true := by decide +kernel
theorem dX12_strideOf_0 : decode cX12_strideOf 0 = .ok (.aload_n 0, 1) := of_decide_eq_true (List.all_eq_true.mp dsX12_strideOf_0_ok (0, (.aload_n 0, 1)) (List.mem_of_getElem? (i := 0) rfl))
theorem dX12_strideOf_1 : decode cX12_strideOf 1 = .ok (.iconst 0, 1) := of_decide_eq_true (List.all_eq_true.mp dsX12_strideOf_0_ok (1, (.iconst 0, 1)) (List.mem_of_getElem? (i := 1) rfl))
theorem dX12_strideOf_2 : decode cX12_strideOf 2 = .ok (.invokevirtual 413, 3) := of_decide_eq_true (List.all_eq_true.mp dsX12_strideOf_0_ok (2, (.invokevirtual 413, 3)) (List.mem_of_getElem? (i := 2) rfl))
theorem dX12_strideOf_5 : decode cX12_strideOf 5 = .ok (.ifCond .ne 5, 3) := of_decide_eq_true (List.all_eq_true.mp dsX12_strideOf_0_ok (5, (.ifCond .ne 5, 3)) (List.mem_of_getElem? (i := 3) rfl))
theorem dX12_strideOf_8 : decode cX12_strideOf 8 = .ok (.iconst 1, 1) := of_decide_eq_true (List.all_eq_true.mp dsX12_strideOf_0_ok (8, (.iconst 1, 1)) (List.mem_of_getElem? (i := 4) rfl))
theorem dX12_strideOf_9 : decode cX12_strideOf 9 = .ok (.ireturn, 1) := of_decide_eq_true (List.all_eq_true.mp dsX12_strideOf_0_ok (9, (.ireturn, 1)) (List.mem_of_getElem? (i := 5) rfl))
theorem dX12_strideOf_10 : decode cX12_strideOf 10 = .ok (.aload_n 0, 1) := of_decide_eq_true (List.all_eq_true.mp dsX12_strideOf_0_ok (10, (.aload_n 0, 1)) (List.mem_of_getElem? (i := 6) rfl))
theorem dX12_strideOf_11 : decode cX12_strideOf 11 = .ok (.getfield 189, 3) := of_decide_eq_true (List.all_eq_true.mp dsX12_strideOf_0_ok (11, (.getfield 189, 3)) (List.mem_of_getElem? (i := 7) rfl))
theorem dX12_strideOf_14 : decode cX12_strideOf 14 = .ok (.iconst 1, 1) := of_decide_eq_true (List.all_eq_true.mp dsX12_strideOf_0_ok (14, (.iconst 1, 1)) (List.mem_of_getElem? (i := 8) rfl))
theorem dX12_strideOf_15 : decode cX12_strideOf 15 = .ok (.aload_n 0, 1) := of_decide_eq_true (List.all_eq_true.mp dsX12_strideOf_0_ok (15, (.aload_n 0, 1)) (List.mem_of_getElem? (i := 9) rfl))
theorem dX12_strideOf_16 : decode cX12_strideOf 16 = .ok (.getfield 150, 3) := of_decide_eq_true (List.all_eq_true.mp dsX12_strideOf_0_ok (16, (.getfield 150, 3)) (List.mem_of_getElem? (i := 10) rfl))
theorem dX12_strideOf_19 : decode cX12_strideOf 19 = .ok (.iload_n 1, 1) := of_decide_eq_true (List.all_eq_true.mp dsX12_strideOf_0_ok (19, (.iload_n 1, 1)) (List.mem_of_getElem? (i := 11) rfl))
theorem dX12_strideOf_20 : decode cX12_strideOf 20 = .ok (.iaload, 1) := of_decide_eq_true (List.all_eq_true.mp dsX12_strideOf_0_ok (20, (.iaload, 1)) (List.mem_of_getElem? (i := 12) rfl))
theorem dX12_strideOf_21 : decode cX12_strideOf 21 = .ok (.iastore, 1) := of_decide_eq_true (List.all_eq_true.mp dsX12_strideOf_0_ok (21, (.iastore, 1)) (List.mem_of_getElem? (i := 13) rfl))
theorem dX12_strideOf_22 : decode cX12_strideOf 22 = .ok (.aload_n 0, 1) := of_decide_eq_true (List.all_eq_true.mp dsX12_strideOf_0_ok (22, (.aload_n 0, 1)) (List.mem_of_getElem? (i := 14) rfl))
theorem dX12_strideOf_23 : decode cX12_strideOf 23 = .ok (.getfield 189, 3) := of_decide_eq_true (List.all_eq_true.mp dsX12_strideOf_0_ok (23, (.getfield 189, 3)) (List.mem_of_getElem? (i := 15) rfl))
theorem dX12_strideOf_26 : decode cX12_strideOf 26 = .ok (.iconst 2, 1) := of_decide_eq_true (List.all_eq_true.mp dsX12_strideOf_0_ok (26, (.iconst 2, 1)) (List.mem_of_getElem? (i := 16) rfl))
theorem dX12_strideOf_27 : decode cX12_strideOf 27 = .ok (.iload_n 2, 1) := of_decide_eq_true (List.all_eq_true.mp dsX12_strideOf_0_ok (27, (.iload_n 2, 1)) (List.mem_of_getElem? (i := 17) rfl))
theorem dX12_strideOf_28 : decode cX12_strideOf 28 = .ok (.iastore, 1) := of_decide_eq_true (List.all_eq_true.mp dsX12_strideOf_0_ok (28, (.iastore, 1)) (List.mem_of_getElem? (i := 18) rfl))
theorem dX12_strideOf_29 : decode cX12_strideOf 29 = .ok (.aload_n 0, 1) := of_decide_eq_true (List.all_eq_true.mp dsX12_strideOf_0_ok (29, (.aload_n 0, 1)) (List.mem_of_getElem? (i := 19) rfl))
theorem dX12_strideOf_30 : decode cX12_strideOf 30 = .ok (.getfield 189, 3) := of_decide_eq_true (List.all_eq_true.mp dsX12_strideOf_0_ok (30, (.getfield 189, 3)) (List.mem_of_getElem? (i := 20) rfl))
theorem dX12_strideOf_33 : decode cX12_strideOf 33 = .ok (.iconst 3, 1) := of_decide_eq_true (List.all_eq_true.mp dsX12_strideOf_0_ok (33, (.iconst 3, 1)) (List.mem_of_getElem? (i := 21) rfl))
theorem dX12_strideOf_34 : decode cX12_strideOf 34 = .ok (.aload_n 0, 1) := of_decide_eq_true (List.all_eq_true.mp dsX12_strideOf_0_ok (34, (.aload_n 0, 1)) (List.mem_of_getElem? (i := 22) rfl))
theorem dX12_strideOf_35 : decode cX12_strideOf 35 = .ok (.getfield 153, 3) := of_decide_eq_true (List.all_eq_true.mp dsX12_strideOf_0_ok (35, (.getfield 153, 3)) (List.mem_of_getElem? (i := 23) rfl))
theorem dX12_strideOf_38 : decode cX12_strideOf 38 = .ok (.iload_n 1, 1) := of_decide_eq_true (List.all_eq_true.mp dsX12_strideOf_0_ok (38, (.iload_n 1, 1)) (List.mem_of_getElem? (i := 24) rfl))
theorem dX12_strideOf_39 : decode cX12_strideOf 39 = .ok (.iaload, 1) := of_decide_eq_true (List.all_eq_true.mp dsX12_strideOf_0_ok (39, (.iaload, 1)) (List.mem_of_getElem? (i := 25) rfl))
theorem dX12_strideOf_40 : decode cX12_strideOf 40 = .ok (.iastore, 1) := of_decide_eq_true (List.all_eq_true.mp dsX12_strideOf_0_ok (40, (.iastore, 1)) (List.mem_of_getElem? (i := 26) rfl))
theorem dX12_strideOf_41 : decode cX12_strideOf 41 = .ok (.aload_n 0, 1) := of_decide_eq_true (List.all_eq_true.mp dsX12_strideOf_0_ok (41, (.aload_n 0, 1)) (List.mem_of_getElem? (i := 27) rfl))
theorem dX12_strideOf_42 : decode cX12_strideOf 42 = .ok (.getfield 189, 3) := of_decide_eq_true (List.all_eq_true.mp dsX12_strideOf_0_ok (42, (.getfield 189, 3)) (List.mem_of_getElem? (i := 28) rfl))
theorem dX12_strideOf_45 : decode cX12_strideOf 45 = .ok (.iconst 4, 1) := of_decide_eq_true (List.all_eq_true.mp dsX12_strideOf_0_ok (45, (.iconst 4, 1)) (List.mem_of_getElem? (i := 29) rfl))
theorem dX12_strideOf_46 : decode cX12_strideOf 46 = .ok (.aload_n 0, 1) := of_decide_eq_true (List.all_eq_true.mp dsX12_strideOf_0_ok (46, (.aload_n 0, 1)) (List.mem_of_getElem? (i := 30) rfl))
theorem dX12_strideOf_47 : decode cX12_strideOf 47 = .ok (.getfield 156, 3) := of_decide_eq_true (List.all_eq_true.mp dsX12_strideOf_0_ok (47, (.getfield 156, 3)) (List.mem_of_getElem? (i := 31) rfl))
theorem dX12_strideOf_50 : decode cX12_strideOf 50 = .ok (.iload_n 1, 1) := of_decide_eq_true (List.all_eq_true.mp dsX12_strideOf_0_ok (50, (.iload_n 1, 1)) (List.mem_of_getElem? (i := 32) rfl))
theorem dX12_strideOf_51 : decode cX12_strideOf 51 = .ok (.iaload, 1) := of_decide_eq_true (List.all_eq_true.mp dsX12_strideOf_0_ok (51, (.iaload, 1)) (List.mem_of_getElem? (i := 33) rfl))
theorem dX12_strideOf_52 : decode cX12_strideOf 52 = .ok (.iastore, 1) := of_decide_eq_true (List.all_eq_true.mp dsX12_strideOf_0_ok (52, (.iastore, 1)) (List.mem_of_getElem? (i := 34) rfl))
theorem dX12_strideOf_53 : decode cX12_strideOf 53 = .ok (.aload_n 0, 1) := of_decide_eq_true (List.all_eq_true.mp dsX12_strideOf_0_ok (53, (.aload_n 0, 1)) (List.mem_of_getElem? (i := 35) rfl))
theorem dX12_strideOf_54 : decode cX12_strideOf 54 = .ok (.iconst 0, 1) := of_decide_eq_true (List.all_eq_true.mp dsX12_strideOf_0_ok (54, (.iconst 0, 1)) (List.mem_of_getElem? (i := 36) rfl))
theorem dX12_strideOf_55 : decode cX12_strideOf 55 = .ok (.invokevirtual 416, 3) := of_decide_eq_true (List.all_eq_true.mp dsX12_strideOf_0_ok (55, (.invokevirtual 416, 3)) (List.mem_of_getElem? (i := 37) rfl))
theorem dX12_strideOf_58 : decode cX12_strideOf 58 = .ok (.bipush 99, 2) := of_decide_eq_true (List.all_eq_true.mp dsX12_strideOf_0_ok (58, (.bipush 99, 2)) (List.mem_of_getElem? (i := 38) rfl))
theorem dX12_strideOf_60 : decode cX12_strideOf 60 = .ok (.invokestatic 420, 3) := of_decide_eq_true (List.all_eq_true.mp dsX12_strideOf_0_ok (60, (.invokestatic 420, 3)) (List.mem_of_getElem? (i := 39) rfl))
theorem dX12_strideOf_63 : decode cX12_strideOf 63 = .ok (.ireturn, 1) := of_decide_eq_true (List.all_eq_true.mp dsX12_strideOf_0_ok (63, (.ireturn, 1)) (List.mem_of_getElem? (i := 40) rfl))
def fX12_strideOf (N : Nat) (mmI : Nat → Int32) (mm_sumFromF : Nat → Int32) (mm_nightOfF : Nat → Int32) (mm_askedF : Nat → Int32) (mm_mileOfF : Nat → Int32) (mm_roundsOfF : Nat → Int32) (mm_sumBehindF : Nat → Int32) (mm_stackL : Nat → Int64) (mm_codeSortF : Nat → Int32) (mm_codeValueF : Nat → Int32)  (p1 : Int32) (p2 : Int32) : Option (Int32 × (Nat → Int32) × (Nat → Int64)) :=
  (xq_bd (fX12_isTold N mmI mm_sumFromF 0) fun r_1 => (if r_1 = 0 then some ((1, mm_askedF, mm_stackL)) else (xq_bd (xq_ald 22 mm_nightOfF p1) fun v_3 => (xq_bd (xq_ast 12 mm_askedF 1 v_3) fun g_4 => (xq_bd (xq_ast 12 g_4 2 p2) fun g_5 => (xq_bd (xq_ald 22 mm_mileOfF p1) fun v_6 => (xq_bd (xq_ast 12 g_5 3 v_6) fun g_7 => (xq_bd (xq_ald 22 mm_roundsOfF p1) fun v_8 => (xq_bd (xq_ast 12 g_7 4 v_8) fun g_9 => (xq_bd (fX12_reckons N mmI mm_sumFromF mm_sumBehindF mm_stackL mm_codeSortF g_9 mm_codeValueF 0) fun (r_10_0, r_10_1) => (xq_bd (fX12_cut N r_10_0 99) fun r_12 => some ((r_12, g_9, r_10_1)))))))))))))
set_option maxHeartbeats 4000000 in
set_option maxRecDepth 100000 in
theorem kX12_strideOf (l : Launch) (dC : Nat → ClassId) (dI : Nat → Nat → Nat) (cI cB cJ cZ cM : ClassId) (z : Nat) (ad : Nat → Nat) (N : Nat) (a_p0 : Nat) (mmI : Nat → Int32) (mmJ : Nat → Int64) (mmR : Nat → Nat) (mm_sumFromF : Nat → Int32) (mm_nightOfF : Nat → Int32) (mm_askedF : Nat → Int32) (mm_mileOfF : Nat → Int32) (mm_roundsOfF : Nat → Int32) (mm_sumBehindF : Nat → Int32) (mm_stackL : Nat → Int64) (mm_codeSortF : Nat → Int32) (mm_codeValueF : Nat → Int32) (p1 : Int32) (p2 : Int32) {r0 : Int32} {r1 : Nat → Int32} {r2 : Nat → Int64} (hf : fX12_strideOf N mmI mm_sumFromF mm_nightOfF mm_askedF mm_mileOfF mm_roundsOfF mm_sumBehindF mm_stackL mm_codeSortF mm_codeValueF p1 p2 = some (r0, r1, r2)) : xq_Ct l yX12_strideOf wsX12_strideOf { frames := 3, cells := 0, slots := 0, locals := 73 } (dC, dI) vwCl (xq_tys cI cB cJ cZ cM) z ad [.ref a_p0, .int p1, .int p2] [(a_p0, .inr (12, oX12 mmI mmJ mmR)), ((mmR 24), .inl (cI, 6, .inl mm_sumFromF)), ((mmR 45), .inl (cI, 22, .inl mm_nightOfF)), ((mmR 58), .inl (cI, 12, .inl mm_askedF)), ((mmR 46), .inl (cI, 22, .inl mm_mileOfF)), ((mmR 47), .inl (cI, 22, .inl mm_roundsOfF)), ((mmR 25), .inl (cI, 6, .inl mm_sumBehindF)), ((mmR 57), .inl (cJ, 500, .inr (.inl mm_stackL))), ((mmR 26), .inl (cI, 3200, .inl mm_codeSortF)), ((mmR 27), .inl (cI, 3200, .inl mm_codeValueF))] [(a_p0, .inr (12, oX12 mmI mmJ mmR)), ((mmR 24), .inl (cI, 6, .inl mm_sumFromF)), ((mmR 45), .inl (cI, 22, .inl mm_nightOfF)), ((mmR 58), .inl (cI, 12, .inl r1)), ((mmR 46), .inl (cI, 22, .inl mm_mileOfF)), ((mmR 47), .inl (cI, 22, .inl mm_roundsOfF)), ((mmR 25), .inl (cI, 6, .inl mm_sumBehindF)), ((mmR 57), .inl (cJ, 500, .inr (.inl r2))), ((mmR 26), .inl (cI, 3200, .inl mm_codeSortF)), ((mmR 27), .inl (cI, 3200, .inl mm_codeValueF))] (some (.int r0)) := by
  intro sz
  refine Met.ofW (cc := cX12_strideOf) (maxL := 3) (ret := (some .int)) (by decide) rfl ?_
  intro p e s m args below meth c s₁ B hml hv
  obtain ⟨rfl, hsz, hP, hK, hD0, hE, hz⟩ := hv
  have hx := B.exec
  have hb := B.bytes
  have hr := B.returns
  have hts := atoms_spec (ws := wsX12_strideOf) B.pre
  have hown : s.vm.findClass RX12 = some m.cls := findClass_of_methodNamed B.named
  have hlocks := B.notSynchronized
  subst hsz
  have hD := hD0.self (sz := s.heap.size)
  have hN := xq_Env.of hE hz hD0
  generalize hAe : va_A [(a_p0, .inr (12, oX12 mmI mmJ mmR)), ((mmR 24), .inl (cI, 6, .inl mm_sumFromF)), ((mmR 45), .inl (cI, 22, .inl mm_nightOfF)), ((mmR 58), .inl (cI, 12, .inl mm_askedF)), ((mmR 46), .inl (cI, 22, .inl mm_mileOfF)), ((mmR 47), .inl (cI, 22, .inl mm_roundsOfF)), ((mmR 25), .inl (cI, 6, .inl mm_sumBehindF)), ((mmR 57), .inl (cJ, 500, .inr (.inl mm_stackL))), ((mmR 26), .inl (cI, 3200, .inl mm_codeSortF)), ((mmR 27), .inl (cI, 3200, .inl mm_codeValueF))] s.heap.size = A at hD hN ⊢
  have hA : ∀ q : Nat, s.heap.size ≤ q → A q := fun q h => by rw [← hAe]; exact Or.inr h
  clear hAe hD0
  have hS : va_S A s.heap s.heap [] := va_S.rf
  have hl := lv_entry ([.ref a_p0, .int p1, .int p2]) (n := 3) (Nat.le_of_ble_eq_true rfl)
  rw [lg_entry_eq]
  generalize (lg_sl ([.ref a_p0, .int p1, .int p2]) ++ List.replicate (3 - (lg_sl ([.ref a_p0, .int p1, .int p2])).length) Slot.unset).toArray = ls at hl ⊢
  have hl : lv_has ls 3 [(0, .ref a_p0), (1, .int p1), (2, .int p2)] := hl
  have hw0 := hts (.fieldLink RX12 189 "DistantVoiceModel" "asked" "[I") (by decide +kernel)
  have hinX12 : ∀ w ∈ wsX120, w ∈ wsX12_strideOf := fun w h => List.mem_cons_of_mem _ (List.mem_append_right _ h)
  have hw2 := hts (.fieldLink RX12 150 "DistantVoiceModel" "nightOf" "[I") (by decide +kernel)
  have hw3 := hts (.fieldLink RX12 153 "DistantVoiceModel" "mileOf" "[I") (by decide +kernel)
  have hw4 := hts (.fieldLink RX12 156 "DistantVoiceModel" "roundsOf" "[I") (by decide +kernel)
  unfold fX12_strideOf at hf
  refine lv_aload_n hx hb dX12_strideOf_0 rfl (lv_at hl 0 rfl) ?_
  refine lv_iconst (v := 0) hx hb dX12_strideOf_1 (by decide) ?_
  obtain ⟨r_1, h_2, hf⟩ := xq_bd_some hf
  refine xq_callV (As := [.int 0]) (rest := []) (ci := 12) (q0 := 0) ⟨hx, hb, hml, hown, hts⟩ (kX12_isTold l dC dI cI cB cJ cZ cM z ad N a_p0 mmI mmJ mmR mm_sumFromF 0 h_2) (cwV 1 hts gX12_strideOf_X12_isTold rfl rfl rfl (by decide +kernel) ⟨Nat.le_of_ble_eq_true rfl, Nat.le_of_ble_eq_true rfl⟩) hN hK hP hD hS hA [0, 1] (by decide) rfl rfl rfl rfl rfl rfl hl.1 rfl (Nat.le_of_ble_eq_true rfl) dX12_strideOf_2 ⟨Nat.zero_le _, Nat.zero_le _⟩ (fun H locs hP hD hS => ?_)
  have hP : va_P (dC, dI) vwCl [(a_p0, .inr (12, oX12 mmI mmJ mmR)), ((mmR 24), .inl (cI, 6, .inl mm_sumFromF)), ((mmR 45), .inl (cI, 22, .inl mm_nightOfF)), ((mmR 58), .inl (cI, 12, .inl mm_askedF)), ((mmR 46), .inl (cI, 22, .inl mm_mileOfF)), ((mmR 47), .inl (cI, 22, .inl mm_roundsOfF)), ((mmR 25), .inl (cI, 6, .inl mm_sumBehindF)), ((mmR 57), .inl (cJ, 500, .inr (.inl mm_stackL))), ((mmR 26), .inl (cI, 3200, .inl mm_codeSortF)), ((mmR 27), .inl (cI, 3200, .inl mm_codeValueF))] H := hP
  have hD : va_D A [(a_p0, .inr (12, oX12 mmI mmJ mmR)), ((mmR 24), .inl (cI, 6, .inl mm_sumFromF)), ((mmR 45), .inl (cI, 22, .inl mm_nightOfF)), ((mmR 58), .inl (cI, 12, .inl mm_askedF)), ((mmR 46), .inl (cI, 22, .inl mm_mileOfF)), ((mmR 47), .inl (cI, 22, .inl mm_roundsOfF)), ((mmR 25), .inl (cI, 6, .inl mm_sumBehindF)), ((mmR 57), .inl (cJ, 500, .inr (.inl mm_stackL))), ((mmR 26), .inl (cI, 3200, .inl mm_codeSortF)), ((mmR 27), .inl (cI, 3200, .inl mm_codeValueF))] := hD
  refine W.eq (g2 := F0 m 5 ls [.int r_1]) rfl ?_
  refine lv_if_ne (tgt := 10) hx hb dX12_strideOf_5 (by decide) (fun c_ => ?_) (fun c_ => ?_)
  · have hf := xq_neg hf c_
    refine lv_aload_n hx hb dX12_strideOf_10 rfl (lv_at hl 0 rfl) ?_
    refine va_get (D := (dC, dI)) (ci := 12) (v := .ref ((mmR 58))) (C := RX12) (T := TX12) (N := 70) hx hb hts hinX12 hown hK hP 0 rfl rfl 58 (by decide) hw0 (fun _ h9 => h9) rfl dX12_strideOf_11 ?_
    refine lv_iconst (v := 1) hx hb dX12_strideOf_14 (by decide) ?_
    refine lv_aload_n hx hb dX12_strideOf_15 rfl (lv_at hl 0 rfl) ?_
    refine va_get (D := (dC, dI)) (ci := 12) (v := .ref ((mmR 45))) (C := RX12) (T := TX12) (N := 70) hx hb hts hinX12 hown hK hP 0 rfl rfl 45 (by decide) hw2 (fun _ h9 => h9) rfl dX12_strideOf_16 ?_
    refine lv_iload_n hx hb dX12_strideOf_19 rfl (lv_at hl 1 rfl) ?_
    refine xq_iald hx hb hK hP 2 0 rfl rfl hf dX12_strideOf_20 (fun v_3 hf => ?_)
    refine xq_iast hx hb hK hP hD hS 3 0 rfl rfl hf dX12_strideOf_21 (fun g_4 H locs hf hP hD hS => ?_)
    have hP : va_P (dC, dI) vwCl [(a_p0, .inr (12, oX12 mmI mmJ mmR)), ((mmR 24), .inl (cI, 6, .inl mm_sumFromF)), ((mmR 45), .inl (cI, 22, .inl mm_nightOfF)), ((mmR 58), .inl (cI, 12, .inl g_4)), ((mmR 46), .inl (cI, 22, .inl mm_mileOfF)), ((mmR 47), .inl (cI, 22, .inl mm_roundsOfF)), ((mmR 25), .inl (cI, 6, .inl mm_sumBehindF)), ((mmR 57), .inl (cJ, 500, .inr (.inl mm_stackL))), ((mmR 26), .inl (cI, 3200, .inl mm_codeSortF)), ((mmR 27), .inl (cI, 3200, .inl mm_codeValueF))] H := hP
    have hD : va_D A [(a_p0, .inr (12, oX12 mmI mmJ mmR)), ((mmR 24), .inl (cI, 6, .inl mm_sumFromF)), ((mmR 45), .inl (cI, 22, .inl mm_nightOfF)), ((mmR 58), .inl (cI, 12, .inl g_4)), ((mmR 46), .inl (cI, 22, .inl mm_mileOfF)), ((mmR 47), .inl (cI, 22, .inl mm_roundsOfF)), ((mmR 25), .inl (cI, 6, .inl mm_sumBehindF)), ((mmR 57), .inl (cJ, 500, .inr (.inl mm_stackL))), ((mmR 26), .inl (cI, 3200, .inl mm_codeSortF)), ((mmR 27), .inl (cI, 3200, .inl mm_codeValueF))] := hD
    refine lv_aload_n hx hb dX12_strideOf_22 rfl (lv_at hl 0 rfl) ?_
    refine va_get (D := (dC, dI)) (ci := 12) (v := .ref ((mmR 58))) (C := RX12) (T := TX12) (N := 70) hx hb hts hinX12 hown hK hP 0 rfl rfl 58 (by decide) hw0 (fun _ h9 => h9) rfl dX12_strideOf_23 ?_
    refine lv_iconst (v := 2) hx hb dX12_strideOf_26 (by decide) ?_
    refine lv_iload_n hx hb dX12_strideOf_27 rfl (lv_at hl 2 rfl) ?_
    refine xq_iast hx hb hK hP hD hS 3 0 rfl rfl hf dX12_strideOf_28 (fun g_5 H locs hf hP hD hS => ?_)
    have hP : va_P (dC, dI) vwCl [(a_p0, .inr (12, oX12 mmI mmJ mmR)), ((mmR 24), .inl (cI, 6, .inl mm_sumFromF)), ((mmR 45), .inl (cI, 22, .inl mm_nightOfF)), ((mmR 58), .inl (cI, 12, .inl g_5)), ((mmR 46), .inl (cI, 22, .inl mm_mileOfF)), ((mmR 47), .inl (cI, 22, .inl mm_roundsOfF)), ((mmR 25), .inl (cI, 6, .inl mm_sumBehindF)), ((mmR 57), .inl (cJ, 500, .inr (.inl mm_stackL))), ((mmR 26), .inl (cI, 3200, .inl mm_codeSortF)), ((mmR 27), .inl (cI, 3200, .inl mm_codeValueF))] H := hP
    have hD : va_D A [(a_p0, .inr (12, oX12 mmI mmJ mmR)), ((mmR 24), .inl (cI, 6, .inl mm_sumFromF)), ((mmR 45), .inl (cI, 22, .inl mm_nightOfF)), ((mmR 58), .inl (cI, 12, .inl g_5)), ((mmR 46), .inl (cI, 22, .inl mm_mileOfF)), ((mmR 47), .inl (cI, 22, .inl mm_roundsOfF)), ((mmR 25), .inl (cI, 6, .inl mm_sumBehindF)), ((mmR 57), .inl (cJ, 500, .inr (.inl mm_stackL))), ((mmR 26), .inl (cI, 3200, .inl mm_codeSortF)), ((mmR 27), .inl (cI, 3200, .inl mm_codeValueF))] := hD
    refine lv_aload_n hx hb dX12_strideOf_29 rfl (lv_at hl 0 rfl) ?_
    refine va_get (D := (dC, dI)) (ci := 12) (v := .ref ((mmR 58))) (C := RX12) (T := TX12) (N := 70) hx hb hts hinX12 hown hK hP 0 rfl rfl 58 (by decide) hw0 (fun _ h9 => h9) rfl dX12_strideOf_30 ?_
    refine lv_iconst (v := 3) hx hb dX12_strideOf_33 (by decide) ?_
    refine lv_aload_n hx hb dX12_strideOf_34 rfl (lv_at hl 0 rfl) ?_
    refine va_get (D := (dC, dI)) (ci := 12) (v := .ref ((mmR 46))) (C := RX12) (T := TX12) (N := 70) hx hb hts hinX12 hown hK hP 0 rfl rfl 46 (by decide) hw3 (fun _ h9 => h9) rfl dX12_strideOf_35 ?_
    refine lv_iload_n hx hb dX12_strideOf_38 rfl (lv_at hl 1 rfl) ?_
    refine xq_iald hx hb hK hP 4 0 rfl rfl hf dX12_strideOf_39 (fun v_6 hf => ?_)
    refine xq_iast hx hb hK hP hD hS 3 0 rfl rfl hf dX12_strideOf_40 (fun g_7 H locs hf hP hD hS => ?_)
    have hP : va_P (dC, dI) vwCl [(a_p0, .inr (12, oX12 mmI mmJ mmR)), ((mmR 24), .inl (cI, 6, .inl mm_sumFromF)), ((mmR 45), .inl (cI, 22, .inl mm_nightOfF)), ((mmR 58), .inl (cI, 12, .inl g_7)), ((mmR 46), .inl (cI, 22, .inl mm_mileOfF)), ((mmR 47), .inl (cI, 22, .inl mm_roundsOfF)), ((mmR 25), .inl (cI, 6, .inl mm_sumBehindF)), ((mmR 57), .inl (cJ, 500, .inr (.inl mm_stackL))), ((mmR 26), .inl (cI, 3200, .inl mm_codeSortF)), ((mmR 27), .inl (cI, 3200, .inl mm_codeValueF))] H := hP
    have hD : va_D A [(a_p0, .inr (12, oX12 mmI mmJ mmR)), ((mmR 24), .inl (cI, 6, .inl mm_sumFromF)), ((mmR 45), .inl (cI, 22, .inl mm_nightOfF)), ((mmR 58), .inl (cI, 12, .inl g_7)), ((mmR 46), .inl (cI, 22, .inl mm_mileOfF)), ((mmR 47), .inl (cI, 22, .inl mm_roundsOfF)), ((mmR 25), .inl (cI, 6, .inl mm_sumBehindF)), ((mmR 57), .inl (cJ, 500, .inr (.inl mm_stackL))), ((mmR 26), .inl (cI, 3200, .inl mm_codeSortF)), ((mmR 27), .inl (cI, 3200, .inl mm_codeValueF))] := hD
    refine lv_aload_n hx hb dX12_strideOf_41 rfl (lv_at hl 0 rfl) ?_
    refine va_get (D := (dC, dI)) (ci := 12) (v := .ref ((mmR 58))) (C := RX12) (T := TX12) (N := 70) hx hb hts hinX12 hown hK hP 0 rfl rfl 58 (by decide) hw0 (fun _ h9 => h9) rfl dX12_strideOf_42 ?_
    refine lv_iconst (v := 4) hx hb dX12_strideOf_45 (by decide) ?_
    refine lv_aload_n hx hb dX12_strideOf_46 rfl (lv_at hl 0 rfl) ?_
    refine va_get (D := (dC, dI)) (ci := 12) (v := .ref ((mmR 47))) (C := RX12) (T := TX12) (N := 70) hx hb hts hinX12 hown hK hP 0 rfl rfl 47 (by decide) hw4 (fun _ h9 => h9) rfl dX12_strideOf_47 ?_
    refine lv_iload_n hx hb dX12_strideOf_50 rfl (lv_at hl 1 rfl) ?_
    refine xq_iald hx hb hK hP 5 0 rfl rfl hf dX12_strideOf_51 (fun v_8 hf => ?_)
    refine xq_iast hx hb hK hP hD hS 3 0 rfl rfl hf dX12_strideOf_52 (fun g_9 H locs hf hP hD hS => ?_)
    have hP : va_P (dC, dI) vwCl [(a_p0, .inr (12, oX12 mmI mmJ mmR)), ((mmR 24), .inl (cI, 6, .inl mm_sumFromF)), ((mmR 45), .inl (cI, 22, .inl mm_nightOfF)), ((mmR 58), .inl (cI, 12, .inl g_9)), ((mmR 46), .inl (cI, 22, .inl mm_mileOfF)), ((mmR 47), .inl (cI, 22, .inl mm_roundsOfF)), ((mmR 25), .inl (cI, 6, .inl mm_sumBehindF)), ((mmR 57), .inl (cJ, 500, .inr (.inl mm_stackL))), ((mmR 26), .inl (cI, 3200, .inl mm_codeSortF)), ((mmR 27), .inl (cI, 3200, .inl mm_codeValueF))] H := hP
    have hD : va_D A [(a_p0, .inr (12, oX12 mmI mmJ mmR)), ((mmR 24), .inl (cI, 6, .inl mm_sumFromF)), ((mmR 45), .inl (cI, 22, .inl mm_nightOfF)), ((mmR 58), .inl (cI, 12, .inl g_9)), ((mmR 46), .inl (cI, 22, .inl mm_mileOfF)), ((mmR 47), .inl (cI, 22, .inl mm_roundsOfF)), ((mmR 25), .inl (cI, 6, .inl mm_sumBehindF)), ((mmR 57), .inl (cJ, 500, .inr (.inl mm_stackL))), ((mmR 26), .inl (cI, 3200, .inl mm_codeSortF)), ((mmR 27), .inl (cI, 3200, .inl mm_codeValueF))] := hD
    refine lv_aload_n hx hb dX12_strideOf_53 rfl (lv_at hl 0 rfl) ?_
    refine lv_iconst (v := 0) hx hb dX12_strideOf_54 (by decide) ?_
    obtain ⟨⟨r_10_0, r_10_1⟩, h_11, hf⟩ := xq_bd_some hf
    refine xq_callV (As := [.int 0]) (rest := []) (ci := 12) (q0 := 0) ⟨hx, hb, hml, hown, hts⟩ (kX12_reckons l dC dI cI cB cJ cZ cM z ad N a_p0 mmI mmJ mmR mm_sumFromF mm_sumBehindF mm_stackL mm_codeSortF g_9 mm_codeValueF 0 h_11) (cwV 1 hts gX12_strideOf_X12_reckons rfl rfl rfl (by decide +kernel) ⟨Nat.le_of_ble_eq_true rfl, Nat.le_of_ble_eq_true rfl⟩) hN hK hP hD hS hA [0, 1, 6, 7, 8, 3, 9] (by decide) rfl rfl rfl rfl rfl rfl hl.1 rfl (Nat.le_of_ble_eq_true rfl) dX12_strideOf_55 ⟨Nat.zero_le _, Nat.zero_le _⟩ (fun H locs hP hD hS => ?_)
    have hP : va_P (dC, dI) vwCl [(a_p0, .inr (12, oX12 mmI mmJ mmR)), ((mmR 24), .inl (cI, 6, .inl mm_sumFromF)), ((mmR 45), .inl (cI, 22, .inl mm_nightOfF)), ((mmR 58), .inl (cI, 12, .inl g_9)), ((mmR 46), .inl (cI, 22, .inl mm_mileOfF)), ((mmR 47), .inl (cI, 22, .inl mm_roundsOfF)), ((mmR 25), .inl (cI, 6, .inl mm_sumBehindF)), ((mmR 57), .inl (cJ, 500, .inr (.inl r_10_1))), ((mmR 26), .inl (cI, 3200, .inl mm_codeSortF)), ((mmR 27), .inl (cI, 3200, .inl mm_codeValueF))] H := hP
    have hD : va_D A [(a_p0, .inr (12, oX12 mmI mmJ mmR)), ((mmR 24), .inl (cI, 6, .inl mm_sumFromF)), ((mmR 45), .inl (cI, 22, .inl mm_nightOfF)), ((mmR 58), .inl (cI, 12, .inl g_9)), ((mmR 46), .inl (cI, 22, .inl mm_mileOfF)), ((mmR 47), .inl (cI, 22, .inl mm_roundsOfF)), ((mmR 25), .inl (cI, 6, .inl mm_sumBehindF)), ((mmR 57), .inl (cJ, 500, .inr (.inl r_10_1))), ((mmR 26), .inl (cI, 3200, .inl mm_codeSortF)), ((mmR 27), .inl (cI, 3200, .inl mm_codeValueF))] := hD
    refine W.eq (g2 := F0 m 58 ls [.long r_10_0]) rfl ?_
    refine lv_bipush (v := 99) hx hb dX12_strideOf_58 (by decide) ?_
    obtain ⟨r_12, h_13, hf⟩ := xq_bd_some hf
    refine xq_callS (As := [.long r_10_0, .int 99]) (rest := []) ⟨hx, hb, hml, hown, hts⟩ (kX12_cut l dC dI cI cB cJ cZ cM z ad N r_10_0 99 h_13) (va_cwS 2 hts gX12_strideOf_X12_cut rfl rfl rfl (by decide +kernel) ⟨Nat.le_of_ble_eq_true rfl, Nat.le_of_ble_eq_true rfl⟩) hN hK hP hD hS hA [] (by decide) rfl rfl rfl hl.1 rfl (Nat.le_of_ble_eq_true rfl) dX12_strideOf_60 ⟨Nat.zero_le _, Nat.zero_le _⟩ (fun H locs hP hD hS => ?_)
    have hP : va_P (dC, dI) vwCl [(a_p0, .inr (12, oX12 mmI mmJ mmR)), ((mmR 24), .inl (cI, 6, .inl mm_sumFromF)), ((mmR 45), .inl (cI, 22, .inl mm_nightOfF)), ((mmR 58), .inl (cI, 12, .inl g_9)), ((mmR 46), .inl (cI, 22, .inl mm_mileOfF)), ((mmR 47), .inl (cI, 22, .inl mm_roundsOfF)), ((mmR 25), .inl (cI, 6, .inl mm_sumBehindF)), ((mmR 57), .inl (cJ, 500, .inr (.inl r_10_1))), ((mmR 26), .inl (cI, 3200, .inl mm_codeSortF)), ((mmR 27), .inl (cI, 3200, .inl mm_codeValueF))] H := hP
    have hD : va_D A [(a_p0, .inr (12, oX12 mmI mmJ mmR)), ((mmR 24), .inl (cI, 6, .inl mm_sumFromF)), ((mmR 45), .inl (cI, 22, .inl mm_nightOfF)), ((mmR 58), .inl (cI, 12, .inl g_9)), ((mmR 46), .inl (cI, 22, .inl mm_mileOfF)), ((mmR 47), .inl (cI, 22, .inl mm_roundsOfF)), ((mmR 25), .inl (cI, 6, .inl mm_sumBehindF)), ((mmR 57), .inl (cJ, 500, .inr (.inl r_10_1))), ((mmR 26), .inl (cI, 3200, .inl mm_codeSortF)), ((mmR 27), .inl (cI, 3200, .inl mm_codeValueF))] := hD
    refine W.eq (g2 := F0 m 63 ls [.int r_12]) rfl ?_
    have e9 := Option.some.inj hf
    have e9_0 : r_12 = r0 := congrArg (fun t => t.1) e9
    have e9_1 : g_9 = r1 := congrArg (fun t => t.2.1) e9
    have e9_2 : r_10_1 = r2 := congrArg (fun t => t.2.2) e9
    clear e9 hf
    subst e9_0
    subst e9_1
    subst e9_2
    exact xq_iret hx hb hr hlocks hK hP hD hS dX12_strideOf_63
  · have hf := xq_pos hf c_
    refine lv_iconst (v := 1) hx hb dX12_strideOf_8 (by decide) ?_
    have e9 := Option.some.inj hf
    have e9_0 : 1 = r0 := congrArg (fun t => t.1) e9
    have e9_1 : mm_askedF = r1 := congrArg (fun t => t.2.1) e9
    have e9_2 : mm_stackL = r2 := congrArg (fun t => t.2.2) e9
    clear e9 hf
    subst e9_0
    subst e9_1
    subst e9_2
    exact xq_iret hx hb hr hlocks hK hP hD hS dX12_strideOf_9
