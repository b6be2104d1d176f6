def dsX9_at_0 : List (Nat × Instr × Nat) := [(0, (.iload_n 1, 1)), (1, (.ifCond .lt 11, 3)), (4, (.iload_n 1, 1)), (5, (.aload_n 0, 1)), (6, (.getfield 15, 3)), (9, (.if_icmp .lt 7, 3)), (12, (.iconst (-1), 1)), (13, (.goto 13, 3)), (16, (.aload_n 0, 1)), (17, (.getfield 9, 3)), (20, (.iload_n 1, 1)), (21, (.baload, 1)), (22, (.sipush 255, 3)), (25, (.iand, 1)), (26, (.ireturn, 1))]
theorem dsX9_at_0_ok : (dsX9_at_0.all fun q => decide (decode cX9_at q.1 = .ok q.2)) = true := by decide +kernel
theorem dX9_at_0 : decode cX9_at 0 = .ok (.iload_n 1, 1) := of_decide_eq_true (List.all_eq_true.mp dsX9_at_0_ok (0, (.iload_n 1, 1)) (List.mem_of_getElem? (i := 0) rfl))
theorem dX9_at_1 : decode cX9_at 1 = .ok (.ifCond .lt 11, 3) := of_decide_eq_true (List.all_eq_true.mp dsX9_at_0_ok (1, (.ifCond .lt 11, 3)) (List.mem_of_getElem? (i := 1) rfl))
theorem dX9_at_4 : decode cX9_at 4 = .ok (.iload_n 1, 1) := of_decide_eq_true (List.all_eq_true.mp dsX9_at_0_ok (4, (.iload_n 1, 1)) (List.mem_of_getElem? (i := 2) rfl))
theorem dX9_at_5 : decode cX9_at 5 = .ok (.aload_n 0, 1) := of_decide_eq_true (List.all_eq_true.mp dsX9_at_0_ok (5, (.aload_n 0, 1)) (List.mem_of_getElem? (i := 3) rfl))
theorem dX9_at_6 : decode cX9_at 6 = .ok (.getfield 15, 3) := of_decide_eq_true (List.all_eq_true.mp dsX9_at_0_ok (6, (.getfield 15, 3)) (List.mem_of_getElem? (i := 4) rfl))
theorem dX9_at_9 : decode cX9_at 9 = .ok (.if_icmp .lt 7, 3) := of_decide_eq_true (List.all_eq_true.mp dsX9_at_0_ok (9, (.if_icmp .lt 7, 3)) (List.mem_of_getElem? (i := 5) rfl))
theorem dX9_at_12 : decode cX9_at 12 = .ok (.iconst (-1), 1) := of_decide_eq_true (List.all_eq_true.mp dsX9_at_0_ok (12, (.iconst (-1), 1)) (List.mem_of_getElem? (i := 6) rfl))
theorem dX9_at_13 : decode cX9_at 13 = .ok (.goto 13, 3) := of_decide_eq_true (List.all_eq_true.mp dsX9_at_0_ok (13, (.goto 13, 3)) (List.mem_of_getElem? (i := 7) rfl))
theorem dX9_at_16 : decode cX9_at 16 = .ok (.aload_n 0, 1) := of_decide_eq_true (List.all_eq_true.mp dsX9_at_0_ok (16, (.aload_n 0, 1)) (List.mem_of_getElem? (i := 8) rfl))
theorem dX9_at_17 : decode cX9_at 17 = .ok (.getfield 9, 3) := of_decide_eq_true (List.all_eq_true.mp dsX9_at_0_ok (17, (.getfield 9, 3)) (List.mem_of_getElem? (i := 9) rfl))
theorem dX9_at_20 : decode cX9_at 20 = .ok (.iload_n 1, 1) := of_decide_eq_true (List.all_eq_true.mp dsX9_at_0_ok (20, (.iload_n 1, 1)) (List.mem_of_getElem? (i := 10) rfl))
theorem dX9_at_21 : decode cX9_at 21 = .ok (.baload, 1) := of_decide_eq_true (List.all_eq_true.mp dsX9_at_0_ok (21, (.baload, 1)) (List.mem_of_getElem? (i := 11) rfl))
theorem dX9_at_22 : decode cX9_at 22 = .ok (.sipush 255, 3) := of_decide_eq_true (List.all_eq_true.mp dsX9_at_0_ok (22, (.sipush 255, 3)) (List.mem_of_getElem? (i := 12) rfl))
theorem dX9_at_25 : decode cX9_at 25 = .ok (.iand, 1) := of_decide_eq_true (List.all_eq_true.mp dsX9_at_0_ok (25, (.iand, 1)) (List.mem_of_getElem? (i := 13) rfl))
theorem dX9_at_26 : decode cX9_at 26 = .ok (.ireturn, 1) := of_decide_eq_true (List.all_eq_true.mp dsX9_at_0_ok (26, (.ireturn, 1)) (List.mem_of_getElem? (i := 14) rfl))
def fX9_at (N : Nat) (taI : Nat → Int32) (ta_bytesF : Nat → Int32)  (p1 : Int32) : Option (Int32) :=
  (if p1 < 0 then some ((-1)) else (if p1 < (taI 1) then (xq_bd (xq_ald 1600 ta_bytesF p1) fun v_1 => some (v_1 &&& 255)) else some ((-1))))
set_option maxHeartbeats 4000000 in
set_option maxRecDepth 100000 in
theorem kX9_at (l : Launch) (dC : Nat → ClassId) (dI : Nat → Nat → Nat) (cI cB cJ cZ cM : ClassId) (N : Nat) (a_p0 : Nat) (taI : Nat → Int32) (taR : Nat → Nat) (ta_bytesF : Nat → Int32) (p1 : Int32) {r0 : Int32} (hf : fX9_at N taI ta_bytesF p1 = some r0) : xq_Ct l yX9_at wsX9_at { frames := 0, cells := 0, slots := 0, locals := 0 } (dC, dI) vwCl (xq_tys cI cB cJ cZ cM) [.ref a_p0, .int p1] [(a_p0, .inr (9, oX9 taI taR)), ((taR 0), .inl (cB, 1600, .inl ta_bytesF))] [(a_p0, .inr (9, oX9 taI taR)), ((taR 0), .inl (cB, 1600, .inl ta_bytesF))] (some (.int r0)) := by
  intro sz
  refine Met.ofW (cc := cX9_at) (maxL := 2) (ret := (some .int)) (by decide) rfl ?_
  intro p e s m args below meth c s₁ B hml hv
  obtain ⟨rfl, hsz, hP, hK, hD0⟩ := hv
  have hx := B.exec
  have hb := B.bytes
  have hr := B.returns
  have hts := atoms_spec (ws := wsX9_at) B.pre
  have hown : s.vm.findClass RX9 = some m.cls := findClass_of_methodNamed B.named
  have hlocks := B.notSynchronized
  subst hsz
  have hD := hD0.self (sz := s.heap.size)
  generalize hAe : va_A [(a_p0, .inr (9, oX9 taI taR)), ((taR 0), .inl (cB, 1600, .inl ta_bytesF))] s.heap.size = A at hD ⊢
  have hA : ∀ q : Nat, s.heap.size ≤ q → A q := fun q h => by rw [← hAe]; exact Or.inr h
  clear hAe hD0
  have hS : va_S A s.heap s.heap [] := va_S.rf
  have hl := lv_entry ([.ref a_p0, .int p1]) (n := 2) (Nat.le_of_ble_eq_true rfl)
  rw [lg_entry_eq]
  generalize (lg_sl ([.ref a_p0, .int p1]) ++ List.replicate (2 - (lg_sl ([.ref a_p0, .int p1])).length) Slot.unset).toArray = ls at hl ⊢
  have hl : lv_has ls 2 [(0, .ref a_p0), (1, .int p1)] := hl
  have hw0 := hts (.fieldLink RX9 15 "DistantVoice$Tape" "length" "I") (by decide +kernel)
  have hinX9 : ∀ w ∈ wsX90, w ∈ wsX9_at := fun w h => List.mem_cons_of_mem _ (List.mem_append_right _ h)
  have hw2 := hts (.fieldLink RX9 9 "DistantVoice$Tape" "bytes" "[B") (by decide +kernel)
  unfold fX9_at at hf
  refine lv_iload_n hx hb dX9_at_0 rfl (lv_at hl 1 rfl) ?_
  refine lv_if_lt (tgt := 12) hx hb dX9_at_1 (by decide) (fun c_ => ?_) (fun c_ => ?_)
  · have hf := xq_pos hf c_
    refine lv_iconst (v := (-1)) hx hb dX9_at_12 (by decide) ?_
    refine lv_goto (tgt := 26) hx hb dX9_at_13 (by decide) ?_
    cases hf
    exact xq_iret hx hb hr hlocks hK hP hD hS dX9_at_26
  · have hf := xq_neg hf c_
    refine lv_iload_n hx hb dX9_at_4 rfl (lv_at hl 1 rfl) ?_
    refine lv_aload_n hx hb dX9_at_5 rfl (lv_at hl 0 rfl) ?_
    refine va_get (D := (dC, dI)) (ci := 9) (v := .int (taI 1)) (C := RX9) (T := TX9) (N := 2) hx hb hts hinX9 hown hK hP 0 rfl rfl 1 (by decide) hw0 (fun _ h9 => h9) rfl dX9_at_6 ?_
    refine lv_icmp_lt (tgt := 16) hx hb dX9_at_9 (by decide) (fun c_ => ?_) (fun c_ => ?_)
    · have hf := xq_pos hf c_
      refine lv_aload_n hx hb dX9_at_16 rfl (lv_at hl 0 rfl) ?_
      refine va_get (D := (dC, dI)) (ci := 9) (v := .ref ((taR 0))) (C := RX9) (T := TX9) (N := 2) hx hb hts hinX9 hown hK hP 0 rfl rfl 0 (by decide) hw2 (fun _ h9 => h9) rfl dX9_at_17 ?_
      refine lv_iload_n hx hb dX9_at_20 rfl (lv_at hl 1 rfl) ?_
      refine xq_bald hx hb hK hP 1 1 rfl rfl hf dX9_at_21 (fun v_1 hf => ?_)
      refine lv_sipush (v := 255) hx hb dX9_at_22 (by decide) ?_
      refine lv_iand hx hb dX9_at_25 ?_
      cases hf
      exact xq_iret hx hb hr hlocks hK hP hD hS dX9_at_26
    · have hf := xq_neg hf c_
      refine lv_iconst (v := (-1)) hx hb dX9_at_12 (by decide) ?_
      refine lv_goto (tgt := 26) hx hb dX9_at_13 (by decide) ?_
      cases hf
      exact xq_iret hx hb hr hlocks hK hP hD hS dX9_at_26
def dsX9_add_0 : List (Nat × Instr × Nat) := [(0, (.bipush 24, 2)), (2, (.istore_n 2, 1)), (3, (.iload_n 2, 1)), (4, (.ifCond .lt 44, 3)), (7, (.aload_n 0, 1)), (8, (.getfield 15, 3)), (11, (.aload_n 0, 1)), (12, (.getfield 9, 3)), (15, (.arraylength, 1)), (16, (.if_icmp .ge 32, 3)), (19, (.aload_n 0, 1)), (20, (.getfield 9, 3)), (23, (.aload_n 0, 1)), (24, (.getfield 15, 3)), (27, (.iload_n 1, 1)), (28, (.iload_n 2, 1)), (29, (.iushr, 1)), (30, (.i2b, 1)), (31, (.bastore, 1)), (32, (.aload_n 0, 1)), (33, (.dup, 1)), (34, (.getfield 15, 3)), (37, (.iconst 1, 1)), (38, (.iadd, 1)), (39, (.putfield 15, 3)), (42, (.iinc 2 (-8), 3)), (45, (.goto (-42), 3)), (48, (.return_, 1))]
theorem dsX9_add_0_ok : (dsX9_add_0.all fun q => decide (decode cX9_add q.1 = .ok q.2)) = true := by decide +kernel
theorem dX9_add_0 : decode cX9_add 0 = .ok (.bipush 24, 2) := of_decide_eq_true (List.all_eq_true.mp dsX9_add_0_ok (0, (.bipush 24, 2)) (List.mem_of_getElem? (i := 0) rfl))
theorem dX9_add_2 : decode cX9_add 2 = .ok (.istore_n 2, 1) := of_decide_eq_true (List.all_eq_true.mp dsX9_add_0_ok (2, (.istore_n 2, 1)) (List.mem_of_getElem? (i := 1) rfl))
theorem dX9_add_3 : decode cX9_add 3 = .ok (.iload_n 2, 1) := of_decide_eq_true (List.all_eq_true.mp dsX9_add_0_ok (3, (.iload_n 2, 1)) (List.mem_of_getElem? (i := 2) rfl))
theorem dX9_add_4 : decode cX9_add 4 = .ok (.ifCond .lt 44, 3) := of_decide_eq_true (List.all_eq_true.mp dsX9_add_0_ok (4, (.ifCond .lt 44, 3)) (List.mem_of_getElem? (i := 3) rfl))
theorem dX9_add_7 : decode cX9_add 7 = .ok (.aload_n 0, 1) := of_decide_eq_true (List.all_eq_true.mp dsX9_add_0_ok (7, (.aload_n 0, 1)) (List.mem_of_getElem? (i := 4) rfl))
theorem dX9_add_8 : decode cX9_add 8 = .ok (.getfield 15, 3) := of_decide_eq_true (List.all_eq_true.mp dsX9_add_0_ok (8, (.getfield 15, 3)) (List.mem_of_getElem? (i := 5) rfl))
theorem dX9_add_11 : decode cX9_add 11 = .ok (.aload_n 0, 1) := of_decide_eq_true (List.all_eq_true.mp dsX9_add_0_ok (11, (.aload_n 0, 1)) (List.mem_of_getElem? (i := 6) rfl))
theorem dX9_add_12 : decode cX9_add 12 = .ok (.getfield 9, 3) := of_decide_eq_true (List.all_eq_true.mp dsX9_add_0_ok (12, (.getfield 9, 3)) (List.mem_of_getElem? (i := 7) rfl))
theorem dX9_add_15 : decode cX9_add 15 = .ok (.arraylength, 1) := of_decide_eq_true (List.all_eq_true.mp dsX9_add_0_ok (15, (.arraylength, 1)) (List.mem_of_getElem? (i := 8) rfl))
theorem dX9_add_16 : decode cX9_add 16 = .ok (.if_icmp .ge 32, 3) := of_decide_eq_true (List.all_eq_true.mp dsX9_add_0_ok (16, (.if_icmp .ge 32, 3)) (List.mem_of_getElem? (i := 9) rfl))
theorem dX9_add_19 : decode cX9_add 19 = .ok (.aload_n 0, 1) := of_decide_eq_true (List.all_eq_true.mp dsX9_add_0_ok (19, (.aload_n 0, 1)) (List.mem_of_getElem? (i := 10) rfl))
theorem dX9_add_20 : decode cX9_add 20 = .ok (.getfield 9, 3) := of_decide_eq_true (List.all_eq_true.mp dsX9_add_0_ok (20, (.getfield 9, 3)) (List.mem_of_getElem? (i := 11) rfl))
theorem dX9_add_23 : decode cX9_add 23 = .ok (.aload_n 0, 1) := of_decide_eq_true (List.all_eq_true.mp dsX9_add_0_ok (23, (.aload_n 0, 1)) (List.mem_of_getElem? (i := 12) rfl))
theorem dX9_add_24 : decode cX9_add 24 = .ok (.getfield 15, 3) := of_decide_eq_true (List.all_eq_true.mp dsX9_add_0_ok (24, (.getfield 15, 3)) (List.mem_of_getElem? (i := 13) rfl))
theorem dX9_add_27 : decode cX9_add 27 = .ok (.iload_n 1, 1) := of_decide_eq_true (List.all_eq_true.mp dsX9_add_0_ok (27, (.iload_n 1, 1)) (List.mem_of_getElem? (i := 14) rfl))
theorem dX9_add_28 : decode cX9_add 28 = .ok (.iload_n 2, 1) := of_decide_eq_true (List.all_eq_true.mp dsX9_add_0_ok (28, (.iload_n 2, 1)) (List.mem_of_getElem? (i := 15) rfl))
theorem dX9_add_29 : decode cX9_add 29 = .ok (.iushr, 1) := of_decide_eq_true (List.all_eq_true.mp dsX9_add_0_ok (29, (.iushr, 1)) (List.mem_of_getElem? (i := 16) rfl))
theorem dX9_add_30 : decode cX9_add 30 = .ok (.i2b, 1) := of_decide_eq_true (List.all_eq_true.mp dsX9_add_0_ok (30, (.i2b, 1)) (List.mem_of_getElem? (i := 17) rfl))
theorem dX9_add_31 : decode cX9_add 31 = .ok (.bastore, 1) := of_decide_eq_true (List.all_eq_true.mp dsX9_add_0_ok (31, (.bastore, 1)) (List.mem_of_getElem? (i := 18) rfl))
theorem dX9_add_32 : decode cX9_add 32 = .ok (.aload_n 0, 1) := of_decide_eq_true (List.all_eq_true.mp dsX9_add_0_ok (32, (.aload_n 0, 1)) (List.mem_of_getElem? (i := 19) rfl))
theorem dX9_add_33 : decode cX9_add 33 = .ok (.dup, 1) := of_decide_eq_true (List.all_eq_true.mp dsX9_add_0_ok (33, (.dup, 1)) (List.mem_of_getElem? (i := 20) rfl))
theorem dX9_add_34 : decode cX9_add 34 = .ok (.getfield 15, 3) := of_decide_eq_true (List.all_eq_true.mp dsX9_add_0_ok (34, (.getfield 15, 3)) (List.mem_of_getElem? (i := 21) rfl))
theorem dX9_add_37 : decode cX9_add 37 = .ok (.iconst 1, 1) := of_decide_eq_true (List.all_eq_true.mp dsX9_add_0_ok (37, (.iconst 1, 1)) (List.mem_of_getElem? (i := 22) rfl))
theorem dX9_add_38 : decode cX9_add 38 = .ok (.iadd, 1) := of_decide_eq_true (List.all_eq_true.mp dsX9_add_0_ok (38, (.iadd, 1)) (List.mem_of_getElem? (i := 23) rfl))
theorem dX9_add_39 : decode cX9_add 39 = .ok (.putfield 15, 3) := of_decide_eq_true (List.all_eq_true.mp dsX9_add_0_ok (39, (.putfield 15, 3)) (List.mem_of_getElem? (i := 24) rfl))
theorem dX9_add_42 : decode cX9_add 42 = .ok (.iinc 2 (-8), 3) := of_decide_eq_true (List.all_eq_true.mp dsX9_add_0_ok (42, (.iinc 2 (-8), 3)) (List.mem_of_getElem? (i := 25) rfl))
theorem dX9_add_45 : decode cX9_add 45 = .ok (.goto (-42), 3) := of_decide_eq_true (List.all_eq_true.mp dsX9_add_0_ok (45, (.goto (-42), 3)) (List.mem_of_getElem? (i := 26) rfl))
theorem dX9_add_48 : decode cX9_add 48 = .ok (.return_, 1) := of_decide_eq_true (List.all_eq_true.mp dsX9_add_0_ok (48, (.return_, 1)) (List.mem_of_getElem? (i := 27) rfl))
def fX9_add_l3 (N : Nat)   (k3 : ((Nat → Int32) × (Nat → Int32) × Int32 × Int32) → Option ((Nat → Int32) × (Nat → Int32))) : ((Nat → Int32) × (Nat → Int32) × Int32 × Int32) → Option ((Nat → Int32) × (Nat → Int32)) :=
  fun (taI_3, ta_bytesF_3, x1_3, x2_3) => (if x2_3 < 0 then some ((taI_3, ta_bytesF_3)) else (if 1600 ≤ (taI_3 1) then some ((taI_3, ta_bytesF_3)) else (xq_bd (xq_ast 1600 ta_bytesF_3 (taI_3 1) (vp_nar .byte (((x1_3.toUInt32 >>> (x2_3.toUInt32 &&& Int32.toUInt32 31)).toInt32).toInt8.toInt32))) fun g_1 => k3 ((va_up taI_3 1 ((taI_3 1) + 1)), g_1, x1_3, x2_3 + (-8)))))
def fX9_add (N : Nat) (taI : Nat → Int32) (ta_bytesF : Nat → Int32)  (p1 : Int32) : Option ((Nat → Int32) × (Nat → Int32)) :=
  xq_loop (fX9_add_l3 N) N (taI, ta_bytesF, p1, 24)
set_option maxHeartbeats 4000000 in
set_option maxRecDepth 100000 in
theorem kX9_add (l : Launch) (dC : Nat → ClassId) (dI : Nat → Nat → Nat) (cI cB cJ cZ cM : ClassId) (N : Nat) (a_p0 : Nat) (taI : Nat → Int32) (taR : Nat → Nat) (ta_bytesF : Nat → Int32) (p1 : Int32) {r0 : Nat → Int32} {r1 : Nat → Int32} (hf : fX9_add N taI ta_bytesF p1 = some (r0, r1)) : xq_Ct l yX9_add wsX9_add { frames := 0, cells := 0, slots := 0, locals := 0 } (dC, dI) vwCl (xq_tys cI cB cJ cZ cM) [.ref a_p0, .int p1] [(a_p0, .inr (9, oX9 taI taR)), ((taR 0), .inl (cB, 1600, .inl ta_bytesF))] [(a_p0, .inr (9, oX9 r0 taR)), ((taR 0), .inl (cB, 1600, .inl r1))] none := by
  intro sz
  refine Met.ofW (cc := cX9_add) (maxL := 3) (ret := none) (by decide) rfl ?_
  intro p e s m args below meth c s₁ B hml hv
  obtain ⟨rfl, hsz, hP, hK, hD0⟩ := hv
  have hx := B.exec
  have hb := B.bytes
  have hr := B.returns
  have hts := atoms_spec (ws := wsX9_add) B.pre
  have hown : s.vm.findClass RX9 = some m.cls := findClass_of_methodNamed B.named
  have hlocks := B.notSynchronized
  subst hsz
  have hD := hD0.self (sz := s.heap.size)
  generalize hAe : va_A [(a_p0, .inr (9, oX9 taI taR)), ((taR 0), .inl (cB, 1600, .inl ta_bytesF))] s.heap.size = A at hD ⊢
  have hA : ∀ q : Nat, s.heap.size ≤ q → A q := fun q h => by rw [← hAe]; exact Or.inr h
  clear hAe hD0
  have hS : va_S A s.heap s.heap [] := va_S.rf
  have hl := lv_entry ([.ref a_p0, .int p1]) (n := 3) (Nat.le_of_ble_eq_true rfl)
  rw [lg_entry_eq]
  generalize (lg_sl ([.ref a_p0, .int p1]) ++ List.replicate (3 - (lg_sl ([.ref a_p0, .int p1])).length) Slot.unset).toArray = ls at hl ⊢
  have hl : lv_has ls 3 [(0, .ref a_p0), (1, .int p1)] := hl
  have hw0 := hts (.fieldLink RX9 15 "DistantVoice$Tape" "length" "I") (by decide +kernel)
  have hinX9 : ∀ w ∈ wsX90, w ∈ wsX9_add := fun w h => List.mem_cons_of_mem _ (List.mem_append_right _ h)
  have hw2 := hts (.fieldLink RX9 9 "DistantVoice$Tape" "bytes" "[B") (by decide +kernel)
  have l3 : ∀ n3 : Nat, ∀ (taI_3 : Nat → Int32) (ta_bytesF_3 : Nat → Int32) (x1_3 : Int32) (x2_3 : Int32) (ls : Array Slot) (H : Heap) (locs : List Loc), xq_loop (fX9_add_l3 N) n3 (taI_3, ta_bytesF_3, x1_3, x2_3) = some (r0, r1) → va_P (dC, dI) vwCl [(a_p0, .inr (9, oX9 taI_3 taR)), ((taR 0), .inl (cB, 1600, .inl ta_bytesF_3))] H → va_D A [(a_p0, .inr (9, oX9 taI_3 taR)), ((taR 0), .inl (cB, 1600, .inl ta_bytesF_3))] → va_S A s.heap H locs → lv_has ls 3 [(0, .ref a_p0), (1, .int x1_3), (2, .int x2_3)] → W p l e (headSpec wsX9_add { frames := 0, cells := 0, slots := 0, locals := 0 }).room s m [.ref a_p0, .int p1].toArray below meth c H locs 0 0 (MQ below (xq_Q (dC, dI) vwCl (xq_tys cI cB cJ cZ cM) A [(a_p0, .inr (9, oX9 r0 taR)), ((taR 0), .inl (cB, 1600, .inl r1))] none) [.ref a_p0, .int p1].toArray s 0 0 A) (F0 m 3 ls []) := by
    intro n3
    induction n3 with
    | zero => intro taI_3 ta_bytesF_3 x1_3 x2_3 ls H locs hf; cases (show none = some (r0, r1) from hf)
    | succ n3 ih3 =>
      intro taI_3 ta_bytesF_3 x1_3 x2_3 ls H locs hf hP hD hS hl
      have hf : fX9_add_l3 N (xq_loop (fX9_add_l3 N) n3) (taI_3, ta_bytesF_3, x1_3, x2_3) = some (r0, r1) := hf
      unfold fX9_add_l3 at hf
      refine lv_iload_n hx hb dX9_add_3 rfl (lv_at hl 2 rfl) ?_
      refine lv_if_lt (tgt := 48) hx hb dX9_add_4 (by decide) (fun c_ => ?_) (fun c_ => ?_)
      · have hf := xq_pos hf c_
        cases hf
        exact xq_vret hx hb hr hlocks hK hP hD hS dX9_add_48
      · have hf := xq_neg hf c_
        refine lv_aload_n hx hb dX9_add_7 rfl (lv_at hl 0 rfl) ?_
        refine va_get (D := (dC, dI)) (ci := 9) (v := .int (taI_3 1)) (C := RX9) (T := TX9) (N := 2) hx hb hts hinX9 hown hK hP 0 rfl rfl 1 (by decide) hw0 (fun _ h9 => h9) rfl dX9_add_8 ?_
        refine lv_aload_n hx hb dX9_add_11 rfl (lv_at hl 0 rfl) ?_
        refine va_get (D := (dC, dI)) (ci := 9) (v := .ref ((taR 0))) (C := RX9) (T := TX9) (N := 2) hx hb hts hinX9 hown hK hP 0 rfl rfl 0 (by decide) hw2 (fun _ h9 => h9) rfl dX9_add_12 ?_
        refine va_alen hx hb hK hP 1 1 (v := 1600) rfl rfl rfl dX9_add_15 ?_
        refine lv_icmp_ge (tgt := 48) hx hb dX9_add_16 (by decide) (fun c_ => ?_) (fun c_ => ?_)
        · have hf := xq_pos hf c_
          cases hf
          exact xq_vret hx hb hr hlocks hK hP hD hS dX9_add_48
        · have hf := xq_neg hf c_
          refine lv_aload_n hx hb dX9_add_19 rfl (lv_at hl 0 rfl) ?_
          refine va_get (D := (dC, dI)) (ci := 9) (v := .ref ((taR 0))) (C := RX9) (T := TX9) (N := 2) hx hb hts hinX9 hown hK hP 0 rfl rfl 0 (by decide) hw2 (fun _ h9 => h9) rfl dX9_add_20 ?_
          refine lv_aload_n hx hb dX9_add_23 rfl (lv_at hl 0 rfl) ?_
          refine va_get (D := (dC, dI)) (ci := 9) (v := .int (taI_3 1)) (C := RX9) (T := TX9) (N := 2) hx hb hts hinX9 hown hK hP 0 rfl rfl 1 (by decide) hw0 (fun _ h9 => h9) rfl dX9_add_24 ?_
          refine lv_iload_n hx hb dX9_add_27 rfl (lv_at hl 1 rfl) ?_
          refine lv_iload_n hx hb dX9_add_28 rfl (lv_at hl 2 rfl) ?_
          refine lv_iushr (v := (x1_3.toUInt32 >>> (x2_3.toUInt32 &&& Int32.toUInt32 31)).toInt32) hx hb dX9_add_29 rfl ?_
          refine lv_i2b (v := ((x1_3.toUInt32 >>> (x2_3.toUInt32 &&& Int32.toUInt32 31)).toInt32).toInt8.toInt32) hx hb dX9_add_30 rfl ?_
          refine xq_bast hx hb hK hP hD hS 1 1 rfl rfl hf dX9_add_31 (fun g_1 H locs hf hP hD hS => ?_)
          have hP : va_P (dC, dI) vwCl [(a_p0, .inr (9, oX9 taI_3 taR)), ((taR 0), .inl (cB, 1600, .inl g_1))] H := hP
          have hD : va_D A [(a_p0, .inr (9, oX9 taI_3 taR)), ((taR 0), .inl (cB, 1600, .inl g_1))] := hD
          refine lv_aload_n hx hb dX9_add_32 rfl (lv_at hl 0 rfl) ?_
          refine lv_dup hx hb dX9_add_33 rfl ?_
          refine va_get (D := (dC, dI)) (ci := 9) (v := .int (taI_3 1)) (C := RX9) (T := TX9) (N := 2) hx hb hts hinX9 hown hK hP 0 rfl rfl 1 (by decide) hw0 (fun _ h9 => h9) rfl dX9_add_34 ?_
          refine lv_iconst (v := 1) hx hb dX9_add_37 (by decide) ?_
          refine lv_iadd hx hb dX9_add_38 ?_
          refine va_put (D := (dC, dI)) (ci := 9) (v := .int ((taI_3 1) + 1)) (ty := .int) (C := RX9) (T := TX9) (N := 2) hx hb hts hinX9 tyX9 tyX9_ok nmX9 hown hK hP hD hS 0 rfl rfl 1 (by decide) hw0 (fun _ h9 => h9) rfl (by decide +kernel) rfl rfl (Nat.le_of_ble_eq_true rfl) dX9_add_39 (fun H locs hP hD hS => ?_)
          have hP : va_P (dC, dI) vwCl [(a_p0, .inr (9, oX9 (va_up taI_3 1 ((taI_3 1) + 1)) taR)), ((taR 0), .inl (cB, 1600, .inl g_1))] H := hP
          have hD : va_D A [(a_p0, .inr (9, oX9 (va_up taI_3 1 ((taI_3 1) + 1)) taR)), ((taR 0), .inl (cB, 1600, .inl g_1))] := hD
          refine lv_iinc (v := x2_3 + (-8)) (lv' := [(2, .int (x2_3 + (-8))), (0, .ref a_p0), (1, .int x1_3)]) hx hb dX9_add_42 hl (k := 2) rfl (congrArg (fun q9 => x2_3 + q9) (by decide : Int32.ofInt (-8) = (-8))) (by decide) rfl (fun ls hl => ?_)
          refine lv_goto (tgt := 3) hx hb dX9_add_45 (by decide) ?_
          exact ih3 ((va_up taI_3 1 ((taI_3 1) + 1))) g_1 x1_3 (x2_3 + (-8)) _ _ _ hf hP hD hS (lv_sub hl [1, 2, 0] rfl)
  unfold fX9_add at hf
  refine lv_bipush (v := 24) hx hb dX9_add_0 (by decide) ?_
  refine lv_istore_n (lv' := [(2, .int 24), (0, .ref a_p0), (1, .int p1)]) hx hb dX9_add_2 rfl hl (by decide) rfl (fun ls hl => ?_)
  exact l3 N taI ta_bytesF p1 24 _ _ _ hf hP hD hS (lv_sub hl [1, 2, 0] rfl)
