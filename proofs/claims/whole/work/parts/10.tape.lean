def dsX9_at_0 : List (Nat × Instr × Nat) := [(0, (.iload_n 1, 1)), (1, (.ifCond .lt 11, 3)), (4, (.iload_n 1, 1)), (5, (.aload_n 0, 1)), (6, (.getfield 15, 3)), (9, (.if_icmp .lt 7, 3)), (12, (.iconst (-1), 1)), (13, (.goto 13, 3)), (16, (.aload_n 0, 1)), (17, (.getfield 9, 3)), (20, (.iload_n 1, 1)), (21, (.baload, 1)), (22, (.sipush 255, 3)), (25, (.iand, 1)), (26, (.ireturn, 1))]
theorem dsX9_at_0_ok : (dsX9_at_0.all fun q => decide (decode cX9_at q.1 = .ok q.2)) = true := by decide +kernel
theorem dX9_at_0 : decode cX9_at 0 = .ok (.iload_n 1, 1) := of_decide_eq_true (List.all_eq_true.mp dsX9_at_0_ok (0, (.iload_n 1, 1)) (List.mem_of_getElem? (i := 0) rfl))
theorem dX9_at_1 : decode cX9_at 1 = .ok (.ifCond .lt 11, 3) := of_decide_eq_true (List.all_eq_true.mp dsX9_at_0_ok (1, (.ifCond .lt 11, 3)) (List.mem_of_getElem? (i := 1) rfl))
theorem dX9_at_4 : decode cX9_at 4 = .ok (.iload_n 1, 1) := of_decide_eq_true (List.all_eq_true.mp dsX9_at_0_ok (4, (.iload_n 1, 1)) (List.mem_of_getElem? (i := 2) rfl))
theorem dX9_at_5 : decode cX9_at 5 = .ok (.aload_n 0, 1) := of_decide_eq_true (List.all_eq_true.mp dsX9_at_0_ok (5, (.aload_n 0, 1)) (List.mem_of_getElem? (i := 3) rfl))
theorem dX9_at_6 : decode cX9_at 6 = .ok (.getfield 15, 3) := of_decide_eq_true (List.all_eq_true.mp dsX9_at_0_ok (6, (.getfield 15, 3)) (List.mem_of_getElem? (i := 4) rfl))
theorem dX9_at_9 : decode cX9_at 9 = .ok (.if_icmp .lt 7, 3) := of_decide_eq_true (List.all_eq_true.mp dsX9_at_0_ok (9, (.if_icmp .lt 7, 3)) (List.mem_of_getElem? (i := 5) rfl))
theorem dX9_at_12 : decode cX9_at 12 = .ok (.iconst (-1), 1) := of_decide_eq_true (List.all_eq_true.mp dsX9_at_0_ok (12, (.iconst (-1), 1)) (List.mem_of_getElem? (i := 6) rfl))
theorem dX9_at_13 : decode cX9_at 13 = .ok (.goto 13, 3) := of_decide_eq_true (List.all_eq_true.mp dsX9_at_0_ok (13, (.goto 13, 3)) (List.mem_of_getElem? (i := 7) rfl))
theorem dX9_at_16 : decode cX9_at 16 = .ok (.aload_n 0, 1) := of_decide_eq_true (List.all_eq_true.mp dsX9_at_0_ok (16, (.aload_n 0, 1)) (List.mem_of_getElem? (i := 8) rfl))
theorem dX9_at_17 : decode cX9_at 17 = .ok (.getfield 9, 3) := of_decide_eq_true (List.all_eq_true.mp dsX9_at_0_ok (17, (.getfield 9, 3)) (List.mem_of_getElem? (i := 9) rfl))
theorem dX9_at_20 : decode cX9_at 20 = .ok (.iload_n 1, 1) := of_decide_eq_true (List.all_eq_true.mp dsX9_at_0_ok (20, (.iload_n 1, 1)) (List.mem_of_getElem? (i := 10) rfl))
theorem dX9_at_21 : decode cX9_at 21 = .ok (.baload, 1) := of_decide_eq_true (List.all_eq_true.mp dsX9_at_0_ok (21, (.baload, 1)) (List.mem_of_getElem? (i := 11) rfl))
theorem dX9_at_22 : decode cX9_at 22 = .ok (.sipush 255, 3) := of_decide_eq_true (List.all_eq_true.mp dsX9_at_0_ok (22, (.sipush 255, 3)) (List.mem_of_getElem? (i := 12) rfl))
theorem dX9_at_25 : decode cX9_at 25 = .ok (.iand, 1) := of_decide_eq_true (List.all_eq_true.mp dsX9_at_0_ok (25, (.iand, 1)) (List.mem_of_getElem? (i := 13) rfl))
theorem dX9_at_26 : decode cX9_at 26 = .ok (.ireturn, 1) := of_decide_eq_true (List.all_eq_true.mp dsX9_at_0_ok (26, (.ireturn, 1)) (List.mem_of_getElem? (i := 14) rfl))
def fX9_at (N : Nat) (taI : Nat → Int32) (ta_bytesF : Nat → Int32)  (p1 : Int32) : Option (Int32) :=
  (if p1 < 0 then some ((-1)) else (if p1 < (taI 1) then (xq_bd (xq_ald 1600 ta_bytesF p1) fun v_1 => some (v_1 &&& 255)) else some ((-1))))
set_option maxHeartbeats 4000000 in
set_option maxRecDepth 100000 in
theorem kX9_at (l : Launch) (dC : Nat → ClassId) (dI : Nat → Nat → Nat) (cI cB cJ cZ cM : ClassId) (z : Nat) (ad : Nat → Nat) (N : Nat) (a_p0 : Nat) (taI : Nat → Int32) (taR : Nat → Nat) (ta_bytesF : Nat → Int32) (p1 : Int32) {r0 : Int32} (hf : fX9_at N taI ta_bytesF p1 = some r0) : xq_Ct l yX9_at wsX9_at { frames := 0, cells := 0, slots := 0, locals := 0 } (dC, dI) vwCl (xq_tys cI cB cJ cZ cM) z ad [.ref a_p0, .int p1] [(a_p0, .inr (9, oX9 taI taR)), ((taR 0), .inl (cB, 1600, .inl ta_bytesF))] [(a_p0, .inr (9, oX9 taI taR)), ((taR 0), .inl (cB, 1600, .inl ta_bytesF))] (some (.int r0)) := by
  intro sz
  refine Met.ofW (cc := cX9_at) (maxL := 2) (ret := (some .int)) (by decide) rfl ?_
  intro p e s m args below meth c s₁ B hml hv
  obtain ⟨rfl, hsz, hP, hK, hD0, hE, hz⟩ := hv
  have hx := B.exec
  have hb := B.bytes
  have hr := B.returns
  have hts := atoms_spec (ws := wsX9_at) B.pre
  have hown : s.vm.findClass RX9 = some m.cls := findClass_of_methodNamed B.named
  have hlocks := B.notSynchronized
  subst hsz
  have hD := hD0.self (sz := s.heap.size)
  have hN := xq_Env.of hE hz hD0
  generalize hAe : va_A [(a_p0, .inr (9, oX9 taI taR)), ((taR 0), .inl (cB, 1600, .inl ta_bytesF))] s.heap.size = A at hD hN ⊢
  have hA : ∀ q : Nat, s.heap.size ≤ q → A q := fun q h => by rw [← hAe]; exact Or.inr h
  clear hAe hD0
  have hS : va_S A s.heap s.heap [] := va_S.rf
  have hl := lv_entry ([.ref a_p0, .int p1]) (n := 2) (Nat.le_of_ble_eq_true rfl)
  rw [lg_entry_eq]
  generalize (lg_sl ([.ref a_p0, .int p1]) ++ List.replicate (2 - (lg_sl ([.ref a_p0, .int p1])).length) Slot.unset).toArray = ls at hl ⊢
  have hl : lv_has ls 2 [(0, .ref a_p0), (1, .int p1)] := hl
  have hw0 := hts (.fieldLink RX9 15 "DistantVoice$Tape" "length" "I") (by decide +kernel)
  have hinX9 : ∀ w ∈ wsX90, w ∈ wsX9_at := fun w h => List.mem_cons_of_mem _ (List.mem_append_right _ h)
  have hw2 := hts (.fieldLink RX9 9 "DistantVoice$Tape" "bytes" "[B") (by decide +kernel)
  unfold fX9_at at hf
  refine lv_iload_n hx hb dX9_at_0 rfl (lv_at hl 1 rfl) ?_
  refine lv_if_lt (tgt := 12) hx hb dX9_at_1 (by decide) (fun c_ => ?_) (fun c_ => ?_)
  · have hf := xq_pos hf c_
    refine lv_iconst (v := (-1)) hx hb dX9_at_12 (by decide) ?_
    refine lv_goto (tgt := 26) hx hb dX9_at_13 (by decide) ?_
    cases hf
    exact xq_iret hx hb hr hlocks hK hP hD hS dX9_at_26
  · have hf := xq_neg hf c_
    refine lv_iload_n hx hb dX9_at_4 rfl (lv_at hl 1 rfl) ?_
    refine lv_aload_n hx hb dX9_at_5 rfl (lv_at hl 0 rfl) ?_
    refine va_get (D := (dC, dI)) (ci := 9) (v := .int (taI 1)) (C := RX9) (T := TX9) (N := 2) hx hb hts hinX9 hown hK hP 0 rfl rfl 1 (by decide) hw0 (fun _ h9 => h9) rfl dX9_at_6 ?_
    refine lv_icmp_lt (tgt := 16) hx hb dX9_at_9 (by decide) (fun c_ => ?_) (fun c_ => ?_)
    · have hf := xq_pos hf c_
      refine lv_aload_n hx hb dX9_at_16 rfl (lv_at hl 0 rfl) ?_
      refine va_get (D := (dC, dI)) (ci := 9) (v := .ref ((taR 0))) (C := RX9) (T := TX9) (N := 2) hx hb hts hinX9 hown hK hP 0 rfl rfl 0 (by decide) hw2 (fun _ h9 => h9) rfl dX9_at_17 ?_
      refine lv_iload_n hx hb dX9_at_20 rfl (lv_at hl 1 rfl) ?_
      refine xq_bald hx hb hK hP 1 1 rfl rfl hf dX9_at_21 (fun v_1 hf => ?_)
      refine lv_sipush (v := 255) hx hb dX9_at_22 (by decide) ?_
      refine lv_iand hx hb dX9_at_25 ?_
      cases hf
      exact xq_iret hx hb hr hlocks hK hP hD hS dX9_at_26
    · have hf := xq_neg hf c_
      refine lv_iconst (v := (-1)) hx hb dX9_at_12 (by decide) ?_
      refine lv_goto (tgt := 26) hx hb dX9_at_13 (by decide) ?_
      cases hf
      exact xq_iret hx hb hr hlocks hK hP hD hS dX9_at_26
def dsX9_add_0 : List (Nat × Instr × Nat) := [(0, (.bipush 24, 2)), (2, (.istore_n 2, 1)), (3, (.iload_n 2, 1)), (4, (.ifCond .lt 44, 3)), (7, (.aload_n 0, 1)), (8, (.getfield 15, 3)), (11, (.aload_n 0, 1)), (12, (.getfield 9, 3)), (15, (.arraylength, 1)), (16, (.if_icmp .ge 32, 3)), (19, (.aload_n 0, 1)), (20, (.getfield 9, 3)), (23, (.aload_n 0, 1)), (24, (.getfield 15, 3)), (27, (.iload_n 1, 1)), (28, (.iload_n 2, 1)), (29, (.iushr, 1)), (30, (.i2b, 1)), (31, (.bastore, 1)), (32, (.aload_n 0, 1)), (33, (.dup, 1)), (34, (.getfield 15, 3)), (37, (.iconst 1, 1)), (38, (.iadd, 1)), (39, (.putfield 15, 3)), (42, (.iinc 2 (-8), 3)), (45, (.goto (-42), 3)), (48, (.return_, 1))]
theorem dsX9_add_0_ok : (dsX9_add_0.all fun q => decide (decode cX9_add q.1 = .ok q.2)) = true := by decide +kernel
theorem dX9_add_0 : decode cX9_add 0 = .ok (.bipush 24, 2) := of_decide_eq_true (List.all_eq_true.mp dsX9_add_0_ok (0, (.bipush 24, 2)) (List.mem_of_getElem? (i := 0) rfl))
theorem dX9_add_2 : decode cX9_add 2 = .ok (.istore_n 2, 1) := of_decide_eq_true (List.all_eq_true.mp dsX9_add_0_ok (2, (.istore_n 2, 1)) (List.mem_of_getElem? (i := 1) rfl))
theorem dX9_add_3 : decode cX9_add 3 = .ok (.iload_n 2, 1) := of_decide_eq_true (List.all_eq_true.mp dsX9_add_0_ok (3, (.iload_n 2, 1)) (List.mem_of_getElem? (i := 2) rfl))
theorem dX9_add_4 : decode cX9_add 4 = .ok (.ifCond .lt 44, 3) := of_decide_eq_true (List.all_eq_true.mp dsX9_add_0_ok (4, (.ifCond .lt 44, 3)) (List.mem_of_getElem? (i := 3) rfl))
theorem dX9_add_7 : decode cX9_add 7 = .ok (.aload_n 0, 1) := of_decide_eq_true (List.all_eq_true.mp dsX9_add_0_ok (7, (.aload_n 0, 1)) (List.mem_of_getElem? (i := 4) rfl))
theorem dX9_add_8 : decode cX9_add 8 = .ok (.getfield 15, 3) := of_decide_eq_true (List.all_eq_true.mp dsX9_add_0_ok (8, (.getfield 15, 3)) (List.mem_of_getElem? (i := 5) rfl))
theorem dX9_add_11 : decode cX9_add 11 = .ok (.aload_n 0, 1) := of_decide_eq_true (List.all_eq_true.mp dsX9_add_0_ok (11, (.aload_n 0, 1)) (List.mem_of_getElem? (i := 6) rfl))
theorem dX9_add_12 : decode cX9_add 12 = .ok (.getfield 9, 3) := of_decide_eq_true (List.all_eq_true.mp dsX9_add_0_ok (12, (.getfield 9, 3)) (List.mem_of_getElem? (i := 7) rfl))
theorem dX9_add_15 : decode cX9_add 15 = .ok (.arraylength, 1) := of_decide_eq_true (List.all_eq_true.mp dsX9_add_0_ok (15, (.arraylength, 1)) (List.mem_of_getElem? (i := 8) rfl))
theorem dX9_add_16 : decode cX9_add 16 = .ok (.if_icmp .ge 32, 3) := of_decide_eq_true (List.all_eq_true.mp dsX9_add_0_ok (16, (.if_icmp .ge 32, 3)) (List.mem_of_getElem? (i := 9) rfl))
theorem dX9_add_19 : decode cX9_add 19 = .ok (.aload_n 0, 1) := of_decide_eq_true (List.all_eq_true.mp dsX9_add_0_ok (19, (.aload_n 0, 1)) (List.mem_of_getElem? (i := 10) rfl))
theorem dX9_add_20 : decode cX9_add 20 = .ok (.getfield 9, 3) := of_decide_eq_true (List.all_eq_true.mp dsX9_add_0_ok (20, (.getfield 9, 3)) (List.mem_of_getElem? (i := 11) rfl))
theorem dX9_add_23 : decode cX9_add 23 = .ok (.aload_n 0, 1) := of_decide_eq_true (List.all_eq_true.mp dsX9_add_0_ok (23, (.aload_n 0, 1)) (List.mem_of_getElem? (i := 12) rfl))
theorem dX9_add_24 : decode cX9_add 24 = .ok (.getfield 15, 3) := of_decide_eq_true (List.all_eq_true.mp dsX9_add_0_ok (24, (.getfield 15, 3)) (List.mem_of_getElem? (i := 13) rfl))
theorem dX9_add_27 : decode cX9_add 27 = .ok (.iload_n 1, 1) := of_decide_eq_true (List.all_eq_true.mp dsX9_add_0_ok (27, (.iload_n 1, 1)) (List.mem_of_getElem? (i := 14) rfl))
theorem dX9_add_28 : decode cX9_add 28 = .ok (.iload_n 2, 1) := of_decide_eq_true (List.all_eq_true.mp dsX9_add_0_ok (28, (.iload_n 2, 1)) (List.mem_of_getElem? (i := 15) rfl))
theorem dX9_add_29 : decode cX9_add 29 = .ok (.iushr, 1) := of_decide_eq_true (List.all_eq_true.mp dsX9_add_0_ok (29, (.iushr, 1)) (List.mem_of_getElem? (i := 16) rfl))
theorem dX9_add_30 : decode cX9_add 30 = .ok (.i2b, 1) := of_decide_eq_true (List.all_eq_true.mp dsX9_add_0_ok (30, (.i2b, 1)) (List.mem_of_getElem? (i := 17) rfl))
theorem dX9_add_31 : decode cX9_add 31 = .ok (.bastore, 1) := of_decide_eq_true (List.all_eq_true.mp dsX9_add_0_ok (31, (.bastore, 1)) (List.mem_of_getElem? (i := 18) rfl))
theorem dX9_add_32 : decode cX9_add 32 = .ok (.aload_n 0, 1) := of_decide_eq_true (List.all_eq_true.mp dsX9_add_0_ok (32, (.aload_n 0, 1)) (List.mem_of_getElem? (i := 19) rfl))
theorem dX9_add_33 : decode cX9_add 33 = .ok (.dup, 1) := of_decide_eq_true (List.all_eq_true.mp dsX9_add_0_ok (33, (.dup, 1)) (List.mem_of_getElem? (i := 20) rfl))
theorem dX9_add_34 : decode cX9_add 34 = .ok (.getfield 15, 3) := of_decide_eq_true (List.all_eq_true.mp dsX9_add_0_ok (34, (.getfield 15, 3)) (List.mem_of_getElem? (i := 21) rfl))
theorem dX9_add_37 : decode cX9_add 37 = .ok (.iconst 1, 1) := of_decide_eq_true (List.all_eq_true.mp dsX9_add_0_ok (37, (.iconst 1, 1)) (List.mem_of_getElem? (i := 22) rfl))
theorem dX9_add_38 : decode cX9_add 38 = .ok (.iadd, 1) := of_decide_eq_true (List.all_eq_true.mp dsX9_add_0_ok (38, (.iadd, 1)) (List.mem_of_getElem? (i := 23) rfl))
theorem dX9_add_39 : decode cX9_add 39 = .ok (.putfield 15, 3) := of_decide_eq_true (List.all_eq_true.mp dsX9_add_0_ok (39, (.putfield 15, 3)) (List.mem_of_getElem? (i := 24) rfl))
theorem dX9_add_42 : decode cX9_add 42 = .ok (.iinc 2 (-8), 3) := of_decide_eq_true (List.all_eq_true.mp dsX9_add_0_ok (42, (.iinc 2 (-8), 3)) (List.mem_of_getElem? (i := 25) rfl))
theorem dX9_add_45 : decode cX9_add 45 = .ok (.goto (-42), 3) := of_decide_eq_true (List.all_eq_true.mp dsX9_add_0_ok (45, (.goto (-42), 3)) (List.mem_of_getElem? (i := 26) rfl))
theorem dX9_add_48 : decode cX9_add 48 = .ok (.return_, 1) := of_decide_eq_true (List.all_eq_true.mp dsX9_add_0_ok (48, (.return_, 1)) (List.mem_of_getElem? (i := 27) rfl))
def fX9_add_l3 (N : Nat)   (k3 : ((Nat → Int32) × (Nat → Int32) × Int32 × Int32) → Option ((Nat → Int32) × (Nat → Int32))) : ((Nat → Int32) × (Nat → Int32) × Int32 × Int32) → Option ((Nat → Int32) × (Nat → Int32)) :=
  fun (taI_3, ta_bytesF_3, x1_3, x2_3) => (if x2_3 < 0 then some ((taI_3, ta_bytesF_3)) else (if 1600 ≤ (taI_3 1) then some ((taI_3, ta_bytesF_3)) else (xq_bd (xq_ast 1600 ta_bytesF_3 (taI_3 1) (vp_nar .byte (((x1_3.toUInt32 >>> (x2_3.toUInt32 &&& Int32.toUInt32 31)).toInt32).toInt8.toInt32))) fun g_1 => k3 ((va_up taI_3 1 ((taI_3 1) + 1)), g_1, x1_3, x2_3 + (-8)))))
def fX9_add (N : Nat) (taI : Nat → Int32) (ta_bytesF : Nat → Int32)  (p1 : Int32) : Option ((Nat → Int32) × (Nat → Int32)) :=
  xq_loop (fX9_add_l3 N) N (taI, ta_bytesF, p1, 24)
set_option maxHeartbeats 4000000 in
set_option maxRecDepth 100000 in
theorem kX9_add (l : Launch) (dC : Nat → ClassId) (dI : Nat → Nat → Nat) (cI cB cJ cZ cM : ClassId) (z : Nat) (ad : Nat → Nat) (N : Nat) (a_p0 : Nat) (taI : Nat → Int32) (taR : Nat → Nat) (ta_bytesF : Nat → Int32) (p1 : Int32) {r0 : Nat → Int32} {r1 : Nat → Int32} (hf : fX9_add N taI ta_bytesF p1 = some (r0, r1)) : xq_Ct l yX9_add wsX9_add { frames := 0, cells := 0, slots := 0, locals := 0 } (dC, dI) vwCl (xq_tys cI cB cJ cZ cM) z ad [.ref a_p0, .int p1] [(a_p0, .inr (9, oX9 taI taR)), ((taR 0), .inl (cB, 1600, .inl ta_bytesF))] [(a_p0, .inr (9, oX9 r0 taR)), ((taR 0), .inl (cB, 1600, .inl r1))] none := by
  intro sz
  refine Met.ofW (cc := cX9_add) (maxL := 3) (ret := none) (by decide) rfl ?_
  intro p e s m args below meth c s₁ B hml hv
  obtain ⟨rfl, hsz, hP, hK, hD0, hE, hz⟩ := hv
  have hx := B.exec
  have hb := B.bytes
  have hr := B.returns
  have hts := atoms_spec (ws := wsX9_add) B.pre
  have hown : s.vm.findClass RX9 = some m.cls := findClass_of_methodNamed B.named
  have hlocks := B.notSynchronized
  subst hsz
  have hD := hD0.self (sz := s.heap.size)
  have hN := xq_Env.of hE hz hD0
  generalize hAe : va_A [(a_p0, .inr (9, oX9 taI taR)), ((taR 0), .inl (cB, 1600, .inl ta_bytesF))] s.heap.size = A at hD hN ⊢
  have hA : ∀ q : Nat, s.heap.size ≤ q → A q := fun q h => by rw [← hAe]; exact Or.inr h
  clear hAe hD0
  have hS : va_S A s.heap s.heap [] := va_S.rf
  have hl := lv_entry ([.ref a_p0, .int p1]) (n := 3) (Nat.le_of_ble_eq_true rfl)
  rw [lg_entry_eq]
  generalize (lg_sl ([.ref a_p0, .int p1]) ++ List.replicate (3 - (lg_sl ([.ref a_p0, .int p1])).length) Slot.unset).toArray = ls at hl ⊢
  have hl : lv_has ls 3 [(0, .ref a_p0), (1, .int p1)] := hl
  have hw0 := hts (.fieldLink RX9 15 "DistantVoice$Tape" "length" "I") (by decide +kernel)
  have hinX9 : ∀ w ∈ wsX90, w ∈ wsX9_add := fun w h => List.mem_cons_of_mem _ (List.mem_append_right _ h)
  have hw2 := hts (.fieldLink RX9 9 "DistantVoice$Tape" "bytes" "[B") (by decide +kernel)
  have l3 : ∀ n3 : Nat, ∀ (taI_3 : Nat → Int32) (ta_bytesF_3 : Nat → Int32) (x1_3 : Int32) (x2_3 : Int32) (ls : Array Slot) (H : Heap) (locs : List Loc), xq_loop (fX9_add_l3 N) n3 (taI_3, ta_bytesF_3, x1_3, x2_3) = some (r0, r1) → va_P (dC, dI) vwCl [(a_p0, .inr (9, oX9 taI_3 taR)), ((taR 0), .inl (cB, 1600, .inl ta_bytesF_3))] H → va_D A [(a_p0, .inr (9, oX9 taI_3 taR)), ((taR 0), .inl (cB, 1600, .inl ta_bytesF_3))] → va_S A s.heap H locs → lv_has ls 3 [(0, .ref a_p0), (1, .int x1_3), (2, .int x2_3)] → W p l e (headSpec wsX9_add { frames := 0, cells := 0, slots := 0, locals := 0 }).room s m [.ref a_p0, .int p1].toArray below meth c H locs 0 0 (MQ below (xq_Q (dC, dI) vwCl (xq_tys cI cB cJ cZ cM) A [(a_p0, .inr (9, oX9 r0 taR)), ((taR 0), .inl (cB, 1600, .inl r1))] none) [.ref a_p0, .int p1].toArray s 0 0 A) (F0 m 3 ls []) := by
    intro n3
    induction n3 with
    | zero => intro taI_3 ta_bytesF_3 x1_3 x2_3 ls H locs hf; cases (show none = some (r0, r1) from hf)
    | succ n3 ih3 =>
      intro taI_3 ta_bytesF_3 x1_3 x2_3 ls H locs hf hP hD hS hl
      have hf : fX9_add_l3 N (xq_loop (fX9_add_l3 N) n3) (taI_3, ta_bytesF_3, x1_3, x2_3) = some (r0, r1) := hf
      unfold fX9_add_l3 at hf
      refine lv_iload_n hx hb dX9_add_3 rfl (lv_at hl 2 rfl) ?_
      refine lv_if_lt (tgt := 48) hx hb dX9_add_4 (by decide) (fun c_ => ?_) (fun c_ => ?_)
      · have hf := xq_pos hf c_
        cases hf
        exact xq_vret hx hb hr hlocks hK hP hD hS dX9_add_48
      · have hf := xq_neg hf c_
        refine lv_aload_n hx hb dX9_add_7 rfl (lv_at hl 0 rfl) ?_
        refine va_get (D := (dC, dI)) (ci := 9) (v := .int (taI_3 1)) (C := RX9) (T := TX9) (N := 2) hx hb hts hinX9 hown hK hP 0 rfl rfl 1 (by decide) hw0 (fun _ h9 => h9) rfl dX9_add_8 ?_
        refine lv_aload_n hx hb dX9_add_11 rfl (lv_at hl 0 rfl) ?_
        refine va_get (D := (dC, dI)) (ci := 9) (v := .ref ((taR 0))) (C := RX9) (T := TX9) (N := 2) hx hb hts hinX9 hown hK hP 0 rfl rfl 0 (by decide) hw2 (fun _ h9 => h9) rfl dX9_add_12 ?_
        refine va_alen hx hb hK hP 1 1 (v := 1600) rfl rfl rfl dX9_add_15 ?_
        refine lv_icmp_ge (tgt := 48) hx hb dX9_add_16 (by decide) (fun c_ => ?_) (fun c_ => ?_)
        · have hf := xq_pos hf c_
          cases hf
          exact xq_vret hx hb hr hlocks hK hP hD hS dX9_add_48
        · have hf := xq_neg hf c_
          refine lv_aload_n hx hb dX9_add_19 rfl (lv_at hl 0 rfl) ?_
          refine va_get (D := (dC, dI)) (ci := 9) (v := .ref ((taR 0))) (C := RX9) (T := TX9) (N := 2) hx hb hts hinX9 hown hK hP 0 rfl rfl 0 (by decide) hw2 (fun _ h9 => h9) rfl dX9_add_20 ?_
          refine lv_aload_n hx hb dX9_add_23 rfl (lv_at hl 0 rfl) ?_
          refine va_get (D := (dC, dI)) (ci := 9) (v := .int (taI_3 1)) (C := RX9) (T := TX9) (N := 2) hx hb hts hinX9 hown hK hP 0 rfl rfl 1 (by decide) hw0 (fun _ h9 => h9) rfl dX9_add_24 ?_
          refine lv_iload_n hx hb dX9_add_27 rfl (lv_at hl 1 rfl) ?_
          refine lv_iload_n hx hb dX9_add_28 rfl (lv_at hl 2 rfl) ?_
          refine lv_iushr (v := (x1_3.toUInt32 >>> (x2_3.toUInt32 &&& Int32.toUInt32 31)).toInt32) hx hb dX9_add_29 rfl ?_
          refine lv_i2b (v := ((x1_3.toUInt32 >>> (x2_3.toUInt32 &&& Int32.toUInt32 31)).toInt32).toInt8.toInt32) hx hb dX9_add_30 rfl ?_
          refine xq_bast hx hb hK hP hD hS 1 1 rfl rfl hf dX9_add_31 (fun g_1 H locs hf hP hD hS => ?_)
          have hP : va_P (dC, dI) vwCl [(a_p0, .inr (9, oX9 taI_3 taR)), ((taR 0), .inl (cB, 1600, .inl g_1))] H := hP
          have hD : va_D A [(a_p0, .inr (9, oX9 taI_3 taR)), ((taR 0), .inl (cB, 1600, .inl g_1))] := hD
          refine lv_aload_n hx hb dX9_add_32 rfl (lv_at hl 0 rfl) ?_
          refine lv_dup hx hb dX9_add_33 rfl ?_
          refine va_get (D := (dC, dI)) (ci := 9) (v := .int (taI_3 1)) (C := RX9) (T := TX9) (N := 2) hx hb hts hinX9 hown hK hP 0 rfl rfl 1 (by decide) hw0 (fun _ h9 => h9) rfl dX9_add_34 ?_
          refine lv_iconst (v := 1) hx hb dX9_add_37 (by decide) ?_
          refine lv_iadd hx hb dX9_add_38 ?_
          refine va_put (D := (dC, dI)) (ci := 9) (v := .int ((taI_3 1) + 1)) (ty := .int) (C := RX9) (T := TX9) (N := 2) hx hb hts hinX9 tyX9 tyX9_ok nmX9 hown hK hP hD hS 0 rfl rfl 1 (by decide) hw0 (fun _ h9 => h9) rfl (by decide +kernel) rfl rfl (Nat.le_of_ble_eq_true rfl) dX9_add_39 (fun H locs hP hD hS => ?_)
          have hP : va_P (dC, dI) vwCl [(a_p0, .inr (9, oX9 (va_up taI_3 1 ((taI_3 1) + 1)) taR)), ((taR 0), .inl (cB, 1600, .inl g_1))] H := hP
          have hD : va_D A [(a_p0, .inr (9, oX9 (va_up taI_3 1 ((taI_3 1) + 1)) taR)), ((taR 0), .inl (cB, 1600, .inl g_1))] := hD
          refine lv_iinc (v := x2_3 + (-8)) (lv' := [(2, .int (x2_3 + (-8))), (0, .ref a_p0), (1, .int x1_3)]) hx hb dX9_add_42 hl (k := 2) rfl (congrArg (fun q9 => x2_3 + q9) (by decide : Int32.ofInt (-8) = (-8))) (by decide) rfl (fun ls hl => ?_)
          refine lv_goto (tgt := 3) hx hb dX9_add_45 (by decide) ?_
          exact ih3 ((va_up taI_3 1 ((taI_3 1) + 1))) g_1 x1_3 (x2_3 + (-8)) _ _ _ hf hP hD hS (lv_sub hl [1, 2, 0] rfl)
  unfold fX9_add at hf
  refine lv_bipush (v := 24) hx hb dX9_add_0 (by decide) ?_
  refine lv_istore_n (lv' := [(2, .int 24), (0, .ref a_p0), (1, .int p1)]) hx hb dX9_add_2 rfl hl (by decide) rfl (fun ls hl => ?_)
  exact l3 N taI ta_bytesF p1 24 _ _ _ hf hP hD hS (lv_sub hl [1, 2, 0] rfl)
def dsJ6_bitCount_0f7a4_0 : List (Nat × Instr × Nat) := [(0, (.iload_n 0, 1)), (1, (.iload_n 0, 1)), (2, (.iconst 1, 1)), (3, (.iushr, 1)), (4, (.ldc_w 265, 3)), (7, (.iand, 1)), (8, (.isub, 1)), (9, (.istore_n 0, 1)), (10, (.iload_n 0, 1)), (11, (.ldc_w 266, 3)), (14, (.iand, 1)), (15, (.iload_n 0, 1)), (16, (.iconst 2, 1)), (17, (.iushr, 1)), (18, (.ldc_w 266, 3)), (21, (.iand, 1)), (22, (.iadd, 1)), (23, (.istore_n 0, 1)), (24, (.iload_n 0, 1)), (25, (.iload_n 0, 1)), (26, (.iconst 4, 1)), (27, (.iushr, 1)), (28, (.iadd, 1)), (29, (.ldc_w 267, 3)), (32, (.iand, 1)), (33, (.istore_n 0, 1)), (34, (.iload_n 0, 1)), (35, (.iload_n 0, 1)), (36, (.bipush 8, 2)), (38, (.iushr, 1)), (39, (.iadd, 1)), (40, (.istore_n 0, 1)), (41, (.iload_n 0, 1)), (42, (.iload_n 0, 1)), (43, (.bipush 16, 2)), (45, (.iushr, 1)), (46, (.iadd, 1)), (47, (.istore_n 0, 1)), (48, (.iload_n 0, 1)), (49, (.bipush 63, 2)), (51, (.iand, 1)), (52, (.ireturn, 1))]
theorem dsJ6_bitCount_0f7a4_0_ok : (dsJ6_bitCount_0f7a4_0.all fun q => decide (decode cJ6_bitCount_0f7a4 q.1 = .ok q.2)) = true := by decide +kernel
theorem dJ6_bitCount_0f7a4_0 : decode cJ6_bitCount_0f7a4 0 = .ok (.iload_n 0, 1) := of_decide_eq_true (List.all_eq_true.mp dsJ6_bitCount_0f7a4_0_ok (0, (.iload_n 0, 1)) (List.mem_of_getElem? (i := 0) rfl))
theorem dJ6_bitCount_0f7a4_1 : decode cJ6_bitCount_0f7a4 1 = .ok (.iload_n 0, 1) := of_decide_eq_true (List.all_eq_true.mp dsJ6_bitCount_0f7a4_0_ok (1, (.iload_n 0, 1)) (List.mem_of_getElem? (i := 1) rfl))
theorem dJ6_bitCount_0f7a4_2 : decode cJ6_bitCount_0f7a4 2 = .ok (.iconst 1, 1) := of_decide_eq_true (List.all_eq_true.mp dsJ6_bitCount_0f7a4_0_ok (2, (.iconst 1, 1)) (List.mem_of_getElem? (i := 2) rfl))
theorem dJ6_bitCount_0f7a4_3 : decode cJ6_bitCount_0f7a4 3 = .ok (.iushr, 1) := of_decide_eq_true (List.all_eq_true.mp dsJ6_bitCount_0f7a4_0_ok (3, (.iushr, 1)) (List.mem_of_getElem? (i := 3) rfl))
theorem dJ6_bitCount_0f7a4_4 : decode cJ6_bitCount_0f7a4 4 = .ok (.ldc_w 265, 3) := of_decide_eq_true (List.all_eq_true.mp dsJ6_bitCount_0f7a4_0_ok (4, (.ldc_w 265, 3)) (List.mem_of_getElem? (i := 4) rfl))
theorem dJ6_bitCount_0f7a4_7 : decode cJ6_bitCount_0f7a4 7 = .ok (.iand, 1) := of_decide_eq_true (List.all_eq_true.mp dsJ6_bitCount_0f7a4_0_ok (7, (.iand, 1)) (List.mem_of_getElem? (i := 5) rfl))
theorem dJ6_bitCount_0f7a4_8 : decode cJ6_bitCount_0f7a4 8 = .ok (.isub, 1) := of_decide_eq_true (List.all_eq_true.mp dsJ6_bitCount_0f7a4_0_ok (8, (.isub, 1)) (List.mem_of_getElem? (i := 6) rfl))
theorem dJ6_bitCount_0f7a4_9 : decode cJ6_bitCount_0f7a4 9 = .ok (.istore_n 0, 1) := of_decide_eq_true (List.all_eq_true.mp dsJ6_bitCount_0f7a4_0_ok (9, (.istore_n 0, 1)) (List.mem_of_getElem? (i := 7) rfl))
theorem dJ6_bitCount_0f7a4_10 : decode cJ6_bitCount_0f7a4 10 = .ok (.iload_n 0, 1) := of_decide_eq_true (List.all_eq_true.mp dsJ6_bitCount_0f7a4_0_ok (10, (.iload_n 0, 1)) (List.mem_of_getElem? (i := 8) rfl))
theorem dJ6_bitCount_0f7a4_11 : decode cJ6_bitCount_0f7a4 11 = .ok (.ldc_w 266, 3) := of_decide_eq_true (List.all_eq_true.mp dsJ6_bitCount_0f7a4_0_ok (11, (.ldc_w 266, 3)) (List.mem_of_getElem? (i := 9) rfl))
theorem dJ6_bitCount_0f7a4_14 : decode cJ6_bitCount_0f7a4 14 = .ok (.iand, 1) := of_decide_eq_true (List.all_eq_true.mp dsJ6_bitCount_0f7a4_0_ok (14, (.iand, 1)) (List.mem_of_getElem? (i := 10) rfl))
theorem dJ6_bitCount_0f7a4_15 : decode cJ6_bitCount_0f7a4 15 = .ok (.iload_n 0, 1) := of_decide_eq_true (List.all_eq_true.mp dsJ6_bitCount_0f7a4_0_ok (15, (.iload_n 0, 1)) (List.mem_of_getElem? (i := 11) rfl))
theorem dJ6_bitCount_0f7a4_16 : decode cJ6_bitCount_0f7a4 16 = .ok (.iconst 2, 1) := of_decide_eq_true (List.all_eq_true.mp dsJ6_bitCount_0f7a4_0_ok (16, (.iconst 2, 1)) (List.mem_of_getElem? (i := 12) rfl))
theorem dJ6_bitCount_0f7a4_17 : decode cJ6_bitCount_0f7a4 17 = .ok (.iushr, 1) := of_decide_eq_true (List.all_eq_true.mp dsJ6_bitCount_0f7a4_0_ok (17, (.iushr, 1)) (List.mem_of_getElem? (i := 13) rfl))
theorem dJ6_bitCount_0f7a4_18 : decode cJ6_bitCount_0f7a4 18 = .ok (.ldc_w 266, 3) := of_decide_eq_true (List.all_eq_true.mp dsJ6_bitCount_0f7a4_0_ok (18, (.ldc_w 266, 3)) (List.mem_of_getElem? (i := 14) rfl))
theorem dJ6_bitCount_0f7a4_21 : decode cJ6_bitCount_0f7a4 21 = .ok (.iand, 1) := of_decide_eq_true (List.all_eq_true.mp dsJ6_bitCount_0f7a4_0_ok (21, (.iand, 1)) (List.mem_of_getElem? (i := 15) rfl))
theorem dJ6_bitCount_0f7a4_22 : decode cJ6_bitCount_0f7a4 22 = .ok (.iadd, 1) := of_decide_eq_true (List.all_eq_true.mp dsJ6_bitCount_0f7a4_0_ok (22, (.iadd, 1)) (List.mem_of_getElem? (i := 16) rfl))
theorem dJ6_bitCount_0f7a4_23 : decode cJ6_bitCount_0f7a4 23 = .ok (.istore_n 0, 1) := of_decide_eq_true (List.all_eq_true.mp dsJ6_bitCount_0f7a4_0_ok (23, (.istore_n 0, 1)) (List.mem_of_getElem? (i := 17) rfl))
theorem dJ6_bitCount_0f7a4_24 : decode cJ6_bitCount_0f7a4 24 = .ok (.iload_n 0, 1) := of_decide_eq_true (List.all_eq_true.mp dsJ6_bitCount_0f7a4_0_ok (24, (.iload_n 0, 1)) (List.mem_of_getElem? (i := 18) rfl))
theorem dJ6_bitCount_0f7a4_25 : decode cJ6_bitCount_0f7a4 25 = .ok (.iload_n 0, 1) := of_decide_eq_true (List.all_eq_true.mp dsJ6_bitCount_0f7a4_0_ok (25, (.iload_n 0, 1)) (List.mem_of_getElem? (i := 19) rfl))
theorem dJ6_bitCount_0f7a4_26 : decode cJ6_bitCount_0f7a4 26 = .ok (.iconst 4, 1) := of_decide_eq_true (List.all_eq_true.mp dsJ6_bitCount_0f7a4_0_ok (26, (.iconst 4, 1)) (List.mem_of_getElem? (i := 20) rfl))
theorem dJ6_bitCount_0f7a4_27 : decode cJ6_bitCount_0f7a4 27 = .ok (.iushr, 1) := of_decide_eq_true (List.all_eq_true.mp dsJ6_bitCount_0f7a4_0_ok (27, (.iushr, 1)) (List.mem_of_getElem? (i := 21) rfl))
theorem dJ6_bitCount_0f7a4_28 : decode cJ6_bitCount_0f7a4 28 = .ok (.iadd, 1) := of_decide_eq_true (List.all_eq_true.mp dsJ6_bitCount_0f7a4_0_ok (28, (.iadd, 1)) (List.mem_of_getElem? (i := 22) rfl))
theorem dJ6_bitCount_0f7a4_29 : decode cJ6_bitCount_0f7a4 29 = .ok (.ldc_w 267, 3) := of_decide_eq_true (List.all_eq_true.mp dsJ6_bitCount_0f7a4_0_ok (29, (.ldc_w 267, 3)) (List.mem_of_getElem? (i := 23) rfl))
theorem dJ6_bitCount_0f7a4_32 : decode cJ6_bitCount_0f7a4 32 = .ok (.iand, 1) := of_decide_eq_true (List.all_eq_true.mp dsJ6_bitCount_0f7a4_0_ok (32, (.iand, 1)) (List.mem_of_getElem? (i := 24) rfl))
theorem dJ6_bitCount_0f7a4_33 : decode cJ6_bitCount_0f7a4 33 = .ok (.istore_n 0, 1) := of_decide_eq_true (List.all_eq_true.mp dsJ6_bitCount_0f7a4_0_ok (33, (.istore_n 0, 1)) (List.mem_of_getElem? (i := 25) rfl))
theorem dJ6_bitCount_0f7a4_34 : decode cJ6_bitCount_0f7a4 34 = .ok (.iload_n 0, 1) := of_decide_eq_true (List.all_eq_true.mp dsJ6_bitCount_0f7a4_0_ok (34, (.iload_n 0, 1)) (List.mem_of_getElem? (i := 26) rfl))
theorem dJ6_bitCount_0f7a4_35 : decode cJ6_bitCount_0f7a4 35 = .ok (.iload_n 0, 1) := of_decide_eq_true (List.all_eq_true.mp dsJ6_bitCount_0f7a4_0_ok (35, (.iload_n 0, 1)) (List.mem_of_getElem? (i := 27) rfl))
theorem dJ6_bitCount_0f7a4_36 : decode cJ6_bitCount_0f7a4 36 = .ok (.bipush 8, 2) := of_decide_eq_true (List.all_eq_true.mp dsJ6_bitCount_0f7a4_0_ok (36, (.bipush 8, 2)) (List.mem_of_getElem? (i := 28) rfl))
theorem dJ6_bitCount_0f7a4_38 : decode cJ6_bitCount_0f7a4 38 = .ok (.iushr, 1) := of_decide_eq_true (List.all_eq_true.mp dsJ6_bitCount_0f7a4_0_ok (38, (.iushr, 1)) (List.mem_of_getElem? (i := 29) rfl))
theorem dJ6_bitCount_0f7a4_39 : decode cJ6_bitCount_0f7a4 39 = .ok (.iadd, 1) := of_decide_eq_true (List.all_eq_true.mp dsJ6_bitCount_0f7a4_0_ok (39, (.iadd, 1)) (List.mem_of_getElem? (i := 30) rfl))
theorem dJ6_bitCount_0f7a4_40 : decode cJ6_bitCount_0f7a4 40 = .ok (.istore_n 0, 1) := of_decide_eq_true (List.all_eq_true.mp dsJ6_bitCount_0f7a4_0_ok (40, (.istore_n 0, 1)) (List.mem_of_getElem? (i := 31) rfl))
theorem dJ6_bitCount_0f7a4_41 : decode cJ6_bitCount_0f7a4 41 = .ok (.iload_n 0, 1) := of_decide_eq_true (List.all_eq_true.mp dsJ6_bitCount_0f7a4_0_ok (41, (.iload_n 0, 1)) (List.mem_of_getElem? (i := 32) rfl))
theorem dJ6_bitCount_0f7a4_42 : decode cJ6_bitCount_0f7a4 42 = .ok (.iload_n 0, 1) := of_decide_eq_true (List.all_eq_true.mp dsJ6_bitCount_0f7a4_0_ok (42, (.iload_n 0, 1)) (List.mem_of_getElem? (i := 33) rfl))
theorem dJ6_bitCount_0f7a4_43 : decode cJ6_bitCount_0f7a4 43 = .ok (.bipush 16, 2) := of_decide_eq_true (List.all_eq_true.mp dsJ6_bitCount_0f7a4_0_ok (43, (.bipush 16, 2)) (List.mem_of_getElem? (i := 34) rfl))
theorem dJ6_bitCount_0f7a4_45 : decode cJ6_bitCount_0f7a4 45 = .ok (.iushr, 1) := of_decide_eq_true (List.all_eq_true.mp dsJ6_bitCount_0f7a4_0_ok (45, (.iushr, 1)) (List.mem_of_getElem? (i := 35) rfl))
theorem dJ6_bitCount_0f7a4_46 : decode cJ6_bitCount_0f7a4 46 = .ok (.iadd, 1) := of_decide_eq_true (List.all_eq_true.mp dsJ6_bitCount_0f7a4_0_ok (46, (.iadd, 1)) (List.mem_of_getElem? (i := 36) rfl))
theorem dJ6_bitCount_0f7a4_47 : decode cJ6_bitCount_0f7a4 47 = .ok (.istore_n 0, 1) := of_decide_eq_true (List.all_eq_true.mp dsJ6_bitCount_0f7a4_0_ok (47, (.istore_n 0, 1)) (List.mem_of_getElem? (i := 37) rfl))
theorem dJ6_bitCount_0f7a4_48 : decode cJ6_bitCount_0f7a4 48 = .ok (.iload_n 0, 1) := of_decide_eq_true (List.all_eq_true.mp dsJ6_bitCount_0f7a4_0_ok (48, (.iload_n 0, 1)) (List.mem_of_getElem? (i := 38) rfl))
theorem dJ6_bitCount_0f7a4_49 : decode cJ6_bitCount_0f7a4 49 = .ok (.bipush 63, 2) := of_decide_eq_true (List.all_eq_true.mp dsJ6_bitCount_0f7a4_0_ok (49, (.bipush 63, 2)) (List.mem_of_getElem? (i := 39) rfl))
theorem dJ6_bitCount_0f7a4_51 : decode cJ6_bitCount_0f7a4 51 = .ok (.iand, 1) := of_decide_eq_true (List.all_eq_true.mp dsJ6_bitCount_0f7a4_0_ok (51, (.iand, 1)) (List.mem_of_getElem? (i := 40) rfl))
theorem dJ6_bitCount_0f7a4_52 : decode cJ6_bitCount_0f7a4 52 = .ok (.ireturn, 1) := of_decide_eq_true (List.all_eq_true.mp dsJ6_bitCount_0f7a4_0_ok (52, (.ireturn, 1)) (List.mem_of_getElem? (i := 41) rfl))
def fJ6_bitCount_0f7a4 (N : Nat)   (p0 : Int32) : Option (Int32) :=
  some ((((((((p0 - (((p0.toUInt32 >>> ((1 : Int32).toUInt32 &&& Int32.toUInt32 31)).toInt32) &&& 1431655765)) &&& 858993459) + ((((p0 - (((p0.toUInt32 >>> ((1 : Int32).toUInt32 &&& Int32.toUInt32 31)).toInt32) &&& 1431655765)).toUInt32 >>> ((2 : Int32).toUInt32 &&& Int32.toUInt32 31)).toInt32) &&& 858993459)) + (((((p0 - (((p0.toUInt32 >>> ((1 : Int32).toUInt32 &&& Int32.toUInt32 31)).toInt32) &&& 1431655765)) &&& 858993459) + ((((p0 - (((p0.toUInt32 >>> ((1 : Int32).toUInt32 &&& Int32.toUInt32 31)).toInt32) &&& 1431655765)).toUInt32 >>> ((2 : Int32).toUInt32 &&& Int32.toUInt32 31)).toInt32) &&& 858993459)).toUInt32 >>> ((4 : Int32).toUInt32 &&& Int32.toUInt32 31)).toInt32)) &&& 252645135) + (((((((p0 - (((p0.toUInt32 >>> ((1 : Int32).toUInt32 &&& Int32.toUInt32 31)).toInt32) &&& 1431655765)) &&& 858993459) + ((((p0 - (((p0.toUInt32 >>> ((1 : Int32).toUInt32 &&& Int32.toUInt32 31)).toInt32) &&& 1431655765)).toUInt32 >>> ((2 : Int32).toUInt32 &&& Int32.toUInt32 31)).toInt32) &&& 858993459)) + (((((p0 - (((p0.toUInt32 >>> ((1 : Int32).toUInt32 &&& Int32.toUInt32 31)).toInt32) &&& 1431655765)) &&& 858993459) + ((((p0 - (((p0.toUInt32 >>> ((1 : Int32).toUInt32 &&& Int32.toUInt32 31)).toInt32) &&& 1431655765)).toUInt32 >>> ((2 : Int32).toUInt32 &&& Int32.toUInt32 31)).toInt32) &&& 858993459)).toUInt32 >>> ((4 : Int32).toUInt32 &&& Int32.toUInt32 31)).toInt32)) &&& 252645135).toUInt32 >>> ((8 : Int32).toUInt32 &&& Int32.toUInt32 31)).toInt32)) + ((((((((p0 - (((p0.toUInt32 >>> ((1 : Int32).toUInt32 &&& Int32.toUInt32 31)).toInt32) &&& 1431655765)) &&& 858993459) + ((((p0 - (((p0.toUInt32 >>> ((1 : Int32).toUInt32 &&& Int32.toUInt32 31)).toInt32) &&& 1431655765)).toUInt32 >>> ((2 : Int32).toUInt32 &&& Int32.toUInt32 31)).toInt32) &&& 858993459)) + (((((p0 - (((p0.toUInt32 >>> ((1 : Int32).toUInt32 &&& Int32.toUInt32 31)).toInt32) &&& 1431655765)) &&& 858993459) + ((((p0 - (((p0.toUInt32 >>> ((1 : Int32).toUInt32 &&& Int32.toUInt32 31)).toInt32) &&& 1431655765)).toUInt32 >>> ((2 : Int32).toUInt32 &&& Int32.toUInt32 31)).toInt32) &&& 858993459)).toUInt32 >>> ((4 : Int32).toUInt32 &&& Int32.toUInt32 31)).toInt32)) &&& 252645135) + (((((((p0 - (((p0.toUInt32 >>> ((1 : Int32).toUInt32 &&& Int32.toUInt32 31)).toInt32) &&& 1431655765)) &&& 858993459) + ((((p0 - (((p0.toUInt32 >>> ((1 : Int32).toUInt32 &&& Int32.toUInt32 31)).toInt32) &&& 1431655765)).toUInt32 >>> ((2 : Int32).toUInt32 &&& Int32.toUInt32 31)).toInt32) &&& 858993459)) + (((((p0 - (((p0.toUInt32 >>> ((1 : Int32).toUInt32 &&& Int32.toUInt32 31)).toInt32) &&& 1431655765)) &&& 858993459) + ((((p0 - (((p0.toUInt32 >>> ((1 : Int32).toUInt32 &&& Int32.toUInt32 31)).toInt32) &&& 1431655765)).toUInt32 >>> ((2 : Int32).toUInt32 &&& Int32.toUInt32 31)).toInt32) &&& 858993459)).toUInt32 >>> ((4 : Int32).toUInt32 &&& Int32.toUInt32 31)).toInt32)) &&& 252645135).toUInt32 >>> ((8 : Int32).toUInt32 &&& Int32.toUInt32 31)).toInt32)).toUInt32 >>> ((16 : Int32).toUInt32 &&& Int32.toUInt32 31)).toInt32)) &&& 63)
set_option maxHeartbeats 4000000 in
set_option maxRecDepth 100000 in
theorem kJ6_bitCount_0f7a4 (l : Launch) (dC : Nat → ClassId) (dI : Nat → Nat → Nat) (cI cB cJ cZ cM : ClassId) (z : Nat) (ad : Nat → Nat) (N : Nat) (p0 : Int32) {r0 : Int32} (hf : fJ6_bitCount_0f7a4 N p0 = some r0) : xq_Ct l yJ6_bitCount_0f7a4 wsJ6_bitCount_0f7a4 { frames := 0, cells := 0, slots := 0, locals := 0 } (dC, dI) vwCl (xq_tys cI cB cJ cZ cM) z ad [.int p0] [] [] (some (.int r0)) := by
  intro sz
  refine xq_ofW (cc := cJ6_bitCount_0f7a4) (maxL := 1) (ret := (some .int)) (by decide +kernel) rfl ?_
  intro p e s m args below meth c s₁ B hml hv
  obtain ⟨rfl, hsz, hP, hK, hD0, hE, hz⟩ := hv
  have hx := B.exec
  have hb := B.bytes
  have hr := B.returns
  have hts := atoms_spec (ws := wsJ6_bitCount_0f7a4) B.pre
  have hown : s.vm.findClass RJ6 = some m.cls := findClass_of_methodNamed B.named
  have hlocks := B.notSynchronized
  subst hsz
  have hD := hD0.self (sz := s.heap.size)
  have hN := xq_Env.of hE hz hD0
  generalize hAe : va_A [] s.heap.size = A at hD hN ⊢
  have hA : ∀ q : Nat, s.heap.size ≤ q → A q := fun q h => by rw [← hAe]; exact Or.inr h
  clear hAe hD0
  have hS : va_S A s.heap s.heap [] := va_S.rf
  have hl := lv_entry ([.int p0]) (n := 1) (Nat.le_of_ble_eq_true rfl)
  rw [lg_entry_eq]
  generalize (lg_sl ([.int p0]) ++ List.replicate (1 - (lg_sl ([.int p0])).length) Slot.unset).toArray = ls at hl ⊢
  have hl : lv_has ls 1 [(0, .int p0)] := hl
  have hw0 := hts (.constant RJ6 265 (1431655765)) (by decide +kernel)
  have hw1 := hts (.constant RJ6 266 (858993459)) (by decide +kernel)
  have hw2 := hts (.constant RJ6 267 (252645135)) (by decide +kernel)
  unfold fJ6_bitCount_0f7a4 at hf
  refine lv_iload_n hx hb dJ6_bitCount_0f7a4_0 rfl (lv_at hl 0 rfl) ?_
  refine lv_iload_n hx hb dJ6_bitCount_0f7a4_1 rfl (lv_at hl 0 rfl) ?_
  refine lv_iconst (v := 1) hx hb dJ6_bitCount_0f7a4_2 (by decide) ?_
  refine lv_iushr (v := (p0.toUInt32 >>> ((1 : Int32).toUInt32 &&& Int32.toUInt32 31)).toInt32) hx hb dJ6_bitCount_0f7a4_3 rfl ?_
  refine lv_ldcw (v := 1431655765) hx hb hown hw0 dJ6_bitCount_0f7a4_4 ?_
  refine lv_iand hx hb dJ6_bitCount_0f7a4_7 ?_
  refine lv_isub hx hb dJ6_bitCount_0f7a4_8 ?_
  refine lv_istore_n (lv' := [(0, .int (p0 - (((p0.toUInt32 >>> ((1 : Int32).toUInt32 &&& Int32.toUInt32 31)).toInt32) &&& 1431655765)))]) hx hb dJ6_bitCount_0f7a4_9 rfl hl (by decide) rfl (fun ls hl => ?_)
  refine lv_iload_n hx hb dJ6_bitCount_0f7a4_10 rfl (lv_at hl 0 rfl) ?_
  refine lv_ldcw (v := 858993459) hx hb hown hw1 dJ6_bitCount_0f7a4_11 ?_
  refine lv_iand hx hb dJ6_bitCount_0f7a4_14 ?_
  refine lv_iload_n hx hb dJ6_bitCount_0f7a4_15 rfl (lv_at hl 0 rfl) ?_
  refine lv_iconst (v := 2) hx hb dJ6_bitCount_0f7a4_16 (by decide) ?_
  refine lv_iushr (v := ((p0 - (((p0.toUInt32 >>> ((1 : Int32).toUInt32 &&& Int32.toUInt32 31)).toInt32) &&& 1431655765)).toUInt32 >>> ((2 : Int32).toUInt32 &&& Int32.toUInt32 31)).toInt32) hx hb dJ6_bitCount_0f7a4_17 rfl ?_
  refine lv_ldcw (v := 858993459) hx hb hown hw1 dJ6_bitCount_0f7a4_18 ?_
  refine lv_iand hx hb dJ6_bitCount_0f7a4_21 ?_
  refine lv_iadd hx hb dJ6_bitCount_0f7a4_22 ?_
  refine lv_istore_n (lv' := [(0, .int (((p0 - (((p0.toUInt32 >>> ((1 : Int32).toUInt32 &&& Int32.toUInt32 31)).toInt32) &&& 1431655765)) &&& 858993459) + ((((p0 - (((p0.toUInt32 >>> ((1 : Int32).toUInt32 &&& Int32.toUInt32 31)).toInt32) &&& 1431655765)).toUInt32 >>> ((2 : Int32).toUInt32 &&& Int32.toUInt32 31)).toInt32) &&& 858993459)))]) hx hb dJ6_bitCount_0f7a4_23 rfl hl (by decide) rfl (fun ls hl => ?_)
  refine lv_iload_n hx hb dJ6_bitCount_0f7a4_24 rfl (lv_at hl 0 rfl) ?_
  refine lv_iload_n hx hb dJ6_bitCount_0f7a4_25 rfl (lv_at hl 0 rfl) ?_
  refine lv_iconst (v := 4) hx hb dJ6_bitCount_0f7a4_26 (by decide) ?_
  refine lv_iushr (v := ((((p0 - (((p0.toUInt32 >>> ((1 : Int32).toUInt32 &&& Int32.toUInt32 31)).toInt32) &&& 1431655765)) &&& 858993459) + ((((p0 - (((p0.toUInt32 >>> ((1 : Int32).toUInt32 &&& Int32.toUInt32 31)).toInt32) &&& 1431655765)).toUInt32 >>> ((2 : Int32).toUInt32 &&& Int32.toUInt32 31)).toInt32) &&& 858993459)).toUInt32 >>> ((4 : Int32).toUInt32 &&& Int32.toUInt32 31)).toInt32) hx hb dJ6_bitCount_0f7a4_27 rfl ?_
  refine lv_iadd hx hb dJ6_bitCount_0f7a4_28 ?_
  refine lv_ldcw (v := 252645135) hx hb hown hw2 dJ6_bitCount_0f7a4_29 ?_
  refine lv_iand hx hb dJ6_bitCount_0f7a4_32 ?_
  refine lv_istore_n (lv' := [(0, .int (((((p0 - (((p0.toUInt32 >>> ((1 : Int32).toUInt32 &&& Int32.toUInt32 31)).toInt32) &&& 1431655765)) &&& 858993459) + ((((p0 - (((p0.toUInt32 >>> ((1 : Int32).toUInt32 &&& Int32.toUInt32 31)).toInt32) &&& 1431655765)).toUInt32 >>> ((2 : Int32).toUInt32 &&& Int32.toUInt32 31)).toInt32) &&& 858993459)) + (((((p0 - (((p0.toUInt32 >>> ((1 : Int32).toUInt32 &&& Int32.toUInt32 31)).toInt32) &&& 1431655765)) &&& 858993459) + ((((p0 - (((p0.toUInt32 >>> ((1 : Int32).toUInt32 &&& Int32.toUInt32 31)).toInt32) &&& 1431655765)).toUInt32 >>> ((2 : Int32).toUInt32 &&& Int32.toUInt32 31)).toInt32) &&& 858993459)).toUInt32 >>> ((4 : Int32).toUInt32 &&& Int32.toUInt32 31)).toInt32)) &&& 252645135))]) hx hb dJ6_bitCount_0f7a4_33 rfl hl (by decide) rfl (fun ls hl => ?_)
  refine lv_iload_n hx hb dJ6_bitCount_0f7a4_34 rfl (lv_at hl 0 rfl) ?_
  refine lv_iload_n hx hb dJ6_bitCount_0f7a4_35 rfl (lv_at hl 0 rfl) ?_
  refine lv_bipush (v := 8) hx hb dJ6_bitCount_0f7a4_36 (by decide) ?_
  refine lv_iushr (v := ((((((p0 - (((p0.toUInt32 >>> ((1 : Int32).toUInt32 &&& Int32.toUInt32 31)).toInt32) &&& 1431655765)) &&& 858993459) + ((((p0 - (((p0.toUInt32 >>> ((1 : Int32).toUInt32 &&& Int32.toUInt32 31)).toInt32) &&& 1431655765)).toUInt32 >>> ((2 : Int32).toUInt32 &&& Int32.toUInt32 31)).toInt32) &&& 858993459)) + (((((p0 - (((p0.toUInt32 >>> ((1 : Int32).toUInt32 &&& Int32.toUInt32 31)).toInt32) &&& 1431655765)) &&& 858993459) + ((((p0 - (((p0.toUInt32 >>> ((1 : Int32).toUInt32 &&& Int32.toUInt32 31)).toInt32) &&& 1431655765)).toUInt32 >>> ((2 : Int32).toUInt32 &&& Int32.toUInt32 31)).toInt32) &&& 858993459)).toUInt32 >>> ((4 : Int32).toUInt32 &&& Int32.toUInt32 31)).toInt32)) &&& 252645135).toUInt32 >>> ((8 : Int32).toUInt32 &&& Int32.toUInt32 31)).toInt32) hx hb dJ6_bitCount_0f7a4_38 rfl ?_
  refine lv_iadd hx hb dJ6_bitCount_0f7a4_39 ?_
  refine lv_istore_n (lv' := [(0, .int ((((((p0 - (((p0.toUInt32 >>> ((1 : Int32).toUInt32 &&& Int32.toUInt32 31)).toInt32) &&& 1431655765)) &&& 858993459) + ((((p0 - (((p0.toUInt32 >>> ((1 : Int32).toUInt32 &&& Int32.toUInt32 31)).toInt32) &&& 1431655765)).toUInt32 >>> ((2 : Int32).toUInt32 &&& Int32.toUInt32 31)).toInt32) &&& 858993459)) + (((((p0 - (((p0.toUInt32 >>> ((1 : Int32).toUInt32 &&& Int32.toUInt32 31)).toInt32) &&& 1431655765)) &&& 858993459) + ((((p0 - (((p0.toUInt32 >>> ((1 : Int32).toUInt32 &&& Int32.toUInt32 31)).toInt32) &&& 1431655765)).toUInt32 >>> ((2 : Int32).toUInt32 &&& Int32.toUInt32 31)).toInt32) &&& 858993459)).toUInt32 >>> ((4 : Int32).toUInt32 &&& Int32.toUInt32 31)).toInt32)) &&& 252645135) + (((((((p0 - (((p0.toUInt32 >>> ((1 : Int32).toUInt32 &&& Int32.toUInt32 31)).toInt32) &&& 1431655765)) &&& 858993459) + ((((p0 - (((p0.toUInt32 >>> ((1 : Int32).toUInt32 &&& Int32.toUInt32 31)).toInt32) &&& 1431655765)).toUInt32 >>> ((2 : Int32).toUInt32 &&& Int32.toUInt32 31)).toInt32) &&& 858993459)) + (((((p0 - (((p0.toUInt32 >>> ((1 : Int32).toUInt32 &&& Int32.toUInt32 31)).toInt32) &&& 1431655765)) &&& 858993459) + ((((p0 - (((p0.toUInt32 >>> ((1 : Int32).toUInt32 &&& Int32.toUInt32 31)).toInt32) &&& 1431655765)).toUInt32 >>> ((2 : Int32).toUInt32 &&& Int32.toUInt32 31)).toInt32) &&& 858993459)).toUInt32 >>> ((4 : Int32).toUInt32 &&& Int32.toUInt32 31)).toInt32)) &&& 252645135).toUInt32 >>> ((8 : Int32).toUInt32 &&& Int32.toUInt32 31)).toInt32)))]) hx hb dJ6_bitCount_0f7a4_40 rfl hl (by decide) rfl (fun ls hl => ?_)
  refine lv_iload_n hx hb dJ6_bitCount_0f7a4_41 rfl (lv_at hl 0 rfl) ?_
  refine lv_iload_n hx hb dJ6_bitCount_0f7a4_42 rfl (lv_at hl 0 rfl) ?_
  refine lv_bipush (v := 16) hx hb dJ6_bitCount_0f7a4_43 (by decide) ?_
  refine lv_iushr (v := (((((((p0 - (((p0.toUInt32 >>> ((1 : Int32).toUInt32 &&& Int32.toUInt32 31)).toInt32) &&& 1431655765)) &&& 858993459) + ((((p0 - (((p0.toUInt32 >>> ((1 : Int32).toUInt32 &&& Int32.toUInt32 31)).toInt32) &&& 1431655765)).toUInt32 >>> ((2 : Int32).toUInt32 &&& Int32.toUInt32 31)).toInt32) &&& 858993459)) + (((((p0 - (((p0.toUInt32 >>> ((1 : Int32).toUInt32 &&& Int32.toUInt32 31)).toInt32) &&& 1431655765)) &&& 858993459) + ((((p0 - (((p0.toUInt32 >>> ((1 : Int32).toUInt32 &&& Int32.toUInt32 31)).toInt32) &&& 1431655765)).toUInt32 >>> ((2 : Int32).toUInt32 &&& Int32.toUInt32 31)).toInt32) &&& 858993459)).toUInt32 >>> ((4 : Int32).toUInt32 &&& Int32.toUInt32 31)).toInt32)) &&& 252645135) + (((((((p0 - (((p0.toUInt32 >>> ((1 : Int32).toUInt32 &&& Int32.toUInt32 31)).toInt32) &&& 1431655765)) &&& 858993459) + ((((p0 - (((p0.toUInt32 >>> ((1 : Int32).toUInt32 &&& Int32.toUInt32 31)).toInt32) &&& 1431655765)).toUInt32 >>> ((2 : Int32).toUInt32 &&& Int32.toUInt32 31)).toInt32) &&& 858993459)) + (((((p0 - (((p0.toUInt32 >>> ((1 : Int32).toUInt32 &&& Int32.toUInt32 31)).toInt32) &&& 1431655765)) &&& 858993459) + ((((p0 - (((p0.toUInt32 >>> ((1 : Int32).toUInt32 &&& Int32.toUInt32 31)).toInt32) &&& 1431655765)).toUInt32 >>> ((2 : Int32).toUInt32 &&& Int32.toUInt32 31)).toInt32) &&& 858993459)).toUInt32 >>> ((4 : Int32).toUInt32 &&& Int32.toUInt32 31)).toInt32)) &&& 252645135).toUInt32 >>> ((8 : Int32).toUInt32 &&& Int32.toUInt32 31)).toInt32)).toUInt32 >>> ((16 : Int32).toUInt32 &&& Int32.toUInt32 31)).toInt32) hx hb dJ6_bitCount_0f7a4_45 rfl ?_
  refine lv_iadd hx hb dJ6_bitCount_0f7a4_46 ?_
  refine lv_istore_n (lv' := [(0, .int (((((((p0 - (((p0.toUInt32 >>> ((1 : Int32).toUInt32 &&& Int32.toUInt32 31)).toInt32) &&& 1431655765)) &&& 858993459) + ((((p0 - (((p0.toUInt32 >>> ((1 : Int32).toUInt32 &&& Int32.toUInt32 31)).toInt32) &&& 1431655765)).toUInt32 >>> ((2 : Int32).toUInt32 &&& Int32.toUInt32 31)).toInt32) &&& 858993459)) + (((((p0 - (((p0.toUInt32 >>> ((1 : Int32).toUInt32 &&& Int32.toUInt32 31)).toInt32) &&& 1431655765)) &&& 858993459) + ((((p0 - (((p0.toUInt32 >>> ((1 : Int32).toUInt32 &&& Int32.toUInt32 31)).toInt32) &&& 1431655765)).toUInt32 >>> ((2 : Int32).toUInt32 &&& Int32.toUInt32 31)).toInt32) &&& 858993459)).toUInt32 >>> ((4 : Int32).toUInt32 &&& Int32.toUInt32 31)).toInt32)) &&& 252645135) + (((((((p0 - (((p0.toUInt32 >>> ((1 : Int32).toUInt32 &&& Int32.toUInt32 31)).toInt32) &&& 1431655765)) &&& 858993459) + ((((p0 - (((p0.toUInt32 >>> ((1 : Int32).toUInt32 &&& Int32.toUInt32 31)).toInt32) &&& 1431655765)).toUInt32 >>> ((2 : Int32).toUInt32 &&& Int32.toUInt32 31)).toInt32) &&& 858993459)) + (((((p0 - (((p0.toUInt32 >>> ((1 : Int32).toUInt32 &&& Int32.toUInt32 31)).toInt32) &&& 1431655765)) &&& 858993459) + ((((p0 - (((p0.toUInt32 >>> ((1 : Int32).toUInt32 &&& Int32.toUInt32 31)).toInt32) &&& 1431655765)).toUInt32 >>> ((2 : Int32).toUInt32 &&& Int32.toUInt32 31)).toInt32) &&& 858993459)).toUInt32 >>> ((4 : Int32).toUInt32 &&& Int32.toUInt32 31)).toInt32)) &&& 252645135).toUInt32 >>> ((8 : Int32).toUInt32 &&& Int32.toUInt32 31)).toInt32)) + ((((((((p0 - (((p0.toUInt32 >>> ((1 : Int32).toUInt32 &&& Int32.toUInt32 31)).toInt32) &&& 1431655765)) &&& 858993459) + ((((p0 - (((p0.toUInt32 >>> ((1 : Int32).toUInt32 &&& Int32.toUInt32 31)).toInt32) &&& 1431655765)).toUInt32 >>> ((2 : Int32).toUInt32 &&& Int32.toUInt32 31)).toInt32) &&& 858993459)) + (((((p0 - (((p0.toUInt32 >>> ((1 : Int32).toUInt32 &&& Int32.toUInt32 31)).toInt32) &&& 1431655765)) &&& 858993459) + ((((p0 - (((p0.toUInt32 >>> ((1 : Int32).toUInt32 &&& Int32.toUInt32 31)).toInt32) &&& 1431655765)).toUInt32 >>> ((2 : Int32).toUInt32 &&& Int32.toUInt32 31)).toInt32) &&& 858993459)).toUInt32 >>> ((4 : Int32).toUInt32 &&& Int32.toUInt32 31)).toInt32)) &&& 252645135) + (((((((p0 - (((p0.toUInt32 >>> ((1 : Int32).toUInt32 &&& Int32.toUInt32 31)).toInt32) &&& 1431655765)) &&& 858993459) + ((((p0 - (((p0.toUInt32 >>> ((1 : Int32).toUInt32 &&& Int32.toUInt32 31)).toInt32) &&& 1431655765)).toUInt32 >>> ((2 : Int32).toUInt32 &&& Int32.toUInt32 31)).toInt32) &&& 858993459)) + (((((p0 - (((p0.toUInt32 >>> ((1 : Int32).toUInt32 &&& Int32.toUInt32 31)).toInt32) &&& 1431655765)) &&& 858993459) + ((((p0 - (((p0.toUInt32 >>> ((1 : Int32).toUInt32 &&& Int32.toUInt32 31)).toInt32) &&& 1431655765)).toUInt32 >>> ((2 : Int32).toUInt32 &&& Int32.toUInt32 31)).toInt32) &&& 858993459)).toUInt32 >>> ((4 : Int32).toUInt32 &&& Int32.toUInt32 31)).toInt32)) &&& 252645135).toUInt32 >>> ((8 : Int32).toUInt32 &&& Int32.toUInt32 31)).toInt32)).toUInt32 >>> ((16 : Int32).toUInt32 &&& Int32.toUInt32 31)).toInt32)))]) hx hb dJ6_bitCount_0f7a4_47 rfl hl (by decide) rfl (fun ls hl => ?_)
  refine lv_iload_n hx hb dJ6_bitCount_0f7a4_48 rfl (lv_at hl 0 rfl) ?_
  refine lv_bipush (v := 63) hx hb dJ6_bitCount_0f7a4_49 (by decide) ?_
  refine lv_iand hx hb dJ6_bitCount_0f7a4_51 ?_
  cases hf
  exact xq_iret hx hb hr hlocks hK hP hD hS dJ6_bitCount_0f7a4_52
def dsJ9_floorDiv_f86c9_0 : List (Nat × Instr × Nat) := [(0, (.lload_n 0, 1)), (1, (.lload_n 2, 1)), (2, (.ldiv, 1)), (3, (.lstore 4, 2)), (5, (.lload_n 0, 1)), (6, (.lload_n 2, 1)), (7, (.lxor, 1)), (8, (.lconst 0, 1)), (9, (.lcmp, 1)), (10, (.ifCond .ge 17, 3)), (13, (.lload 4, 2)), (15, (.lload_n 2, 1)), (16, (.lmul, 1)), (17, (.lload_n 0, 1)), (18, (.lcmp, 1)), (19, (.ifCond .eq 8, 3)), (22, (.lload 4, 2)), (24, (.lconst 1, 1)), (25, (.lsub, 1)), (26, (.lreturn, 1)), (27, (.lload 4, 2)), (29, (.lreturn, 1))]
theorem dsJ9_floorDiv_f86c9_0_ok : (dsJ9_floorDiv_f86c9_0.all fun q => decide (decode cJ9_floorDiv_f86c9 q.1 = .ok q.2)) = true := by decide +kernel
theorem dJ9_floorDiv_f86c9_0 : decode cJ9_floorDiv_f86c9 0 = .ok (.lload_n 0, 1) := of_decide_eq_true (List.all_eq_true.mp dsJ9_floorDiv_f86c9_0_ok (0, (.lload_n 0, 1)) (List.mem_of_getElem? (i := 0) rfl))
theorem dJ9_floorDiv_f86c9_1 : decode cJ9_floorDiv_f86c9 1 = .ok (.lload_n 2, 1) := of_decide_eq_true (List.all_eq_true.mp dsJ9_floorDiv_f86c9_0_ok (1, (.lload_n 2, 1)) (List.mem_of_getElem? (i := 1) rfl))
theorem dJ9_floorDiv_f86c9_2 : decode cJ9_floorDiv_f86c9 2 = .ok (.ldiv, 1) := of_decide_eq_true (List.all_eq_true.mp dsJ9_floorDiv_f86c9_0_ok (2, (.ldiv, 1)) (List.mem_of_getElem? (i := 2) rfl))
theorem dJ9_floorDiv_f86c9_3 : decode cJ9_floorDiv_f86c9 3 = .ok (.lstore 4, 2) := of_decide_eq_true (List.all_eq_true.mp dsJ9_floorDiv_f86c9_0_ok (3, (.lstore 4, 2)) (List.mem_of_getElem? (i := 3) rfl))
theorem dJ9_floorDiv_f86c9_5 : decode cJ9_floorDiv_f86c9 5 = .ok (.lload_n 0, 1) := of_decide_eq_true (List.all_eq_true.mp dsJ9_floorDiv_f86c9_0_ok (5, (.lload_n 0, 1)) (List.mem_of_getElem? (i := 4) rfl))
theorem dJ9_floorDiv_f86c9_6 : decode cJ9_floorDiv_f86c9 6 = .ok (.lload_n 2, 1) := of_decide_eq_true (List.all_eq_true.mp dsJ9_floorDiv_f86c9_0_ok (6, (.lload_n 2, 1)) (List.mem_of_getElem? (i := 5) rfl))
theorem dJ9_floorDiv_f86c9_7 : decode cJ9_floorDiv_f86c9 7 = .ok (.lxor, 1) := of_decide_eq_true (List.all_eq_true.mp dsJ9_floorDiv_f86c9_0_ok (7, (.lxor, 1)) (List.mem_of_getElem? (i := 6) rfl))
theorem dJ9_floorDiv_f86c9_8 : decode cJ9_floorDiv_f86c9 8 = .ok (.lconst 0, 1) := of_decide_eq_true (List.all_eq_true.mp dsJ9_floorDiv_f86c9_0_ok (8, (.lconst 0, 1)) (List.mem_of_getElem? (i := 7) rfl))
theorem dJ9_floorDiv_f86c9_9 : decode cJ9_floorDiv_f86c9 9 = .ok (.lcmp, 1) := of_decide_eq_true (List.all_eq_true.mp dsJ9_floorDiv_f86c9_0_ok (9, (.lcmp, 1)) (List.mem_of_getElem? (i := 8) rfl))
theorem dJ9_floorDiv_f86c9_10 : decode cJ9_floorDiv_f86c9 10 = .ok (.ifCond .ge 17, 3) := of_decide_eq_true (List.all_eq_true.mp dsJ9_floorDiv_f86c9_0_ok (10, (.ifCond .ge 17, 3)) (List.mem_of_getElem? (i := 9) rfl))
theorem dJ9_floorDiv_f86c9_13 : decode cJ9_floorDiv_f86c9 13 = .ok (.lload 4, 2) := of_decide_eq_true (List.all_eq_true.mp dsJ9_floorDiv_f86c9_0_ok (13, (.lload 4, 2)) (List.mem_of_getElem? (i := 10) rfl))
theorem dJ9_floorDiv_f86c9_15 : decode cJ9_floorDiv_f86c9 15 = .ok (.lload_n 2, 1) := of_decide_eq_true (List.all_eq_true.mp dsJ9_floorDiv_f86c9_0_ok (15, (.lload_n 2, 1)) (List.mem_of_getElem? (i := 11) rfl))
theorem dJ9_floorDiv_f86c9_16 : decode cJ9_floorDiv_f86c9 16 = .ok (.lmul, 1) := of_decide_eq_true (List.all_eq_true.mp dsJ9_floorDiv_f86c9_0_ok (16, (.lmul, 1)) (List.mem_of_getElem? (i := 12) rfl))
theorem dJ9_floorDiv_f86c9_17 : decode cJ9_floorDiv_f86c9 17 = .ok (.lload_n 0, 1) := of_decide_eq_true (List.all_eq_true.mp dsJ9_floorDiv_f86c9_0_ok (17, (.lload_n 0, 1)) (List.mem_of_getElem? (i := 13) rfl))
theorem dJ9_floorDiv_f86c9_18 : decode cJ9_floorDiv_f86c9 18 = .ok (.lcmp, 1) := of_decide_eq_true (List.all_eq_true.mp dsJ9_floorDiv_f86c9_0_ok (18, (.lcmp, 1)) (List.mem_of_getElem? (i := 14) rfl))
theorem dJ9_floorDiv_f86c9_19 : decode cJ9_floorDiv_f86c9 19 = .ok (.ifCond .eq 8, 3) := of_decide_eq_true (List.all_eq_true.mp dsJ9_floorDiv_f86c9_0_ok (19, (.ifCond .eq 8, 3)) (List.mem_of_getElem? (i := 15) rfl))
theorem dJ9_floorDiv_f86c9_22 : decode cJ9_floorDiv_f86c9 22 = .ok (.lload 4, 2) := of_decide_eq_true (List.all_eq_true.mp dsJ9_floorDiv_f86c9_0_ok (22, (.lload 4, 2)) (List.mem_of_getElem? (i := 16) rfl))
theorem dJ9_floorDiv_f86c9_24 : decode cJ9_floorDiv_f86c9 24 = .ok (.lconst 1, 1) := of_decide_eq_true (List.all_eq_true.mp dsJ9_floorDiv_f86c9_0_ok (24, (.lconst 1, 1)) (List.mem_of_getElem? (i := 17) rfl))
theorem dJ9_floorDiv_f86c9_25 : decode cJ9_floorDiv_f86c9 25 = .ok (.lsub, 1) := of_decide_eq_true (List.all_eq_true.mp dsJ9_floorDiv_f86c9_0_ok (25, (.lsub, 1)) (List.mem_of_getElem? (i := 18) rfl))
theorem dJ9_floorDiv_f86c9_26 : decode cJ9_floorDiv_f86c9 26 = .ok (.lreturn, 1) := of_decide_eq_true (List.all_eq_true.mp dsJ9_floorDiv_f86c9_0_ok (26, (.lreturn, 1)) (List.mem_of_getElem? (i := 19) rfl))
theorem dJ9_floorDiv_f86c9_27 : decode cJ9_floorDiv_f86c9 27 = .ok (.lload 4, 2) := of_decide_eq_true (List.all_eq_true.mp dsJ9_floorDiv_f86c9_0_ok (27, (.lload 4, 2)) (List.mem_of_getElem? (i := 20) rfl))
theorem dJ9_floorDiv_f86c9_29 : decode cJ9_floorDiv_f86c9 29 = .ok (.lreturn, 1) := of_decide_eq_true (List.all_eq_true.mp dsJ9_floorDiv_f86c9_0_ok (29, (.lreturn, 1)) (List.mem_of_getElem? (i := 21) rfl))
def fJ9_floorDiv_f86c9 (N : Nat)   (p0 : Int64) (p1 : Int64) : Option (Int64) :=
  (xq_bd (xq_dvL p0 p1) fun v_1 => (if 0 ≤ (lg_cmp (p0 ^^^ p1) 0) then some v_1 else (if (lg_cmp (v_1 * p1) p0) = 0 then some v_1 else some (v_1 - 1))))
set_option maxHeartbeats 4000000 in
set_option maxRecDepth 100000 in
theorem kJ9_floorDiv_f86c9 (l : Launch) (dC : Nat → ClassId) (dI : Nat → Nat → Nat) (cI cB cJ cZ cM : ClassId) (z : Nat) (ad : Nat → Nat) (N : Nat) (p0 : Int64) (p1 : Int64) {r0 : Int64} (hf : fJ9_floorDiv_f86c9 N p0 p1 = some r0) : xq_Ct l yJ9_floorDiv_f86c9 wsJ9_floorDiv_f86c9 { frames := 0, cells := 0, slots := 0, locals := 0 } (dC, dI) vwCl (xq_tys cI cB cJ cZ cM) z ad [.long p0, .long p1] [] [] (some (.long r0)) := by
  intro sz
  refine xq_ofW (cc := cJ9_floorDiv_f86c9) (maxL := 6) (ret := (some .long)) (by decide +kernel) rfl ?_
  intro p e s m args below meth c s₁ B hml hv
  obtain ⟨rfl, hsz, hP, hK, hD0, hE, hz⟩ := hv
  have hx := B.exec
  have hb := B.bytes
  have hr := B.returns
  have hts := atoms_spec (ws := wsJ9_floorDiv_f86c9) B.pre
  have hown : s.vm.findClass RJ9 = some m.cls := findClass_of_methodNamed B.named
  have hlocks := B.notSynchronized
  subst hsz
  have hD := hD0.self (sz := s.heap.size)
  have hN := xq_Env.of hE hz hD0
  generalize hAe : va_A [] s.heap.size = A at hD hN ⊢
  have hA : ∀ q : Nat, s.heap.size ≤ q → A q := fun q h => by rw [← hAe]; exact Or.inr h
  clear hAe hD0
  have hS : va_S A s.heap s.heap [] := va_S.rf
  have hl := lv_entry ([.long p0, .long p1]) (n := 6) (Nat.le_of_ble_eq_true rfl)
  rw [lg_entry_eq]
  generalize (lg_sl ([.long p0, .long p1]) ++ List.replicate (6 - (lg_sl ([.long p0, .long p1])).length) Slot.unset).toArray = ls at hl ⊢
  have hl : lv_has ls 6 [(0, .long p0), (2, .long p1)] := hl
  unfold fJ9_floorDiv_f86c9 at hf
  refine lv_lload_n hx hb dJ9_floorDiv_f86c9_0 rfl (lv_at hl 0 rfl) ?_
  refine lv_lload_n hx hb dJ9_floorDiv_f86c9_1 rfl (lv_at hl 1 rfl) ?_
  refine xq_ldiv hx hb hf dJ9_floorDiv_f86c9_2 (fun v_1 hf => ?_)
  refine lv_lstore (lv' := [(4, .long v_1), (0, .long p0), (2, .long p1)]) hx hb dJ9_floorDiv_f86c9_3 hl (by decide) rfl (fun ls hl => ?_)
  refine lv_lload_n hx hb dJ9_floorDiv_f86c9_5 rfl (lv_at hl 1 rfl) ?_
  refine lv_lload_n hx hb dJ9_floorDiv_f86c9_6 rfl (lv_at hl 2 rfl) ?_
  refine lv_lxor hx hb dJ9_floorDiv_f86c9_7 ?_
  refine lv_lconst (v := 0) hx hb dJ9_floorDiv_f86c9_8 (by decide) ?_
  refine W.lcmp hx hb dJ9_floorDiv_f86c9_9 ?_
  refine lv_if_ge (tgt := 27) hx hb dJ9_floorDiv_f86c9_10 (by decide) (fun c_ => ?_) (fun c_ => ?_)
  · have hf := xq_pos hf c_
    refine lv_lload hx hb dJ9_floorDiv_f86c9_27 (lv_at hl 0 rfl) ?_
    cases hf
    exact xq_lret hx hb hr hlocks hK hP hD hS dJ9_floorDiv_f86c9_29
  · have hf := xq_neg hf c_
    refine lv_lload hx hb dJ9_floorDiv_f86c9_13 (lv_at hl 0 rfl) ?_
    refine lv_lload_n hx hb dJ9_floorDiv_f86c9_15 rfl (lv_at hl 2 rfl) ?_
    refine lv_lmul hx hb dJ9_floorDiv_f86c9_16 ?_
    refine lv_lload_n hx hb dJ9_floorDiv_f86c9_17 rfl (lv_at hl 1 rfl) ?_
    refine W.lcmp hx hb dJ9_floorDiv_f86c9_18 ?_
    refine lv_if_eq (tgt := 27) hx hb dJ9_floorDiv_f86c9_19 (by decide) (fun c_ => ?_) (fun c_ => ?_)
    · have hf := xq_pos hf c_
      refine lv_lload hx hb dJ9_floorDiv_f86c9_27 (lv_at hl 0 rfl) ?_
      cases hf
      exact xq_lret hx hb hr hlocks hK hP hD hS dJ9_floorDiv_f86c9_29
    · have hf := xq_neg hf c_
      refine lv_lload hx hb dJ9_floorDiv_f86c9_22 (lv_at hl 0 rfl) ?_
      refine lv_lconst (v := 1) hx hb dJ9_floorDiv_f86c9_24 (by decide) ?_
      refine lv_lsub hx hb dJ9_floorDiv_f86c9_25 ?_
      cases hf
      exact xq_lret hx hb hr hlocks hK hP hD hS dJ9_floorDiv_f86c9_26
def dsJ9_floorMod_f86c9_0 : List (Nat × Instr × Nat) := [(0, (.lload_n 0, 1)), (1, (.lload_n 2, 1)), (2, (.lrem, 1)), (3, (.lstore 4, 2)), (5, (.lload_n 0, 1)), (6, (.lload_n 2, 1)), (7, (.lxor, 1)), (8, (.lconst 0, 1)), (9, (.lcmp, 1)), (10, (.ifCond .ge 15, 3)), (13, (.lload 4, 2)), (15, (.lconst 0, 1)), (16, (.lcmp, 1)), (17, (.ifCond .eq 8, 3)), (20, (.lload 4, 2)), (22, (.lload_n 2, 1)), (23, (.ladd, 1)), (24, (.lreturn, 1)), (25, (.lload 4, 2)), (27, (.lreturn, 1))]
theorem dsJ9_floorMod_f86c9_0_ok : (dsJ9_floorMod_f86c9_0.all fun q => decide (decode cJ9_floorMod_f86c9 q.1 = .ok q.2)) = true := by decide +kernel
theorem dJ9_floorMod_f86c9_0 : decode cJ9_floorMod_f86c9 0 = .ok (.lload_n 0, 1) := of_decide_eq_true (List.all_eq_true.mp dsJ9_floorMod_f86c9_0_ok (0, (.lload_n 0, 1)) (List.mem_of_getElem? (i := 0) rfl))
theorem dJ9_floorMod_f86c9_1 : decode cJ9_floorMod_f86c9 1 = .ok (.lload_n 2, 1) := of_decide_eq_true (List.all_eq_true.mp dsJ9_floorMod_f86c9_0_ok (1, (.lload_n 2, 1)) (List.mem_of_getElem? (i := 1) rfl))
theorem dJ9_floorMod_f86c9_2 : decode cJ9_floorMod_f86c9 2 = .ok (.lrem, 1) := of_decide_eq_true (List.all_eq_true.mp dsJ9_floorMod_f86c9_0_ok (2, (.lrem, 1)) (List.mem_of_getElem? (i := 2) rfl))
theorem dJ9_floorMod_f86c9_3 : decode cJ9_floorMod_f86c9 3 = .ok (.lstore 4, 2) := of_decide_eq_true (List.all_eq_true.mp dsJ9_floorMod_f86c9_0_ok (3, (.lstore 4, 2)) (List.mem_of_getElem? (i := 3) rfl))
theorem dJ9_floorMod_f86c9_5 : decode cJ9_floorMod_f86c9 5 = .ok (.lload_n 0, 1) := of_decide_eq_true (List.all_eq_true.mp dsJ9_floorMod_f86c9_0_ok (5, (.lload_n 0, 1)) (List.mem_of_getElem? (i := 4) rfl))
theorem dJ9_floorMod_f86c9_6 : decode cJ9_floorMod_f86c9 6 = .ok (.lload_n 2, 1) := of_decide_eq_true (List.all_eq_true.mp dsJ9_floorMod_f86c9_0_ok (6, (.lload_n 2, 1)) (List.mem_of_getElem? (i := 5) rfl))
theorem dJ9_floorMod_f86c9_7 : decode cJ9_floorMod_f86c9 7 = .ok (.lxor, 1) := of_decide_eq_true (List.all_eq_true.mp dsJ9_floorMod_f86c9_0_ok (7, (.lxor, 1)) (List.mem_of_getElem? (i := 6) rfl))
theorem dJ9_floorMod_f86c9_8 : decode cJ9_floorMod_f86c9 8 = .ok (.lconst 0, 1) := of_decide_eq_true (List.all_eq_true.mp dsJ9_floorMod_f86c9_0_ok (8, (.lconst 0, 1)) (List.mem_of_getElem? (i := 7) rfl))
theorem dJ9_floorMod_f86c9_9 : decode cJ9_floorMod_f86c9 9 = .ok (.lcmp, 1) := of_decide_eq_true (List.all_eq_true.mp dsJ9_floorMod_f86c9_0_ok (9, (.lcmp, 1)) (List.mem_of_getElem? (i := 8) rfl))
theorem dJ9_floorMod_f86c9_10 : decode cJ9_floorMod_f86c9 10 = .ok (.ifCond .ge 15, 3) := of_decide_eq_true (List.all_eq_true.mp dsJ9_floorMod_f86c9_0_ok (10, (.ifCond .ge 15, 3)) (List.mem_of_getElem? (i := 9) rfl))
theorem dJ9_floorMod_f86c9_13 : decode cJ9_floorMod_f86c9 13 = .ok (.lload 4, 2) := of_decide_eq_true (List.all_eq_true.mp dsJ9_floorMod_f86c9_0_ok (13, (.lload 4, 2)) (List.mem_of_getElem? (i := 10) rfl))
theorem dJ9_floorMod_f86c9_15 : decode cJ9_floorMod_f86c9 15 = .ok (.lconst 0, 1) := of_decide_eq_true (List.all_eq_true.mp dsJ9_floorMod_f86c9_0_ok (15, (.lconst 0, 1)) (List.mem_of_getElem? (i := 11) rfl))
theorem dJ9_floorMod_f86c9_16 : decode cJ9_floorMod_f86c9 16 = .ok (.lcmp, 1) := of_decide_eq_true (List.all_eq_true.mp dsJ9_floorMod_f86c9_0_ok (16, (.lcmp, 1)) (List.mem_of_getElem? (i := 12) rfl))
theorem dJ9_floorMod_f86c9_17 : decode cJ9_floorMod_f86c9 17 = .ok (.ifCond .eq 8, 3) := of_decide_eq_true (List.all_eq_true.mp dsJ9_floorMod_f86c9_0_ok (17, (.ifCond .eq 8, 3)) (List.mem_of_getElem? (i := 13) rfl))
theorem dJ9_floorMod_f86c9_20 : decode cJ9_floorMod_f86c9 20 = .ok (.lload 4, 2) := of_decide_eq_true (List.all_eq_true.mp dsJ9_floorMod_f86c9_0_ok (20, (.lload 4, 2)) (List.mem_of_getElem? (i := 14) rfl))
theorem dJ9_floorMod_f86c9_22 : decode cJ9_floorMod_f86c9 22 = .ok (.lload_n 2, 1) := of_decide_eq_true (List.all_eq_true.mp dsJ9_floorMod_f86c9_0_ok (22, (.lload_n 2, 1)) (List.mem_of_getElem? (i := 15) rfl))
theorem dJ9_floorMod_f86c9_23 : decode cJ9_floorMod_f86c9 23 = .ok (.ladd, 1) := of_decide_eq_true (List.all_eq_true.mp dsJ9_floorMod_f86c9_0_ok (23, (.ladd, 1)) (List.mem_of_getElem? (i := 16) rfl))
theorem dJ9_floorMod_f86c9_24 : decode cJ9_floorMod_f86c9 24 = .ok (.lreturn, 1) := of_decide_eq_true (List.all_eq_true.mp dsJ9_floorMod_f86c9_0_ok (24, (.lreturn, 1)) (List.mem_of_getElem? (i := 17) rfl))
theorem dJ9_floorMod_f86c9_25 : decode cJ9_floorMod_f86c9 25 = .ok (.lload 4, 2) := of_decide_eq_true (List.all_eq_true.mp dsJ9_floorMod_f86c9_0_ok (25, (.lload 4, 2)) (List.mem_of_getElem? (i := 18) rfl))
theorem dJ9_floorMod_f86c9_27 : decode cJ9_floorMod_f86c9 27 = .ok (.lreturn, 1) := of_decide_eq_true (List.all_eq_true.mp dsJ9_floorMod_f86c9_0_ok (27, (.lreturn, 1)) (List.mem_of_getElem? (i := 19) rfl))
def fJ9_floorMod_f86c9 (N : Nat)   (p0 : Int64) (p1 : Int64) : Option (Int64) :=
  (xq_bd (xq_rmL p0 p1) fun v_1 => (if 0 ≤ (lg_cmp (p0 ^^^ p1) 0) then some v_1 else (if (lg_cmp v_1 0) = 0 then some v_1 else some (v_1 + p1))))
set_option maxHeartbeats 4000000 in
set_option maxRecDepth 100000 in
theorem kJ9_floorMod_f86c9 (l : Launch) (dC : Nat → ClassId) (dI : Nat → Nat → Nat) (cI cB cJ cZ cM : ClassId) (z : Nat) (ad : Nat → Nat) (N : Nat) (p0 : Int64) (p1 : Int64) {r0 : Int64} (hf : fJ9_floorMod_f86c9 N p0 p1 = some r0) : xq_Ct l yJ9_floorMod_f86c9 wsJ9_floorMod_f86c9 { frames := 0, cells := 0, slots := 0, locals := 0 } (dC, dI) vwCl (xq_tys cI cB cJ cZ cM) z ad [.long p0, .long p1] [] [] (some (.long r0)) := by
  intro sz
  refine xq_ofW (cc := cJ9_floorMod_f86c9) (maxL := 6) (ret := (some .long)) (by decide +kernel) rfl ?_
  intro p e s m args below meth c s₁ B hml hv
  obtain ⟨rfl, hsz, hP, hK, hD0, hE, hz⟩ := hv
  have hx := B.exec
  have hb := B.bytes
  have hr := B.returns
  have hts := atoms_spec (ws := wsJ9_floorMod_f86c9) B.pre
  have hown : s.vm.findClass RJ9 = some m.cls := findClass_of_methodNamed B.named
  have hlocks := B.notSynchronized
  subst hsz
  have hD := hD0.self (sz := s.heap.size)
  have hN := xq_Env.of hE hz hD0
  generalize hAe : va_A [] s.heap.size = A at hD hN ⊢
  have hA : ∀ q : Nat, s.heap.size ≤ q → A q := fun q h => by rw [← hAe]; exact Or.inr h
  clear hAe hD0
  have hS : va_S A s.heap s.heap [] := va_S.rf
  have hl := lv_entry ([.long p0, .long p1]) (n := 6) (Nat.le_of_ble_eq_true rfl)
  rw [lg_entry_eq]
  generalize (lg_sl ([.long p0, .long p1]) ++ List.replicate (6 - (lg_sl ([.long p0, .long p1])).length) Slot.unset).toArray = ls at hl ⊢
  have hl : lv_has ls 6 [(0, .long p0), (2, .long p1)] := hl
  unfold fJ9_floorMod_f86c9 at hf
  refine lv_lload_n hx hb dJ9_floorMod_f86c9_0 rfl (lv_at hl 0 rfl) ?_
  refine lv_lload_n hx hb dJ9_floorMod_f86c9_1 rfl (lv_at hl 1 rfl) ?_
  refine xq_lrem hx hb hf dJ9_floorMod_f86c9_2 (fun v_1 hf => ?_)
  refine lv_lstore (lv' := [(4, .long v_1), (0, .long p0), (2, .long p1)]) hx hb dJ9_floorMod_f86c9_3 hl (by decide) rfl (fun ls hl => ?_)
  refine lv_lload_n hx hb dJ9_floorMod_f86c9_5 rfl (lv_at hl 1 rfl) ?_
  refine lv_lload_n hx hb dJ9_floorMod_f86c9_6 rfl (lv_at hl 2 rfl) ?_
  refine lv_lxor hx hb dJ9_floorMod_f86c9_7 ?_
  refine lv_lconst (v := 0) hx hb dJ9_floorMod_f86c9_8 (by decide) ?_
  refine W.lcmp hx hb dJ9_floorMod_f86c9_9 ?_
  refine lv_if_ge (tgt := 25) hx hb dJ9_floorMod_f86c9_10 (by decide) (fun c_ => ?_) (fun c_ => ?_)
  · have hf := xq_pos hf c_
    refine lv_lload hx hb dJ9_floorMod_f86c9_25 (lv_at hl 0 rfl) ?_
    cases hf
    exact xq_lret hx hb hr hlocks hK hP hD hS dJ9_floorMod_f86c9_27
  · have hf := xq_neg hf c_
    refine lv_lload hx hb dJ9_floorMod_f86c9_13 (lv_at hl 0 rfl) ?_
    refine lv_lconst (v := 0) hx hb dJ9_floorMod_f86c9_15 (by decide) ?_
    refine W.lcmp hx hb dJ9_floorMod_f86c9_16 ?_
    refine lv_if_eq (tgt := 25) hx hb dJ9_floorMod_f86c9_17 (by decide) (fun c_ => ?_) (fun c_ => ?_)
    · have hf := xq_pos hf c_
      refine lv_lload hx hb dJ9_floorMod_f86c9_25 (lv_at hl 0 rfl) ?_
      cases hf
      exact xq_lret hx hb hr hlocks hK hP hD hS dJ9_floorMod_f86c9_27
    · have hf := xq_neg hf c_
      refine lv_lload hx hb dJ9_floorMod_f86c9_20 (lv_at hl 0 rfl) ?_
      refine lv_lload_n hx hb dJ9_floorMod_f86c9_22 rfl (lv_at hl 2 rfl) ?_
      refine lv_ladd hx hb dJ9_floorMod_f86c9_23 ?_
      cases hf
      exact xq_lret hx hb hr hlocks hK hP hD hS dJ9_floorMod_f86c9_24
def dsJ7_fill_53178_0 : List (Nat × Instr × Nat) := [(0, (.iconst 0, 1)), (1, (.istore_n 2, 1)), (2, (.aload_n 0, 1)), (3, (.arraylength, 1)), (4, (.istore_n 3, 1)), (5, (.iload_n 2, 1)), (6, (.iload_n 3, 1)), (7, (.if_icmp .ge 13, 3)), (10, (.aload_n 0, 1)), (11, (.iload_n 2, 1)), (12, (.iload_n 1, 1)), (13, (.iastore, 1)), (14, (.iinc 2 1, 3)), (17, (.goto (-12), 3)), (20, (.return_, 1))]
theorem dsJ7_fill_53178_0_ok : (dsJ7_fill_53178_0.all fun q => decide (decode cJ7_fill_53178 q.1 = .ok q.2)) = true := by decide +kernel
theorem dJ7_fill_53178_0 : decode cJ7_fill_53178 0 = .ok (.iconst 0, 1) := of_decide_eq_true (List.all_eq_true.mp dsJ7_fill_53178_0_ok (0, (.iconst 0, 1)) (List.mem_of_getElem? (i := 0) rfl))
theorem dJ7_fill_53178_1 : decode cJ7_fill_53178 1 = .ok (.istore_n 2, 1) := of_decide_eq_true (List.all_eq_true.mp dsJ7_fill_53178_0_ok (1, (.istore_n 2, 1)) (List.mem_of_getElem? (i := 1) rfl))
theorem dJ7_fill_53178_2 : decode cJ7_fill_53178 2 = .ok (.aload_n 0, 1) := of_decide_eq_true (List.all_eq_true.mp dsJ7_fill_53178_0_ok (2, (.aload_n 0, 1)) (List.mem_of_getElem? (i := 2) rfl))
theorem dJ7_fill_53178_3 : decode cJ7_fill_53178 3 = .ok (.arraylength, 1) := of_decide_eq_true (List.all_eq_true.mp dsJ7_fill_53178_0_ok (3, (.arraylength, 1)) (List.mem_of_getElem? (i := 3) rfl))
theorem dJ7_fill_53178_4 : decode cJ7_fill_53178 4 = .ok (.istore_n 3, 1) := of_decide_eq_true (List.all_eq_true.mp dsJ7_fill_53178_0_ok (4, (.istore_n 3, 1)) (List.mem_of_getElem? (i := 4) rfl))
theorem dJ7_fill_53178_5 : decode cJ7_fill_53178 5 = .ok (.iload_n 2, 1) := of_decide_eq_true (List.all_eq_true.mp dsJ7_fill_53178_0_ok (5, (.iload_n 2, 1)) (List.mem_of_getElem? (i := 5) rfl))
theorem dJ7_fill_53178_6 : decode cJ7_fill_53178 6 = .ok (.iload_n 3, 1) := of_decide_eq_true (List.all_eq_true.mp dsJ7_fill_53178_0_ok (6, (.iload_n 3, 1)) (List.mem_of_getElem? (i := 6) rfl))
theorem dJ7_fill_53178_7 : decode cJ7_fill_53178 7 = .ok (.if_icmp .ge 13, 3) := of_decide_eq_true (List.all_eq_true.mp dsJ7_fill_53178_0_ok (7, (.if_icmp .ge 13, 3)) (List.mem_of_getElem? (i := 7) rfl))
theorem dJ7_fill_53178_10 : decode cJ7_fill_53178 10 = .ok (.aload_n 0, 1) := of_decide_eq_true (List.all_eq_true.mp dsJ7_fill_53178_0_ok (10, (.aload_n 0, 1)) (List.mem_of_getElem? (i := 8) rfl))
theorem dJ7_fill_53178_11 : decode cJ7_fill_53178 11 = .ok (.iload_n 2, 1) := of_decide_eq_true (List.all_eq_true.mp dsJ7_fill_53178_0_ok (11, (.iload_n 2, 1)) (List.mem_of_getElem? (i := 9) rfl))
theorem dJ7_fill_53178_12 : decode cJ7_fill_53178 12 = .ok (.iload_n 1, 1) := of_decide_eq_true (List.all_eq_true.mp dsJ7_fill_53178_0_ok (12, (.iload_n 1, 1)) (List.mem_of_getElem? (i := 10) rfl))
theorem dJ7_fill_53178_13 : decode cJ7_fill_53178 13 = .ok (.iastore, 1) := of_decide_eq_true (List.all_eq_true.mp dsJ7_fill_53178_0_ok (13, (.iastore, 1)) (List.mem_of_getElem? (i := 11) rfl))
theorem dJ7_fill_53178_14 : decode cJ7_fill_53178 14 = .ok (.iinc 2 1, 3) := of_decide_eq_true (List.all_eq_true.mp dsJ7_fill_53178_0_ok (14, (.iinc 2 1, 3)) (List.mem_of_getElem? (i := 12) rfl))
theorem dJ7_fill_53178_17 : decode cJ7_fill_53178 17 = .ok (.goto (-12), 3) := of_decide_eq_true (List.all_eq_true.mp dsJ7_fill_53178_0_ok (17, (.goto (-12), 3)) (List.mem_of_getElem? (i := 13) rfl))
theorem dJ7_fill_53178_20 : decode cJ7_fill_53178 20 = .ok (.return_, 1) := of_decide_eq_true (List.all_eq_true.mp dsJ7_fill_53178_0_ok (20, (.return_, 1)) (List.mem_of_getElem? (i := 14) rfl))
def fJ7_fill_53178_l5 (N : Nat)  (ar0N : Nat) (k5 : ((Nat → Int32) × Int32 × Int32 × Int32) → Option ((Nat → Int32))) : ((Nat → Int32) × Int32 × Int32 × Int32) → Option ((Nat → Int32)) :=
  fun (ar0F_5, x1_5, x2_5, x3_5) => (if x3_5 ≤ x2_5 then some ar0F_5 else (xq_bd (xq_ast ar0N ar0F_5 x2_5 x1_5) fun g_1 => k5 (g_1, x1_5, x2_5 + 1, x3_5)))
def fJ7_fill_53178 (N : Nat) (ar0F : Nat → Int32) (ar0N : Nat) (p1 : Int32) : Option ((Nat → Int32)) :=
  xq_loop (fJ7_fill_53178_l5 N ar0N) N (ar0F, p1, 0, nI ar0N)
set_option maxHeartbeats 4000000 in
set_option maxRecDepth 100000 in
theorem kJ7_fill_53178 (l : Launch) (dC : Nat → ClassId) (dI : Nat → Nat → Nat) (cI cB cJ cZ cM : ClassId) (z : Nat) (ad : Nat → Nat) (N : Nat) (a_p0 : Nat) (ar0F : Nat → Int32) (ar0N : Nat) (p1 : Int32) {r0 : Nat → Int32} (hf : fJ7_fill_53178 N ar0F ar0N p1 = some r0) : xq_Ct l yJ7_fill_53178 wsJ7_fill_53178 { frames := 0, cells := 0, slots := 0, locals := 0 } (dC, dI) vwCl (xq_tys cI cB cJ cZ cM) z ad [.ref a_p0, .int p1] [(a_p0, .inl (cI, ar0N, .inl ar0F))] [(a_p0, .inl (cI, ar0N, .inl r0))] none := by
  intro sz
  refine xq_ofW (cc := cJ7_fill_53178) (maxL := 4) (ret := none) (by decide +kernel) rfl ?_
  intro p e s m args below meth c s₁ B hml hv
  obtain ⟨rfl, hsz, hP, hK, hD0, hE, hz⟩ := hv
  have hx := B.exec
  have hb := B.bytes
  have hr := B.returns
  have hts := atoms_spec (ws := wsJ7_fill_53178) B.pre
  have hown : s.vm.findClass RJ7 = some m.cls := findClass_of_methodNamed B.named
  have hlocks := B.notSynchronized
  subst hsz
  have hD := hD0.self (sz := s.heap.size)
  have hN := xq_Env.of hE hz hD0
  generalize hAe : va_A [(a_p0, .inl (cI, ar0N, .inl ar0F))] s.heap.size = A at hD hN ⊢
  have hA : ∀ q : Nat, s.heap.size ≤ q → A q := fun q h => by rw [← hAe]; exact Or.inr h
  clear hAe hD0
  have hS : va_S A s.heap s.heap [] := va_S.rf
  have hl := lv_entry ([.ref a_p0, .int p1]) (n := 4) (Nat.le_of_ble_eq_true rfl)
  rw [lg_entry_eq]
  generalize (lg_sl ([.ref a_p0, .int p1]) ++ List.replicate (4 - (lg_sl ([.ref a_p0, .int p1])).length) Slot.unset).toArray = ls at hl ⊢
  have hl : lv_has ls 4 [(0, .ref a_p0), (1, .int p1)] := hl
  have l5 : ∀ n5 : Nat, ∀ (ar0F_5 : Nat → Int32) (x1_5 : Int32) (x2_5 : Int32) (x3_5 : Int32) (ls : Array Slot) (H : Heap) (locs : List Loc), xq_loop (fJ7_fill_53178_l5 N ar0N) n5 (ar0F_5, x1_5, x2_5, x3_5) = some r0 → va_P (dC, dI) vwCl [(a_p0, .inl (cI, ar0N, .inl ar0F_5))] H → va_D A [(a_p0, .inl (cI, ar0N, .inl ar0F_5))] → va_S A s.heap H locs → lv_has ls 4 [(0, .ref a_p0), (1, .int x1_5), (2, .int x2_5), (3, .int x3_5)] → W p l e (headSpec wsJ7_fill_53178 { frames := 0, cells := 0, slots := 0, locals := 0 }).room s m [.ref a_p0, .int p1].toArray below meth c H locs 0 0 (MQ below (xq_Q (dC, dI) vwCl (xq_tys cI cB cJ cZ cM) A [(a_p0, .inl (cI, ar0N, .inl r0))] none) [.ref a_p0, .int p1].toArray s 0 0 A) (F0 m 5 ls []) := by
    intro n5
    induction n5 with
    | zero => intro ar0F_5 x1_5 x2_5 x3_5 ls H locs hf; cases (show none = some r0 from hf)
    | succ n5 ih5 =>
      intro ar0F_5 x1_5 x2_5 x3_5 ls H locs hf hP hD hS hl
      have hf : fJ7_fill_53178_l5 N ar0N (xq_loop (fJ7_fill_53178_l5 N ar0N) n5) (ar0F_5, x1_5, x2_5, x3_5) = some r0 := hf
      unfold fJ7_fill_53178_l5 at hf
      refine lv_iload_n hx hb dJ7_fill_53178_5 rfl (lv_at hl 2 rfl) ?_
      refine lv_iload_n hx hb dJ7_fill_53178_6 rfl (lv_at hl 3 rfl) ?_
      refine lv_icmp_ge (tgt := 20) hx hb dJ7_fill_53178_7 (by decide) (fun c_ => ?_) (fun c_ => ?_)
      · have hf := xq_pos hf c_
        cases hf
        exact xq_vret hx hb hr hlocks hK hP hD hS dJ7_fill_53178_20
      · have hf := xq_neg hf c_
        refine lv_aload_n hx hb dJ7_fill_53178_10 rfl (lv_at hl 0 rfl) ?_
        refine lv_iload_n hx hb dJ7_fill_53178_11 rfl (lv_at hl 2 rfl) ?_
        refine lv_iload_n hx hb dJ7_fill_53178_12 rfl (lv_at hl 1 rfl) ?_
        refine xq_iast hx hb hK hP hD hS 0 0 rfl rfl hf dJ7_fill_53178_13 (fun g_1 H locs hf hP hD hS => ?_)
        have hP : va_P (dC, dI) vwCl [(a_p0, .inl (cI, ar0N, .inl g_1))] H := hP
        have hD : va_D A [(a_p0, .inl (cI, ar0N, .inl g_1))] := hD
        refine lv_iinc (v := x2_5 + 1) (lv' := [(2, .int (x2_5 + 1)), (0, .ref a_p0), (1, .int x1_5), (3, .int x3_5)]) hx hb dJ7_fill_53178_14 hl (k := 2) rfl (congrArg (fun q9 => x2_5 + q9) (by decide : Int32.ofInt 1 = 1)) (by decide) rfl (fun ls hl => ?_)
        refine lv_goto (tgt := 5) hx hb dJ7_fill_53178_17 (by decide) ?_
        exact ih5 g_1 x1_5 (x2_5 + 1) x3_5 _ _ _ hf hP hD hS (lv_sub hl [1, 2, 0, 3] rfl)
  unfold fJ7_fill_53178 at hf
  refine lv_iconst (v := 0) hx hb dJ7_fill_53178_0 (by decide) ?_
  refine lv_istore_n (lv' := [(2, .int 0), (0, .ref a_p0), (1, .int p1)]) hx hb dJ7_fill_53178_1 rfl hl (by decide) rfl (fun ls hl => ?_)
  refine lv_aload_n hx hb dJ7_fill_53178_2 rfl (lv_at hl 1 rfl) ?_
  refine va_alen hx hb hK hP 0 0 (v := nI ar0N) rfl rfl rfl dJ7_fill_53178_3 ?_
  refine lv_istore_n (lv' := [(3, .int (nI ar0N)), (2, .int 0), (0, .ref a_p0), (1, .int p1)]) hx hb dJ7_fill_53178_4 rfl hl (by decide) rfl (fun ls hl => ?_)
  exact l5 N ar0F p1 0 (nI ar0N) _ _ _ hf hP hD hS (lv_sub hl [2, 3, 1, 0] rfl)
