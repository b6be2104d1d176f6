def dsX9_init_0 : List (Nat × Instr × Nat) := [(0, (.aload_n 0, 1)), (1, (.invokespecial 3, 3)), (4, (.aload_n 0, 1)), (5, (.sipush 1600, 3)), (8, (.newarray .byte, 2)), (10, (.putfield 9, 3)), (13, (.aload_n 0, 1)), (14, (.iconst 0, 1)), (15, (.putfield 15, 3)), (18, (.return_, 1))]
theorem dsX9_init_0_ok : (dsX9_init_0.all fun q => decide (decode cX9_init q.1 = .ok q.2)) = true := by decide +kernel
theorem dX9_init_0 : decode cX9_init 0 = .ok (.aload_n 0, 1) := of_decide_eq_true (List.all_eq_true.mp dsX9_init_0_ok (0, (.aload_n 0, 1)) (List.mem_of_getElem? (i := 0) rfl))
theorem dX9_init_1 : decode cX9_init 1 = .ok (.invokespecial 3, 3) := of_decide_eq_true (List.all_eq_true.mp dsX9_init_0_ok (1, (.invokespecial 3, 3)) (List.mem_of_getElem? (i := 1) rfl))
theorem dX9_init_4 : decode cX9_init 4 = .ok (.aload_n 0, 1) := of_decide_eq_true (List.all_eq_true.mp dsX9_init_0_ok (4, (.aload_n 0, 1)) (List.mem_of_getElem? (i := 2) rfl))
theorem dX9_init_5 : decode cX9_init 5 = .ok (.sipush 1600, 3) := of_decide_eq_true (List.all_eq_true.mp dsX9_init_0_ok (5, (.sipush 1600, 3)) (List.mem_of_getElem? (i := 3) rfl))
theorem dX9_init_8 : decode cX9_init 8 = .ok (.newarray .byte, 2) := of_decide_eq_true (List.all_eq_true.mp dsX9_init_0_ok (8, (.newarray .byte, 2)) (List.mem_of_getElem? (i := 4) rfl))
theorem dX9_init_10 : decode cX9_init 10 = .ok (.putfield 9, 3) := of_decide_eq_true (List.all_eq_true.mp dsX9_init_0_ok (10, (.putfield 9, 3)) (List.mem_of_getElem? (i := 5) rfl))
theorem dX9_init_13 : decode cX9_init 13 = .ok (.aload_n 0, 1) := of_decide_eq_true (List.all_eq_true.mp dsX9_init_0_ok (13, (.aload_n 0, 1)) (List.mem_of_getElem? (i := 6) rfl))
theorem dX9_init_14 : decode cX9_init 14 = .ok (.iconst 0, 1) := of_decide_eq_true (List.all_eq_true.mp dsX9_init_0_ok (14, (.iconst 0, 1)) (List.mem_of_getElem? (i := 7) rfl))
theorem dX9_init_15 : decode cX9_init 15 = .ok (.putfield 15, 3) := of_decide_eq_true (List.all_eq_true.mp dsX9_init_0_ok (15, (.putfield 15, 3)) (List.mem_of_getElem? (i := 8) rfl))
theorem dX9_init_18 : decode cX9_init 18 = .ok (.return_, 1) := of_decide_eq_true (List.all_eq_true.mp dsX9_init_0_ok (18, (.return_, 1)) (List.mem_of_getElem? (i := 9) rfl))
set_option maxHeartbeats 4000000 in
set_option maxRecDepth 100000 in
theorem kX9_init (l : Launch) (dC : Nat → ClassId) (dI : Nat → Nat → Nat) (cI cB cJ cZ cM : ClassId) (z : Nat) (ad : Nat → Nat) (a_p0 : Nat) : xq_CtA l yX9_init wsX9_init { frames := 1, cells := 1, slots := 1600, locals := 20 } (dC, dI) vwCl (xq_tys cI cB cJ cZ cM) z ad [.ref a_p0] [(a_p0, .inr (9, [.null, .int 0]))] (fun q => [(a_p0, .inr (9, oX9 (fun _ => 0) (q 0))), ((q 0 0), .inl (cB, 1600, .inl (fun _ => 0)))]) (fun _ => none) 1 1600 := by
  intro sz
  refine Met.ofW (cc := cX9_init) (maxL := 1) (ret := none) (by decide) rfl ?_
  intro p e s m args below meth c s₁ B hml hv
  obtain ⟨rfl, hsz, hP, hK, hD0, hE, hz⟩ := hv
  have hx := B.exec
  have hb := B.bytes
  have hr := B.returns
  have hts := atoms_spec (ws := wsX9_init) B.pre
  have hown : s.vm.findClass RX9 = some m.cls := findClass_of_methodNamed B.named
  have hlocks := B.notSynchronized
  have hin : meth.name = "<init>" := (name_of_methodNamed B.named B.method).1
  subst hsz
  have hD := hD0.self (sz := s.heap.size)
  have hN := xq_Env.of hE hz hD0
  generalize hAe : va_A [(a_p0, .inr (9, [.null, .int 0]))] s.heap.size = A at hD hN ⊢
  have hA : ∀ q : Nat, s.heap.size ≤ q → A q := fun q h => by rw [← hAe]; exact Or.inr h
  clear hAe hD0
  have hS : va_S A s.heap s.heap [] := va_S.rf
  have hl := lv_entry ([.ref a_p0]) (n := 1) (Nat.le_of_ble_eq_true rfl)
  rw [lg_entry_eq]
  generalize (lg_sl ([.ref a_p0]) ++ List.replicate (1 - (lg_sl ([.ref a_p0])).length) Slot.unset).toArray = ls at hl ⊢
  have hl : lv_has ls 1 [(0, .ref a_p0)] := hl
  have hw0 := hts (.methodLink RX9 3 objectInit) (by decide +kernel)
  have hw1 := hts (.instanceMethod objectInit) (by decide +kernel)
  have hw2 := hts (.code objectInit ⟨#[0xb1]⟩ 1 none) (by decide +kernel)
  have hw3 := hts (.arrayClass .byte) (by decide +kernel)
  have hw4 := hts (.fieldLink RX9 9 "DistantVoice$Tape" "bytes" "[B") (by decide +kernel)
  have hinX9 : ∀ w ∈ wsX90, w ∈ wsX9_init := fun w h => List.mem_cons_of_mem _ (List.mem_append_right _ h)
  have hw6 := hts (.fieldLink RX9 15 "DistantVoice$Tape" "length" "I") (by decide +kernel)
  refine lv_aload_n hx hb dX9_init_0 rfl (lv_at hl 0 rfl) ?_
  refine W.objInit hx hb hown hw0 hw1 hw2 rfl (by rw [hml]; exact hl.1) rfl dX9_init_1 (Nat.le_of_ble_eq_true rfl) (Nat.le_of_ble_eq_true rfl) ?_
  refine W.eq (g2 := F0 m 4 ls []) rfl ?_
  refine lv_aload_n hx hb dX9_init_4 rfl (lv_at hl 0 rfl) ?_
  refine lv_sipush (v := 1600) hx hb dX9_init_5 (by decide) ?_
  refine xq_newa (atype := .byte) (ty := .byte) (a0 := (1600, .inl (fun _ => 0))) hx hb hw3 rfl hK 1 rfl (fun _ => rfl) hP hD hS hA (fun _ => rfl) (by decide) (by decide) (Nat.le_of_ble_eq_true rfl) (Nat.le_of_ble_eq_true rfl) (Nat.le_of_ble_eq_true rfl) dX9_init_8 (fun q_1 H hP hD hS => ?_)
  have hP : va_P (dC, dI) vwCl [(a_p0, .inr (9, [.null, .int 0])), (q_1, .inl (cB, 1600, .inl (fun _ => 0)))] H := hP
  have hD : va_D A [(a_p0, .inr (9, [.null, .int 0])), (q_1, .inl (cB, 1600, .inl (fun _ => 0)))] := hD
  refine W.widen (k := 1) (n := 1600) (Nat.le_of_ble_eq_true rfl) (Nat.le_of_ble_eq_true rfl) ?_
  refine va_putF (D := (dC, dI)) (ci := 9) (v := .ref q_1) (ty := .array .byte) (C := RX9) (T := TX9) (N := 2) hx hb hts hinX9 tyX9 tyX9_ok nmX9 hown hK hP hD hS 0 rfl rfl 0 (by decide) hw4 (fun _ h9 => h9) rfl hin rfl (by decide +kernel) rfl rfl (Nat.le_of_ble_eq_true rfl) dX9_init_10 (fun H locs hP hD hS => ?_)
  have hP : va_P (dC, dI) vwCl [(a_p0, .inr (9, [.ref q_1, .int 0])), (q_1, .inl (cB, 1600, .inl (fun _ => 0)))] H := hP
  have hD : va_D A [(a_p0, .inr (9, [.ref q_1, .int 0])), (q_1, .inl (cB, 1600, .inl (fun _ => 0)))] := hD
  refine lv_aload_n hx hb dX9_init_13 rfl (lv_at hl 0 rfl) ?_
  refine lv_iconst (v := 0) hx hb dX9_init_14 (by decide) ?_
  refine va_put (D := (dC, dI)) (ci := 9) (v := .int 0) (ty := .int) (C := RX9) (T := TX9) (N := 2) hx hb hts hinX9 tyX9 tyX9_ok nmX9 hown hK hP hD hS 0 rfl rfl 1 (by decide) hw6 (fun _ h9 => h9) rfl (by decide +kernel) rfl rfl (Nat.le_of_ble_eq_true rfl) dX9_init_15 (fun H locs hP hD hS => ?_)
  have hP : va_P (dC, dI) vwCl [(a_p0, .inr (9, [.ref q_1, .int 0])), (q_1, .inl (cB, 1600, .inl (fun _ => 0)))] H := hP
  have hD : va_D A [(a_p0, .inr (9, [.ref q_1, .int 0])), (q_1, .inl (cB, 1600, .inl (fun _ => 0)))] := hD
  exact xq_vretA (va_up (fun _ _ => 0) 0 (va_up (fun _ => 0) 0 q_1)) rfl hx hb hr hlocks hK (hP.sub [0, 1] rfl) (hD.sub [0, 1] (by decide) rfl) hS dX9_init_18
def dsX6_init_0 : List (Nat × Instr × Nat) := [(0, (.aload_n 0, 1)), (1, (.invokespecial 3, 3)), (4, (.aload_n 0, 1)), (5, (.iconst 0, 1)), (6, (.putfield 9, 3)), (9, (.aload_n 0, 1)), (10, (.iconst 0, 1)), (11, (.putfield 15, 3)), (14, (.aload_n 0, 1)), (15, (.iconst 0, 1)), (16, (.putfield 18, 3)), (19, (.aload_n 0, 1)), (20, (.iconst 0, 1)), (21, (.putfield 21, 3)), (24, (.aload_n 0, 1)), (25, (.iconst 0, 1)), (26, (.putfield 24, 3)), (29, (.aload_n 0, 1)), (30, (.iconst 0, 1)), (31, (.putfield 27, 3)), (34, (.aload_n 0, 1)), (35, (.bipush 7, 2)), (37, (.newarray .int, 2)), (39, (.putfield 30, 3)), (42, (.aload_n 0, 1)), (43, (.bipush 6, 2)), (45, (.newarray .int, 2)), (47, (.putfield 34, 3)), (50, (.return_, 1))]
theorem dsX6_init_0_ok : (dsX6_init_0.all fun q => decide (decode cX6_init q.1 = .ok q.2)) = true := by decide +kernel
theorem dX6_init_0 : decode cX6_init 0 = .ok (.aload_n 0, 1) := of_decide_eq_true (List.all_eq_true.mp dsX6_init_0_ok (0, (.aload_n 0, 1)) (List.mem_of_getElem? (i := 0) rfl))
theorem dX6_init_1 : decode cX6_init 1 = .ok (.invokespecial 3, 3) := of_decide_eq_true (List.all_eq_true.mp dsX6_init_0_ok (1, (.invokespecial 3, 3)) (List.mem_of_getElem? (i := 1) rfl))
theorem dX6_init_4 : decode cX6_init 4 = .ok (.aload_n 0, 1) := of_decide_eq_true (List.all_eq_true.mp dsX6_init_0_ok (4, (.aload_n 0, 1)) (List.mem_of_getElem? (i := 2) rfl))
theorem dX6_init_5 : decode cX6_init 5 = .ok (.iconst 0, 1) := of_decide_eq_true (List.all_eq_true.mp dsX6_init_0_ok (5, (.iconst 0, 1)) (List.mem_of_getElem? (i := 3) rfl))
theorem dX6_init_6 : decode cX6_init 6 = .ok (.putfield 9, 3) := of_decide_eq_true (List.all_eq_true.mp dsX6_init_0_ok (6, (.putfield 9, 3)) (List.mem_of_getElem? (i := 4) rfl))
theorem dX6_init_9 : decode cX6_init 9 = .ok (.aload_n 0, 1) := of_decide_eq_true (List.all_eq_true.mp dsX6_init_0_ok (9, (.aload_n 0, 1)) (List.mem_of_getElem? (i := 5) rfl))
theorem dX6_init_10 : decode cX6_init 10 = .ok (.iconst 0, 1) := of_decide_eq_true (List.all_eq_true.mp dsX6_init_0_ok (10, (.iconst 0, 1)) (List.mem_of_getElem? (i := 6) rfl))
theorem dX6_init_11 : decode cX6_init 11 = .ok (.putfield 15, 3) := of_decide_eq_true (List.all_eq_true.mp dsX6_init_0_ok (11, (.putfield 15, 3)) (List.mem_of_getElem? (i := 7) rfl))
theorem dX6_init_14 : decode cX6_init 14 = .ok (.aload_n 0, 1) := of_decide_eq_true (List.all_eq_true.mp dsX6_init_0_ok (14, (.aload_n 0, 1)) (List.mem_of_getElem? (i := 8) rfl))
theorem dX6_init_15 : decode cX6_init 15 = .ok (.iconst 0, 1) := of_decide_eq_true (List.all_eq_true.mp dsX6_init_0_ok (15, (.iconst 0, 1)) (List.mem_of_getElem? (i := 9) rfl))
theorem dX6_init_16 : decode cX6_init 16 = .ok (.putfield 18, 3) := of_decide_eq_true (List.all_eq_true.mp dsX6_init_0_ok (16, (.putfield 18, 3)) (List.mem_of_getElem? (i := 10) rfl))
theorem dX6_init_19 : decode cX6_init 19 = .ok (.aload_n 0, 1) := of_decide_eq_true (List.all_eq_true.mp dsX6_init_0_ok (19, (.aload_n 0, 1)) (List.mem_of_getElem? (i := 11) rfl))
theorem dX6_init_20 : decode cX6_init 20 = .ok (.iconst 0, 1) := of_decide_eq_true (List.all_eq_true.mp dsX6_init_0_ok (20, (.iconst 0, 1)) (List.mem_of_getElem? (i := 12) rfl))
theorem dX6_init_21 : decode cX6_init 21 = .ok (.putfield 21, 3) := of_decide_eq_true (List.all_eq_true.mp dsX6_init_0_ok (21, (.putfield 21, 3)) (List.mem_of_getElem? (i := 13) rfl))
theorem dX6_init_24 : decode cX6_init 24 = .ok (.aload_n 0, 1) := of_decide_eq_true (List.all_eq_true.mp dsX6_init_0_ok (24, (.aload_n 0, 1)) (List.mem_of_getElem? (i := 14) rfl))
theorem dX6_init_25 : decode cX6_init 25 = .ok (.iconst 0, 1) := of_decide_eq_true (List.all_eq_true.mp dsX6_init_0_ok (25, (.iconst 0, 1)) (List.mem_of_getElem? (i := 15) rfl))
theorem dX6_init_26 : decode cX6_init 26 = .ok (.putfield 24, 3) := of_decide_eq_true (List.all_eq_true.mp dsX6_init_0_ok (26, (.putfield 24, 3)) (List.mem_of_getElem? (i := 16) rfl))
theorem dX6_init_29 : decode cX6_init 29 = .ok (.aload_n 0, 1) := of_decide_eq_true (List.all_eq_true.mp dsX6_init_0_ok (29, (.aload_n 0, 1)) (List.mem_of_getElem? (i := 17) rfl))
theorem dX6_init_30 : decode cX6_init 30 = .ok (.iconst 0, 1) := of_decide_eq_true (List.all_eq_true.mp dsX6_init_0_ok (30, (.iconst 0, 1)) (List.mem_of_getElem? (i := 18) rfl))
theorem dX6_init_31 : decode cX6_init 31 = .ok (.putfield 27, 3) := of_decide_eq_true (List.all_eq_true.mp dsX6_init_0_ok (31, (.putfield 27, 3)) (List.mem_of_getElem? (i := 19) rfl))
theorem dX6_init_34 : decode cX6_init 34 = .ok (.aload_n 0, 1) := of_decide_eq_true (List.all_eq_true.mp dsX6_init_0_ok (34, (.aload_n 0, 1)) (List.mem_of_getElem? (i := 20) rfl))
theorem dX6_init_35 : decode cX6_init 35 = .ok (.bipush 7, 2) := of_decide_eq_true (List.all_eq_true.mp dsX6_init_0_ok (35, (.bipush 7, 2)) (List.mem_of_getElem? (i := 21) rfl))
theorem dX6_init_37 : decode cX6_init 37 = .ok (.newarray .int, 2) := of_decide_eq_true (List.all_eq_true.mp dsX6_init_0_ok (37, (.newarray .int, 2)) (List.mem_of_getElem? (i := 22) rfl))
theorem dX6_init_39 : decode cX6_init 39 = .ok (.putfield 30, 3) := of_decide_eq_true (List.all_eq_true.mp dsX6_init_0_ok (39, (.putfield 30, 3)) (List.mem_of_getElem? (i := 23) rfl))
theorem dX6_init_42 : decode cX6_init 42 = .ok (.aload_n 0, 1) := of_decide_eq_true (List.all_eq_true.mp dsX6_init_0_ok (42, (.aload_n 0, 1)) (List.mem_of_getElem? (i := 24) rfl))
theorem dX6_init_43 : decode cX6_init 43 = .ok (.bipush 6, 2) := of_decide_eq_true (List.all_eq_true.mp dsX6_init_0_ok (43, (.bipush 6, 2)) (List.mem_of_getElem? (i := 25) rfl))
theorem dX6_init_45 : decode cX6_init 45 = .ok (.newarray .int, 2) := of_decide_eq_true (List.all_eq_true.mp dsX6_init_0_ok (45, (.newarray .int, 2)) (List.mem_of_getElem? (i := 26) rfl))
theorem dX6_init_47 : decode cX6_init 47 = .ok (.putfield 34, 3) := of_decide_eq_true (List.all_eq_true.mp dsX6_init_0_ok (47, (.putfield 34, 3)) (List.mem_of_getElem? (i := 27) rfl))
theorem dX6_init_50 : decode cX6_init 50 = .ok (.return_, 1) := of_decide_eq_true (List.all_eq_true.mp dsX6_init_0_ok (50, (.return_, 1)) (List.mem_of_getElem? (i := 28) rfl))
set_option maxHeartbeats 4000000 in
set_option maxRecDepth 100000 in
theorem kX6_init (l : Launch) (dC : Nat → ClassId) (dI : Nat → Nat → Nat) (cI cB cJ cZ cM : ClassId) (z : Nat) (ad : Nat → Nat) (a_p0 : Nat) : xq_CtA l yX6_init wsX6_init { frames := 1, cells := 2, slots := 13, locals := 20 } (dC, dI) vwCl (xq_tys cI cB cJ cZ cM) z ad [.ref a_p0] [(a_p0, .inr (6, [.int 0, .int 0, .int 0, .int 0, .int 0, .int 0, .null, .null]))] (fun q => [(a_p0, .inr (6, oX6 (fun _ => 0) (q 0))), ((q 0 6), .inl (cI, 7, .inl (fun _ => 0))), ((q 0 7), .inl (cI, 6, .inl (fun _ => 0)))]) (fun _ => none) 2 13 := by
  intro sz
  refine Met.ofW (cc := cX6_init) (maxL := 1) (ret := none) (by decide) rfl ?_
  intro p e s m args below meth c s₁ B hml hv
  obtain ⟨rfl, hsz, hP, hK, hD0, hE, hz⟩ := hv
  have hx := B.exec
  have hb := B.bytes
  have hr := B.returns
  have hts := atoms_spec (ws := wsX6_init) B.pre
  have hown : s.vm.findClass RX6 = some m.cls := findClass_of_methodNamed B.named
  have hlocks := B.notSynchronized
  have hin : meth.name = "<init>" := (name_of_methodNamed B.named B.method).1
  subst hsz
  have hD := hD0.self (sz := s.heap.size)
  have hN := xq_Env.of hE hz hD0
  generalize hAe : va_A [(a_p0, .inr (6, [.int 0, .int 0, .int 0, .int 0, .int 0, .int 0, .null, .null]))] s.heap.size = A at hD hN ⊢
  have hA : ∀ q : Nat, s.heap.size ≤ q → A q := fun q h => by rw [← hAe]; exact Or.inr h
  clear hAe hD0
  have hS : va_S A s.heap s.heap [] := va_S.rf
  have hl := lv_entry ([.ref a_p0]) (n := 1) (Nat.le_of_ble_eq_true rfl)
  rw [lg_entry_eq]
  generalize (lg_sl ([.ref a_p0]) ++ List.replicate (1 - (lg_sl ([.ref a_p0])).length) Slot.unset).toArray = ls at hl ⊢
  have hl : lv_has ls 1 [(0, .ref a_p0)] := hl
  have hw0 := hts (.methodLink RX6 3 objectInit) (by decide +kernel)
  have hw1 := hts (.instanceMethod objectInit) (by decide +kernel)
  have hw2 := hts (.code objectInit ⟨#[0xb1]⟩ 1 none) (by decide +kernel)
  have hw3 := hts (.fieldLink RX6 9 "DistantVoice$Moment" "night" "I") (by decide +kernel)
  have hinX6 : ∀ w ∈ wsX60, w ∈ wsX6_init := fun w h => List.mem_cons_of_mem _ (List.mem_append_right _ h)
  have hw5 := hts (.fieldLink RX6 15 "DistantVoice$Moment" "mile" "I") (by decide +kernel)
  have hw6 := hts (.fieldLink RX6 18 "DistantVoice$Moment" "rounds" "I") (by decide +kernel)
  have hw7 := hts (.fieldLink RX6 21 "DistantVoice$Moment" "talking" "I") (by decide +kernel)
  have hw8 := hts (.fieldLink RX6 24 "DistantVoice$Moment" "hush" "I") (by decide +kernel)
  have hw9 := hts (.fieldLink RX6 27 "DistantVoice$Moment" "keptCount" "I") (by decide +kernel)
  have hw10 := hts (.arrayClass .int) (by decide +kernel)
  have hw11 := hts (.fieldLink RX6 30 "DistantVoice$Moment" "rows" "[I") (by decide +kernel)
  have hw12 := hts (.fieldLink RX6 34 "DistantVoice$Moment" "talks" "[I") (by decide +kernel)
  refine lv_aload_n hx hb dX6_init_0 rfl (lv_at hl 0 rfl) ?_
  refine W.objInit hx hb hown hw0 hw1 hw2 rfl (by rw [hml]; exact hl.1) rfl dX6_init_1 (Nat.le_of_ble_eq_true rfl) (Nat.le_of_ble_eq_true rfl) ?_
  refine W.eq (g2 := F0 m 4 ls []) rfl ?_
  refine lv_aload_n hx hb dX6_init_4 rfl (lv_at hl 0 rfl) ?_
  refine lv_iconst (v := 0) hx hb dX6_init_5 (by decide) ?_
  refine va_put (D := (dC, dI)) (ci := 6) (v := .int 0) (ty := .int) (C := RX6) (T := TX6) (N := 8) hx hb hts hinX6 tyX6 tyX6_ok nmX6 hown hK hP hD hS 0 rfl rfl 0 (by decide) hw3 (fun _ h9 => h9) rfl (by decide +kernel) rfl rfl (Nat.le_of_ble_eq_true rfl) dX6_init_6 (fun H locs hP hD hS => ?_)
  have hP : va_P (dC, dI) vwCl [(a_p0, .inr (6, [.int 0, .int 0, .int 0, .int 0, .int 0, .int 0, .null, .null]))] H := hP
  have hD : va_D A [(a_p0, .inr (6, [.int 0, .int 0, .int 0, .int 0, .int 0, .int 0, .null, .null]))] := hD
  refine lv_aload_n hx hb dX6_init_9 rfl (lv_at hl 0 rfl) ?_
  refine lv_iconst (v := 0) hx hb dX6_init_10 (by decide) ?_
  refine va_put (D := (dC, dI)) (ci := 6) (v := .int 0) (ty := .int) (C := RX6) (T := TX6) (N := 8) hx hb hts hinX6 tyX6 tyX6_ok nmX6 hown hK hP hD hS 0 rfl rfl 1 (by decide) hw5 (fun _ h9 => h9) rfl (by decide +kernel) rfl rfl (Nat.le_of_ble_eq_true rfl) dX6_init_11 (fun H locs hP hD hS => ?_)
  have hP : va_P (dC, dI) vwCl [(a_p0, .inr (6, [.int 0, .int 0, .int 0, .int 0, .int 0, .int 0, .null, .null]))] H := hP
  have hD : va_D A [(a_p0, .inr (6, [.int 0, .int 0, .int 0, .int 0, .int 0, .int 0, .null, .null]))] := hD
  refine lv_aload_n hx hb dX6_init_14 rfl (lv_at hl 0 rfl) ?_
  refine lv_iconst (v := 0) hx hb dX6_init_15 (by decide) ?_
  refine va_put (D := (dC, dI)) (ci := 6) (v := .int 0) (ty := .int) (C := RX6) (T := TX6) (N := 8) hx hb hts hinX6 tyX6 tyX6_ok nmX6 hown hK hP hD hS 0 rfl rfl 2 (by decide) hw6 (fun _ h9 => h9) rfl (by decide +kernel) rfl rfl (Nat.le_of_ble_eq_true rfl) dX6_init_16 (fun H locs hP hD hS => ?_)
  have hP : va_P (dC, dI) vwCl [(a_p0, .inr (6, [.int 0, .int 0, .int 0, .int 0, .int 0, .int 0, .null, .null]))] H := hP
  have hD : va_D A [(a_p0, .inr (6, [.int 0, .int 0, .int 0, .int 0, .int 0, .int 0, .null, .null]))] := hD
  refine lv_aload_n hx hb dX6_init_19 rfl (lv_at hl 0 rfl) ?_
  refine lv_iconst (v := 0) hx hb dX6_init_20 (by decide) ?_
  refine va_put (D := (dC, dI)) (ci := 6) (v := .int 0) (ty := .int) (C := RX6) (T := TX6) (N := 8) hx hb hts hinX6 tyX6 tyX6_ok nmX6 hown hK hP hD hS 0 rfl rfl 3 (by decide) hw7 (fun _ h9 => h9) rfl (by decide +kernel) rfl rfl (Nat.le_of_ble_eq_true rfl) dX6_init_21 (fun H locs hP hD hS => ?_)
  have hP : va_P (dC, dI) vwCl [(a_p0, .inr (6, [.int 0, .int 0, .int 0, .int 0, .int 0, .int 0, .null, .null]))] H := hP
  have hD : va_D A [(a_p0, .inr (6, [.int 0, .int 0, .int 0, .int 0, .int 0, .int 0, .null, .null]))] := hD
  refine lv_aload_n hx hb dX6_init_24 rfl (lv_at hl 0 rfl) ?_
  refine lv_iconst (v := 0) hx hb dX6_init_25 (by decide) ?_
  refine va_put (D := (dC, dI)) (ci := 6) (v := .int 0) (ty := .int) (C := RX6) (T := TX6) (N := 8) hx hb hts hinX6 tyX6 tyX6_ok nmX6 hown hK hP hD hS 0 rfl rfl 4 (by decide) hw8 (fun _ h9 => h9) rfl (by decide +kernel) rfl rfl (Nat.le_of_ble_eq_true rfl) dX6_init_26 (fun H locs hP hD hS => ?_)
  have hP : va_P (dC, dI) vwCl [(a_p0, .inr (6, [.int 0, .int 0, .int 0, .int 0, .int 0, .int 0, .null, .null]))] H := hP
  have hD : va_D A [(a_p0, .inr (6, [.int 0, .int 0, .int 0, .int 0, .int 0, .int 0, .null, .null]))] := hD
  refine lv_aload_n hx hb dX6_init_29 rfl (lv_at hl 0 rfl) ?_
  refine lv_iconst (v := 0) hx hb dX6_init_30 (by decide) ?_
  refine va_put (D := (dC, dI)) (ci := 6) (v := .int 0) (ty := .int) (C := RX6) (T := TX6) (N := 8) hx hb hts hinX6 tyX6 tyX6_ok nmX6 hown hK hP hD hS 0 rfl rfl 5 (by decide) hw9 (fun _ h9 => h9) rfl (by decide +kernel) rfl rfl (Nat.le_of_ble_eq_true rfl) dX6_init_31 (fun H locs hP hD hS => ?_)
  have hP : va_P (dC, dI) vwCl [(a_p0, .inr (6, [.int 0, .int 0, .int 0, .int 0, .int 0, .int 0, .null, .null]))] H := hP
  have hD : va_D A [(a_p0, .inr (6, [.int 0, .int 0, .int 0, .int 0, .int 0, .int 0, .null, .null]))] := hD
  refine lv_aload_n hx hb dX6_init_34 rfl (lv_at hl 0 rfl) ?_
  refine lv_bipush (v := 7) hx hb dX6_init_35 (by decide) ?_
  refine xq_newa (atype := .int) (ty := .int) (a0 := (7, .inl (fun _ => 0))) hx hb hw10 rfl hK 0 rfl (fun _ => rfl) hP hD hS hA (fun _ => rfl) (by decide) (by decide) (Nat.le_of_ble_eq_true rfl) (Nat.le_of_ble_eq_true rfl) (Nat.le_of_ble_eq_true rfl) dX6_init_37 (fun q_1 H hP hD hS => ?_)
  have hP : va_P (dC, dI) vwCl [(a_p0, .inr (6, [.int 0, .int 0, .int 0, .int 0, .int 0, .int 0, .null, .null])), (q_1, .inl (cI, 7, .inl (fun _ => 0)))] H := hP
  have hD : va_D A [(a_p0, .inr (6, [.int 0, .int 0, .int 0, .int 0, .int 0, .int 0, .null, .null])), (q_1, .inl (cI, 7, .inl (fun _ => 0)))] := hD
  refine W.widen (k := 1) (n := 7) (Nat.le_of_ble_eq_true rfl) (Nat.le_of_ble_eq_true rfl) ?_
  refine va_putF (D := (dC, dI)) (ci := 6) (v := .ref q_1) (ty := .array .int) (C := RX6) (T := TX6) (N := 8) hx hb hts hinX6 tyX6 tyX6_ok nmX6 hown hK hP hD hS 0 rfl rfl 6 (by decide) hw11 (fun _ h9 => h9) rfl hin rfl (by decide +kernel) rfl rfl (Nat.le_of_ble_eq_true rfl) dX6_init_39 (fun H locs hP hD hS => ?_)
  have hP : va_P (dC, dI) vwCl [(a_p0, .inr (6, [.int 0, .int 0, .int 0, .int 0, .int 0, .int 0, .ref q_1, .null])), (q_1, .inl (cI, 7, .inl (fun _ => 0)))] H := hP
  have hD : va_D A [(a_p0, .inr (6, [.int 0, .int 0, .int 0, .int 0, .int 0, .int 0, .ref q_1, .null])), (q_1, .inl (cI, 7, .inl (fun _ => 0)))] := hD
  refine lv_aload_n hx hb dX6_init_42 rfl (lv_at hl 0 rfl) ?_
  refine lv_bipush (v := 6) hx hb dX6_init_43 (by decide) ?_
  refine xq_newa (atype := .int) (ty := .int) (a0 := (6, .inl (fun _ => 0))) hx hb hw10 rfl hK 0 rfl (fun _ => rfl) hP hD hS hA (fun _ => rfl) (by decide) (by decide) (Nat.le_of_ble_eq_true rfl) (Nat.le_of_ble_eq_true rfl) (Nat.le_of_ble_eq_true rfl) dX6_init_45 (fun q_2 H hP hD hS => ?_)
  have hP : va_P (dC, dI) vwCl [(a_p0, .inr (6, [.int 0, .int 0, .int 0, .int 0, .int 0, .int 0, .ref q_1, .null])), (q_1, .inl (cI, 7, .inl (fun _ => 0))), (q_2, .inl (cI, 6, .inl (fun _ => 0)))] H := hP
  have hD : va_D A [(a_p0, .inr (6, [.int 0, .int 0, .int 0, .int 0, .int 0, .int 0, .ref q_1, .null])), (q_1, .inl (cI, 7, .inl (fun _ => 0))), (q_2, .inl (cI, 6, .inl (fun _ => 0)))] := hD
  refine W.widen (k := 2) (n := 13) (Nat.le_of_ble_eq_true rfl) (Nat.le_of_ble_eq_true rfl) ?_
  refine va_putF (D := (dC, dI)) (ci := 6) (v := .ref q_2) (ty := .array .int) (C := RX6) (T := TX6) (N := 8) hx hb hts hinX6 tyX6 tyX6_ok nmX6 hown hK hP hD hS 0 rfl rfl 7 (by decide) hw12 (fun _ h9 => h9) rfl hin rfl (by decide +kernel) rfl rfl (Nat.le_of_ble_eq_true rfl) dX6_init_47 (fun H locs hP hD hS => ?_)
  have hP : va_P (dC, dI) vwCl [(a_p0, .inr (6, [.int 0, .int 0, .int 0, .int 0, .int 0, .int 0, .ref q_1, .ref q_2])), (q_1, .inl (cI, 7, .inl (fun _ => 0))), (q_2, .inl (cI, 6, .inl (fun _ => 0)))] H := hP
  have hD : va_D A [(a_p0, .inr (6, [.int 0, .int 0, .int 0, .int 0, .int 0, .int 0, .ref q_1, .ref q_2])), (q_1, .inl (cI, 7, .inl (fun _ => 0))), (q_2, .inl (cI, 6, .inl (fun _ => 0)))] := hD
  exact xq_vretA (va_up (fun _ _ => 0) 0 (va_up (va_up (fun _ => 0) 6 q_1) 7 q_2)) rfl hx hb hr hlocks hK (hP.sub [0, 1, 2] rfl) (hD.sub [0, 1, 2] (by decide) rfl) hS dX6_init_50
def dsX5_init_0 : List (Nat × Instr × Nat) := [(0, (.aload_n 0, 1)), (1, (.invokespecial 3, 3)), (4, (.aload_n 0, 1)), (5, (.iconst 0, 1)), (6, (.putfield 9, 3)), (9, (.aload_n 0, 1)), (10, (.bipush 16, 2)), (12, (.newarray .int, 2)), (14, (.putfield 15, 3)), (17, (.aload_n 0, 1)), (18, (.bipush 16, 2)), (20, (.newarray .int, 2)), (22, (.putfield 19, 3)), (25, (.aload_n 0, 1)), (26, (.bipush 16, 2)), (28, (.newarray .int, 2)), (30, (.putfield 22, 3)), (33, (.return_, 1))]
theorem dsX5_init_0_ok : (dsX5_init_0.all fun q => decide (decode cX5_init q.1 = .ok q.2)) = true := by decide +kernel
theorem dX5_init_0 : decode cX5_init 0 = .ok (.aload_n 0, 1) := of_decide_eq_true (List.all_eq_true.mp dsX5_init_0_ok (0, (.aload_n 0, 1)) (List.mem_of_getElem? (i := 0) rfl))
theorem dX5_init_1 : decode cX5_init 1 = .ok (.invokespecial 3, 3) := of_decide_eq_true (List.all_eq_true.mp dsX5_init_0_ok (1, (.invokespecial 3, 3)) (List.mem_of_getElem? (i := 1) rfl))
theorem dX5_init_4 : decode cX5_init 4 = .ok (.aload_n 0, 1) := of_decide_eq_true (List.all_eq_true.mp dsX5_init_0_ok (4, (.aload_n 0, 1)) (List.mem_of_getElem? (i := 2) rfl))
theorem dX5_init_5 : decode cX5_init 5 = .ok (.iconst 0, 1) := of_decide_eq_true (List.all_eq_true.mp dsX5_init_0_ok (5, (.iconst 0, 1)) (List.mem_of_getElem? (i := 3) rfl))
theorem dX5_init_6 : decode cX5_init 6 = .ok (.putfield 9, 3) := of_decide_eq_true (List.all_eq_true.mp dsX5_init_0_ok (6, (.putfield 9, 3)) (List.mem_of_getElem? (i := 4) rfl))
theorem dX5_init_9 : decode cX5_init 9 = .ok (.aload_n 0, 1) := of_decide_eq_true (List.all_eq_true.mp dsX5_init_0_ok (9, (.aload_n 0, 1)) (List.mem_of_getElem? (i := 5) rfl))
theorem dX5_init_10 : decode cX5_init 10 = .ok (.bipush 16, 2) := of_decide_eq_true (List.all_eq_true.mp dsX5_init_0_ok (10, (.bipush 16, 2)) (List.mem_of_getElem? (i := 6) rfl))
theorem dX5_init_12 : decode cX5_init 12 = .ok (.newarray .int, 2) := of_decide_eq_true (List.all_eq_true.mp dsX5_init_0_ok (12, (.newarray .int, 2)) (List.mem_of_getElem? (i := 7) rfl))
theorem dX5_init_14 : decode cX5_init 14 = .ok (.putfield 15, 3) := of_decide_eq_true (List.all_eq_true.mp dsX5_init_0_ok (14, (.putfield 15, 3)) (List.mem_of_getElem? (i := 8) rfl))
theorem dX5_init_17 : decode cX5_init 17 = .ok (.aload_n 0, 1) := of_decide_eq_true (List.all_eq_true.mp dsX5_init_0_ok (17, (.aload_n 0, 1)) (List.mem_of_getElem? (i := 9) rfl))
theorem dX5_init_18 : decode cX5_init 18 = .ok (.bipush 16, 2) := of_decide_eq_true (List.all_eq_true.mp dsX5_init_0_ok (18, (.bipush 16, 2)) (List.mem_of_getElem? (i := 10) rfl))
theorem dX5_init_20 : decode cX5_init 20 = .ok (.newarray .int, 2) := of_decide_eq_true (List.all_eq_true.mp dsX5_init_0_ok (20, (.newarray .int, 2)) (List.mem_of_getElem? (i := 11) rfl))
theorem dX5_init_22 : decode cX5_init 22 = .ok (.putfield 19, 3) := of_decide_eq_true (List.all_eq_true.mp dsX5_init_0_ok (22, (.putfield 19, 3)) (List.mem_of_getElem? (i := 12) rfl))
theorem dX5_init_25 : decode cX5_init 25 = .ok (.aload_n 0, 1) := of_decide_eq_true (List.all_eq_true.mp dsX5_init_0_ok (25, (.aload_n 0, 1)) (List.mem_of_getElem? (i := 13) rfl))
theorem dX5_init_26 : decode cX5_init 26 = .ok (.bipush 16, 2) := of_decide_eq_true (List.all_eq_true.mp dsX5_init_0_ok (26, (.bipush 16, 2)) (List.mem_of_getElem? (i := 14) rfl))
theorem dX5_init_28 : decode cX5_init 28 = .ok (.newarray .int, 2) := of_decide_eq_true (List.all_eq_true.mp dsX5_init_0_ok (28, (.newarray .int, 2)) (List.mem_of_getElem? (i := 15) rfl))
theorem dX5_init_30 : decode cX5_init 30 = .ok (.putfield 22, 3) := of_decide_eq_true (List.all_eq_true.mp dsX5_init_0_ok (30, (.putfield 22, 3)) (List.mem_of_getElem? (i := 16) rfl))
theorem dX5_init_33 : decode cX5_init 33 = .ok (.return_, 1) := of_decide_eq_true (List.all_eq_true.mp dsX5_init_0_ok (33, (.return_, 1)) (List.mem_of_getElem? (i := 17) rfl))
set_option maxHeartbeats 4000000 in
set_option maxRecDepth 100000 in
theorem kX5_init (l : Launch) (dC : Nat → ClassId) (dI : Nat → Nat → Nat) (cI cB cJ cZ cM : ClassId) (z : Nat) (ad : Nat → Nat) (a_p0 : Nat) : xq_CtA l yX5_init wsX5_init { frames := 1, cells := 3, slots := 48, locals := 20 } (dC, dI) vwCl (xq_tys cI cB cJ cZ cM) z ad [.ref a_p0] [(a_p0, .inr (5, [.int 0, .null, .null, .null]))] (fun q => [(a_p0, .inr (5, oX5 (fun _ => 0) (q 0))), ((q 0 1), .inl (cI, 16, .inl (fun _ => 0))), ((q 0 2), .inl (cI, 16, .inl (fun _ => 0))), ((q 0 3), .inl (cI, 16, .inl (fun _ => 0)))]) (fun _ => none) 3 48 := by
  intro sz
  refine Met.ofW (cc := cX5_init) (maxL := 1) (ret := none) (by decide) rfl ?_
  intro p e s m args below meth c s₁ B hml hv
  obtain ⟨rfl, hsz, hP, hK, hD0, hE, hz⟩ := hv
  have hx := B.exec
  have hb := B.bytes
  have hr := B.returns
  have hts := atoms_spec (ws := wsX5_init) B.pre
  have hown : s.vm.findClass RX5 = some m.cls := findClass_of_methodNamed B.named
  have hlocks := B.notSynchronized
  have hin : meth.name = "<init>" := (name_of_methodNamed B.named B.method).1
  subst hsz
  have hD := hD0.self (sz := s.heap.size)
  have hN := xq_Env.of hE hz hD0
  generalize hAe : va_A [(a_p0, .inr (5, [.int 0, .null, .null, .null]))] s.heap.size = A at hD hN ⊢
  have hA : ∀ q : Nat, s.heap.size ≤ q → A q := fun q h => by rw [← hAe]; exact Or.inr h
  clear hAe hD0
  have hS : va_S A s.heap s.heap [] := va_S.rf
  have hl := lv_entry ([.ref a_p0]) (n := 1) (Nat.le_of_ble_eq_true rfl)
  rw [lg_entry_eq]
  generalize (lg_sl ([.ref a_p0]) ++ List.replicate (1 - (lg_sl ([.ref a_p0])).length) Slot.unset).toArray = ls at hl ⊢
  have hl : lv_has ls 1 [(0, .ref a_p0)] := hl
  have hw0 := hts (.methodLink RX5 3 objectInit) (by decide +kernel)
  have hw1 := hts (.instanceMethod objectInit) (by decide +kernel)
  have hw2 := hts (.code objectInit ⟨#[0xb1]⟩ 1 none) (by decide +kernel)
  have hw3 := hts (.fieldLink RX5 9 "DistantVoice$Marks" "count" "I") (by decide +kernel)
  have hinX5 : ∀ w ∈ wsX50, w ∈ wsX5_init := fun w h => List.mem_cons_of_mem _ (List.mem_append_right _ h)
  have hw5 := hts (.arrayClass .int) (by decide +kernel)
  have hw6 := hts (.fieldLink RX5 15 "DistantVoice$Marks" "nightsAhead" "[I") (by decide +kernel)
  have hw7 := hts (.fieldLink RX5 19 "DistantVoice$Marks" "ears" "[I") (by decide +kernel)
  have hw8 := hts (.fieldLink RX5 22 "DistantVoice$Marks" "hearing" "[I") (by decide +kernel)
  refine lv_aload_n hx hb dX5_init_0 rfl (lv_at hl 0 rfl) ?_
  refine W.objInit hx hb hown hw0 hw1 hw2 rfl (by rw [hml]; exact hl.1) rfl dX5_init_1 (Nat.le_of_ble_eq_true rfl) (Nat.le_of_ble_eq_true rfl) ?_
  refine W.eq (g2 := F0 m 4 ls []) rfl ?_
  refine lv_aload_n hx hb dX5_init_4 rfl (lv_at hl 0 rfl) ?_
  refine lv_iconst (v := 0) hx hb dX5_init_5 (by decide) ?_
  refine va_put (D := (dC, dI)) (ci := 5) (v := .int 0) (ty := .int) (C := RX5) (T := TX5) (N := 4) hx hb hts hinX5 tyX5 tyX5_ok nmX5 hown hK hP hD hS 0 rfl rfl 0 (by decide) hw3 (fun _ h9 => h9) rfl (by decide +kernel) rfl rfl (Nat.le_of_ble_eq_true rfl) dX5_init_6 (fun H locs hP hD hS => ?_)
  have hP : va_P (dC, dI) vwCl [(a_p0, .inr (5, [.int 0, .null, .null, .null]))] H := hP
  have hD : va_D A [(a_p0, .inr (5, [.int 0, .null, .null, .null]))] := hD
  refine lv_aload_n hx hb dX5_init_9 rfl (lv_at hl 0 rfl) ?_
  refine lv_bipush (v := 16) hx hb dX5_init_10 (by decide) ?_
  refine xq_newa (atype := .int) (ty := .int) (a0 := (16, .inl (fun _ => 0))) hx hb hw5 rfl hK 0 rfl (fun _ => rfl) hP hD hS hA (fun _ => rfl) (by decide) (by decide) (Nat.le_of_ble_eq_true rfl) (Nat.le_of_ble_eq_true rfl) (Nat.le_of_ble_eq_true rfl) dX5_init_12 (fun q_1 H hP hD hS => ?_)
  have hP : va_P (dC, dI) vwCl [(a_p0, .inr (5, [.int 0, .null, .null, .null])), (q_1, .inl (cI, 16, .inl (fun _ => 0)))] H := hP
  have hD : va_D A [(a_p0, .inr (5, [.int 0, .null, .null, .null])), (q_1, .inl (cI, 16, .inl (fun _ => 0)))] := hD
  refine W.widen (k := 1) (n := 16) (Nat.le_of_ble_eq_true rfl) (Nat.le_of_ble_eq_true rfl) ?_
  refine va_putF (D := (dC, dI)) (ci := 5) (v := .ref q_1) (ty := .array .int) (C := RX5) (T := TX5) (N := 4) hx hb hts hinX5 tyX5 tyX5_ok nmX5 hown hK hP hD hS 0 rfl rfl 1 (by decide) hw6 (fun _ h9 => h9) rfl hin rfl (by decide +kernel) rfl rfl (Nat.le_of_ble_eq_true rfl) dX5_init_14 (fun H locs hP hD hS => ?_)
  have hP : va_P (dC, dI) vwCl [(a_p0, .inr (5, [.int 0, .ref q_1, .null, .null])), (q_1, .inl (cI, 16, .inl (fun _ => 0)))] H := hP
  have hD : va_D A [(a_p0, .inr (5, [.int 0, .ref q_1, .null, .null])), (q_1, .inl (cI, 16, .inl (fun _ => 0)))] := hD
  refine lv_aload_n hx hb dX5_init_17 rfl (lv_at hl 0 rfl) ?_
  refine lv_bipush (v := 16) hx hb dX5_init_18 (by decide) ?_
  refine xq_newa (atype := .int) (ty := .int) (a0 := (16, .inl (fun _ => 0))) hx hb hw5 rfl hK 0 rfl (fun _ => rfl) hP hD hS hA (fun _ => rfl) (by decide) (by decide) (Nat.le_of_ble_eq_true rfl) (Nat.le_of_ble_eq_true rfl) (Nat.le_of_ble_eq_true rfl) dX5_init_20 (fun q_2 H hP hD hS => ?_)
  have hP : va_P (dC, dI) vwCl [(a_p0, .inr (5, [.int 0, .ref q_1, .null, .null])), (q_1, .inl (cI, 16, .inl (fun _ => 0))), (q_2, .inl (cI, 16, .inl (fun _ => 0)))] H := hP
  have hD : va_D A [(a_p0, .inr (5, [.int 0, .ref q_1, .null, .null])), (q_1, .inl (cI, 16, .inl (fun _ => 0))), (q_2, .inl (cI, 16, .inl (fun _ => 0)))] := hD
  refine W.widen (k := 2) (n := 32) (Nat.le_of_ble_eq_true rfl) (Nat.le_of_ble_eq_true rfl) ?_
  refine va_putF (D := (dC, dI)) (ci := 5) (v := .ref q_2) (ty := .array .int) (C := RX5) (T := TX5) (N := 4) hx hb hts hinX5 tyX5 tyX5_ok nmX5 hown hK hP hD hS 0 rfl rfl 2 (by decide) hw7 (fun _ h9 => h9) rfl hin rfl (by decide +kernel) rfl rfl (Nat.le_of_ble_eq_true rfl) dX5_init_22 (fun H locs hP hD hS => ?_)
  have hP : va_P (dC, dI) vwCl [(a_p0, .inr (5, [.int 0, .ref q_1, .ref q_2, .null])), (q_1, .inl (cI, 16, .inl (fun _ => 0))), (q_2, .inl (cI, 16, .inl (fun _ => 0)))] H := hP
  have hD : va_D A [(a_p0, .inr (5, [.int 0, .ref q_1, .ref q_2, .null])), (q_1, .inl (cI, 16, .inl (fun _ => 0))), (q_2, .inl (cI, 16, .inl (fun _ => 0)))] := hD
  refine lv_aload_n hx hb dX5_init_25 rfl (lv_at hl 0 rfl) ?_
  refine lv_bipush (v := 16) hx hb dX5_init_26 (by decide) ?_
  refine xq_newa (atype := .int) (ty := .int) (a0 := (16, .inl (fun _ => 0))) hx hb hw5 rfl hK 0 rfl (fun _ => rfl) hP hD hS hA (fun _ => rfl) (by decide) (by decide) (Nat.le_of_ble_eq_true rfl) (Nat.le_of_ble_eq_true rfl) (Nat.le_of_ble_eq_true rfl) dX5_init_28 (fun q_3 H hP hD hS => ?_)
  have hP : va_P (dC, dI) vwCl [(a_p0, .inr (5, [.int 0, .ref q_1, .ref q_2, .null])), (q_1, .inl (cI, 16, .inl (fun _ => 0))), (q_2, .inl (cI, 16, .inl (fun _ => 0))), (q_3, .inl (cI, 16, .inl (fun _ => 0)))] H := hP
  have hD : va_D A [(a_p0, .inr (5, [.int 0, .ref q_1, .ref q_2, .null])), (q_1, .inl (cI, 16, .inl (fun _ => 0))), (q_2, .inl (cI, 16, .inl (fun _ => 0))), (q_3, .inl (cI, 16, .inl (fun _ => 0)))] := hD
  refine W.widen (k := 3) (n := 48) (Nat.le_of_ble_eq_true rfl) (Nat.le_of_ble_eq_true rfl) ?_
  refine va_putF (D := (dC, dI)) (ci := 5) (v := .ref q_3) (ty := .array .int) (C := RX5) (T := TX5) (N := 4) hx hb hts hinX5 tyX5 tyX5_ok nmX5 hown hK hP hD hS 0 rfl rfl 3 (by decide) hw8 (fun _ h9 => h9) rfl hin rfl (by decide +kernel) rfl rfl (Nat.le_of_ble_eq_true rfl) dX5_init_30 (fun H locs hP hD hS => ?_)
  have hP : va_P (dC, dI) vwCl [(a_p0, .inr (5, [.int 0, .ref q_1, .ref q_2, .ref q_3])), (q_1, .inl (cI, 16, .inl (fun _ => 0))), (q_2, .inl (cI, 16, .inl (fun _ => 0))), (q_3, .inl (cI, 16, .inl (fun _ => 0)))] H := hP
  have hD : va_D A [(a_p0, .inr (5, [.int 0, .ref q_1, .ref q_2, .ref q_3])), (q_1, .inl (cI, 16, .inl (fun _ => 0))), (q_2, .inl (cI, 16, .inl (fun _ => 0))), (q_3, .inl (cI, 16, .inl (fun _ => 0)))] := hD
  exact xq_vretA (va_up (fun _ _ => 0) 0 (va_up (va_up (va_up (fun _ => 0) 1 q_1) 2 q_2) 3 q_3)) rfl hx hb hr hlocks hK (hP.sub [0, 1, 2, 3] rfl) (hD.sub [0, 1, 2, 3] (by decide) rfl) hS dX5_init_33
def dsX8_init_0 : List (Nat × Instr × Nat) := [(0, (.aload_n 0, 1)), (1, (.invokespecial 3, 3)), (4, (.aload_n 0, 1)), (5, (.bipush 70, 2)), (7, (.newarray .int, 2)), (9, (.putfield 9, 3)), (12, (.aload_n 0, 1)), (13, (.sipush 1024, 3)), (16, (.newarray .int, 2)), (18, (.putfield 15, 3)), (21, (.aload_n 0, 1)), (22, (.bipush 7, 2)), (24, (.newarray .int, 2)), (26, (.putfield 18, 3)), (29, (.return_, 1))]
theorem dsX8_init_0_ok : (dsX8_init_0.all fun q => decide (decode cX8_init q.1 = .ok q.2)) = true := by decide +kernel
theorem dX8_init_0 : decode cX8_init 0 = .ok (.aload_n 0, 1) := of_decide_eq_true (List.all_eq_true.mp dsX8_init_0_ok (0, (.aload_n 0, 1)) (List.mem_of_getElem? (i := 0) rfl))
theorem dX8_init_1 : decode cX8_init 1 = .ok (.invokespecial 3, 3) := of_decide_eq_true (List.all_eq_true.mp dsX8_init_0_ok (1, (.invokespecial 3, 3)) (List.mem_of_getElem? (i := 1) rfl))
theorem dX8_init_4 : decode cX8_init 4 = .ok (.aload_n 0, 1) := of_decide_eq_true (List.all_eq_true.mp dsX8_init_0_ok (4, (.aload_n 0, 1)) (List.mem_of_getElem? (i := 2) rfl))
theorem dX8_init_5 : decode cX8_init 5 = .ok (.bipush 70, 2) := of_decide_eq_true (List.all_eq_true.mp dsX8_init_0_ok (5, (.bipush 70, 2)) (List.mem_of_getElem? (i := 3) rfl))
theorem dX8_init_7 : decode cX8_init 7 = .ok (.newarray .int, 2) := of_decide_eq_true (List.all_eq_true.mp dsX8_init_0_ok (7, (.newarray .int, 2)) (List.mem_of_getElem? (i := 4) rfl))
theorem dX8_init_9 : decode cX8_init 9 = .ok (.putfield 9, 3) := of_decide_eq_true (List.all_eq_true.mp dsX8_init_0_ok (9, (.putfield 9, 3)) (List.mem_of_getElem? (i := 5) rfl))
theorem dX8_init_12 : decode cX8_init 12 = .ok (.aload_n 0, 1) := of_decide_eq_true (List.all_eq_true.mp dsX8_init_0_ok (12, (.aload_n 0, 1)) (List.mem_of_getElem? (i := 6) rfl))
theorem dX8_init_13 : decode cX8_init 13 = .ok (.sipush 1024, 3) := of_decide_eq_true (List.all_eq_true.mp dsX8_init_0_ok (13, (.sipush 1024, 3)) (List.mem_of_getElem? (i := 7) rfl))
theorem dX8_init_16 : decode cX8_init 16 = .ok (.newarray .int, 2) := of_decide_eq_true (List.all_eq_true.mp dsX8_init_0_ok (16, (.newarray .int, 2)) (List.mem_of_getElem? (i := 8) rfl))
theorem dX8_init_18 : decode cX8_init 18 = .ok (.putfield 15, 3) := of_decide_eq_true (List.all_eq_true.mp dsX8_init_0_ok (18, (.putfield 15, 3)) (List.mem_of_getElem? (i := 9) rfl))
theorem dX8_init_21 : decode cX8_init 21 = .ok (.aload_n 0, 1) := of_decide_eq_true (List.all_eq_true.mp dsX8_init_0_ok (21, (.aload_n 0, 1)) (List.mem_of_getElem? (i := 10) rfl))
theorem dX8_init_22 : decode cX8_init 22 = .ok (.bipush 7, 2) := of_decide_eq_true (List.all_eq_true.mp dsX8_init_0_ok (22, (.bipush 7, 2)) (List.mem_of_getElem? (i := 11) rfl))
theorem dX8_init_24 : decode cX8_init 24 = .ok (.newarray .int, 2) := of_decide_eq_true (List.all_eq_true.mp dsX8_init_0_ok (24, (.newarray .int, 2)) (List.mem_of_getElem? (i := 12) rfl))
theorem dX8_init_26 : decode cX8_init 26 = .ok (.putfield 18, 3) := of_decide_eq_true (List.all_eq_true.mp dsX8_init_0_ok (26, (.putfield 18, 3)) (List.mem_of_getElem? (i := 13) rfl))
theorem dX8_init_29 : decode cX8_init 29 = .ok (.return_, 1) := of_decide_eq_true (List.all_eq_true.mp dsX8_init_0_ok (29, (.return_, 1)) (List.mem_of_getElem? (i := 14) rfl))
set_option maxHeartbeats 4000000 in
set_option maxRecDepth 100000 in
theorem kX8_init (l : Launch) (dC : Nat → ClassId) (dI : Nat → Nat → Nat) (cI cB cJ cZ cM : ClassId) (z : Nat) (ad : Nat → Nat) (a_p0 : Nat) : xq_CtA l yX8_init wsX8_init { frames := 1, cells := 3, slots := 1101, locals := 20 } (dC, dI) vwCl (xq_tys cI cB cJ cZ cM) z ad [.ref a_p0] [(a_p0, .inr (8, [.null, .null, .null]))] (fun q => [(a_p0, .inr (8, oX8 (fun _ => 0) (q 0))), ((q 0 0), .inl (cI, 70, .inl (fun _ => 0))), ((q 0 1), .inl (cI, 1024, .inl (fun _ => 0))), ((q 0 2), .inl (cI, 7, .inl (fun _ => 0)))]) (fun _ => none) 3 1101 := by
  intro sz
  refine Met.ofW (cc := cX8_init) (maxL := 1) (ret := none) (by decide) rfl ?_
  intro p e s m args below meth c s₁ B hml hv
  obtain ⟨rfl, hsz, hP, hK, hD0, hE, hz⟩ := hv
  have hx := B.exec
  have hb := B.bytes
  have hr := B.returns
  have hts := atoms_spec (ws := wsX8_init) B.pre
  have hown : s.vm.findClass RX8 = some m.cls := findClass_of_methodNamed B.named
  have hlocks := B.notSynchronized
  have hin : meth.name = "<init>" := (name_of_methodNamed B.named B.method).1
  subst hsz
  have hD := hD0.self (sz := s.heap.size)
  have hN := xq_Env.of hE hz hD0
  generalize hAe : va_A [(a_p0, .inr (8, [.null, .null, .null]))] s.heap.size = A at hD hN ⊢
  have hA : ∀ q : Nat, s.heap.size ≤ q → A q := fun q h => by rw [← hAe]; exact Or.inr h
  clear hAe hD0
  have hS : va_S A s.heap s.heap [] := va_S.rf
  have hl := lv_entry ([.ref a_p0]) (n := 1) (Nat.le_of_ble_eq_true rfl)
  rw [lg_entry_eq]
  generalize (lg_sl ([.ref a_p0]) ++ List.replicate (1 - (lg_sl ([.ref a_p0])).length) Slot.unset).toArray = ls at hl ⊢
  have hl : lv_has ls 1 [(0, .ref a_p0)] := hl
  have hw0 := hts (.methodLink RX8 3 objectInit) (by decide +kernel)
  have hw1 := hts (.instanceMethod objectInit) (by decide +kernel)
  have hw2 := hts (.code objectInit ⟨#[0xb1]⟩ 1 none) (by decide +kernel)
  have hw3 := hts (.arrayClass .int) (by decide +kernel)
  have hw4 := hts (.fieldLink RX8 9 "DistantVoice$Seating" "gains" "[I") (by decide +kernel)
  have hinX8 : ∀ w ∈ wsX80, w ∈ wsX8_init := fun w h => List.mem_cons_of_mem _ (List.mem_append_right _ h)
  have hw6 := hts (.fieldLink RX8 15 "DistantVoice$Seating" "best" "[I") (by decide +kernel)
  have hw7 := hts (.fieldLink RX8 18 "DistantVoice$Seating" "rows" "[I") (by decide +kernel)
  refine lv_aload_n hx hb dX8_init_0 rfl (lv_at hl 0 rfl) ?_
  refine W.objInit hx hb hown hw0 hw1 hw2 rfl (by rw [hml]; exact hl.1) rfl dX8_init_1 (Nat.le_of_ble_eq_true rfl) (Nat.le_of_ble_eq_true rfl) ?_
  refine W.eq (g2 := F0 m 4 ls []) rfl ?_
  refine lv_aload_n hx hb dX8_init_4 rfl (lv_at hl 0 rfl) ?_
  refine lv_bipush (v := 70) hx hb dX8_init_5 (by decide) ?_
  refine xq_newa (atype := .int) (ty := .int) (a0 := (70, .inl (fun _ => 0))) hx hb hw3 rfl hK 0 rfl (fun _ => rfl) hP hD hS hA (fun _ => rfl) (by decide) (by decide) (Nat.le_of_ble_eq_true rfl) (Nat.le_of_ble_eq_true rfl) (Nat.le_of_ble_eq_true rfl) dX8_init_7 (fun q_1 H hP hD hS => ?_)
  have hP : va_P (dC, dI) vwCl [(a_p0, .inr (8, [.null, .null, .null])), (q_1, .inl (cI, 70, .inl (fun _ => 0)))] H := hP
  have hD : va_D A [(a_p0, .inr (8, [.null, .null, .null])), (q_1, .inl (cI, 70, .inl (fun _ => 0)))] := hD
  refine W.widen (k := 1) (n := 70) (Nat.le_of_ble_eq_true rfl) (Nat.le_of_ble_eq_true rfl) ?_
  refine va_putF (D := (dC, dI)) (ci := 8) (v := .ref q_1) (ty := .array .int) (C := RX8) (T := TX8) (N := 3) hx hb hts hinX8 tyX8 tyX8_ok nmX8 hown hK hP hD hS 0 rfl rfl 0 (by decide) hw4 (fun _ h9 => h9) rfl hin rfl (by decide +kernel) rfl rfl (Nat.le_of_ble_eq_true rfl) dX8_init_9 (fun H locs hP hD hS => ?_)
  have hP : va_P (dC, dI) vwCl [(a_p0, .inr (8, [.ref q_1, .null, .null])), (q_1, .inl (cI, 70, .inl (fun _ => 0)))] H := hP
  have hD : va_D A [(a_p0, .inr (8, [.ref q_1, .null, .null])), (q_1, .inl (cI, 70, .inl (fun _ => 0)))] := hD
  refine lv_aload_n hx hb dX8_init_12 rfl (lv_at hl 0 rfl) ?_
  refine lv_sipush (v := 1024) hx hb dX8_init_13 (by decide) ?_
  refine xq_newa (atype := .int) (ty := .int) (a0 := (1024, .inl (fun _ => 0))) hx hb hw3 rfl hK 0 rfl (fun _ => rfl) hP hD hS hA (fun _ => rfl) (by decide) (by decide) (Nat.le_of_ble_eq_true rfl) (Nat.le_of_ble_eq_true rfl) (Nat.le_of_ble_eq_true rfl) dX8_init_16 (fun q_2 H hP hD hS => ?_)
  have hP : va_P (dC, dI) vwCl [(a_p0, .inr (8, [.ref q_1, .null, .null])), (q_1, .inl (cI, 70, .inl (fun _ => 0))), (q_2, .inl (cI, 1024, .inl (fun _ => 0)))] H := hP
  have hD : va_D A [(a_p0, .inr (8, [.ref q_1, .null, .null])), (q_1, .inl (cI, 70, .inl (fun _ => 0))), (q_2, .inl (cI, 1024, .inl (fun _ => 0)))] := hD
  refine W.widen (k := 2) (n := 1094) (Nat.le_of_ble_eq_true rfl) (Nat.le_of_ble_eq_true rfl) ?_
  refine va_putF (D := (dC, dI)) (ci := 8) (v := .ref q_2) (ty := .array .int) (C := RX8) (T := TX8) (N := 3) hx hb hts hinX8 tyX8 tyX8_ok nmX8 hown hK hP hD hS 0 rfl rfl 1 (by decide) hw6 (fun _ h9 => h9) rfl hin rfl (by decide +kernel) rfl rfl (Nat.le_of_ble_eq_true rfl) dX8_init_18 (fun H locs hP hD hS => ?_)
  have hP : va_P (dC, dI) vwCl [(a_p0, .inr (8, [.ref q_1, .ref q_2, .null])), (q_1, .inl (cI, 70, .inl (fun _ => 0))), (q_2, .inl (cI, 1024, .inl (fun _ => 0)))] H := hP
  have hD : va_D A [(a_p0, .inr (8, [.ref q_1, .ref q_2, .null])), (q_1, .inl (cI, 70, .inl (fun _ => 0))), (q_2, .inl (cI, 1024, .inl (fun _ => 0)))] := hD
  refine lv_aload_n hx hb dX8_init_21 rfl (lv_at hl 0 rfl) ?_
  refine lv_bipush (v := 7) hx hb dX8_init_22 (by decide) ?_
  refine xq_newa (atype := .int) (ty := .int) (a0 := (7, .inl (fun _ => 0))) hx hb hw3 rfl hK 0 rfl (fun _ => rfl) hP hD hS hA (fun _ => rfl) (by decide) (by decide) (Nat.le_of_ble_eq_true rfl) (Nat.le_of_ble_eq_true rfl) (Nat.le_of_ble_eq_true rfl) dX8_init_24 (fun q_3 H hP hD hS => ?_)
  have hP : va_P (dC, dI) vwCl [(a_p0, .inr (8, [.ref q_1, .ref q_2, .null])), (q_1, .inl (cI, 70, .inl (fun _ => 0))), (q_2, .inl (cI, 1024, .inl (fun _ => 0))), (q_3, .inl (cI, 7, .inl (fun _ => 0)))] H := hP
  have hD : va_D A [(a_p0, .inr (8, [.ref q_1, .ref q_2, .null])), (q_1, .inl (cI, 70, .inl (fun _ => 0))), (q_2, .inl (cI, 1024, .inl (fun _ => 0))), (q_3, .inl (cI, 7, .inl (fun _ => 0)))] := hD
  refine W.widen (k := 3) (n := 1101) (Nat.le_of_ble_eq_true rfl) (Nat.le_of_ble_eq_true rfl) ?_
  refine va_putF (D := (dC, dI)) (ci := 8) (v := .ref q_3) (ty := .array .int) (C := RX8) (T := TX8) (N := 3) hx hb hts hinX8 tyX8 tyX8_ok nmX8 hown hK hP hD hS 0 rfl rfl 2 (by decide) hw7 (fun _ h9 => h9) rfl hin rfl (by decide +kernel) rfl rfl (Nat.le_of_ble_eq_true rfl) dX8_init_26 (fun H locs hP hD hS => ?_)
  have hP : va_P (dC, dI) vwCl [(a_p0, .inr (8, [.ref q_1, .ref q_2, .ref q_3])), (q_1, .inl (cI, 70, .inl (fun _ => 0))), (q_2, .inl (cI, 1024, .inl (fun _ => 0))), (q_3, .inl (cI, 7, .inl (fun _ => 0)))] H := hP
  have hD : va_D A [(a_p0, .inr (8, [.ref q_1, .ref q_2, .ref q_3])), (q_1, .inl (cI, 70, .inl (fun _ => 0))), (q_2, .inl (cI, 1024, .inl (fun _ => 0))), (q_3, .inl (cI, 7, .inl (fun _ => 0)))] := hD
  exact xq_vretA (va_up (fun _ _ => 0) 0 (va_up (va_up (va_up (fun _ => 0) 0 q_1) 1 q_2) 2 q_3)) rfl hx hb hr hlocks hK (hP.sub [0, 1, 2, 3] rfl) (hD.sub [0, 1, 2, 3] (by decide) rfl) hS dX8_init_29
def dsX4_init_0 : List (Nat × Instr × Nat) := [(0, (.aload_n 0, 1)), (1, (.invokespecial 3, 3)), (4, (.aload_n 0, 1)), (5, (.bipush 22, 2)), (7, (.newarray .int, 2)), (9, (.putfield 9, 3)), (12, (.aload_n 0, 1)), (13, (.iconst 0, 1)), (14, (.putfield 15, 3)), (17, (.return_, 1))]
theorem dsX4_init_0_ok : (dsX4_init_0.all fun q => decide (decode cX4_init q.1 = .ok q.2)) = true := by decide +kernel
theorem dX4_init_0 : decode cX4_init 0 = .ok (.aload_n 0, 1) := of_decide_eq_true (List.all_eq_true.mp dsX4_init_0_ok (0, (.aload_n 0, 1)) (List.mem_of_getElem? (i := 0) rfl))
theorem dX4_init_1 : decode cX4_init 1 = .ok (.invokespecial 3, 3) := of_decide_eq_true (List.all_eq_true.mp dsX4_init_0_ok (1, (.invokespecial 3, 3)) (List.mem_of_getElem? (i := 1) rfl))
theorem dX4_init_4 : decode cX4_init 4 = .ok (.aload_n 0, 1) := of_decide_eq_true (List.all_eq_true.mp dsX4_init_0_ok (4, (.aload_n 0, 1)) (List.mem_of_getElem? (i := 2) rfl))
theorem dX4_init_5 : decode cX4_init 5 = .ok (.bipush 22, 2) := of_decide_eq_true (List.all_eq_true.mp dsX4_init_0_ok (5, (.bipush 22, 2)) (List.mem_of_getElem? (i := 3) rfl))
theorem dX4_init_7 : decode cX4_init 7 = .ok (.newarray .int, 2) := of_decide_eq_true (List.all_eq_true.mp dsX4_init_0_ok (7, (.newarray .int, 2)) (List.mem_of_getElem? (i := 4) rfl))
theorem dX4_init_9 : decode cX4_init 9 = .ok (.putfield 9, 3) := of_decide_eq_true (List.all_eq_true.mp dsX4_init_0_ok (9, (.putfield 9, 3)) (List.mem_of_getElem? (i := 5) rfl))
theorem dX4_init_12 : decode cX4_init 12 = .ok (.aload_n 0, 1) := of_decide_eq_true (List.all_eq_true.mp dsX4_init_0_ok (12, (.aload_n 0, 1)) (List.mem_of_getElem? (i := 6) rfl))
theorem dX4_init_13 : decode cX4_init 13 = .ok (.iconst 0, 1) := of_decide_eq_true (List.all_eq_true.mp dsX4_init_0_ok (13, (.iconst 0, 1)) (List.mem_of_getElem? (i := 7) rfl))
theorem dX4_init_14 : decode cX4_init 14 = .ok (.putfield 15, 3) := of_decide_eq_true (List.all_eq_true.mp dsX4_init_0_ok (14, (.putfield 15, 3)) (List.mem_of_getElem? (i := 8) rfl))
theorem dX4_init_17 : decode cX4_init 17 = .ok (.return_, 1) := of_decide_eq_true (List.all_eq_true.mp dsX4_init_0_ok (17, (.return_, 1)) (List.mem_of_getElem? (i := 9) rfl))
set_option maxHeartbeats 4000000 in
set_option maxRecDepth 100000 in
theorem kX4_init (l : Launch) (dC : Nat → ClassId) (dI : Nat → Nat → Nat) (cI cB cJ cZ cM : ClassId) (z : Nat) (ad : Nat → Nat) (a_p0 : Nat) : xq_CtA l yX4_init wsX4_init { frames := 1, cells := 1, slots := 22, locals := 20 } (dC, dI) vwCl (xq_tys cI cB cJ cZ cM) z ad [.ref a_p0] [(a_p0, .inr (4, [.null, .int 0]))] (fun q => [(a_p0, .inr (4, oX4 (fun _ => 0) (q 0))), ((q 0 0), .inl (cI, 22, .inl (fun _ => 0)))]) (fun _ => none) 1 22 := by
  intro sz
  refine Met.ofW (cc := cX4_init) (maxL := 1) (ret := none) (by decide) rfl ?_
  intro p e s m args below meth c s₁ B hml hv
  obtain ⟨rfl, hsz, hP, hK, hD0, hE, hz⟩ := hv
  have hx := B.exec
  have hb := B.bytes
  have hr := B.returns
  have hts := atoms_spec (ws := wsX4_init) B.pre
  have hown : s.vm.findClass RX4 = some m.cls := findClass_of_methodNamed B.named
  have hlocks := B.notSynchronized
  have hin : meth.name = "<init>" := (name_of_methodNamed B.named B.method).1
  subst hsz
  have hD := hD0.self (sz := s.heap.size)
  have hN := xq_Env.of hE hz hD0
  generalize hAe : va_A [(a_p0, .inr (4, [.null, .int 0]))] s.heap.size = A at hD hN ⊢
  have hA : ∀ q : Nat, s.heap.size ≤ q → A q := fun q h => by rw [← hAe]; exact Or.inr h
  clear hAe hD0
  have hS : va_S A s.heap s.heap [] := va_S.rf
  have hl := lv_entry ([.ref a_p0]) (n := 1) (Nat.le_of_ble_eq_true rfl)
  rw [lg_entry_eq]
  generalize (lg_sl ([.ref a_p0]) ++ List.replicate (1 - (lg_sl ([.ref a_p0])).length) Slot.unset).toArray = ls at hl ⊢
  have hl : lv_has ls 1 [(0, .ref a_p0)] := hl
  have hw0 := hts (.methodLink RX4 3 objectInit) (by decide +kernel)
  have hw1 := hts (.instanceMethod objectInit) (by decide +kernel)
  have hw2 := hts (.code objectInit ⟨#[0xb1]⟩ 1 none) (by decide +kernel)
  have hw3 := hts (.arrayClass .int) (by decide +kernel)
  have hw4 := hts (.fieldLink RX4 9 "DistantVoice$Image" "bytes" "[I") (by decide +kernel)
  have hinX4 : ∀ w ∈ wsX40, w ∈ wsX4_init := fun w h => List.mem_cons_of_mem _ (List.mem_append_right _ h)
  have hw6 := hts (.fieldLink RX4 15 "DistantVoice$Image" "length" "I") (by decide +kernel)
  refine lv_aload_n hx hb dX4_init_0 rfl (lv_at hl 0 rfl) ?_
  refine W.objInit hx hb hown hw0 hw1 hw2 rfl (by rw [hml]; exact hl.1) rfl dX4_init_1 (Nat.le_of_ble_eq_true rfl) (Nat.le_of_ble_eq_true rfl) ?_
  refine W.eq (g2 := F0 m 4 ls []) rfl ?_
  refine lv_aload_n hx hb dX4_init_4 rfl (lv_at hl 0 rfl) ?_
  refine lv_bipush (v := 22) hx hb dX4_init_5 (by decide) ?_
  refine xq_newa (atype := .int) (ty := .int) (a0 := (22, .inl (fun _ => 0))) hx hb hw3 rfl hK 0 rfl (fun _ => rfl) hP hD hS hA (fun _ => rfl) (by decide) (by decide) (Nat.le_of_ble_eq_true rfl) (Nat.le_of_ble_eq_true rfl) (Nat.le_of_ble_eq_true rfl) dX4_init_7 (fun q_1 H hP hD hS => ?_)
  have hP : va_P (dC, dI) vwCl [(a_p0, .inr (4, [.null, .int 0])), (q_1, .inl (cI, 22, .inl (fun _ => 0)))] H := hP
  have hD : va_D A [(a_p0, .inr (4, [.null, .int 0])), (q_1, .inl (cI, 22, .inl (fun _ => 0)))] := hD
  refine W.widen (k := 1) (n := 22) (Nat.le_of_ble_eq_true rfl) (Nat.le_of_ble_eq_true rfl) ?_
  refine va_putF (D := (dC, dI)) (ci := 4) (v := .ref q_1) (ty := .array .int) (C := RX4) (T := TX4) (N := 2) hx hb hts hinX4 tyX4 tyX4_ok nmX4 hown hK hP hD hS 0 rfl rfl 0 (by decide) hw4 (fun _ h9 => h9) rfl hin rfl (by decide +kernel) rfl rfl (Nat.le_of_ble_eq_true rfl) dX4_init_9 (fun H locs hP hD hS => ?_)
  have hP : va_P (dC, dI) vwCl [(a_p0, .inr (4, [.ref q_1, .int 0])), (q_1, .inl (cI, 22, .inl (fun _ => 0)))] H := hP
  have hD : va_D A [(a_p0, .inr (4, [.ref q_1, .int 0])), (q_1, .inl (cI, 22, .inl (fun _ => 0)))] := hD
  refine lv_aload_n hx hb dX4_init_12 rfl (lv_at hl 0 rfl) ?_
  refine lv_iconst (v := 0) hx hb dX4_init_13 (by decide) ?_
  refine va_put (D := (dC, dI)) (ci := 4) (v := .int 0) (ty := .int) (C := RX4) (T := TX4) (N := 2) hx hb hts hinX4 tyX4 tyX4_ok nmX4 hown hK hP hD hS 0 rfl rfl 1 (by decide) hw6 (fun _ h9 => h9) rfl (by decide +kernel) rfl rfl (Nat.le_of_ble_eq_true rfl) dX4_init_14 (fun H locs hP hD hS => ?_)
  have hP : va_P (dC, dI) vwCl [(a_p0, .inr (4, [.ref q_1, .int 0])), (q_1, .inl (cI, 22, .inl (fun _ => 0)))] H := hP
  have hD : va_D A [(a_p0, .inr (4, [.ref q_1, .int 0])), (q_1, .inl (cI, 22, .inl (fun _ => 0)))] := hD
  exact xq_vretA (va_up (fun _ _ => 0) 0 (va_up (fun _ => 0) 0 q_1)) rfl hx hb hr hlocks hK (hP.sub [0, 1] rfl) (hD.sub [0, 1] (by decide) rfl) hS dX4_init_17
def dsX0_init_0 : List (Nat × Instr × Nat) := [(0, (.aload_n 0, 1)), (1, (.invokespecial 3, 3)), (4, (.aload_n 0, 1)), (5, (.bipush 24, 2)), (7, (.newarray .int, 2)), (9, (.putfield 9, 3)), (12, (.aload_n 0, 1)), (13, (.bipush 64, 2)), (15, (.newarray .int, 2)), (17, (.putfield 15, 3)), (20, (.aload_n 0, 1)), (21, (.aload_n 1, 1)), (22, (.putfield 18, 3)), (25, (.return_, 1))]
theorem dsX0_init_0_ok : (dsX0_init_0.all fun q => decide (decode cX0_init q.1 = .ok q.2)) = true := by decide +kernel
theorem dX0_init_0 : decode cX0_init 0 = .ok (.aload_n 0, 1) := of_decide_eq_true (List.all_eq_true.mp dsX0_init_0_ok (0, (.aload_n 0, 1)) (List.mem_of_getElem? (i := 0) rfl))
theorem dX0_init_1 : decode cX0_init 1 = .ok (.invokespecial 3, 3) := of_decide_eq_true (List.all_eq_true.mp dsX0_init_0_ok (1, (.invokespecial 3, 3)) (List.mem_of_getElem? (i := 1) rfl))
theorem dX0_init_4 : decode cX0_init 4 = .ok (.aload_n 0, 1) := of_decide_eq_true (List.all_eq_true.mp dsX0_init_0_ok (4, (.aload_n 0, 1)) (List.mem_of_getElem? (i := 2) rfl))
theorem dX0_init_5 : decode cX0_init 5 = .ok (.bipush 24, 2) := of_decide_eq_true (List.all_eq_true.mp dsX0_init_0_ok (5, (.bipush 24, 2)) (List.mem_of_getElem? (i := 3) rfl))
theorem dX0_init_7 : decode cX0_init 7 = .ok (.newarray .int, 2) := of_decide_eq_true (List.all_eq_true.mp dsX0_init_0_ok (7, (.newarray .int, 2)) (List.mem_of_getElem? (i := 4) rfl))
theorem dX0_init_9 : decode cX0_init 9 = .ok (.putfield 9, 3) := of_decide_eq_true (List.all_eq_true.mp dsX0_init_0_ok (9, (.putfield 9, 3)) (List.mem_of_getElem? (i := 5) rfl))
theorem dX0_init_12 : decode cX0_init 12 = .ok (.aload_n 0, 1) := of_decide_eq_true (List.all_eq_true.mp dsX0_init_0_ok (12, (.aload_n 0, 1)) (List.mem_of_getElem? (i := 6) rfl))
theorem dX0_init_13 : decode cX0_init 13 = .ok (.bipush 64, 2) := of_decide_eq_true (List.all_eq_true.mp dsX0_init_0_ok (13, (.bipush 64, 2)) (List.mem_of_getElem? (i := 7) rfl))
theorem dX0_init_15 : decode cX0_init 15 = .ok (.newarray .int, 2) := of_decide_eq_true (List.all_eq_true.mp dsX0_init_0_ok (15, (.newarray .int, 2)) (List.mem_of_getElem? (i := 8) rfl))
theorem dX0_init_17 : decode cX0_init 17 = .ok (.putfield 15, 3) := of_decide_eq_true (List.all_eq_true.mp dsX0_init_0_ok (17, (.putfield 15, 3)) (List.mem_of_getElem? (i := 9) rfl))
theorem dX0_init_20 : decode cX0_init 20 = .ok (.aload_n 0, 1) := of_decide_eq_true (List.all_eq_true.mp dsX0_init_0_ok (20, (.aload_n 0, 1)) (List.mem_of_getElem? (i := 10) rfl))
theorem dX0_init_21 : decode cX0_init 21 = .ok (.aload_n 1, 1) := of_decide_eq_true (List.all_eq_true.mp dsX0_init_0_ok (21, (.aload_n 1, 1)) (List.mem_of_getElem? (i := 11) rfl))
theorem dX0_init_22 : decode cX0_init 22 = .ok (.putfield 18, 3) := of_decide_eq_true (List.all_eq_true.mp dsX0_init_0_ok (22, (.putfield 18, 3)) (List.mem_of_getElem? (i := 12) rfl))
theorem dX0_init_25 : decode cX0_init 25 = .ok (.return_, 1) := of_decide_eq_true (List.all_eq_true.mp dsX0_init_0_ok (25, (.return_, 1)) (List.mem_of_getElem? (i := 13) rfl))
set_option maxHeartbeats 4000000 in
set_option maxRecDepth 100000 in
theorem kX0_init (l : Launch) (dC : Nat → ClassId) (dI : Nat → Nat → Nat) (cI cB cJ cZ cM : ClassId) (z : Nat) (ad : Nat → Nat) (a_p0 : Nat) (a_p1 : Nat) : xq_CtA l yX0_init wsX0_init { frames := 1, cells := 2, slots := 88, locals := 20 } (dC, dI) vwCl (xq_tys cI cB cJ cZ cM) z ad [.ref a_p0, .ref a_p1] [(a_p0, .inr (0, [.null, .null, .null]))] (fun q => [(a_p0, .inr (0, oX0 (fun _ => 0) (va_up (q 0) 0 a_p1))), ((q 0 1), .inl (cI, 24, .inl (fun _ => 0))), ((q 0 2), .inl (cI, 64, .inl (fun _ => 0)))]) (fun _ => none) 2 88 := by
  intro sz
  refine Met.ofW (cc := cX0_init) (maxL := 2) (ret := none) (by decide) rfl ?_
  intro p e s m args below meth c s₁ B hml hv
  obtain ⟨rfl, hsz, hP, hK, hD0, hE, hz⟩ := hv
  have hx := B.exec
  have hb := B.bytes
  have hr := B.returns
  have hts := atoms_spec (ws := wsX0_init) B.pre
  have hown : s.vm.findClass RX0 = some m.cls := findClass_of_methodNamed B.named
  have hlocks := B.notSynchronized
  have hin : meth.name = "<init>" := (name_of_methodNamed B.named B.method).1
  subst hsz
  have hD := hD0.self (sz := s.heap.size)
  have hN := xq_Env.of hE hz hD0
  generalize hAe : va_A [(a_p0, .inr (0, [.null, .null, .null]))] s.heap.size = A at hD hN ⊢
  have hA : ∀ q : Nat, s.heap.size ≤ q → A q := fun q h => by rw [← hAe]; exact Or.inr h
  clear hAe hD0
  have hS : va_S A s.heap s.heap [] := va_S.rf
  have hl := lv_entry ([.ref a_p0, .ref a_p1]) (n := 2) (Nat.le_of_ble_eq_true rfl)
  rw [lg_entry_eq]
  generalize (lg_sl ([.ref a_p0, .ref a_p1]) ++ List.replicate (2 - (lg_sl ([.ref a_p0, .ref a_p1])).length) Slot.unset).toArray = ls at hl ⊢
  have hl : lv_has ls 2 [(0, .ref a_p0), (1, .ref a_p1)] := hl
  have hw0 := hts (.methodLink RX0 3 objectInit) (by decide +kernel)
  have hw1 := hts (.instanceMethod objectInit) (by decide +kernel)
  have hw2 := hts (.code objectInit ⟨#[0xb1]⟩ 1 none) (by decide +kernel)
  have hw3 := hts (.arrayClass .int) (by decide +kernel)
  have hw4 := hts (.fieldLink RX0 9 "DistantVoice$Course" "values" "[I") (by decide +kernel)
  have hinX0 : ∀ w ∈ wsX00, w ∈ wsX0_init := fun w h => List.mem_cons_of_mem _ (List.mem_append_right _ h)
  have hw6 := hts (.fieldLink RX0 15 "DistantVoice$Course" "stack" "[I") (by decide +kernel)
  have hw7 := hts (.fieldLink RX0 18 "DistantVoice$Course" "home" "LDistantVoice$House;") (by decide +kernel)
  refine lv_aload_n hx hb dX0_init_0 rfl (lv_at hl 0 rfl) ?_
  refine W.objInit hx hb hown hw0 hw1 hw2 rfl (by rw [hml]; exact hl.1) rfl dX0_init_1 (Nat.le_of_ble_eq_true rfl) (Nat.le_of_ble_eq_true rfl) ?_
  refine W.eq (g2 := F0 m 4 ls []) rfl ?_
  refine lv_aload_n hx hb dX0_init_4 rfl (lv_at hl 0 rfl) ?_
  refine lv_bipush (v := 24) hx hb dX0_init_5 (by decide) ?_
  refine xq_newa (atype := .int) (ty := .int) (a0 := (24, .inl (fun _ => 0))) hx hb hw3 rfl hK 0 rfl (fun _ => rfl) hP hD hS hA (fun _ => rfl) (by decide) (by decide) (Nat.le_of_ble_eq_true rfl) (Nat.le_of_ble_eq_true rfl) (Nat.le_of_ble_eq_true rfl) dX0_init_7 (fun q_1 H hP hD hS => ?_)
  have hP : va_P (dC, dI) vwCl [(a_p0, .inr (0, [.null, .null, .null])), (q_1, .inl (cI, 24, .inl (fun _ => 0)))] H := hP
  have hD : va_D A [(a_p0, .inr (0, [.null, .null, .null])), (q_1, .inl (cI, 24, .inl (fun _ => 0)))] := hD
  refine W.widen (k := 1) (n := 24) (Nat.le_of_ble_eq_true rfl) (Nat.le_of_ble_eq_true rfl) ?_
  refine va_putF (D := (dC, dI)) (ci := 0) (v := .ref q_1) (ty := .array .int) (C := RX0) (T := TX0) (N := 3) hx hb hts hinX0 tyX0 tyX0_ok nmX0 hown hK hP hD hS 0 rfl rfl 1 (by decide) hw4 (fun _ h9 => h9) rfl hin rfl (by decide +kernel) rfl rfl (Nat.le_of_ble_eq_true rfl) dX0_init_9 (fun H locs hP hD hS => ?_)
  have hP : va_P (dC, dI) vwCl [(a_p0, .inr (0, [.null, .ref q_1, .null])), (q_1, .inl (cI, 24, .inl (fun _ => 0)))] H := hP
  have hD : va_D A [(a_p0, .inr (0, [.null, .ref q_1, .null])), (q_1, .inl (cI, 24, .inl (fun _ => 0)))] := hD
  refine lv_aload_n hx hb dX0_init_12 rfl (lv_at hl 0 rfl) ?_
  refine lv_bipush (v := 64) hx hb dX0_init_13 (by decide) ?_
  refine xq_newa (atype := .int) (ty := .int) (a0 := (64, .inl (fun _ => 0))) hx hb hw3 rfl hK 0 rfl (fun _ => rfl) hP hD hS hA (fun _ => rfl) (by decide) (by decide) (Nat.le_of_ble_eq_true rfl) (Nat.le_of_ble_eq_true rfl) (Nat.le_of_ble_eq_true rfl) dX0_init_15 (fun q_2 H hP hD hS => ?_)
  have hP : va_P (dC, dI) vwCl [(a_p0, .inr (0, [.null, .ref q_1, .null])), (q_1, .inl (cI, 24, .inl (fun _ => 0))), (q_2, .inl (cI, 64, .inl (fun _ => 0)))] H := hP
  have hD : va_D A [(a_p0, .inr (0, [.null, .ref q_1, .null])), (q_1, .inl (cI, 24, .inl (fun _ => 0))), (q_2, .inl (cI, 64, .inl (fun _ => 0)))] := hD
  refine W.widen (k := 2) (n := 88) (Nat.le_of_ble_eq_true rfl) (Nat.le_of_ble_eq_true rfl) ?_
  refine va_putF (D := (dC, dI)) (ci := 0) (v := .ref q_2) (ty := .array .int) (C := RX0) (T := TX0) (N := 3) hx hb hts hinX0 tyX0 tyX0_ok nmX0 hown hK hP hD hS 0 rfl rfl 2 (by decide) hw6 (fun _ h9 => h9) rfl hin rfl (by decide +kernel) rfl rfl (Nat.le_of_ble_eq_true rfl) dX0_init_17 (fun H locs hP hD hS => ?_)
  have hP : va_P (dC, dI) vwCl [(a_p0, .inr (0, [.null, .ref q_1, .ref q_2])), (q_1, .inl (cI, 24, .inl (fun _ => 0))), (q_2, .inl (cI, 64, .inl (fun _ => 0)))] H := hP
  have hD : va_D A [(a_p0, .inr (0, [.null, .ref q_1, .ref q_2])), (q_1, .inl (cI, 24, .inl (fun _ => 0))), (q_2, .inl (cI, 64, .inl (fun _ => 0)))] := hD
  refine lv_aload_n hx hb dX0_init_20 rfl (lv_at hl 0 rfl) ?_
  refine lv_aload_n hx hb dX0_init_21 rfl (lv_at hl 1 rfl) ?_
  refine va_put (D := (dC, dI)) (ci := 0) (v := .ref a_p1) (ty := .object "DistantVoice$House") (C := RX0) (T := TX0) (N := 3) hx hb hts hinX0 tyX0 tyX0_ok nmX0 hown hK hP hD hS 0 rfl rfl 0 (by decide) hw7 (fun _ h9 => h9) rfl (by decide +kernel) rfl rfl (Nat.le_of_ble_eq_true rfl) dX0_init_22 (fun H locs hP hD hS => ?_)
  have hP : va_P (dC, dI) vwCl [(a_p0, .inr (0, [.ref a_p1, .ref q_1, .ref q_2])), (q_1, .inl (cI, 24, .inl (fun _ => 0))), (q_2, .inl (cI, 64, .inl (fun _ => 0)))] H := hP
  have hD : va_D A [(a_p0, .inr (0, [.ref a_p1, .ref q_1, .ref q_2])), (q_1, .inl (cI, 24, .inl (fun _ => 0))), (q_2, .inl (cI, 64, .inl (fun _ => 0)))] := hD
  exact xq_vretA (va_up (fun _ _ => 0) 0 (va_up (va_up (fun _ => 0) 1 q_1) 2 q_2)) rfl hx hb hr hlocks hK (hP.sub [0, 1, 2] rfl) (hD.sub [0, 1, 2] (by decide) rfl) hS dX0_init_25
def dsX2_init_0 : List (Nat × Instr × Nat) := [(0, (.aload_n 0, 1)), (1, (.invokespecial 3, 3)), (4, (.aload_n 0, 1)), (5, (.iconst 0, 1)), (6, (.putfield 9, 3)), (9, (.aload_n 0, 1)), (10, (.iconst 0, 1)), (11, (.putfield 15, 3)), (14, (.aload_n 0, 1)), (15, (.iconst 0, 1)), (16, (.putfield 18, 3)), (19, (.aload_n 0, 1)), (20, (.iconst 0, 1)), (21, (.putfield 21, 3)), (24, (.aload_n 0, 1)), (25, (.iconst 0, 1)), (26, (.putfield 24, 3)), (29, (.aload_n 0, 1)), (30, (.iconst 0, 1)), (31, (.putfield 27, 3)), (34, (.aload_n 0, 1)), (35, (.iconst 0, 1)), (36, (.putfield 30, 3)), (39, (.aload_n 0, 1)), (40, (.bipush 7, 2)), (42, (.newarray .int, 2)), (44, (.putfield 33, 3)), (47, (.aload_n 0, 1)), (48, (.bipush 7, 2)), (50, (.newarray .int, 2)), (52, (.putfield 37, 3)), (55, (.aload_n 0, 1)), (56, (.bipush 7, 2)), (58, (.newarray .int, 2)), (60, (.putfield 40, 3)), (63, (.aload_n 0, 1)), (64, (.bipush 6, 2)), (66, (.newarray .int, 2)), (68, (.putfield 43, 3)), (71, (.aload_n 0, 1)), (72, (.bipush 6, 2)), (74, (.newarray .int, 2)), (76, (.putfield 46, 3)), (79, (.aload_n 0, 1)), (80, (.bipush 6, 2)), (82, (.newarray .int, 2)), (84, (.putfield 49, 3)), (87, (.aload_n 0, 1)), (88, (.iconst 1, 1)), (89, (.newarray .int, 2)), (91, (.dup, 1)), (92, (.iconst 0, 1)), (93, (.iconst 1, 1)), (94, (.iastore, 1)), (95, (.putfield 52, 3)), (98, (.aload_n 0, 1)), (99, (.iconst 3, 1)), (100, (.newarray .int, 2)), (102, (.dup, 1)), (103, (.iconst 0, 1))]
theorem dsX2_init_0_ok : (dsX2_init_0.all fun q => decide (decode cX2_init q.1 = .ok q.2)) = true := by decide +kernel
theorem dX2_init_0 : decode cX2_init 0 = .ok (.aload_n 0, 1) := of_decide_eq_true (List.all_eq_true.mp dsX2_init_0_ok (0, (.aload_n 0, 1)) (List.mem_of_getElem? (i := 0) rfl))
theorem dX2_init_1 : decode cX2_init 1 = .ok (.invokespecial 3, 3) := of_decide_eq_true (List.all_eq_true.mp dsX2_init_0_ok (1, (.invokespecial 3, 3)) (List.mem_of_getElem? (i := 1) rfl))
theorem dX2_init_4 : decode cX2_init 4 = .ok (.aload_n 0, 1) := of_decide_eq_true (List.all_eq_true.mp dsX2_init_0_ok (4, (.aload_n 0, 1)) (List.mem_of_getElem? (i := 2) rfl))
theorem dX2_init_5 : decode cX2_init 5 = .ok (.iconst 0, 1) := of_decide_eq_true (List.all_eq_true.mp dsX2_init_0_ok (5, (.iconst 0, 1)) (List.mem_of_getElem? (i := 3) rfl))
theorem dX2_init_6 : decode cX2_init 6 = .ok (.putfield 9, 3) := of_decide_eq_true (List.all_eq_true.mp dsX2_init_0_ok (6, (.putfield 9, 3)) (List.mem_of_getElem? (i := 4) rfl))
theorem dX2_init_9 : decode cX2_init 9 = .ok (.aload_n 0, 1) := of_decide_eq_true (List.all_eq_true.mp dsX2_init_0_ok (9, (.aload_n 0, 1)) (List.mem_of_getElem? (i := 5) rfl))
theorem dX2_init_10 : decode cX2_init 10 = .ok (.iconst 0, 1) := of_decide_eq_true (List.all_eq_true.mp dsX2_init_0_ok (10, (.iconst 0, 1)) (List.mem_of_getElem? (i := 6) rfl))
theorem dX2_init_11 : decode cX2_init 11 = .ok (.putfield 15, 3) := of_decide_eq_true (List.all_eq_true.mp dsX2_init_0_ok (11, (.putfield 15, 3)) (List.mem_of_getElem? (i := 7) rfl))
theorem dX2_init_14 : decode cX2_init 14 = .ok (.aload_n 0, 1) := of_decide_eq_true (List.all_eq_true.mp dsX2_init_0_ok (14, (.aload_n 0, 1)) (List.mem_of_getElem? (i := 8) rfl))
theorem dX2_init_15 : decode cX2_init 15 = .ok (.iconst 0, 1) := of_decide_eq_true (List.all_eq_true.mp dsX2_init_0_ok (15, (.iconst 0, 1)) (List.mem_of_getElem? (i := 9) rfl))
theorem dX2_init_16 : decode cX2_init 16 = .ok (.putfield 18, 3) := of_decide_eq_true (List.all_eq_true.mp dsX2_init_0_ok (16, (.putfield 18, 3)) (List.mem_of_getElem? (i := 10) rfl))
theorem dX2_init_19 : decode cX2_init 19 = .ok (.aload_n 0, 1) := of_decide_eq_true (List.all_eq_true.mp dsX2_init_0_ok (19, (.aload_n 0, 1)) (List.mem_of_getElem? (i := 11) rfl))
theorem dX2_init_20 : decode cX2_init 20 = .ok (.iconst 0, 1) := of_decide_eq_true (List.all_eq_true.mp dsX2_init_0_ok (20, (.iconst 0, 1)) (List.mem_of_getElem? (i := 12) rfl))
theorem dX2_init_21 : decode cX2_init 21 = .ok (.putfield 21, 3) := of_decide_eq_true (List.all_eq_true.mp dsX2_init_0_ok (21, (.putfield 21, 3)) (List.mem_of_getElem? (i := 13) rfl))
theorem dX2_init_24 : decode cX2_init 24 = .ok (.aload_n 0, 1) := of_decide_eq_true (List.all_eq_true.mp dsX2_init_0_ok (24, (.aload_n 0, 1)) (List.mem_of_getElem? (i := 14) rfl))
theorem dX2_init_25 : decode cX2_init 25 = .ok (.iconst 0, 1) := of_decide_eq_true (List.all_eq_true.mp dsX2_init_0_ok (25, (.iconst 0, 1)) (List.mem_of_getElem? (i := 15) rfl))
theorem dX2_init_26 : decode cX2_init 26 = .ok (.putfield 24, 3) := of_decide_eq_true (List.all_eq_true.mp dsX2_init_0_ok (26, (.putfield 24, 3)) (List.mem_of_getElem? (i := 16) rfl))
theorem dX2_init_29 : decode cX2_init 29 = .ok (.aload_n 0, 1) := of_decide_eq_true (List.all_eq_true.mp dsX2_init_0_ok (29, (.aload_n 0, 1)) (List.mem_of_getElem? (i := 17) rfl))
theorem dX2_init_30 : decode cX2_init 30 = .ok (.iconst 0, 1) := of_decide_eq_true (List.all_eq_true.mp dsX2_init_0_ok (30, (.iconst 0, 1)) (List.mem_of_getElem? (i := 18) rfl))
theorem dX2_init_31 : decode cX2_init 31 = .ok (.putfield 27, 3) := of_decide_eq_true (List.all_eq_true.mp dsX2_init_0_ok (31, (.putfield 27, 3)) (List.mem_of_getElem? (i := 19) rfl))
theorem dX2_init_34 : decode cX2_init 34 = .ok (.aload_n 0, 1) := of_decide_eq_true (List.all_eq_true.mp dsX2_init_0_ok (34, (.aload_n 0, 1)) (List.mem_of_getElem? (i := 20) rfl))
theorem dX2_init_35 : decode cX2_init 35 = .ok (.iconst 0, 1) := of_decide_eq_true (List.all_eq_true.mp dsX2_init_0_ok (35, (.iconst 0, 1)) (List.mem_of_getElem? (i := 21) rfl))
theorem dX2_init_36 : decode cX2_init 36 = .ok (.putfield 30, 3) := of_decide_eq_true (List.all_eq_true.mp dsX2_init_0_ok (36, (.putfield 30, 3)) (List.mem_of_getElem? (i := 22) rfl))
theorem dX2_init_39 : decode cX2_init 39 = .ok (.aload_n 0, 1) := of_decide_eq_true (List.all_eq_true.mp dsX2_init_0_ok (39, (.aload_n 0, 1)) (List.mem_of_getElem? (i := 23) rfl))
theorem dX2_init_40 : decode cX2_init 40 = .ok (.bipush 7, 2) := of_decide_eq_true (List.all_eq_true.mp dsX2_init_0_ok (40, (.bipush 7, 2)) (List.mem_of_getElem? (i := 24) rfl))
theorem dX2_init_42 : decode cX2_init 42 = .ok (.newarray .int, 2) := of_decide_eq_true (List.all_eq_true.mp dsX2_init_0_ok (42, (.newarray .int, 2)) (List.mem_of_getElem? (i := 25) rfl))
theorem dX2_init_44 : decode cX2_init 44 = .ok (.putfield 33, 3) := of_decide_eq_true (List.all_eq_true.mp dsX2_init_0_ok (44, (.putfield 33, 3)) (List.mem_of_getElem? (i := 26) rfl))
theorem dX2_init_47 : decode cX2_init 47 = .ok (.aload_n 0, 1) := of_decide_eq_true (List.all_eq_true.mp dsX2_init_0_ok (47, (.aload_n 0, 1)) (List.mem_of_getElem? (i := 27) rfl))
theorem dX2_init_48 : decode cX2_init 48 = .ok (.bipush 7, 2) := of_decide_eq_true (List.all_eq_true.mp dsX2_init_0_ok (48, (.bipush 7, 2)) (List.mem_of_getElem? (i := 28) rfl))
theorem dX2_init_50 : decode cX2_init 50 = .ok (.newarray .int, 2) := of_decide_eq_true (List.all_eq_true.mp dsX2_init_0_ok (50, (.newarray .int, 2)) (List.mem_of_getElem? (i := 29) rfl))
theorem dX2_init_52 : decode cX2_init 52 = .ok (.putfield 37, 3) := of_decide_eq_true (List.all_eq_true.mp dsX2_init_0_ok (52, (.putfield 37, 3)) (List.mem_of_getElem? (i := 30) rfl))
theorem dX2_init_55 : decode cX2_init 55 = .ok (.aload_n 0, 1) := of_decide_eq_true (List.all_eq_true.mp dsX2_init_0_ok (55, (.aload_n 0, 1)) (List.mem_of_getElem? (i := 31) rfl))
theorem dX2_init_56 : decode cX2_init 56 = .ok (.bipush 7, 2) := of_decide_eq_true (List.all_eq_true.mp dsX2_init_0_ok (56, (.bipush 7, 2)) (List.mem_of_getElem? (i := 32) rfl))
theorem dX2_init_58 : decode cX2_init 58 = .ok (.newarray .int, 2) := of_decide_eq_true (List.all_eq_true.mp dsX2_init_0_ok (58, (.newarray .int, 2)) (List.mem_of_getElem? (i := 33) rfl))
theorem dX2_init_60 : decode cX2_init 60 = .ok (.putfield 40, 3) := of_decide_eq_true (List.all_eq_true.mp dsX2_init_0_ok (60, (.putfield 40, 3)) (List.mem_of_getElem? (i := 34) rfl))
theorem dX2_init_63 : decode cX2_init 63 = .ok (.aload_n 0, 1) := of_decide_eq_true (List.all_eq_true.mp dsX2_init_0_ok (63, (.aload_n 0, 1)) (List.mem_of_getElem? (i := 35) rfl))
theorem dX2_init_64 : decode cX2_init 64 = .ok (.bipush 6, 2) := of_decide_eq_true (List.all_eq_true.mp dsX2_init_0_ok (64, (.bipush 6, 2)) (List.mem_of_getElem? (i := 36) rfl))
theorem dX2_init_66 : decode cX2_init 66 = .ok (.newarray .int, 2) := of_decide_eq_true (List.all_eq_true.mp dsX2_init_0_ok (66, (.newarray .int, 2)) (List.mem_of_getElem? (i := 37) rfl))
theorem dX2_init_68 : decode cX2_init 68 = .ok (.putfield 43, 3) := of_decide_eq_true (List.all_eq_true.mp dsX2_init_0_ok (68, (.putfield 43, 3)) (List.mem_of_getElem? (i := 38) rfl))
theorem dX2_init_71 : decode cX2_init 71 = .ok (.aload_n 0, 1) := of_decide_eq_true (List.all_eq_true.mp dsX2_init_0_ok (71, (.aload_n 0, 1)) (List.mem_of_getElem? (i := 39) rfl))
theorem dX2_init_72 : decode cX2_init 72 = .ok (.bipush 6, 2) := of_decide_eq_true (List.all_eq_true.mp dsX2_init_0_ok (72, (.bipush 6, 2)) (List.mem_of_getElem? (i := 40) rfl))
theorem dX2_init_74 : decode cX2_init 74 = .ok (.newarray .int, 2) := of_decide_eq_true (List.all_eq_true.mp dsX2_init_0_ok (74, (.newarray .int, 2)) (List.mem_of_getElem? (i := 41) rfl))
theorem dX2_init_76 : decode cX2_init 76 = .ok (.putfield 46, 3) := of_decide_eq_true (List.all_eq_true.mp dsX2_init_0_ok (76, (.putfield 46, 3)) (List.mem_of_getElem? (i := 42) rfl))
theorem dX2_init_79 : decode cX2_init 79 = .ok (.aload_n 0, 1) := of_decide_eq_true (List.all_eq_true.mp dsX2_init_0_ok (79, (.aload_n 0, 1)) (List.mem_of_getElem? (i := 43) rfl))
theorem dX2_init_80 : decode cX2_init 80 = .ok (.bipush 6, 2) := of_decide_eq_true (List.all_eq_true.mp dsX2_init_0_ok (80, (.bipush 6, 2)) (List.mem_of_getElem? (i := 44) rfl))
theorem dX2_init_82 : decode cX2_init 82 = .ok (.newarray .int, 2) := of_decide_eq_true (List.all_eq_true.mp dsX2_init_0_ok (82, (.newarray .int, 2)) (List.mem_of_getElem? (i := 45) rfl))
theorem dX2_init_84 : decode cX2_init 84 = .ok (.putfield 49, 3) := of_decide_eq_true (List.all_eq_true.mp dsX2_init_0_ok (84, (.putfield 49, 3)) (List.mem_of_getElem? (i := 46) rfl))
theorem dX2_init_87 : decode cX2_init 87 = .ok (.aload_n 0, 1) := of_decide_eq_true (List.all_eq_true.mp dsX2_init_0_ok (87, (.aload_n 0, 1)) (List.mem_of_getElem? (i := 47) rfl))
theorem dX2_init_88 : decode cX2_init 88 = .ok (.iconst 1, 1) := of_decide_eq_true (List.all_eq_true.mp dsX2_init_0_ok (88, (.iconst 1, 1)) (List.mem_of_getElem? (i := 48) rfl))
theorem dX2_init_89 : decode cX2_init 89 = .ok (.newarray .int, 2) := of_decide_eq_true (List.all_eq_true.mp dsX2_init_0_ok (89, (.newarray .int, 2)) (List.mem_of_getElem? (i := 49) rfl))
theorem dX2_init_91 : decode cX2_init 91 = .ok (.dup, 1) := of_decide_eq_true (List.all_eq_true.mp dsX2_init_0_ok (91, (.dup, 1)) (List.mem_of_getElem? (i := 50) rfl))
theorem dX2_init_92 : decode cX2_init 92 = .ok (.iconst 0, 1) := of_decide_eq_true (List.all_eq_true.mp dsX2_init_0_ok (92, (.iconst 0, 1)) (List.mem_of_getElem? (i := 51) rfl))
theorem dX2_init_93 : decode cX2_init 93 = .ok (.iconst 1, 1) := of_decide_eq_true (List.all_eq_true.mp dsX2_init_0_ok (93, (.iconst 1, 1)) (List.mem_of_getElem? (i := 52) rfl))
theorem dX2_init_94 : decode cX2_init 94 = .ok (.iastore, 1) := of_decide_eq_true (List.all_eq_true.mp dsX2_init_0_ok (94, (.iastore, 1)) (List.mem_of_getElem? (i := 53) rfl))
theorem dX2_init_95 : decode cX2_init 95 = .ok (.putfield 52, 3) := of_decide_eq_true (List.all_eq_true.mp dsX2_init_0_ok (95, (.putfield 52, 3)) (List.mem_of_getElem? (i := 54) rfl))
theorem dX2_init_98 : decode cX2_init 98 = .ok (.aload_n 0, 1) := of_decide_eq_true (List.all_eq_true.mp dsX2_init_0_ok (98, (.aload_n 0, 1)) (List.mem_of_getElem? (i := 55) rfl))
theorem dX2_init_99 : decode cX2_init 99 = .ok (.iconst 3, 1) := of_decide_eq_true (List.all_eq_true.mp dsX2_init_0_ok (99, (.iconst 3, 1)) (List.mem_of_getElem? (i := 56) rfl))
theorem dX2_init_100 : decode cX2_init 100 = .ok (.newarray .int, 2) := of_decide_eq_true (List.all_eq_true.mp dsX2_init_0_ok (100, (.newarray .int, 2)) (List.mem_of_getElem? (i := 57) rfl))
theorem dX2_init_102 : decode cX2_init 102 = .ok (.dup, 1) := of_decide_eq_true (List.all_eq_true.mp dsX2_init_0_ok (102, (.dup, 1)) (List.mem_of_getElem? (i := 58) rfl))
theorem dX2_init_103 : decode cX2_init 103 = .ok (.iconst 0, 1) := of_decide_eq_true (List.all_eq_true.mp dsX2_init_0_ok (103, (.iconst 0, 1)) (List.mem_of_getElem? (i := 59) rfl))
def dsX2_init_1 : List (Nat × Instr × Nat) := [(104, (.sipush 10316, 3)), (107, (.iastore, 1)), (108, (.dup, 1)), (109, (.iconst 1, 1)), (110, (.bipush 10, 2)), (112, (.iastore, 1)), (113, (.dup, 1)), (114, (.iconst 2, 1)), (115, (.sipush 20060, 3)), (118, (.iastore, 1)), (119, (.putfield 55, 3)), (122, (.aload_n 0, 1)), (123, (.iconst 1, 1)), (124, (.newarray .int, 2)), (126, (.dup, 1)), (127, (.iconst 0, 1)), (128, (.sipush 10309, 3)), (131, (.iastore, 1)), (132, (.putfield 58, 3)), (135, (.aload_n 0, 1)), (136, (.iconst 0, 1)), (137, (.putfield 61, 3)), (140, (.aload_n 0, 1)), (141, (.iconst 0, 1)), (142, (.putfield 65, 3)), (145, (.aload_n 0, 1)), (146, (.iconst 0, 1)), (147, (.putfield 68, 3)), (150, (.return_, 1))]
theorem dsX2_init_1_ok : (dsX2_init_1.all fun q => decide (decode cX2_init q.1 = .ok q.2)) = true := by decide +kernel
theorem dX2_init_104 : decode cX2_init 104 = .ok (.sipush 10316, 3) := of_decide_eq_true (List.all_eq_true.mp dsX2_init_1_ok (104, (.sipush 10316, 3)) (List.mem_of_getElem? (i := 0) rfl))
theorem dX2_init_107 : decode cX2_init 107 = .ok (.iastore, 1) := of_decide_eq_true (List.all_eq_true.mp dsX2_init_1_ok (107, (.iastore, 1)) (List.mem_of_getElem? (i := 1) rfl))
theorem dX2_init_108 : decode cX2_init 108 = .ok (.dup, 1) := of_decide_eq_true (List.all_eq_true.mp dsX2_init_1_ok (108, (.dup, 1)) (List.mem_of_getElem? (i := 2) rfl))
theorem dX2_init_109 : decode cX2_init 109 = .ok (.iconst 1, 1) := of_decide_eq_true (List.all_eq_true.mp dsX2_init_1_ok (109, (.iconst 1, 1)) (List.mem_of_getElem? (i := 3) rfl))
theorem dX2_init_110 : decode cX2_init 110 = .ok (.bipush 10, 2) := of_decide_eq_true (List.all_eq_true.mp dsX2_init_1_ok (110, (.bipush 10, 2)) (List.mem_of_getElem? (i := 4) rfl))
theorem dX2_init_112 : decode cX2_init 112 = .ok (.iastore, 1) := of_decide_eq_true (List.all_eq_true.mp dsX2_init_1_ok (112, (.iastore, 1)) (List.mem_of_getElem? (i := 5) rfl))
theorem dX2_init_113 : decode cX2_init 113 = .ok (.dup, 1) := of_decide_eq_true (List.all_eq_true.mp dsX2_init_1_ok (113, (.dup, 1)) (List.mem_of_getElem? (i := 6) rfl))
theorem dX2_init_114 : decode cX2_init 114 = .ok (.iconst 2, 1) := of_decide_eq_true (List.all_eq_true.mp dsX2_init_1_ok (114, (.iconst 2, 1)) (List.mem_of_getElem? (i := 7) rfl))
theorem dX2_init_115 : decode cX2_init 115 = .ok (.sipush 20060, 3) := of_decide_eq_true (List.all_eq_true.mp dsX2_init_1_ok (115, (.sipush 20060, 3)) (List.mem_of_getElem? (i := 8) rfl))
theorem dX2_init_118 : decode cX2_init 118 = .ok (.iastore, 1) := of_decide_eq_true (List.all_eq_true.mp dsX2_init_1_ok (118, (.iastore, 1)) (List.mem_of_getElem? (i := 9) rfl))
theorem dX2_init_119 : decode cX2_init 119 = .ok (.putfield 55, 3) := of_decide_eq_true (List.all_eq_true.mp dsX2_init_1_ok (119, (.putfield 55, 3)) (List.mem_of_getElem? (i := 10) rfl))
theorem dX2_init_122 : decode cX2_init 122 = .ok (.aload_n 0, 1) := of_decide_eq_true (List.all_eq_true.mp dsX2_init_1_ok (122, (.aload_n 0, 1)) (List.mem_of_getElem? (i := 11) rfl))
theorem dX2_init_123 : decode cX2_init 123 = .ok (.iconst 1, 1) := of_decide_eq_true (List.all_eq_true.mp dsX2_init_1_ok (123, (.iconst 1, 1)) (List.mem_of_getElem? (i := 12) rfl))
theorem dX2_init_124 : decode cX2_init 124 = .ok (.newarray .int, 2) := of_decide_eq_true (List.all_eq_true.mp dsX2_init_1_ok (124, (.newarray .int, 2)) (List.mem_of_getElem? (i := 13) rfl))
theorem dX2_init_126 : decode cX2_init 126 = .ok (.dup, 1) := of_decide_eq_true (List.all_eq_true.mp dsX2_init_1_ok (126, (.dup, 1)) (List.mem_of_getElem? (i := 14) rfl))
theorem dX2_init_127 : decode cX2_init 127 = .ok (.iconst 0, 1) := of_decide_eq_true (List.all_eq_true.mp dsX2_init_1_ok (127, (.iconst 0, 1)) (List.mem_of_getElem? (i := 15) rfl))
theorem dX2_init_128 : decode cX2_init 128 = .ok (.sipush 10309, 3) := of_decide_eq_true (List.all_eq_true.mp dsX2_init_1_ok (128, (.sipush 10309, 3)) (List.mem_of_getElem? (i := 16) rfl))
theorem dX2_init_131 : decode cX2_init 131 = .ok (.iastore, 1) := of_decide_eq_true (List.all_eq_true.mp dsX2_init_1_ok (131, (.iastore, 1)) (List.mem_of_getElem? (i := 17) rfl))
theorem dX2_init_132 : decode cX2_init 132 = .ok (.putfield 58, 3) := of_decide_eq_true (List.all_eq_true.mp dsX2_init_1_ok (132, (.putfield 58, 3)) (List.mem_of_getElem? (i := 18) rfl))
theorem dX2_init_135 : decode cX2_init 135 = .ok (.aload_n 0, 1) := of_decide_eq_true (List.all_eq_true.mp dsX2_init_1_ok (135, (.aload_n 0, 1)) (List.mem_of_getElem? (i := 19) rfl))
theorem dX2_init_136 : decode cX2_init 136 = .ok (.iconst 0, 1) := of_decide_eq_true (List.all_eq_true.mp dsX2_init_1_ok (136, (.iconst 0, 1)) (List.mem_of_getElem? (i := 20) rfl))
theorem dX2_init_137 : decode cX2_init 137 = .ok (.putfield 61, 3) := of_decide_eq_true (List.all_eq_true.mp dsX2_init_1_ok (137, (.putfield 61, 3)) (List.mem_of_getElem? (i := 21) rfl))
theorem dX2_init_140 : decode cX2_init 140 = .ok (.aload_n 0, 1) := of_decide_eq_true (List.all_eq_true.mp dsX2_init_1_ok (140, (.aload_n 0, 1)) (List.mem_of_getElem? (i := 22) rfl))
theorem dX2_init_141 : decode cX2_init 141 = .ok (.iconst 0, 1) := of_decide_eq_true (List.all_eq_true.mp dsX2_init_1_ok (141, (.iconst 0, 1)) (List.mem_of_getElem? (i := 23) rfl))
theorem dX2_init_142 : decode cX2_init 142 = .ok (.putfield 65, 3) := of_decide_eq_true (List.all_eq_true.mp dsX2_init_1_ok (142, (.putfield 65, 3)) (List.mem_of_getElem? (i := 24) rfl))
theorem dX2_init_145 : decode cX2_init 145 = .ok (.aload_n 0, 1) := of_decide_eq_true (List.all_eq_true.mp dsX2_init_1_ok (145, (.aload_n 0, 1)) (List.mem_of_getElem? (i := 25) rfl))
theorem dX2_init_146 : decode cX2_init 146 = .ok (.iconst 0, 1) := of_decide_eq_true (List.all_eq_true.mp dsX2_init_1_ok (146, (.iconst 0, 1)) (List.mem_of_getElem? (i := 26) rfl))
theorem dX2_init_147 : decode cX2_init 147 = .ok (.putfield 68, 3) := of_decide_eq_true (List.all_eq_true.mp dsX2_init_1_ok (147, (.putfield 68, 3)) (List.mem_of_getElem? (i := 27) rfl))
theorem dX2_init_150 : decode cX2_init 150 = .ok (.return_, 1) := of_decide_eq_true (List.all_eq_true.mp dsX2_init_1_ok (150, (.return_, 1)) (List.mem_of_getElem? (i := 28) rfl))
set_option maxHeartbeats 4000000 in
set_option maxRecDepth 100000 in
theorem kX2_init (l : Launch) (dC : Nat → ClassId) (dI : Nat → Nat → Nat) (cI cB cJ cZ cM : ClassId) (z : Nat) (ad : Nat → Nat) (a_p0 : Nat) : xq_CtA l yX2_init wsX2_init { frames := 1, cells := 9, slots := 44, locals := 20 } (dC, dI) vwCl (xq_tys cI cB cJ cZ cM) z ad [.ref a_p0] [(a_p0, .inr (2, [.int 0, .int 0, .int 0, .int 0, .int 0, .int 0, .int 0, .null, .null, .null, .null, .null, .null, .null, .null, .null, .int 0, .int 0, .int 0]))] (fun q => [(a_p0, .inr (2, oX2 (fun _ => 0) (q 0))), ((q 0 7), .inl (cI, 7, .inl (fun _ => 0))), ((q 0 8), .inl (cI, 7, .inl (fun _ => 0))), ((q 0 9), .inl (cI, 7, .inl (fun _ => 0))), ((q 0 10), .inl (cI, 6, .inl (fun _ => 0))), ((q 0 11), .inl (cI, 6, .inl (fun _ => 0))), ((q 0 12), .inl (cI, 6, .inl (fun _ => 0))), ((q 0 13), .inl (cI, 1, .inl (upd (fun _ => 0) 0 1))), ((q 0 14), .inl (cI, 3, .inl (upd (upd (upd (fun _ => 0) 0 10316) 1 10) 2 20060))), ((q 0 15), .inl (cI, 1, .inl (upd (fun _ => 0) 0 10309)))]) (fun _ => none) 9 44 := by
  intro sz
  refine Met.ofW (cc := cX2_init) (maxL := 1) (ret := none) (by decide) rfl ?_
  intro p e s m args below meth c s₁ B hml hv
  obtain ⟨rfl, hsz, hP, hK, hD0, hE, hz⟩ := hv
  have hx := B.exec
  have hb := B.bytes
  have hr := B.returns
  have hts := atoms_spec (ws := wsX2_init) B.pre
  have hown : s.vm.findClass RX2 = some m.cls := findClass_of_methodNamed B.named
  have hlocks := B.notSynchronized
  have hin : meth.name = "<init>" := (name_of_methodNamed B.named B.method).1
  subst hsz
  have hD := hD0.self (sz := s.heap.size)
  have hN := xq_Env.of hE hz hD0
  generalize hAe : va_A [(a_p0, .inr (2, [.int 0, .int 0, .int 0, .int 0, .int 0, .int 0, .int 0, .null, .null, .null, .null, .null, .null, .null, .null, .null, .int 0, .int 0, .int 0]))] s.heap.size = A at hD hN ⊢
  have hA : ∀ q : Nat, s.heap.size ≤ q → A q := fun q h => by rw [← hAe]; exact Or.inr h
  clear hAe hD0
  have hS : va_S A s.heap s.heap [] := va_S.rf
  have hl := lv_entry ([.ref a_p0]) (n := 1) (Nat.le_of_ble_eq_true rfl)
  rw [lg_entry_eq]
  generalize (lg_sl ([.ref a_p0]) ++ List.replicate (1 - (lg_sl ([.ref a_p0])).length) Slot.unset).toArray = ls at hl ⊢
  have hl : lv_has ls 1 [(0, .ref a_p0)] := hl
  have hw0 := hts (.methodLink RX2 3 objectInit) (by decide +kernel)
  have hw1 := hts (.instanceMethod objectInit) (by decide +kernel)
  have hw2 := hts (.code objectInit ⟨#[0xb1]⟩ 1 none) (by decide +kernel)
  have hw3 := hts (.fieldLink RX2 9 "DistantVoice$House" "statements" "I") (by decide +kernel)
  have hinX2 : ∀ w ∈ wsX20, w ∈ wsX2_init := fun w h => List.mem_cons_of_mem _ (List.mem_append_right _ h)
  have hw5 := hts (.fieldLink RX2 15 "DistantVoice$House" "roundMiles" "I") (by decide +kernel)
  have hw6 := hts (.fieldLink RX2 18 "DistantVoice$House" "firstMile" "I") (by decide +kernel)
  have hw7 := hts (.fieldLink RX2 21 "DistantVoice$House" "firstHush" "I") (by decide +kernel)
  have hw8 := hts (.fieldLink RX2 24 "DistantVoice$House" "cough" "I") (by decide +kernel)
  have hw9 := hts (.fieldLink RX2 27 "DistantVoice$House" "ears" "I") (by decide +kernel)
  have hw10 := hts (.fieldLink RX2 30 "DistantVoice$House" "places" "I") (by decide +kernel)
  have hw11 := hts (.arrayClass .int) (by decide +kernel)
  have hw12 := hts (.fieldLink RX2 33 "DistantVoice$House" "earNames" "[I") (by decide +kernel)
  have hw13 := hts (.fieldLink RX2 37 "DistantVoice$House" "rows" "[I") (by decide +kernel)
  have hw14 := hts (.fieldLink RX2 40 "DistantVoice$House" "sharps" "[I") (by decide +kernel)
  have hw15 := hts (.fieldLink RX2 43 "DistantVoice$House" "placeNames" "[I") (by decide +kernel)
  have hw16 := hts (.fieldLink RX2 46 "DistantVoice$House" "placeMiles" "[I") (by decide +kernel)
  have hw17 := hts (.fieldLink RX2 49 "DistantVoice$House" "talks" "[I") (by decide +kernel)
  have hw18 := hts (.fieldLink RX2 52 "DistantVoice$House" "goes" "[I") (by decide +kernel)
  have hw19 := hts (.fieldLink RX2 55 "DistantVoice$House" "hears" "[I") (by decide +kernel)
  have hw20 := hts (.fieldLink RX2 58 "DistantVoice$House" "talkFor" "[I") (by decide +kernel)
  have hw21 := hts (.fieldLink RX2 61 "DistantVoice$House" "goesTold" "Z") (by decide +kernel)
  have hw22 := hts (.fieldLink RX2 65 "DistantVoice$House" "hearsTold" "Z") (by decide +kernel)
  have hw23 := hts (.fieldLink RX2 68 "DistantVoice$House" "talksTold" "Z") (by decide +kernel)
  refine lv_aload_n hx hb dX2_init_0 rfl (lv_at hl 0 rfl) ?_
  refine W.objInit hx hb hown hw0 hw1 hw2 rfl (by rw [hml]; exact hl.1) rfl dX2_init_1 (Nat.le_of_ble_eq_true rfl) (Nat.le_of_ble_eq_true rfl) ?_
  refine W.eq (g2 := F0 m 4 ls []) rfl ?_
  refine lv_aload_n hx hb dX2_init_4 rfl (lv_at hl 0 rfl) ?_
  refine lv_iconst (v := 0) hx hb dX2_init_5 (by decide) ?_
  refine va_put (D := (dC, dI)) (ci := 2) (v := .int 0) (ty := .int) (C := RX2) (T := TX2) (N := 19) hx hb hts hinX2 tyX2 tyX2_ok nmX2 hown hK hP hD hS 0 rfl rfl 0 (by decide) hw3 (fun _ h9 => h9) rfl (by decide +kernel) rfl rfl (Nat.le_of_ble_eq_true rfl) dX2_init_6 (fun H locs hP hD hS => ?_)
  have hP : va_P (dC, dI) vwCl [(a_p0, .inr (2, [.int 0, .int 0, .int 0, .int 0, .int 0, .int 0, .int 0, .null, .null, .null, .null, .null, .null, .null, .null, .null, .int 0, .int 0, .int 0]))] H := hP
  have hD : va_D A [(a_p0, .inr (2, [.int 0, .int 0, .int 0, .int 0, .int 0, .int 0, .int 0, .null, .null, .null, .null, .null, .null, .null, .null, .null, .int 0, .int 0, .int 0]))] := hD
  refine lv_aload_n hx hb dX2_init_9 rfl (lv_at hl 0 rfl) ?_
  refine lv_iconst (v := 0) hx hb dX2_init_10 (by decide) ?_
  refine va_put (D := (dC, dI)) (ci := 2) (v := .int 0) (ty := .int) (C := RX2) (T := TX2) (N := 19) hx hb hts hinX2 tyX2 tyX2_ok nmX2 hown hK hP hD hS 0 rfl rfl 1 (by decide) hw5 (fun _ h9 => h9) rfl (by decide +kernel) rfl rfl (Nat.le_of_ble_eq_true rfl) dX2_init_11 (fun H locs hP hD hS => ?_)
  have hP : va_P (dC, dI) vwCl [(a_p0, .inr (2, [.int 0, .int 0, .int 0, .int 0, .int 0, .int 0, .int 0, .null, .null, .null, .null, .null, .null, .null, .null, .null, .int 0, .int 0, .int 0]))] H := hP
  have hD : va_D A [(a_p0, .inr (2, [.int 0, .int 0, .int 0, .int 0, .int 0, .int 0, .int 0, .null, .null, .null, .null, .null, .null, .null, .null, .null, .int 0, .int 0, .int 0]))] := hD
  refine lv_aload_n hx hb dX2_init_14 rfl (lv_at hl 0 rfl) ?_
  refine lv_iconst (v := 0) hx hb dX2_init_15 (by decide) ?_
  refine va_put (D := (dC, dI)) (ci := 2) (v := .int 0) (ty := .int) (C := RX2) (T := TX2) (N := 19) hx hb hts hinX2 tyX2 tyX2_ok nmX2 hown hK hP hD hS 0 rfl rfl 2 (by decide) hw6 (fun _ h9 => h9) rfl (by decide +kernel) rfl rfl (Nat.le_of_ble_eq_true rfl) dX2_init_16 (fun H locs hP hD hS => ?_)
  have hP : va_P (dC, dI) vwCl [(a_p0, .inr (2, [.int 0, .int 0, .int 0, .int 0, .int 0, .int 0, .int 0, .null, .null, .null, .null, .null, .null, .null, .null, .null, .int 0, .int 0, .int 0]))] H := hP
  have hD : va_D A [(a_p0, .inr (2, [.int 0, .int 0, .int 0, .int 0, .int 0, .int 0, .int 0, .null, .null, .null, .null, .null, .null, .null, .null, .null, .int 0, .int 0, .int 0]))] := hD
  refine lv_aload_n hx hb dX2_init_19 rfl (lv_at hl 0 rfl) ?_
  refine lv_iconst (v := 0) hx hb dX2_init_20 (by decide) ?_
  refine va_put (D := (dC, dI)) (ci := 2) (v := .int 0) (ty := .int) (C := RX2) (T := TX2) (N := 19) hx hb hts hinX2 tyX2 tyX2_ok nmX2 hown hK hP hD hS 0 rfl rfl 3 (by decide) hw7 (fun _ h9 => h9) rfl (by decide +kernel) rfl rfl (Nat.le_of_ble_eq_true rfl) dX2_init_21 (fun H locs hP hD hS => ?_)
  have hP : va_P (dC, dI) vwCl [(a_p0, .inr (2, [.int 0, .int 0, .int 0, .int 0, .int 0, .int 0, .int 0, .null, .null, .null, .null, .null, .null, .null, .null, .null, .int 0, .int 0, .int 0]))] H := hP
  have hD : va_D A [(a_p0, .inr (2, [.int 0, .int 0, .int 0, .int 0, .int 0, .int 0, .int 0, .null, .null, .null, .null, .null, .null, .null, .null, .null, .int 0, .int 0, .int 0]))] := hD
  refine lv_aload_n hx hb dX2_init_24 rfl (lv_at hl 0 rfl) ?_
  refine lv_iconst (v := 0) hx hb dX2_init_25 (by decide) ?_
  refine va_put (D := (dC, dI)) (ci := 2) (v := .int 0) (ty := .int) (C := RX2) (T := TX2) (N := 19) hx hb hts hinX2 tyX2 tyX2_ok nmX2 hown hK hP hD hS 0 rfl rfl 4 (by decide) hw8 (fun _ h9 => h9) rfl (by decide +kernel) rfl rfl (Nat.le_of_ble_eq_true rfl) dX2_init_26 (fun H locs hP hD hS => ?_)
  have hP : va_P (dC, dI) vwCl [(a_p0, .inr (2, [.int 0, .int 0, .int 0, .int 0, .int 0, .int 0, .int 0, .null, .null, .null, .null, .null, .null, .null, .null, .null, .int 0, .int 0, .int 0]))] H := hP
  have hD : va_D A [(a_p0, .inr (2, [.int 0, .int 0, .int 0, .int 0, .int 0, .int 0, .int 0, .null, .null, .null, .null, .null, .null, .null, .null, .null, .int 0, .int 0, .int 0]))] := hD
  refine lv_aload_n hx hb dX2_init_29 rfl (lv_at hl 0 rfl) ?_
  refine lv_iconst (v := 0) hx hb dX2_init_30 (by decide) ?_
  refine va_put (D := (dC, dI)) (ci := 2) (v := .int 0) (ty := .int) (C := RX2) (T := TX2) (N := 19) hx hb hts hinX2 tyX2 tyX2_ok nmX2 hown hK hP hD hS 0 rfl rfl 5 (by decide) hw9 (fun _ h9 => h9) rfl (by decide +kernel) rfl rfl (Nat.le_of_ble_eq_true rfl) dX2_init_31 (fun H locs hP hD hS => ?_)
  have hP : va_P (dC, dI) vwCl [(a_p0, .inr (2, [.int 0, .int 0, .int 0, .int 0, .int 0, .int 0, .int 0, .null, .null, .null, .null, .null, .null, .null, .null, .null, .int 0, .int 0, .int 0]))] H := hP
  have hD : va_D A [(a_p0, .inr (2, [.int 0, .int 0, .int 0, .int 0, .int 0, .int 0, .int 0, .null, .null, .null, .null, .null, .null, .null, .null, .null, .int 0, .int 0, .int 0]))] := hD
  refine lv_aload_n hx hb dX2_init_34 rfl (lv_at hl 0 rfl) ?_
  refine lv_iconst (v := 0) hx hb dX2_init_35 (by decide) ?_
  refine va_put (D := (dC, dI)) (ci := 2) (v := .int 0) (ty := .int) (C := RX2) (T := TX2) (N := 19) hx hb hts hinX2 tyX2 tyX2_ok nmX2 hown hK hP hD hS 0 rfl rfl 6 (by decide) hw10 (fun _ h9 => h9) rfl (by decide +kernel) rfl rfl (Nat.le_of_ble_eq_true rfl) dX2_init_36 (fun H locs hP hD hS => ?_)
  have hP : va_P (dC, dI) vwCl [(a_p0, .inr (2, [.int 0, .int 0, .int 0, .int 0, .int 0, .int 0, .int 0, .null, .null, .null, .null, .null, .null, .null, .null, .null, .int 0, .int 0, .int 0]))] H := hP
  have hD : va_D A [(a_p0, .inr (2, [.int 0, .int 0, .int 0, .int 0, .int 0, .int 0, .int 0, .null, .null, .null, .null, .null, .null, .null, .null, .null, .int 0, .int 0, .int 0]))] := hD
  refine lv_aload_n hx hb dX2_init_39 rfl (lv_at hl 0 rfl) ?_
  refine lv_bipush (v := 7) hx hb dX2_init_40 (by decide) ?_
  refine xq_newa (atype := .int) (ty := .int) (a0 := (7, .inl (fun _ => 0))) hx hb hw11 rfl hK 0 rfl (fun _ => rfl) hP hD hS hA (fun _ => rfl) (by decide) (by decide) (Nat.le_of_ble_eq_true rfl) (Nat.le_of_ble_eq_true rfl) (Nat.le_of_ble_eq_true rfl) dX2_init_42 (fun q_1 H hP hD hS => ?_)
  have hP : va_P (dC, dI) vwCl [(a_p0, .inr (2, [.int 0, .int 0, .int 0, .int 0, .int 0, .int 0, .int 0, .null, .null, .null, .null, .null, .null, .null, .null, .null, .int 0, .int 0, .int 0])), (q_1, .inl (cI, 7, .inl (fun _ => 0)))] H := hP
  have hD : va_D A [(a_p0, .inr (2, [.int 0, .int 0, .int 0, .int 0, .int 0, .int 0, .int 0, .null, .null, .null, .null, .null, .null, .null, .null, .null, .int 0, .int 0, .int 0])), (q_1, .inl (cI, 7, .inl (fun _ => 0)))] := hD
  refine W.widen (k := 1) (n := 7) (Nat.le_of_ble_eq_true rfl) (Nat.le_of_ble_eq_true rfl) ?_
  refine va_putF (D := (dC, dI)) (ci := 2) (v := .ref q_1) (ty := .array .int) (C := RX2) (T := TX2) (N := 19) hx hb hts hinX2 tyX2 tyX2_ok nmX2 hown hK hP hD hS 0 rfl rfl 7 (by decide) hw12 (fun _ h9 => h9) rfl hin rfl (by decide +kernel) rfl rfl (Nat.le_of_ble_eq_true rfl) dX2_init_44 (fun H locs hP hD hS => ?_)
  have hP : va_P (dC, dI) vwCl [(a_p0, .inr (2, [.int 0, .int 0, .int 0, .int 0, .int 0, .int 0, .int 0, .ref q_1, .null, .null, .null, .null, .null, .null, .null, .null, .int 0, .int 0, .int 0])), (q_1, .inl (cI, 7, .inl (fun _ => 0)))] H := hP
  have hD : va_D A [(a_p0, .inr (2, [.int 0, .int 0, .int 0, .int 0, .int 0, .int 0, .int 0, .ref q_1, .null, .null, .null, .null, .null, .null, .null, .null, .int 0, .int 0, .int 0])), (q_1, .inl (cI, 7, .inl (fun _ => 0)))] := hD
  refine lv_aload_n hx hb dX2_init_47 rfl (lv_at hl 0 rfl) ?_
  refine lv_bipush (v := 7) hx hb dX2_init_48 (by decide) ?_
  refine xq_newa (atype := .int) (ty := .int) (a0 := (7, .inl (fun _ => 0))) hx hb hw11 rfl hK 0 rfl (fun _ => rfl) hP hD hS hA (fun _ => rfl) (by decide) (by decide) (Nat.le_of_ble_eq_true rfl) (Nat.le_of_ble_eq_true rfl) (Nat.le_of_ble_eq_true rfl) dX2_init_50 (fun q_2 H hP hD hS => ?_)
  have hP : va_P (dC, dI) vwCl [(a_p0, .inr (2, [.int 0, .int 0, .int 0, .int 0, .int 0, .int 0, .int 0, .ref q_1, .null, .null, .null, .null, .null, .null, .null, .null, .int 0, .int 0, .int 0])), (q_1, .inl (cI, 7, .inl (fun _ => 0))), (q_2, .inl (cI, 7, .inl (fun _ => 0)))] H := hP
  have hD : va_D A [(a_p0, .inr (2, [.int 0, .int 0, .int 0, .int 0, .int 0, .int 0, .int 0, .ref q_1, .null, .null, .null, .null, .null, .null, .null, .null, .int 0, .int 0, .int 0])), (q_1, .inl (cI, 7, .inl (fun _ => 0))), (q_2, .inl (cI, 7, .inl (fun _ => 0)))] := hD
  refine W.widen (k := 2) (n := 14) (Nat.le_of_ble_eq_true rfl) (Nat.le_of_ble_eq_true rfl) ?_
  refine va_putF (D := (dC, dI)) (ci := 2) (v := .ref q_2) (ty := .array .int) (C := RX2) (T := TX2) (N := 19) hx hb hts hinX2 tyX2 tyX2_ok nmX2 hown hK hP hD hS 0 rfl rfl 8 (by decide) hw13 (fun _ h9 => h9) rfl hin rfl (by decide +kernel) rfl rfl (Nat.le_of_ble_eq_true rfl) dX2_init_52 (fun H locs hP hD hS => ?_)
  have hP : va_P (dC, dI) vwCl [(a_p0, .inr (2, [.int 0, .int 0, .int 0, .int 0, .int 0, .int 0, .int 0, .ref q_1, .ref q_2, .null, .null, .null, .null, .null, .null, .null, .int 0, .int 0, .int 0])), (q_1, .inl (cI, 7, .inl (fun _ => 0))), (q_2, .inl (cI, 7, .inl (fun _ => 0)))] H := hP
  have hD : va_D A [(a_p0, .inr (2, [.int 0, .int 0, .int 0, .int 0, .int 0, .int 0, .int 0, .ref q_1, .ref q_2, .null, .null, .null, .null, .null, .null, .null, .int 0, .int 0, .int 0])), (q_1, .inl (cI, 7, .inl (fun _ => 0))), (q_2, .inl (cI, 7, .inl (fun _ => 0)))] := hD
  refine lv_aload_n hx hb dX2_init_55 rfl (lv_at hl 0 rfl) ?_
  refine lv_bipush (v := 7) hx hb dX2_init_56 (by decide) ?_
  refine xq_newa (atype := .int) (ty := .int) (a0 := (7, .inl (fun _ => 0))) hx hb hw11 rfl hK 0 rfl (fun _ => rfl) hP hD hS hA (fun _ => rfl) (by decide) (by decide) (Nat.le_of_ble_eq_true rfl) (Nat.le_of_ble_eq_true rfl) (Nat.le_of_ble_eq_true rfl) dX2_init_58 (fun q_3 H hP hD hS => ?_)
  have hP : va_P (dC, dI) vwCl [(a_p0, .inr (2, [.int 0, .int 0, .int 0, .int 0, .int 0, .int 0, .int 0, .ref q_1, .ref q_2, .null, .null, .null, .null, .null, .null, .null, .int 0, .int 0, .int 0])), (q_1, .inl (cI, 7, .inl (fun _ => 0))), (q_2, .inl (cI, 7, .inl (fun _ => 0))), (q_3, .inl (cI, 7, .inl (fun _ => 0)))] H := hP
  have hD : va_D A [(a_p0, .inr (2, [.int 0, .int 0, .int 0, .int 0, .int 0, .int 0, .int 0, .ref q_1, .ref q_2, .null, .null, .null, .null, .null, .null, .null, .int 0, .int 0, .int 0])), (q_1, .inl (cI, 7, .inl (fun _ => 0))), (q_2, .inl (cI, 7, .inl (fun _ => 0))), (q_3, .inl (cI, 7, .inl (fun _ => 0)))] := hD
  refine W.widen (k := 3) (n := 21) (Nat.le_of_ble_eq_true rfl) (Nat.le_of_ble_eq_true rfl) ?_
  refine va_putF (D := (dC, dI)) (ci := 2) (v := .ref q_3) (ty := .array .int) (C := RX2) (T := TX2) (N := 19) hx hb hts hinX2 tyX2 tyX2_ok nmX2 hown hK hP hD hS 0 rfl rfl 9 (by decide) hw14 (fun _ h9 => h9) rfl hin rfl (by decide +kernel) rfl rfl (Nat.le_of_ble_eq_true rfl) dX2_init_60 (fun H locs hP hD hS => ?_)
  have hP : va_P (dC, dI) vwCl [(a_p0, .inr (2, [.int 0, .int 0, .int 0, .int 0, .int 0, .int 0, .int 0, .ref q_1, .ref q_2, .ref q_3, .null, .null, .null, .null, .null, .null, .int 0, .int 0, .int 0])), (q_1, .inl (cI, 7, .inl (fun _ => 0))), (q_2, .inl (cI, 7, .inl (fun _ => 0))), (q_3, .inl (cI, 7, .inl (fun _ => 0)))] H := hP
  have hD : va_D A [(a_p0, .inr (2, [.int 0, .int 0, .int 0, .int 0, .int 0, .int 0, .int 0, .ref q_1, .ref q_2, .ref q_3, .null, .null, .null, .null, .null, .null, .int 0, .int 0, .int 0])), (q_1, .inl (cI, 7, .inl (fun _ => 0))), (q_2, .inl (cI, 7, .inl (fun _ => 0))), (q_3, .inl (cI, 7, .inl (fun _ => 0)))] := hD
  refine lv_aload_n hx hb dX2_init_63 rfl (lv_at hl 0 rfl) ?_
  refine lv_bipush (v := 6) hx hb dX2_init_64 (by decide) ?_
  refine xq_newa (atype := .int) (ty := .int) (a0 := (6, .inl (fun _ => 0))) hx hb hw11 rfl hK 0 rfl (fun _ => rfl) hP hD hS hA (fun _ => rfl) (by decide) (by decide) (Nat.le_of_ble_eq_true rfl) (Nat.le_of_ble_eq_true rfl) (Nat.le_of_ble_eq_true rfl) dX2_init_66 (fun q_4 H hP hD hS => ?_)
  have hP : va_P (dC, dI) vwCl [(a_p0, .inr (2, [.int 0, .int 0, .int 0, .int 0, .int 0, .int 0, .int 0, .ref q_1, .ref q_2, .ref q_3, .null, .null, .null, .null, .null, .null, .int 0, .int 0, .int 0])), (q_1, .inl (cI, 7, .inl (fun _ => 0))), (q_2, .inl (cI, 7, .inl (fun _ => 0))), (q_3, .inl (cI, 7, .inl (fun _ => 0))), (q_4, .inl (cI, 6, .inl (fun _ => 0)))] H := hP
  have hD : va_D A [(a_p0, .inr (2, [.int 0, .int 0, .int 0, .int 0, .int 0, .int 0, .int 0, .ref q_1, .ref q_2, .ref q_3, .null, .null, .null, .null, .null, .null, .int 0, .int 0, .int 0])), (q_1, .inl (cI, 7, .inl (fun _ => 0))), (q_2, .inl (cI, 7, .inl (fun _ => 0))), (q_3, .inl (cI, 7, .inl (fun _ => 0))), (q_4, .inl (cI, 6, .inl (fun _ => 0)))] := hD
  refine W.widen (k := 4) (n := 27) (Nat.le_of_ble_eq_true rfl) (Nat.le_of_ble_eq_true rfl) ?_
  refine va_putF (D := (dC, dI)) (ci := 2) (v := .ref q_4) (ty := .array .int) (C := RX2) (T := TX2) (N := 19) hx hb hts hinX2 tyX2 tyX2_ok nmX2 hown hK hP hD hS 0 rfl rfl 10 (by decide) hw15 (fun _ h9 => h9) rfl hin rfl (by decide +kernel) rfl rfl (Nat.le_of_ble_eq_true rfl) dX2_init_68 (fun H locs hP hD hS => ?_)
  have hP : va_P (dC, dI) vwCl [(a_p0, .inr (2, [.int 0, .int 0, .int 0, .int 0, .int 0, .int 0, .int 0, .ref q_1, .ref q_2, .ref q_3, .ref q_4, .null, .null, .null, .null, .null, .int 0, .int 0, .int 0])), (q_1, .inl (cI, 7, .inl (fun _ => 0))), (q_2, .inl (cI, 7, .inl (fun _ => 0))), (q_3, .inl (cI, 7, .inl (fun _ => 0))), (q_4, .inl (cI, 6, .inl (fun _ => 0)))] H := hP
  have hD : va_D A [(a_p0, .inr (2, [.int 0, .int 0, .int 0, .int 0, .int 0, .int 0, .int 0, .ref q_1, .ref q_2, .ref q_3, .ref q_4, .null, .null, .null, .null, .null, .int 0, .int 0, .int 0])), (q_1, .inl (cI, 7, .inl (fun _ => 0))), (q_2, .inl (cI, 7, .inl (fun _ => 0))), (q_3, .inl (cI, 7, .inl (fun _ => 0))), (q_4, .inl (cI, 6, .inl (fun _ => 0)))] := hD
  refine lv_aload_n hx hb dX2_init_71 rfl (lv_at hl 0 rfl) ?_
  refine lv_bipush (v := 6) hx hb dX2_init_72 (by decide) ?_
  refine xq_newa (atype := .int) (ty := .int) (a0 := (6, .inl (fun _ => 0))) hx hb hw11 rfl hK 0 rfl (fun _ => rfl) hP hD hS hA (fun _ => rfl) (by decide) (by decide) (Nat.le_of_ble_eq_true rfl) (Nat.le_of_ble_eq_true rfl) (Nat.le_of_ble_eq_true rfl) dX2_init_74 (fun q_5 H hP hD hS => ?_)
  have hP : va_P (dC, dI) vwCl [(a_p0, .inr (2, [.int 0, .int 0, .int 0, .int 0, .int 0, .int 0, .int 0, .ref q_1, .ref q_2, .ref q_3, .ref q_4, .null, .null, .null, .null, .null, .int 0, .int 0, .int 0])), (q_1, .inl (cI, 7, .inl (fun _ => 0))), (q_2, .inl (cI, 7, .inl (fun _ => 0))), (q_3, .inl (cI, 7, .inl (fun _ => 0))), (q_4, .inl (cI, 6, .inl (fun _ => 0))), (q_5, .inl (cI, 6, .inl (fun _ => 0)))] H := hP
  have hD : va_D A [(a_p0, .inr (2, [.int 0, .int 0, .int 0, .int 0, .int 0, .int 0, .int 0, .ref q_1, .ref q_2, .ref q_3, .ref q_4, .null, .null, .null, .null, .null, .int 0, .int 0, .int 0])), (q_1, .inl (cI, 7, .inl (fun _ => 0))), (q_2, .inl (cI, 7, .inl (fun _ => 0))), (q_3, .inl (cI, 7, .inl (fun _ => 0))), (q_4, .inl (cI, 6, .inl (fun _ => 0))), (q_5, .inl (cI, 6, .inl (fun _ => 0)))] := hD
  refine W.widen (k := 5) (n := 33) (Nat.le_of_ble_eq_true rfl) (Nat.le_of_ble_eq_true rfl) ?_
  refine va_putF (D := (dC, dI)) (ci := 2) (v := .ref q_5) (ty := .array .int) (C := RX2) (T := TX2) (N := 19) hx hb hts hinX2 tyX2 tyX2_ok nmX2 hown hK hP hD hS 0 rfl rfl 11 (by decide) hw16 (fun _ h9 => h9) rfl hin rfl (by decide +kernel) rfl rfl (Nat.le_of_ble_eq_true rfl) dX2_init_76 (fun H locs hP hD hS => ?_)
  have hP : va_P (dC, dI) vwCl [(a_p0, .inr (2, [.int 0, .int 0, .int 0, .int 0, .int 0, .int 0, .int 0, .ref q_1, .ref q_2, .ref q_3, .ref q_4, .ref q_5, .null, .null, .null, .null, .int 0, .int 0, .int 0])), (q_1, .inl (cI, 7, .inl (fun _ => 0))), (q_2, .inl (cI, 7, .inl (fun _ => 0))), (q_3, .inl (cI, 7, .inl (fun _ => 0))), (q_4, .inl (cI, 6, .inl (fun _ => 0))), (q_5, .inl (cI, 6, .inl (fun _ => 0)))] H := hP
  have hD : va_D A [(a_p0, .inr (2, [.int 0, .int 0, .int 0, .int 0, .int 0, .int 0, .int 0, .ref q_1, .ref q_2, .ref q_3, .ref q_4, .ref q_5, .null, .null, .null, .null, .int 0, .int 0, .int 0])), (q_1, .inl (cI, 7, .inl (fun _ => 0))), (q_2, .inl (cI, 7, .inl (fun _ => 0))), (q_3, .inl (cI, 7, .inl (fun _ => 0))), (q_4, .inl (cI, 6, .inl (fun _ => 0))), (q_5, .inl (cI, 6, .inl (fun _ => 0)))] := hD
  refine lv_aload_n hx hb dX2_init_79 rfl (lv_at hl 0 rfl) ?_
  refine lv_bipush (v := 6) hx hb dX2_init_80 (by decide) ?_
  refine xq_newa (atype := .int) (ty := .int) (a0 := (6, .inl (fun _ => 0))) hx hb hw11 rfl hK 0 rfl (fun _ => rfl) hP hD hS hA (fun _ => rfl) (by decide) (by decide) (Nat.le_of_ble_eq_true rfl) (Nat.le_of_ble_eq_true rfl) (Nat.le_of_ble_eq_true rfl) dX2_init_82 (fun q_6 H hP hD hS => ?_)
  have hP : va_P (dC, dI) vwCl [(a_p0, .inr (2, [.int 0, .int 0, .int 0, .int 0, .int 0, .int 0, .int 0, .ref q_1, .ref q_2, .ref q_3, .ref q_4, .ref q_5, .null, .null, .null, .null, .int 0, .int 0, .int 0])), (q_1, .inl (cI, 7, .inl (fun _ => 0))), (q_2, .inl (cI, 7, .inl (fun _ => 0))), (q_3, .inl (cI, 7, .inl (fun _ => 0))), (q_4, .inl (cI, 6, .inl (fun _ => 0))), (q_5, .inl (cI, 6, .inl (fun _ => 0))), (q_6, .inl (cI, 6, .inl (fun _ => 0)))] H := hP
  have hD : va_D A [(a_p0, .inr (2, [.int 0, .int 0, .int 0, .int 0, .int 0, .int 0, .int 0, .ref q_1, .ref q_2, .ref q_3, .ref q_4, .ref q_5, .null, .null, .null, .null, .int 0, .int 0, .int 0])), (q_1, .inl (cI, 7, .inl (fun _ => 0))), (q_2, .inl (cI, 7, .inl (fun _ => 0))), (q_3, .inl (cI, 7, .inl (fun _ => 0))), (q_4, .inl (cI, 6, .inl (fun _ => 0))), (q_5, .inl (cI, 6, .inl (fun _ => 0))), (q_6, .inl (cI, 6, .inl (fun _ => 0)))] := hD
  refine W.widen (k := 6) (n := 39) (Nat.le_of_ble_eq_true rfl) (Nat.le_of_ble_eq_true rfl) ?_
  refine va_putF (D := (dC, dI)) (ci := 2) (v := .ref q_6) (ty := .array .int) (C := RX2) (T := TX2) (N := 19) hx hb hts hinX2 tyX2 tyX2_ok nmX2 hown hK hP hD hS 0 rfl rfl 12 (by decide) hw17 (fun _ h9 => h9) rfl hin rfl (by decide +kernel) rfl rfl (Nat.le_of_ble_eq_true rfl) dX2_init_84 (fun H locs hP hD hS => ?_)
  have hP : va_P (dC, dI) vwCl [(a_p0, .inr (2, [.int 0, .int 0, .int 0, .int 0, .int 0, .int 0, .int 0, .ref q_1, .ref q_2, .ref q_3, .ref q_4, .ref q_5, .ref q_6, .null, .null, .null, .int 0, .int 0, .int 0])), (q_1, .inl (cI, 7, .inl (fun _ => 0))), (q_2, .inl (cI, 7, .inl (fun _ => 0))), (q_3, .inl (cI, 7, .inl (fun _ => 0))), (q_4, .inl (cI, 6, .inl (fun _ => 0))), (q_5, .inl (cI, 6, .inl (fun _ => 0))), (q_6, .inl (cI, 6, .inl (fun _ => 0)))] H := hP
  have hD : va_D A [(a_p0, .inr (2, [.int 0, .int 0, .int 0, .int 0, .int 0, .int 0, .int 0, .ref q_1, .ref q_2, .ref q_3, .ref q_4, .ref q_5, .ref q_6, .null, .null, .null, .int 0, .int 0, .int 0])), (q_1, .inl (cI, 7, .inl (fun _ => 0))), (q_2, .inl (cI, 7, .inl (fun _ => 0))), (q_3, .inl (cI, 7, .inl (fun _ => 0))), (q_4, .inl (cI, 6, .inl (fun _ => 0))), (q_5, .inl (cI, 6, .inl (fun _ => 0))), (q_6, .inl (cI, 6, .inl (fun _ => 0)))] := hD
  refine lv_aload_n hx hb dX2_init_87 rfl (lv_at hl 0 rfl) ?_
  refine lv_iconst (v := 1) hx hb dX2_init_88 (by decide) ?_
  refine xq_newa (atype := .int) (ty := .int) (a0 := (1, .inl (fun _ => 0))) hx hb hw11 rfl hK 0 rfl (fun _ => rfl) hP hD hS hA (fun _ => rfl) (by decide) (by decide) (Nat.le_of_ble_eq_true rfl) (Nat.le_of_ble_eq_true rfl) (Nat.le_of_ble_eq_true rfl) dX2_init_89 (fun q_7 H hP hD hS => ?_)
  have hP : va_P (dC, dI) vwCl [(a_p0, .inr (2, [.int 0, .int 0, .int 0, .int 0, .int 0, .int 0, .int 0, .ref q_1, .ref q_2, .ref q_3, .ref q_4, .ref q_5, .ref q_6, .null, .null, .null, .int 0, .int 0, .int 0])), (q_1, .inl (cI, 7, .inl (fun _ => 0))), (q_2, .inl (cI, 7, .inl (fun _ => 0))), (q_3, .inl (cI, 7, .inl (fun _ => 0))), (q_4, .inl (cI, 6, .inl (fun _ => 0))), (q_5, .inl (cI, 6, .inl (fun _ => 0))), (q_6, .inl (cI, 6, .inl (fun _ => 0))), (q_7, .inl (cI, 1, .inl (fun _ => 0)))] H := hP
  have hD : va_D A [(a_p0, .inr (2, [.int 0, .int 0, .int 0, .int 0, .int 0, .int 0, .int 0, .ref q_1, .ref q_2, .ref q_3, .ref q_4, .ref q_5, .ref q_6, .null, .null, .null, .int 0, .int 0, .int 0])), (q_1, .inl (cI, 7, .inl (fun _ => 0))), (q_2, .inl (cI, 7, .inl (fun _ => 0))), (q_3, .inl (cI, 7, .inl (fun _ => 0))), (q_4, .inl (cI, 6, .inl (fun _ => 0))), (q_5, .inl (cI, 6, .inl (fun _ => 0))), (q_6, .inl (cI, 6, .inl (fun _ => 0))), (q_7, .inl (cI, 1, .inl (fun _ => 0)))] := hD
  refine W.widen (k := 7) (n := 40) (Nat.le_of_ble_eq_true rfl) (Nat.le_of_ble_eq_true rfl) ?_
  refine lv_dup hx hb dX2_init_91 rfl ?_
  refine lv_iconst (v := 0) hx hb dX2_init_92 (by decide) ?_
  refine lv_iconst (v := 1) hx hb dX2_init_93 (by decide) ?_
  refine va_iast hx hb hK hP hD hS 7 0 rfl rfl (i := 0) (x := 1) (by unfold vp_in; decide) dX2_init_94 (fun H locs hP hD hS => ?_)
  have hP : va_P (dC, dI) vwCl [(a_p0, .inr (2, [.int 0, .int 0, .int 0, .int 0, .int 0, .int 0, .int 0, .ref q_1, .ref q_2, .ref q_3, .ref q_4, .ref q_5, .ref q_6, .null, .null, .null, .int 0, .int 0, .int 0])), (q_1, .inl (cI, 7, .inl (fun _ => 0))), (q_2, .inl (cI, 7, .inl (fun _ => 0))), (q_3, .inl (cI, 7, .inl (fun _ => 0))), (q_4, .inl (cI, 6, .inl (fun _ => 0))), (q_5, .inl (cI, 6, .inl (fun _ => 0))), (q_6, .inl (cI, 6, .inl (fun _ => 0))), (q_7, .inl (cI, 1, .inl (upd (fun _ => 0) 0 1)))] H := hP
  have hD : va_D A [(a_p0, .inr (2, [.int 0, .int 0, .int 0, .int 0, .int 0, .int 0, .int 0, .ref q_1, .ref q_2, .ref q_3, .ref q_4, .ref q_5, .ref q_6, .null, .null, .null, .int 0, .int 0, .int 0])), (q_1, .inl (cI, 7, .inl (fun _ => 0))), (q_2, .inl (cI, 7, .inl (fun _ => 0))), (q_3, .inl (cI, 7, .inl (fun _ => 0))), (q_4, .inl (cI, 6, .inl (fun _ => 0))), (q_5, .inl (cI, 6, .inl (fun _ => 0))), (q_6, .inl (cI, 6, .inl (fun _ => 0))), (q_7, .inl (cI, 1, .inl (upd (fun _ => 0) 0 1)))] := hD
  refine va_put (D := (dC, dI)) (ci := 2) (v := .ref q_7) (ty := .array .int) (C := RX2) (T := TX2) (N := 19) hx hb hts hinX2 tyX2 tyX2_ok nmX2 hown hK hP hD hS 0 rfl rfl 13 (by decide) hw18 (fun _ h9 => h9) rfl (by decide +kernel) rfl rfl (Nat.le_of_ble_eq_true rfl) dX2_init_95 (fun H locs hP hD hS => ?_)
  have hP : va_P (dC, dI) vwCl [(a_p0, .inr (2, [.int 0, .int 0, .int 0, .int 0, .int 0, .int 0, .int 0, .ref q_1, .ref q_2, .ref q_3, .ref q_4, .ref q_5, .ref q_6, .ref q_7, .null, .null, .int 0, .int 0, .int 0])), (q_1, .inl (cI, 7, .inl (fun _ => 0))), (q_2, .inl (cI, 7, .inl (fun _ => 0))), (q_3, .inl (cI, 7, .inl (fun _ => 0))), (q_4, .inl (cI, 6, .inl (fun _ => 0))), (q_5, .inl (cI, 6, .inl (fun _ => 0))), (q_6, .inl (cI, 6, .inl (fun _ => 0))), (q_7, .inl (cI, 1, .inl (upd (fun _ => 0) 0 1)))] H := hP
  have hD : va_D A [(a_p0, .inr (2, [.int 0, .int 0, .int 0, .int 0, .int 0, .int 0, .int 0, .ref q_1, .ref q_2, .ref q_3, .ref q_4, .ref q_5, .ref q_6, .ref q_7, .null, .null, .int 0, .int 0, .int 0])), (q_1, .inl (cI, 7, .inl (fun _ => 0))), (q_2, .inl (cI, 7, .inl (fun _ => 0))), (q_3, .inl (cI, 7, .inl (fun _ => 0))), (q_4, .inl (cI, 6, .inl (fun _ => 0))), (q_5, .inl (cI, 6, .inl (fun _ => 0))), (q_6, .inl (cI, 6, .inl (fun _ => 0))), (q_7, .inl (cI, 1, .inl (upd (fun _ => 0) 0 1)))] := hD
  refine lv_aload_n hx hb dX2_init_98 rfl (lv_at hl 0 rfl) ?_
  refine lv_iconst (v := 3) hx hb dX2_init_99 (by decide) ?_
  refine xq_newa (atype := .int) (ty := .int) (a0 := (3, .inl (fun _ => 0))) hx hb hw11 rfl hK 0 rfl (fun _ => rfl) hP hD hS hA (fun _ => rfl) (by decide) (by decide) (Nat.le_of_ble_eq_true rfl) (Nat.le_of_ble_eq_true rfl) (Nat.le_of_ble_eq_true rfl) dX2_init_100 (fun q_8 H hP hD hS => ?_)
  have hP : va_P (dC, dI) vwCl [(a_p0, .inr (2, [.int 0, .int 0, .int 0, .int 0, .int 0, .int 0, .int 0, .ref q_1, .ref q_2, .ref q_3, .ref q_4, .ref q_5, .ref q_6, .ref q_7, .null, .null, .int 0, .int 0, .int 0])), (q_1, .inl (cI, 7, .inl (fun _ => 0))), (q_2, .inl (cI, 7, .inl (fun _ => 0))), (q_3, .inl (cI, 7, .inl (fun _ => 0))), (q_4, .inl (cI, 6, .inl (fun _ => 0))), (q_5, .inl (cI, 6, .inl (fun _ => 0))), (q_6, .inl (cI, 6, .inl (fun _ => 0))), (q_7, .inl (cI, 1, .inl (upd (fun _ => 0) 0 1))), (q_8, .inl (cI, 3, .inl (fun _ => 0)))] H := hP
  have hD : va_D A [(a_p0, .inr (2, [.int 0, .int 0, .int 0, .int 0, .int 0, .int 0, .int 0, .ref q_1, .ref q_2, .ref q_3, .ref q_4, .ref q_5, .ref q_6, .ref q_7, .null, .null, .int 0, .int 0, .int 0])), (q_1, .inl (cI, 7, .inl (fun _ => 0))), (q_2, .inl (cI, 7, .inl (fun _ => 0))), (q_3, .inl (cI, 7, .inl (fun _ => 0))), (q_4, .inl (cI, 6, .inl (fun _ => 0))), (q_5, .inl (cI, 6, .inl (fun _ => 0))), (q_6, .inl (cI, 6, .inl (fun _ => 0))), (q_7, .inl (cI, 1, .inl (upd (fun _ => 0) 0 1))), (q_8, .inl (cI, 3, .inl (fun _ => 0)))] := hD
  refine W.widen (k := 8) (n := 43) (Nat.le_of_ble_eq_true rfl) (Nat.le_of_ble_eq_true rfl) ?_
  refine lv_dup hx hb dX2_init_102 rfl ?_
  refine lv_iconst (v := 0) hx hb dX2_init_103 (by decide) ?_
  refine lv_sipush (v := 10316) hx hb dX2_init_104 (by decide) ?_
  refine va_iast hx hb hK hP hD hS 8 0 rfl rfl (i := 0) (x := 10316) (by unfold vp_in; decide) dX2_init_107 (fun H locs hP hD hS => ?_)
  have hP : va_P (dC, dI) vwCl [(a_p0, .inr (2, [.int 0, .int 0, .int 0, .int 0, .int 0, .int 0, .int 0, .ref q_1, .ref q_2, .ref q_3, .ref q_4, .ref q_5, .ref q_6, .ref q_7, .null, .null, .int 0, .int 0, .int 0])), (q_1, .inl (cI, 7, .inl (fun _ => 0))), (q_2, .inl (cI, 7, .inl (fun _ => 0))), (q_3, .inl (cI, 7, .inl (fun _ => 0))), (q_4, .inl (cI, 6, .inl (fun _ => 0))), (q_5, .inl (cI, 6, .inl (fun _ => 0))), (q_6, .inl (cI, 6, .inl (fun _ => 0))), (q_7, .inl (cI, 1, .inl (upd (fun _ => 0) 0 1))), (q_8, .inl (cI, 3, .inl (upd (fun _ => 0) 0 10316)))] H := hP
  have hD : va_D A [(a_p0, .inr (2, [.int 0, .int 0, .int 0, .int 0, .int 0, .int 0, .int 0, .ref q_1, .ref q_2, .ref q_3, .ref q_4, .ref q_5, .ref q_6, .ref q_7, .null, .null, .int 0, .int 0, .int 0])), (q_1, .inl (cI, 7, .inl (fun _ => 0))), (q_2, .inl (cI, 7, .inl (fun _ => 0))), (q_3, .inl (cI, 7, .inl (fun _ => 0))), (q_4, .inl (cI, 6, .inl (fun _ => 0))), (q_5, .inl (cI, 6, .inl (fun _ => 0))), (q_6, .inl (cI, 6, .inl (fun _ => 0))), (q_7, .inl (cI, 1, .inl (upd (fun _ => 0) 0 1))), (q_8, .inl (cI, 3, .inl (upd (fun _ => 0) 0 10316)))] := hD
  refine lv_dup hx hb dX2_init_108 rfl ?_
  refine lv_iconst (v := 1) hx hb dX2_init_109 (by decide) ?_
  refine lv_bipush (v := 10) hx hb dX2_init_110 (by decide) ?_
  refine va_iast hx hb hK hP hD hS 8 0 rfl rfl (i := 1) (x := 10) (by unfold vp_in; decide) dX2_init_112 (fun H locs hP hD hS => ?_)
  have hP : va_P (dC, dI) vwCl [(a_p0, .inr (2, [.int 0, .int 0, .int 0, .int 0, .int 0, .int 0, .int 0, .ref q_1, .ref q_2, .ref q_3, .ref q_4, .ref q_5, .ref q_6, .ref q_7, .null, .null, .int 0, .int 0, .int 0])), (q_1, .inl (cI, 7, .inl (fun _ => 0))), (q_2, .inl (cI, 7, .inl (fun _ => 0))), (q_3, .inl (cI, 7, .inl (fun _ => 0))), (q_4, .inl (cI, 6, .inl (fun _ => 0))), (q_5, .inl (cI, 6, .inl (fun _ => 0))), (q_6, .inl (cI, 6, .inl (fun _ => 0))), (q_7, .inl (cI, 1, .inl (upd (fun _ => 0) 0 1))), (q_8, .inl (cI, 3, .inl (upd (upd (fun _ => 0) 0 10316) 1 10)))] H := hP
  have hD : va_D A [(a_p0, .inr (2, [.int 0, .int 0, .int 0, .int 0, .int 0, .int 0, .int 0, .ref q_1, .ref q_2, .ref q_3, .ref q_4, .ref q_5, .ref q_6, .ref q_7, .null, .null, .int 0, .int 0, .int 0])), (q_1, .inl (cI, 7, .inl (fun _ => 0))), (q_2, .inl (cI, 7, .inl (fun _ => 0))), (q_3, .inl (cI, 7, .inl (fun _ => 0))), (q_4, .inl (cI, 6, .inl (fun _ => 0))), (q_5, .inl (cI, 6, .inl (fun _ => 0))), (q_6, .inl (cI, 6, .inl (fun _ => 0))), (q_7, .inl (cI, 1, .inl (upd (fun _ => 0) 0 1))), (q_8, .inl (cI, 3, .inl (upd (upd (fun _ => 0) 0 10316) 1 10)))] := hD
  refine lv_dup hx hb dX2_init_113 rfl ?_
  refine lv_iconst (v := 2) hx hb dX2_init_114 (by decide) ?_
  refine lv_sipush (v := 20060) hx hb dX2_init_115 (by decide) ?_
  refine va_iast hx hb hK hP hD hS 8 0 rfl rfl (i := 2) (x := 20060) (by unfold vp_in; decide) dX2_init_118 (fun H locs hP hD hS => ?_)
  have hP : va_P (dC, dI) vwCl [(a_p0, .inr (2, [.int 0, .int 0, .int 0, .int 0, .int 0, .int 0, .int 0, .ref q_1, .ref q_2, .ref q_3, .ref q_4, .ref q_5, .ref q_6, .ref q_7, .null, .null, .int 0, .int 0, .int 0])), (q_1, .inl (cI, 7, .inl (fun _ => 0))), (q_2, .inl (cI, 7, .inl (fun _ => 0))), (q_3, .inl (cI, 7, .inl (fun _ => 0))), (q_4, .inl (cI, 6, .inl (fun _ => 0))), (q_5, .inl (cI, 6, .inl (fun _ => 0))), (q_6, .inl (cI, 6, .inl (fun _ => 0))), (q_7, .inl (cI, 1, .inl (upd (fun _ => 0) 0 1))), (q_8, .inl (cI, 3, .inl (upd (upd (upd (fun _ => 0) 0 10316) 1 10) 2 20060)))] H := hP
  have hD : va_D A [(a_p0, .inr (2, [.int 0, .int 0, .int 0, .int 0, .int 0, .int 0, .int 0, .ref q_1, .ref q_2, .ref q_3, .ref q_4, .ref q_5, .ref q_6, .ref q_7, .null, .null, .int 0, .int 0, .int 0])), (q_1, .inl (cI, 7, .inl (fun _ => 0))), (q_2, .inl (cI, 7, .inl (fun _ => 0))), (q_3, .inl (cI, 7, .inl (fun _ => 0))), (q_4, .inl (cI, 6, .inl (fun _ => 0))), (q_5, .inl (cI, 6, .inl (fun _ => 0))), (q_6, .inl (cI, 6, .inl (fun _ => 0))), (q_7, .inl (cI, 1, .inl (upd (fun _ => 0) 0 1))), (q_8, .inl (cI, 3, .inl (upd (upd (upd (fun _ => 0) 0 10316) 1 10) 2 20060)))] := hD
  refine va_put (D := (dC, dI)) (ci := 2) (v := .ref q_8) (ty := .array .int) (C := RX2) (T := TX2) (N := 19) hx hb hts hinX2 tyX2 tyX2_ok nmX2 hown hK hP hD hS 0 rfl rfl 14 (by decide) hw19 (fun _ h9 => h9) rfl (by decide +kernel) rfl rfl (Nat.le_of_ble_eq_true rfl) dX2_init_119 (fun H locs hP hD hS => ?_)
  have hP : va_P (dC, dI) vwCl [(a_p0, .inr (2, [.int 0, .int 0, .int 0, .int 0, .int 0, .int 0, .int 0, .ref q_1, .ref q_2, .ref q_3, .ref q_4, .ref q_5, .ref q_6, .ref q_7, .ref q_8, .null, .int 0, .int 0, .int 0])), (q_1, .inl (cI, 7, .inl (fun _ => 0))), (q_2, .inl (cI, 7, .inl (fun _ => 0))), (q_3, .inl (cI, 7, .inl (fun _ => 0))), (q_4, .inl (cI, 6, .inl (fun _ => 0))), (q_5, .inl (cI, 6, .inl (fun _ => 0))), (q_6, .inl (cI, 6, .inl (fun _ => 0))), (q_7, .inl (cI, 1, .inl (upd (fun _ => 0) 0 1))), (q_8, .inl (cI, 3, .inl (upd (upd (upd (fun _ => 0) 0 10316) 1 10) 2 20060)))] H := hP
  have hD : va_D A [(a_p0, .inr (2, [.int 0, .int 0, .int 0, .int 0, .int 0, .int 0, .int 0, .ref q_1, .ref q_2, .ref q_3, .ref q_4, .ref q_5, .ref q_6, .ref q_7, .ref q_8, .null, .int 0, .int 0, .int 0])), (q_1, .inl (cI, 7, .inl (fun _ => 0))), (q_2, .inl (cI, 7, .inl (fun _ => 0))), (q_3, .inl (cI, 7, .inl (fun _ => 0))), (q_4, .inl (cI, 6, .inl (fun _ => 0))), (q_5, .inl (cI, 6, .inl (fun _ => 0))), (q_6, .inl (cI, 6, .inl (fun _ => 0))), (q_7, .inl (cI, 1, .inl (upd (fun _ => 0) 0 1))), (q_8, .inl (cI, 3, .inl (upd (upd (upd (fun _ => 0) 0 10316) 1 10) 2 20060)))] := hD
  refine lv_aload_n hx hb dX2_init_122 rfl (lv_at hl 0 rfl) ?_
  refine lv_iconst (v := 1) hx hb dX2_init_123 (by decide) ?_
  refine xq_newa (atype := .int) (ty := .int) (a0 := (1, .inl (fun _ => 0))) hx hb hw11 rfl hK 0 rfl (fun _ => rfl) hP hD hS hA (fun _ => rfl) (by decide) (by decide) (Nat.le_of_ble_eq_true rfl) (Nat.le_of_ble_eq_true rfl) (Nat.le_of_ble_eq_true rfl) dX2_init_124 (fun q_9 H hP hD hS => ?_)
  have hP : va_P (dC, dI) vwCl [(a_p0, .inr (2, [.int 0, .int 0, .int 0, .int 0, .int 0, .int 0, .int 0, .ref q_1, .ref q_2, .ref q_3, .ref q_4, .ref q_5, .ref q_6, .ref q_7, .ref q_8, .null, .int 0, .int 0, .int 0])), (q_1, .inl (cI, 7, .inl (fun _ => 0))), (q_2, .inl (cI, 7, .inl (fun _ => 0))), (q_3, .inl (cI, 7, .inl (fun _ => 0))), (q_4, .inl (cI, 6, .inl (fun _ => 0))), (q_5, .inl (cI, 6, .inl (fun _ => 0))), (q_6, .inl (cI, 6, .inl (fun _ => 0))), (q_7, .inl (cI, 1, .inl (upd (fun _ => 0) 0 1))), (q_8, .inl (cI, 3, .inl (upd (upd (upd (fun _ => 0) 0 10316) 1 10) 2 20060))), (q_9, .inl (cI, 1, .inl (fun _ => 0)))] H := hP
  have hD : va_D A [(a_p0, .inr (2, [.int 0, .int 0, .int 0, .int 0, .int 0, .int 0, .int 0, .ref q_1, .ref q_2, .ref q_3, .ref q_4, .ref q_5, .ref q_6, .ref q_7, .ref q_8, .null, .int 0, .int 0, .int 0])), (q_1, .inl (cI, 7, .inl (fun _ => 0))), (q_2, .inl (cI, 7, .inl (fun _ => 0))), (q_3, .inl (cI, 7, .inl (fun _ => 0))), (q_4, .inl (cI, 6, .inl (fun _ => 0))), (q_5, .inl (cI, 6, .inl (fun _ => 0))), (q_6, .inl (cI, 6, .inl (fun _ => 0))), (q_7, .inl (cI, 1, .inl (upd (fun _ => 0) 0 1))), (q_8, .inl (cI, 3, .inl (upd (upd (upd (fun _ => 0) 0 10316) 1 10) 2 20060))), (q_9, .inl (cI, 1, .inl (fun _ => 0)))] := hD
  refine W.widen (k := 9) (n := 44) (Nat.le_of_ble_eq_true rfl) (Nat.le_of_ble_eq_true rfl) ?_
  refine lv_dup hx hb dX2_init_126 rfl ?_
  refine lv_iconst (v := 0) hx hb dX2_init_127 (by decide) ?_
  refine lv_sipush (v := 10309) hx hb dX2_init_128 (by decide) ?_
  refine va_iast hx hb hK hP hD hS 9 0 rfl rfl (i := 0) (x := 10309) (by unfold vp_in; decide) dX2_init_131 (fun H locs hP hD hS => ?_)
  have hP : va_P (dC, dI) vwCl [(a_p0, .inr (2, [.int 0, .int 0, .int 0, .int 0, .int 0, .int 0, .int 0, .ref q_1, .ref q_2, .ref q_3, .ref q_4, .ref q_5, .ref q_6, .ref q_7, .ref q_8, .null, .int 0, .int 0, .int 0])), (q_1, .inl (cI, 7, .inl (fun _ => 0))), (q_2, .inl (cI, 7, .inl (fun _ => 0))), (q_3, .inl (cI, 7, .inl (fun _ => 0))), (q_4, .inl (cI, 6, .inl (fun _ => 0))), (q_5, .inl (cI, 6, .inl (fun _ => 0))), (q_6, .inl (cI, 6, .inl (fun _ => 0))), (q_7, .inl (cI, 1, .inl (upd (fun _ => 0) 0 1))), (q_8, .inl (cI, 3, .inl (upd (upd (upd (fun _ => 0) 0 10316) 1 10) 2 20060))), (q_9, .inl (cI, 1, .inl (upd (fun _ => 0) 0 10309)))] H := hP
  have hD : va_D A [(a_p0, .inr (2, [.int 0, .int 0, .int 0, .int 0, .int 0, .int 0, .int 0, .ref q_1, .ref q_2, .ref q_3, .ref q_4, .ref q_5, .ref q_6, .ref q_7, .ref q_8, .null, .int 0, .int 0, .int 0])), (q_1, .inl (cI, 7, .inl (fun _ => 0))), (q_2, .inl (cI, 7, .inl (fun _ => 0))), (q_3, .inl (cI, 7, .inl (fun _ => 0))), (q_4, .inl (cI, 6, .inl (fun _ => 0))), (q_5, .inl (cI, 6, .inl (fun _ => 0))), (q_6, .inl (cI, 6, .inl (fun _ => 0))), (q_7, .inl (cI, 1, .inl (upd (fun _ => 0) 0 1))), (q_8, .inl (cI, 3, .inl (upd (upd (upd (fun _ => 0) 0 10316) 1 10) 2 20060))), (q_9, .inl (cI, 1, .inl (upd (fun _ => 0) 0 10309)))] := hD
  refine va_put (D := (dC, dI)) (ci := 2) (v := .ref q_9) (ty := .array .int) (C := RX2) (T := TX2) (N := 19) hx hb hts hinX2 tyX2 tyX2_ok nmX2 hown hK hP hD hS 0 rfl rfl 15 (by decide) hw20 (fun _ h9 => h9) rfl (by decide +kernel) rfl rfl (Nat.le_of_ble_eq_true rfl) dX2_init_132 (fun H locs hP hD hS => ?_)
  have hP : va_P (dC, dI) vwCl [(a_p0, .inr (2, [.int 0, .int 0, .int 0, .int 0, .int 0, .int 0, .int 0, .ref q_1, .ref q_2, .ref q_3, .ref q_4, .ref q_5, .ref q_6, .ref q_7, .ref q_8, .ref q_9, .int 0, .int 0, .int 0])), (q_1, .inl (cI, 7, .inl (fun _ => 0))), (q_2, .inl (cI, 7, .inl (fun _ => 0))), (q_3, .inl (cI, 7, .inl (fun _ => 0))), (q_4, .inl (cI, 6, .inl (fun _ => 0))), (q_5, .inl (cI, 6, .inl (fun _ => 0))), (q_6, .inl (cI, 6, .inl (fun _ => 0))), (q_7, .inl (cI, 1, .inl (upd (fun _ => 0) 0 1))), (q_8, .inl (cI, 3, .inl (upd (upd (upd (fun _ => 0) 0 10316) 1 10) 2 20060))), (q_9, .inl (cI, 1, .inl (upd (fun _ => 0) 0 10309)))] H := hP
  have hD : va_D A [(a_p0, .inr (2, [.int 0, .int 0, .int 0, .int 0, .int 0, .int 0, .int 0, .ref q_1, .ref q_2, .ref q_3, .ref q_4, .ref q_5, .ref q_6, .ref q_7, .ref q_8, .ref q_9, .int 0, .int 0, .int 0])), (q_1, .inl (cI, 7, .inl (fun _ => 0))), (q_2, .inl (cI, 7, .inl (fun _ => 0))), (q_3, .inl (cI, 7, .inl (fun _ => 0))), (q_4, .inl (cI, 6, .inl (fun _ => 0))), (q_5, .inl (cI, 6, .inl (fun _ => 0))), (q_6, .inl (cI, 6, .inl (fun _ => 0))), (q_7, .inl (cI, 1, .inl (upd (fun _ => 0) 0 1))), (q_8, .inl (cI, 3, .inl (upd (upd (upd (fun _ => 0) 0 10316) 1 10) 2 20060))), (q_9, .inl (cI, 1, .inl (upd (fun _ => 0) 0 10309)))] := hD
  refine lv_aload_n hx hb dX2_init_135 rfl (lv_at hl 0 rfl) ?_
  refine lv_iconst (v := 0) hx hb dX2_init_136 (by decide) ?_
  refine va_put (D := (dC, dI)) (ci := 2) (v := .int 0) (ty := .boolean) (C := RX2) (T := TX2) (N := 19) hx hb hts hinX2 tyX2 tyX2_ok nmX2 hown hK hP hD hS 0 rfl rfl 16 (by decide) hw21 (fun _ h9 => h9) rfl (by decide +kernel) (by decide +kernel) (by decide +kernel) (Nat.le_of_ble_eq_true rfl) dX2_init_137 (fun H locs hP hD hS => ?_)
  have hP : va_P (dC, dI) vwCl [(a_p0, .inr (2, [.int 0, .int 0, .int 0, .int 0, .int 0, .int 0, .int 0, .ref q_1, .ref q_2, .ref q_3, .ref q_4, .ref q_5, .ref q_6, .ref q_7, .ref q_8, .ref q_9, .int 0, .int 0, .int 0])), (q_1, .inl (cI, 7, .inl (fun _ => 0))), (q_2, .inl (cI, 7, .inl (fun _ => 0))), (q_3, .inl (cI, 7, .inl (fun _ => 0))), (q_4, .inl (cI, 6, .inl (fun _ => 0))), (q_5, .inl (cI, 6, .inl (fun _ => 0))), (q_6, .inl (cI, 6, .inl (fun _ => 0))), (q_7, .inl (cI, 1, .inl (upd (fun _ => 0) 0 1))), (q_8, .inl (cI, 3, .inl (upd (upd (upd (fun _ => 0) 0 10316) 1 10) 2 20060))), (q_9, .inl (cI, 1, .inl (upd (fun _ => 0) 0 10309)))] H := hP
  have hD : va_D A [(a_p0, .inr (2, [.int 0, .int 0, .int 0, .int 0, .int 0, .int 0, .int 0, .ref q_1, .ref q_2, .ref q_3, .ref q_4, .ref q_5, .ref q_6, .ref q_7, .ref q_8, .ref q_9, .int 0, .int 0, .int 0])), (q_1, .inl (cI, 7, .inl (fun _ => 0))), (q_2, .inl (cI, 7, .inl (fun _ => 0))), (q_3, .inl (cI, 7, .inl (fun _ => 0))), (q_4, .inl (cI, 6, .inl (fun _ => 0))), (q_5, .inl (cI, 6, .inl (fun _ => 0))), (q_6, .inl (cI, 6, .inl (fun _ => 0))), (q_7, .inl (cI, 1, .inl (upd (fun _ => 0) 0 1))), (q_8, .inl (cI, 3, .inl (upd (upd (upd (fun _ => 0) 0 10316) 1 10) 2 20060))), (q_9, .inl (cI, 1, .inl (upd (fun _ => 0) 0 10309)))] := hD
  refine lv_aload_n hx hb dX2_init_140 rfl (lv_at hl 0 rfl) ?_
  refine lv_iconst (v := 0) hx hb dX2_init_141 (by decide) ?_
  refine va_put (D := (dC, dI)) (ci := 2) (v := .int 0) (ty := .boolean) (C := RX2) (T := TX2) (N := 19) hx hb hts hinX2 tyX2 tyX2_ok nmX2 hown hK hP hD hS 0 rfl rfl 17 (by decide) hw22 (fun _ h9 => h9) rfl (by decide +kernel) (by decide +kernel) (by decide +kernel) (Nat.le_of_ble_eq_true rfl) dX2_init_142 (fun H locs hP hD hS => ?_)
  have hP : va_P (dC, dI) vwCl [(a_p0, .inr (2, [.int 0, .int 0, .int 0, .int 0, .int 0, .int 0, .int 0, .ref q_1, .ref q_2, .ref q_3, .ref q_4, .ref q_5, .ref q_6, .ref q_7, .ref q_8, .ref q_9, .int 0, .int 0, .int 0])), (q_1, .inl (cI, 7, .inl (fun _ => 0))), (q_2, .inl (cI, 7, .inl (fun _ => 0))), (q_3, .inl (cI, 7, .inl (fun _ => 0))), (q_4, .inl (cI, 6, .inl (fun _ => 0))), (q_5, .inl (cI, 6, .inl (fun _ => 0))), (q_6, .inl (cI, 6, .inl (fun _ => 0))), (q_7, .inl (cI, 1, .inl (upd (fun _ => 0) 0 1))), (q_8, .inl (cI, 3, .inl (upd (upd (upd (fun _ => 0) 0 10316) 1 10) 2 20060))), (q_9, .inl (cI, 1, .inl (upd (fun _ => 0) 0 10309)))] H := hP
  have hD : va_D A [(a_p0, .inr (2, [.int 0, .int 0, .int 0, .int 0, .int 0, .int 0, .int 0, .ref q_1, .ref q_2, .ref q_3, .ref q_4, .ref q_5, .ref q_6, .ref q_7, .ref q_8, .ref q_9, .int 0, .int 0, .int 0])), (q_1, .inl (cI, 7, .inl (fun _ => 0))), (q_2, .inl (cI, 7, .inl (fun _ => 0))), (q_3, .inl (cI, 7, .inl (fun _ => 0))), (q_4, .inl (cI, 6, .inl (fun _ => 0))), (q_5, .inl (cI, 6, .inl (fun _ => 0))), (q_6, .inl (cI, 6, .inl (fun _ => 0))), (q_7, .inl (cI, 1, .inl (upd (fun _ => 0) 0 1))), (q_8, .inl (cI, 3, .inl (upd (upd (upd (fun _ => 0) 0 10316) 1 10) 2 20060))), (q_9, .inl (cI, 1, .inl (upd (fun _ => 0) 0 10309)))] := hD
  refine lv_aload_n hx hb dX2_init_145 rfl (lv_at hl 0 rfl) ?_
  refine lv_iconst (v := 0) hx hb dX2_init_146 (by decide) ?_
  refine va_put (D := (dC, dI)) (ci := 2) (v := .int 0) (ty := .boolean) (C := RX2) (T := TX2) (N := 19) hx hb hts hinX2 tyX2 tyX2_ok nmX2 hown hK hP hD hS 0 rfl rfl 18 (by decide) hw23 (fun _ h9 => h9) rfl (by decide +kernel) (by decide +kernel) (by decide +kernel) (Nat.le_of_ble_eq_true rfl) dX2_init_147 (fun H locs hP hD hS => ?_)
  have hP : va_P (dC, dI) vwCl [(a_p0, .inr (2, [.int 0, .int 0, .int 0, .int 0, .int 0, .int 0, .int 0, .ref q_1, .ref q_2, .ref q_3, .ref q_4, .ref q_5, .ref q_6, .ref q_7, .ref q_8, .ref q_9, .int 0, .int 0, .int 0])), (q_1, .inl (cI, 7, .inl (fun _ => 0))), (q_2, .inl (cI, 7, .inl (fun _ => 0))), (q_3, .inl (cI, 7, .inl (fun _ => 0))), (q_4, .inl (cI, 6, .inl (fun _ => 0))), (q_5, .inl (cI, 6, .inl (fun _ => 0))), (q_6, .inl (cI, 6, .inl (fun _ => 0))), (q_7, .inl (cI, 1, .inl (upd (fun _ => 0) 0 1))), (q_8, .inl (cI, 3, .inl (upd (upd (upd (fun _ => 0) 0 10316) 1 10) 2 20060))), (q_9, .inl (cI, 1, .inl (upd (fun _ => 0) 0 10309)))] H := hP
  have hD : va_D A [(a_p0, .inr (2, [.int 0, .int 0, .int 0, .int 0, .int 0, .int 0, .int 0, .ref q_1, .ref q_2, .ref q_3, .ref q_4, .ref q_5, .ref q_6, .ref q_7, .ref q_8, .ref q_9, .int 0, .int 0, .int 0])), (q_1, .inl (cI, 7, .inl (fun _ => 0))), (q_2, .inl (cI, 7, .inl (fun _ => 0))), (q_3, .inl (cI, 7, .inl (fun _ => 0))), (q_4, .inl (cI, 6, .inl (fun _ => 0))), (q_5, .inl (cI, 6, .inl (fun _ => 0))), (q_6, .inl (cI, 6, .inl (fun _ => 0))), (q_7, .inl (cI, 1, .inl (upd (fun _ => 0) 0 1))), (q_8, .inl (cI, 3, .inl (upd (upd (upd (fun _ => 0) 0 10316) 1 10) 2 20060))), (q_9, .inl (cI, 1, .inl (upd (fun _ => 0) 0 10309)))] := hD
  exact xq_vretA (va_up (fun _ _ => 0) 0 (va_up (va_up (va_up (va_up (va_up (va_up (va_up (va_up (va_up (fun _ => 0) 7 q_1) 8 q_2) 9 q_3) 10 q_4) 11 q_5) 12 q_6) 13 q_7) 14 q_8) 15 q_9)) rfl hx hb hr hlocks hK (hP.sub [0, 1, 2, 3, 4, 5, 6, 7, 8, 9] rfl) (hD.sub [0, 1, 2, 3, 4, 5, 6, 7, 8, 9] (by decide) rfl) hS dX2_init_150
