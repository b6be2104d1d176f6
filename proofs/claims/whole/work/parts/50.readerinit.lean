def dsX10_init_0 : List (Nat × Instr × Nat) := [(0, (.aload_n 0, 1)), (1, (.invokespecial 3, 3)), (4, (.aload_n 0, 1)), (5, (.iconst 0, 1)), (6, (.putfield 9, 3)), (9, (.aload_n 0, 1)), (10, (.iconst 0, 1)), (11, (.putfield 15, 3)), (14, (.aload_n 0, 1)), (15, (.iconst 0, 1)), (16, (.putfield 18, 3)), (19, (.aload_n 0, 1)), (20, (.iconst (-1), 1)), (21, (.putfield 21, 3)), (24, (.aload_n 0, 1)), (25, (.aload_n 1, 1)), (26, (.putfield 24, 3)), (29, (.aload_n 0, 1)), (30, (.aload_n 1, 1)), (31, (.getfield 28, 3)), (34, (.iconst 1, 1)), (35, (.iadd, 1)), (36, (.newarray .int, 2)), (38, (.putfield 33, 3)), (41, (.aload_n 0, 1)), (42, (.aload_n 1, 1)), (43, (.getfield 28, 3)), (46, (.iconst 1, 1)), (47, (.iadd, 1)), (48, (.newarray .int, 2)), (50, (.putfield 37, 3)), (53, (.aload_n 0, 1)), (54, (.aload_n 1, 1)), (55, (.getfield 28, 3)), (58, (.iconst 1, 1)), (59, (.iadd, 1)), (60, (.newarray .int, 2)), (62, (.putfield 40, 3)), (65, (.return_, 1))]
theorem dsX10_init_0_ok : (dsX10_init_0.all fun q => decide (decode cX10_init q.1 = .ok q.2)) = true := by decide +kernel
theorem dX10_init_0 : decode cX10_init 0 = .ok (.aload_n 0, 1) := of_decide_eq_true (List.all_eq_true.mp dsX10_init_0_ok (0, (.aload_n 0, 1)) (List.mem_of_getElem? (i := 0) rfl))
theorem dX10_init_1 : decode cX10_init 1 = .ok (.invokespecial 3, 3) := of_decide_eq_true (List.all_eq_true.mp dsX10_init_0_ok (1, (.invokespecial 3, 3)) (List.mem_of_getElem? (i := 1) rfl))
theorem dX10_init_4 : decode cX10_init 4 = .ok (.aload_n 0, 1) := of_decide_eq_true (List.all_eq_true.mp dsX10_init_0_ok (4, (.aload_n 0, 1)) (List.mem_of_getElem? (i := 2) rfl))
theorem dX10_init_5 : decode cX10_init 5 = .ok (.iconst 0, 1) := of_decide_eq_true (List.all_eq_true.mp dsX10_init_0_ok (5, (.iconst 0, 1)) (List.mem_of_getElem? (i := 3) rfl))
theorem dX10_init_6 : decode cX10_init 6 = .ok (.putfield 9, 3) := of_decide_eq_true (List.all_eq_true.mp dsX10_init_0_ok (6, (.putfield 9, 3)) (List.mem_of_getElem? (i := 4) rfl))
theorem dX10_init_9 : decode cX10_init 9 = .ok (.aload_n 0, 1) := of_decide_eq_true (List.all_eq_true.mp dsX10_init_0_ok (9, (.aload_n 0, 1)) (List.mem_of_getElem? (i := 5) rfl))
theorem dX10_init_10 : decode cX10_init 10 = .ok (.iconst 0, 1) := of_decide_eq_true (List.all_eq_true.mp dsX10_init_0_ok (10, (.iconst 0, 1)) (List.mem_of_getElem? (i := 6) rfl))
theorem dX10_init_11 : decode cX10_init 11 = .ok (.putfield 15, 3) := of_decide_eq_true (List.all_eq_true.mp dsX10_init_0_ok (11, (.putfield 15, 3)) (List.mem_of_getElem? (i := 7) rfl))
theorem dX10_init_14 : decode cX10_init 14 = .ok (.aload_n 0, 1) := of_decide_eq_true (List.all_eq_true.mp dsX10_init_0_ok (14, (.aload_n 0, 1)) (List.mem_of_getElem? (i := 8) rfl))
theorem dX10_init_15 : decode cX10_init 15 = .ok (.iconst 0, 1) := of_decide_eq_true (List.all_eq_true.mp dsX10_init_0_ok (15, (.iconst 0, 1)) (List.mem_of_getElem? (i := 9) rfl))
theorem dX10_init_16 : decode cX10_init 16 = .ok (.putfield 18, 3) := of_decide_eq_true (List.all_eq_true.mp dsX10_init_0_ok (16, (.putfield 18, 3)) (List.mem_of_getElem? (i := 10) rfl))
theorem dX10_init_19 : decode cX10_init 19 = .ok (.aload_n 0, 1) := of_decide_eq_true (List.all_eq_true.mp dsX10_init_0_ok (19, (.aload_n 0, 1)) (List.mem_of_getElem? (i := 11) rfl))
theorem dX10_init_20 : decode cX10_init 20 = .ok (.iconst (-1), 1) := of_decide_eq_true (List.all_eq_true.mp dsX10_init_0_ok (20, (.iconst (-1), 1)) (List.mem_of_getElem? (i := 12) rfl))
theorem dX10_init_21 : decode cX10_init 21 = .ok (.putfield 21, 3) := of_decide_eq_true (List.all_eq_true.mp dsX10_init_0_ok (21, (.putfield 21, 3)) (List.mem_of_getElem? (i := 13) rfl))
theorem dX10_init_24 : decode cX10_init 24 = .ok (.aload_n 0, 1) := of_decide_eq_true (List.all_eq_true.mp dsX10_init_0_ok (24, (.aload_n 0, 1)) (List.mem_of_getElem? (i := 14) rfl))
theorem dX10_init_25 : decode cX10_init 25 = .ok (.aload_n 1, 1) := of_decide_eq_true (List.all_eq_true.mp dsX10_init_0_ok (25, (.aload_n 1, 1)) (List.mem_of_getElem? (i := 15) rfl))
theorem dX10_init_26 : decode cX10_init 26 = .ok (.putfield 24, 3) := of_decide_eq_true (List.all_eq_true.mp dsX10_init_0_ok (26, (.putfield 24, 3)) (List.mem_of_getElem? (i := 16) rfl))
theorem dX10_init_29 : decode cX10_init 29 = .ok (.aload_n 0, 1) := of_decide_eq_true (List.all_eq_true.mp dsX10_init_0_ok (29, (.aload_n 0, 1)) (List.mem_of_getElem? (i := 17) rfl))
theorem dX10_init_30 : decode cX10_init 30 = .ok (.aload_n 1, 1) := of_decide_eq_true (List.all_eq_true.mp dsX10_init_0_ok (30, (.aload_n 1, 1)) (List.mem_of_getElem? (i := 18) rfl))
theorem dX10_init_31 : decode cX10_init 31 = .ok (.getfield 28, 3) := of_decide_eq_true (List.all_eq_true.mp dsX10_init_0_ok (31, (.getfield 28, 3)) (List.mem_of_getElem? (i := 19) rfl))
theorem dX10_init_34 : decode cX10_init 34 = .ok (.iconst 1, 1) := of_decide_eq_true (List.all_eq_true.mp dsX10_init_0_ok (34, (.iconst 1, 1)) (List.mem_of_getElem? (i := 20) rfl))
theorem dX10_init_35 : decode cX10_init 35 = .ok (.iadd, 1) := of_decide_eq_true (List.all_eq_true.mp dsX10_init_0_ok (35, (.iadd, 1)) (List.mem_of_getElem? (i := 21) rfl))
theorem dX10_init_36 : decode cX10_init 36 = .ok (.newarray .int, 2) := of_decide_eq_true (List.all_eq_true.mp dsX10_init_0_ok (36, (.newarray .int, 2)) (List.mem_of_getElem? (i := 22) rfl))
theorem dX10_init_38 : decode cX10_init 38 = .ok (.putfield 33, 3) := of_decide_eq_true (List.all_eq_true.mp dsX10_init_0_ok (38, (.putfield 33, 3)) (List.mem_of_getElem? (i := 23) rfl))
theorem dX10_init_41 : decode cX10_init 41 = .ok (.aload_n 0, 1) := of_decide_eq_true (List.all_eq_true.mp dsX10_init_0_ok (41, (.aload_n 0, 1)) (List.mem_of_getElem? (i := 24) rfl))
theorem dX10_init_42 : decode cX10_init 42 = .ok (.aload_n 1, 1) := of_decide_eq_true (List.all_eq_true.mp dsX10_init_0_ok (42, (.aload_n 1, 1)) (List.mem_of_getElem? (i := 25) rfl))
theorem dX10_init_43 : decode cX10_init 43 = .ok (.getfield 28, 3) := of_decide_eq_true (List.all_eq_true.mp dsX10_init_0_ok (43, (.getfield 28, 3)) (List.mem_of_getElem? (i := 26) rfl))
theorem dX10_init_46 : decode cX10_init 46 = .ok (.iconst 1, 1) := of_decide_eq_true (List.all_eq_true.mp dsX10_init_0_ok (46, (.iconst 1, 1)) (List.mem_of_getElem? (i := 27) rfl))
theorem dX10_init_47 : decode cX10_init 47 = .ok (.iadd, 1) := of_decide_eq_true (List.all_eq_true.mp dsX10_init_0_ok (47, (.iadd, 1)) (List.mem_of_getElem? (i := 28) rfl))
theorem dX10_init_48 : decode cX10_init 48 = .ok (.newarray .int, 2) := of_decide_eq_true (List.all_eq_true.mp dsX10_init_0_ok (48, (.newarray .int, 2)) (List.mem_of_getElem? (i := 29) rfl))
theorem dX10_init_50 : decode cX10_init 50 = .ok (.putfield 37, 3) := of_decide_eq_true (List.all_eq_true.mp dsX10_init_0_ok (50, (.putfield 37, 3)) (List.mem_of_getElem? (i := 30) rfl))
theorem dX10_init_53 : decode cX10_init 53 = .ok (.aload_n 0, 1) := of_decide_eq_true (List.all_eq_true.mp dsX10_init_0_ok (53, (.aload_n 0, 1)) (List.mem_of_getElem? (i := 31) rfl))
theorem dX10_init_54 : decode cX10_init 54 = .ok (.aload_n 1, 1) := of_decide_eq_true (List.all_eq_true.mp dsX10_init_0_ok (54, (.aload_n 1, 1)) (List.mem_of_getElem? (i := 32) rfl))
theorem dX10_init_55 : decode cX10_init 55 = .ok (.getfield 28, 3) := of_decide_eq_true (List.all_eq_true.mp dsX10_init_0_ok (55, (.getfield 28, 3)) (List.mem_of_getElem? (i := 33) rfl))
theorem dX10_init_58 : decode cX10_init 58 = .ok (.iconst 1, 1) := of_decide_eq_true (List.all_eq_true.mp dsX10_init_0_ok (58, (.iconst 1, 1)) (List.mem_of_getElem? (i := 34) rfl))
theorem dX10_init_59 : decode cX10_init 59 = .ok (.iadd, 1) := of_decide_eq_true (List.all_eq_true.mp dsX10_init_0_ok (59, (.iadd, 1)) (List.mem_of_getElem? (i := 35) rfl))
theorem dX10_init_60 : decode cX10_init 60 = .ok (.newarray .int, 2) := of_decide_eq_true (List.all_eq_true.mp dsX10_init_0_ok (60, (.newarray .int, 2)) (List.mem_of_getElem? (i := 36) rfl))
theorem dX10_init_62 : decode cX10_init 62 = .ok (.putfield 40, 3) := of_decide_eq_true (List.all_eq_true.mp dsX10_init_0_ok (62, (.putfield 40, 3)) (List.mem_of_getElem? (i := 37) rfl))
theorem dX10_init_65 : decode cX10_init 65 = .ok (.return_, 1) := of_decide_eq_true (List.all_eq_true.mp dsX10_init_0_ok (65, (.return_, 1)) (List.mem_of_getElem? (i := 38) rfl))
set_option maxHeartbeats 4000000 in
set_option maxRecDepth 100000 in
theorem kX10_init (l : Launch) (dC : Nat → ClassId) (dI : Nat → Nat → Nat) (cI cB cJ cZ cM : ClassId) (z : Nat) (ad : Nat → Nat) (a_p0 a_p1 : Nat) (taI : Nat → Int32) (taR : Nat → Nat) (nT : Nat) (hn : ¬ taI 1 + 1 < 0) (hN1 : (taI 1 + 1).toNatClampNeg = nT) (hby : nT * 4 ≤ 536870912) : xq_CtA l yX10_init wsX10_init { frames := 1, cells := 3, slots := 0 + 3 * nT, locals := 20 } (dC, dI) vwCl (xq_tys cI cB cJ cZ cM) z ad [.ref a_p0, .ref a_p1] [(a_p0, .inr (10, [.null, .null, .null, .null, .int 0, .int 0, .int 0, .int 0])), (a_p1, .inr (9, oX9 taI taR))] (fun q => [(a_p0, .inr (10, oX10 (va_up (fun _ => 0) 7 (-1)) (va_up (q 0) 0 a_p1))), ((q 0 1), .inl (cI, nT, .inl (fun _ => 0))), ((q 0 2), .inl (cI, nT, .inl (fun _ => 0))), ((q 0 3), .inl (cI, nT, .inl (fun _ => 0))), (a_p1, .inr (9, oX9 taI taR))]) (fun _ => none) 3 (0 + 3 * nT) := by
  intro sz
  refine Met.ofW (cc := cX10_init) (maxL := 2) (ret := none) (by decide) rfl ?_
  intro p e s m args below meth c s₁ B hml hv
  obtain ⟨rfl, hsz, hP, hK, hD0, hE, hz⟩ := hv
  have hx := B.exec
  have hb := B.bytes
  have hr := B.returns
  have hts := atoms_spec (ws := wsX10_init) B.pre
  have hown : s.vm.findClass RX10 = some m.cls := findClass_of_methodNamed B.named
  have hlocks := B.notSynchronized
  have hin : meth.name = "<init>" := (name_of_methodNamed B.named B.method).1
  subst hsz
  have hD := hD0.self (sz := s.heap.size)
  have hN := xq_Env.of hE hz hD0
  generalize hAe : va_A [(a_p0, .inr (10, [.null, .null, .null, .null, .int 0, .int 0, .int 0, .int 0])), (a_p1, .inr (9, oX9 taI taR))] s.heap.size = A at hD hN ⊢
  have hA : ∀ q : Nat, s.heap.size ≤ q → A q := fun q h => by rw [← hAe]; exact Or.inr h
  clear hAe hD0
  have hS : va_S A s.heap s.heap [] := va_S.rf
  have hl := lv_entry ([.ref a_p0, .ref a_p1]) (n := 2) (Nat.le_of_ble_eq_true rfl)
  rw [lg_entry_eq]
  generalize (lg_sl ([.ref a_p0, .ref a_p1]) ++ List.replicate (2 - (lg_sl ([.ref a_p0, .ref a_p1])).length) Slot.unset).toArray = ls at hl ⊢
  have hl : lv_has ls 2 [(0, .ref a_p0), (1, .ref a_p1)] := hl
  have hw0 := hts (.methodLink RX10 3 objectInit) (by decide +kernel)
  have hw1 := hts (.instanceMethod objectInit) (by decide +kernel)
  have hw2 := hts (.code objectInit ⟨#[0xb1]⟩ 1 none) (by decide +kernel)
  have hw3 := hts (.fieldLink RX10 9 "DistantVoice$Text" "count" "I") (by decide +kernel)
  have hinX10 : ∀ w ∈ wsX100, w ∈ wsX10_init := fun w h => List.mem_cons_of_mem _ (List.mem_append_left _ (List.mem_append_right _ h))
  have hw5 := hts (.fieldLink RX10 15 "DistantVoice$Text" "current" "I") (by decide +kernel)
  have hw6 := hts (.fieldLink RX10 18 "DistantVoice$Text" "fault" "I") (by decide +kernel)
  have hw7 := hts (.fieldLink RX10 21 "DistantVoice$Text" "faultAt" "I") (by decide +kernel)
  have hw8 := hts (.fieldLink RX10 24 "DistantVoice$Text" "tape" "LDistantVoice$Tape;") (by decide +kernel)
  have hnf0 := va_Nw.use (A := [.ref a_p0, .ref a_p1].toArray) rfl (hN.1.1.1 ("DistantVoice$Text", 28, "DistantVoice$Tape", "length", "I", "DistantVoice") (List.mem_of_getElem? (i := 0) rfl))
  have hinX9 : ∀ w ∈ wsX90, w ∈ wsX10_init := fun w h => List.mem_cons_of_mem _ (List.mem_append_right _ h)
  have hw11 := hts (.arrayClass .int) (by decide +kernel)
  have hw12 := hts (.fieldLink RX10 33 "DistantVoice$Text" "kinds" "[I") (by decide +kernel)
  have hw13 := hts (.fieldLink RX10 37 "DistantVoice$Text" "starts" "[I") (by decide +kernel)
  have hw14 := hts (.fieldLink RX10 40 "DistantVoice$Text" "values" "[I") (by decide +kernel)
  refine lv_aload_n hx hb dX10_init_0 rfl (lv_at hl 0 rfl) ?_
  refine W.objInit hx hb hown hw0 hw1 hw2 rfl (by rw [hml]; exact hl.1) rfl dX10_init_1 (Nat.le_of_ble_eq_true rfl) (Nat.le_of_ble_eq_true rfl) ?_
  refine W.eq (g2 := F0 m 4 ls []) rfl ?_
  refine lv_aload_n hx hb dX10_init_4 rfl (lv_at hl 0 rfl) ?_
  refine lv_iconst (v := 0) hx hb dX10_init_5 (by decide) ?_
  refine va_put (D := (dC, dI)) (ci := 10) (v := .int 0) (ty := .int) (C := RX10) (T := TX10) (N := 8) hx hb hts hinX10 tyX10 tyX10_ok nmX10 hown hK hP hD hS 0 rfl rfl 4 (by decide) hw3 (fun _ h9 => h9) rfl (by decide +kernel) rfl rfl (Nat.le_of_ble_eq_true rfl) dX10_init_6 (fun H locs hP hD hS => ?_)
  have hP : va_P (dC, dI) vwCl [(a_p0, .inr (10, [.null, .null, .null, .null, .int 0, .int 0, .int 0, .int 0])), (a_p1, .inr (9, oX9 taI taR))] H := hP
  have hD : va_D A [(a_p0, .inr (10, [.null, .null, .null, .null, .int 0, .int 0, .int 0, .int 0])), (a_p1, .inr (9, oX9 taI taR))] := hD
  refine lv_aload_n hx hb dX10_init_9 rfl (lv_at hl 0 rfl) ?_
  refine lv_iconst (v := 0) hx hb dX10_init_10 (by decide) ?_
  refine va_put (D := (dC, dI)) (ci := 10) (v := .int 0) (ty := .int) (C := RX10) (T := TX10) (N := 8) hx hb hts hinX10 tyX10 tyX10_ok nmX10 hown hK hP hD hS 0 rfl rfl 5 (by decide) hw5 (fun _ h9 => h9) rfl (by decide +kernel) rfl rfl (Nat.le_of_ble_eq_true rfl) dX10_init_11 (fun H locs hP hD hS => ?_)
  have hP : va_P (dC, dI) vwCl [(a_p0, .inr (10, [.null, .null, .null, .null, .int 0, .int 0, .int 0, .int 0])), (a_p1, .inr (9, oX9 taI taR))] H := hP
  have hD : va_D A [(a_p0, .inr (10, [.null, .null, .null, .null, .int 0, .int 0, .int 0, .int 0])), (a_p1, .inr (9, oX9 taI taR))] := hD
  refine lv_aload_n hx hb dX10_init_14 rfl (lv_at hl 0 rfl) ?_
  refine lv_iconst (v := 0) hx hb dX10_init_15 (by decide) ?_
  refine va_put (D := (dC, dI)) (ci := 10) (v := .int 0) (ty := .int) (C := RX10) (T := TX10) (N := 8) hx hb hts hinX10 tyX10 tyX10_ok nmX10 hown hK hP hD hS 0 rfl rfl 6 (by decide) hw6 (fun _ h9 => h9) rfl (by decide +kernel) rfl rfl (Nat.le_of_ble_eq_true rfl) dX10_init_16 (fun H locs hP hD hS => ?_)
  have hP : va_P (dC, dI) vwCl [(a_p0, .inr (10, [.null, .null, .null, .null, .int 0, .int 0, .int 0, .int 0])), (a_p1, .inr (9, oX9 taI taR))] H := hP
  have hD : va_D A [(a_p0, .inr (10, [.null, .null, .null, .null, .int 0, .int 0, .int 0, .int 0])), (a_p1, .inr (9, oX9 taI taR))] := hD
  refine lv_aload_n hx hb dX10_init_19 rfl (lv_at hl 0 rfl) ?_
  refine lv_iconst (v := (-1)) hx hb dX10_init_20 (by decide) ?_
  refine va_put (D := (dC, dI)) (ci := 10) (v := .int ((-1))) (ty := .int) (C := RX10) (T := TX10) (N := 8) hx hb hts hinX10 tyX10 tyX10_ok nmX10 hown hK hP hD hS 0 rfl rfl 7 (by decide) hw7 (fun _ h9 => h9) rfl (by decide +kernel) rfl rfl (Nat.le_of_ble_eq_true rfl) dX10_init_21 (fun H locs hP hD hS => ?_)
  have hP : va_P (dC, dI) vwCl [(a_p0, .inr (10, [.null, .null, .null, .null, .int 0, .int 0, .int 0, .int ((-1))])), (a_p1, .inr (9, oX9 taI taR))] H := hP
  have hD : va_D A [(a_p0, .inr (10, [.null, .null, .null, .null, .int 0, .int 0, .int 0, .int ((-1))])), (a_p1, .inr (9, oX9 taI taR))] := hD
  refine lv_aload_n hx hb dX10_init_24 rfl (lv_at hl 0 rfl) ?_
  refine lv_aload_n hx hb dX10_init_25 rfl (lv_at hl 1 rfl) ?_
  refine va_putF (D := (dC, dI)) (ci := 10) (v := .ref a_p1) (ty := .object "DistantVoice$Tape") (C := RX10) (T := TX10) (N := 8) hx hb hts hinX10 tyX10 tyX10_ok nmX10 hown hK hP hD hS 0 rfl rfl 0 (by decide) hw8 (fun _ h9 => h9) rfl hin rfl (by decide +kernel) rfl rfl (Nat.le_of_ble_eq_true rfl) dX10_init_26 (fun H locs hP hD hS => ?_)
  have hP : va_P (dC, dI) vwCl [(a_p0, .inr (10, [.ref a_p1, .null, .null, .null, .int 0, .int 0, .int 0, .int ((-1))])), (a_p1, .inr (9, oX9 taI taR))] H := hP
  have hD : va_D A [(a_p0, .inr (10, [.ref a_p1, .null, .null, .null, .int 0, .int 0, .int 0, .int ((-1))])), (a_p1, .inr (9, oX9 taI taR))] := hD
  refine lv_aload_n hx hb dX10_init_29 rfl (lv_at hl 0 rfl) ?_
  refine lv_aload_n hx hb dX10_init_30 rfl (lv_at hl 1 rfl) ?_
  refine va_getN (D := (dC, dI)) (ci := 9) (v := .int (taI 1)) (C := RX9) (T := TX9) (N := 2) hx hb hts hinX9 hown hK hP 1 rfl rfl 1 (by decide) hnf0 (fun _ h9 => h9) rfl dX10_init_31 ?_
  refine lv_iconst (v := 1) hx hb dX10_init_34 (by decide) ?_
  refine lv_iadd hx hb dX10_init_35 ?_
  refine xq_newa (atype := .int) (ty := .int) (a0 := (nT, .inl (fun _ => 0))) hx hb hw11 rfl hK 0 rfl (fun _ => rfl) hP hD hS hA (fun _ => rfl) hn hN1 hby (Nat.le_of_ble_eq_true rfl) (by show 0 + nT ≤ 0 + 3 * nT; omega) dX10_init_36 (fun q_1 H hP hD hS => ?_)
  have hP : va_P (dC, dI) vwCl [(a_p0, .inr (10, [.ref a_p1, .null, .null, .null, .int 0, .int 0, .int 0, .int ((-1))])), (a_p1, .inr (9, oX9 taI taR)), (q_1, .inl (cI, nT, .inl (fun _ => 0)))] H := hP
  have hD : va_D A [(a_p0, .inr (10, [.ref a_p1, .null, .null, .null, .int 0, .int 0, .int 0, .int ((-1))])), (a_p1, .inr (9, oX9 taI taR)), (q_1, .inl (cI, nT, .inl (fun _ => 0)))] := hD
  refine W.widen (k := 1) (n := 0 + 1 * nT) (Nat.le_of_ble_eq_true rfl) (by omega) ?_
  refine va_putF (D := (dC, dI)) (ci := 10) (v := .ref q_1) (ty := .array .int) (C := RX10) (T := TX10) (N := 8) hx hb hts hinX10 tyX10 tyX10_ok nmX10 hown hK hP hD hS 0 rfl rfl 1 (by decide) hw12 (fun _ h9 => h9) rfl hin rfl (by decide +kernel) rfl rfl (Nat.le_of_ble_eq_true rfl) dX10_init_38 (fun H locs hP hD hS => ?_)
  have hP : va_P (dC, dI) vwCl [(a_p0, .inr (10, [.ref a_p1, .ref q_1, .null, .null, .int 0, .int 0, .int 0, .int ((-1))])), (a_p1, .inr (9, oX9 taI taR)), (q_1, .inl (cI, nT, .inl (fun _ => 0)))] H := hP
  have hD : va_D A [(a_p0, .inr (10, [.ref a_p1, .ref q_1, .null, .null, .int 0, .int 0, .int 0, .int ((-1))])), (a_p1, .inr (9, oX9 taI taR)), (q_1, .inl (cI, nT, .inl (fun _ => 0)))] := hD
  refine lv_aload_n hx hb dX10_init_41 rfl (lv_at hl 0 rfl) ?_
  refine lv_aload_n hx hb dX10_init_42 rfl (lv_at hl 1 rfl) ?_
  refine va_getN (D := (dC, dI)) (ci := 9) (v := .int (taI 1)) (C := RX9) (T := TX9) (N := 2) hx hb hts hinX9 hown hK hP 1 rfl rfl 1 (by decide) hnf0 (fun _ h9 => h9) rfl dX10_init_43 ?_
  refine lv_iconst (v := 1) hx hb dX10_init_46 (by decide) ?_
  refine lv_iadd hx hb dX10_init_47 ?_
  refine xq_newa (atype := .int) (ty := .int) (a0 := (nT, .inl (fun _ => 0))) hx hb hw11 rfl hK 0 rfl (fun _ => rfl) hP hD hS hA (fun _ => rfl) hn hN1 hby (Nat.le_of_ble_eq_true rfl) (by show 0 + 1 * nT + nT ≤ 0 + 3 * nT; omega) dX10_init_48 (fun q_2 H hP hD hS => ?_)
  have hP : va_P (dC, dI) vwCl [(a_p0, .inr (10, [.ref a_p1, .ref q_1, .null, .null, .int 0, .int 0, .int 0, .int ((-1))])), (a_p1, .inr (9, oX9 taI taR)), (q_1, .inl (cI, nT, .inl (fun _ => 0))), (q_2, .inl (cI, nT, .inl (fun _ => 0)))] H := hP
  have hD : va_D A [(a_p0, .inr (10, [.ref a_p1, .ref q_1, .null, .null, .int 0, .int 0, .int 0, .int ((-1))])), (a_p1, .inr (9, oX9 taI taR)), (q_1, .inl (cI, nT, .inl (fun _ => 0))), (q_2, .inl (cI, nT, .inl (fun _ => 0)))] := hD
  refine W.widen (k := 2) (n := 0 + 2 * nT) (Nat.le_of_ble_eq_true rfl) (by omega) ?_
  refine va_putF (D := (dC, dI)) (ci := 10) (v := .ref q_2) (ty := .array .int) (C := RX10) (T := TX10) (N := 8) hx hb hts hinX10 tyX10 tyX10_ok nmX10 hown hK hP hD hS 0 rfl rfl 2 (by decide) hw13 (fun _ h9 => h9) rfl hin rfl (by decide +kernel) rfl rfl (Nat.le_of_ble_eq_true rfl) dX10_init_50 (fun H locs hP hD hS => ?_)
  have hP : va_P (dC, dI) vwCl [(a_p0, .inr (10, [.ref a_p1, .ref q_1, .ref q_2, .null, .int 0, .int 0, .int 0, .int ((-1))])), (a_p1, .inr (9, oX9 taI taR)), (q_1, .inl (cI, nT, .inl (fun _ => 0))), (q_2, .inl (cI, nT, .inl (fun _ => 0)))] H := hP
  have hD : va_D A [(a_p0, .inr (10, [.ref a_p1, .ref q_1, .ref q_2, .null, .int 0, .int 0, .int 0, .int ((-1))])), (a_p1, .inr (9, oX9 taI taR)), (q_1, .inl (cI, nT, .inl (fun _ => 0))), (q_2, .inl (cI, nT, .inl (fun _ => 0)))] := hD
  refine lv_aload_n hx hb dX10_init_53 rfl (lv_at hl 0 rfl) ?_
  refine lv_aload_n hx hb dX10_init_54 rfl (lv_at hl 1 rfl) ?_
  refine va_getN (D := (dC, dI)) (ci := 9) (v := .int (taI 1)) (C := RX9) (T := TX9) (N := 2) hx hb hts hinX9 hown hK hP 1 rfl rfl 1 (by decide) hnf0 (fun _ h9 => h9) rfl dX10_init_55 ?_
  refine lv_iconst (v := 1) hx hb dX10_init_58 (by decide) ?_
  refine lv_iadd hx hb dX10_init_59 ?_
  refine xq_newa (atype := .int) (ty := .int) (a0 := (nT, .inl (fun _ => 0))) hx hb hw11 rfl hK 0 rfl (fun _ => rfl) hP hD hS hA (fun _ => rfl) hn hN1 hby (Nat.le_of_ble_eq_true rfl) (by show 0 + 2 * nT + nT ≤ 0 + 3 * nT; omega) dX10_init_60 (fun q_3 H hP hD hS => ?_)
  have hP : va_P (dC, dI) vwCl [(a_p0, .inr (10, [.ref a_p1, .ref q_1, .ref q_2, .null, .int 0, .int 0, .int 0, .int ((-1))])), (a_p1, .inr (9, oX9 taI taR)), (q_1, .inl (cI, nT, .inl (fun _ => 0))), (q_2, .inl (cI, nT, .inl (fun _ => 0))), (q_3, .inl (cI, nT, .inl (fun _ => 0)))] H := hP
  have hD : va_D A [(a_p0, .inr (10, [.ref a_p1, .ref q_1, .ref q_2, .null, .int 0, .int 0, .int 0, .int ((-1))])), (a_p1, .inr (9, oX9 taI taR)), (q_1, .inl (cI, nT, .inl (fun _ => 0))), (q_2, .inl (cI, nT, .inl (fun _ => 0))), (q_3, .inl (cI, nT, .inl (fun _ => 0)))] := hD
  refine W.widen (k := 3) (n := 0 + 3 * nT) (Nat.le_of_ble_eq_true rfl) (by omega) ?_
  refine va_putF (D := (dC, dI)) (ci := 10) (v := .ref q_3) (ty := .array .int) (C := RX10) (T := TX10) (N := 8) hx hb hts hinX10 tyX10 tyX10_ok nmX10 hown hK hP hD hS 0 rfl rfl 3 (by decide) hw14 (fun _ h9 => h9) rfl hin rfl (by decide +kernel) rfl rfl (Nat.le_of_ble_eq_true rfl) dX10_init_62 (fun H locs hP hD hS => ?_)
  have hP : va_P (dC, dI) vwCl [(a_p0, .inr (10, [.ref a_p1, .ref q_1, .ref q_2, .ref q_3, .int 0, .int 0, .int 0, .int ((-1))])), (a_p1, .inr (9, oX9 taI taR)), (q_1, .inl (cI, nT, .inl (fun _ => 0))), (q_2, .inl (cI, nT, .inl (fun _ => 0))), (q_3, .inl (cI, nT, .inl (fun _ => 0)))] H := hP
  have hD : va_D A [(a_p0, .inr (10, [.ref a_p1, .ref q_1, .ref q_2, .ref q_3, .int 0, .int 0, .int 0, .int ((-1))])), (a_p1, .inr (9, oX9 taI taR)), (q_1, .inl (cI, nT, .inl (fun _ => 0))), (q_2, .inl (cI, nT, .inl (fun _ => 0))), (q_3, .inl (cI, nT, .inl (fun _ => 0)))] := hD
  exact xq_vretA (va_up (fun _ _ => 0) 0 (va_up (va_up (va_up (fun _ => 0) 1 q_1) 2 q_2) 3 q_3)) rfl hx hb hr hlocks hK (hP.sub [0, 2, 3, 4, 1] rfl) (hD.sub [0, 2, 3, 4, 1] (by decide) rfl) hS dX10_init_65
def dsX1_init_0 : List (Nat × Instr × Nat) := [(0, (.aload_n 0, 1)), (1, (.invokespecial 3, 3)), (4, (.aload_n 0, 1)), (5, (.iconst 0, 1)), (6, (.putfield 9, 3)), (9, (.aload_n 0, 1)), (10, (.iconst 0, 1)), (11, (.putfield 15, 3)), (14, (.aload_n 0, 1)), (15, (.sipush 310, 3)), (18, (.putfield 18, 3)), (21, (.aload_n 0, 1)), (22, (.aload_n 1, 1)), (23, (.putfield 21, 3)), (26, (.aload_n 0, 1)), (27, (.aload_n 1, 1)), (28, (.getfield 25, 3)), (31, (.arraylength, 1)), (32, (.newarray .int, 2)), (34, (.putfield 31, 3)), (37, (.return_, 1))]
theorem dsX1_init_0_ok : (dsX1_init_0.all fun q => decide (decode cX1_init q.1 = .ok q.2)) = true := by decide +kernel
theorem dX1_init_0 : decode cX1_init 0 = .ok (.aload_n 0, 1) := of_decide_eq_true (List.all_eq_true.mp dsX1_init_0_ok (0, (.aload_n 0, 1)) (List.mem_of_getElem? (i := 0) rfl))
theorem dX1_init_1 : decode cX1_init 1 = .ok (.invokespecial 3, 3) := of_decide_eq_true (List.all_eq_true.mp dsX1_init_0_ok (1, (.invokespecial 3, 3)) (List.mem_of_getElem? (i := 1) rfl))
theorem dX1_init_4 : decode cX1_init 4 = .ok (.aload_n 0, 1) := of_decide_eq_true (List.all_eq_true.mp dsX1_init_0_ok (4, (.aload_n 0, 1)) (List.mem_of_getElem? (i := 2) rfl))
theorem dX1_init_5 : decode cX1_init 5 = .ok (.iconst 0, 1) := of_decide_eq_true (List.all_eq_true.mp dsX1_init_0_ok (5, (.iconst 0, 1)) (List.mem_of_getElem? (i := 3) rfl))
theorem dX1_init_6 : decode cX1_init 6 = .ok (.putfield 9, 3) := of_decide_eq_true (List.all_eq_true.mp dsX1_init_0_ok (6, (.putfield 9, 3)) (List.mem_of_getElem? (i := 4) rfl))
theorem dX1_init_9 : decode cX1_init 9 = .ok (.aload_n 0, 1) := of_decide_eq_true (List.all_eq_true.mp dsX1_init_0_ok (9, (.aload_n 0, 1)) (List.mem_of_getElem? (i := 5) rfl))
theorem dX1_init_10 : decode cX1_init 10 = .ok (.iconst 0, 1) := of_decide_eq_true (List.all_eq_true.mp dsX1_init_0_ok (10, (.iconst 0, 1)) (List.mem_of_getElem? (i := 6) rfl))
theorem dX1_init_11 : decode cX1_init 11 = .ok (.putfield 15, 3) := of_decide_eq_true (List.all_eq_true.mp dsX1_init_0_ok (11, (.putfield 15, 3)) (List.mem_of_getElem? (i := 7) rfl))
theorem dX1_init_14 : decode cX1_init 14 = .ok (.aload_n 0, 1) := of_decide_eq_true (List.all_eq_true.mp dsX1_init_0_ok (14, (.aload_n 0, 1)) (List.mem_of_getElem? (i := 8) rfl))
theorem dX1_init_15 : decode cX1_init 15 = .ok (.sipush 310, 3) := of_decide_eq_true (List.all_eq_true.mp dsX1_init_0_ok (15, (.sipush 310, 3)) (List.mem_of_getElem? (i := 9) rfl))
theorem dX1_init_18 : decode cX1_init 18 = .ok (.putfield 18, 3) := of_decide_eq_true (List.all_eq_true.mp dsX1_init_0_ok (18, (.putfield 18, 3)) (List.mem_of_getElem? (i := 10) rfl))
theorem dX1_init_21 : decode cX1_init 21 = .ok (.aload_n 0, 1) := of_decide_eq_true (List.all_eq_true.mp dsX1_init_0_ok (21, (.aload_n 0, 1)) (List.mem_of_getElem? (i := 11) rfl))
theorem dX1_init_22 : decode cX1_init 22 = .ok (.aload_n 1, 1) := of_decide_eq_true (List.all_eq_true.mp dsX1_init_0_ok (22, (.aload_n 1, 1)) (List.mem_of_getElem? (i := 12) rfl))
theorem dX1_init_23 : decode cX1_init 23 = .ok (.putfield 21, 3) := of_decide_eq_true (List.all_eq_true.mp dsX1_init_0_ok (23, (.putfield 21, 3)) (List.mem_of_getElem? (i := 13) rfl))
theorem dX1_init_26 : decode cX1_init 26 = .ok (.aload_n 0, 1) := of_decide_eq_true (List.all_eq_true.mp dsX1_init_0_ok (26, (.aload_n 0, 1)) (List.mem_of_getElem? (i := 14) rfl))
theorem dX1_init_27 : decode cX1_init 27 = .ok (.aload_n 1, 1) := of_decide_eq_true (List.all_eq_true.mp dsX1_init_0_ok (27, (.aload_n 1, 1)) (List.mem_of_getElem? (i := 15) rfl))
theorem dX1_init_28 : decode cX1_init 28 = .ok (.getfield 25, 3) := of_decide_eq_true (List.all_eq_true.mp dsX1_init_0_ok (28, (.getfield 25, 3)) (List.mem_of_getElem? (i := 16) rfl))
theorem dX1_init_31 : decode cX1_init 31 = .ok (.arraylength, 1) := of_decide_eq_true (List.all_eq_true.mp dsX1_init_0_ok (31, (.arraylength, 1)) (List.mem_of_getElem? (i := 17) rfl))
theorem dX1_init_32 : decode cX1_init 32 = .ok (.newarray .int, 2) := of_decide_eq_true (List.all_eq_true.mp dsX1_init_0_ok (32, (.newarray .int, 2)) (List.mem_of_getElem? (i := 18) rfl))
theorem dX1_init_34 : decode cX1_init 34 = .ok (.putfield 31, 3) := of_decide_eq_true (List.all_eq_true.mp dsX1_init_0_ok (34, (.putfield 31, 3)) (List.mem_of_getElem? (i := 19) rfl))
theorem dX1_init_37 : decode cX1_init 37 = .ok (.return_, 1) := of_decide_eq_true (List.all_eq_true.mp dsX1_init_0_ok (37, (.return_, 1)) (List.mem_of_getElem? (i := 20) rfl))
set_option maxHeartbeats 4000000 in
set_option maxRecDepth 100000 in
theorem kX1_init (l : Launch) (dC : Nat → ClassId) (dI : Nat → Nat → Nat) (cI cB cJ cZ cM : ClassId) (z : Nat) (ad : Nat → Nat) (a_p0 a_p1 : Nat) (textI : Nat → Int32) (textR : Nat → Nat) (kF : Nat → Int32) (nT : Nat) (hb9 : nT ≤ 134217728) : xq_CtA l yX1_init wsX1_init { frames := 1, cells := 1, slots := 0 + 1 * nT, locals := 20 } (dC, dI) vwCl (xq_tys cI cB cJ cZ cM) z ad [.ref a_p0, .ref a_p1] [(a_p0, .inr (1, [.null, .null, .int 0, .int 0, .int 0])), (a_p1, .inr (10, oX10 textI textR)), ((textR 1), .inl (cI, nT, .inl kF))] (fun q => [(a_p0, .inr (1, oX1 (va_up (fun _ => 0) 4 310) (va_up (q 0) 0 a_p1))), ((q 0 1), .inl (cI, nT, .inl (fun _ => 0))), (a_p1, .inr (10, oX10 textI textR)), ((textR 1), .inl (cI, nT, .inl kF))]) (fun _ => none) 1 (0 + 1 * nT) := by
  intro sz
  refine Met.ofW (cc := cX1_init) (maxL := 2) (ret := none) (by decide) rfl ?_
  intro p e s m args below meth c s₁ B hml hv
  obtain ⟨rfl, hsz, hP, hK, hD0, hE, hz⟩ := hv
  have hx := B.exec
  have hb := B.bytes
  have hr := B.returns
  have hts := atoms_spec (ws := wsX1_init) B.pre
  have hown : s.vm.findClass RX1 = some m.cls := findClass_of_methodNamed B.named
  have hlocks := B.notSynchronized
  have hin : meth.name = "<init>" := (name_of_methodNamed B.named B.method).1
  subst hsz
  have hD := hD0.self (sz := s.heap.size)
  have hN := xq_Env.of hE hz hD0
  generalize hAe : va_A [(a_p0, .inr (1, [.null, .null, .int 0, .int 0, .int 0])), (a_p1, .inr (10, oX10 textI textR)), ((textR 1), .inl (cI, nT, .inl kF))] s.heap.size = A at hD hN ⊢
  have hA : ∀ q : Nat, s.heap.size ≤ q → A q := fun q h => by rw [← hAe]; exact Or.inr h
  clear hAe hD0
  have hS : va_S A s.heap s.heap [] := va_S.rf
  have hl := lv_entry ([.ref a_p0, .ref a_p1]) (n := 2) (Nat.le_of_ble_eq_true rfl)
  rw [lg_entry_eq]
  generalize (lg_sl ([.ref a_p0, .ref a_p1]) ++ List.replicate (2 - (lg_sl ([.ref a_p0, .ref a_p1])).length) Slot.unset).toArray = ls at hl ⊢
  have hl : lv_has ls 2 [(0, .ref a_p0), (1, .ref a_p1)] := hl
  have hw0 := hts (.methodLink RX1 3 objectInit) (by decide +kernel)
  have hw1 := hts (.instanceMethod objectInit) (by decide +kernel)
  have hw2 := hts (.code objectInit ⟨#[0xb1]⟩ 1 none) (by decide +kernel)
  have hw3 := hts (.fieldLink RX1 9 "DistantVoice$FormulaReader" "used" "I") (by decide +kernel)
  have hinX1 : ∀ w ∈ wsX10, w ∈ wsX1_init := fun w h => List.mem_cons_of_mem _ (List.mem_append_left _ (List.mem_append_right _ h))
  have hw5 := hts (.fieldLink RX1 15 "DistantVoice$FormulaReader" "open" "I") (by decide +kernel)
  have hw6 := hts (.fieldLink RX1 18 "DistantVoice$FormulaReader" "subject" "I") (by decide +kernel)
  have hw7 := hts (.fieldLink RX1 21 "DistantVoice$FormulaReader" "text" "LDistantVoice$Text;") (by decide +kernel)
  have hnf71 := va_Nw.use (A := [.ref a_p0, .ref a_p1].toArray) rfl (hN.1.1.1 ("DistantVoice$FormulaReader", 25, "DistantVoice$Text", "kinds", "[I", "DistantVoice") (List.mem_of_getElem? (i := 71) rfl))
  have hinX10 : ∀ w ∈ wsX100, w ∈ wsX1_init := fun w h => List.mem_cons_of_mem _ (List.mem_append_right _ h)
  have hw10 := hts (.arrayClass .int) (by decide +kernel)
  have hw11 := hts (.fieldLink RX1 31 "DistantVoice$FormulaReader" "code" "[I") (by decide +kernel)
  refine lv_aload_n hx hb dX1_init_0 rfl (lv_at hl 0 rfl) ?_
  refine W.objInit hx hb hown hw0 hw1 hw2 rfl (by rw [hml]; exact hl.1) rfl dX1_init_1 (Nat.le_of_ble_eq_true rfl) (Nat.le_of_ble_eq_true rfl) ?_
  refine W.eq (g2 := F0 m 4 ls []) rfl ?_
  refine lv_aload_n hx hb dX1_init_4 rfl (lv_at hl 0 rfl) ?_
  refine lv_iconst (v := 0) hx hb dX1_init_5 (by decide) ?_
  refine va_put (D := (dC, dI)) (ci := 1) (v := .int 0) (ty := .int) (C := RX1) (T := TX1) (N := 5) hx hb hts hinX1 tyX1 tyX1_ok nmX1 hown hK hP hD hS 0 rfl rfl 2 (by decide) hw3 (fun _ h9 => h9) rfl (by decide +kernel) rfl rfl (Nat.le_of_ble_eq_true rfl) dX1_init_6 (fun H locs hP hD hS => ?_)
  have hP : va_P (dC, dI) vwCl [(a_p0, .inr (1, [.null, .null, .int 0, .int 0, .int 0])), (a_p1, .inr (10, oX10 textI textR)), ((textR 1), .inl (cI, nT, .inl kF))] H := hP
  have hD : va_D A [(a_p0, .inr (1, [.null, .null, .int 0, .int 0, .int 0])), (a_p1, .inr (10, oX10 textI textR)), ((textR 1), .inl (cI, nT, .inl kF))] := hD
  refine lv_aload_n hx hb dX1_init_9 rfl (lv_at hl 0 rfl) ?_
  refine lv_iconst (v := 0) hx hb dX1_init_10 (by decide) ?_
  refine va_put (D := (dC, dI)) (ci := 1) (v := .int 0) (ty := .int) (C := RX1) (T := TX1) (N := 5) hx hb hts hinX1 tyX1 tyX1_ok nmX1 hown hK hP hD hS 0 rfl rfl 3 (by decide) hw5 (fun _ h9 => h9) rfl (by decide +kernel) rfl rfl (Nat.le_of_ble_eq_true rfl) dX1_init_11 (fun H locs hP hD hS => ?_)
  have hP : va_P (dC, dI) vwCl [(a_p0, .inr (1, [.null, .null, .int 0, .int 0, .int 0])), (a_p1, .inr (10, oX10 textI textR)), ((textR 1), .inl (cI, nT, .inl kF))] H := hP
  have hD : va_D A [(a_p0, .inr (1, [.null, .null, .int 0, .int 0, .int 0])), (a_p1, .inr (10, oX10 textI textR)), ((textR 1), .inl (cI, nT, .inl kF))] := hD
  refine lv_aload_n hx hb dX1_init_14 rfl (lv_at hl 0 rfl) ?_
  refine lv_sipush (v := 310) hx hb dX1_init_15 (by decide) ?_
  refine va_put (D := (dC, dI)) (ci := 1) (v := .int 310) (ty := .int) (C := RX1) (T := TX1) (N := 5) hx hb hts hinX1 tyX1 tyX1_ok nmX1 hown hK hP hD hS 0 rfl rfl 4 (by decide) hw6 (fun _ h9 => h9) rfl (by decide +kernel) rfl rfl (Nat.le_of_ble_eq_true rfl) dX1_init_18 (fun H locs hP hD hS => ?_)
  have hP : va_P (dC, dI) vwCl [(a_p0, .inr (1, [.null, .null, .int 0, .int 0, .int 310])), (a_p1, .inr (10, oX10 textI textR)), ((textR 1), .inl (cI, nT, .inl kF))] H := hP
  have hD : va_D A [(a_p0, .inr (1, [.null, .null, .int 0, .int 0, .int 310])), (a_p1, .inr (10, oX10 textI textR)), ((textR 1), .inl (cI, nT, .inl kF))] := hD
  refine lv_aload_n hx hb dX1_init_21 rfl (lv_at hl 0 rfl) ?_
  refine lv_aload_n hx hb dX1_init_22 rfl (lv_at hl 1 rfl) ?_
  refine va_putF (D := (dC, dI)) (ci := 1) (v := .ref a_p1) (ty := .object "DistantVoice$Text") (C := RX1) (T := TX1) (N := 5) hx hb hts hinX1 tyX1 tyX1_ok nmX1 hown hK hP hD hS 0 rfl rfl 0 (by decide) hw7 (fun _ h9 => h9) rfl hin rfl (by decide +kernel) rfl rfl (Nat.le_of_ble_eq_true rfl) dX1_init_23 (fun H locs hP hD hS => ?_)
  have hP : va_P (dC, dI) vwCl [(a_p0, .inr (1, [.ref a_p1, .null, .int 0, .int 0, .int 310])), (a_p1, .inr (10, oX10 textI textR)), ((textR 1), .inl (cI, nT, .inl kF))] H := hP
  have hD : va_D A [(a_p0, .inr (1, [.ref a_p1, .null, .int 0, .int 0, .int 310])), (a_p1, .inr (10, oX10 textI textR)), ((textR 1), .inl (cI, nT, .inl kF))] := hD
  refine lv_aload_n hx hb dX1_init_26 rfl (lv_at hl 0 rfl) ?_
  refine lv_aload_n hx hb dX1_init_27 rfl (lv_at hl 1 rfl) ?_
  refine va_getN (D := (dC, dI)) (ci := 10) (v := .ref ((textR 1))) (C := RX10) (T := TX10) (N := 8) hx hb hts hinX10 hown hK hP 1 rfl rfl 1 (by decide) hnf71 (fun _ h9 => h9) rfl dX1_init_28 ?_
  refine va_alen hx hb hK hP 2 0 (v := nI nT) rfl rfl rfl dX1_init_31 ?_
  refine xq_newa (atype := .int) (ty := .int) (a0 := (nT, .inl (fun _ => 0))) hx hb hw10 rfl hK 0 rfl (fun _ => rfl) hP hD hS hA (fun _ => rfl) (nI_pos (by omega)) (nI_clamp (by omega)) (by show nT * 4 ≤ 536870912; omega) (Nat.le_of_ble_eq_true rfl) (by show 0 + nT ≤ 0 + 1 * nT; omega) dX1_init_32 (fun q_1 H hP hD hS => ?_)
  have hP : va_P (dC, dI) vwCl [(a_p0, .inr (1, [.ref a_p1, .null, .int 0, .int 0, .int 310])), (a_p1, .inr (10, oX10 textI textR)), ((textR 1), .inl (cI, nT, .inl kF)), (q_1, .inl (cI, nT, .inl (fun _ => 0)))] H := hP
  have hD : va_D A [(a_p0, .inr (1, [.ref a_p1, .null, .int 0, .int 0, .int 310])), (a_p1, .inr (10, oX10 textI textR)), ((textR 1), .inl (cI, nT, .inl kF)), (q_1, .inl (cI, nT, .inl (fun _ => 0)))] := hD
  refine W.widen (k := 1) (n := 0 + 1 * nT) (Nat.le_of_ble_eq_true rfl) (by omega) ?_
  refine va_putF (D := (dC, dI)) (ci := 1) (v := .ref q_1) (ty := .array .int) (C := RX1) (T := TX1) (N := 5) hx hb hts hinX1 tyX1 tyX1_ok nmX1 hown hK hP hD hS 0 rfl rfl 1 (by decide) hw11 (fun _ h9 => h9) rfl hin rfl (by decide +kernel) rfl rfl (Nat.le_of_ble_eq_true rfl) dX1_init_34 (fun H locs hP hD hS => ?_)
  have hP : va_P (dC, dI) vwCl [(a_p0, .inr (1, [.ref a_p1, .ref q_1, .int 0, .int 0, .int 310])), (a_p1, .inr (10, oX10 textI textR)), ((textR 1), .inl (cI, nT, .inl kF)), (q_1, .inl (cI, nT, .inl (fun _ => 0)))] H := hP
  have hD : va_D A [(a_p0, .inr (1, [.ref a_p1, .ref q_1, .int 0, .int 0, .int 310])), (a_p1, .inr (10, oX10 textI textR)), ((textR 1), .inl (cI, nT, .inl kF)), (q_1, .inl (cI, nT, .inl (fun _ => 0)))] := hD
  exact xq_vretA (va_up (fun _ _ => 0) 0 (va_up (fun _ => 0) 1 q_1)) rfl hx hb hr hlocks hK (hP.sub [0, 3, 1, 2] rfl) (hD.sub [0, 3, 1, 2] (by decide) rfl) hS dX1_init_37
set_option maxRecDepth 20000 in
theorem ggX3_init_X2_init : GoodIn wsX3_init wsX2_init := goodIn_r _ [14, 15, 2, 3, 16, 17, 18, 19, 20, 21, 22, 23, 24, 25, 26, 27, 28, 29, 30, 31, 32, 33, 34, 35, 45, 46, 47, 48, 49, 50, 51, 52, 53, 54, 55, 56, 57, 58, 59, 60, 61, 62, 63] rfl (by decide +kernel)
set_option maxRecDepth 20000 in
theorem gX3_init_X2_init_n11 : GoodIn wsX3_init (wsX2_init) := ggX3_init_X2_init
set_option maxRecDepth 20000 in
theorem ggX3_init_X1_init : GoodIn wsX3_init wsX1_init := goodIn_r _ [38, 39, 2, 3, 40, 41, 42, 43, 23, 44, 67, 68, 69, 70, 71, 72, 73, 74, 75, 76, 77, 78, 79] rfl (by decide +kernel)
set_option maxRecDepth 20000 in
theorem gX3_init_X1_init : GoodIn wsX3_init (wsX1_init) := ggX3_init_X1_init
def dsX3_init_0 : List (Nat × Instr × Nat) := [(0, (.aload_n 0, 1)), (1, (.invokespecial 3, 3)), (4, (.aload_n 0, 1)), (5, (.new 9, 3)), (8, (.dup, 1)), (9, (.invokespecial 11, 3)), (12, (.putfield 12, 3)), (15, (.aload_n 0, 1)), (16, (.aload_n 1, 1)), (17, (.putfield 18, 3)), (20, (.aload_n 0, 1)), (21, (.new 22, 3)), (24, (.dup, 1)), (25, (.aload_n 1, 1)), (26, (.invokespecial 24, 3)), (29, (.putfield 27, 3)), (32, (.return_, 1))]
theorem dsX3_init_0_ok : (dsX3_init_0.all fun q => decide (decode cX3_init q.1 = .ok q.2)) = true := by decide +kernel
theorem dX3_init_0 : decode cX3_init 0 = .ok (.aload_n 0, 1) := of_decide_eq_true (List.all_eq_true.mp dsX3_init_0_ok (0, (.aload_n 0, 1)) (List.mem_of_getElem? (i := 0) rfl))
theorem dX3_init_1 : decode cX3_init 1 = .ok (.invokespecial 3, 3) := of_decide_eq_true (List.all_eq_true.mp dsX3_init_0_ok (1, (.invokespecial 3, 3)) (List.mem_of_getElem? (i := 1) rfl))
theorem dX3_init_4 : decode cX3_init 4 = .ok (.aload_n 0, 1) := of_decide_eq_true (List.all_eq_true.mp dsX3_init_0_ok (4, (.aload_n 0, 1)) (List.mem_of_getElem? (i := 2) rfl))
theorem dX3_init_5 : decode cX3_init 5 = .ok (.new 9, 3) := of_decide_eq_true (List.all_eq_true.mp dsX3_init_0_ok (5, (.new 9, 3)) (List.mem_of_getElem? (i := 3) rfl))
theorem dX3_init_8 : decode cX3_init 8 = .ok (.dup, 1) := of_decide_eq_true (List.all_eq_true.mp dsX3_init_0_ok (8, (.dup, 1)) (List.mem_of_getElem? (i := 4) rfl))
theorem dX3_init_9 : decode cX3_init 9 = .ok (.invokespecial 11, 3) := of_decide_eq_true (List.all_eq_true.mp dsX3_init_0_ok (9, (.invokespecial 11, 3)) (List.mem_of_getElem? (i := 5) rfl))
theorem dX3_init_12 : decode cX3_init 12 = .ok (.putfield 12, 3) := of_decide_eq_true (List.all_eq_true.mp dsX3_init_0_ok (12, (.putfield 12, 3)) (List.mem_of_getElem? (i := 6) rfl))
theorem dX3_init_15 : decode cX3_init 15 = .ok (.aload_n 0, 1) := of_decide_eq_true (List.all_eq_true.mp dsX3_init_0_ok (15, (.aload_n 0, 1)) (List.mem_of_getElem? (i := 7) rfl))
theorem dX3_init_16 : decode cX3_init 16 = .ok (.aload_n 1, 1) := of_decide_eq_true (List.all_eq_true.mp dsX3_init_0_ok (16, (.aload_n 1, 1)) (List.mem_of_getElem? (i := 8) rfl))
theorem dX3_init_17 : decode cX3_init 17 = .ok (.putfield 18, 3) := of_decide_eq_true (List.all_eq_true.mp dsX3_init_0_ok (17, (.putfield 18, 3)) (List.mem_of_getElem? (i := 9) rfl))
theorem dX3_init_20 : decode cX3_init 20 = .ok (.aload_n 0, 1) := of_decide_eq_true (List.all_eq_true.mp dsX3_init_0_ok (20, (.aload_n 0, 1)) (List.mem_of_getElem? (i := 10) rfl))
theorem dX3_init_21 : decode cX3_init 21 = .ok (.new 22, 3) := of_decide_eq_true (List.all_eq_true.mp dsX3_init_0_ok (21, (.new 22, 3)) (List.mem_of_getElem? (i := 11) rfl))
theorem dX3_init_24 : decode cX3_init 24 = .ok (.dup, 1) := of_decide_eq_true (List.all_eq_true.mp dsX3_init_0_ok (24, (.dup, 1)) (List.mem_of_getElem? (i := 12) rfl))
theorem dX3_init_25 : decode cX3_init 25 = .ok (.aload_n 1, 1) := of_decide_eq_true (List.all_eq_true.mp dsX3_init_0_ok (25, (.aload_n 1, 1)) (List.mem_of_getElem? (i := 13) rfl))
theorem dX3_init_26 : decode cX3_init 26 = .ok (.invokespecial 24, 3) := of_decide_eq_true (List.all_eq_true.mp dsX3_init_0_ok (26, (.invokespecial 24, 3)) (List.mem_of_getElem? (i := 14) rfl))
theorem dX3_init_29 : decode cX3_init 29 = .ok (.putfield 27, 3) := of_decide_eq_true (List.all_eq_true.mp dsX3_init_0_ok (29, (.putfield 27, 3)) (List.mem_of_getElem? (i := 15) rfl))
theorem dX3_init_32 : decode cX3_init 32 = .ok (.return_, 1) := of_decide_eq_true (List.all_eq_true.mp dsX3_init_0_ok (32, (.return_, 1)) (List.mem_of_getElem? (i := 16) rfl))
set_option maxHeartbeats 4000000 in
set_option maxRecDepth 100000 in
theorem kX3_init (l : Launch) (dC : Nat → ClassId) (dI : Nat → Nat → Nat) (cI cB cJ cZ cM : ClassId) (z : Nat) (ad : Nat → Nat) (a_p0 a_p1 : Nat) (textI : Nat → Int32) (textR : Nat → Nat) (kF : Nat → Int32) (nT : Nat) (hb9 : nT ≤ 134217728) : xq_CtA l yX3_init wsX3_init { frames := 2, cells := 12, slots := 68 + 1 * nT, locals := 41 } (dC, dI) vwCl (xq_tys cI cB cJ cZ cM) z ad [.ref a_p0, .ref a_p1] [(a_p0, .inr (3, [.null, .null, .null])), (a_p1, .inr (10, oX10 textI textR)), ((textR 1), .inl (cI, nT, .inl kF))] (fun q => [(a_p0, .inr (3, oX3 (fun _ => 0) (va_up (q 0) 0 a_p1))), ((q 0 1), .inr (1, oX1 (va_up (fun _ => 0) 4 310) (va_up (q 1) 0 a_p1))), ((q 1 1), .inl (cI, nT, .inl (fun _ => 0))), ((q 0 2), .inr (2, oX2 (fun _ => 0) (q 2))), ((q 2 7), .inl (cI, 7, .inl (fun _ => 0))), ((q 2 8), .inl (cI, 7, .inl (fun _ => 0))), ((q 2 9), .inl (cI, 7, .inl (fun _ => 0))), ((q 2 10), .inl (cI, 6, .inl (fun _ => 0))), ((q 2 11), .inl (cI, 6, .inl (fun _ => 0))), ((q 2 12), .inl (cI, 6, .inl (fun _ => 0))), ((q 2 13), .inl (cI, 1, .inl (upd (fun _ => 0) 0 1))), ((q 2 14), .inl (cI, 3, .inl (upd (upd (upd (fun _ => 0) 0 10316) 1 10) 2 20060))), ((q 2 15), .inl (cI, 1, .inl (upd (fun _ => 0) 0 10309))), (a_p1, .inr (10, oX10 textI textR)), ((textR 1), .inl (cI, nT, .inl kF))]) (fun _ => none) 12 (68 + 1 * nT) := by
  intro sz
  refine Met.ofW (cc := cX3_init) (maxL := 2) (ret := none) (by decide) rfl ?_
  intro p e s m args below meth c s₁ B hml hv
  obtain ⟨rfl, hsz, hP, hK, hD0, hE, hz⟩ := hv
  have hx := B.exec
  have hb := B.bytes
  have hr := B.returns
  have hts := atoms_spec (ws := wsX3_init) B.pre
  have hown : s.vm.findClass RX3 = some m.cls := findClass_of_methodNamed B.named
  have hlocks := B.notSynchronized
  have hin : meth.name = "<init>" := (name_of_methodNamed B.named B.method).1
  subst hsz
  have hD := hD0.self (sz := s.heap.size)
  have hN := xq_Env.of hE hz hD0
  generalize hAe : va_A [(a_p0, .inr (3, [.null, .null, .null])), (a_p1, .inr (10, oX10 textI textR)), ((textR 1), .inl (cI, nT, .inl kF))] s.heap.size = A at hD hN ⊢
  have hA : ∀ q : Nat, s.heap.size ≤ q → A q := fun q h => by rw [← hAe]; exact Or.inr h
  clear hAe hD0
  have hS : va_S A s.heap s.heap [] := va_S.rf
  have hl := lv_entry ([.ref a_p0, .ref a_p1]) (n := 2) (Nat.le_of_ble_eq_true rfl)
  rw [lg_entry_eq]
  generalize (lg_sl ([.ref a_p0, .ref a_p1]) ++ List.replicate (2 - (lg_sl ([.ref a_p0, .ref a_p1])).length) Slot.unset).toArray = ls at hl ⊢
  have hl : lv_has ls 2 [(0, .ref a_p0), (1, .ref a_p1)] := hl
  have hw0 := hts (.methodLink RX3 3 objectInit) (by decide +kernel)
  have hw1 := hts (.instanceMethod objectInit) (by decide +kernel)
  have hw2 := hts (.code objectInit ⟨#[0xb1]⟩ 1 none) (by decide +kernel)
  have hinX2 : ∀ w ∈ wsX20, w ∈ wsX3_init := fun w h => List.mem_cons_of_mem _ (List.mem_append_left _ (List.mem_append_left _ (List.mem_append_left _ (List.mem_append_right _ h))))
  have hw4 := hts (.classLink RX3 9 RX2) (by decide +kernel)
  have hw5 := hts (.instantiable RX2 19) (by decide +kernel)
  have hw6 := hts (.initialized RX2) (by decide +kernel)
  have hnm7 : va_Nw (.methodLinkNest "DistantVoice$HouseReader" 11 ⟨"DistantVoice$House", "<init>", "()V"⟩ "DistantVoice") s := hN.1.1.2 ("DistantVoice$HouseReader", 11, ⟨"DistantVoice$House", "<init>", "()V"⟩, "DistantVoice") (List.mem_of_getElem? (i := 7) rfl)
  have hw8 := hts (.instanceMethod yX2_init) (by decide +kernel)
  have hw9 := hts (.fieldLink RX3 12 "DistantVoice$HouseReader" "made" "LDistantVoice$House;") (by decide +kernel)
  have hinX3 : ∀ w ∈ wsX30, w ∈ wsX3_init := fun w h => List.mem_cons_of_mem _ (List.mem_append_left _ (List.mem_append_left _ (List.mem_append_right _ h)))
  have hw11 := hts (.fieldLink RX3 18 "DistantVoice$HouseReader" "text" "LDistantVoice$Text;") (by decide +kernel)
  have hinX1 : ∀ w ∈ wsX10, w ∈ wsX3_init := fun w h => List.mem_cons_of_mem _ (List.mem_append_left _ (List.mem_append_right _ h))
  have hw13 := hts (.classLink RX3 22 RX1) (by decide +kernel)
  have hw14 := hts (.instantiable RX1 5) (by decide +kernel)
  have hw15 := hts (.initialized RX1) (by decide +kernel)
  have hw16 := hts (.methodLink RX3 24 yX1_init) (by decide +kernel)
  have hw17 := hts (.instanceMethod yX1_init) (by decide +kernel)
  have hw18 := hts (.fieldLink RX3 27 "DistantVoice$HouseReader" "formulas" "LDistantVoice$FormulaReader;") (by decide +kernel)
  refine lv_aload_n hx hb dX3_init_0 rfl (lv_at hl 0 rfl) ?_
  refine W.objInit hx hb hown hw0 hw1 hw2 rfl (by rw [hml]; exact hl.1) rfl dX3_init_1 (Nat.le_of_ble_eq_true rfl) (Nat.le_of_ble_eq_true rfl) ?_
  refine W.eq (g2 := F0 m 4 ls []) rfl ?_
  refine lv_aload_n hx hb dX3_init_4 rfl (lv_at hl 0 rfl) ?_
  refine va_new (ci := 2) (fs := [.int 0, .int 0, .int 0, .int 0, .int 0, .int 0, .int 0, .null, .null, .null, .null, .null, .null, .null, .null, .null, .int 0, .int 0, .int 0]) (C := RX2) (T := TX2) (N := 19) hx hb hts hinX2 tyX2 tyX2_ok hown hw4 hw5 hw6 hK hP hD hS hA rfl (fun j hj => by match j, hj with | 0, _ => rfl | 1, _ => rfl | 2, _ => rfl | 3, _ => rfl | 4, _ => rfl | 5, _ => rfl | 6, _ => rfl | 7, _ => rfl | 8, _ => rfl | 9, _ => rfl | 10, _ => rfl | 11, _ => rfl | 12, _ => rfl | 13, _ => rfl | 14, _ => rfl | 15, _ => rfl | 16, _ => rfl | 17, _ => rfl | 18, _ => rfl | (k + 19), h => exact absurd h (by omega)) (Nat.le_of_ble_eq_true rfl) (by show 0 + 19 ≤ 68 + 1 * nT; omega) dX3_init_5 (fun q_1 H hP hD hS => ?_)
  have hP : va_P (dC, dI) vwCl [(a_p0, .inr (3, [.null, .null, .null])), (a_p1, .inr (10, oX10 textI textR)), ((textR 1), .inl (cI, nT, .inl kF)), (q_1, .inr (2, [.int 0, .int 0, .int 0, .int 0, .int 0, .int 0, .int 0, .null, .null, .null, .null, .null, .null, .null, .null, .null, .int 0, .int 0, .int 0]))] H := hP
  have hD : va_D A [(a_p0, .inr (3, [.null, .null, .null])), (a_p1, .inr (10, oX10 textI textR)), ((textR 1), .inl (cI, nT, .inl kF)), (q_1, .inr (2, [.int 0, .int 0, .int 0, .int 0, .int 0, .int 0, .int 0, .null, .null, .null, .null, .null, .null, .null, .null, .null, .int 0, .int 0, .int 0]))] := hD
  refine W.widen (k := 1) (n := 19) (Nat.le_of_ble_eq_true rfl) (by omega) ?_
  refine lv_dup hx hb dX3_init_8 rfl ?_
  refine xq_callINA (As := []) (rest := [.ref q_1, .ref a_p0]) (wr := [(a_p0, .inr (3, [.null, .null, .null])), (a_p1, .inr (10, oX10 textI textR)), ((textR 1), .inl (cI, nT, .inl kF))]) ⟨hx, hb, hml, hown, hts⟩ (kX2_init l dC dI cI cB cJ cZ cM z ad q_1) ⟨va_cnB (host := "DistantVoice") 0 hts gX3_init_X2_init_n11 rfl rfl rfl hnm7 hw6 (by decide +kernel) ⟨Nat.le_of_ble_eq_true rfl, Nat.le_of_ble_eq_true rfl⟩, rfl, hw8⟩ hN hK hP hD hS hA [3] [0, 1, 2] (by decide) rfl rfl (by decide) (by decide) rfl hl.1 rfl (Nat.le_of_ble_eq_true rfl) dX3_init_9 ⟨Nat.le_of_ble_eq_true rfl, by show 19 + 44 ≤ 68 + 1 * nT; omega⟩ (fun q_2 H locs hP hD hS => ?_)
  have hP : va_P (dC, dI) vwCl [(a_p0, .inr (3, [.null, .null, .null])), (a_p1, .inr (10, oX10 textI textR)), ((textR 1), .inl (cI, nT, .inl kF)), (q_1, .inr (2, oX2 (fun _ => 0) (q_2 0))), ((q_2 0 7), .inl (cI, 7, .inl (fun _ => 0))), ((q_2 0 8), .inl (cI, 7, .inl (fun _ => 0))), ((q_2 0 9), .inl (cI, 7, .inl (fun _ => 0))), ((q_2 0 10), .inl (cI, 6, .inl (fun _ => 0))), ((q_2 0 11), .inl (cI, 6, .inl (fun _ => 0))), ((q_2 0 12), .inl (cI, 6, .inl (fun _ => 0))), ((q_2 0 13), .inl (cI, 1, .inl (upd (fun _ => 0) 0 1))), ((q_2 0 14), .inl (cI, 3, .inl (upd (upd (upd (fun _ => 0) 0 10316) 1 10) 2 20060))), ((q_2 0 15), .inl (cI, 1, .inl (upd (fun _ => 0) 0 10309)))] H := hP
  have hD : va_D A [(a_p0, .inr (3, [.null, .null, .null])), (a_p1, .inr (10, oX10 textI textR)), ((textR 1), .inl (cI, nT, .inl kF)), (q_1, .inr (2, oX2 (fun _ => 0) (q_2 0))), ((q_2 0 7), .inl (cI, 7, .inl (fun _ => 0))), ((q_2 0 8), .inl (cI, 7, .inl (fun _ => 0))), ((q_2 0 9), .inl (cI, 7, .inl (fun _ => 0))), ((q_2 0 10), .inl (cI, 6, .inl (fun _ => 0))), ((q_2 0 11), .inl (cI, 6, .inl (fun _ => 0))), ((q_2 0 12), .inl (cI, 6, .inl (fun _ => 0))), ((q_2 0 13), .inl (cI, 1, .inl (upd (fun _ => 0) 0 1))), ((q_2 0 14), .inl (cI, 3, .inl (upd (upd (upd (fun _ => 0) 0 10316) 1 10) 2 20060))), ((q_2 0 15), .inl (cI, 1, .inl (upd (fun _ => 0) 0 10309)))] := hD
  refine W.widen (k := 10) (n := 63) (Nat.le_of_ble_eq_true rfl) (by omega) ?_
  refine W.eq (g2 := F0 m 12 ls [.ref q_1, .ref a_p0]) rfl ?_
  refine va_putF (D := (dC, dI)) (ci := 3) (v := .ref q_1) (ty := .object "DistantVoice$House") (C := RX3) (T := TX3) (N := 3) hx hb hts hinX3 tyX3 tyX3_ok nmX3 hown hK hP hD hS 0 rfl rfl 2 (by decide) hw9 (fun _ h9 => h9) rfl hin rfl (by decide +kernel) rfl rfl (Nat.le_of_ble_eq_true rfl) dX3_init_12 (fun H locs hP hD hS => ?_)
  have hP : va_P (dC, dI) vwCl [(a_p0, .inr (3, [.null, .null, .ref q_1])), (a_p1, .inr (10, oX10 textI textR)), ((textR 1), .inl (cI, nT, .inl kF)), (q_1, .inr (2, oX2 (fun _ => 0) (q_2 0))), ((q_2 0 7), .inl (cI, 7, .inl (fun _ => 0))), ((q_2 0 8), .inl (cI, 7, .inl (fun _ => 0))), ((q_2 0 9), .inl (cI, 7, .inl (fun _ => 0))), ((q_2 0 10), .inl (cI, 6, .inl (fun _ => 0))), ((q_2 0 11), .inl (cI, 6, .inl (fun _ => 0))), ((q_2 0 12), .inl (cI, 6, .inl (fun _ => 0))), ((q_2 0 13), .inl (cI, 1, .inl (upd (fun _ => 0) 0 1))), ((q_2 0 14), .inl (cI, 3, .inl (upd (upd (upd (fun _ => 0) 0 10316) 1 10) 2 20060))), ((q_2 0 15), .inl (cI, 1, .inl (upd (fun _ => 0) 0 10309)))] H := hP
  have hD : va_D A [(a_p0, .inr (3, [.null, .null, .ref q_1])), (a_p1, .inr (10, oX10 textI textR)), ((textR 1), .inl (cI, nT, .inl kF)), (q_1, .inr (2, oX2 (fun _ => 0) (q_2 0))), ((q_2 0 7), .inl (cI, 7, .inl (fun _ => 0))), ((q_2 0 8), .inl (cI, 7, .inl (fun _ => 0))), ((q_2 0 9), .inl (cI, 7, .inl (fun _ => 0))), ((q_2 0 10), .inl (cI, 6, .inl (fun _ => 0))), ((q_2 0 11), .inl (cI, 6, .inl (fun _ => 0))), ((q_2 0 12), .inl (cI, 6, .inl (fun _ => 0))), ((q_2 0 13), .inl (cI, 1, .inl (upd (fun _ => 0) 0 1))), ((q_2 0 14), .inl (cI, 3, .inl (upd (upd (upd (fun _ => 0) 0 10316) 1 10) 2 20060))), ((q_2 0 15), .inl (cI, 1, .inl (upd (fun _ => 0) 0 10309)))] := hD
  refine lv_aload_n hx hb dX3_init_15 rfl (lv_at hl 0 rfl) ?_
  refine lv_aload_n hx hb dX3_init_16 rfl (lv_at hl 1 rfl) ?_
  refine va_putF (D := (dC, dI)) (ci := 3) (v := .ref a_p1) (ty := .object "DistantVoice$Text") (C := RX3) (T := TX3) (N := 3) hx hb hts hinX3 tyX3 tyX3_ok nmX3 hown hK hP hD hS 0 rfl rfl 0 (by decide) hw11 (fun _ h9 => h9) rfl hin rfl (by decide +kernel) rfl rfl (Nat.le_of_ble_eq_true rfl) dX3_init_17 (fun H locs hP hD hS => ?_)
  have hP : va_P (dC, dI) vwCl [(a_p0, .inr (3, [.ref a_p1, .null, .ref q_1])), (a_p1, .inr (10, oX10 textI textR)), ((textR 1), .inl (cI, nT, .inl kF)), (q_1, .inr (2, oX2 (fun _ => 0) (q_2 0))), ((q_2 0 7), .inl (cI, 7, .inl (fun _ => 0))), ((q_2 0 8), .inl (cI, 7, .inl (fun _ => 0))), ((q_2 0 9), .inl (cI, 7, .inl (fun _ => 0))), ((q_2 0 10), .inl (cI, 6, .inl (fun _ => 0))), ((q_2 0 11), .inl (cI, 6, .inl (fun _ => 0))), ((q_2 0 12), .inl (cI, 6, .inl (fun _ => 0))), ((q_2 0 13), .inl (cI, 1, .inl (upd (fun _ => 0) 0 1))), ((q_2 0 14), .inl (cI, 3, .inl (upd (upd (upd (fun _ => 0) 0 10316) 1 10) 2 20060))), ((q_2 0 15), .inl (cI, 1, .inl (upd (fun _ => 0) 0 10309)))] H := hP
  have hD : va_D A [(a_p0, .inr (3, [.ref a_p1, .null, .ref q_1])), (a_p1, .inr (10, oX10 textI textR)), ((textR 1), .inl (cI, nT, .inl kF)), (q_1, .inr (2, oX2 (fun _ => 0) (q_2 0))), ((q_2 0 7), .inl (cI, 7, .inl (fun _ => 0))), ((q_2 0 8), .inl (cI, 7, .inl (fun _ => 0))), ((q_2 0 9), .inl (cI, 7, .inl (fun _ => 0))), ((q_2 0 10), .inl (cI, 6, .inl (fun _ => 0))), ((q_2 0 11), .inl (cI, 6, .inl (fun _ => 0))), ((q_2 0 12), .inl (cI, 6, .inl (fun _ => 0))), ((q_2 0 13), .inl (cI, 1, .inl (upd (fun _ => 0) 0 1))), ((q_2 0 14), .inl (cI, 3, .inl (upd (upd (upd (fun _ => 0) 0 10316) 1 10) 2 20060))), ((q_2 0 15), .inl (cI, 1, .inl (upd (fun _ => 0) 0 10309)))] := hD
  refine lv_aload_n hx hb dX3_init_20 rfl (lv_at hl 0 rfl) ?_
  refine va_new (ci := 1) (fs := [.null, .null, .int 0, .int 0, .int 0]) (C := RX1) (T := TX1) (N := 5) hx hb hts hinX1 tyX1 tyX1_ok hown hw13 hw14 hw15 hK hP hD hS hA rfl (fun j hj => by match j, hj with | 0, _ => rfl | 1, _ => rfl | 2, _ => rfl | 3, _ => rfl | 4, _ => rfl | (k + 5), h => exact absurd h (by omega)) (Nat.le_of_ble_eq_true rfl) (by show 63 + 5 ≤ 68 + 1 * nT; omega) dX3_init_21 (fun q_3 H hP hD hS => ?_)
  have hP : va_P (dC, dI) vwCl [(a_p0, .inr (3, [.ref a_p1, .null, .ref q_1])), (a_p1, .inr (10, oX10 textI textR)), ((textR 1), .inl (cI, nT, .inl kF)), (q_1, .inr (2, oX2 (fun _ => 0) (q_2 0))), ((q_2 0 7), .inl (cI, 7, .inl (fun _ => 0))), ((q_2 0 8), .inl (cI, 7, .inl (fun _ => 0))), ((q_2 0 9), .inl (cI, 7, .inl (fun _ => 0))), ((q_2 0 10), .inl (cI, 6, .inl (fun _ => 0))), ((q_2 0 11), .inl (cI, 6, .inl (fun _ => 0))), ((q_2 0 12), .inl (cI, 6, .inl (fun _ => 0))), ((q_2 0 13), .inl (cI, 1, .inl (upd (fun _ => 0) 0 1))), ((q_2 0 14), .inl (cI, 3, .inl (upd (upd (upd (fun _ => 0) 0 10316) 1 10) 2 20060))), ((q_2 0 15), .inl (cI, 1, .inl (upd (fun _ => 0) 0 10309))), (q_3, .inr (1, [.null, .null, .int 0, .int 0, .int 0]))] H := hP
  have hD : va_D A [(a_p0, .inr (3, [.ref a_p1, .null, .ref q_1])), (a_p1, .inr (10, oX10 textI textR)), ((textR 1), .inl (cI, nT, .inl kF)), (q_1, .inr (2, oX2 (fun _ => 0) (q_2 0))), ((q_2 0 7), .inl (cI, 7, .inl (fun _ => 0))), ((q_2 0 8), .inl (cI, 7, .inl (fun _ => 0))), ((q_2 0 9), .inl (cI, 7, .inl (fun _ => 0))), ((q_2 0 10), .inl (cI, 6, .inl (fun _ => 0))), ((q_2 0 11), .inl (cI, 6, .inl (fun _ => 0))), ((q_2 0 12), .inl (cI, 6, .inl (fun _ => 0))), ((q_2 0 13), .inl (cI, 1, .inl (upd (fun _ => 0) 0 1))), ((q_2 0 14), .inl (cI, 3, .inl (upd (upd (upd (fun _ => 0) 0 10316) 1 10) 2 20060))), ((q_2 0 15), .inl (cI, 1, .inl (upd (fun _ => 0) 0 10309))), (q_3, .inr (1, [.null, .null, .int 0, .int 0, .int 0]))] := hD
  refine W.widen (k := 11) (n := 68) (Nat.le_of_ble_eq_true rfl) (by omega) ?_
  refine lv_dup hx hb dX3_init_24 rfl ?_
  refine lv_aload_n hx hb dX3_init_25 rfl (lv_at hl 1 rfl) ?_
  refine xq_callIA (As := [.ref a_p1]) (rest := [.ref q_3, .ref a_p0]) (wr := [(a_p0, .inr (3, [.ref a_p1, .null, .ref q_1])), (q_1, .inr (2, oX2 (fun _ => 0) (q_2 0))), ((q_2 0 7), .inl (cI, 7, .inl (fun _ => 0))), ((q_2 0 8), .inl (cI, 7, .inl (fun _ => 0))), ((q_2 0 9), .inl (cI, 7, .inl (fun _ => 0))), ((q_2 0 10), .inl (cI, 6, .inl (fun _ => 0))), ((q_2 0 11), .inl (cI, 6, .inl (fun _ => 0))), ((q_2 0 12), .inl (cI, 6, .inl (fun _ => 0))), ((q_2 0 13), .inl (cI, 1, .inl (upd (fun _ => 0) 0 1))), ((q_2 0 14), .inl (cI, 3, .inl (upd (upd (upd (fun _ => 0) 0 10316) 1 10) 2 20060))), ((q_2 0 15), .inl (cI, 1, .inl (upd (fun _ => 0) 0 10309)))]) ⟨hx, hb, hml, hown, hts⟩ (kX1_init l dC dI cI cB cJ cZ cM z ad q_3 a_p1 textI textR kF nT hb9) (cwI 1 hts gX3_init_X1_init rfl rfl rfl hw15 hw16 hw17 rfl (by decide +kernel) ⟨Nat.le_of_ble_eq_true rfl, Nat.le_of_ble_eq_true rfl⟩) hN hK hP hD hS hA [13, 1, 2] [0, 3, 4, 5, 6, 7, 8, 9, 10, 11, 12] (by decide) rfl rfl (by decide) (by decide) rfl hl.1 rfl (Nat.le_of_ble_eq_true rfl) dX3_init_26 ⟨Nat.le_of_ble_eq_true rfl, by show 68 + (0 + 1 * nT) ≤ 68 + 1 * nT; omega⟩ (fun q_4 H locs hP hD hS => ?_)
  have hP : va_P (dC, dI) vwCl [(a_p0, .inr (3, [.ref a_p1, .null, .ref q_1])), (q_1, .inr (2, oX2 (fun _ => 0) (q_2 0))), ((q_2 0 7), .inl (cI, 7, .inl (fun _ => 0))), ((q_2 0 8), .inl (cI, 7, .inl (fun _ => 0))), ((q_2 0 9), .inl (cI, 7, .inl (fun _ => 0))), ((q_2 0 10), .inl (cI, 6, .inl (fun _ => 0))), ((q_2 0 11), .inl (cI, 6, .inl (fun _ => 0))), ((q_2 0 12), .inl (cI, 6, .inl (fun _ => 0))), ((q_2 0 13), .inl (cI, 1, .inl (upd (fun _ => 0) 0 1))), ((q_2 0 14), .inl (cI, 3, .inl (upd (upd (upd (fun _ => 0) 0 10316) 1 10) 2 20060))), ((q_2 0 15), .inl (cI, 1, .inl (upd (fun _ => 0) 0 10309))), (q_3, .inr (1, oX1 (va_up (fun _ => 0) 4 310) (va_up (q_4 0) 0 a_p1))), ((q_4 0 1), .inl (cI, nT, .inl (fun _ => 0))), (a_p1, .inr (10, oX10 textI textR)), ((textR 1), .inl (cI, nT, .inl kF))] H := hP
  have hD : va_D A [(a_p0, .inr (3, [.ref a_p1, .null, .ref q_1])), (q_1, .inr (2, oX2 (fun _ => 0) (q_2 0))), ((q_2 0 7), .inl (cI, 7, .inl (fun _ => 0))), ((q_2 0 8), .inl (cI, 7, .inl (fun _ => 0))), ((q_2 0 9), .inl (cI, 7, .inl (fun _ => 0))), ((q_2 0 10), .inl (cI, 6, .inl (fun _ => 0))), ((q_2 0 11), .inl (cI, 6, .inl (fun _ => 0))), ((q_2 0 12), .inl (cI, 6, .inl (fun _ => 0))), ((q_2 0 13), .inl (cI, 1, .inl (upd (fun _ => 0) 0 1))), ((q_2 0 14), .inl (cI, 3, .inl (upd (upd (upd (fun _ => 0) 0 10316) 1 10) 2 20060))), ((q_2 0 15), .inl (cI, 1, .inl (upd (fun _ => 0) 0 10309))), (q_3, .inr (1, oX1 (va_up (fun _ => 0) 4 310) (va_up (q_4 0) 0 a_p1))), ((q_4 0 1), .inl (cI, nT, .inl (fun _ => 0))), (a_p1, .inr (10, oX10 textI textR)), ((textR 1), .inl (cI, nT, .inl kF))] := hD
  refine W.widen (k := 12) (n := 68 + 1 * nT) (Nat.le_of_ble_eq_true rfl) (by omega) ?_
  refine W.eq (g2 := F0 m 29 ls [.ref q_3, .ref a_p0]) rfl ?_
  refine va_putF (D := (dC, dI)) (ci := 3) (v := .ref q_3) (ty := .object "DistantVoice$FormulaReader") (C := RX3) (T := TX3) (N := 3) hx hb hts hinX3 tyX3 tyX3_ok nmX3 hown hK hP hD hS 0 rfl rfl 1 (by decide) hw18 (fun _ h9 => h9) rfl hin rfl (by decide +kernel) rfl rfl (Nat.le_of_ble_eq_true rfl) dX3_init_29 (fun H locs hP hD hS => ?_)
  have hP : va_P (dC, dI) vwCl [(a_p0, .inr (3, [.ref a_p1, .ref q_3, .ref q_1])), (q_1, .inr (2, oX2 (fun _ => 0) (q_2 0))), ((q_2 0 7), .inl (cI, 7, .inl (fun _ => 0))), ((q_2 0 8), .inl (cI, 7, .inl (fun _ => 0))), ((q_2 0 9), .inl (cI, 7, .inl (fun _ => 0))), ((q_2 0 10), .inl (cI, 6, .inl (fun _ => 0))), ((q_2 0 11), .inl (cI, 6, .inl (fun _ => 0))), ((q_2 0 12), .inl (cI, 6, .inl (fun _ => 0))), ((q_2 0 13), .inl (cI, 1, .inl (upd (fun _ => 0) 0 1))), ((q_2 0 14), .inl (cI, 3, .inl (upd (upd (upd (fun _ => 0) 0 10316) 1 10) 2 20060))), ((q_2 0 15), .inl (cI, 1, .inl (upd (fun _ => 0) 0 10309))), (q_3, .inr (1, oX1 (va_up (fun _ => 0) 4 310) (va_up (q_4 0) 0 a_p1))), ((q_4 0 1), .inl (cI, nT, .inl (fun _ => 0))), (a_p1, .inr (10, oX10 textI textR)), ((textR 1), .inl (cI, nT, .inl kF))] H := hP
  have hD : va_D A [(a_p0, .inr (3, [.ref a_p1, .ref q_3, .ref q_1])), (q_1, .inr (2, oX2 (fun _ => 0) (q_2 0))), ((q_2 0 7), .inl (cI, 7, .inl (fun _ => 0))), ((q_2 0 8), .inl (cI, 7, .inl (fun _ => 0))), ((q_2 0 9), .inl (cI, 7, .inl (fun _ => 0))), ((q_2 0 10), .inl (cI, 6, .inl (fun _ => 0))), ((q_2 0 11), .inl (cI, 6, .inl (fun _ => 0))), ((q_2 0 12), .inl (cI, 6, .inl (fun _ => 0))), ((q_2 0 13), .inl (cI, 1, .inl (upd (fun _ => 0) 0 1))), ((q_2 0 14), .inl (cI, 3, .inl (upd (upd (upd (fun _ => 0) 0 10316) 1 10) 2 20060))), ((q_2 0 15), .inl (cI, 1, .inl (upd (fun _ => 0) 0 10309))), (q_3, .inr (1, oX1 (va_up (fun _ => 0) 4 310) (va_up (q_4 0) 0 a_p1))), ((q_4 0 1), .inl (cI, nT, .inl (fun _ => 0))), (a_p1, .inr (10, oX10 textI textR)), ((textR 1), .inl (cI, nT, .inl kF))] := hD
  exact xq_vretA (va_up (va_up (va_up (fun _ _ => 0) 0 (va_up (va_up (fun _ => 0) 1 q_3) 2 q_1)) 1 (q_4 0)) 2 (q_2 0)) rfl hx hb hr hlocks hK (hP.sub [0, 11, 12, 1, 2, 3, 4, 5, 6, 7, 8, 9, 10, 13, 14] rfl) (hD.sub [0, 11, 12, 1, 2, 3, 4, 5, 6, 7, 8, 9, 10, 13, 14] (by decide) rfl) hS dX3_init_32
