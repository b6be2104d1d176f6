def dsX10_addPiece_0 : List (Nat × Instr × Nat) := [(0, (.aload_n 0, 1)), (1, (.getfield 9, 3)), (4, (.aload_n 0, 1)), (5, (.getfield 33, 3)), (8, (.arraylength, 1)), (9, (.if_icmp .ge 43, 3)), (12, (.aload_n 0, 1)), (13, (.getfield 33, 3)), (16, (.aload_n 0, 1)), (17, (.getfield 9, 3)), (20, (.iload_n 1, 1)), (21, (.iastore, 1)), (22, (.aload_n 0, 1)), (23, (.getfield 37, 3)), (26, (.aload_n 0, 1)), (27, (.getfield 9, 3)), (30, (.iload_n 2, 1)), (31, (.iastore, 1)), (32, (.aload_n 0, 1)), (33, (.getfield 40, 3)), (36, (.aload_n 0, 1)), (37, (.getfield 9, 3)), (40, (.iload_n 3, 1)), (41, (.iastore, 1)), (42, (.aload_n 0, 1)), (43, (.dup, 1)), (44, (.getfield 9, 3)), (47, (.iconst 1, 1)), (48, (.iadd, 1)), (49, (.putfield 9, 3)), (52, (.return_, 1))]
theorem dsX10_addPiece_0_ok : (dsX10_addPiece_0.all fun q => decide (decode cX10_addPiece q.1 = .ok q.2)) = true := by decide +kernel
theorem dX10_addPiece_0 : decode cX10_addPiece 0 = .ok (.aload_n 0, 1) := of_decide_eq_true (List.all_eq_true.mp dsX10_addPiece_0_ok (0, (.aload_n 0, 1)) (List.mem_of_getElem? (i := 0) rfl))
theorem dX10_addPiece_1 : decode cX10_addPiece 1 = .ok (.getfield 9, 3) := of_decide_eq_true (List.all_eq_true.mp dsX10_addPiece_0_ok (1, (.getfield 9, 3)) (List.mem_of_getElem? (i := 1) rfl))
theorem dX10_addPiece_4 : decode cX10_addPiece 4 = .ok (.aload_n 0, 1) := of_decide_eq_true (List.all_eq_true.mp dsX10_addPiece_0_ok (4, (.aload_n 0, 1)) (List.mem_of_getElem? (i := 2) rfl))
theorem dX10_addPiece_5 : decode cX10_addPiece 5 = .ok (.getfield 33, 3) := of_decide_eq_true (List.all_eq_true.mp dsX10_addPiece_0_ok (5, (.getfield 33, 3)) (List.mem_of_getElem? (i := 3) rfl))
theorem dX10_addPiece_8 : decode cX10_addPiece 8 = .ok (.arraylength, 1) := of_decide_eq_true (List.all_eq_true.mp dsX10_addPiece_0_ok (8, (.arraylength, 1)) (List.mem_of_getElem? (i := 4) rfl))
theorem dX10_addPiece_9 : decode cX10_addPiece 9 = .ok (.if_icmp .ge 43, 3) := of_decide_eq_true (List.all_eq_true.mp dsX10_addPiece_0_ok (9, (.if_icmp .ge 43, 3)) (List.mem_of_getElem? (i := 5) rfl))
theorem dX10_addPiece_12 : decode cX10_addPiece 12 = .ok (.aload_n 0, 1) := of_decide_eq_true (List.all_eq_true.mp dsX10_addPiece_0_ok (12, (.aload_n 0, 1)) (List.mem_of_getElem? (i := 6) rfl))
theorem dX10_addPiece_13 : decode cX10_addPiece 13 = .ok (.getfield 33, 3) := of_decide_eq_true (List.all_eq_true.mp dsX10_addPiece_0_ok (13, (.getfield 33, 3)) (List.mem_of_getElem? (i := 7) rfl))
theorem dX10_addPiece_16 : decode cX10_addPiece 16 = .ok (.aload_n 0, 1) := of_decide_eq_true (List.all_eq_true.mp dsX10_addPiece_0_ok (16, (.aload_n 0, 1)) (List.mem_of_getElem? (i := 8) rfl))
theorem dX10_addPiece_17 : decode cX10_addPiece 17 = .ok (.getfield 9, 3) := of_decide_eq_true (List.all_eq_true.mp dsX10_addPiece_0_ok (17, (.getfield 9, 3)) (List.mem_of_getElem? (i := 9) rfl))
theorem dX10_addPiece_20 : decode cX10_addPiece 20 = .ok (.iload_n 1, 1) := of_decide_eq_true (List.all_eq_true.mp dsX10_addPiece_0_ok (20, (.iload_n 1, 1)) (List.mem_of_getElem? (i := 10) rfl))
theorem dX10_addPiece_21 : decode cX10_addPiece 21 = .ok (.iastore, 1) := of_decide_eq_true (List.all_eq_true.mp dsX10_addPiece_0_ok (21, (.iastore, 1)) (List.mem_of_getElem? (i := 11) rfl))
theorem dX10_addPiece_22 : decode cX10_addPiece 22 = .ok (.aload_n 0, 1) := of_decide_eq_true (List.all_eq_true.mp dsX10_addPiece_0_ok (22, (.aload_n 0, 1)) (List.mem_of_getElem? (i := 12) rfl))
theorem dX10_addPiece_23 : decode cX10_addPiece 23 = .ok (.getfield 37, 3) := of_decide_eq_true (List.all_eq_true.mp dsX10_addPiece_0_ok (23, (.getfield 37, 3)) (List.mem_of_getElem? (i := 13) rfl))
theorem dX10_addPiece_26 : decode cX10_addPiece 26 = .ok (.aload_n 0, 1) := of_decide_eq_true (List.all_eq_true.mp dsX10_addPiece_0_ok (26, (.aload_n 0, 1)) (List.mem_of_getElem? (i := 14) rfl))
theorem dX10_addPiece_27 : decode cX10_addPiece 27 = .ok (.getfield 9, 3) := of_decide_eq_true (List.all_eq_true.mp dsX10_addPiece_0_ok (27, (.getfield 9, 3)) (List.mem_of_getElem? (i := 15) rfl))
theorem dX10_addPiece_30 : decode cX10_addPiece 30 = .ok (.iload_n 2, 1) := of_decide_eq_true (List.all_eq_true.mp dsX10_addPiece_0_ok (30, (.iload_n 2, 1)) (List.mem_of_getElem? (i := 16) rfl))
theorem dX10_addPiece_31 : decode cX10_addPiece 31 = .ok (.iastore, 1) := of_decide_eq_true (List.all_eq_true.mp dsX10_addPiece_0_ok (31, (.iastore, 1)) (List.mem_of_getElem? (i := 17) rfl))
theorem dX10_addPiece_32 : decode cX10_addPiece 32 = .ok (.aload_n 0, 1) := of_decide_eq_true (List.all_eq_true.mp dsX10_addPiece_0_ok (32, (.aload_n 0, 1)) (List.mem_of_getElem? (i := 18) rfl))
theorem dX10_addPiece_33 : decode cX10_addPiece 33 = .ok (.getfield 40, 3) := of_decide_eq_true (List.all_eq_true.mp dsX10_addPiece_0_ok (33, (.getfield 40, 3)) (List.mem_of_getElem? (i := 19) rfl))
theorem dX10_addPiece_36 : decode cX10_addPiece 36 = .ok (.aload_n 0, 1) := of_decide_eq_true (List.all_eq_true.mp dsX10_addPiece_0_ok (36, (.aload_n 0, 1)) (List.mem_of_getElem? (i := 20) rfl))
theorem dX10_addPiece_37 : decode cX10_addPiece 37 = .ok (.getfield 9, 3) := of_decide_eq_true (List.all_eq_true.mp dsX10_addPiece_0_ok (37, (.getfield 9, 3)) (List.mem_of_getElem? (i := 21) rfl))
theorem dX10_addPiece_40 : decode cX10_addPiece 40 = .ok (.iload_n 3, 1) := of_decide_eq_true (List.all_eq_true.mp dsX10_addPiece_0_ok (40, (.iload_n 3, 1)) (List.mem_of_getElem? (i := 22) rfl))
theorem dX10_addPiece_41 : decode cX10_addPiece 41 = .ok (.iastore, 1) := of_decide_eq_true (List.all_eq_true.mp dsX10_addPiece_0_ok (41, (.iastore, 1)) (List.mem_of_getElem? (i := 23) rfl))
theorem dX10_addPiece_42 : decode cX10_addPiece 42 = .ok (.aload_n 0, 1) := of_decide_eq_true (List.all_eq_true.mp dsX10_addPiece_0_ok (42, (.aload_n 0, 1)) (List.mem_of_getElem? (i := 24) rfl))
theorem dX10_addPiece_43 : decode cX10_addPiece 43 = .ok (.dup, 1) := of_decide_eq_true (List.all_eq_true.mp dsX10_addPiece_0_ok (43, (.dup, 1)) (List.mem_of_getElem? (i := 25) rfl))
theorem dX10_addPiece_44 : decode cX10_addPiece 44 = .ok (.getfield 9, 3) := of_decide_eq_true (List.all_eq_true.mp dsX10_addPiece_0_ok (44, (.getfield 9, 3)) (List.mem_of_getElem? (i := 26) rfl))
theorem dX10_addPiece_47 : decode cX10_addPiece 47 = .ok (.iconst 1, 1) := of_decide_eq_true (List.all_eq_true.mp dsX10_addPiece_0_ok (47, (.iconst 1, 1)) (List.mem_of_getElem? (i := 27) rfl))
theorem dX10_addPiece_48 : decode cX10_addPiece 48 = .ok (.iadd, 1) := of_decide_eq_true (List.all_eq_true.mp dsX10_addPiece_0_ok (48, (.iadd, 1)) (List.mem_of_getElem? (i := 28) rfl))
theorem dX10_addPiece_49 : decode cX10_addPiece 49 = .ok (.putfield 9, 3) := of_decide_eq_true (List.all_eq_true.mp dsX10_addPiece_0_ok (49, (.putfield 9, 3)) (List.mem_of_getElem? (i := 29) rfl))
theorem dX10_addPiece_52 : decode cX10_addPiece 52 = .ok (.return_, 1) := of_decide_eq_true (List.all_eq_true.mp dsX10_addPiece_0_ok (52, (.return_, 1)) (List.mem_of_getElem? (i := 30) rfl))
def fX10_addPiece (N : Nat) (txI : Nat → Int32) (tx_kindsF : Nat → Int32) (tx_startsF : Nat → Int32) (tx_valuesF : Nat → Int32) (tx_kindsN : Nat) (tx_startsN : Nat) (tx_valuesN : Nat) (p1 : Int32) (p2 : Int32) (p3 : Int32) : Option ((Nat → Int32) × (Nat → Int32) × (Nat → Int32) × (Nat → Int32)) :=
  (if (nI tx_kindsN) ≤ (txI 4) then some ((txI, tx_kindsF, tx_startsF, tx_valuesF)) else (xq_bd (xq_ast tx_kindsN tx_kindsF (txI 4) p1) fun g_1 => (xq_bd (xq_ast tx_startsN tx_startsF (txI 4) p2) fun g_2 => (xq_bd (xq_ast tx_valuesN tx_valuesF (txI 4) p3) fun g_3 => some (((va_up txI 4 ((txI 4) + 1)), g_1, g_2, g_3))))))
set_option maxHeartbeats 4000000 in
set_option maxRecDepth 100000 in
theorem kX10_addPiece (l : Launch) (dC : Nat → ClassId) (dI : Nat → Nat → Nat) (cI cB cJ cZ cM : ClassId) (z : Nat) (ad : Nat → Nat) (N : Nat) (a_p0 : Nat) (txI : Nat → Int32) (txR : Nat → Nat) (tx_kindsF : Nat → Int32) (tx_kindsN : Nat) (tx_startsF : Nat → Int32) (tx_startsN : Nat) (tx_valuesF : Nat → Int32) (tx_valuesN : Nat) (p1 : Int32) (p2 : Int32) (p3 : Int32) {r0 : Nat → Int32} {r1 : Nat → Int32} {r2 : Nat → Int32} {r3 : Nat → Int32} (hf : fX10_addPiece N txI tx_kindsF tx_startsF tx_valuesF tx_kindsN tx_startsN tx_valuesN p1 p2 p3 = some (r0, r1, r2, r3)) : xq_Ct l yX10_addPiece wsX10_addPiece { frames := 0, cells := 0, slots := 0, locals := 0 } (dC, dI) vwCl (xq_tys cI cB cJ cZ cM) z ad [.ref a_p0, .int p1, .int p2, .int p3] [(a_p0, .inr (10, oX10 txI txR)), ((txR 1), .inl (cI, tx_kindsN, .inl tx_kindsF)), ((txR 2), .inl (cI, tx_startsN, .inl tx_startsF)), ((txR 3), .inl (cI, tx_valuesN, .inl tx_valuesF))] [(a_p0, .inr (10, oX10 r0 txR)), ((txR 1), .inl (cI, tx_kindsN, .inl r1)), ((txR 2), .inl (cI, tx_startsN, .inl r2)), ((txR 3), .inl (cI, tx_valuesN, .inl r3))] none := by
  intro sz
  refine Met.ofW (cc := cX10_addPiece) (maxL := 4) (ret := none) (by decide) rfl ?_
  intro p e s m args below meth c s₁ B hml hv
  obtain ⟨rfl, hsz, hP, hK, hD0, hE, hz⟩ := hv
  have hx := B.exec
  have hb := B.bytes
  have hr := B.returns
  have hts := atoms_spec (ws := wsX10_addPiece) B.pre
  have hown : s.vm.findClass RX10 = some m.cls := findClass_of_methodNamed B.named
  have hlocks := B.notSynchronized
  subst hsz
  have hD := hD0.self (sz := s.heap.size)
  have hN := xq_Env.of hE hz hD0
  generalize hAe : va_A [(a_p0, .inr (10, oX10 txI txR)), ((txR 1), .inl (cI, tx_kindsN, .inl tx_kindsF)), ((txR 2), .inl (cI, tx_startsN, .inl tx_startsF)), ((txR 3), .inl (cI, tx_valuesN, .inl tx_valuesF))] s.heap.size = A at hD hN ⊢
  have hA : ∀ q : Nat, s.heap.size ≤ q → A q := fun q h => by rw [← hAe]; exact Or.inr h
  clear hAe hD0
  have hS : va_S A s.heap s.heap [] := va_S.rf
  have hl := lv_entry ([.ref a_p0, .int p1, .int p2, .int p3]) (n := 4) (Nat.le_of_ble_eq_true rfl)
  rw [lg_entry_eq]
  generalize (lg_sl ([.ref a_p0, .int p1, .int p2, .int p3]) ++ List.replicate (4 - (lg_sl ([.ref a_p0, .int p1, .int p2, .int p3])).length) Slot.unset).toArray = ls at hl ⊢
  have hl : lv_has ls 4 [(0, .ref a_p0), (1, .int p1), (2, .int p2), (3, .int p3)] := hl
  have hw0 := hts (.fieldLink RX10 9 "DistantVoice$Text" "count" "I") (by decide +kernel)
  have hinX10 : ∀ w ∈ wsX100, w ∈ wsX10_addPiece := fun w h => List.mem_cons_of_mem _ (List.mem_append_right _ h)
  have hw2 := hts (.fieldLink RX10 33 "DistantVoice$Text" "kinds" "[I") (by decide +kernel)
  have hw3 := hts (.fieldLink RX10 37 "DistantVoice$Text" "starts" "[I") (by decide +kernel)
  have hw4 := hts (.fieldLink RX10 40 "DistantVoice$Text" "values" "[I") (by decide +kernel)
  unfold fX10_addPiece at hf
  refine lv_aload_n hx hb dX10_addPiece_0 rfl (lv_at hl 0 rfl) ?_
  refine va_get (D := (dC, dI)) (ci := 10) (v := .int (txI 4)) (C := RX10) (T := TX10) (N := 8) hx hb hts hinX10 hown hK hP 0 rfl rfl 4 (by decide) hw0 (fun _ h9 => h9) rfl dX10_addPiece_1 ?_
  refine lv_aload_n hx hb dX10_addPiece_4 rfl (lv_at hl 0 rfl) ?_
  refine va_get (D := (dC, dI)) (ci := 10) (v := .ref ((txR 1))) (C := RX10) (T := TX10) (N := 8) hx hb hts hinX10 hown hK hP 0 rfl rfl 1 (by decide) hw2 (fun _ h9 => h9) rfl dX10_addPiece_5 ?_
  refine va_alen hx hb hK hP 1 0 (v := nI tx_kindsN) rfl rfl rfl dX10_addPiece_8 ?_
  refine lv_icmp_ge (tgt := 52) hx hb dX10_addPiece_9 (by decide) (fun c_ => ?_) (fun c_ => ?_)
  · have hf := xq_pos hf c_
    cases hf
    exact xq_vret hx hb hr hlocks hK hP hD hS dX10_addPiece_52
  · have hf := xq_neg hf c_
    refine lv_aload_n hx hb dX10_addPiece_12 rfl (lv_at hl 0 rfl) ?_
    refine va_get (D := (dC, dI)) (ci := 10) (v := .ref ((txR 1))) (C := RX10) (T := TX10) (N := 8) hx hb hts hinX10 hown hK hP 0 rfl rfl 1 (by decide) hw2 (fun _ h9 => h9) rfl dX10_addPiece_13 ?_
    refine lv_aload_n hx hb dX10_addPiece_16 rfl (lv_at hl 0 rfl) ?_
    refine va_get (D := (dC, dI)) (ci := 10) (v := .int (txI 4)) (C := RX10) (T := TX10) (N := 8) hx hb hts hinX10 hown hK hP 0 rfl rfl 4 (by decide) hw0 (fun _ h9 => h9) rfl dX10_addPiece_17 ?_
    refine lv_iload_n hx hb dX10_addPiece_20 rfl (lv_at hl 1 rfl) ?_
    refine xq_iast hx hb hK hP hD hS 1 0 rfl rfl hf dX10_addPiece_21 (fun g_1 H locs hf hP hD hS => ?_)
    have hP : va_P (dC, dI) vwCl [(a_p0, .inr (10, oX10 txI txR)), ((txR 1), .inl (cI, tx_kindsN, .inl g_1)), ((txR 2), .inl (cI, tx_startsN, .inl tx_startsF)), ((txR 3), .inl (cI, tx_valuesN, .inl tx_valuesF))] H := hP
    have hD : va_D A [(a_p0, .inr (10, oX10 txI txR)), ((txR 1), .inl (cI, tx_kindsN, .inl g_1)), ((txR 2), .inl (cI, tx_startsN, .inl tx_startsF)), ((txR 3), .inl (cI, tx_valuesN, .inl tx_valuesF))] := hD
    refine lv_aload_n hx hb dX10_addPiece_22 rfl (lv_at hl 0 rfl) ?_
    refine va_get (D := (dC, dI)) (ci := 10) (v := .ref ((txR 2))) (C := RX10) (T := TX10) (N := 8) hx hb hts hinX10 hown hK hP 0 rfl rfl 2 (by decide) hw3 (fun _ h9 => h9) rfl dX10_addPiece_23 ?_
    refine lv_aload_n hx hb dX10_addPiece_26 rfl (lv_at hl 0 rfl) ?_
    refine va_get (D := (dC, dI)) (ci := 10) (v := .int (txI 4)) (C := RX10) (T := TX10) (N := 8) hx hb hts hinX10 hown hK hP 0 rfl rfl 4 (by decide) hw0 (fun _ h9 => h9) rfl dX10_addPiece_27 ?_
    refine lv_iload_n hx hb dX10_addPiece_30 rfl (lv_at hl 2 rfl) ?_
    refine xq_iast hx hb hK hP hD hS 2 0 rfl rfl hf dX10_addPiece_31 (fun g_2 H locs hf hP hD hS => ?_)
    have hP : va_P (dC, dI) vwCl [(a_p0, .inr (10, oX10 txI txR)), ((txR 1), .inl (cI, tx_kindsN, .inl g_1)), ((txR 2), .inl (cI, tx_startsN, .inl g_2)), ((txR 3), .inl (cI, tx_valuesN, .inl tx_valuesF))] H := hP
    have hD : va_D A [(a_p0, .inr (10, oX10 txI txR)), ((txR 1), .inl (cI, tx_kindsN, .inl g_1)), ((txR 2), .inl (cI, tx_startsN, .inl g_2)), ((txR 3), .inl (cI, tx_valuesN, .inl tx_valuesF))] := hD
    refine lv_aload_n hx hb dX10_addPiece_32 rfl (lv_at hl 0 rfl) ?_
    refine va_get (D := (dC, dI)) (ci := 10) (v := .ref ((txR 3))) (C := RX10) (T := TX10) (N := 8) hx hb hts hinX10 hown hK hP 0 rfl rfl 3 (by decide) hw4 (fun _ h9 => h9) rfl dX10_addPiece_33 ?_
    refine lv_aload_n hx hb dX10_addPiece_36 rfl (lv_at hl 0 rfl) ?_
    refine va_get (D := (dC, dI)) (ci := 10) (v := .int (txI 4)) (C := RX10) (T := TX10) (N := 8) hx hb hts hinX10 hown hK hP 0 rfl rfl 4 (by decide) hw0 (fun _ h9 => h9) rfl dX10_addPiece_37 ?_
    refine lv_iload_n hx hb dX10_addPiece_40 rfl (lv_at hl 3 rfl) ?_
    refine xq_iast hx hb hK hP hD hS 3 0 rfl rfl hf dX10_addPiece_41 (fun g_3 H locs hf hP hD hS => ?_)
    have hP : va_P (dC, dI) vwCl [(a_p0, .inr (10, oX10 txI txR)), ((txR 1), .inl (cI, tx_kindsN, .inl g_1)), ((txR 2), .inl (cI, tx_startsN, .inl g_2)), ((txR 3), .inl (cI, tx_valuesN, .inl g_3))] H := hP
    have hD : va_D A [(a_p0, .inr (10, oX10 txI txR)), ((txR 1), .inl (cI, tx_kindsN, .inl g_1)), ((txR 2), .inl (cI, tx_startsN, .inl g_2)), ((txR 3), .inl (cI, tx_valuesN, .inl g_3))] := hD
    refine lv_aload_n hx hb dX10_addPiece_42 rfl (lv_at hl 0 rfl) ?_
    refine lv_dup hx hb dX10_addPiece_43 rfl ?_
    refine va_get (D := (dC, dI)) (ci := 10) (v := .int (txI 4)) (C := RX10) (T := TX10) (N := 8) hx hb hts hinX10 hown hK hP 0 rfl rfl 4 (by decide) hw0 (fun _ h9 => h9) rfl dX10_addPiece_44 ?_
    refine lv_iconst (v := 1) hx hb dX10_addPiece_47 (by decide) ?_
    refine lv_iadd hx hb dX10_addPiece_48 ?_
    refine va_put (D := (dC, dI)) (ci := 10) (v := .int ((txI 4) + 1)) (ty := .int) (C := RX10) (T := TX10) (N := 8) hx hb hts hinX10 tyX10 tyX10_ok nmX10 hown hK hP hD hS 0 rfl rfl 4 (by decide) hw0 (fun _ h9 => h9) rfl (by decide +kernel) rfl rfl (Nat.le_of_ble_eq_true rfl) dX10_addPiece_49 (fun H locs hP hD hS => ?_)
    have hP : va_P (dC, dI) vwCl [(a_p0, .inr (10, oX10 (va_up txI 4 ((txI 4) + 1)) txR)), ((txR 1), .inl (cI, tx_kindsN, .inl g_1)), ((txR 2), .inl (cI, tx_startsN, .inl g_2)), ((txR 3), .inl (cI, tx_valuesN, .inl g_3))] H := hP
    have hD : va_D A [(a_p0, .inr (10, oX10 (va_up txI 4 ((txI 4) + 1)) txR)), ((txR 1), .inl (cI, tx_kindsN, .inl g_1)), ((txR 2), .inl (cI, tx_startsN, .inl g_2)), ((txR 3), .inl (cI, tx_valuesN, .inl g_3))] := hD
    cases hf
    exact xq_vret hx hb hr hlocks hK hP hD hS dX10_addPiece_52
def dsX10_endsInWordOrNumber_0 : List (Nat × Instr × Nat) := [(0, (.aload_n 0, 1)), (1, (.getfield 9, 3)), (4, (.ifCond .ne 5, 3)), (7, (.iconst 0, 1)), (8, (.ireturn, 1)), (9, (.aload_n 0, 1)), (10, (.getfield 33, 3)), (13, (.aload_n 0, 1)), (14, (.getfield 9, 3)), (17, (.iconst 1, 1)), (18, (.isub, 1)), (19, (.iaload, 1)), (20, (.istore_n 1, 1)), (21, (.iload_n 1, 1)), (22, (.bipush (-3), 2)), (24, (.if_icmp .eq 16, 3)), (27, (.iload_n 1, 1)), (28, (.bipush (-4), 2)), (30, (.if_icmp .eq 10, 3)), (33, (.iload_n 1, 1)), (34, (.sipush 300, 3)), (37, (.if_icmp .lt 7, 3)), (40, (.iconst 1, 1)), (41, (.goto 4, 3)), (44, (.iconst 0, 1)), (45, (.ireturn, 1))]
theorem dsX10_endsInWordOrNumber_0_ok : (dsX10_endsInWordOrNumber_0.all fun q => decide (decode cX10_endsInWordOrNumber q.1 = .ok q.2)) = true := by decide +kernel
theorem dX10_endsInWordOrNumber_0 : decode cX10_endsInWordOrNumber 0 = .ok (.aload_n 0, 1) := of_decide_eq_true (List.all_eq_true.mp dsX10_endsInWordOrNumber_0_ok (0, (.aload_n 0, 1)) (List.mem_of_getElem? (i := 0) rfl))
theorem dX10_endsInWordOrNumber_1 : decode cX10_endsInWordOrNumber 1 = .ok (.getfield 9, 3) := of_decide_eq_true (List.all_eq_true.mp dsX10_endsInWordOrNumber_0_ok (1, (.getfield 9, 3)) (List.mem_of_getElem? (i := 1) rfl))
theorem dX10_endsInWordOrNumber_4 : decode cX10_endsInWordOrNumber 4 = .ok (.ifCond .ne 5, 3) := of_decide_eq_true (List.all_eq_true.mp dsX10_endsInWordOrNumber_0_ok (4, (.ifCond .ne 5, 3)) (List.mem_of_getElem? (i := 2) rfl))
theorem dX10_endsInWordOrNumber_7 : decode cX10_endsInWordOrNumber 7 = .ok (.iconst 0, 1) := of_decide_eq_true (List.all_eq_true.mp dsX10_endsInWordOrNumber_0_ok (7, (.iconst 0, 1)) (List.mem_of_getElem? (i := 3) rfl))
theorem dX10_endsInWordOrNumber_8 : decode cX10_endsInWordOrNumber 8 = .ok (.ireturn, 1) := of_decide_eq_true (List.all_eq_true.mp dsX10_endsInWordOrNumber_0_ok (8, (.ireturn, 1)) (List.mem_of_getElem? (i := 4) rfl))
theorem dX10_endsInWordOrNumber_9 : decode cX10_endsInWordOrNumber 9 = .ok (.aload_n 0, 1) := of_decide_eq_true (List.all_eq_true.mp dsX10_endsInWordOrNumber_0_ok (9, (.aload_n 0, 1)) (List.mem_of_getElem? (i := 5) rfl))
theorem dX10_endsInWordOrNumber_10 : decode cX10_endsInWordOrNumber 10 = .ok (.getfield 33, 3) := of_decide_eq_true (List.all_eq_true.mp dsX10_endsInWordOrNumber_0_ok (10, (.getfield 33, 3)) (List.mem_of_getElem? (i := 6) rfl))
theorem dX10_endsInWordOrNumber_13 : decode cX10_endsInWordOrNumber 13 = .ok (.aload_n 0, 1) := of_decide_eq_true (List.all_eq_true.mp dsX10_endsInWordOrNumber_0_ok (13, (.aload_n 0, 1)) (List.mem_of_getElem? (i := 7) rfl))
theorem dX10_endsInWordOrNumber_14 : decode cX10_endsInWordOrNumber 14 = .ok (.getfield 9, 3) := of_decide_eq_true (List.all_eq_true.mp dsX10_endsInWordOrNumber_0_ok (14, (.getfield 9, 3)) (List.mem_of_getElem? (i := 8) rfl))
theorem dX10_endsInWordOrNumber_17 : decode cX10_endsInWordOrNumber 17 = .ok (.iconst 1, 1) := of_decide_eq_true (List.all_eq_true.mp dsX10_endsInWordOrNumber_0_ok (17, (.iconst 1, 1)) (List.mem_of_getElem? (i := 9) rfl))
theorem dX10_endsInWordOrNumber_18 : decode cX10_endsInWordOrNumber 18 = .ok (.isub, 1) := of_decide_eq_true (List.all_eq_true.mp dsX10_endsInWordOrNumber_0_ok (18, (.isub, 1)) (List.mem_of_getElem? (i := 10) rfl))
theorem dX10_endsInWordOrNumber_19 : decode cX10_endsInWordOrNumber 19 = .ok (.iaload, 1) := of_decide_eq_true (List.all_eq_true.mp dsX10_endsInWordOrNumber_0_ok (19, (.iaload, 1)) (List.mem_of_getElem? (i := 11) rfl))
theorem dX10_endsInWordOrNumber_20 : decode cX10_endsInWordOrNumber 20 = .ok (.istore_n 1, 1) := of_decide_eq_true (List.all_eq_true.mp dsX10_endsInWordOrNumber_0_ok (20, (.istore_n 1, 1)) (List.mem_of_getElem? (i := 12) rfl))
theorem dX10_endsInWordOrNumber_21 : decode cX10_endsInWordOrNumber 21 = .ok (.iload_n 1, 1) := of_decide_eq_true (List.all_eq_true.mp dsX10_endsInWordOrNumber_0_ok (21, (.iload_n 1, 1)) (List.mem_of_getElem? (i := 13) rfl))
theorem dX10_endsInWordOrNumber_22 : decode cX10_endsInWordOrNumber 22 = .ok (.bipush (-3), 2) := of_decide_eq_true (List.all_eq_true.mp dsX10_endsInWordOrNumber_0_ok (22, (.bipush (-3), 2)) (List.mem_of_getElem? (i := 14) rfl))
theorem dX10_endsInWordOrNumber_24 : decode cX10_endsInWordOrNumber 24 = .ok (.if_icmp .eq 16, 3) := of_decide_eq_true (List.all_eq_true.mp dsX10_endsInWordOrNumber_0_ok (24, (.if_icmp .eq 16, 3)) (List.mem_of_getElem? (i := 15) rfl))
theorem dX10_endsInWordOrNumber_27 : decode cX10_endsInWordOrNumber 27 = .ok (.iload_n 1, 1) := of_decide_eq_true (List.all_eq_true.mp dsX10_endsInWordOrNumber_0_ok (27, (.iload_n 1, 1)) (List.mem_of_getElem? (i := 16) rfl))
theorem dX10_endsInWordOrNumber_28 : decode cX10_endsInWordOrNumber 28 = .ok (.bipush (-4), 2) := of_decide_eq_true (List.all_eq_true.mp dsX10_endsInWordOrNumber_0_ok (28, (.bipush (-4), 2)) (List.mem_of_getElem? (i := 17) rfl))
theorem dX10_endsInWordOrNumber_30 : decode cX10_endsInWordOrNumber 30 = .ok (.if_icmp .eq 10, 3) := of_decide_eq_true (List.all_eq_true.mp dsX10_endsInWordOrNumber_0_ok (30, (.if_icmp .eq 10, 3)) (List.mem_of_getElem? (i := 18) rfl))
theorem dX10_endsInWordOrNumber_33 : decode cX10_endsInWordOrNumber 33 = .ok (.iload_n 1, 1) := of_decide_eq_true (List.all_eq_true.mp dsX10_endsInWordOrNumber_0_ok (33, (.iload_n 1, 1)) (List.mem_of_getElem? (i := 19) rfl))
theorem dX10_endsInWordOrNumber_34 : decode cX10_endsInWordOrNumber 34 = .ok (.sipush 300, 3) := of_decide_eq_true (List.all_eq_true.mp dsX10_endsInWordOrNumber_0_ok (34, (.sipush 300, 3)) (List.mem_of_getElem? (i := 20) rfl))
theorem dX10_endsInWordOrNumber_37 : decode cX10_endsInWordOrNumber 37 = .ok (.if_icmp .lt 7, 3) := of_decide_eq_true (List.all_eq_true.mp dsX10_endsInWordOrNumber_0_ok (37, (.if_icmp .lt 7, 3)) (List.mem_of_getElem? (i := 21) rfl))
theorem dX10_endsInWordOrNumber_40 : decode cX10_endsInWordOrNumber 40 = .ok (.iconst 1, 1) := of_decide_eq_true (List.all_eq_true.mp dsX10_endsInWordOrNumber_0_ok (40, (.iconst 1, 1)) (List.mem_of_getElem? (i := 22) rfl))
theorem dX10_endsInWordOrNumber_41 : decode cX10_endsInWordOrNumber 41 = .ok (.goto 4, 3) := of_decide_eq_true (List.all_eq_true.mp dsX10_endsInWordOrNumber_0_ok (41, (.goto 4, 3)) (List.mem_of_getElem? (i := 23) rfl))
theorem dX10_endsInWordOrNumber_44 : decode cX10_endsInWordOrNumber 44 = .ok (.iconst 0, 1) := of_decide_eq_true (List.all_eq_true.mp dsX10_endsInWordOrNumber_0_ok (44, (.iconst 0, 1)) (List.mem_of_getElem? (i := 24) rfl))
theorem dX10_endsInWordOrNumber_45 : decode cX10_endsInWordOrNumber 45 = .ok (.ireturn, 1) := of_decide_eq_true (List.all_eq_true.mp dsX10_endsInWordOrNumber_0_ok (45, (.ireturn, 1)) (List.mem_of_getElem? (i := 25) rfl))
def fX10_endsInWordOrNumber (N : Nat) (txI : Nat → Int32) (tx_kindsF : Nat → Int32) (tx_kindsN : Nat)  : Option (Int32) :=
  (if (txI 4) = 0 then some 0 else (xq_bd (xq_ald tx_kindsN tx_kindsF ((txI 4) - 1)) fun v_1 => (if v_1 = ((-3)) then some 1 else (if v_1 = ((-4)) then some 1 else (if v_1 < 300 then some 0 else some 1)))))
set_option maxHeartbeats 4000000 in
set_option maxRecDepth 100000 in
theorem kX10_endsInWordOrNumber (l : Launch) (dC : Nat → ClassId) (dI : Nat → Nat → Nat) (cI cB cJ cZ cM : ClassId) (z : Nat) (ad : Nat → Nat) (N : Nat) (a_p0 : Nat) (txI : Nat → Int32) (txR : Nat → Nat) (tx_kindsF : Nat → Int32) (tx_kindsN : Nat) {r0 : Int32} (hf : fX10_endsInWordOrNumber N txI tx_kindsF tx_kindsN = some r0) : xq_Ct l yX10_endsInWordOrNumber wsX10_endsInWordOrNumber { frames := 0, cells := 0, slots := 0, locals := 0 } (dC, dI) vwCl (xq_tys cI cB cJ cZ cM) z ad [.ref a_p0] [(a_p0, .inr (10, oX10 txI txR)), ((txR 1), .inl (cI, tx_kindsN, .inl tx_kindsF))] [(a_p0, .inr (10, oX10 txI txR)), ((txR 1), .inl (cI, tx_kindsN, .inl tx_kindsF))] (some (.int r0)) := by
  intro sz
  refine Met.ofW (cc := cX10_endsInWordOrNumber) (maxL := 2) (ret := (some .boolean)) (by decide) rfl ?_
  intro p e s m args below meth c s₁ B hml hv
  obtain ⟨rfl, hsz, hP, hK, hD0, hE, hz⟩ := hv
  have hx := B.exec
  have hb := B.bytes
  have hr := B.returns
  have hts := atoms_spec (ws := wsX10_endsInWordOrNumber) B.pre
  have hown : s.vm.findClass RX10 = some m.cls := findClass_of_methodNamed B.named
  have hlocks := B.notSynchronized
  subst hsz
  have hD := hD0.self (sz := s.heap.size)
  have hN := xq_Env.of hE hz hD0
  generalize hAe : va_A [(a_p0, .inr (10, oX10 txI txR)), ((txR 1), .inl (cI, tx_kindsN, .inl tx_kindsF))] s.heap.size = A at hD hN ⊢
  have hA : ∀ q : Nat, s.heap.size ≤ q → A q := fun q h => by rw [← hAe]; exact Or.inr h
  clear hAe hD0
  have hS : va_S A s.heap s.heap [] := va_S.rf
  have hl := lv_entry ([.ref a_p0]) (n := 2) (Nat.le_of_ble_eq_true rfl)
  rw [lg_entry_eq]
  generalize (lg_sl ([.ref a_p0]) ++ List.replicate (2 - (lg_sl ([.ref a_p0])).length) Slot.unset).toArray = ls at hl ⊢
  have hl : lv_has ls 2 [(0, .ref a_p0)] := hl
  have hw0 := hts (.fieldLink RX10 9 "DistantVoice$Text" "count" "I") (by decide +kernel)
  have hinX10 : ∀ w ∈ wsX100, w ∈ wsX10_endsInWordOrNumber := fun w h => List.mem_cons_of_mem _ (List.mem_append_right _ h)
  have hw2 := hts (.fieldLink RX10 33 "DistantVoice$Text" "kinds" "[I") (by decide +kernel)
  unfold fX10_endsInWordOrNumber at hf
  refine lv_aload_n hx hb dX10_endsInWordOrNumber_0 rfl (lv_at hl 0 rfl) ?_
  refine va_get (D := (dC, dI)) (ci := 10) (v := .int (txI 4)) (C := RX10) (T := TX10) (N := 8) hx hb hts hinX10 hown hK hP 0 rfl rfl 4 (by decide) hw0 (fun _ h9 => h9) rfl dX10_endsInWordOrNumber_1 ?_
  refine lv_if_ne (tgt := 9) hx hb dX10_endsInWordOrNumber_4 (by decide) (fun c_ => ?_) (fun c_ => ?_)
  · have hf := xq_neg hf c_
    refine lv_aload_n hx hb dX10_endsInWordOrNumber_9 rfl (lv_at hl 0 rfl) ?_
    refine va_get (D := (dC, dI)) (ci := 10) (v := .ref ((txR 1))) (C := RX10) (T := TX10) (N := 8) hx hb hts hinX10 hown hK hP 0 rfl rfl 1 (by decide) hw2 (fun _ h9 => h9) rfl dX10_endsInWordOrNumber_10 ?_
    refine lv_aload_n hx hb dX10_endsInWordOrNumber_13 rfl (lv_at hl 0 rfl) ?_
    refine va_get (D := (dC, dI)) (ci := 10) (v := .int (txI 4)) (C := RX10) (T := TX10) (N := 8) hx hb hts hinX10 hown hK hP 0 rfl rfl 4 (by decide) hw0 (fun _ h9 => h9) rfl dX10_endsInWordOrNumber_14 ?_
    refine lv_iconst (v := 1) hx hb dX10_endsInWordOrNumber_17 (by decide) ?_
    refine lv_isub hx hb dX10_endsInWordOrNumber_18 ?_
    refine xq_iald hx hb hK hP 1 0 rfl rfl hf dX10_endsInWordOrNumber_19 (fun v_1 hf => ?_)
    refine lv_istore_n (lv' := [(1, .int v_1), (0, .ref a_p0)]) hx hb dX10_endsInWordOrNumber_20 rfl hl (by decide) rfl (fun ls hl => ?_)
    refine lv_iload_n hx hb dX10_endsInWordOrNumber_21 rfl (lv_at hl 0 rfl) ?_
    refine lv_bipush (v := (-3)) hx hb dX10_endsInWordOrNumber_22 (by decide) ?_
    refine lv_icmp_eq (tgt := 40) hx hb dX10_endsInWordOrNumber_24 (by decide) (fun c_ => ?_) (fun c_ => ?_)
    · have hf := xq_pos hf c_
      refine lv_iconst (v := 1) hx hb dX10_endsInWordOrNumber_40 (by decide) ?_
      refine lv_goto (tgt := 45) hx hb dX10_endsInWordOrNumber_41 (by decide) ?_
      cases hf
      exact xq_zret hx hb hr (by decide +kernel) hlocks hK hP hD hS dX10_endsInWordOrNumber_45
    · have hf := xq_neg hf c_
      refine lv_iload_n hx hb dX10_endsInWordOrNumber_27 rfl (lv_at hl 0 rfl) ?_
      refine lv_bipush (v := (-4)) hx hb dX10_endsInWordOrNumber_28 (by decide) ?_
      refine lv_icmp_eq (tgt := 40) hx hb dX10_endsInWordOrNumber_30 (by decide) (fun c_ => ?_) (fun c_ => ?_)
      · have hf := xq_pos hf c_
        refine lv_iconst (v := 1) hx hb dX10_endsInWordOrNumber_40 (by decide) ?_
        refine lv_goto (tgt := 45) hx hb dX10_endsInWordOrNumber_41 (by decide) ?_
        cases hf
        exact xq_zret hx hb hr (by decide +kernel) hlocks hK hP hD hS dX10_endsInWordOrNumber_45
      · have hf := xq_neg hf c_
        refine lv_iload_n hx hb dX10_endsInWordOrNumber_33 rfl (lv_at hl 0 rfl) ?_
        refine lv_sipush (v := 300) hx hb dX10_endsInWordOrNumber_34 (by decide) ?_
        refine lv_icmp_lt (tgt := 44) hx hb dX10_endsInWordOrNumber_37 (by decide) (fun c_ => ?_) (fun c_ => ?_)
        · have hf := xq_pos hf c_
          refine lv_iconst (v := 0) hx hb dX10_endsInWordOrNumber_44 (by decide) ?_
          cases hf
          exact xq_zret hx hb hr (by decide +kernel) hlocks hK hP hD hS dX10_endsInWordOrNumber_45
        · have hf := xq_neg hf c_
          refine lv_iconst (v := 1) hx hb dX10_endsInWordOrNumber_40 (by decide) ?_
          refine lv_goto (tgt := 45) hx hb dX10_endsInWordOrNumber_41 (by decide) ?_
          cases hf
          exact xq_zret hx hb hr (by decide +kernel) hlocks hK hP hD hS dX10_endsInWordOrNumber_45
  · have hf := xq_pos hf c_
    refine lv_iconst (v := 0) hx hb dX10_endsInWordOrNumber_7 (by decide) ?_
    cases hf
    exact xq_zret hx hb hr (by decide +kernel) hlocks hK hP hD hS dX10_endsInWordOrNumber_8
set_option maxRecDepth 20000 in
theorem ggX10_nameOf_X9_at : GoodIn wsX10_nameOf wsX9_at := goodIn_r _ [6, 7, 8, 17, 18] rfl (by decide +kernel)
set_option maxRecDepth 20000 in
theorem gX10_nameOf_X9_at : GoodIn wsX10_nameOf (wsV RX10 43 RX9 yX9_at wsX9_at) := goodIn_app (goodIn_of _ (by decide +kernel)) ggX10_nameOf_X9_at
def dsX10_nameOf_0 : List (Nat × Instr × Nat) := [(0, (.iconst 0, 1)), (1, (.istore_n 3, 1)), (2, (.iload_n 1, 1)), (3, (.istore 4, 2)), (5, (.iload 4, 2)), (7, (.iload_n 1, 1)), (8, (.bipush 6, 2)), (10, (.iadd, 1)), (11, (.if_icmp .ge 39, 3)), (14, (.iload_n 3, 1)), (15, (.bipush 27, 2)), (17, (.imul, 1)), (18, (.iload 4, 2)), (20, (.iload_n 2, 1)), (21, (.if_icmp .ge 20, 3)), (24, (.aload_n 0, 1)), (25, (.getfield 24, 3)), (28, (.iload 4, 2)), (30, (.invokevirtual 43, 3)), (33, (.bipush 97, 2)), (35, (.isub, 1)), (36, (.iconst 1, 1)), (37, (.iadd, 1)), (38, (.goto 4, 3)), (41, (.iconst 0, 1)), (42, (.iadd, 1)), (43, (.istore_n 3, 1)), (44, (.iinc 4 1, 3)), (47, (.goto (-42), 3)), (50, (.iload_n 3, 1)), (51, (.ireturn, 1))]
theorem dsX10_nameOf_0_ok : (dsX10_nameOf_0.all fun q => decide (decode cX10_nameOf q.1 = .ok q.2)) = true := by decide +kernel
theorem dX10_nameOf_0 : decode cX10_nameOf 0 = .ok (.iconst 0, 1) := of_decide_eq_true (List.all_eq_true.mp dsX10_nameOf_0_ok (0, (.iconst 0, 1)) (List.mem_of_getElem? (i := 0) rfl))
theorem dX10_nameOf_1 : decode cX10_nameOf 1 = .ok (.istore_n 3, 1) := of_decide_eq_true (List.all_eq_true.mp dsX10_nameOf_0_ok (1, (.istore_n 3, 1)) (List.mem_of_getElem? (i := 1) rfl))
theorem dX10_nameOf_2 : decode cX10_nameOf 2 = .ok (.iload_n 1, 1) := of_decide_eq_true (List.all_eq_true.mp dsX10_nameOf_0_ok (2, (.iload_n 1, 1)) (List.mem_of_getElem? (i := 2) rfl))
theorem dX10_nameOf_3 : decode cX10_nameOf 3 = .ok (.istore 4, 2) := of_decide_eq_true (List.all_eq_true.mp dsX10_nameOf_0_ok (3, (.istore 4, 2)) (List.mem_of_getElem? (i := 3) rfl))
theorem dX10_nameOf_5 : decode cX10_nameOf 5 = .ok (.iload 4, 2) := of_decide_eq_true (List.all_eq_true.mp dsX10_nameOf_0_ok (5, (.iload 4, 2)) (List.mem_of_getElem? (i := 4) rfl))
theorem dX10_nameOf_7 : decode cX10_nameOf 7 = .ok (.iload_n 1, 1) := of_decide_eq_true (List.all_eq_true.mp dsX10_nameOf_0_ok (7, (.iload_n 1, 1)) (List.mem_of_getElem? (i := 5) rfl))
theorem dX10_nameOf_8 : decode cX10_nameOf 8 = .ok (.bipush 6, 2) := of_decide_eq_true (List.all_eq_true.mp dsX10_nameOf_0_ok (8, (.bipush 6, 2)) (List.mem_of_getElem? (i := 6) rfl))
theorem dX10_nameOf_10 : decode cX10_nameOf 10 = .ok (.iadd, 1) := of_decide_eq_true (List.all_eq_true.mp dsX10_nameOf_0_ok (10, (.iadd, 1)) (List.mem_of_getElem? (i := 7) rfl))
theorem dX10_nameOf_11 : decode cX10_nameOf 11 = .ok (.if_icmp .ge 39, 3) := of_decide_eq_true (List.all_eq_true.mp dsX10_nameOf_0_ok (11, (.if_icmp .ge 39, 3)) (List.mem_of_getElem? (i := 8) rfl))
theorem dX10_nameOf_14 : decode cX10_nameOf 14 = .ok (.iload_n 3, 1) := of_decide_eq_true (List.all_eq_true.mp dsX10_nameOf_0_ok (14, (.iload_n 3, 1)) (List.mem_of_getElem? (i := 9) rfl))
theorem dX10_nameOf_15 : decode cX10_nameOf 15 = .ok (.bipush 27, 2) := of_decide_eq_true (List.all_eq_true.mp dsX10_nameOf_0_ok (15, (.bipush 27, 2)) (List.mem_of_getElem? (i := 10) rfl))
theorem dX10_nameOf_17 : decode cX10_nameOf 17 = .ok (.imul, 1) := of_decide_eq_true (List.all_eq_true.mp dsX10_nameOf_0_ok (17, (.imul, 1)) (List.mem_of_getElem? (i := 11) rfl))
theorem dX10_nameOf_18 : decode cX10_nameOf 18 = .ok (.iload 4, 2) := of_decide_eq_true (List.all_eq_true.mp dsX10_nameOf_0_ok (18, (.iload 4, 2)) (List.mem_of_getElem? (i := 12) rfl))
theorem dX10_nameOf_20 : decode cX10_nameOf 20 = .ok (.iload_n 2, 1) := of_decide_eq_true (List.all_eq_true.mp dsX10_nameOf_0_ok (20, (.iload_n 2, 1)) (List.mem_of_getElem? (i := 13) rfl))
theorem dX10_nameOf_21 : decode cX10_nameOf 21 = .ok (.if_icmp .ge 20, 3) := of_decide_eq_true (List.all_eq_true.mp dsX10_nameOf_0_ok (21, (.if_icmp .ge 20, 3)) (List.mem_of_getElem? (i := 14) rfl))
theorem dX10_nameOf_24 : decode cX10_nameOf 24 = .ok (.aload_n 0, 1) := of_decide_eq_true (List.all_eq_true.mp dsX10_nameOf_0_ok (24, (.aload_n 0, 1)) (List.mem_of_getElem? (i := 15) rfl))
theorem dX10_nameOf_25 : decode cX10_nameOf 25 = .ok (.getfield 24, 3) := of_decide_eq_true (List.all_eq_true.mp dsX10_nameOf_0_ok (25, (.getfield 24, 3)) (List.mem_of_getElem? (i := 16) rfl))
theorem dX10_nameOf_28 : decode cX10_nameOf 28 = .ok (.iload 4, 2) := of_decide_eq_true (List.all_eq_true.mp dsX10_nameOf_0_ok (28, (.iload 4, 2)) (List.mem_of_getElem? (i := 17) rfl))
theorem dX10_nameOf_30 : decode cX10_nameOf 30 = .ok (.invokevirtual 43, 3) := of_decide_eq_true (List.all_eq_true.mp dsX10_nameOf_0_ok (30, (.invokevirtual 43, 3)) (List.mem_of_getElem? (i := 18) rfl))
theorem dX10_nameOf_33 : decode cX10_nameOf 33 = .ok (.bipush 97, 2) := of_decide_eq_true (List.all_eq_true.mp dsX10_nameOf_0_ok (33, (.bipush 97, 2)) (List.mem_of_getElem? (i := 19) rfl))
theorem dX10_nameOf_35 : decode cX10_nameOf 35 = .ok (.isub, 1) := of_decide_eq_true (List.all_eq_true.mp dsX10_nameOf_0_ok (35, (.isub, 1)) (List.mem_of_getElem? (i := 20) rfl))
theorem dX10_nameOf_36 : decode cX10_nameOf 36 = .ok (.iconst 1, 1) := of_decide_eq_true (List.all_eq_true.mp dsX10_nameOf_0_ok (36, (.iconst 1, 1)) (List.mem_of_getElem? (i := 21) rfl))
theorem dX10_nameOf_37 : decode cX10_nameOf 37 = .ok (.iadd, 1) := of_decide_eq_true (List.all_eq_true.mp dsX10_nameOf_0_ok (37, (.iadd, 1)) (List.mem_of_getElem? (i := 22) rfl))
theorem dX10_nameOf_38 : decode cX10_nameOf 38 = .ok (.goto 4, 3) := of_decide_eq_true (List.all_eq_true.mp dsX10_nameOf_0_ok (38, (.goto 4, 3)) (List.mem_of_getElem? (i := 23) rfl))
theorem dX10_nameOf_41 : decode cX10_nameOf 41 = .ok (.iconst 0, 1) := of_decide_eq_true (List.all_eq_true.mp dsX10_nameOf_0_ok (41, (.iconst 0, 1)) (List.mem_of_getElem? (i := 24) rfl))
theorem dX10_nameOf_42 : decode cX10_nameOf 42 = .ok (.iadd, 1) := of_decide_eq_true (List.all_eq_true.mp dsX10_nameOf_0_ok (42, (.iadd, 1)) (List.mem_of_getElem? (i := 25) rfl))
theorem dX10_nameOf_43 : decode cX10_nameOf 43 = .ok (.istore_n 3, 1) := of_decide_eq_true (List.all_eq_true.mp dsX10_nameOf_0_ok (43, (.istore_n 3, 1)) (List.mem_of_getElem? (i := 26) rfl))
theorem dX10_nameOf_44 : decode cX10_nameOf 44 = .ok (.iinc 4 1, 3) := of_decide_eq_true (List.all_eq_true.mp dsX10_nameOf_0_ok (44, (.iinc 4 1, 3)) (List.mem_of_getElem? (i := 27) rfl))
theorem dX10_nameOf_47 : decode cX10_nameOf 47 = .ok (.goto (-42), 3) := of_decide_eq_true (List.all_eq_true.mp dsX10_nameOf_0_ok (47, (.goto (-42), 3)) (List.mem_of_getElem? (i := 28) rfl))
theorem dX10_nameOf_50 : decode cX10_nameOf 50 = .ok (.iload_n 3, 1) := of_decide_eq_true (List.all_eq_true.mp dsX10_nameOf_0_ok (50, (.iload_n 3, 1)) (List.mem_of_getElem? (i := 29) rfl))
theorem dX10_nameOf_51 : decode cX10_nameOf 51 = .ok (.ireturn, 1) := of_decide_eq_true (List.all_eq_true.mp dsX10_nameOf_0_ok (51, (.ireturn, 1)) (List.mem_of_getElem? (i := 30) rfl))
def fX10_nameOf_b42 (N : Nat) (tapeI : Nat → Int32) (tape_bytesF : Nat → Int32)  (k5 : (Int32 × Int32 × Int32 × Int32) → Option (Int32)) : (Int32 × Int32 × Int32 × Int32 × Int32) → Option (Int32) :=
  fun (x1_42, x2_42, x4_42, y0_42, y1_42) => k5 (x1_42, x2_42, y0_42 + y1_42, x4_42 + 1)
def fX10_nameOf_l5 (N : Nat) (tapeI : Nat → Int32) (tape_bytesF : Nat → Int32)  (k5 : (Int32 × Int32 × Int32 × Int32) → Option (Int32)) : (Int32 × Int32 × Int32 × Int32) → Option (Int32) :=
  fun (x1_5, x2_5, x3_5, x4_5) => (if (x1_5 + 6) ≤ x4_5 then some x3_5 else (if x2_5 ≤ x4_5 then fX10_nameOf_b42 N tapeI tape_bytesF k5 (x1_5, x2_5, x4_5, x3_5 * 27, 0) else (xq_bd (fX9_at N tapeI tape_bytesF x4_5) fun r_1 => fX10_nameOf_b42 N tapeI tape_bytesF k5 (x1_5, x2_5, x4_5, x3_5 * 27, (r_1 - 97) + 1))))
def fX10_nameOf (N : Nat) (tapeI : Nat → Int32) (tape_bytesF : Nat → Int32)  (p1 : Int32) (p2 : Int32) : Option (Int32) :=
  xq_loop (fX10_nameOf_l5 N tapeI tape_bytesF) N (p1, p2, 0, p1)
set_option maxHeartbeats 4000000 in
set_option maxRecDepth 100000 in
theorem kX10_nameOf (l : Launch) (dC : Nat → ClassId) (dI : Nat → Nat → Nat) (cI cB cJ cZ cM : ClassId) (z : Nat) (ad : Nat → Nat) (N : Nat) (a_p0 : Nat) (txI : Nat → Int32) (txR : Nat → Nat) (tapeI : Nat → Int32) (tapeR : Nat → Nat) (tape_bytesF : Nat → Int32) (p1 : Int32) (p2 : Int32) {r0 : Int32} (hf : fX10_nameOf N tapeI tape_bytesF p1 p2 = some r0) : xq_Ct l yX10_nameOf wsX10_nameOf { frames := 1, cells := 0, slots := 0, locals := 21 } (dC, dI) vwCl (xq_tys cI cB cJ cZ cM) z ad [.ref a_p0, .int p1, .int p2] [(a_p0, .inr (10, oX10 txI txR)), ((txR 0), .inr (9, oX9 tapeI tapeR)), ((tapeR 0), .inl (cB, 1600, .inl tape_bytesF))] [(a_p0, .inr (10, oX10 txI txR)), ((txR 0), .inr (9, oX9 tapeI tapeR)), ((tapeR 0), .inl (cB, 1600, .inl tape_bytesF))] (some (.int r0)) := by
  intro sz
  refine Met.ofW (cc := cX10_nameOf) (maxL := 5) (ret := (some .int)) (by decide) rfl ?_
  intro p e s m args below meth c s₁ B hml hv
  obtain ⟨rfl, hsz, hP, hK, hD0, hE, hz⟩ := hv
  have hx := B.exec
  have hb := B.bytes
  have hr := B.returns
  have hts := atoms_spec (ws := wsX10_nameOf) B.pre
  have hown : s.vm.findClass RX10 = some m.cls := findClass_of_methodNamed B.named
  have hlocks := B.notSynchronized
  subst hsz
  have hD := hD0.self (sz := s.heap.size)
  have hN := xq_Env.of hE hz hD0
  generalize hAe : va_A [(a_p0, .inr (10, oX10 txI txR)), ((txR 0), .inr (9, oX9 tapeI tapeR)), ((tapeR 0), .inl (cB, 1600, .inl tape_bytesF))] s.heap.size = A at hD hN ⊢
  have hA : ∀ q : Nat, s.heap.size ≤ q → A q := fun q h => by rw [← hAe]; exact Or.inr h
  clear hAe hD0
  have hS : va_S A s.heap s.heap [] := va_S.rf
  have hl := lv_entry ([.ref a_p0, .int p1, .int p2]) (n := 5) (Nat.le_of_ble_eq_true rfl)
  rw [lg_entry_eq]
  generalize (lg_sl ([.ref a_p0, .int p1, .int p2]) ++ List.replicate (5 - (lg_sl ([.ref a_p0, .int p1, .int p2])).length) Slot.unset).toArray = ls at hl ⊢
  have hl : lv_has ls 5 [(0, .ref a_p0), (1, .int p1), (2, .int p2)] := hl
  have hw0 := hts (.fieldLink RX10 24 "DistantVoice$Text" "tape" "LDistantVoice$Tape;") (by decide +kernel)
  have hinX10 : ∀ w ∈ wsX100, w ∈ wsX10_nameOf := fun w h => List.mem_cons_of_mem _ (List.mem_append_left _ (List.mem_append_right _ h))
  have l5 : ∀ n5 : Nat, ∀ (x1_5 : Int32) (x2_5 : Int32) (x3_5 : Int32) (x4_5 : Int32) (ls : Array Slot) (H : Heap) (locs : List Loc), xq_loop (fX10_nameOf_l5 N tapeI tape_bytesF) n5 (x1_5, x2_5, x3_5, x4_5) = some r0 → va_P (dC, dI) vwCl [(a_p0, .inr (10, oX10 txI txR)), ((txR 0), .inr (9, oX9 tapeI tapeR)), ((tapeR 0), .inl (cB, 1600, .inl tape_bytesF))] H → va_D A [(a_p0, .inr (10, oX10 txI txR)), ((txR 0), .inr (9, oX9 tapeI tapeR)), ((tapeR 0), .inl (cB, 1600, .inl tape_bytesF))] → va_S A s.heap H locs → lv_has ls 5 [(0, .ref a_p0), (1, .int x1_5), (2, .int x2_5), (3, .int x3_5), (4, .int x4_5)] → W p l e (headSpec wsX10_nameOf { frames := 1, cells := 0, slots := 0, locals := 21 }).room s m [.ref a_p0, .int p1, .int p2].toArray below meth c H locs 0 0 (MQ below (xq_Q (dC, dI) vwCl (xq_tys cI cB cJ cZ cM) A [(a_p0, .inr (10, oX10 txI txR)), ((txR 0), .inr (9, oX9 tapeI tapeR)), ((tapeR 0), .inl (cB, 1600, .inl tape_bytesF))] (some (.int r0))) [.ref a_p0, .int p1, .int p2].toArray s 0 0 A) (F0 m 5 ls []) := by
    intro n5
    induction n5 with
    | zero => intro x1_5 x2_5 x3_5 x4_5 ls H locs hf; cases (show none = some r0 from hf)
    | succ n5 ih5 =>
      have b42 : ∀ (x1_42 : Int32) (x2_42 : Int32) (x4_42 : Int32) (y0_42 : Int32) (y1_42 : Int32) (ls : Array Slot) (H : Heap) (locs : List Loc), fX10_nameOf_b42 N tapeI tape_bytesF (xq_loop (fX10_nameOf_l5 N tapeI tape_bytesF) n5) (x1_42, x2_42, x4_42, y0_42, y1_42) = some r0 → va_P (dC, dI) vwCl [(a_p0, .inr (10, oX10 txI txR)), ((txR 0), .inr (9, oX9 tapeI tapeR)), ((tapeR 0), .inl (cB, 1600, .inl tape_bytesF))] H → va_D A [(a_p0, .inr (10, oX10 txI txR)), ((txR 0), .inr (9, oX9 tapeI tapeR)), ((tapeR 0), .inl (cB, 1600, .inl tape_bytesF))] → va_S A s.heap H locs → lv_has ls 5 [(0, .ref a_p0), (1, .int x1_42), (2, .int x2_42), (4, .int x4_42)] → W p l e (headSpec wsX10_nameOf { frames := 1, cells := 0, slots := 0, locals := 21 }).room s m [.ref a_p0, .int p1, .int p2].toArray below meth c H locs 0 0 (MQ below (xq_Q (dC, dI) vwCl (xq_tys cI cB cJ cZ cM) A [(a_p0, .inr (10, oX10 txI txR)), ((txR 0), .inr (9, oX9 tapeI tapeR)), ((tapeR 0), .inl (cB, 1600, .inl tape_bytesF))] (some (.int r0))) [.ref a_p0, .int p1, .int p2].toArray s 0 0 A) (F0 m 42 ls [.int y1_42, .int y0_42]) := by
        intro x1_42 x2_42 x4_42 y0_42 y1_42 ls H locs hf hP hD hS hl
        unfold fX10_nameOf_b42 at hf
        refine lv_iadd hx hb dX10_nameOf_42 ?_
        refine lv_istore_n (lv' := [(3, .int (y0_42 + y1_42)), (0, .ref a_p0), (1, .int x1_42), (2, .int x2_42), (4, .int x4_42)]) hx hb dX10_nameOf_43 rfl hl (by decide) rfl (fun ls hl => ?_)
        refine lv_iinc (v := x4_42 + 1) (lv' := [(4, .int (x4_42 + 1)), (3, .int (y0_42 + y1_42)), (0, .ref a_p0), (1, .int x1_42), (2, .int x2_42)]) hx hb dX10_nameOf_44 hl (k := 4) rfl (congrArg (fun q9 => x4_42 + q9) (by decide : Int32.ofInt 1 = 1)) (by decide) rfl (fun ls hl => ?_)
        refine lv_goto (tgt := 5) hx hb dX10_nameOf_47 (by decide) ?_
        exact ih5 x1_42 x2_42 (y0_42 + y1_42) (x4_42 + 1) _ _ _ hf hP hD hS (lv_sub hl [2, 3, 4, 1, 0] rfl)
      intro x1_5 x2_5 x3_5 x4_5 ls H locs hf hP hD hS hl
      have hf : fX10_nameOf_l5 N tapeI tape_bytesF (xq_loop (fX10_nameOf_l5 N tapeI tape_bytesF) n5) (x1_5, x2_5, x3_5, x4_5) = some r0 := hf
      unfold fX10_nameOf_l5 at hf
      refine lv_iload hx hb dX10_nameOf_5 (lv_at hl 4 rfl) ?_
      refine lv_iload_n hx hb dX10_nameOf_7 rfl (lv_at hl 1 rfl) ?_
      refine lv_bipush (v := 6) hx hb dX10_nameOf_8 (by decide) ?_
      refine lv_iadd hx hb dX10_nameOf_10 ?_
      refine lv_icmp_ge (tgt := 50) hx hb dX10_nameOf_11 (by decide) (fun c_ => ?_) (fun c_ => ?_)
      · have hf := xq_pos hf c_
        refine lv_iload_n hx hb dX10_nameOf_50 rfl (lv_at hl 3 rfl) ?_
        cases hf
        exact xq_iret hx hb hr hlocks hK hP hD hS dX10_nameOf_51
      · have hf := xq_neg hf c_
        refine lv_iload_n hx hb dX10_nameOf_14 rfl (lv_at hl 3 rfl) ?_
        refine lv_bipush (v := 27) hx hb dX10_nameOf_15 (by decide) ?_
        refine lv_imul hx hb dX10_nameOf_17 ?_
        refine lv_iload hx hb dX10_nameOf_18 (lv_at hl 4 rfl) ?_
        refine lv_iload_n hx hb dX10_nameOf_20 rfl (lv_at hl 2 rfl) ?_
        refine lv_icmp_ge (tgt := 41) hx hb dX10_nameOf_21 (by decide) (fun c_ => ?_) (fun c_ => ?_)
        · have hf := xq_pos hf c_
          refine lv_iconst (v := 0) hx hb dX10_nameOf_41 (by decide) ?_
          exact b42 x1_5 x2_5 x4_5 (x3_5 * 27) 0 _ _ _ hf hP hD hS (lv_sub hl [0, 1, 2, 4] rfl)
        · have hf := xq_neg hf c_
          refine lv_aload_n hx hb dX10_nameOf_24 rfl (lv_at hl 0 rfl) ?_
          refine va_get (D := (dC, dI)) (ci := 10) (v := .ref ((txR 0))) (C := RX10) (T := TX10) (N := 8) hx hb hts hinX10 hown hK hP 0 rfl rfl 0 (by decide) hw0 (fun _ h9 => h9) rfl dX10_nameOf_25 ?_
          refine lv_iload hx hb dX10_nameOf_28 (lv_at hl 4 rfl) ?_
          obtain ⟨r_1, h_2, hf⟩ := xq_bd_some hf
          refine xq_callV (As := [.int x4_5]) (rest := [.int (x3_5 * 27)]) (ci := 9) (q0 := 1) ⟨hx, hb, hml, hown, hts⟩ (kX9_at l dC dI cI cB cJ cZ cM z ad N ((txR 0)) tapeI tapeR tape_bytesF x4_5 h_2) (cwV 1 hts gX10_nameOf_X9_at rfl rfl rfl (by decide +kernel) ⟨Nat.le_of_ble_eq_true rfl, Nat.le_of_ble_eq_true rfl⟩) hN hK hP hD hS hA [1, 2] (by decide) rfl rfl rfl rfl rfl rfl hl.1 rfl (Nat.le_of_ble_eq_true rfl) dX10_nameOf_30 ⟨Nat.zero_le _, Nat.zero_le _⟩ (fun H locs hP hD hS => ?_)
          have hP : va_P (dC, dI) vwCl [(a_p0, .inr (10, oX10 txI txR)), ((txR 0), .inr (9, oX9 tapeI tapeR)), ((tapeR 0), .inl (cB, 1600, .inl tape_bytesF))] H := hP
          have hD : va_D A [(a_p0, .inr (10, oX10 txI txR)), ((txR 0), .inr (9, oX9 tapeI tapeR)), ((tapeR 0), .inl (cB, 1600, .inl tape_bytesF))] := hD
          refine W.eq (g2 := F0 m 33 ls [.int r_1, .int (x3_5 * 27)]) rfl ?_
          refine lv_bipush (v := 97) hx hb dX10_nameOf_33 (by decide) ?_
          refine lv_isub hx hb dX10_nameOf_35 ?_
          refine lv_iconst (v := 1) hx hb dX10_nameOf_36 (by decide) ?_
          refine lv_iadd hx hb dX10_nameOf_37 ?_
          refine lv_goto (tgt := 42) hx hb dX10_nameOf_38 (by decide) ?_
          exact b42 x1_5 x2_5 x4_5 (x3_5 * 27) ((r_1 - 97) + 1) _ _ _ hf hP hD hS (lv_sub hl [0, 1, 2, 4] rfl)
  unfold fX10_nameOf at hf
  refine lv_iconst (v := 0) hx hb dX10_nameOf_0 (by decide) ?_
  refine lv_istore_n (lv' := [(3, .int 0), (0, .ref a_p0), (1, .int p1), (2, .int p2)]) hx hb dX10_nameOf_1 rfl hl (by decide) rfl (fun ls hl => ?_)
  refine lv_iload_n hx hb dX10_nameOf_2 rfl (lv_at hl 2 rfl) ?_
  refine lv_istore (lv' := [(4, .int p1), (3, .int 0), (0, .ref a_p0), (1, .int p1), (2, .int p2)]) hx hb dX10_nameOf_3 hl (by decide) rfl (fun ls hl => ?_)
  exact l5 N p1 p2 0 p1 _ _ _ hf hP hD hS (lv_sub hl [2, 3, 4, 1, 0] rfl)
set_option maxRecDepth 20000 in
theorem ggX10_numberOf_X9_at : GoodIn wsX10_numberOf wsX9_at := goodIn_r _ [6, 7, 8, 17, 18] rfl (by decide +kernel)
set_option maxRecDepth 20000 in
theorem gX10_numberOf_X9_at : GoodIn wsX10_numberOf (wsV RX10 43 RX9 yX9_at wsX9_at) := goodIn_app (goodIn_of _ (by decide +kernel)) ggX10_numberOf_X9_at
def dsX10_numberOf_0 : List (Nat × Instr × Nat) := [(0, (.iconst 0, 1)), (1, (.istore_n 3, 1)), (2, (.iload_n 1, 1)), (3, (.istore 4, 2)), (5, (.iload 4, 2)), (7, (.iload_n 2, 1)), (8, (.if_icmp .ge 27, 3)), (11, (.iload_n 3, 1)), (12, (.bipush 10, 2)), (14, (.imul, 1)), (15, (.aload_n 0, 1)), (16, (.getfield 24, 3)), (19, (.iload 4, 2)), (21, (.invokevirtual 43, 3)), (24, (.iadd, 1)), (25, (.bipush 48, 2)), (27, (.isub, 1)), (28, (.istore_n 3, 1)), (29, (.iinc 4 1, 3)), (32, (.goto (-27), 3)), (35, (.iload_n 3, 1)), (36, (.ireturn, 1))]
theorem dsX10_numberOf_0_ok : (dsX10_numberOf_0.all fun q => decide (decode cX10_numberOf q.1 = .ok q.2)) = true := by decide +kernel
theorem dX10_numberOf_0 : decode cX10_numberOf 0 = .ok (.iconst 0, 1) := of_decide_eq_true (List.all_eq_true.mp dsX10_numberOf_0_ok (0, (.iconst 0, 1)) (List.mem_of_getElem? (i := 0) rfl))
theorem dX10_numberOf_1 : decode cX10_numberOf 1 = .ok (.istore_n 3, 1) := of_decide_eq_true (List.all_eq_true.mp dsX10_numberOf_0_ok (1, (.istore_n 3, 1)) (List.mem_of_getElem? (i := 1) rfl))
theorem dX10_numberOf_2 : decode cX10_numberOf 2 = .ok (.iload_n 1, 1) := of_decide_eq_true (List.all_eq_true.mp dsX10_numberOf_0_ok (2, (.iload_n 1, 1)) (List.mem_of_getElem? (i := 2) rfl))
theorem dX10_numberOf_3 : decode cX10_numberOf 3 = .ok (.istore 4, 2) := of_decide_eq_true (List.all_eq_true.mp dsX10_numberOf_0_ok (3, (.istore 4, 2)) (List.mem_of_getElem? (i := 3) rfl))
theorem dX10_numberOf_5 : decode cX10_numberOf 5 = .ok (.iload 4, 2) := of_decide_eq_true (List.all_eq_true.mp dsX10_numberOf_0_ok (5, (.iload 4, 2)) (List.mem_of_getElem? (i := 4) rfl))
theorem dX10_numberOf_7 : decode cX10_numberOf 7 = .ok (.iload_n 2, 1) := of_decide_eq_true (List.all_eq_true.mp dsX10_numberOf_0_ok (7, (.iload_n 2, 1)) (List.mem_of_getElem? (i := 5) rfl))
theorem dX10_numberOf_8 : decode cX10_numberOf 8 = .ok (.if_icmp .ge 27, 3) := of_decide_eq_true (List.all_eq_true.mp dsX10_numberOf_0_ok (8, (.if_icmp .ge 27, 3)) (List.mem_of_getElem? (i := 6) rfl))
theorem dX10_numberOf_11 : decode cX10_numberOf 11 = .ok (.iload_n 3, 1) := of_decide_eq_true (List.all_eq_true.mp dsX10_numberOf_0_ok (11, (.iload_n 3, 1)) (List.mem_of_getElem? (i := 7) rfl))
theorem dX10_numberOf_12 : decode cX10_numberOf 12 = .ok (.bipush 10, 2) := of_decide_eq_true (List.all_eq_true.mp dsX10_numberOf_0_ok (12, (.bipush 10, 2)) (List.mem_of_getElem? (i := 8) rfl))
theorem dX10_numberOf_14 : decode cX10_numberOf 14 = .ok (.imul, 1) := of_decide_eq_true (List.all_eq_true.mp dsX10_numberOf_0_ok (14, (.imul, 1)) (List.mem_of_getElem? (i := 9) rfl))
theorem dX10_numberOf_15 : decode cX10_numberOf 15 = .ok (.aload_n 0, 1) := of_decide_eq_true (List.all_eq_true.mp dsX10_numberOf_0_ok (15, (.aload_n 0, 1)) (List.mem_of_getElem? (i := 10) rfl))
theorem dX10_numberOf_16 : decode cX10_numberOf 16 = .ok (.getfield 24, 3) := of_decide_eq_true (List.all_eq_true.mp dsX10_numberOf_0_ok (16, (.getfield 24, 3)) (List.mem_of_getElem? (i := 11) rfl))
theorem dX10_numberOf_19 : decode cX10_numberOf 19 = .ok (.iload 4, 2) := of_decide_eq_true (List.all_eq_true.mp dsX10_numberOf_0_ok (19, (.iload 4, 2)) (List.mem_of_getElem? (i := 12) rfl))
theorem dX10_numberOf_21 : decode cX10_numberOf 21 = .ok (.invokevirtual 43, 3) := of_decide_eq_true (List.all_eq_true.mp dsX10_numberOf_0_ok (21, (.invokevirtual 43, 3)) (List.mem_of_getElem? (i := 13) rfl))
theorem dX10_numberOf_24 : decode cX10_numberOf 24 = .ok (.iadd, 1) := of_decide_eq_true (List.all_eq_true.mp dsX10_numberOf_0_ok (24, (.iadd, 1)) (List.mem_of_getElem? (i := 14) rfl))
theorem dX10_numberOf_25 : decode cX10_numberOf 25 = .ok (.bipush 48, 2) := of_decide_eq_true (List.all_eq_true.mp dsX10_numberOf_0_ok (25, (.bipush 48, 2)) (List.mem_of_getElem? (i := 15) rfl))
theorem dX10_numberOf_27 : decode cX10_numberOf 27 = .ok (.isub, 1) := of_decide_eq_true (List.all_eq_true.mp dsX10_numberOf_0_ok (27, (.isub, 1)) (List.mem_of_getElem? (i := 16) rfl))
theorem dX10_numberOf_28 : decode cX10_numberOf 28 = .ok (.istore_n 3, 1) := of_decide_eq_true (List.all_eq_true.mp dsX10_numberOf_0_ok (28, (.istore_n 3, 1)) (List.mem_of_getElem? (i := 17) rfl))
theorem dX10_numberOf_29 : decode cX10_numberOf 29 = .ok (.iinc 4 1, 3) := of_decide_eq_true (List.all_eq_true.mp dsX10_numberOf_0_ok (29, (.iinc 4 1, 3)) (List.mem_of_getElem? (i := 18) rfl))
theorem dX10_numberOf_32 : decode cX10_numberOf 32 = .ok (.goto (-27), 3) := of_decide_eq_true (List.all_eq_true.mp dsX10_numberOf_0_ok (32, (.goto (-27), 3)) (List.mem_of_getElem? (i := 19) rfl))
theorem dX10_numberOf_35 : decode cX10_numberOf 35 = .ok (.iload_n 3, 1) := of_decide_eq_true (List.all_eq_true.mp dsX10_numberOf_0_ok (35, (.iload_n 3, 1)) (List.mem_of_getElem? (i := 20) rfl))
theorem dX10_numberOf_36 : decode cX10_numberOf 36 = .ok (.ireturn, 1) := of_decide_eq_true (List.all_eq_true.mp dsX10_numberOf_0_ok (36, (.ireturn, 1)) (List.mem_of_getElem? (i := 21) rfl))
def fX10_numberOf_l5 (N : Nat) (tapeI : Nat → Int32) (tape_bytesF : Nat → Int32)  (k5 : (Int32 × Int32 × Int32) → Option (Int32)) : (Int32 × Int32 × Int32) → Option (Int32) :=
  fun (x2_5, x3_5, x4_5) => (if x2_5 ≤ x4_5 then some x3_5 else (xq_bd (fX9_at N tapeI tape_bytesF x4_5) fun r_1 => k5 (x2_5, ((x3_5 * 10) + r_1) - 48, x4_5 + 1)))
def fX10_numberOf (N : Nat) (tapeI : Nat → Int32) (tape_bytesF : Nat → Int32)  (p1 : Int32) (p2 : Int32) : Option (Int32) :=
  xq_loop (fX10_numberOf_l5 N tapeI tape_bytesF) N (p2, 0, p1)
set_option maxHeartbeats 4000000 in
set_option maxRecDepth 100000 in
theorem kX10_numberOf (l : Launch) (dC : Nat → ClassId) (dI : Nat → Nat → Nat) (cI cB cJ cZ cM : ClassId) (z : Nat) (ad : Nat → Nat) (N : Nat) (a_p0 : Nat) (txI : Nat → Int32) (txR : Nat → Nat) (tapeI : Nat → Int32) (tapeR : Nat → Nat) (tape_bytesF : Nat → Int32) (p1 : Int32) (p2 : Int32) {r0 : Int32} (hf : fX10_numberOf N tapeI tape_bytesF p1 p2 = some r0) : xq_Ct l yX10_numberOf wsX10_numberOf { frames := 1, cells := 0, slots := 0, locals := 21 } (dC, dI) vwCl (xq_tys cI cB cJ cZ cM) z ad [.ref a_p0, .int p1, .int p2] [(a_p0, .inr (10, oX10 txI txR)), ((txR 0), .inr (9, oX9 tapeI tapeR)), ((tapeR 0), .inl (cB, 1600, .inl tape_bytesF))] [(a_p0, .inr (10, oX10 txI txR)), ((txR 0), .inr (9, oX9 tapeI tapeR)), ((tapeR 0), .inl (cB, 1600, .inl tape_bytesF))] (some (.int r0)) := by
  intro sz
  refine Met.ofW (cc := cX10_numberOf) (maxL := 5) (ret := (some .int)) (by decide) rfl ?_
  intro p e s m args below meth c s₁ B hml hv
  obtain ⟨rfl, hsz, hP, hK, hD0, hE, hz⟩ := hv
  have hx := B.exec
  have hb := B.bytes
  have hr := B.returns
  have hts := atoms_spec (ws := wsX10_numberOf) B.pre
  have hown : s.vm.findClass RX10 = some m.cls := findClass_of_methodNamed B.named
  have hlocks := B.notSynchronized
  subst hsz
  have hD := hD0.self (sz := s.heap.size)
  have hN := xq_Env.of hE hz hD0
  generalize hAe : va_A [(a_p0, .inr (10, oX10 txI txR)), ((txR 0), .inr (9, oX9 tapeI tapeR)), ((tapeR 0), .inl (cB, 1600, .inl tape_bytesF))] s.heap.size = A at hD hN ⊢
  have hA : ∀ q : Nat, s.heap.size ≤ q → A q := fun q h => by rw [← hAe]; exact Or.inr h
  clear hAe hD0
  have hS : va_S A s.heap s.heap [] := va_S.rf
  have hl := lv_entry ([.ref a_p0, .int p1, .int p2]) (n := 5) (Nat.le_of_ble_eq_true rfl)
  rw [lg_entry_eq]
  generalize (lg_sl ([.ref a_p0, .int p1, .int p2]) ++ List.replicate (5 - (lg_sl ([.ref a_p0, .int p1, .int p2])).length) Slot.unset).toArray = ls at hl ⊢
  have hl : lv_has ls 5 [(0, .ref a_p0), (1, .int p1), (2, .int p2)] := hl
  have hw0 := hts (.fieldLink RX10 24 "DistantVoice$Text" "tape" "LDistantVoice$Tape;") (by decide +kernel)
  have hinX10 : ∀ w ∈ wsX100, w ∈ wsX10_numberOf := fun w h => List.mem_cons_of_mem _ (List.mem_append_left _ (List.mem_append_right _ h))
  have l5 : ∀ n5 : Nat, ∀ (x2_5 : Int32) (x3_5 : Int32) (x4_5 : Int32) (ls : Array Slot) (H : Heap) (locs : List Loc), xq_loop (fX10_numberOf_l5 N tapeI tape_bytesF) n5 (x2_5, x3_5, x4_5) = some r0 → va_P (dC, dI) vwCl [(a_p0, .inr (10, oX10 txI txR)), ((txR 0), .inr (9, oX9 tapeI tapeR)), ((tapeR 0), .inl (cB, 1600, .inl tape_bytesF))] H → va_D A [(a_p0, .inr (10, oX10 txI txR)), ((txR 0), .inr (9, oX9 tapeI tapeR)), ((tapeR 0), .inl (cB, 1600, .inl tape_bytesF))] → va_S A s.heap H locs → lv_has ls 5 [(0, .ref a_p0), (2, .int x2_5), (3, .int x3_5), (4, .int x4_5)] → W p l e (headSpec wsX10_numberOf { frames := 1, cells := 0, slots := 0, locals := 21 }).room s m [.ref a_p0, .int p1, .int p2].toArray below meth c H locs 0 0 (MQ below (xq_Q (dC, dI) vwCl (xq_tys cI cB cJ cZ cM) A [(a_p0, .inr (10, oX10 txI txR)), ((txR 0), .inr (9, oX9 tapeI tapeR)), ((tapeR 0), .inl (cB, 1600, .inl tape_bytesF))] (some (.int r0))) [.ref a_p0, .int p1, .int p2].toArray s 0 0 A) (F0 m 5 ls []) := by
    intro n5
    induction n5 with
    | zero => intro x2_5 x3_5 x4_5 ls H locs hf; cases (show none = some r0 from hf)
    | succ n5 ih5 =>
      intro x2_5 x3_5 x4_5 ls H locs hf hP hD hS hl
      have hf : fX10_numberOf_l5 N tapeI tape_bytesF (xq_loop (fX10_numberOf_l5 N tapeI tape_bytesF) n5) (x2_5, x3_5, x4_5) = some r0 := hf
      unfold fX10_numberOf_l5 at hf
      refine lv_iload hx hb dX10_numberOf_5 (lv_at hl 3 rfl) ?_
      refine lv_iload_n hx hb dX10_numberOf_7 rfl (lv_at hl 1 rfl) ?_
      refine lv_icmp_ge (tgt := 35) hx hb dX10_numberOf_8 (by decide) (fun c_ => ?_) (fun c_ => ?_)
      · have hf := xq_pos hf c_
        refine lv_iload_n hx hb dX10_numberOf_35 rfl (lv_at hl 2 rfl) ?_
        cases hf
        exact xq_iret hx hb hr hlocks hK hP hD hS dX10_numberOf_36
      · have hf := xq_neg hf c_
        refine lv_iload_n hx hb dX10_numberOf_11 rfl (lv_at hl 2 rfl) ?_
        refine lv_bipush (v := 10) hx hb dX10_numberOf_12 (by decide) ?_
        refine lv_imul hx hb dX10_numberOf_14 ?_
        refine lv_aload_n hx hb dX10_numberOf_15 rfl (lv_at hl 0 rfl) ?_
        refine va_get (D := (dC, dI)) (ci := 10) (v := .ref ((txR 0))) (C := RX10) (T := TX10) (N := 8) hx hb hts hinX10 hown hK hP 0 rfl rfl 0 (by decide) hw0 (fun _ h9 => h9) rfl dX10_numberOf_16 ?_
        refine lv_iload hx hb dX10_numberOf_19 (lv_at hl 3 rfl) ?_
        obtain ⟨r_1, h_2, hf⟩ := xq_bd_some hf
        refine xq_callV (As := [.int x4_5]) (rest := [.int (x3_5 * 10)]) (ci := 9) (q0 := 1) ⟨hx, hb, hml, hown, hts⟩ (kX9_at l dC dI cI cB cJ cZ cM z ad N ((txR 0)) tapeI tapeR tape_bytesF x4_5 h_2) (cwV 1 hts gX10_numberOf_X9_at rfl rfl rfl (by decide +kernel) ⟨Nat.le_of_ble_eq_true rfl, Nat.le_of_ble_eq_true rfl⟩) hN hK hP hD hS hA [1, 2] (by decide) rfl rfl rfl rfl rfl rfl hl.1 rfl (Nat.le_of_ble_eq_true rfl) dX10_numberOf_21 ⟨Nat.zero_le _, Nat.zero_le _⟩ (fun H locs hP hD hS => ?_)
        have hP : va_P (dC, dI) vwCl [(a_p0, .inr (10, oX10 txI txR)), ((txR 0), .inr (9, oX9 tapeI tapeR)), ((tapeR 0), .inl (cB, 1600, .inl tape_bytesF))] H := hP
        have hD : va_D A [(a_p0, .inr (10, oX10 txI txR)), ((txR 0), .inr (9, oX9 tapeI tapeR)), ((tapeR 0), .inl (cB, 1600, .inl tape_bytesF))] := hD
        refine W.eq (g2 := F0 m 24 ls [.int r_1, .int (x3_5 * 10)]) rfl ?_
        refine lv_iadd hx hb dX10_numberOf_24 ?_
        refine lv_bipush (v := 48) hx hb dX10_numberOf_25 (by decide) ?_
        refine lv_isub hx hb dX10_numberOf_27 ?_
        refine lv_istore_n (lv' := [(3, .int (((x3_5 * 10) + r_1) - 48)), (0, .ref a_p0), (2, .int x2_5), (4, .int x4_5)]) hx hb dX10_numberOf_28 rfl hl (by decide) rfl (fun ls hl => ?_)
        refine lv_iinc (v := x4_5 + 1) (lv' := [(4, .int (x4_5 + 1)), (3, .int (((x3_5 * 10) + r_1) - 48)), (0, .ref a_p0), (2, .int x2_5)]) hx hb dX10_numberOf_29 hl (k := 3) rfl (congrArg (fun q9 => x4_5 + q9) (by decide : Int32.ofInt 1 = 1)) (by decide) rfl (fun ls hl => ?_)
        refine lv_goto (tgt := 5) hx hb dX10_numberOf_32 (by decide) ?_
        exact ih5 x2_5 (((x3_5 * 10) + r_1) - 48) (x4_5 + 1) _ _ _ hf hP hD hS (lv_sub hl [2, 3, 1, 0] rfl)
  unfold fX10_numberOf at hf
  refine lv_iconst (v := 0) hx hb dX10_numberOf_0 (by decide) ?_
  refine lv_istore_n (lv' := [(3, .int 0), (0, .ref a_p0), (1, .int p1), (2, .int p2)]) hx hb dX10_numberOf_1 rfl hl (by decide) rfl (fun ls hl => ?_)
  refine lv_iload_n hx hb dX10_numberOf_2 rfl (lv_at hl 2 rfl) ?_
  refine lv_istore (lv' := [(4, .int p1), (3, .int 0), (0, .ref a_p0), (1, .int p1), (2, .int p2)]) hx hb dX10_numberOf_3 hl (by decide) rfl (fun ls hl => ?_)
  exact l5 N p2 0 p1 _ _ _ hf hP hD hS (lv_sub hl [2, 4, 1, 0] rfl)
def dsX10_isBlank_0 : List (Nat × Instr × Nat) := [(0, (.iload_n 0, 1)), (1, (.bipush 10, 2)), (3, (.if_icmp .eq 9, 3)), (6, (.iload_n 0, 1)), (7, (.bipush 32, 2)), (9, (.if_icmp .ne 7, 3)), (12, (.iconst 1, 1)), (13, (.goto 4, 3)), (16, (.iconst 0, 1)), (17, (.ireturn, 1))]
theorem dsX10_isBlank_0_ok : (dsX10_isBlank_0.all fun q => decide (decode cX10_isBlank q.1 = .ok q.2)) = true := by decide +kernel
theorem dX10_isBlank_0 : decode cX10_isBlank 0 = .ok (.iload_n 0, 1) := of_decide_eq_true (List.all_eq_true.mp dsX10_isBlank_0_ok (0, (.iload_n 0, 1)) (List.mem_of_getElem? (i := 0) rfl))
theorem dX10_isBlank_1 : decode cX10_isBlank 1 = .ok (.bipush 10, 2) := of_decide_eq_true (List.all_eq_true.mp dsX10_isBlank_0_ok (1, (.bipush 10, 2)) (List.mem_of_getElem? (i := 1) rfl))
theorem dX10_isBlank_3 : decode cX10_isBlank 3 = .ok (.if_icmp .eq 9, 3) := of_decide_eq_true (List.all_eq_true.mp dsX10_isBlank_0_ok (3, (.if_icmp .eq 9, 3)) (List.mem_of_getElem? (i := 2) rfl))
theorem dX10_isBlank_6 : decode cX10_isBlank 6 = .ok (.iload_n 0, 1) := of_decide_eq_true (List.all_eq_true.mp dsX10_isBlank_0_ok (6, (.iload_n 0, 1)) (List.mem_of_getElem? (i := 3) rfl))
theorem dX10_isBlank_7 : decode cX10_isBlank 7 = .ok (.bipush 32, 2) := of_decide_eq_true (List.all_eq_true.mp dsX10_isBlank_0_ok (7, (.bipush 32, 2)) (List.mem_of_getElem? (i := 4) rfl))
theorem dX10_isBlank_9 : decode cX10_isBlank 9 = .ok (.if_icmp .ne 7, 3) := of_decide_eq_true (List.all_eq_true.mp dsX10_isBlank_0_ok (9, (.if_icmp .ne 7, 3)) (List.mem_of_getElem? (i := 5) rfl))
theorem dX10_isBlank_12 : decode cX10_isBlank 12 = .ok (.iconst 1, 1) := of_decide_eq_true (List.all_eq_true.mp dsX10_isBlank_0_ok (12, (.iconst 1, 1)) (List.mem_of_getElem? (i := 6) rfl))
theorem dX10_isBlank_13 : decode cX10_isBlank 13 = .ok (.goto 4, 3) := of_decide_eq_true (List.all_eq_true.mp dsX10_isBlank_0_ok (13, (.goto 4, 3)) (List.mem_of_getElem? (i := 7) rfl))
theorem dX10_isBlank_16 : decode cX10_isBlank 16 = .ok (.iconst 0, 1) := of_decide_eq_true (List.all_eq_true.mp dsX10_isBlank_0_ok (16, (.iconst 0, 1)) (List.mem_of_getElem? (i := 8) rfl))
theorem dX10_isBlank_17 : decode cX10_isBlank 17 = .ok (.ireturn, 1) := of_decide_eq_true (List.all_eq_true.mp dsX10_isBlank_0_ok (17, (.ireturn, 1)) (List.mem_of_getElem? (i := 9) rfl))
def fX10_isBlank (N : Nat)   (p0 : Int32) : Option (Int32) :=
  (if p0 = 10 then some 1 else (if p0 = 32 then some 1 else some 0))
set_option maxHeartbeats 4000000 in
set_option maxRecDepth 100000 in
theorem kX10_isBlank (l : Launch) (dC : Nat → ClassId) (dI : Nat → Nat → Nat) (cI cB cJ cZ cM : ClassId) (z : Nat) (ad : Nat → Nat) (N : Nat) (p0 : Int32) {r0 : Int32} (hf : fX10_isBlank N p0 = some r0) : xq_Ct l yX10_isBlank wsX10_isBlank { frames := 0, cells := 0, slots := 0, locals := 0 } (dC, dI) vwCl (xq_tys cI cB cJ cZ cM) z ad [.int p0] [] [] (some (.int r0)) := by
  intro sz
  refine Met.ofW (cc := cX10_isBlank) (maxL := 1) (ret := (some .boolean)) (by decide) rfl ?_
  intro p e s m args below meth c s₁ B hml hv
  obtain ⟨rfl, hsz, hP, hK, hD0, hE, hz⟩ := hv
  have hx := B.exec
  have hb := B.bytes
  have hr := B.returns
  have hts := atoms_spec (ws := wsX10_isBlank) B.pre
  have hown : s.vm.findClass RX10 = some m.cls := findClass_of_methodNamed B.named
  have hlocks := B.notSynchronized
  subst hsz
  have hD := hD0.self (sz := s.heap.size)
  have hN := xq_Env.of hE hz hD0
  generalize hAe : va_A [] s.heap.size = A at hD hN ⊢
  have hA : ∀ q : Nat, s.heap.size ≤ q → A q := fun q h => by rw [← hAe]; exact Or.inr h
  clear hAe hD0
  have hS : va_S A s.heap s.heap [] := va_S.rf
  have hl := lv_entry ([.int p0]) (n := 1) (Nat.le_of_ble_eq_true rfl)
  rw [lg_entry_eq]
  generalize (lg_sl ([.int p0]) ++ List.replicate (1 - (lg_sl ([.int p0])).length) Slot.unset).toArray = ls at hl ⊢
  have hl : lv_has ls 1 [(0, .int p0)] := hl
  unfold fX10_isBlank at hf
  refine lv_iload_n hx hb dX10_isBlank_0 rfl (lv_at hl 0 rfl) ?_
  refine lv_bipush (v := 10) hx hb dX10_isBlank_1 (by decide) ?_
  refine lv_icmp_eq (tgt := 12) hx hb dX10_isBlank_3 (by decide) (fun c_ => ?_) (fun c_ => ?_)
  · have hf := xq_pos hf c_
    refine lv_iconst (v := 1) hx hb dX10_isBlank_12 (by decide) ?_
    refine lv_goto (tgt := 17) hx hb dX10_isBlank_13 (by decide) ?_
    cases hf
    exact xq_zret hx hb hr (by decide +kernel) hlocks hK hP hD hS dX10_isBlank_17
  · have hf := xq_neg hf c_
    refine lv_iload_n hx hb dX10_isBlank_6 rfl (lv_at hl 0 rfl) ?_
    refine lv_bipush (v := 32) hx hb dX10_isBlank_7 (by decide) ?_
    refine lv_icmp_ne (tgt := 16) hx hb dX10_isBlank_9 (by decide) (fun c_ => ?_) (fun c_ => ?_)
    · have hf := xq_neg hf c_
      refine lv_iconst (v := 0) hx hb dX10_isBlank_16 (by decide) ?_
      cases hf
      exact xq_zret hx hb hr (by decide +kernel) hlocks hK hP hD hS dX10_isBlank_17
    · have hf := xq_pos hf c_
      refine lv_iconst (v := 1) hx hb dX10_isBlank_12 (by decide) ?_
      refine lv_goto (tgt := 17) hx hb dX10_isBlank_13 (by decide) ?_
      cases hf
      exact xq_zret hx hb hr (by decide +kernel) hlocks hK hP hD hS dX10_isBlank_17
def dsX10_isLetter_0 : List (Nat × Instr × Nat) := [(0, (.iload_n 0, 1)), (1, (.bipush 97, 2)), (3, (.if_icmp .lt 13, 3)), (6, (.iload_n 0, 1)), (7, (.bipush 122, 2)), (9, (.if_icmp .gt 7, 3)), (12, (.iconst 1, 1)), (13, (.goto 4, 3)), (16, (.iconst 0, 1)), (17, (.ireturn, 1))]
theorem dsX10_isLetter_0_ok : (dsX10_isLetter_0.all fun q => decide (decode cX10_isLetter q.1 = .ok q.2)) = true := by decide +kernel
theorem dX10_isLetter_0 : decode cX10_isLetter 0 = .ok (.iload_n 0, 1) := of_decide_eq_true (List.all_eq_true.mp dsX10_isLetter_0_ok (0, (.iload_n 0, 1)) (List.mem_of_getElem? (i := 0) rfl))
theorem dX10_isLetter_1 : decode cX10_isLetter 1 = .ok (.bipush 97, 2) := of_decide_eq_true (List.all_eq_true.mp dsX10_isLetter_0_ok (1, (.bipush 97, 2)) (List.mem_of_getElem? (i := 1) rfl))
theorem dX10_isLetter_3 : decode cX10_isLetter 3 = .ok (.if_icmp .lt 13, 3) := of_decide_eq_true (List.all_eq_true.mp dsX10_isLetter_0_ok (3, (.if_icmp .lt 13, 3)) (List.mem_of_getElem? (i := 2) rfl))
theorem dX10_isLetter_6 : decode cX10_isLetter 6 = .ok (.iload_n 0, 1) := of_decide_eq_true (List.all_eq_true.mp dsX10_isLetter_0_ok (6, (.iload_n 0, 1)) (List.mem_of_getElem? (i := 3) rfl))
theorem dX10_isLetter_7 : decode cX10_isLetter 7 = .ok (.bipush 122, 2) := of_decide_eq_true (List.all_eq_true.mp dsX10_isLetter_0_ok (7, (.bipush 122, 2)) (List.mem_of_getElem? (i := 4) rfl))
theorem dX10_isLetter_9 : decode cX10_isLetter 9 = .ok (.if_icmp .gt 7, 3) := of_decide_eq_true (List.all_eq_true.mp dsX10_isLetter_0_ok (9, (.if_icmp .gt 7, 3)) (List.mem_of_getElem? (i := 5) rfl))
theorem dX10_isLetter_12 : decode cX10_isLetter 12 = .ok (.iconst 1, 1) := of_decide_eq_true (List.all_eq_true.mp dsX10_isLetter_0_ok (12, (.iconst 1, 1)) (List.mem_of_getElem? (i := 6) rfl))
theorem dX10_isLetter_13 : decode cX10_isLetter 13 = .ok (.goto 4, 3) := of_decide_eq_true (List.all_eq_true.mp dsX10_isLetter_0_ok (13, (.goto 4, 3)) (List.mem_of_getElem? (i := 7) rfl))
theorem dX10_isLetter_16 : decode cX10_isLetter 16 = .ok (.iconst 0, 1) := of_decide_eq_true (List.all_eq_true.mp dsX10_isLetter_0_ok (16, (.iconst 0, 1)) (List.mem_of_getElem? (i := 8) rfl))
theorem dX10_isLetter_17 : decode cX10_isLetter 17 = .ok (.ireturn, 1) := of_decide_eq_true (List.all_eq_true.mp dsX10_isLetter_0_ok (17, (.ireturn, 1)) (List.mem_of_getElem? (i := 9) rfl))
def fX10_isLetter (N : Nat)   (p0 : Int32) : Option (Int32) :=
  (if p0 < 97 then some 0 else (if 122 < p0 then some 0 else some 1))
set_option maxHeartbeats 4000000 in
set_option maxRecDepth 100000 in
theorem kX10_isLetter (l : Launch) (dC : Nat → ClassId) (dI : Nat → Nat → Nat) (cI cB cJ cZ cM : ClassId) (z : Nat) (ad : Nat → Nat) (N : Nat) (p0 : Int32) {r0 : Int32} (hf : fX10_isLetter N p0 = some r0) : xq_Ct l yX10_isLetter wsX10_isLetter { frames := 0, cells := 0, slots := 0, locals := 0 } (dC, dI) vwCl (xq_tys cI cB cJ cZ cM) z ad [.int p0] [] [] (some (.int r0)) := by
  intro sz
  refine Met.ofW (cc := cX10_isLetter) (maxL := 1) (ret := (some .boolean)) (by decide) rfl ?_
  intro p e s m args below meth c s₁ B hml hv
  obtain ⟨rfl, hsz, hP, hK, hD0, hE, hz⟩ := hv
  have hx := B.exec
  have hb := B.bytes
  have hr := B.returns
  have hts := atoms_spec (ws := wsX10_isLetter) B.pre
  have hown : s.vm.findClass RX10 = some m.cls := findClass_of_methodNamed B.named
  have hlocks := B.notSynchronized
  subst hsz
  have hD := hD0.self (sz := s.heap.size)
  have hN := xq_Env.of hE hz hD0
  generalize hAe : va_A [] s.heap.size = A at hD hN ⊢
  have hA : ∀ q : Nat, s.heap.size ≤ q → A q := fun q h => by rw [← hAe]; exact Or.inr h
  clear hAe hD0
  have hS : va_S A s.heap s.heap [] := va_S.rf
  have hl := lv_entry ([.int p0]) (n := 1) (Nat.le_of_ble_eq_true rfl)
  rw [lg_entry_eq]
  generalize (lg_sl ([.int p0]) ++ List.replicate (1 - (lg_sl ([.int p0])).length) Slot.unset).toArray = ls at hl ⊢
  have hl : lv_has ls 1 [(0, .int p0)] := hl
  unfold fX10_isLetter at hf
  refine lv_iload_n hx hb dX10_isLetter_0 rfl (lv_at hl 0 rfl) ?_
  refine lv_bipush (v := 97) hx hb dX10_isLetter_1 (by decide) ?_
  refine lv_icmp_lt (tgt := 16) hx hb dX10_isLetter_3 (by decide) (fun c_ => ?_) (fun c_ => ?_)
  · have hf := xq_pos hf c_
    refine lv_iconst (v := 0) hx hb dX10_isLetter_16 (by decide) ?_
    cases hf
    exact xq_zret hx hb hr (by decide +kernel) hlocks hK hP hD hS dX10_isLetter_17
  · have hf := xq_neg hf c_
    refine lv_iload_n hx hb dX10_isLetter_6 rfl (lv_at hl 0 rfl) ?_
    refine lv_bipush (v := 122) hx hb dX10_isLetter_7 (by decide) ?_
    refine lv_icmp_gt (tgt := 16) hx hb dX10_isLetter_9 (by decide) (fun c_ => ?_) (fun c_ => ?_)
    · have hf := xq_pos hf c_
      refine lv_iconst (v := 0) hx hb dX10_isLetter_16 (by decide) ?_
      cases hf
      exact xq_zret hx hb hr (by decide +kernel) hlocks hK hP hD hS dX10_isLetter_17
    · have hf := xq_neg hf c_
      refine lv_iconst (v := 1) hx hb dX10_isLetter_12 (by decide) ?_
      refine lv_goto (tgt := 17) hx hb dX10_isLetter_13 (by decide) ?_
      cases hf
      exact xq_zret hx hb hr (by decide +kernel) hlocks hK hP hD hS dX10_isLetter_17
def dsX10_isFigure_0 : List (Nat × Instr × Nat) := [(0, (.iload_n 0, 1)), (1, (.bipush 48, 2)), (3, (.if_icmp .lt 13, 3)), (6, (.iload_n 0, 1)), (7, (.bipush 57, 2)), (9, (.if_icmp .gt 7, 3)), (12, (.iconst 1, 1)), (13, (.goto 4, 3)), (16, (.iconst 0, 1)), (17, (.ireturn, 1))]
theorem dsX10_isFigure_0_ok : (dsX10_isFigure_0.all fun q => decide (decode cX10_isFigure q.1 = .ok q.2)) = true := by decide +kernel
theorem dX10_isFigure_0 : decode cX10_isFigure 0 = .ok (.iload_n 0, 1) := of_decide_eq_true (List.all_eq_true.mp dsX10_isFigure_0_ok (0, (.iload_n 0, 1)) (List.mem_of_getElem? (i := 0) rfl))
theorem dX10_isFigure_1 : decode cX10_isFigure 1 = .ok (.bipush 48, 2) := of_decide_eq_true (List.all_eq_true.mp dsX10_isFigure_0_ok (1, (.bipush 48, 2)) (List.mem_of_getElem? (i := 1) rfl))
theorem dX10_isFigure_3 : decode cX10_isFigure 3 = .ok (.if_icmp .lt 13, 3) := of_decide_eq_true (List.all_eq_true.mp dsX10_isFigure_0_ok (3, (.if_icmp .lt 13, 3)) (List.mem_of_getElem? (i := 2) rfl))
theorem dX10_isFigure_6 : decode cX10_isFigure 6 = .ok (.iload_n 0, 1) := of_decide_eq_true (List.all_eq_true.mp dsX10_isFigure_0_ok (6, (.iload_n 0, 1)) (List.mem_of_getElem? (i := 3) rfl))
theorem dX10_isFigure_7 : decode cX10_isFigure 7 = .ok (.bipush 57, 2) := of_decide_eq_true (List.all_eq_true.mp dsX10_isFigure_0_ok (7, (.bipush 57, 2)) (List.mem_of_getElem? (i := 4) rfl))
theorem dX10_isFigure_9 : decode cX10_isFigure 9 = .ok (.if_icmp .gt 7, 3) := of_decide_eq_true (List.all_eq_true.mp dsX10_isFigure_0_ok (9, (.if_icmp .gt 7, 3)) (List.mem_of_getElem? (i := 5) rfl))
theorem dX10_isFigure_12 : decode cX10_isFigure 12 = .ok (.iconst 1, 1) := of_decide_eq_true (List.all_eq_true.mp dsX10_isFigure_0_ok (12, (.iconst 1, 1)) (List.mem_of_getElem? (i := 6) rfl))
theorem dX10_isFigure_13 : decode cX10_isFigure 13 = .ok (.goto 4, 3) := of_decide_eq_true (List.all_eq_true.mp dsX10_isFigure_0_ok (13, (.goto 4, 3)) (List.mem_of_getElem? (i := 7) rfl))
theorem dX10_isFigure_16 : decode cX10_isFigure 16 = .ok (.iconst 0, 1) := of_decide_eq_true (List.all_eq_true.mp dsX10_isFigure_0_ok (16, (.iconst 0, 1)) (List.mem_of_getElem? (i := 8) rfl))
theorem dX10_isFigure_17 : decode cX10_isFigure 17 = .ok (.ireturn, 1) := of_decide_eq_true (List.all_eq_true.mp dsX10_isFigure_0_ok (17, (.ireturn, 1)) (List.mem_of_getElem? (i := 9) rfl))
def fX10_isFigure (N : Nat)   (p0 : Int32) : Option (Int32) :=
  (if p0 < 48 then some 0 else (if 57 < p0 then some 0 else some 1))
set_option maxHeartbeats 4000000 in
set_option maxRecDepth 100000 in
theorem kX10_isFigure (l : Launch) (dC : Nat → ClassId) (dI : Nat → Nat → Nat) (cI cB cJ cZ cM : ClassId) (z : Nat) (ad : Nat → Nat) (N : Nat) (p0 : Int32) {r0 : Int32} (hf : fX10_isFigure N p0 = some r0) : xq_Ct l yX10_isFigure wsX10_isFigure { frames := 0, cells := 0, slots := 0, locals := 0 } (dC, dI) vwCl (xq_tys cI cB cJ cZ cM) z ad [.int p0] [] [] (some (.int r0)) := by
  intro sz
  refine Met.ofW (cc := cX10_isFigure) (maxL := 1) (ret := (some .boolean)) (by decide) rfl ?_
  intro p e s m args below meth c s₁ B hml hv
  obtain ⟨rfl, hsz, hP, hK, hD0, hE, hz⟩ := hv
  have hx := B.exec
  have hb := B.bytes
  have hr := B.returns
  have hts := atoms_spec (ws := wsX10_isFigure) B.pre
  have hown : s.vm.findClass RX10 = some m.cls := findClass_of_methodNamed B.named
  have hlocks := B.notSynchronized
  subst hsz
  have hD := hD0.self (sz := s.heap.size)
  have hN := xq_Env.of hE hz hD0
  generalize hAe : va_A [] s.heap.size = A at hD hN ⊢
  have hA : ∀ q : Nat, s.heap.size ≤ q → A q := fun q h => by rw [← hAe]; exact Or.inr h
  clear hAe hD0
  have hS : va_S A s.heap s.heap [] := va_S.rf
  have hl := lv_entry ([.int p0]) (n := 1) (Nat.le_of_ble_eq_true rfl)
  rw [lg_entry_eq]
  generalize (lg_sl ([.int p0]) ++ List.replicate (1 - (lg_sl ([.int p0])).length) Slot.unset).toArray = ls at hl ⊢
  have hl : lv_has ls 1 [(0, .int p0)] := hl
  unfold fX10_isFigure at hf
  refine lv_iload_n hx hb dX10_isFigure_0 rfl (lv_at hl 0 rfl) ?_
  refine lv_bipush (v := 48) hx hb dX10_isFigure_1 (by decide) ?_
  refine lv_icmp_lt (tgt := 16) hx hb dX10_isFigure_3 (by decide) (fun c_ => ?_) (fun c_ => ?_)
  · have hf := xq_pos hf c_
    refine lv_iconst (v := 0) hx hb dX10_isFigure_16 (by decide) ?_
    cases hf
    exact xq_zret hx hb hr (by decide +kernel) hlocks hK hP hD hS dX10_isFigure_17
  · have hf := xq_neg hf c_
    refine lv_iload_n hx hb dX10_isFigure_6 rfl (lv_at hl 0 rfl) ?_
    refine lv_bipush (v := 57) hx hb dX10_isFigure_7 (by decide) ?_
    refine lv_icmp_gt (tgt := 16) hx hb dX10_isFigure_9 (by decide) (fun c_ => ?_) (fun c_ => ?_)
    · have hf := xq_pos hf c_
      refine lv_iconst (v := 0) hx hb dX10_isFigure_16 (by decide) ?_
      cases hf
      exact xq_zret hx hb hr (by decide +kernel) hlocks hK hP hD hS dX10_isFigure_17
    · have hf := xq_neg hf c_
      refine lv_iconst (v := 1) hx hb dX10_isFigure_12 (by decide) ?_
      refine lv_goto (tgt := 17) hx hb dX10_isFigure_13 (by decide) ?_
      cases hf
      exact xq_zret hx hb hr (by decide +kernel) hlocks hK hP hD hS dX10_isFigure_17
def dsX10_piece_0 : List (Nat × Instr × Nat) := [(0, (.aload_n 0, 1)), (1, (.getfield 18, 3)), (4, (.ifCond .ne 14, 3)), (7, (.aload_n 0, 1)), (8, (.getfield 15, 3)), (11, (.aload_n 0, 1)), (12, (.getfield 9, 3)), (15, (.if_icmp .lt 8, 3)), (18, (.bipush (-2), 2)), (20, (.goto 12, 3)), (23, (.aload_n 0, 1)), (24, (.getfield 33, 3)), (27, (.aload_n 0, 1)), (28, (.getfield 15, 3)), (31, (.iaload, 1)), (32, (.ireturn, 1))]
theorem dsX10_piece_0_ok : (dsX10_piece_0.all fun q => decide (decode cX10_piece q.1 = .ok q.2)) = true := by decide +kernel
theorem dX10_piece_0 : decode cX10_piece 0 = .ok (.aload_n 0, 1) := of_decide_eq_true (List.all_eq_true.mp dsX10_piece_0_ok (0, (.aload_n 0, 1)) (List.mem_of_getElem? (i := 0) rfl))
theorem dX10_piece_1 : decode cX10_piece 1 = .ok (.getfield 18, 3) := of_decide_eq_true (List.all_eq_true.mp dsX10_piece_0_ok (1, (.getfield 18, 3)) (List.mem_of_getElem? (i := 1) rfl))
theorem dX10_piece_4 : decode cX10_piece 4 = .ok (.ifCond .ne 14, 3) := of_decide_eq_true (List.all_eq_true.mp dsX10_piece_0_ok (4, (.ifCond .ne 14, 3)) (List.mem_of_getElem? (i := 2) rfl))
theorem dX10_piece_7 : decode cX10_piece 7 = .ok (.aload_n 0, 1) := of_decide_eq_true (List.all_eq_true.mp dsX10_piece_0_ok (7, (.aload_n 0, 1)) (List.mem_of_getElem? (i := 3) rfl))
theorem dX10_piece_8 : decode cX10_piece 8 = .ok (.getfield 15, 3) := of_decide_eq_true (List.all_eq_true.mp dsX10_piece_0_ok (8, (.getfield 15, 3)) (List.mem_of_getElem? (i := 4) rfl))
theorem dX10_piece_11 : decode cX10_piece 11 = .ok (.aload_n 0, 1) := of_decide_eq_true (List.all_eq_true.mp dsX10_piece_0_ok (11, (.aload_n 0, 1)) (List.mem_of_getElem? (i := 5) rfl))
theorem dX10_piece_12 : decode cX10_piece 12 = .ok (.getfield 9, 3) := of_decide_eq_true (List.all_eq_true.mp dsX10_piece_0_ok (12, (.getfield 9, 3)) (List.mem_of_getElem? (i := 6) rfl))
theorem dX10_piece_15 : decode cX10_piece 15 = .ok (.if_icmp .lt 8, 3) := of_decide_eq_true (List.all_eq_true.mp dsX10_piece_0_ok (15, (.if_icmp .lt 8, 3)) (List.mem_of_getElem? (i := 7) rfl))
theorem dX10_piece_18 : decode cX10_piece 18 = .ok (.bipush (-2), 2) := of_decide_eq_true (List.all_eq_true.mp dsX10_piece_0_ok (18, (.bipush (-2), 2)) (List.mem_of_getElem? (i := 8) rfl))
theorem dX10_piece_20 : decode cX10_piece 20 = .ok (.goto 12, 3) := of_decide_eq_true (List.all_eq_true.mp dsX10_piece_0_ok (20, (.goto 12, 3)) (List.mem_of_getElem? (i := 9) rfl))
theorem dX10_piece_23 : decode cX10_piece 23 = .ok (.aload_n 0, 1) := of_decide_eq_true (List.all_eq_true.mp dsX10_piece_0_ok (23, (.aload_n 0, 1)) (List.mem_of_getElem? (i := 10) rfl))
theorem dX10_piece_24 : decode cX10_piece 24 = .ok (.getfield 33, 3) := of_decide_eq_true (List.all_eq_true.mp dsX10_piece_0_ok (24, (.getfield 33, 3)) (List.mem_of_getElem? (i := 11) rfl))
theorem dX10_piece_27 : decode cX10_piece 27 = .ok (.aload_n 0, 1) := of_decide_eq_true (List.all_eq_true.mp dsX10_piece_0_ok (27, (.aload_n 0, 1)) (List.mem_of_getElem? (i := 12) rfl))
theorem dX10_piece_28 : decode cX10_piece 28 = .ok (.getfield 15, 3) := of_decide_eq_true (List.all_eq_true.mp dsX10_piece_0_ok (28, (.getfield 15, 3)) (List.mem_of_getElem? (i := 13) rfl))
theorem dX10_piece_31 : decode cX10_piece 31 = .ok (.iaload, 1) := of_decide_eq_true (List.all_eq_true.mp dsX10_piece_0_ok (31, (.iaload, 1)) (List.mem_of_getElem? (i := 14) rfl))
theorem dX10_piece_32 : decode cX10_piece 32 = .ok (.ireturn, 1) := of_decide_eq_true (List.all_eq_true.mp dsX10_piece_0_ok (32, (.ireturn, 1)) (List.mem_of_getElem? (i := 15) rfl))
def fX10_piece (N : Nat) (txI : Nat → Int32) (tx_kindsF : Nat → Int32) (tx_kindsN : Nat)  : Option (Int32) :=
  (if (txI 6) = 0 then (if (txI 5) < (txI 4) then (xq_bd (xq_ald tx_kindsN tx_kindsF (txI 5)) fun v_1 => some v_1) else some ((-2))) else some ((-2)))
set_option maxHeartbeats 4000000 in
set_option maxRecDepth 100000 in
theorem kX10_piece (l : Launch) (dC : Nat → ClassId) (dI : Nat → Nat → Nat) (cI cB cJ cZ cM : ClassId) (z : Nat) (ad : Nat → Nat) (N : Nat) (a_p0 : Nat) (txI : Nat → Int32) (txR : Nat → Nat) (tx_kindsF : Nat → Int32) (tx_kindsN : Nat) {r0 : Int32} (hf : fX10_piece N txI tx_kindsF tx_kindsN = some r0) : xq_Ct l yX10_piece wsX10_piece { frames := 0, cells := 0, slots := 0, locals := 0 } (dC, dI) vwCl (xq_tys cI cB cJ cZ cM) z ad [.ref a_p0] [(a_p0, .inr (10, oX10 txI txR)), ((txR 1), .inl (cI, tx_kindsN, .inl tx_kindsF))] [(a_p0, .inr (10, oX10 txI txR)), ((txR 1), .inl (cI, tx_kindsN, .inl tx_kindsF))] (some (.int r0)) := by
  intro sz
  refine Met.ofW (cc := cX10_piece) (maxL := 1) (ret := (some .int)) (by decide) rfl ?_
  intro p e s m args below meth c s₁ B hml hv
  obtain ⟨rfl, hsz, hP, hK, hD0, hE, hz⟩ := hv
  have hx := B.exec
  have hb := B.bytes
  have hr := B.returns
  have hts := atoms_spec (ws := wsX10_piece) B.pre
  have hown : s.vm.findClass RX10 = some m.cls := findClass_of_methodNamed B.named
  have hlocks := B.notSynchronized
  subst hsz
  have hD := hD0.self (sz := s.heap.size)
  have hN := xq_Env.of hE hz hD0
  generalize hAe : va_A [(a_p0, .inr (10, oX10 txI txR)), ((txR 1), .inl (cI, tx_kindsN, .inl tx_kindsF))] s.heap.size = A at hD hN ⊢
  have hA : ∀ q : Nat, s.heap.size ≤ q → A q := fun q h => by rw [← hAe]; exact Or.inr h
  clear hAe hD0
  have hS : va_S A s.heap s.heap [] := va_S.rf
  have hl := lv_entry ([.ref a_p0]) (n := 1) (Nat.le_of_ble_eq_true rfl)
  rw [lg_entry_eq]
  generalize (lg_sl ([.ref a_p0]) ++ List.replicate (1 - (lg_sl ([.ref a_p0])).length) Slot.unset).toArray = ls at hl ⊢
  have hl : lv_has ls 1 [(0, .ref a_p0)] := hl
  have hw0 := hts (.fieldLink RX10 18 "DistantVoice$Text" "fault" "I") (by decide +kernel)
  have hinX10 : ∀ w ∈ wsX100, w ∈ wsX10_piece := fun w h => List.mem_cons_of_mem _ (List.mem_append_right _ h)
  have hw2 := hts (.fieldLink RX10 15 "DistantVoice$Text" "current" "I") (by decide +kernel)
  have hw3 := hts (.fieldLink RX10 9 "DistantVoice$Text" "count" "I") (by decide +kernel)
  have hw4 := hts (.fieldLink RX10 33 "DistantVoice$Text" "kinds" "[I") (by decide +kernel)
  unfold fX10_piece at hf
  refine lv_aload_n hx hb dX10_piece_0 rfl (lv_at hl 0 rfl) ?_
  refine va_get (D := (dC, dI)) (ci := 10) (v := .int (txI 6)) (C := RX10) (T := TX10) (N := 8) hx hb hts hinX10 hown hK hP 0 rfl rfl 6 (by decide) hw0 (fun _ h9 => h9) rfl dX10_piece_1 ?_
  refine lv_if_ne (tgt := 18) hx hb dX10_piece_4 (by decide) (fun c_ => ?_) (fun c_ => ?_)
  · have hf := xq_neg hf c_
    refine lv_bipush (v := (-2)) hx hb dX10_piece_18 (by decide) ?_
    refine lv_goto (tgt := 32) hx hb dX10_piece_20 (by decide) ?_
    cases hf
    exact xq_iret hx hb hr hlocks hK hP hD hS dX10_piece_32
  · have hf := xq_pos hf c_
    refine lv_aload_n hx hb dX10_piece_7 rfl (lv_at hl 0 rfl) ?_
    refine va_get (D := (dC, dI)) (ci := 10) (v := .int (txI 5)) (C := RX10) (T := TX10) (N := 8) hx hb hts hinX10 hown hK hP 0 rfl rfl 5 (by decide) hw2 (fun _ h9 => h9) rfl dX10_piece_8 ?_
    refine lv_aload_n hx hb dX10_piece_11 rfl (lv_at hl 0 rfl) ?_
    refine va_get (D := (dC, dI)) (ci := 10) (v := .int (txI 4)) (C := RX10) (T := TX10) (N := 8) hx hb hts hinX10 hown hK hP 0 rfl rfl 4 (by decide) hw3 (fun _ h9 => h9) rfl dX10_piece_12 ?_
    refine lv_icmp_lt (tgt := 23) hx hb dX10_piece_15 (by decide) (fun c_ => ?_) (fun c_ => ?_)
    · have hf := xq_pos hf c_
      refine lv_aload_n hx hb dX10_piece_23 rfl (lv_at hl 0 rfl) ?_
      refine va_get (D := (dC, dI)) (ci := 10) (v := .ref ((txR 1))) (C := RX10) (T := TX10) (N := 8) hx hb hts hinX10 hown hK hP 0 rfl rfl 1 (by decide) hw4 (fun _ h9 => h9) rfl dX10_piece_24 ?_
      refine lv_aload_n hx hb dX10_piece_27 rfl (lv_at hl 0 rfl) ?_
      refine va_get (D := (dC, dI)) (ci := 10) (v := .int (txI 5)) (C := RX10) (T := TX10) (N := 8) hx hb hts hinX10 hown hK hP 0 rfl rfl 5 (by decide) hw2 (fun _ h9 => h9) rfl dX10_piece_28 ?_
      refine xq_iald hx hb hK hP 1 0 rfl rfl hf dX10_piece_31 (fun v_1 hf => ?_)
      cases hf
      exact xq_iret hx hb hr hlocks hK hP hD hS dX10_piece_32
    · have hf := xq_neg hf c_
      refine lv_bipush (v := (-2)) hx hb dX10_piece_18 (by decide) ?_
      refine lv_goto (tgt := 32) hx hb dX10_piece_20 (by decide) ?_
      cases hf
      exact xq_iret hx hb hr hlocks hK hP hD hS dX10_piece_32
def dsX10_value_0 : List (Nat × Instr × Nat) := [(0, (.aload_n 0, 1)), (1, (.getfield 15, 3)), (4, (.aload_n 0, 1)), (5, (.getfield 9, 3)), (8, (.if_icmp .lt 7, 3)), (11, (.iconst 0, 1)), (12, (.goto 12, 3)), (15, (.aload_n 0, 1)), (16, (.getfield 40, 3)), (19, (.aload_n 0, 1)), (20, (.getfield 15, 3)), (23, (.iaload, 1)), (24, (.ireturn, 1))]
theorem dsX10_value_0_ok : (dsX10_value_0.all fun q => decide (decode cX10_value q.1 = .ok q.2)) = true := by decide +kernel
theorem dX10_value_0 : decode cX10_value 0 = .ok (.aload_n 0, 1) := of_decide_eq_true (List.all_eq_true.mp dsX10_value_0_ok (0, (.aload_n 0, 1)) (List.mem_of_getElem? (i := 0) rfl))
theorem dX10_value_1 : decode cX10_value 1 = .ok (.getfield 15, 3) := of_decide_eq_true (List.all_eq_true.mp dsX10_value_0_ok (1, (.getfield 15, 3)) (List.mem_of_getElem? (i := 1) rfl))
theorem dX10_value_4 : decode cX10_value 4 = .ok (.aload_n 0, 1) := of_decide_eq_true (List.all_eq_true.mp dsX10_value_0_ok (4, (.aload_n 0, 1)) (List.mem_of_getElem? (i := 2) rfl))
theorem dX10_value_5 : decode cX10_value 5 = .ok (.getfield 9, 3) := of_decide_eq_true (List.all_eq_true.mp dsX10_value_0_ok (5, (.getfield 9, 3)) (List.mem_of_getElem? (i := 3) rfl))
theorem dX10_value_8 : decode cX10_value 8 = .ok (.if_icmp .lt 7, 3) := of_decide_eq_true (List.all_eq_true.mp dsX10_value_0_ok (8, (.if_icmp .lt 7, 3)) (List.mem_of_getElem? (i := 4) rfl))
theorem dX10_value_11 : decode cX10_value 11 = .ok (.iconst 0, 1) := of_decide_eq_true (List.all_eq_true.mp dsX10_value_0_ok (11, (.iconst 0, 1)) (List.mem_of_getElem? (i := 5) rfl))
theorem dX10_value_12 : decode cX10_value 12 = .ok (.goto 12, 3) := of_decide_eq_true (List.all_eq_true.mp dsX10_value_0_ok (12, (.goto 12, 3)) (List.mem_of_getElem? (i := 6) rfl))
theorem dX10_value_15 : decode cX10_value 15 = .ok (.aload_n 0, 1) := of_decide_eq_true (List.all_eq_true.mp dsX10_value_0_ok (15, (.aload_n 0, 1)) (List.mem_of_getElem? (i := 7) rfl))
theorem dX10_value_16 : decode cX10_value 16 = .ok (.getfield 40, 3) := of_decide_eq_true (List.all_eq_true.mp dsX10_value_0_ok (16, (.getfield 40, 3)) (List.mem_of_getElem? (i := 8) rfl))
theorem dX10_value_19 : decode cX10_value 19 = .ok (.aload_n 0, 1) := of_decide_eq_true (List.all_eq_true.mp dsX10_value_0_ok (19, (.aload_n 0, 1)) (List.mem_of_getElem? (i := 9) rfl))
theorem dX10_value_20 : decode cX10_value 20 = .ok (.getfield 15, 3) := of_decide_eq_true (List.all_eq_true.mp dsX10_value_0_ok (20, (.getfield 15, 3)) (List.mem_of_getElem? (i := 10) rfl))
theorem dX10_value_23 : decode cX10_value 23 = .ok (.iaload, 1) := of_decide_eq_true (List.all_eq_true.mp dsX10_value_0_ok (23, (.iaload, 1)) (List.mem_of_getElem? (i := 11) rfl))
theorem dX10_value_24 : decode cX10_value 24 = .ok (.ireturn, 1) := of_decide_eq_true (List.all_eq_true.mp dsX10_value_0_ok (24, (.ireturn, 1)) (List.mem_of_getElem? (i := 12) rfl))
def fX10_value (N : Nat) (txI : Nat → Int32) (tx_valuesF : Nat → Int32) (tx_valuesN : Nat)  : Option (Int32) :=
  (if (txI 5) < (txI 4) then (xq_bd (xq_ald tx_valuesN tx_valuesF (txI 5)) fun v_1 => some v_1) else some 0)
set_option maxHeartbeats 4000000 in
set_option maxRecDepth 100000 in
theorem kX10_value (l : Launch) (dC : Nat → ClassId) (dI : Nat → Nat → Nat) (cI cB cJ cZ cM : ClassId) (z : Nat) (ad : Nat → Nat) (N : Nat) (a_p0 : Nat) (txI : Nat → Int32) (txR : Nat → Nat) (tx_valuesF : Nat → Int32) (tx_valuesN : Nat) {r0 : Int32} (hf : fX10_value N txI tx_valuesF tx_valuesN = some r0) : xq_Ct l yX10_value wsX10_value { frames := 0, cells := 0, slots := 0, locals := 0 } (dC, dI) vwCl (xq_tys cI cB cJ cZ cM) z ad [.ref a_p0] [(a_p0, .inr (10, oX10 txI txR)), ((txR 3), .inl (cI, tx_valuesN, .inl tx_valuesF))] [(a_p0, .inr (10, oX10 txI txR)), ((txR 3), .inl (cI, tx_valuesN, .inl tx_valuesF))] (some (.int r0)) := by
  intro sz
  refine Met.ofW (cc := cX10_value) (maxL := 1) (ret := (some .int)) (by decide) rfl ?_
  intro p e s m args below meth c s₁ B hml hv
  obtain ⟨rfl, hsz, hP, hK, hD0, hE, hz⟩ := hv
  have hx := B.exec
  have hb := B.bytes
  have hr := B.returns
  have hts := atoms_spec (ws := wsX10_value) B.pre
  have hown : s.vm.findClass RX10 = some m.cls := findClass_of_methodNamed B.named
  have hlocks := B.notSynchronized
  subst hsz
  have hD := hD0.self (sz := s.heap.size)
  have hN := xq_Env.of hE hz hD0
  generalize hAe : va_A [(a_p0, .inr (10, oX10 txI txR)), ((txR 3), .inl (cI, tx_valuesN, .inl tx_valuesF))] s.heap.size = A at hD hN ⊢
  have hA : ∀ q : Nat, s.heap.size ≤ q → A q := fun q h => by rw [← hAe]; exact Or.inr h
  clear hAe hD0
  have hS : va_S A s.heap s.heap [] := va_S.rf
  have hl := lv_entry ([.ref a_p0]) (n := 1) (Nat.le_of_ble_eq_true rfl)
  rw [lg_entry_eq]
  generalize (lg_sl ([.ref a_p0]) ++ List.replicate (1 - (lg_sl ([.ref a_p0])).length) Slot.unset).toArray = ls at hl ⊢
  have hl : lv_has ls 1 [(0, .ref a_p0)] := hl
  have hw0 := hts (.fieldLink RX10 15 "DistantVoice$Text" "current" "I") (by decide +kernel)
  have hinX10 : ∀ w ∈ wsX100, w ∈ wsX10_value := fun w h => List.mem_cons_of_mem _ (List.mem_append_right _ h)
  have hw2 := hts (.fieldLink RX10 9 "DistantVoice$Text" "count" "I") (by decide +kernel)
  have hw3 := hts (.fieldLink RX10 40 "DistantVoice$Text" "values" "[I") (by decide +kernel)
  unfold fX10_value at hf
  refine lv_aload_n hx hb dX10_value_0 rfl (lv_at hl 0 rfl) ?_
  refine va_get (D := (dC, dI)) (ci := 10) (v := .int (txI 5)) (C := RX10) (T := TX10) (N := 8) hx hb hts hinX10 hown hK hP 0 rfl rfl 5 (by decide) hw0 (fun _ h9 => h9) rfl dX10_value_1 ?_
  refine lv_aload_n hx hb dX10_value_4 rfl (lv_at hl 0 rfl) ?_
  refine va_get (D := (dC, dI)) (ci := 10) (v := .int (txI 4)) (C := RX10) (T := TX10) (N := 8) hx hb hts hinX10 hown hK hP 0 rfl rfl 4 (by decide) hw2 (fun _ h9 => h9) rfl dX10_value_5 ?_
  refine lv_icmp_lt (tgt := 15) hx hb dX10_value_8 (by decide) (fun c_ => ?_) (fun c_ => ?_)
  · have hf := xq_pos hf c_
    refine lv_aload_n hx hb dX10_value_15 rfl (lv_at hl 0 rfl) ?_
    refine va_get (D := (dC, dI)) (ci := 10) (v := .ref ((txR 3))) (C := RX10) (T := TX10) (N := 8) hx hb hts hinX10 hown hK hP 0 rfl rfl 3 (by decide) hw3 (fun _ h9 => h9) rfl dX10_value_16 ?_
    refine lv_aload_n hx hb dX10_value_19 rfl (lv_at hl 0 rfl) ?_
    refine va_get (D := (dC, dI)) (ci := 10) (v := .int (txI 5)) (C := RX10) (T := TX10) (N := 8) hx hb hts hinX10 hown hK hP 0 rfl rfl 5 (by decide) hw0 (fun _ h9 => h9) rfl dX10_value_20 ?_
    refine xq_iald hx hb hK hP 1 0 rfl rfl hf dX10_value_23 (fun v_1 hf => ?_)
    cases hf
    exact xq_iret hx hb hr hlocks hK hP hD hS dX10_value_24
  · have hf := xq_neg hf c_
    refine lv_iconst (v := 0) hx hb dX10_value_11 (by decide) ?_
    refine lv_goto (tgt := 24) hx hb dX10_value_12 (by decide) ?_
    cases hf
    exact xq_iret hx hb hr hlocks hK hP hD hS dX10_value_24
def dsX10_next_0 : List (Nat × Instr × Nat) := [(0, (.aload_n 0, 1)), (1, (.getfield 15, 3)), (4, (.aload_n 0, 1)), (5, (.getfield 9, 3)), (8, (.iconst 1, 1)), (9, (.isub, 1)), (10, (.if_icmp .ge 13, 3)), (13, (.aload_n 0, 1)), (14, (.dup, 1)), (15, (.getfield 15, 3)), (18, (.iconst 1, 1)), (19, (.iadd, 1)), (20, (.putfield 15, 3)), (23, (.return_, 1))]
theorem dsX10_next_0_ok : (dsX10_next_0.all fun q => decide (decode cX10_next q.1 = .ok q.2)) = true := by decide +kernel
theorem dX10_next_0 : decode cX10_next 0 = .ok (.aload_n 0, 1) := of_decide_eq_true (List.all_eq_true.mp dsX10_next_0_ok (0, (.aload_n 0, 1)) (List.mem_of_getElem? (i := 0) rfl))
theorem dX10_next_1 : decode cX10_next 1 = .ok (.getfield 15, 3) := of_decide_eq_true (List.all_eq_true.mp dsX10_next_0_ok (1, (.getfield 15, 3)) (List.mem_of_getElem? (i := 1) rfl))
theorem dX10_next_4 : decode cX10_next 4 = .ok (.aload_n 0, 1) := of_decide_eq_true (List.all_eq_true.mp dsX10_next_0_ok (4, (.aload_n 0, 1)) (List.mem_of_getElem? (i := 2) rfl))
theorem dX10_next_5 : decode cX10_next 5 = .ok (.getfield 9, 3) := of_decide_eq_true (List.all_eq_true.mp dsX10_next_0_ok (5, (.getfield 9, 3)) (List.mem_of_getElem? (i := 3) rfl))
theorem dX10_next_8 : decode cX10_next 8 = .ok (.iconst 1, 1) := of_decide_eq_true (List.all_eq_true.mp dsX10_next_0_ok (8, (.iconst 1, 1)) (List.mem_of_getElem? (i := 4) rfl))
theorem dX10_next_9 : decode cX10_next 9 = .ok (.isub, 1) := of_decide_eq_true (List.all_eq_true.mp dsX10_next_0_ok (9, (.isub, 1)) (List.mem_of_getElem? (i := 5) rfl))
theorem dX10_next_10 : decode cX10_next 10 = .ok (.if_icmp .ge 13, 3) := of_decide_eq_true (List.all_eq_true.mp dsX10_next_0_ok (10, (.if_icmp .ge 13, 3)) (List.mem_of_getElem? (i := 6) rfl))
theorem dX10_next_13 : decode cX10_next 13 = .ok (.aload_n 0, 1) := of_decide_eq_true (List.all_eq_true.mp dsX10_next_0_ok (13, (.aload_n 0, 1)) (List.mem_of_getElem? (i := 7) rfl))
theorem dX10_next_14 : decode cX10_next 14 = .ok (.dup, 1) := of_decide_eq_true (List.all_eq_true.mp dsX10_next_0_ok (14, (.dup, 1)) (List.mem_of_getElem? (i := 8) rfl))
theorem dX10_next_15 : decode cX10_next 15 = .ok (.getfield 15, 3) := of_decide_eq_true (List.all_eq_true.mp dsX10_next_0_ok (15, (.getfield 15, 3)) (List.mem_of_getElem? (i := 9) rfl))
theorem dX10_next_18 : decode cX10_next 18 = .ok (.iconst 1, 1) := of_decide_eq_true (List.all_eq_true.mp dsX10_next_0_ok (18, (.iconst 1, 1)) (List.mem_of_getElem? (i := 10) rfl))
theorem dX10_next_19 : decode cX10_next 19 = .ok (.iadd, 1) := of_decide_eq_true (List.all_eq_true.mp dsX10_next_0_ok (19, (.iadd, 1)) (List.mem_of_getElem? (i := 11) rfl))
theorem dX10_next_20 : decode cX10_next 20 = .ok (.putfield 15, 3) := of_decide_eq_true (List.all_eq_true.mp dsX10_next_0_ok (20, (.putfield 15, 3)) (List.mem_of_getElem? (i := 12) rfl))
theorem dX10_next_23 : decode cX10_next 23 = .ok (.return_, 1) := of_decide_eq_true (List.all_eq_true.mp dsX10_next_0_ok (23, (.return_, 1)) (List.mem_of_getElem? (i := 13) rfl))
def fX10_next (N : Nat) (txI : Nat → Int32)   : Option ((Nat → Int32)) :=
  (if ((txI 4) - 1) ≤ (txI 5) then some txI else some ((va_up txI 5 ((txI 5) + 1))))
set_option maxHeartbeats 4000000 in
set_option maxRecDepth 100000 in
theorem kX10_next (l : Launch) (dC : Nat → ClassId) (dI : Nat → Nat → Nat) (cI cB cJ cZ cM : ClassId) (z : Nat) (ad : Nat → Nat) (N : Nat) (a_p0 : Nat) (txI : Nat → Int32) (txR : Nat → Nat) {r0 : Nat → Int32} (hf : fX10_next N txI = some r0) : xq_Ct l yX10_next wsX10_next { frames := 0, cells := 0, slots := 0, locals := 0 } (dC, dI) vwCl (xq_tys cI cB cJ cZ cM) z ad [.ref a_p0] [(a_p0, .inr (10, oX10 txI txR))] [(a_p0, .inr (10, oX10 r0 txR))] none := by
  intro sz
  refine Met.ofW (cc := cX10_next) (maxL := 1) (ret := none) (by decide) rfl ?_
  intro p e s m args below meth c s₁ B hml hv
  obtain ⟨rfl, hsz, hP, hK, hD0, hE, hz⟩ := hv
  have hx := B.exec
  have hb := B.bytes
  have hr := B.returns
  have hts := atoms_spec (ws := wsX10_next) B.pre
  have hown : s.vm.findClass RX10 = some m.cls := findClass_of_methodNamed B.named
  have hlocks := B.notSynchronized
  subst hsz
  have hD := hD0.self (sz := s.heap.size)
  have hN := xq_Env.of hE hz hD0
  generalize hAe : va_A [(a_p0, .inr (10, oX10 txI txR))] s.heap.size = A at hD hN ⊢
  have hA : ∀ q : Nat, s.heap.size ≤ q → A q := fun q h => by rw [← hAe]; exact Or.inr h
  clear hAe hD0
  have hS : va_S A s.heap s.heap [] := va_S.rf
  have hl := lv_entry ([.ref a_p0]) (n := 1) (Nat.le_of_ble_eq_true rfl)
  rw [lg_entry_eq]
  generalize (lg_sl ([.ref a_p0]) ++ List.replicate (1 - (lg_sl ([.ref a_p0])).length) Slot.unset).toArray = ls at hl ⊢
  have hl : lv_has ls 1 [(0, .ref a_p0)] := hl
  have hw0 := hts (.fieldLink RX10 15 "DistantVoice$Text" "current" "I") (by decide +kernel)
  have hinX10 : ∀ w ∈ wsX100, w ∈ wsX10_next := fun w h => List.mem_cons_of_mem _ (List.mem_append_right _ h)
  have hw2 := hts (.fieldLink RX10 9 "DistantVoice$Text" "count" "I") (by decide +kernel)
  unfold fX10_next at hf
  refine lv_aload_n hx hb dX10_next_0 rfl (lv_at hl 0 rfl) ?_
  refine va_get (D := (dC, dI)) (ci := 10) (v := .int (txI 5)) (C := RX10) (T := TX10) (N := 8) hx hb hts hinX10 hown hK hP 0 rfl rfl 5 (by decide) hw0 (fun _ h9 => h9) rfl dX10_next_1 ?_
  refine lv_aload_n hx hb dX10_next_4 rfl (lv_at hl 0 rfl) ?_
  refine va_get (D := (dC, dI)) (ci := 10) (v := .int (txI 4)) (C := RX10) (T := TX10) (N := 8) hx hb hts hinX10 hown hK hP 0 rfl rfl 4 (by decide) hw2 (fun _ h9 => h9) rfl dX10_next_5 ?_
  refine lv_iconst (v := 1) hx hb dX10_next_8 (by decide) ?_
  refine lv_isub hx hb dX10_next_9 ?_
  refine lv_icmp_ge (tgt := 23) hx hb dX10_next_10 (by decide) (fun c_ => ?_) (fun c_ => ?_)
  · have hf := xq_pos hf c_
    cases hf
    exact xq_vret hx hb hr hlocks hK hP hD hS dX10_next_23
  · have hf := xq_neg hf c_
    refine lv_aload_n hx hb dX10_next_13 rfl (lv_at hl 0 rfl) ?_
    refine lv_dup hx hb dX10_next_14 rfl ?_
    refine va_get (D := (dC, dI)) (ci := 10) (v := .int (txI 5)) (C := RX10) (T := TX10) (N := 8) hx hb hts hinX10 hown hK hP 0 rfl rfl 5 (by decide) hw0 (fun _ h9 => h9) rfl dX10_next_15 ?_
    refine lv_iconst (v := 1) hx hb dX10_next_18 (by decide) ?_
    refine lv_iadd hx hb dX10_next_19 ?_
    refine va_put (D := (dC, dI)) (ci := 10) (v := .int ((txI 5) + 1)) (ty := .int) (C := RX10) (T := TX10) (N := 8) hx hb hts hinX10 tyX10 tyX10_ok nmX10 hown hK hP hD hS 0 rfl rfl 5 (by decide) hw0 (fun _ h9 => h9) rfl (by decide +kernel) rfl rfl (Nat.le_of_ble_eq_true rfl) dX10_next_20 (fun H locs hP hD hS => ?_)
    have hP : va_P (dC, dI) vwCl [(a_p0, .inr (10, oX10 (va_up txI 5 ((txI 5) + 1)) txR))] H := hP
    have hD : va_D A [(a_p0, .inr (10, oX10 (va_up txI 5 ((txI 5) + 1)) txR))] := hD
    cases hf
    exact xq_vret hx hb hr hlocks hK hP hD hS dX10_next_23
def dsX10_wrong_0 : List (Nat × Instr × Nat) := [(0, (.aload_n 0, 1)), (1, (.getfield 18, 3)), (4, (.ifCond .ne 58, 3)), (7, (.aload_n 0, 1)), (8, (.getfield 15, 3)), (11, (.aload_n 0, 1)), (12, (.getfield 9, 3)), (15, (.if_icmp .ge 47, 3)), (18, (.aload_n 0, 1)), (19, (.iconst 1, 1)), (20, (.putfield 18, 3)), (23, (.aload_n 0, 1)), (24, (.aload_n 0, 1)), (25, (.getfield 33, 3)), (28, (.aload_n 0, 1)), (29, (.getfield 15, 3)), (32, (.iaload, 1)), (33, (.bipush (-2), 2)), (35, (.if_icmp .ne 15, 3)), (38, (.aload_n 0, 1)), (39, (.getfield 40, 3)), (42, (.aload_n 0, 1)), (43, (.getfield 15, 3)), (46, (.iaload, 1)), (47, (.goto 12, 3)), (50, (.aload_n 0, 1)), (51, (.getfield 37, 3)), (54, (.aload_n 0, 1)), (55, (.getfield 15, 3)), (58, (.iaload, 1)), (59, (.putfield 21, 3)), (62, (.return_, 1))]
theorem dsX10_wrong_0_ok : (dsX10_wrong_0.all fun q => decide (decode cX10_wrong q.1 = .ok q.2)) = true := by decide +kernel
theorem dX10_wrong_0 : decode cX10_wrong 0 = .ok (.aload_n 0, 1) := of_decide_eq_true (List.all_eq_true.mp dsX10_wrong_0_ok (0, (.aload_n 0, 1)) (List.mem_of_getElem? (i := 0) rfl))
theorem dX10_wrong_1 : decode cX10_wrong 1 = .ok (.getfield 18, 3) := of_decide_eq_true (List.all_eq_true.mp dsX10_wrong_0_ok (1, (.getfield 18, 3)) (List.mem_of_getElem? (i := 1) rfl))
theorem dX10_wrong_4 : decode cX10_wrong 4 = .ok (.ifCond .ne 58, 3) := of_decide_eq_true (List.all_eq_true.mp dsX10_wrong_0_ok (4, (.ifCond .ne 58, 3)) (List.mem_of_getElem? (i := 2) rfl))
theorem dX10_wrong_7 : decode cX10_wrong 7 = .ok (.aload_n 0, 1) := of_decide_eq_true (List.all_eq_true.mp dsX10_wrong_0_ok (7, (.aload_n 0, 1)) (List.mem_of_getElem? (i := 3) rfl))
theorem dX10_wrong_8 : decode cX10_wrong 8 = .ok (.getfield 15, 3) := of_decide_eq_true (List.all_eq_true.mp dsX10_wrong_0_ok (8, (.getfield 15, 3)) (List.mem_of_getElem? (i := 4) rfl))
theorem dX10_wrong_11 : decode cX10_wrong 11 = .ok (.aload_n 0, 1) := of_decide_eq_true (List.all_eq_true.mp dsX10_wrong_0_ok (11, (.aload_n 0, 1)) (List.mem_of_getElem? (i := 5) rfl))
theorem dX10_wrong_12 : decode cX10_wrong 12 = .ok (.getfield 9, 3) := of_decide_eq_true (List.all_eq_true.mp dsX10_wrong_0_ok (12, (.getfield 9, 3)) (List.mem_of_getElem? (i := 6) rfl))
theorem dX10_wrong_15 : decode cX10_wrong 15 = .ok (.if_icmp .ge 47, 3) := of_decide_eq_true (List.all_eq_true.mp dsX10_wrong_0_ok (15, (.if_icmp .ge 47, 3)) (List.mem_of_getElem? (i := 7) rfl))
theorem dX10_wrong_18 : decode cX10_wrong 18 = .ok (.aload_n 0, 1) := of_decide_eq_true (List.all_eq_true.mp dsX10_wrong_0_ok (18, (.aload_n 0, 1)) (List.mem_of_getElem? (i := 8) rfl))
theorem dX10_wrong_19 : decode cX10_wrong 19 = .ok (.iconst 1, 1) := of_decide_eq_true (List.all_eq_true.mp dsX10_wrong_0_ok (19, (.iconst 1, 1)) (List.mem_of_getElem? (i := 9) rfl))
theorem dX10_wrong_20 : decode cX10_wrong 20 = .ok (.putfield 18, 3) := of_decide_eq_true (List.all_eq_true.mp dsX10_wrong_0_ok (20, (.putfield 18, 3)) (List.mem_of_getElem? (i := 10) rfl))
theorem dX10_wrong_23 : decode cX10_wrong 23 = .ok (.aload_n 0, 1) := of_decide_eq_true (List.all_eq_true.mp dsX10_wrong_0_ok (23, (.aload_n 0, 1)) (List.mem_of_getElem? (i := 11) rfl))
theorem dX10_wrong_24 : decode cX10_wrong 24 = .ok (.aload_n 0, 1) := of_decide_eq_true (List.all_eq_true.mp dsX10_wrong_0_ok (24, (.aload_n 0, 1)) (List.mem_of_getElem? (i := 12) rfl))
theorem dX10_wrong_25 : decode cX10_wrong 25 = .ok (.getfield 33, 3) := of_decide_eq_true (List.all_eq_true.mp dsX10_wrong_0_ok (25, (.getfield 33, 3)) (List.mem_of_getElem? (i := 13) rfl))
theorem dX10_wrong_28 : decode cX10_wrong 28 = .ok (.aload_n 0, 1) := of_decide_eq_true (List.all_eq_true.mp dsX10_wrong_0_ok (28, (.aload_n 0, 1)) (List.mem_of_getElem? (i := 14) rfl))
theorem dX10_wrong_29 : decode cX10_wrong 29 = .ok (.getfield 15, 3) := of_decide_eq_true (List.all_eq_true.mp dsX10_wrong_0_ok (29, (.getfield 15, 3)) (List.mem_of_getElem? (i := 15) rfl))
theorem dX10_wrong_32 : decode cX10_wrong 32 = .ok (.iaload, 1) := of_decide_eq_true (List.all_eq_true.mp dsX10_wrong_0_ok (32, (.iaload, 1)) (List.mem_of_getElem? (i := 16) rfl))
theorem dX10_wrong_33 : decode cX10_wrong 33 = .ok (.bipush (-2), 2) := of_decide_eq_true (List.all_eq_true.mp dsX10_wrong_0_ok (33, (.bipush (-2), 2)) (List.mem_of_getElem? (i := 17) rfl))
theorem dX10_wrong_35 : decode cX10_wrong 35 = .ok (.if_icmp .ne 15, 3) := of_decide_eq_true (List.all_eq_true.mp dsX10_wrong_0_ok (35, (.if_icmp .ne 15, 3)) (List.mem_of_getElem? (i := 18) rfl))
theorem dX10_wrong_38 : decode cX10_wrong 38 = .ok (.aload_n 0, 1) := of_decide_eq_true (List.all_eq_true.mp dsX10_wrong_0_ok (38, (.aload_n 0, 1)) (List.mem_of_getElem? (i := 19) rfl))
theorem dX10_wrong_39 : decode cX10_wrong 39 = .ok (.getfield 40, 3) := of_decide_eq_true (List.all_eq_true.mp dsX10_wrong_0_ok (39, (.getfield 40, 3)) (List.mem_of_getElem? (i := 20) rfl))
theorem dX10_wrong_42 : decode cX10_wrong 42 = .ok (.aload_n 0, 1) := of_decide_eq_true (List.all_eq_true.mp dsX10_wrong_0_ok (42, (.aload_n 0, 1)) (List.mem_of_getElem? (i := 21) rfl))
theorem dX10_wrong_43 : decode cX10_wrong 43 = .ok (.getfield 15, 3) := of_decide_eq_true (List.all_eq_true.mp dsX10_wrong_0_ok (43, (.getfield 15, 3)) (List.mem_of_getElem? (i := 22) rfl))
theorem dX10_wrong_46 : decode cX10_wrong 46 = .ok (.iaload, 1) := of_decide_eq_true (List.all_eq_true.mp dsX10_wrong_0_ok (46, (.iaload, 1)) (List.mem_of_getElem? (i := 23) rfl))
theorem dX10_wrong_47 : decode cX10_wrong 47 = .ok (.goto 12, 3) := of_decide_eq_true (List.all_eq_true.mp dsX10_wrong_0_ok (47, (.goto 12, 3)) (List.mem_of_getElem? (i := 24) rfl))
theorem dX10_wrong_50 : decode cX10_wrong 50 = .ok (.aload_n 0, 1) := of_decide_eq_true (List.all_eq_true.mp dsX10_wrong_0_ok (50, (.aload_n 0, 1)) (List.mem_of_getElem? (i := 25) rfl))
theorem dX10_wrong_51 : decode cX10_wrong 51 = .ok (.getfield 37, 3) := of_decide_eq_true (List.all_eq_true.mp dsX10_wrong_0_ok (51, (.getfield 37, 3)) (List.mem_of_getElem? (i := 26) rfl))
theorem dX10_wrong_54 : decode cX10_wrong 54 = .ok (.aload_n 0, 1) := of_decide_eq_true (List.all_eq_true.mp dsX10_wrong_0_ok (54, (.aload_n 0, 1)) (List.mem_of_getElem? (i := 27) rfl))
theorem dX10_wrong_55 : decode cX10_wrong 55 = .ok (.getfield 15, 3) := of_decide_eq_true (List.all_eq_true.mp dsX10_wrong_0_ok (55, (.getfield 15, 3)) (List.mem_of_getElem? (i := 28) rfl))
theorem dX10_wrong_58 : decode cX10_wrong 58 = .ok (.iaload, 1) := of_decide_eq_true (List.all_eq_true.mp dsX10_wrong_0_ok (58, (.iaload, 1)) (List.mem_of_getElem? (i := 29) rfl))
theorem dX10_wrong_59 : decode cX10_wrong 59 = .ok (.putfield 21, 3) := of_decide_eq_true (List.all_eq_true.mp dsX10_wrong_0_ok (59, (.putfield 21, 3)) (List.mem_of_getElem? (i := 30) rfl))
theorem dX10_wrong_62 : decode cX10_wrong 62 = .ok (.return_, 1) := of_decide_eq_true (List.all_eq_true.mp dsX10_wrong_0_ok (62, (.return_, 1)) (List.mem_of_getElem? (i := 31) rfl))
def fX10_wrong (N : Nat) (txI : Nat → Int32) (tx_kindsF : Nat → Int32) (tx_startsF : Nat → Int32) (tx_valuesF : Nat → Int32) (tx_kindsN : Nat) (tx_startsN : Nat) (tx_valuesN : Nat)  : Option ((Nat → Int32)) :=
  (if (txI 6) = 0 then (if (txI 4) ≤ (txI 5) then some txI else (xq_bd (xq_ald tx_kindsN tx_kindsF (txI 5)) fun v_1 => (if v_1 = ((-2)) then (xq_bd (xq_ald tx_valuesN tx_valuesF (txI 5)) fun v_3 => some ((va_up (va_up txI 6 1) 7 v_3))) else (xq_bd (xq_ald tx_startsN tx_startsF (txI 5)) fun v_2 => some ((va_up (va_up txI 6 1) 7 v_2)))))) else some txI)
set_option maxHeartbeats 4000000 in
set_option maxRecDepth 100000 in
theorem kX10_wrong (l : Launch) (dC : Nat → ClassId) (dI : Nat → Nat → Nat) (cI cB cJ cZ cM : ClassId) (z : Nat) (ad : Nat → Nat) (N : Nat) (a_p0 : Nat) (txI : Nat → Int32) (txR : Nat → Nat) (tx_kindsF : Nat → Int32) (tx_kindsN : Nat) (tx_startsF : Nat → Int32) (tx_startsN : Nat) (tx_valuesF : Nat → Int32) (tx_valuesN : Nat) {r0 : Nat → Int32} (hf : fX10_wrong N txI tx_kindsF tx_startsF tx_valuesF tx_kindsN tx_startsN tx_valuesN = some r0) : xq_Ct l yX10_wrong wsX10_wrong { frames := 0, cells := 0, slots := 0, locals := 0 } (dC, dI) vwCl (xq_tys cI cB cJ cZ cM) z ad [.ref a_p0] [(a_p0, .inr (10, oX10 txI txR)), ((txR 1), .inl (cI, tx_kindsN, .inl tx_kindsF)), ((txR 2), .inl (cI, tx_startsN, .inl tx_startsF)), ((txR 3), .inl (cI, tx_valuesN, .inl tx_valuesF))] [(a_p0, .inr (10, oX10 r0 txR)), ((txR 1), .inl (cI, tx_kindsN, .inl tx_kindsF)), ((txR 2), .inl (cI, tx_startsN, .inl tx_startsF)), ((txR 3), .inl (cI, tx_valuesN, .inl tx_valuesF))] none := by
  intro sz
  refine Met.ofW (cc := cX10_wrong) (maxL := 1) (ret := none) (by decide) rfl ?_
  intro p e s m args below meth c s₁ B hml hv
  obtain ⟨rfl, hsz, hP, hK, hD0, hE, hz⟩ := hv
  have hx := B.exec
  have hb := B.bytes
  have hr := B.returns
  have hts := atoms_spec (ws := wsX10_wrong) B.pre
  have hown : s.vm.findClass RX10 = some m.cls := findClass_of_methodNamed B.named
  have hlocks := B.notSynchronized
  subst hsz
  have hD := hD0.self (sz := s.heap.size)
  have hN := xq_Env.of hE hz hD0
  generalize hAe : va_A [(a_p0, .inr (10, oX10 txI txR)), ((txR 1), .inl (cI, tx_kindsN, .inl tx_kindsF)), ((txR 2), .inl (cI, tx_startsN, .inl tx_startsF)), ((txR 3), .inl (cI, tx_valuesN, .inl tx_valuesF))] s.heap.size = A at hD hN ⊢
  have hA : ∀ q : Nat, s.heap.size ≤ q → A q := fun q h => by rw [← hAe]; exact Or.inr h
  clear hAe hD0
  have hS : va_S A s.heap s.heap [] := va_S.rf
  have hl := lv_entry ([.ref a_p0]) (n := 1) (Nat.le_of_ble_eq_true rfl)
  rw [lg_entry_eq]
  generalize (lg_sl ([.ref a_p0]) ++ List.replicate (1 - (lg_sl ([.ref a_p0])).length) Slot.unset).toArray = ls at hl ⊢
  have hl : lv_has ls 1 [(0, .ref a_p0)] := hl
  have hw0 := hts (.fieldLink RX10 18 "DistantVoice$Text" "fault" "I") (by decide +kernel)
  have hinX10 : ∀ w ∈ wsX100, w ∈ wsX10_wrong := fun w h => List.mem_cons_of_mem _ (List.mem_append_right _ h)
  have hw2 := hts (.fieldLink RX10 15 "DistantVoice$Text" "current" "I") (by decide +kernel)
  have hw3 := hts (.fieldLink RX10 9 "DistantVoice$Text" "count" "I") (by decide +kernel)
  have hw4 := hts (.fieldLink RX10 33 "DistantVoice$Text" "kinds" "[I") (by decide +kernel)
  have hw5 := hts (.fieldLink RX10 37 "DistantVoice$Text" "starts" "[I") (by decide +kernel)
  have hw6 := hts (.fieldLink RX10 21 "DistantVoice$Text" "faultAt" "I") (by decide +kernel)
  have hw7 := hts (.fieldLink RX10 40 "DistantVoice$Text" "values" "[I") (by decide +kernel)
  unfold fX10_wrong at hf
  refine lv_aload_n hx hb dX10_wrong_0 rfl (lv_at hl 0 rfl) ?_
  refine va_get (D := (dC, dI)) (ci := 10) (v := .int (txI 6)) (C := RX10) (T := TX10) (N := 8) hx hb hts hinX10 hown hK hP 0 rfl rfl 6 (by decide) hw0 (fun _ h9 => h9) rfl dX10_wrong_1 ?_
  refine lv_if_ne (tgt := 62) hx hb dX10_wrong_4 (by decide) (fun c_ => ?_) (fun c_ => ?_)
  · have hf := xq_neg hf c_
    cases hf
    exact xq_vret hx hb hr hlocks hK hP hD hS dX10_wrong_62
  · have hf := xq_pos hf c_
    refine lv_aload_n hx hb dX10_wrong_7 rfl (lv_at hl 0 rfl) ?_
    refine va_get (D := (dC, dI)) (ci := 10) (v := .int (txI 5)) (C := RX10) (T := TX10) (N := 8) hx hb hts hinX10 hown hK hP 0 rfl rfl 5 (by decide) hw2 (fun _ h9 => h9) rfl dX10_wrong_8 ?_
    refine lv_aload_n hx hb dX10_wrong_11 rfl (lv_at hl 0 rfl) ?_
    refine va_get (D := (dC, dI)) (ci := 10) (v := .int (txI 4)) (C := RX10) (T := TX10) (N := 8) hx hb hts hinX10 hown hK hP 0 rfl rfl 4 (by decide) hw3 (fun _ h9 => h9) rfl dX10_wrong_12 ?_
    refine lv_icmp_ge (tgt := 62) hx hb dX10_wrong_15 (by decide) (fun c_ => ?_) (fun c_ => ?_)
    · have hf := xq_pos hf c_
      cases hf
      exact xq_vret hx hb hr hlocks hK hP hD hS dX10_wrong_62
    · have hf := xq_neg hf c_
      refine lv_aload_n hx hb dX10_wrong_18 rfl (lv_at hl 0 rfl) ?_
      refine lv_iconst (v := 1) hx hb dX10_wrong_19 (by decide) ?_
      refine va_put (D := (dC, dI)) (ci := 10) (v := .int 1) (ty := .int) (C := RX10) (T := TX10) (N := 8) hx hb hts hinX10 tyX10 tyX10_ok nmX10 hown hK hP hD hS 0 rfl rfl 6 (by decide) hw0 (fun _ h9 => h9) rfl (by decide +kernel) rfl rfl (Nat.le_of_ble_eq_true rfl) dX10_wrong_20 (fun H locs hP hD hS => ?_)
      have hP : va_P (dC, dI) vwCl [(a_p0, .inr (10, oX10 (va_up txI 6 1) txR)), ((txR 1), .inl (cI, tx_kindsN, .inl tx_kindsF)), ((txR 2), .inl (cI, tx_startsN, .inl tx_startsF)), ((txR 3), .inl (cI, tx_valuesN, .inl tx_valuesF))] H := hP
      have hD : va_D A [(a_p0, .inr (10, oX10 (va_up txI 6 1) txR)), ((txR 1), .inl (cI, tx_kindsN, .inl tx_kindsF)), ((txR 2), .inl (cI, tx_startsN, .inl tx_startsF)), ((txR 3), .inl (cI, tx_valuesN, .inl tx_valuesF))] := hD
      refine lv_aload_n hx hb dX10_wrong_23 rfl (lv_at hl 0 rfl) ?_
      refine lv_aload_n hx hb dX10_wrong_24 rfl (lv_at hl 0 rfl) ?_
      refine va_get (D := (dC, dI)) (ci := 10) (v := .ref ((txR 1))) (C := RX10) (T := TX10) (N := 8) hx hb hts hinX10 hown hK hP 0 rfl rfl 1 (by decide) hw4 (fun _ h9 => h9) rfl dX10_wrong_25 ?_
      refine lv_aload_n hx hb dX10_wrong_28 rfl (lv_at hl 0 rfl) ?_
      refine va_get (D := (dC, dI)) (ci := 10) (v := .int (txI 5)) (C := RX10) (T := TX10) (N := 8) hx hb hts hinX10 hown hK hP 0 rfl rfl 5 (by decide) hw2 (fun _ h9 => h9) rfl dX10_wrong_29 ?_
      refine xq_iald hx hb hK hP 1 0 rfl rfl hf dX10_wrong_32 (fun v_1 hf => ?_)
      refine lv_bipush (v := (-2)) hx hb dX10_wrong_33 (by decide) ?_
      refine lv_icmp_ne (tgt := 50) hx hb dX10_wrong_35 (by decide) (fun c_ => ?_) (fun c_ => ?_)
      · have hf := xq_neg hf c_
        refine lv_aload_n hx hb dX10_wrong_50 rfl (lv_at hl 0 rfl) ?_
        refine va_get (D := (dC, dI)) (ci := 10) (v := .ref ((txR 2))) (C := RX10) (T := TX10) (N := 8) hx hb hts hinX10 hown hK hP 0 rfl rfl 2 (by decide) hw5 (fun _ h9 => h9) rfl dX10_wrong_51 ?_
        refine lv_aload_n hx hb dX10_wrong_54 rfl (lv_at hl 0 rfl) ?_
        refine va_get (D := (dC, dI)) (ci := 10) (v := .int (txI 5)) (C := RX10) (T := TX10) (N := 8) hx hb hts hinX10 hown hK hP 0 rfl rfl 5 (by decide) hw2 (fun _ h9 => h9) rfl dX10_wrong_55 ?_
        refine xq_iald hx hb hK hP 2 0 rfl rfl hf dX10_wrong_58 (fun v_2 hf => ?_)
        refine va_put (D := (dC, dI)) (ci := 10) (v := .int v_2) (ty := .int) (C := RX10) (T := TX10) (N := 8) hx hb hts hinX10 tyX10 tyX10_ok nmX10 hown hK hP hD hS 0 rfl rfl 7 (by decide) hw6 (fun _ h9 => h9) rfl (by decide +kernel) rfl rfl (Nat.le_of_ble_eq_true rfl) dX10_wrong_59 (fun H locs hP hD hS => ?_)
        have hP : va_P (dC, dI) vwCl [(a_p0, .inr (10, oX10 (va_up (va_up txI 6 1) 7 v_2) txR)), ((txR 1), .inl (cI, tx_kindsN, .inl tx_kindsF)), ((txR 2), .inl (cI, tx_startsN, .inl tx_startsF)), ((txR 3), .inl (cI, tx_valuesN, .inl tx_valuesF))] H := hP
        have hD : va_D A [(a_p0, .inr (10, oX10 (va_up (va_up txI 6 1) 7 v_2) txR)), ((txR 1), .inl (cI, tx_kindsN, .inl tx_kindsF)), ((txR 2), .inl (cI, tx_startsN, .inl tx_startsF)), ((txR 3), .inl (cI, tx_valuesN, .inl tx_valuesF))] := hD
        cases hf
        exact xq_vret hx hb hr hlocks hK hP hD hS dX10_wrong_62
      · have hf := xq_pos hf c_
        refine lv_aload_n hx hb dX10_wrong_38 rfl (lv_at hl 0 rfl) ?_
        refine va_get (D := (dC, dI)) (ci := 10) (v := .ref ((txR 3))) (C := RX10) (T := TX10) (N := 8) hx hb hts hinX10 hown hK hP 0 rfl rfl 3 (by decide) hw7 (fun _ h9 => h9) rfl dX10_wrong_39 ?_
        refine lv_aload_n hx hb dX10_wrong_42 rfl (lv_at hl 0 rfl) ?_
        refine va_get (D := (dC, dI)) (ci := 10) (v := .int (txI 5)) (C := RX10) (T := TX10) (N := 8) hx hb hts hinX10 hown hK hP 0 rfl rfl 5 (by decide) hw2 (fun _ h9 => h9) rfl dX10_wrong_43 ?_
        refine xq_iald hx hb hK hP 3 0 rfl rfl hf dX10_wrong_46 (fun v_3 hf => ?_)
        refine lv_goto (tgt := 59) hx hb dX10_wrong_47 (by decide) ?_
        refine va_put (D := (dC, dI)) (ci := 10) (v := .int v_3) (ty := .int) (C := RX10) (T := TX10) (N := 8) hx hb hts hinX10 tyX10 tyX10_ok nmX10 hown hK hP hD hS 0 rfl rfl 7 (by decide) hw6 (fun _ h9 => h9) rfl (by decide +kernel) rfl rfl (Nat.le_of_ble_eq_true rfl) dX10_wrong_59 (fun H locs hP hD hS => ?_)
        have hP : va_P (dC, dI) vwCl [(a_p0, .inr (10, oX10 (va_up (va_up txI 6 1) 7 v_3) txR)), ((txR 1), .inl (cI, tx_kindsN, .inl tx_kindsF)), ((txR 2), .inl (cI, tx_startsN, .inl tx_startsF)), ((txR 3), .inl (cI, tx_valuesN, .inl tx_valuesF))] H := hP
        have hD : va_D A [(a_p0, .inr (10, oX10 (va_up (va_up txI 6 1) 7 v_3) txR)), ((txR 1), .inl (cI, tx_kindsN, .inl tx_kindsF)), ((txR 2), .inl (cI, tx_startsN, .inl tx_startsF)), ((txR 3), .inl (cI, tx_valuesN, .inl tx_valuesF))] := hD
        cases hf
        exact xq_vret hx hb hr hlocks hK hP hD hS dX10_wrong_62
def dsX10_fail_0 : List (Nat × Instr × Nat) := [(0, (.aload_n 0, 1)), (1, (.getfield 18, 3)), (4, (.ifCond .ne 32, 3)), (7, (.aload_n 0, 1)), (8, (.getfield 15, 3)), (11, (.aload_n 0, 1)), (12, (.getfield 9, 3)), (15, (.if_icmp .ge 21, 3)), (18, (.aload_n 0, 1)), (19, (.iload_n 1, 1)), (20, (.putfield 18, 3)), (23, (.aload_n 0, 1)), (24, (.aload_n 0, 1)), (25, (.getfield 37, 3)), (28, (.aload_n 0, 1)), (29, (.getfield 15, 3)), (32, (.iaload, 1)), (33, (.putfield 21, 3)), (36, (.return_, 1))]
theorem dsX10_fail_0_ok : (dsX10_fail_0.all fun q => decide (decode cX10_fail q.1 = .ok q.2)) = true := by decide +kernel
theorem dX10_fail_0 : decode cX10_fail 0 = .ok (.aload_n 0, 1) := of_decide_eq_true (List.all_eq_true.mp dsX10_fail_0_ok (0, (.aload_n 0, 1)) (List.mem_of_getElem? (i := 0) rfl))
theorem dX10_fail_1 : decode cX10_fail 1 = .ok (.getfield 18, 3) := of_decide_eq_true (List.all_eq_true.mp dsX10_fail_0_ok (1, (.getfield 18, 3)) (List.mem_of_getElem? (i := 1) rfl))
theorem dX10_fail_4 : decode cX10_fail 4 = .ok (.ifCond .ne 32, 3) := of_decide_eq_true (List.all_eq_true.mp dsX10_fail_0_ok (4, (.ifCond .ne 32, 3)) (List.mem_of_getElem? (i := 2) rfl))
theorem dX10_fail_7 : decode cX10_fail 7 = .ok (.aload_n 0, 1) := of_decide_eq_true (List.all_eq_true.mp dsX10_fail_0_ok (7, (.aload_n 0, 1)) (List.mem_of_getElem? (i := 3) rfl))
theorem dX10_fail_8 : decode cX10_fail 8 = .ok (.getfield 15, 3) := of_decide_eq_true (List.all_eq_true.mp dsX10_fail_0_ok (8, (.getfield 15, 3)) (List.mem_of_getElem? (i := 4) rfl))
theorem dX10_fail_11 : decode cX10_fail 11 = .ok (.aload_n 0, 1) := of_decide_eq_true (List.all_eq_true.mp dsX10_fail_0_ok (11, (.aload_n 0, 1)) (List.mem_of_getElem? (i := 5) rfl))
theorem dX10_fail_12 : decode cX10_fail 12 = .ok (.getfield 9, 3) := of_decide_eq_true (List.all_eq_true.mp dsX10_fail_0_ok (12, (.getfield 9, 3)) (List.mem_of_getElem? (i := 6) rfl))
theorem dX10_fail_15 : decode cX10_fail 15 = .ok (.if_icmp .ge 21, 3) := of_decide_eq_true (List.all_eq_true.mp dsX10_fail_0_ok (15, (.if_icmp .ge 21, 3)) (List.mem_of_getElem? (i := 7) rfl))
theorem dX10_fail_18 : decode cX10_fail 18 = .ok (.aload_n 0, 1) := of_decide_eq_true (List.all_eq_true.mp dsX10_fail_0_ok (18, (.aload_n 0, 1)) (List.mem_of_getElem? (i := 8) rfl))
theorem dX10_fail_19 : decode cX10_fail 19 = .ok (.iload_n 1, 1) := of_decide_eq_true (List.all_eq_true.mp dsX10_fail_0_ok (19, (.iload_n 1, 1)) (List.mem_of_getElem? (i := 9) rfl))
theorem dX10_fail_20 : decode cX10_fail 20 = .ok (.putfield 18, 3) := of_decide_eq_true (List.all_eq_true.mp dsX10_fail_0_ok (20, (.putfield 18, 3)) (List.mem_of_getElem? (i := 10) rfl))
theorem dX10_fail_23 : decode cX10_fail 23 = .ok (.aload_n 0, 1) := of_decide_eq_true (List.all_eq_true.mp dsX10_fail_0_ok (23, (.aload_n 0, 1)) (List.mem_of_getElem? (i := 11) rfl))
theorem dX10_fail_24 : decode cX10_fail 24 = .ok (.aload_n 0, 1) := of_decide_eq_true (List.all_eq_true.mp dsX10_fail_0_ok (24, (.aload_n 0, 1)) (List.mem_of_getElem? (i := 12) rfl))
theorem dX10_fail_25 : decode cX10_fail 25 = .ok (.getfield 37, 3) := of_decide_eq_true (List.all_eq_true.mp dsX10_fail_0_ok (25, (.getfield 37, 3)) (List.mem_of_getElem? (i := 13) rfl))
theorem dX10_fail_28 : decode cX10_fail 28 = .ok (.aload_n 0, 1) := of_decide_eq_true (List.all_eq_true.mp dsX10_fail_0_ok (28, (.aload_n 0, 1)) (List.mem_of_getElem? (i := 14) rfl))
theorem dX10_fail_29 : decode cX10_fail 29 = .ok (.getfield 15, 3) := of_decide_eq_true (List.all_eq_true.mp dsX10_fail_0_ok (29, (.getfield 15, 3)) (List.mem_of_getElem? (i := 15) rfl))
theorem dX10_fail_32 : decode cX10_fail 32 = .ok (.iaload, 1) := of_decide_eq_true (List.all_eq_true.mp dsX10_fail_0_ok (32, (.iaload, 1)) (List.mem_of_getElem? (i := 16) rfl))
theorem dX10_fail_33 : decode cX10_fail 33 = .ok (.putfield 21, 3) := of_decide_eq_true (List.all_eq_true.mp dsX10_fail_0_ok (33, (.putfield 21, 3)) (List.mem_of_getElem? (i := 17) rfl))
theorem dX10_fail_36 : decode cX10_fail 36 = .ok (.return_, 1) := of_decide_eq_true (List.all_eq_true.mp dsX10_fail_0_ok (36, (.return_, 1)) (List.mem_of_getElem? (i := 18) rfl))
def fX10_fail (N : Nat) (txI : Nat → Int32) (tx_startsF : Nat → Int32) (tx_startsN : Nat) (p1 : Int32) : Option ((Nat → Int32)) :=
  (if (txI 6) = 0 then (if (txI 4) ≤ (txI 5) then some txI else (xq_bd (xq_ald tx_startsN tx_startsF (txI 5)) fun v_1 => some ((va_up (va_up txI 6 p1) 7 v_1)))) else some txI)
set_option maxHeartbeats 4000000 in
set_option maxRecDepth 100000 in
theorem kX10_fail (l : Launch) (dC : Nat → ClassId) (dI : Nat → Nat → Nat) (cI cB cJ cZ cM : ClassId) (z : Nat) (ad : Nat → Nat) (N : Nat) (a_p0 : Nat) (txI : Nat → Int32) (txR : Nat → Nat) (tx_startsF : Nat → Int32) (tx_startsN : Nat) (p1 : Int32) {r0 : Nat → Int32} (hf : fX10_fail N txI tx_startsF tx_startsN p1 = some r0) : xq_Ct l yX10_fail wsX10_fail { frames := 0, cells := 0, slots := 0, locals := 0 } (dC, dI) vwCl (xq_tys cI cB cJ cZ cM) z ad [.ref a_p0, .int p1] [(a_p0, .inr (10, oX10 txI txR)), ((txR 2), .inl (cI, tx_startsN, .inl tx_startsF))] [(a_p0, .inr (10, oX10 r0 txR)), ((txR 2), .inl (cI, tx_startsN, .inl tx_startsF))] none := by
  intro sz
  refine Met.ofW (cc := cX10_fail) (maxL := 2) (ret := none) (by decide) rfl ?_
  intro p e s m args below meth c s₁ B hml hv
  obtain ⟨rfl, hsz, hP, hK, hD0, hE, hz⟩ := hv
  have hx := B.exec
  have hb := B.bytes
  have hr := B.returns
  have hts := atoms_spec (ws := wsX10_fail) B.pre
  have hown : s.vm.findClass RX10 = some m.cls := findClass_of_methodNamed B.named
  have hlocks := B.notSynchronized
  subst hsz
  have hD := hD0.self (sz := s.heap.size)
  have hN := xq_Env.of hE hz hD0
  generalize hAe : va_A [(a_p0, .inr (10, oX10 txI txR)), ((txR 2), .inl (cI, tx_startsN, .inl tx_startsF))] s.heap.size = A at hD hN ⊢
  have hA : ∀ q : Nat, s.heap.size ≤ q → A q := fun q h => by rw [← hAe]; exact Or.inr h
  clear hAe hD0
  have hS : va_S A s.heap s.heap [] := va_S.rf
  have hl := lv_entry ([.ref a_p0, .int p1]) (n := 2) (Nat.le_of_ble_eq_true rfl)
  rw [lg_entry_eq]
  generalize (lg_sl ([.ref a_p0, .int p1]) ++ List.replicate (2 - (lg_sl ([.ref a_p0, .int p1])).length) Slot.unset).toArray = ls at hl ⊢
  have hl : lv_has ls 2 [(0, .ref a_p0), (1, .int p1)] := hl
  have hw0 := hts (.fieldLink RX10 18 "DistantVoice$Text" "fault" "I") (by decide +kernel)
  have hinX10 : ∀ w ∈ wsX100, w ∈ wsX10_fail := fun w h => List.mem_cons_of_mem _ (List.mem_append_right _ h)
  have hw2 := hts (.fieldLink RX10 15 "DistantVoice$Text" "current" "I") (by decide +kernel)
  have hw3 := hts (.fieldLink RX10 9 "DistantVoice$Text" "count" "I") (by decide +kernel)
  have hw4 := hts (.fieldLink RX10 37 "DistantVoice$Text" "starts" "[I") (by decide +kernel)
  have hw5 := hts (.fieldLink RX10 21 "DistantVoice$Text" "faultAt" "I") (by decide +kernel)
  unfold fX10_fail at hf
  refine lv_aload_n hx hb dX10_fail_0 rfl (lv_at hl 0 rfl) ?_
  refine va_get (D := (dC, dI)) (ci := 10) (v := .int (txI 6)) (C := RX10) (T := TX10) (N := 8) hx hb hts hinX10 hown hK hP 0 rfl rfl 6 (by decide) hw0 (fun _ h9 => h9) rfl dX10_fail_1 ?_
  refine lv_if_ne (tgt := 36) hx hb dX10_fail_4 (by decide) (fun c_ => ?_) (fun c_ => ?_)
  · have hf := xq_neg hf c_
    cases hf
    exact xq_vret hx hb hr hlocks hK hP hD hS dX10_fail_36
  · have hf := xq_pos hf c_
    refine lv_aload_n hx hb dX10_fail_7 rfl (lv_at hl 0 rfl) ?_
    refine va_get (D := (dC, dI)) (ci := 10) (v := .int (txI 5)) (C := RX10) (T := TX10) (N := 8) hx hb hts hinX10 hown hK hP 0 rfl rfl 5 (by decide) hw2 (fun _ h9 => h9) rfl dX10_fail_8 ?_
    refine lv_aload_n hx hb dX10_fail_11 rfl (lv_at hl 0 rfl) ?_
    refine va_get (D := (dC, dI)) (ci := 10) (v := .int (txI 4)) (C := RX10) (T := TX10) (N := 8) hx hb hts hinX10 hown hK hP 0 rfl rfl 4 (by decide) hw3 (fun _ h9 => h9) rfl dX10_fail_12 ?_
    refine lv_icmp_ge (tgt := 36) hx hb dX10_fail_15 (by decide) (fun c_ => ?_) (fun c_ => ?_)
    · have hf := xq_pos hf c_
      cases hf
      exact xq_vret hx hb hr hlocks hK hP hD hS dX10_fail_36
    · have hf := xq_neg hf c_
      refine lv_aload_n hx hb dX10_fail_18 rfl (lv_at hl 0 rfl) ?_
      refine lv_iload_n hx hb dX10_fail_19 rfl (lv_at hl 1 rfl) ?_
      refine va_put (D := (dC, dI)) (ci := 10) (v := .int p1) (ty := .int) (C := RX10) (T := TX10) (N := 8) hx hb hts hinX10 tyX10 tyX10_ok nmX10 hown hK hP hD hS 0 rfl rfl 6 (by decide) hw0 (fun _ h9 => h9) rfl (by decide +kernel) rfl rfl (Nat.le_of_ble_eq_true rfl) dX10_fail_20 (fun H locs hP hD hS => ?_)
      have hP : va_P (dC, dI) vwCl [(a_p0, .inr (10, oX10 (va_up txI 6 p1) txR)), ((txR 2), .inl (cI, tx_startsN, .inl tx_startsF))] H := hP
      have hD : va_D A [(a_p0, .inr (10, oX10 (va_up txI 6 p1) txR)), ((txR 2), .inl (cI, tx_startsN, .inl tx_startsF))] := hD
      refine lv_aload_n hx hb dX10_fail_23 rfl (lv_at hl 0 rfl) ?_
      refine lv_aload_n hx hb dX10_fail_24 rfl (lv_at hl 0 rfl) ?_
      refine va_get (D := (dC, dI)) (ci := 10) (v := .ref ((txR 2))) (C := RX10) (T := TX10) (N := 8) hx hb hts hinX10 hown hK hP 0 rfl rfl 2 (by decide) hw4 (fun _ h9 => h9) rfl dX10_fail_25 ?_
      refine lv_aload_n hx hb dX10_fail_28 rfl (lv_at hl 0 rfl) ?_
      refine va_get (D := (dC, dI)) (ci := 10) (v := .int (txI 5)) (C := RX10) (T := TX10) (N := 8) hx hb hts hinX10 hown hK hP 0 rfl rfl 5 (by decide) hw2 (fun _ h9 => h9) rfl dX10_fail_29 ?_
      refine xq_iald hx hb hK hP 1 0 rfl rfl hf dX10_fail_32 (fun v_1 hf => ?_)
      refine va_put (D := (dC, dI)) (ci := 10) (v := .int v_1) (ty := .int) (C := RX10) (T := TX10) (N := 8) hx hb hts hinX10 tyX10 tyX10_ok nmX10 hown hK hP hD hS 0 rfl rfl 7 (by decide) hw5 (fun _ h9 => h9) rfl (by decide +kernel) rfl rfl (Nat.le_of_ble_eq_true rfl) dX10_fail_33 (fun H locs hP hD hS => ?_)
      have hP : va_P (dC, dI) vwCl [(a_p0, .inr (10, oX10 (va_up (va_up txI 6 p1) 7 v_1) txR)), ((txR 2), .inl (cI, tx_startsN, .inl tx_startsF))] H := hP
      have hD : va_D A [(a_p0, .inr (10, oX10 (va_up (va_up txI 6 p1) 7 v_1) txR)), ((txR 2), .inl (cI, tx_startsN, .inl tx_startsF))] := hD
      cases hf
      exact xq_vret hx hb hr hlocks hK hP hD hS dX10_fail_36
set_option maxRecDepth 20000 in
theorem ggX10_take_X10_piece : GoodIn wsX10_take wsX10_piece := goodIn_r _ [5, 6, 7, 8, 9, 21, 22, 23, 24, 25, 26, 27, 28] rfl (by decide +kernel)
set_option maxRecDepth 20000 in
theorem gX10_take_X10_piece : GoodIn wsX10_take (wsV RX10 99 RX10 yX10_piece wsX10_piece) := goodIn_app (goodIn_of _ (by decide +kernel)) ggX10_take_X10_piece
set_option maxRecDepth 20000 in
theorem ggX10_take_X10_next : GoodIn wsX10_take wsX10_next := goodIn_r _ [13, 7, 8, 21, 22, 23, 24, 25, 26, 27, 28] rfl (by decide +kernel)
set_option maxRecDepth 20000 in
theorem gX10_take_X10_next : GoodIn wsX10_take (wsV RX10 102 RX10 yX10_next wsX10_next) := goodIn_app (goodIn_of _ (by decide +kernel)) ggX10_take_X10_next
set_option maxRecDepth 20000 in
theorem ggX10_take_X10_wrong : GoodIn wsX10_take wsX10_wrong := goodIn_r _ [17, 6, 7, 8, 9, 18, 19, 20, 21, 22, 23, 24, 25, 26, 27, 28] rfl (by decide +kernel)
set_option maxRecDepth 20000 in
theorem gX10_take_X10_wrong : GoodIn wsX10_take (wsV RX10 105 RX10 yX10_wrong wsX10_wrong) := goodIn_app (goodIn_of _ (by decide +kernel)) ggX10_take_X10_wrong
def dsX10_take_0 : List (Nat × Instr × Nat) := [(0, (.aload_n 0, 1)), (1, (.invokevirtual 99, 3)), (4, (.iload_n 1, 1)), (5, (.if_icmp .ne 10, 3)), (8, (.aload_n 0, 1)), (9, (.invokevirtual 102, 3)), (12, (.goto 7, 3)), (15, (.aload_n 0, 1)), (16, (.invokevirtual 105, 3)), (19, (.return_, 1))]
theorem dsX10_take_0_ok : (dsX10_take_0.all fun q => decide (decode cX10_take q.1 = .ok q.2)) = true := by decide +kernel
theorem dX10_take_0 : decode cX10_take 0 = .ok (.aload_n 0, 1) := of_decide_eq_true (List.all_eq_true.mp dsX10_take_0_ok (0, (.aload_n 0, 1)) (List.mem_of_getElem? (i := 0) rfl))
theorem dX10_take_1 : decode cX10_take 1 = .ok (.invokevirtual 99, 3) := of_decide_eq_true (List.all_eq_true.mp dsX10_take_0_ok (1, (.invokevirtual 99, 3)) (List.mem_of_getElem? (i := 1) rfl))
theorem dX10_take_4 : decode cX10_take 4 = .ok (.iload_n 1, 1) := of_decide_eq_true (List.all_eq_true.mp dsX10_take_0_ok (4, (.iload_n 1, 1)) (List.mem_of_getElem? (i := 2) rfl))
theorem dX10_take_5 : decode cX10_take 5 = .ok (.if_icmp .ne 10, 3) := of_decide_eq_true (List.all_eq_true.mp dsX10_take_0_ok (5, (.if_icmp .ne 10, 3)) (List.mem_of_getElem? (i := 3) rfl))
theorem dX10_take_8 : decode cX10_take 8 = .ok (.aload_n 0, 1) := of_decide_eq_true (List.all_eq_true.mp dsX10_take_0_ok (8, (.aload_n 0, 1)) (List.mem_of_getElem? (i := 4) rfl))
theorem dX10_take_9 : decode cX10_take 9 = .ok (.invokevirtual 102, 3) := of_decide_eq_true (List.all_eq_true.mp dsX10_take_0_ok (9, (.invokevirtual 102, 3)) (List.mem_of_getElem? (i := 5) rfl))
theorem dX10_take_12 : decode cX10_take 12 = .ok (.goto 7, 3) := of_decide_eq_true (List.all_eq_true.mp dsX10_take_0_ok (12, (.goto 7, 3)) (List.mem_of_getElem? (i := 6) rfl))
theorem dX10_take_15 : decode cX10_take 15 = .ok (.aload_n 0, 1) := of_decide_eq_true (List.all_eq_true.mp dsX10_take_0_ok (15, (.aload_n 0, 1)) (List.mem_of_getElem? (i := 7) rfl))
theorem dX10_take_16 : decode cX10_take 16 = .ok (.invokevirtual 105, 3) := of_decide_eq_true (List.all_eq_true.mp dsX10_take_0_ok (16, (.invokevirtual 105, 3)) (List.mem_of_getElem? (i := 8) rfl))
theorem dX10_take_19 : decode cX10_take 19 = .ok (.return_, 1) := of_decide_eq_true (List.all_eq_true.mp dsX10_take_0_ok (19, (.return_, 1)) (List.mem_of_getElem? (i := 9) rfl))
def fX10_take (N : Nat) (txI : Nat → Int32) (tx_kindsF : Nat → Int32) (tx_startsF : Nat → Int32) (tx_valuesF : Nat → Int32) (tx_kindsN : Nat) (tx_startsN : Nat) (tx_valuesN : Nat) (p1 : Int32) : Option ((Nat → Int32)) :=
  (xq_bd (fX10_piece N txI tx_kindsF tx_kindsN) fun r_1 => (if r_1 = p1 then (xq_bd (fX10_next N txI) fun r_5 => some r_5) else (xq_bd (fX10_wrong N txI tx_kindsF tx_startsF tx_valuesF tx_kindsN tx_startsN tx_valuesN) fun r_3 => some r_3)))
set_option maxHeartbeats 4000000 in
set_option maxRecDepth 100000 in
theorem kX10_take (l : Launch) (dC : Nat → ClassId) (dI : Nat → Nat → Nat) (cI cB cJ cZ cM : ClassId) (z : Nat) (ad : Nat → Nat) (N : Nat) (a_p0 : Nat) (txI : Nat → Int32) (txR : Nat → Nat) (tx_kindsF : Nat → Int32) (tx_kindsN : Nat) (tx_startsF : Nat → Int32) (tx_startsN : Nat) (tx_valuesF : Nat → Int32) (tx_valuesN : Nat) (p1 : Int32) {r0 : Nat → Int32} (hf : fX10_take N txI tx_kindsF tx_startsF tx_valuesF tx_kindsN tx_startsN tx_valuesN p1 = some r0) : xq_Ct l yX10_take wsX10_take { frames := 1, cells := 0, slots := 0, locals := 20 } (dC, dI) vwCl (xq_tys cI cB cJ cZ cM) z ad [.ref a_p0, .int p1] [(a_p0, .inr (10, oX10 txI txR)), ((txR 1), .inl (cI, tx_kindsN, .inl tx_kindsF)), ((txR 2), .inl (cI, tx_startsN, .inl tx_startsF)), ((txR 3), .inl (cI, tx_valuesN, .inl tx_valuesF))] [(a_p0, .inr (10, oX10 r0 txR)), ((txR 1), .inl (cI, tx_kindsN, .inl tx_kindsF)), ((txR 2), .inl (cI, tx_startsN, .inl tx_startsF)), ((txR 3), .inl (cI, tx_valuesN, .inl tx_valuesF))] none := by
  intro sz
  refine Met.ofW (cc := cX10_take) (maxL := 2) (ret := none) (by decide) rfl ?_
  intro p e s m args below meth c s₁ B hml hv
  obtain ⟨rfl, hsz, hP, hK, hD0, hE, hz⟩ := hv
  have hx := B.exec
  have hb := B.bytes
  have hr := B.returns
  have hts := atoms_spec (ws := wsX10_take) B.pre
  have hown : s.vm.findClass RX10 = some m.cls := findClass_of_methodNamed B.named
  have hlocks := B.notSynchronized
  subst hsz
  have hD := hD0.self (sz := s.heap.size)
  have hN := xq_Env.of hE hz hD0
  generalize hAe : va_A [(a_p0, .inr (10, oX10 txI txR)), ((txR 1), .inl (cI, tx_kindsN, .inl tx_kindsF)), ((txR 2), .inl (cI, tx_startsN, .inl tx_startsF)), ((txR 3), .inl (cI, tx_valuesN, .inl tx_valuesF))] s.heap.size = A at hD hN ⊢
  have hA : ∀ q : Nat, s.heap.size ≤ q → A q := fun q h => by rw [← hAe]; exact Or.inr h
  clear hAe hD0
  have hS : va_S A s.heap s.heap [] := va_S.rf
  have hl := lv_entry ([.ref a_p0, .int p1]) (n := 2) (Nat.le_of_ble_eq_true rfl)
  rw [lg_entry_eq]
  generalize (lg_sl ([.ref a_p0, .int p1]) ++ List.replicate (2 - (lg_sl ([.ref a_p0, .int p1])).length) Slot.unset).toArray = ls at hl ⊢
  have hl : lv_has ls 2 [(0, .ref a_p0), (1, .int p1)] := hl
  unfold fX10_take at hf
  refine lv_aload_n hx hb dX10_take_0 rfl (lv_at hl 0 rfl) ?_
  obtain ⟨r_1, h_2, hf⟩ := xq_bd_some hf
  refine xq_callV (As := []) (rest := []) (ci := 10) (q0 := 0) ⟨hx, hb, hml, hown, hts⟩ (kX10_piece l dC dI cI cB cJ cZ cM z ad N a_p0 txI txR tx_kindsF tx_kindsN h_2) (cwV 0 hts gX10_take_X10_piece rfl rfl rfl (by decide +kernel) ⟨Nat.le_of_ble_eq_true rfl, Nat.le_of_ble_eq_true rfl⟩) hN hK hP hD hS hA [0, 1] (by decide) rfl rfl rfl rfl rfl rfl hl.1 rfl (Nat.le_of_ble_eq_true rfl) dX10_take_1 ⟨Nat.zero_le _, Nat.zero_le _⟩ (fun H locs hP hD hS => ?_)
  have hP : va_P (dC, dI) vwCl [(a_p0, .inr (10, oX10 txI txR)), ((txR 1), .inl (cI, tx_kindsN, .inl tx_kindsF)), ((txR 2), .inl (cI, tx_startsN, .inl tx_startsF)), ((txR 3), .inl (cI, tx_valuesN, .inl tx_valuesF))] H := hP
  have hD : va_D A [(a_p0, .inr (10, oX10 txI txR)), ((txR 1), .inl (cI, tx_kindsN, .inl tx_kindsF)), ((txR 2), .inl (cI, tx_startsN, .inl tx_startsF)), ((txR 3), .inl (cI, tx_valuesN, .inl tx_valuesF))] := hD
  refine W.eq (g2 := F0 m 4 ls [.int r_1]) rfl ?_
  refine lv_iload_n hx hb dX10_take_4 rfl (lv_at hl 1 rfl) ?_
  refine lv_icmp_ne (tgt := 15) hx hb dX10_take_5 (by decide) (fun c_ => ?_) (fun c_ => ?_)
  · have hf := xq_neg hf c_
    refine lv_aload_n hx hb dX10_take_15 rfl (lv_at hl 0 rfl) ?_
    obtain ⟨r_3, h_4, hf⟩ := xq_bd_some hf
    refine xq_callV (As := []) (rest := []) (ci := 10) (q0 := 0) ⟨hx, hb, hml, hown, hts⟩ (kX10_wrong l dC dI cI cB cJ cZ cM z ad N a_p0 txI txR tx_kindsF tx_kindsN tx_startsF tx_startsN tx_valuesF tx_valuesN h_4) (cwV 0 hts gX10_take_X10_wrong rfl rfl rfl (by decide +kernel) ⟨Nat.le_of_ble_eq_true rfl, Nat.le_of_ble_eq_true rfl⟩) hN hK hP hD hS hA [0, 1, 2, 3] (by decide) rfl rfl rfl rfl rfl rfl hl.1 rfl (Nat.le_of_ble_eq_true rfl) dX10_take_16 ⟨Nat.zero_le _, Nat.zero_le _⟩ (fun H locs hP hD hS => ?_)
    have hP : va_P (dC, dI) vwCl [(a_p0, .inr (10, oX10 r_3 txR)), ((txR 1), .inl (cI, tx_kindsN, .inl tx_kindsF)), ((txR 2), .inl (cI, tx_startsN, .inl tx_startsF)), ((txR 3), .inl (cI, tx_valuesN, .inl tx_valuesF))] H := hP
    have hD : va_D A [(a_p0, .inr (10, oX10 r_3 txR)), ((txR 1), .inl (cI, tx_kindsN, .inl tx_kindsF)), ((txR 2), .inl (cI, tx_startsN, .inl tx_startsF)), ((txR 3), .inl (cI, tx_valuesN, .inl tx_valuesF))] := hD
    refine W.eq (g2 := F0 m 19 ls []) rfl ?_
    cases hf
    exact xq_vret hx hb hr hlocks hK hP hD hS dX10_take_19
  · have hf := xq_pos hf c_
    refine lv_aload_n hx hb dX10_take_8 rfl (lv_at hl 0 rfl) ?_
    obtain ⟨r_5, h_6, hf⟩ := xq_bd_some hf
    refine xq_callV (As := []) (rest := []) (ci := 10) (q0 := 0) ⟨hx, hb, hml, hown, hts⟩ (kX10_next l dC dI cI cB cJ cZ cM z ad N a_p0 txI txR h_6) (cwV 0 hts gX10_take_X10_next rfl rfl rfl (by decide +kernel) ⟨Nat.le_of_ble_eq_true rfl, Nat.le_of_ble_eq_true rfl⟩) hN hK hP hD hS hA [0] (by decide) rfl rfl rfl rfl rfl rfl hl.1 rfl (Nat.le_of_ble_eq_true rfl) dX10_take_9 ⟨Nat.zero_le _, Nat.zero_le _⟩ (fun H locs hP hD hS => ?_)
    have hP : va_P (dC, dI) vwCl [(a_p0, .inr (10, oX10 r_5 txR)), ((txR 1), .inl (cI, tx_kindsN, .inl tx_kindsF)), ((txR 2), .inl (cI, tx_startsN, .inl tx_startsF)), ((txR 3), .inl (cI, tx_valuesN, .inl tx_valuesF))] H := hP
    have hD : va_D A [(a_p0, .inr (10, oX10 r_5 txR)), ((txR 1), .inl (cI, tx_kindsN, .inl tx_kindsF)), ((txR 2), .inl (cI, tx_startsN, .inl tx_startsF)), ((txR 3), .inl (cI, tx_valuesN, .inl tx_valuesF))] := hD
    refine W.eq (g2 := F0 m 12 ls []) rfl ?_
    refine lv_goto (tgt := 19) hx hb dX10_take_12 (by decide) ?_
    cases hf
    exact xq_vret hx hb hr hlocks hK hP hD hS dX10_take_19
def dsX1_isVariable_0 : List (Nat × Instr × Nat) := [(0, (.iload_n 1, 1)), (1, (.tableswitch 125 302 316 #[75, 125, 125, 93, 93, 125, 125, 109, 125, 125, 125, 75, 77, 77, 93], 75)), (76, (.iconst 1, 1)), (77, (.ireturn, 1)), (78, (.aload_n 0, 1)), (79, (.getfield 18, 3)), (82, (.sipush 310, 3)), (85, (.if_icmp .ne 7, 3)), (88, (.iconst 1, 1)), (89, (.goto 4, 3)), (92, (.iconst 0, 1)), (93, (.ireturn, 1)), (94, (.aload_n 0, 1)), (95, (.getfield 18, 3)), (98, (.sipush 311, 3)), (101, (.if_icmp .ne 7, 3)), (104, (.iconst 1, 1)), (105, (.goto 4, 3)), (108, (.iconst 0, 1)), (109, (.ireturn, 1)), (110, (.aload_n 0, 1)), (111, (.getfield 18, 3)), (114, (.sipush 312, 3)), (117, (.if_icmp .ne 7, 3)), (120, (.iconst 1, 1)), (121, (.goto 4, 3)), (124, (.iconst 0, 1)), (125, (.ireturn, 1)), (126, (.iconst 0, 1)), (127, (.ireturn, 1))]
theorem dsX1_isVariable_0_ok : (dsX1_isVariable_0.all fun q => decide (decode cX1_isVariable q.1 = .ok q.2)) = true := by decide +kernel
theorem dX1_isVariable_0 : decode cX1_isVariable 0 = .ok (.iload_n 1, 1) := of_decide_eq_true (List.all_eq_true.mp dsX1_isVariable_0_ok (0, (.iload_n 1, 1)) (List.mem_of_getElem? (i := 0) rfl))
theorem dX1_isVariable_1 : decode cX1_isVariable 1 = .ok (.tableswitch 125 302 316 #[75, 125, 125, 93, 93, 125, 125, 109, 125, 125, 125, 75, 77, 77, 93], 75) := of_decide_eq_true (List.all_eq_true.mp dsX1_isVariable_0_ok (1, (.tableswitch 125 302 316 #[75, 125, 125, 93, 93, 125, 125, 109, 125, 125, 125, 75, 77, 77, 93], 75)) (List.mem_of_getElem? (i := 1) rfl))
theorem dX1_isVariable_76 : decode cX1_isVariable 76 = .ok (.iconst 1, 1) := of_decide_eq_true (List.all_eq_true.mp dsX1_isVariable_0_ok (76, (.iconst 1, 1)) (List.mem_of_getElem? (i := 2) rfl))
theorem dX1_isVariable_77 : decode cX1_isVariable 77 = .ok (.ireturn, 1) := of_decide_eq_true (List.all_eq_true.mp dsX1_isVariable_0_ok (77, (.ireturn, 1)) (List.mem_of_getElem? (i := 3) rfl))
theorem dX1_isVariable_78 : decode cX1_isVariable 78 = .ok (.aload_n 0, 1) := of_decide_eq_true (List.all_eq_true.mp dsX1_isVariable_0_ok (78, (.aload_n 0, 1)) (List.mem_of_getElem? (i := 4) rfl))
theorem dX1_isVariable_79 : decode cX1_isVariable 79 = .ok (.getfield 18, 3) := of_decide_eq_true (List.all_eq_true.mp dsX1_isVariable_0_ok (79, (.getfield 18, 3)) (List.mem_of_getElem? (i := 5) rfl))
theorem dX1_isVariable_82 : decode cX1_isVariable 82 = .ok (.sipush 310, 3) := of_decide_eq_true (List.all_eq_true.mp dsX1_isVariable_0_ok (82, (.sipush 310, 3)) (List.mem_of_getElem? (i := 6) rfl))
theorem dX1_isVariable_85 : decode cX1_isVariable 85 = .ok (.if_icmp .ne 7, 3) := of_decide_eq_true (List.all_eq_true.mp dsX1_isVariable_0_ok (85, (.if_icmp .ne 7, 3)) (List.mem_of_getElem? (i := 7) rfl))
theorem dX1_isVariable_88 : decode cX1_isVariable 88 = .ok (.iconst 1, 1) := of_decide_eq_true (List.all_eq_true.mp dsX1_isVariable_0_ok (88, (.iconst 1, 1)) (List.mem_of_getElem? (i := 8) rfl))
theorem dX1_isVariable_89 : decode cX1_isVariable 89 = .ok (.goto 4, 3) := of_decide_eq_true (List.all_eq_true.mp dsX1_isVariable_0_ok (89, (.goto 4, 3)) (List.mem_of_getElem? (i := 9) rfl))
theorem dX1_isVariable_92 : decode cX1_isVariable 92 = .ok (.iconst 0, 1) := of_decide_eq_true (List.all_eq_true.mp dsX1_isVariable_0_ok (92, (.iconst 0, 1)) (List.mem_of_getElem? (i := 10) rfl))
theorem dX1_isVariable_93 : decode cX1_isVariable 93 = .ok (.ireturn, 1) := of_decide_eq_true (List.all_eq_true.mp dsX1_isVariable_0_ok (93, (.ireturn, 1)) (List.mem_of_getElem? (i := 11) rfl))
theorem dX1_isVariable_94 : decode cX1_isVariable 94 = .ok (.aload_n 0, 1) := of_decide_eq_true (List.all_eq_true.mp dsX1_isVariable_0_ok (94, (.aload_n 0, 1)) (List.mem_of_getElem? (i := 12) rfl))
theorem dX1_isVariable_95 : decode cX1_isVariable 95 = .ok (.getfield 18, 3) := of_decide_eq_true (List.all_eq_true.mp dsX1_isVariable_0_ok (95, (.getfield 18, 3)) (List.mem_of_getElem? (i := 13) rfl))
theorem dX1_isVariable_98 : decode cX1_isVariable 98 = .ok (.sipush 311, 3) := of_decide_eq_true (List.all_eq_true.mp dsX1_isVariable_0_ok (98, (.sipush 311, 3)) (List.mem_of_getElem? (i := 14) rfl))
theorem dX1_isVariable_101 : decode cX1_isVariable 101 = .ok (.if_icmp .ne 7, 3) := of_decide_eq_true (List.all_eq_true.mp dsX1_isVariable_0_ok (101, (.if_icmp .ne 7, 3)) (List.mem_of_getElem? (i := 15) rfl))
theorem dX1_isVariable_104 : decode cX1_isVariable 104 = .ok (.iconst 1, 1) := of_decide_eq_true (List.all_eq_true.mp dsX1_isVariable_0_ok (104, (.iconst 1, 1)) (List.mem_of_getElem? (i := 16) rfl))
theorem dX1_isVariable_105 : decode cX1_isVariable 105 = .ok (.goto 4, 3) := of_decide_eq_true (List.all_eq_true.mp dsX1_isVariable_0_ok (105, (.goto 4, 3)) (List.mem_of_getElem? (i := 17) rfl))
theorem dX1_isVariable_108 : decode cX1_isVariable 108 = .ok (.iconst 0, 1) := of_decide_eq_true (List.all_eq_true.mp dsX1_isVariable_0_ok (108, (.iconst 0, 1)) (List.mem_of_getElem? (i := 18) rfl))
theorem dX1_isVariable_109 : decode cX1_isVariable 109 = .ok (.ireturn, 1) := of_decide_eq_true (List.all_eq_true.mp dsX1_isVariable_0_ok (109, (.ireturn, 1)) (List.mem_of_getElem? (i := 19) rfl))
theorem dX1_isVariable_110 : decode cX1_isVariable 110 = .ok (.aload_n 0, 1) := of_decide_eq_true (List.all_eq_true.mp dsX1_isVariable_0_ok (110, (.aload_n 0, 1)) (List.mem_of_getElem? (i := 20) rfl))
theorem dX1_isVariable_111 : decode cX1_isVariable 111 = .ok (.getfield 18, 3) := of_decide_eq_true (List.all_eq_true.mp dsX1_isVariable_0_ok (111, (.getfield 18, 3)) (List.mem_of_getElem? (i := 21) rfl))
theorem dX1_isVariable_114 : decode cX1_isVariable 114 = .ok (.sipush 312, 3) := of_decide_eq_true (List.all_eq_true.mp dsX1_isVariable_0_ok (114, (.sipush 312, 3)) (List.mem_of_getElem? (i := 22) rfl))
theorem dX1_isVariable_117 : decode cX1_isVariable 117 = .ok (.if_icmp .ne 7, 3) := of_decide_eq_true (List.all_eq_true.mp dsX1_isVariable_0_ok (117, (.if_icmp .ne 7, 3)) (List.mem_of_getElem? (i := 23) rfl))
theorem dX1_isVariable_120 : decode cX1_isVariable 120 = .ok (.iconst 1, 1) := of_decide_eq_true (List.all_eq_true.mp dsX1_isVariable_0_ok (120, (.iconst 1, 1)) (List.mem_of_getElem? (i := 24) rfl))
theorem dX1_isVariable_121 : decode cX1_isVariable 121 = .ok (.goto 4, 3) := of_decide_eq_true (List.all_eq_true.mp dsX1_isVariable_0_ok (121, (.goto 4, 3)) (List.mem_of_getElem? (i := 25) rfl))
theorem dX1_isVariable_124 : decode cX1_isVariable 124 = .ok (.iconst 0, 1) := of_decide_eq_true (List.all_eq_true.mp dsX1_isVariable_0_ok (124, (.iconst 0, 1)) (List.mem_of_getElem? (i := 26) rfl))
theorem dX1_isVariable_125 : decode cX1_isVariable 125 = .ok (.ireturn, 1) := of_decide_eq_true (List.all_eq_true.mp dsX1_isVariable_0_ok (125, (.ireturn, 1)) (List.mem_of_getElem? (i := 27) rfl))
theorem dX1_isVariable_126 : decode cX1_isVariable 126 = .ok (.iconst 0, 1) := of_decide_eq_true (List.all_eq_true.mp dsX1_isVariable_0_ok (126, (.iconst 0, 1)) (List.mem_of_getElem? (i := 28) rfl))
theorem dX1_isVariable_127 : decode cX1_isVariable 127 = .ok (.ireturn, 1) := of_decide_eq_true (List.all_eq_true.mp dsX1_isVariable_0_ok (127, (.ireturn, 1)) (List.mem_of_getElem? (i := 29) rfl))
def fX1_isVariable (N : Nat) (frI : Nat → Int32)  (p1 : Int32) : Option (Int32) :=
  (if p1 = 302 then some 1 else (if p1 = 303 then some 0 else (if p1 = 304 then some 0 else (if p1 = 305 then (if (frI 4) = 311 then some 1 else some 0) else (if p1 = 306 then (if (frI 4) = 311 then some 1 else some 0) else (if p1 = 307 then some 0 else (if p1 = 308 then some 0 else (if p1 = 309 then (if (frI 4) = 312 then some 1 else some 0) else (if p1 = 310 then some 0 else (if p1 = 311 then some 0 else (if p1 = 312 then some 0 else (if p1 = 313 then some 1 else (if p1 = 314 then (if (frI 4) = 310 then some 1 else some 0) else (if p1 = 315 then (if (frI 4) = 310 then some 1 else some 0) else (if p1 = 316 then (if (frI 4) = 311 then some 1 else some 0) else some 0)))))))))))))))
set_option maxHeartbeats 4000000 in
set_option maxRecDepth 100000 in
theorem kX1_isVariable (l : Launch) (dC : Nat → ClassId) (dI : Nat → Nat → Nat) (cI cB cJ cZ cM : ClassId) (z : Nat) (ad : Nat → Nat) (N : Nat) (a_p0 : Nat) (frI : Nat → Int32) (frR : Nat → Nat) (p1 : Int32) {r0 : Int32} (hf : fX1_isVariable N frI p1 = some r0) : xq_Ct l yX1_isVariable wsX1_isVariable { frames := 0, cells := 0, slots := 0, locals := 0 } (dC, dI) vwCl (xq_tys cI cB cJ cZ cM) z ad [.ref a_p0, .int p1] [(a_p0, .inr (1, oX1 frI frR))] [(a_p0, .inr (1, oX1 frI frR))] (some (.int r0)) := by
  intro sz
  refine Met.ofW (cc := cX1_isVariable) (maxL := 2) (ret := (some .boolean)) (by decide) rfl ?_
  intro p e s m args below meth c s₁ B hml hv
  obtain ⟨rfl, hsz, hP, hK, hD0, hE, hz⟩ := hv
  have hx := B.exec
  have hb := B.bytes
  have hr := B.returns
  have hts := atoms_spec (ws := wsX1_isVariable) B.pre
  have hown : s.vm.findClass RX1 = some m.cls := findClass_of_methodNamed B.named
  have hlocks := B.notSynchronized
  subst hsz
  have hD := hD0.self (sz := s.heap.size)
  have hN := xq_Env.of hE hz hD0
  generalize hAe : va_A [(a_p0, .inr (1, oX1 frI frR))] s.heap.size = A at hD hN ⊢
  have hA : ∀ q : Nat, s.heap.size ≤ q → A q := fun q h => by rw [← hAe]; exact Or.inr h
  clear hAe hD0
  have hS : va_S A s.heap s.heap [] := va_S.rf
  have hl := lv_entry ([.ref a_p0, .int p1]) (n := 2) (Nat.le_of_ble_eq_true rfl)
  rw [lg_entry_eq]
  generalize (lg_sl ([.ref a_p0, .int p1]) ++ List.replicate (2 - (lg_sl ([.ref a_p0, .int p1])).length) Slot.unset).toArray = ls at hl ⊢
  have hl : lv_has ls 2 [(0, .ref a_p0), (1, .int p1)] := hl
  have hw0 := hts (.fieldLink RX1 18 "DistantVoice$FormulaReader" "subject" "I") (by decide +kernel)
  have hinX1 : ∀ w ∈ wsX10, w ∈ wsX1_isVariable := fun w h => List.mem_cons_of_mem _ (List.mem_append_right _ h)
  unfold fX1_isVariable at hf
  refine lv_iload_n hx hb dX1_isVariable_0 rfl (lv_at hl 1 rfl) ?_
  by_cases c0 : p1 = 302
  · have hf := xq_pos hf c0
    refine lv_tableIn (tgt := 76) hx hb dX1_isVariable_1 (by rw [c0]; decide) (by rw [c0]; decide) (off := 75) (by rw [c0]; decide) (by decide) ?_
    refine lv_iconst (v := 1) hx hb dX1_isVariable_76 (by decide) ?_
    cases hf
    exact xq_zret hx hb hr (by decide +kernel) hlocks hK hP hD hS dX1_isVariable_77
  · have hf := xq_neg hf c0
    by_cases c1 : p1 = 303
    · have hf := xq_pos hf c1
      refine lv_tableIn (tgt := 126) hx hb dX1_isVariable_1 (by rw [c1]; decide) (by rw [c1]; decide) (off := 125) (by rw [c1]; decide) (by decide) ?_
      refine lv_iconst (v := 0) hx hb dX1_isVariable_126 (by decide) ?_
      cases hf
      exact xq_zret hx hb hr (by decide +kernel) hlocks hK hP hD hS dX1_isVariable_127
    · have hf := xq_neg hf c1
      by_cases c2 : p1 = 304
      · have hf := xq_pos hf c2
        refine lv_tableIn (tgt := 126) hx hb dX1_isVariable_1 (by rw [c2]; decide) (by rw [c2]; decide) (off := 125) (by rw [c2]; decide) (by decide) ?_
        refine lv_iconst (v := 0) hx hb dX1_isVariable_126 (by decide) ?_
        cases hf
        exact xq_zret hx hb hr (by decide +kernel) hlocks hK hP hD hS dX1_isVariable_127
      · have hf := xq_neg hf c2
        by_cases c3 : p1 = 305
        · have hf := xq_pos hf c3
          refine lv_tableIn (tgt := 94) hx hb dX1_isVariable_1 (by rw [c3]; decide) (by rw [c3]; decide) (off := 93) (by rw [c3]; decide) (by decide) ?_
          refine lv_aload_n hx hb dX1_isVariable_94 rfl (lv_at hl 0 rfl) ?_
          refine va_get (D := (dC, dI)) (ci := 1) (v := .int (frI 4)) (C := RX1) (T := TX1) (N := 5) hx hb hts hinX1 hown hK hP 0 rfl rfl 4 (by decide) hw0 (fun _ h9 => h9) rfl dX1_isVariable_95 ?_
          refine lv_sipush (v := 311) hx hb dX1_isVariable_98 (by decide) ?_
          refine lv_icmp_ne (tgt := 108) hx hb dX1_isVariable_101 (by decide) (fun c_ => ?_) (fun c_ => ?_)
          · have hf := xq_neg hf c_
            refine lv_iconst (v := 0) hx hb dX1_isVariable_108 (by decide) ?_
            cases hf
            exact xq_zret hx hb hr (by decide +kernel) hlocks hK hP hD hS dX1_isVariable_109
          · have hf := xq_pos hf c_
            refine lv_iconst (v := 1) hx hb dX1_isVariable_104 (by decide) ?_
            refine lv_goto (tgt := 109) hx hb dX1_isVariable_105 (by decide) ?_
            cases hf
            exact xq_zret hx hb hr (by decide +kernel) hlocks hK hP hD hS dX1_isVariable_109
        · have hf := xq_neg hf c3
          by_cases c4 : p1 = 306
          · have hf := xq_pos hf c4
            refine lv_tableIn (tgt := 94) hx hb dX1_isVariable_1 (by rw [c4]; decide) (by rw [c4]; decide) (off := 93) (by rw [c4]; decide) (by decide) ?_
            refine lv_aload_n hx hb dX1_isVariable_94 rfl (lv_at hl 0 rfl) ?_
            refine va_get (D := (dC, dI)) (ci := 1) (v := .int (frI 4)) (C := RX1) (T := TX1) (N := 5) hx hb hts hinX1 hown hK hP 0 rfl rfl 4 (by decide) hw0 (fun _ h9 => h9) rfl dX1_isVariable_95 ?_
            refine lv_sipush (v := 311) hx hb dX1_isVariable_98 (by decide) ?_
            refine lv_icmp_ne (tgt := 108) hx hb dX1_isVariable_101 (by decide) (fun c_ => ?_) (fun c_ => ?_)
            · have hf := xq_neg hf c_
              refine lv_iconst (v := 0) hx hb dX1_isVariable_108 (by decide) ?_
              cases hf
              exact xq_zret hx hb hr (by decide +kernel) hlocks hK hP hD hS dX1_isVariable_109
            · have hf := xq_pos hf c_
              refine lv_iconst (v := 1) hx hb dX1_isVariable_104 (by decide) ?_
              refine lv_goto (tgt := 109) hx hb dX1_isVariable_105 (by decide) ?_
              cases hf
              exact xq_zret hx hb hr (by decide +kernel) hlocks hK hP hD hS dX1_isVariable_109
          · have hf := xq_neg hf c4
            by_cases c5 : p1 = 307
            · have hf := xq_pos hf c5
              refine lv_tableIn (tgt := 126) hx hb dX1_isVariable_1 (by rw [c5]; decide) (by rw [c5]; decide) (off := 125) (by rw [c5]; decide) (by decide) ?_
              refine lv_iconst (v := 0) hx hb dX1_isVariable_126 (by decide) ?_
              cases hf
              exact xq_zret hx hb hr (by decide +kernel) hlocks hK hP hD hS dX1_isVariable_127
            · have hf := xq_neg hf c5
              by_cases c6 : p1 = 308
              · have hf := xq_pos hf c6
                refine lv_tableIn (tgt := 126) hx hb dX1_isVariable_1 (by rw [c6]; decide) (by rw [c6]; decide) (off := 125) (by rw [c6]; decide) (by decide) ?_
                refine lv_iconst (v := 0) hx hb dX1_isVariable_126 (by decide) ?_
                cases hf
                exact xq_zret hx hb hr (by decide +kernel) hlocks hK hP hD hS dX1_isVariable_127
              · have hf := xq_neg hf c6
                by_cases c7 : p1 = 309
                · have hf := xq_pos hf c7
                  refine lv_tableIn (tgt := 110) hx hb dX1_isVariable_1 (by rw [c7]; decide) (by rw [c7]; decide) (off := 109) (by rw [c7]; decide) (by decide) ?_
                  refine lv_aload_n hx hb dX1_isVariable_110 rfl (lv_at hl 0 rfl) ?_
                  refine va_get (D := (dC, dI)) (ci := 1) (v := .int (frI 4)) (C := RX1) (T := TX1) (N := 5) hx hb hts hinX1 hown hK hP 0 rfl rfl 4 (by decide) hw0 (fun _ h9 => h9) rfl dX1_isVariable_111 ?_
                  refine lv_sipush (v := 312) hx hb dX1_isVariable_114 (by decide) ?_
                  refine lv_icmp_ne (tgt := 124) hx hb dX1_isVariable_117 (by decide) (fun c_ => ?_) (fun c_ => ?_)
                  · have hf := xq_neg hf c_
                    refine lv_iconst (v := 0) hx hb dX1_isVariable_124 (by decide) ?_
                    cases hf
                    exact xq_zret hx hb hr (by decide +kernel) hlocks hK hP hD hS dX1_isVariable_125
                  · have hf := xq_pos hf c_
                    refine lv_iconst (v := 1) hx hb dX1_isVariable_120 (by decide) ?_
                    refine lv_goto (tgt := 125) hx hb dX1_isVariable_121 (by decide) ?_
                    cases hf
                    exact xq_zret hx hb hr (by decide +kernel) hlocks hK hP hD hS dX1_isVariable_125
                · have hf := xq_neg hf c7
                  by_cases c8 : p1 = 310
                  · have hf := xq_pos hf c8
                    refine lv_tableIn (tgt := 126) hx hb dX1_isVariable_1 (by rw [c8]; decide) (by rw [c8]; decide) (off := 125) (by rw [c8]; decide) (by decide) ?_
                    refine lv_iconst (v := 0) hx hb dX1_isVariable_126 (by decide) ?_
                    cases hf
                    exact xq_zret hx hb hr (by decide +kernel) hlocks hK hP hD hS dX1_isVariable_127
                  · have hf := xq_neg hf c8
                    by_cases c9 : p1 = 311
                    · have hf := xq_pos hf c9
                      refine lv_tableIn (tgt := 126) hx hb dX1_isVariable_1 (by rw [c9]; decide) (by rw [c9]; decide) (off := 125) (by rw [c9]; decide) (by decide) ?_
                      refine lv_iconst (v := 0) hx hb dX1_isVariable_126 (by decide) ?_
                      cases hf
                      exact xq_zret hx hb hr (by decide +kernel) hlocks hK hP hD hS dX1_isVariable_127
                    · have hf := xq_neg hf c9
                      by_cases c10 : p1 = 312
                      · have hf := xq_pos hf c10
                        refine lv_tableIn (tgt := 126) hx hb dX1_isVariable_1 (by rw [c10]; decide) (by rw [c10]; decide) (off := 125) (by rw [c10]; decide) (by decide) ?_
                        refine lv_iconst (v := 0) hx hb dX1_isVariable_126 (by decide) ?_
                        cases hf
                        exact xq_zret hx hb hr (by decide +kernel) hlocks hK hP hD hS dX1_isVariable_127
                      · have hf := xq_neg hf c10
                        by_cases c11 : p1 = 313
                        · have hf := xq_pos hf c11
                          refine lv_tableIn (tgt := 76) hx hb dX1_isVariable_1 (by rw [c11]; decide) (by rw [c11]; decide) (off := 75) (by rw [c11]; decide) (by decide) ?_
                          refine lv_iconst (v := 1) hx hb dX1_isVariable_76 (by decide) ?_
                          cases hf
                          exact xq_zret hx hb hr (by decide +kernel) hlocks hK hP hD hS dX1_isVariable_77
                        · have hf := xq_neg hf c11
                          by_cases c12 : p1 = 314
                          · have hf := xq_pos hf c12
                            refine lv_tableIn (tgt := 78) hx hb dX1_isVariable_1 (by rw [c12]; decide) (by rw [c12]; decide) (off := 77) (by rw [c12]; decide) (by decide) ?_
                            refine lv_aload_n hx hb dX1_isVariable_78 rfl (lv_at hl 0 rfl) ?_
                            refine va_get (D := (dC, dI)) (ci := 1) (v := .int (frI 4)) (C := RX1) (T := TX1) (N := 5) hx hb hts hinX1 hown hK hP 0 rfl rfl 4 (by decide) hw0 (fun _ h9 => h9) rfl dX1_isVariable_79 ?_
                            refine lv_sipush (v := 310) hx hb dX1_isVariable_82 (by decide) ?_
                            refine lv_icmp_ne (tgt := 92) hx hb dX1_isVariable_85 (by decide) (fun c_ => ?_) (fun c_ => ?_)
                            · have hf := xq_neg hf c_
                              refine lv_iconst (v := 0) hx hb dX1_isVariable_92 (by decide) ?_
                              cases hf
                              exact xq_zret hx hb hr (by decide +kernel) hlocks hK hP hD hS dX1_isVariable_93
                            · have hf := xq_pos hf c_
                              refine lv_iconst (v := 1) hx hb dX1_isVariable_88 (by decide) ?_
                              refine lv_goto (tgt := 93) hx hb dX1_isVariable_89 (by decide) ?_
                              cases hf
                              exact xq_zret hx hb hr (by decide +kernel) hlocks hK hP hD hS dX1_isVariable_93
                          · have hf := xq_neg hf c12
                            by_cases c13 : p1 = 315
                            · have hf := xq_pos hf c13
                              refine lv_tableIn (tgt := 78) hx hb dX1_isVariable_1 (by rw [c13]; decide) (by rw [c13]; decide) (off := 77) (by rw [c13]; decide) (by decide) ?_
                              refine lv_aload_n hx hb dX1_isVariable_78 rfl (lv_at hl 0 rfl) ?_
                              refine va_get (D := (dC, dI)) (ci := 1) (v := .int (frI 4)) (C := RX1) (T := TX1) (N := 5) hx hb hts hinX1 hown hK hP 0 rfl rfl 4 (by decide) hw0 (fun _ h9 => h9) rfl dX1_isVariable_79 ?_
                              refine lv_sipush (v := 310) hx hb dX1_isVariable_82 (by decide) ?_
                              refine lv_icmp_ne (tgt := 92) hx hb dX1_isVariable_85 (by decide) (fun c_ => ?_) (fun c_ => ?_)
                              · have hf := xq_neg hf c_
                                refine lv_iconst (v := 0) hx hb dX1_isVariable_92 (by decide) ?_
                                cases hf
                                exact xq_zret hx hb hr (by decide +kernel) hlocks hK hP hD hS dX1_isVariable_93
                              · have hf := xq_pos hf c_
                                refine lv_iconst (v := 1) hx hb dX1_isVariable_88 (by decide) ?_
                                refine lv_goto (tgt := 93) hx hb dX1_isVariable_89 (by decide) ?_
                                cases hf
                                exact xq_zret hx hb hr (by decide +kernel) hlocks hK hP hD hS dX1_isVariable_93
                            · have hf := xq_neg hf c13
                              by_cases c14 : p1 = 316
                              · have hf := xq_pos hf c14
                                refine lv_tableIn (tgt := 94) hx hb dX1_isVariable_1 (by rw [c14]; decide) (by rw [c14]; decide) (off := 93) (by rw [c14]; decide) (by decide) ?_
                                refine lv_aload_n hx hb dX1_isVariable_94 rfl (lv_at hl 0 rfl) ?_
                                refine va_get (D := (dC, dI)) (ci := 1) (v := .int (frI 4)) (C := RX1) (T := TX1) (N := 5) hx hb hts hinX1 hown hK hP 0 rfl rfl 4 (by decide) hw0 (fun _ h9 => h9) rfl dX1_isVariable_95 ?_
                                refine lv_sipush (v := 311) hx hb dX1_isVariable_98 (by decide) ?_
                                refine lv_icmp_ne (tgt := 108) hx hb dX1_isVariable_101 (by decide) (fun c_ => ?_) (fun c_ => ?_)
                                · have hf := xq_neg hf c_
                                  refine lv_iconst (v := 0) hx hb dX1_isVariable_108 (by decide) ?_
                                  cases hf
                                  exact xq_zret hx hb hr (by decide +kernel) hlocks hK hP hD hS dX1_isVariable_109
                                · have hf := xq_pos hf c_
                                  refine lv_iconst (v := 1) hx hb dX1_isVariable_104 (by decide) ?_
                                  refine lv_goto (tgt := 109) hx hb dX1_isVariable_105 (by decide) ?_
                                  cases hf
                                  exact xq_zret hx hb hr (by decide +kernel) hlocks hK hP hD hS dX1_isVariable_109
                              · have hf := xq_neg hf c14
                                have e0 := lv_neT c0 (a := 302) (by decide)
                                have e1 := lv_neT c1 (a := 303) (by decide)
                                have e2 := lv_neT c2 (a := 304) (by decide)
                                have e3 := lv_neT c3 (a := 305) (by decide)
                                have e4 := lv_neT c4 (a := 306) (by decide)
                                have e5 := lv_neT c5 (a := 307) (by decide)
                                have e6 := lv_neT c6 (a := 308) (by decide)
                                have e7 := lv_neT c7 (a := 309) (by decide)
                                have e8 := lv_neT c8 (a := 310) (by decide)
                                have e9 := lv_neT c9 (a := 311) (by decide)
                                have e10 := lv_neT c10 (a := 312) (by decide)
                                have e11 := lv_neT c11 (a := 313) (by decide)
                                have e12 := lv_neT c12 (a := 314) (by decide)
                                have e13 := lv_neT c13 (a := 315) (by decide)
                                have e14 := lv_neT c14 (a := 316) (by decide)
                                refine lv_tableOut (tgt := 126) hx hb dX1_isVariable_1 (by omega) (by decide) ?_
                                refine lv_iconst (v := 0) hx hb dX1_isVariable_126 (by decide) ?_
                                cases hf
                                exact xq_zret hx hb hr (by decide +kernel) hlocks hK hP hD hS dX1_isVariable_127
def dsX1_emit_0 : List (Nat × Instr × Nat) := [(0, (.aload_n 0, 1)), (1, (.getfield 9, 3)), (4, (.aload_n 0, 1)), (5, (.getfield 31, 3)), (8, (.arraylength, 1)), (9, (.if_icmp .ge 23, 3)), (12, (.aload_n 0, 1)), (13, (.getfield 31, 3)), (16, (.aload_n 0, 1)), (17, (.getfield 9, 3)), (20, (.iload_n 1, 1)), (21, (.iastore, 1)), (22, (.aload_n 0, 1)), (23, (.dup, 1)), (24, (.getfield 9, 3)), (27, (.iconst 1, 1)), (28, (.iadd, 1)), (29, (.putfield 9, 3)), (32, (.return_, 1))]
theorem dsX1_emit_0_ok : (dsX1_emit_0.all fun q => decide (decode cX1_emit q.1 = .ok q.2)) = true := by decide +kernel
theorem dX1_emit_0 : decode cX1_emit 0 = .ok (.aload_n 0, 1) := of_decide_eq_true (List.all_eq_true.mp dsX1_emit_0_ok (0, (.aload_n 0, 1)) (List.mem_of_getElem? (i := 0) rfl))
theorem dX1_emit_1 : decode cX1_emit 1 = .ok (.getfield 9, 3) := of_decide_eq_true (List.all_eq_true.mp dsX1_emit_0_ok (1, (.getfield 9, 3)) (List.mem_of_getElem? (i := 1) rfl))
theorem dX1_emit_4 : decode cX1_emit 4 = .ok (.aload_n 0, 1) := of_decide_eq_true (List.all_eq_true.mp dsX1_emit_0_ok (4, (.aload_n 0, 1)) (List.mem_of_getElem? (i := 2) rfl))
theorem dX1_emit_5 : decode cX1_emit 5 = .ok (.getfield 31, 3) := of_decide_eq_true (List.all_eq_true.mp dsX1_emit_0_ok (5, (.getfield 31, 3)) (List.mem_of_getElem? (i := 3) rfl))
theorem dX1_emit_8 : decode cX1_emit 8 = .ok (.arraylength, 1) := of_decide_eq_true (List.all_eq_true.mp dsX1_emit_0_ok (8, (.arraylength, 1)) (List.mem_of_getElem? (i := 4) rfl))
theorem dX1_emit_9 : decode cX1_emit 9 = .ok (.if_icmp .ge 23, 3) := of_decide_eq_true (List.all_eq_true.mp dsX1_emit_0_ok (9, (.if_icmp .ge 23, 3)) (List.mem_of_getElem? (i := 5) rfl))
theorem dX1_emit_12 : decode cX1_emit 12 = .ok (.aload_n 0, 1) := of_decide_eq_true (List.all_eq_true.mp dsX1_emit_0_ok (12, (.aload_n 0, 1)) (List.mem_of_getElem? (i := 6) rfl))
theorem dX1_emit_13 : decode cX1_emit 13 = .ok (.getfield 31, 3) := of_decide_eq_true (List.all_eq_true.mp dsX1_emit_0_ok (13, (.getfield 31, 3)) (List.mem_of_getElem? (i := 7) rfl))
theorem dX1_emit_16 : decode cX1_emit 16 = .ok (.aload_n 0, 1) := of_decide_eq_true (List.all_eq_true.mp dsX1_emit_0_ok (16, (.aload_n 0, 1)) (List.mem_of_getElem? (i := 8) rfl))
theorem dX1_emit_17 : decode cX1_emit 17 = .ok (.getfield 9, 3) := of_decide_eq_true (List.all_eq_true.mp dsX1_emit_0_ok (17, (.getfield 9, 3)) (List.mem_of_getElem? (i := 9) rfl))
theorem dX1_emit_20 : decode cX1_emit 20 = .ok (.iload_n 1, 1) := of_decide_eq_true (List.all_eq_true.mp dsX1_emit_0_ok (20, (.iload_n 1, 1)) (List.mem_of_getElem? (i := 10) rfl))
theorem dX1_emit_21 : decode cX1_emit 21 = .ok (.iastore, 1) := of_decide_eq_true (List.all_eq_true.mp dsX1_emit_0_ok (21, (.iastore, 1)) (List.mem_of_getElem? (i := 11) rfl))
theorem dX1_emit_22 : decode cX1_emit 22 = .ok (.aload_n 0, 1) := of_decide_eq_true (List.all_eq_true.mp dsX1_emit_0_ok (22, (.aload_n 0, 1)) (List.mem_of_getElem? (i := 12) rfl))
theorem dX1_emit_23 : decode cX1_emit 23 = .ok (.dup, 1) := of_decide_eq_true (List.all_eq_true.mp dsX1_emit_0_ok (23, (.dup, 1)) (List.mem_of_getElem? (i := 13) rfl))
theorem dX1_emit_24 : decode cX1_emit 24 = .ok (.getfield 9, 3) := of_decide_eq_true (List.all_eq_true.mp dsX1_emit_0_ok (24, (.getfield 9, 3)) (List.mem_of_getElem? (i := 14) rfl))
theorem dX1_emit_27 : decode cX1_emit 27 = .ok (.iconst 1, 1) := of_decide_eq_true (List.all_eq_true.mp dsX1_emit_0_ok (27, (.iconst 1, 1)) (List.mem_of_getElem? (i := 15) rfl))
theorem dX1_emit_28 : decode cX1_emit 28 = .ok (.iadd, 1) := of_decide_eq_true (List.all_eq_true.mp dsX1_emit_0_ok (28, (.iadd, 1)) (List.mem_of_getElem? (i := 16) rfl))
theorem dX1_emit_29 : decode cX1_emit 29 = .ok (.putfield 9, 3) := of_decide_eq_true (List.all_eq_true.mp dsX1_emit_0_ok (29, (.putfield 9, 3)) (List.mem_of_getElem? (i := 17) rfl))
theorem dX1_emit_32 : decode cX1_emit 32 = .ok (.return_, 1) := of_decide_eq_true (List.all_eq_true.mp dsX1_emit_0_ok (32, (.return_, 1)) (List.mem_of_getElem? (i := 18) rfl))
def fX1_emit (N : Nat) (frI : Nat → Int32) (fr_codeF : Nat → Int32) (fr_codeN : Nat) (p1 : Int32) : Option ((Nat → Int32) × (Nat → Int32)) :=
  (if (nI fr_codeN) ≤ (frI 2) then some ((frI, fr_codeF)) else (xq_bd (xq_ast fr_codeN fr_codeF (frI 2) p1) fun g_1 => some (((va_up frI 2 ((frI 2) + 1)), g_1))))
set_option maxHeartbeats 4000000 in
set_option maxRecDepth 100000 in
theorem kX1_emit (l : Launch) (dC : Nat → ClassId) (dI : Nat → Nat → Nat) (cI cB cJ cZ cM : ClassId) (z : Nat) (ad : Nat → Nat) (N : Nat) (a_p0 : Nat) (frI : Nat → Int32) (frR : Nat → Nat) (fr_codeF : Nat → Int32) (fr_codeN : Nat) (p1 : Int32) {r0 : Nat → Int32} {r1 : Nat → Int32} (hf : fX1_emit N frI fr_codeF fr_codeN p1 = some (r0, r1)) : xq_Ct l yX1_emit wsX1_emit { frames := 0, cells := 0, slots := 0, locals := 0 } (dC, dI) vwCl (xq_tys cI cB cJ cZ cM) z ad [.ref a_p0, .int p1] [(a_p0, .inr (1, oX1 frI frR)), ((frR 1), .inl (cI, fr_codeN, .inl fr_codeF))] [(a_p0, .inr (1, oX1 r0 frR)), ((frR 1), .inl (cI, fr_codeN, .inl r1))] none := by
  intro sz
  refine Met.ofW (cc := cX1_emit) (maxL := 2) (ret := none) (by decide) rfl ?_
  intro p e s m args below meth c s₁ B hml hv
  obtain ⟨rfl, hsz, hP, hK, hD0, hE, hz⟩ := hv
  have hx := B.exec
  have hb := B.bytes
  have hr := B.returns
  have hts := atoms_spec (ws := wsX1_emit) B.pre
  have hown : s.vm.findClass RX1 = some m.cls := findClass_of_methodNamed B.named
  have hlocks := B.notSynchronized
  subst hsz
  have hD := hD0.self (sz := s.heap.size)
  have hN := xq_Env.of hE hz hD0
  generalize hAe : va_A [(a_p0, .inr (1, oX1 frI frR)), ((frR 1), .inl (cI, fr_codeN, .inl fr_codeF))] s.heap.size = A at hD hN ⊢
  have hA : ∀ q : Nat, s.heap.size ≤ q → A q := fun q h => by rw [← hAe]; exact Or.inr h
  clear hAe hD0
  have hS : va_S A s.heap s.heap [] := va_S.rf
  have hl := lv_entry ([.ref a_p0, .int p1]) (n := 2) (Nat.le_of_ble_eq_true rfl)
  rw [lg_entry_eq]
  generalize (lg_sl ([.ref a_p0, .int p1]) ++ List.replicate (2 - (lg_sl ([.ref a_p0, .int p1])).length) Slot.unset).toArray = ls at hl ⊢
  have hl : lv_has ls 2 [(0, .ref a_p0), (1, .int p1)] := hl
  have hw0 := hts (.fieldLink RX1 9 "DistantVoice$FormulaReader" "used" "I") (by decide +kernel)
  have hinX1 : ∀ w ∈ wsX10, w ∈ wsX1_emit := fun w h => List.mem_cons_of_mem _ (List.mem_append_right _ h)
  have hw2 := hts (.fieldLink RX1 31 "DistantVoice$FormulaReader" "code" "[I") (by decide +kernel)
  unfold fX1_emit at hf
  refine lv_aload_n hx hb dX1_emit_0 rfl (lv_at hl 0 rfl) ?_
  refine va_get (D := (dC, dI)) (ci := 1) (v := .int (frI 2)) (C := RX1) (T := TX1) (N := 5) hx hb hts hinX1 hown hK hP 0 rfl rfl 2 (by decide) hw0 (fun _ h9 => h9) rfl dX1_emit_1 ?_
  refine lv_aload_n hx hb dX1_emit_4 rfl (lv_at hl 0 rfl) ?_
  refine va_get (D := (dC, dI)) (ci := 1) (v := .ref ((frR 1))) (C := RX1) (T := TX1) (N := 5) hx hb hts hinX1 hown hK hP 0 rfl rfl 1 (by decide) hw2 (fun _ h9 => h9) rfl dX1_emit_5 ?_
  refine va_alen hx hb hK hP 1 0 (v := nI fr_codeN) rfl rfl rfl dX1_emit_8 ?_
  refine lv_icmp_ge (tgt := 32) hx hb dX1_emit_9 (by decide) (fun c_ => ?_) (fun c_ => ?_)
  · have hf := xq_pos hf c_
    cases hf
    exact xq_vret hx hb hr hlocks hK hP hD hS dX1_emit_32
  · have hf := xq_neg hf c_
    refine lv_aload_n hx hb dX1_emit_12 rfl (lv_at hl 0 rfl) ?_
    refine va_get (D := (dC, dI)) (ci := 1) (v := .ref ((frR 1))) (C := RX1) (T := TX1) (N := 5) hx hb hts hinX1 hown hK hP 0 rfl rfl 1 (by decide) hw2 (fun _ h9 => h9) rfl dX1_emit_13 ?_
    refine lv_aload_n hx hb dX1_emit_16 rfl (lv_at hl 0 rfl) ?_
    refine va_get (D := (dC, dI)) (ci := 1) (v := .int (frI 2)) (C := RX1) (T := TX1) (N := 5) hx hb hts hinX1 hown hK hP 0 rfl rfl 2 (by decide) hw0 (fun _ h9 => h9) rfl dX1_emit_17 ?_
    refine lv_iload_n hx hb dX1_emit_20 rfl (lv_at hl 1 rfl) ?_
    refine xq_iast hx hb hK hP hD hS 1 0 rfl rfl hf dX1_emit_21 (fun g_1 H locs hf hP hD hS => ?_)
    have hP : va_P (dC, dI) vwCl [(a_p0, .inr (1, oX1 frI frR)), ((frR 1), .inl (cI, fr_codeN, .inl g_1))] H := hP
    have hD : va_D A [(a_p0, .inr (1, oX1 frI frR)), ((frR 1), .inl (cI, fr_codeN, .inl g_1))] := hD
    refine lv_aload_n hx hb dX1_emit_22 rfl (lv_at hl 0 rfl) ?_
    refine lv_dup hx hb dX1_emit_23 rfl ?_
    refine va_get (D := (dC, dI)) (ci := 1) (v := .int (frI 2)) (C := RX1) (T := TX1) (N := 5) hx hb hts hinX1 hown hK hP 0 rfl rfl 2 (by decide) hw0 (fun _ h9 => h9) rfl dX1_emit_24 ?_
    refine lv_iconst (v := 1) hx hb dX1_emit_27 (by decide) ?_
    refine lv_iadd hx hb dX1_emit_28 ?_
    refine va_put (D := (dC, dI)) (ci := 1) (v := .int ((frI 2) + 1)) (ty := .int) (C := RX1) (T := TX1) (N := 5) hx hb hts hinX1 tyX1 tyX1_ok nmX1 hown hK hP hD hS 0 rfl rfl 2 (by decide) hw0 (fun _ h9 => h9) rfl (by decide +kernel) rfl rfl (Nat.le_of_ble_eq_true rfl) dX1_emit_29 (fun H locs hP hD hS => ?_)
    have hP : va_P (dC, dI) vwCl [(a_p0, .inr (1, oX1 (va_up frI 2 ((frI 2) + 1)) frR)), ((frR 1), .inl (cI, fr_codeN, .inl g_1))] H := hP
    have hD : va_D A [(a_p0, .inr (1, oX1 (va_up frI 2 ((frI 2) + 1)) frR)), ((frR 1), .inl (cI, fr_codeN, .inl g_1))] := hD
    cases hf
    exact xq_vret hx hb hr hlocks hK hP hD hS dX1_emit_32
set_option maxRecDepth 20000 in
theorem ggX1_readVariable_X1_isVariable : GoodIn wsX1_readVariable wsX1_isVariable := goodIn_r _ [6, 7, 30, 31, 32, 33, 34] rfl (by decide +kernel)
set_option maxRecDepth 20000 in
theorem gX1_readVariable_X1_isVariable : GoodIn wsX1_readVariable (wsV RX1 90 RX1 yX1_isVariable wsX1_isVariable) := goodIn_app (goodIn_of _ (by decide +kernel)) ggX1_readVariable_X1_isVariable
set_option maxRecDepth 20000 in
theorem ggX1_readVariable_X1_emit : GoodIn wsX1_readVariable wsX1_emit := goodIn_r _ [11, 12, 13, 30, 31, 32, 33, 34] rfl (by decide +kernel)
set_option maxRecDepth 20000 in
theorem gX1_readVariable_X1_emit : GoodIn wsX1_readVariable (wsV RX1 56 RX1 yX1_emit wsX1_emit) := goodIn_app (goodIn_of _ (by decide +kernel)) ggX1_readVariable_X1_emit
set_option maxRecDepth 20000 in
theorem ggX1_readVariable_X10_next : GoodIn wsX1_readVariable wsX10_next := goodIn_r _ [18, 19, 20, 35, 36, 37, 38, 39, 40, 41, 42] rfl (by decide +kernel)
set_option maxRecDepth 20000 in
theorem gX1_readVariable_X10_next : GoodIn wsX1_readVariable (wsV RX1 53 RX10 yX10_next wsX10_next) := goodIn_app (goodIn_of _ (by decide +kernel)) ggX1_readVariable_X10_next
set_option maxRecDepth 20000 in
theorem ggX1_readVariable_X10_wrong : GoodIn wsX1_readVariable wsX10_wrong := goodIn_r _ [24, 25, 19, 20, 26, 27, 28, 29, 35, 36, 37, 38, 39, 40, 41, 42] rfl (by decide +kernel)
set_option maxRecDepth 20000 in
theorem gX1_readVariable_X10_wrong : GoodIn wsX1_readVariable (wsV RX1 72 RX10 yX10_wrong wsX10_wrong) := goodIn_app (goodIn_of _ (by decide +kernel)) ggX1_readVariable_X10_wrong
def dsX1_readVariable_0 : List (Nat × Instr × Nat) := [(0, (.aload_n 0, 1)), (1, (.iload_n 1, 1)), (2, (.invokevirtual 90, 3)), (5, (.ifCond .eq 22, 3)), (8, (.aload_n 0, 1)), (9, (.sipush 10000, 3)), (12, (.iload_n 1, 1)), (13, (.iadd, 1)), (14, (.invokevirtual 56, 3)), (17, (.aload_n 0, 1)), (18, (.getfield 21, 3)), (21, (.invokevirtual 53, 3)), (24, (.goto 10, 3)), (27, (.aload_n 0, 1)), (28, (.getfield 21, 3)), (31, (.invokevirtual 72, 3)), (34, (.return_, 1))]
theorem dsX1_readVariable_0_ok : (dsX1_readVariable_0.all fun q => decide (decode cX1_readVariable q.1 = .ok q.2)) = true := by decide +kernel
theorem dX1_readVariable_0 : decode cX1_readVariable 0 = .ok (.aload_n 0, 1) := of_decide_eq_true (List.all_eq_true.mp dsX1_readVariable_0_ok (0, (.aload_n 0, 1)) (List.mem_of_getElem? (i := 0) rfl))
theorem dX1_readVariable_1 : decode cX1_readVariable 1 = .ok (.iload_n 1, 1) := of_decide_eq_true (List.all_eq_true.mp dsX1_readVariable_0_ok (1, (.iload_n 1, 1)) (List.mem_of_getElem? (i := 1) rfl))
theorem dX1_readVariable_2 : decode cX1_readVariable 2 = .ok (.invokevirtual 90, 3) := of_decide_eq_true (List.all_eq_true.mp dsX1_readVariable_0_ok (2, (.invokevirtual 90, 3)) (List.mem_of_getElem? (i := 2) rfl))
theorem dX1_readVariable_5 : decode cX1_readVariable 5 = .ok (.ifCond .eq 22, 3) := of_decide_eq_true (List.all_eq_true.mp dsX1_readVariable_0_ok (5, (.ifCond .eq 22, 3)) (List.mem_of_getElem? (i := 3) rfl))
theorem dX1_readVariable_8 : decode cX1_readVariable 8 = .ok (.aload_n 0, 1) := of_decide_eq_true (List.all_eq_true.mp dsX1_readVariable_0_ok (8, (.aload_n 0, 1)) (List.mem_of_getElem? (i := 4) rfl))
theorem dX1_readVariable_9 : decode cX1_readVariable 9 = .ok (.sipush 10000, 3) := of_decide_eq_true (List.all_eq_true.mp dsX1_readVariable_0_ok (9, (.sipush 10000, 3)) (List.mem_of_getElem? (i := 5) rfl))
theorem dX1_readVariable_12 : decode cX1_readVariable 12 = .ok (.iload_n 1, 1) := of_decide_eq_true (List.all_eq_true.mp dsX1_readVariable_0_ok (12, (.iload_n 1, 1)) (List.mem_of_getElem? (i := 6) rfl))
theorem dX1_readVariable_13 : decode cX1_readVariable 13 = .ok (.iadd, 1) := of_decide_eq_true (List.all_eq_true.mp dsX1_readVariable_0_ok (13, (.iadd, 1)) (List.mem_of_getElem? (i := 7) rfl))
theorem dX1_readVariable_14 : decode cX1_readVariable 14 = .ok (.invokevirtual 56, 3) := of_decide_eq_true (List.all_eq_true.mp dsX1_readVariable_0_ok (14, (.invokevirtual 56, 3)) (List.mem_of_getElem? (i := 8) rfl))
theorem dX1_readVariable_17 : decode cX1_readVariable 17 = .ok (.aload_n 0, 1) := of_decide_eq_true (List.all_eq_true.mp dsX1_readVariable_0_ok (17, (.aload_n 0, 1)) (List.mem_of_getElem? (i := 9) rfl))
theorem dX1_readVariable_18 : decode cX1_readVariable 18 = .ok (.getfield 21, 3) := of_decide_eq_true (List.all_eq_true.mp dsX1_readVariable_0_ok (18, (.getfield 21, 3)) (List.mem_of_getElem? (i := 10) rfl))
theorem dX1_readVariable_21 : decode cX1_readVariable 21 = .ok (.invokevirtual 53, 3) := of_decide_eq_true (List.all_eq_true.mp dsX1_readVariable_0_ok (21, (.invokevirtual 53, 3)) (List.mem_of_getElem? (i := 11) rfl))
theorem dX1_readVariable_24 : decode cX1_readVariable 24 = .ok (.goto 10, 3) := of_decide_eq_true (List.all_eq_true.mp dsX1_readVariable_0_ok (24, (.goto 10, 3)) (List.mem_of_getElem? (i := 12) rfl))
theorem dX1_readVariable_27 : decode cX1_readVariable 27 = .ok (.aload_n 0, 1) := of_decide_eq_true (List.all_eq_true.mp dsX1_readVariable_0_ok (27, (.aload_n 0, 1)) (List.mem_of_getElem? (i := 13) rfl))
theorem dX1_readVariable_28 : decode cX1_readVariable 28 = .ok (.getfield 21, 3) := of_decide_eq_true (List.all_eq_true.mp dsX1_readVariable_0_ok (28, (.getfield 21, 3)) (List.mem_of_getElem? (i := 14) rfl))
theorem dX1_readVariable_31 : decode cX1_readVariable 31 = .ok (.invokevirtual 72, 3) := of_decide_eq_true (List.all_eq_true.mp dsX1_readVariable_0_ok (31, (.invokevirtual 72, 3)) (List.mem_of_getElem? (i := 15) rfl))
theorem dX1_readVariable_34 : decode cX1_readVariable 34 = .ok (.return_, 1) := of_decide_eq_true (List.all_eq_true.mp dsX1_readVariable_0_ok (34, (.return_, 1)) (List.mem_of_getElem? (i := 16) rfl))
def fX1_readVariable (N : Nat) (frI : Nat → Int32) (textI : Nat → Int32) (text_kindsF : Nat → Int32) (text_startsF : Nat → Int32) (text_valuesF : Nat → Int32) (fr_codeF : Nat → Int32) (text_kindsN : Nat) (text_startsN : Nat) (text_valuesN : Nat) (fr_codeN : Nat) (p1 : Int32) : Option ((Nat → Int32) × (Nat → Int32) × (Nat → Int32)) :=
  (xq_bd (fX1_isVariable N frI p1) fun r_1 => (if r_1 = 0 then (xq_bd (fX10_wrong N textI text_kindsF text_startsF text_valuesF text_kindsN text_startsN text_valuesN) fun r_3 => some ((frI, r_3, fr_codeF))) else (xq_bd (fX1_emit N frI fr_codeF fr_codeN (10000 + p1)) fun (r_5_0, r_5_1) => (xq_bd (fX10_next N textI) fun r_7 => some ((r_5_0, r_7, r_5_1))))))
set_option maxHeartbeats 4000000 in
set_option maxRecDepth 100000 in
theorem kX1_readVariable (l : Launch) (dC : Nat → ClassId) (dI : Nat → Nat → Nat) (cI cB cJ cZ cM : ClassId) (z : Nat) (ad : Nat → Nat) (N : Nat) (a_p0 : Nat) (frI : Nat → Int32) (frR : Nat → Nat) (textI : Nat → Int32) (textR : Nat → Nat) (text_kindsF : Nat → Int32) (text_kindsN : Nat) (text_startsF : Nat → Int32) (text_startsN : Nat) (text_valuesF : Nat → Int32) (text_valuesN : Nat) (fr_codeF : Nat → Int32) (fr_codeN : Nat) (p1 : Int32) {r0 : Nat → Int32} {r1 : Nat → Int32} {r2 : Nat → Int32} (hf : fX1_readVariable N frI textI text_kindsF text_startsF text_valuesF fr_codeF text_kindsN text_startsN text_valuesN fr_codeN p1 = some (r0, r1, r2)) : xq_Ct l yX1_readVariable wsX1_readVariable { frames := 1, cells := 0, slots := 0, locals := 21 } (dC, dI) vwCl (xq_tys cI cB cJ cZ cM) z ad [.ref a_p0, .int p1] [(a_p0, .inr (1, oX1 frI frR)), ((frR 0), .inr (10, oX10 textI textR)), ((textR 1), .inl (cI, text_kindsN, .inl text_kindsF)), ((textR 2), .inl (cI, text_startsN, .inl text_startsF)), ((textR 3), .inl (cI, text_valuesN, .inl text_valuesF)), ((frR 1), .inl (cI, fr_codeN, .inl fr_codeF))] [(a_p0, .inr (1, oX1 r0 frR)), ((frR 0), .inr (10, oX10 r1 textR)), ((textR 1), .inl (cI, text_kindsN, .inl text_kindsF)), ((textR 2), .inl (cI, text_startsN, .inl text_startsF)), ((textR 3), .inl (cI, text_valuesN, .inl text_valuesF)), ((frR 1), .inl (cI, fr_codeN, .inl r2))] none := by
  intro sz
  refine Met.ofW (cc := cX1_readVariable) (maxL := 2) (ret := none) (by decide) rfl ?_
  intro p e s m args below meth c s₁ B hml hv
  obtain ⟨rfl, hsz, hP, hK, hD0, hE, hz⟩ := hv
  have hx := B.exec
  have hb := B.bytes
  have hr := B.returns
  have hts := atoms_spec (ws := wsX1_readVariable) B.pre
  have hown : s.vm.findClass RX1 = some m.cls := findClass_of_methodNamed B.named
  have hlocks := B.notSynchronized
  subst hsz
  have hD := hD0.self (sz := s.heap.size)
  have hN := xq_Env.of hE hz hD0
  generalize hAe : va_A [(a_p0, .inr (1, oX1 frI frR)), ((frR 0), .inr (10, oX10 textI textR)), ((textR 1), .inl (cI, text_kindsN, .inl text_kindsF)), ((textR 2), .inl (cI, text_startsN, .inl text_startsF)), ((textR 3), .inl (cI, text_valuesN, .inl text_valuesF)), ((frR 1), .inl (cI, fr_codeN, .inl fr_codeF))] s.heap.size = A at hD hN ⊢
  have hA : ∀ q : Nat, s.heap.size ≤ q → A q := fun q h => by rw [← hAe]; exact Or.inr h
  clear hAe hD0
  have hS : va_S A s.heap s.heap [] := va_S.rf
  have hl := lv_entry ([.ref a_p0, .int p1]) (n := 2) (Nat.le_of_ble_eq_true rfl)
  rw [lg_entry_eq]
  generalize (lg_sl ([.ref a_p0, .int p1]) ++ List.replicate (2 - (lg_sl ([.ref a_p0, .int p1])).length) Slot.unset).toArray = ls at hl ⊢
  have hl : lv_has ls 2 [(0, .ref a_p0), (1, .int p1)] := hl
  have hw0 := hts (.fieldLink RX1 21 "DistantVoice$FormulaReader" "text" "LDistantVoice$Text;") (by decide +kernel)
  have hinX1 : ∀ w ∈ wsX10, w ∈ wsX1_readVariable := fun w h => List.mem_cons_of_mem _ (List.mem_append_left _ (List.mem_append_right _ h))
  unfold fX1_readVariable at hf
  refine lv_aload_n hx hb dX1_readVariable_0 rfl (lv_at hl 0 rfl) ?_
  refine lv_iload_n hx hb dX1_readVariable_1 rfl (lv_at hl 1 rfl) ?_
  obtain ⟨r_1, h_2, hf⟩ := xq_bd_some hf
  refine xq_callV (As := [.int p1]) (rest := []) (ci := 1) (q0 := 0) ⟨hx, hb, hml, hown, hts⟩ (kX1_isVariable l dC dI cI cB cJ cZ cM z ad N a_p0 frI frR p1 h_2) (cwV 1 hts gX1_readVariable_X1_isVariable rfl rfl rfl (by decide +kernel) ⟨Nat.le_of_ble_eq_true rfl, Nat.le_of_ble_eq_true rfl⟩) hN hK hP hD hS hA [0] (by decide) rfl rfl rfl rfl rfl rfl hl.1 rfl (Nat.le_of_ble_eq_true rfl) dX1_readVariable_2 ⟨Nat.zero_le _, Nat.zero_le _⟩ (fun H locs hP hD hS => ?_)
  have hP : va_P (dC, dI) vwCl [(a_p0, .inr (1, oX1 frI frR)), ((frR 0), .inr (10, oX10 textI textR)), ((textR 1), .inl (cI, text_kindsN, .inl text_kindsF)), ((textR 2), .inl (cI, text_startsN, .inl text_startsF)), ((textR 3), .inl (cI, text_valuesN, .inl text_valuesF)), ((frR 1), .inl (cI, fr_codeN, .inl fr_codeF))] H := hP
  have hD : va_D A [(a_p0, .inr (1, oX1 frI frR)), ((frR 0), .inr (10, oX10 textI textR)), ((textR 1), .inl (cI, text_kindsN, .inl text_kindsF)), ((textR 2), .inl (cI, text_startsN, .inl text_startsF)), ((textR 3), .inl (cI, text_valuesN, .inl text_valuesF)), ((frR 1), .inl (cI, fr_codeN, .inl fr_codeF))] := hD
  refine W.eq (g2 := F0 m 5 ls [.int r_1]) rfl ?_
  refine lv_if_eq (tgt := 27) hx hb dX1_readVariable_5 (by decide) (fun c_ => ?_) (fun c_ => ?_)
  · have hf := xq_pos hf c_
    refine lv_aload_n hx hb dX1_readVariable_27 rfl (lv_at hl 0 rfl) ?_
    refine va_get (D := (dC, dI)) (ci := 1) (v := .ref ((frR 0))) (C := RX1) (T := TX1) (N := 5) hx hb hts hinX1 hown hK hP 0 rfl rfl 0 (by decide) hw0 (fun _ h9 => h9) rfl dX1_readVariable_28 ?_
    obtain ⟨r_3, h_4, hf⟩ := xq_bd_some hf
    refine xq_callV (As := []) (rest := []) (ci := 10) (q0 := 1) ⟨hx, hb, hml, hown, hts⟩ (kX10_wrong l dC dI cI cB cJ cZ cM z ad N ((frR 0)) textI textR text_kindsF text_kindsN text_startsF text_startsN text_valuesF text_valuesN h_4) (cwV 0 hts gX1_readVariable_X10_wrong rfl rfl rfl (by decide +kernel) ⟨Nat.le_of_ble_eq_true rfl, Nat.le_of_ble_eq_true rfl⟩) hN hK hP hD hS hA [1, 2, 3, 4] (by decide) rfl rfl rfl rfl rfl rfl hl.1 rfl (Nat.le_of_ble_eq_true rfl) dX1_readVariable_31 ⟨Nat.zero_le _, Nat.zero_le _⟩ (fun H locs hP hD hS => ?_)
    have hP : va_P (dC, dI) vwCl [(a_p0, .inr (1, oX1 frI frR)), ((frR 0), .inr (10, oX10 r_3 textR)), ((textR 1), .inl (cI, text_kindsN, .inl text_kindsF)), ((textR 2), .inl (cI, text_startsN, .inl text_startsF)), ((textR 3), .inl (cI, text_valuesN, .inl text_valuesF)), ((frR 1), .inl (cI, fr_codeN, .inl fr_codeF))] H := hP
    have hD : va_D A [(a_p0, .inr (1, oX1 frI frR)), ((frR 0), .inr (10, oX10 r_3 textR)), ((textR 1), .inl (cI, text_kindsN, .inl text_kindsF)), ((textR 2), .inl (cI, text_startsN, .inl text_startsF)), ((textR 3), .inl (cI, text_valuesN, .inl text_valuesF)), ((frR 1), .inl (cI, fr_codeN, .inl fr_codeF))] := hD
    refine W.eq (g2 := F0 m 34 ls []) rfl ?_
    cases hf
    exact xq_vret hx hb hr hlocks hK hP hD hS dX1_readVariable_34
  · have hf := xq_neg hf c_
    refine lv_aload_n hx hb dX1_readVariable_8 rfl (lv_at hl 0 rfl) ?_
    refine lv_sipush (v := 10000) hx hb dX1_readVariable_9 (by decide) ?_
    refine lv_iload_n hx hb dX1_readVariable_12 rfl (lv_at hl 1 rfl) ?_
    refine lv_iadd hx hb dX1_readVariable_13 ?_
    obtain ⟨⟨r_5_0, r_5_1⟩, h_6, hf⟩ := xq_bd_some hf
    refine xq_callV (As := [.int (10000 + p1)]) (rest := []) (ci := 1) (q0 := 0) ⟨hx, hb, hml, hown, hts⟩ (kX1_emit l dC dI cI cB cJ cZ cM z ad N a_p0 frI frR fr_codeF fr_codeN (10000 + p1) h_6) (cwV 1 hts gX1_readVariable_X1_emit rfl rfl rfl (by decide +kernel) ⟨Nat.le_of_ble_eq_true rfl, Nat.le_of_ble_eq_true rfl⟩) hN hK hP hD hS hA [0, 5] (by decide) rfl rfl rfl rfl rfl rfl hl.1 rfl (Nat.le_of_ble_eq_true rfl) dX1_readVariable_14 ⟨Nat.zero_le _, Nat.zero_le _⟩ (fun H locs hP hD hS => ?_)
    have hP : va_P (dC, dI) vwCl [(a_p0, .inr (1, oX1 r_5_0 frR)), ((frR 0), .inr (10, oX10 textI textR)), ((textR 1), .inl (cI, text_kindsN, .inl text_kindsF)), ((textR 2), .inl (cI, text_startsN, .inl text_startsF)), ((textR 3), .inl (cI, text_valuesN, .inl text_valuesF)), ((frR 1), .inl (cI, fr_codeN, .inl r_5_1))] H := hP
    have hD : va_D A [(a_p0, .inr (1, oX1 r_5_0 frR)), ((frR 0), .inr (10, oX10 textI textR)), ((textR 1), .inl (cI, text_kindsN, .inl text_kindsF)), ((textR 2), .inl (cI, text_startsN, .inl text_startsF)), ((textR 3), .inl (cI, text_valuesN, .inl text_valuesF)), ((frR 1), .inl (cI, fr_codeN, .inl r_5_1))] := hD
    refine W.eq (g2 := F0 m 17 ls []) rfl ?_
    refine lv_aload_n hx hb dX1_readVariable_17 rfl (lv_at hl 0 rfl) ?_
    refine va_get (D := (dC, dI)) (ci := 1) (v := .ref ((frR 0))) (C := RX1) (T := TX1) (N := 5) hx hb hts hinX1 hown hK hP 0 rfl rfl 0 (by decide) hw0 (fun _ h9 => h9) rfl dX1_readVariable_18 ?_
    obtain ⟨r_7, h_8, hf⟩ := xq_bd_some hf
    refine xq_callV (As := []) (rest := []) (ci := 10) (q0 := 1) ⟨hx, hb, hml, hown, hts⟩ (kX10_next l dC dI cI cB cJ cZ cM z ad N ((frR 0)) textI textR h_8) (cwV 0 hts gX1_readVariable_X10_next rfl rfl rfl (by decide +kernel) ⟨Nat.le_of_ble_eq_true rfl, Nat.le_of_ble_eq_true rfl⟩) hN hK hP hD hS hA [1] (by decide) rfl rfl rfl rfl rfl rfl hl.1 rfl (Nat.le_of_ble_eq_true rfl) dX1_readVariable_21 ⟨Nat.zero_le _, Nat.zero_le _⟩ (fun H locs hP hD hS => ?_)
    have hP : va_P (dC, dI) vwCl [(a_p0, .inr (1, oX1 r_5_0 frR)), ((frR 0), .inr (10, oX10 r_7 textR)), ((textR 1), .inl (cI, text_kindsN, .inl text_kindsF)), ((textR 2), .inl (cI, text_startsN, .inl text_startsF)), ((textR 3), .inl (cI, text_valuesN, .inl text_valuesF)), ((frR 1), .inl (cI, fr_codeN, .inl r_5_1))] H := hP
    have hD : va_D A [(a_p0, .inr (1, oX1 r_5_0 frR)), ((frR 0), .inr (10, oX10 r_7 textR)), ((textR 1), .inl (cI, text_kindsN, .inl text_kindsF)), ((textR 2), .inl (cI, text_startsN, .inl text_startsF)), ((textR 3), .inl (cI, text_valuesN, .inl text_valuesF)), ((frR 1), .inl (cI, fr_codeN, .inl r_5_1))] := hD
    refine W.eq (g2 := F0 m 24 ls []) rfl ?_
    refine lv_goto (tgt := 34) hx hb dX1_readVariable_24 (by decide) ?_
    cases hf
    exact xq_vret hx hb hr hlocks hK hP hD hS dX1_readVariable_34
set_option maxRecDepth 20000 in
theorem ggX1_enter_X10_fail : GoodIn wsX1_enter wsX10_fail := goodIn_r _ [7, 8, 9, 10, 11, 12, 22, 23, 24, 25, 26, 27, 28, 29] rfl (by decide +kernel)
set_option maxRecDepth 20000 in
theorem gX1_enter_X10_fail : GoodIn wsX1_enter (wsV RX1 94 RX10 yX10_fail wsX10_fail) := goodIn_app (goodIn_of _ (by decide +kernel)) ggX1_enter_X10_fail
set_option maxRecDepth 20000 in
theorem ggX1_enter_X10_next : GoodIn wsX1_enter wsX10_next := goodIn_r _ [16, 9, 10, 22, 23, 24, 25, 26, 27, 28, 29] rfl (by decide +kernel)
set_option maxRecDepth 20000 in
theorem gX1_enter_X10_next : GoodIn wsX1_enter (wsV RX1 53 RX10 yX10_next wsX10_next) := goodIn_app (goodIn_of _ (by decide +kernel)) ggX1_enter_X10_next
def dsX1_enter_0 : List (Nat × Instr × Nat) := [(0, (.aload_n 0, 1)), (1, (.getfield 15, 3)), (4, (.bipush 7, 2)), (6, (.if_icmp .lt 11, 3)), (9, (.aload_n 0, 1)), (10, (.getfield 21, 3)), (13, (.iconst 5, 1)), (14, (.invokevirtual 94, 3)), (17, (.aload_n 0, 1)), (18, (.dup, 1)), (19, (.getfield 15, 3)), (22, (.iconst 1, 1)), (23, (.iadd, 1)), (24, (.putfield 15, 3)), (27, (.aload_n 0, 1)), (28, (.getfield 21, 3)), (31, (.invokevirtual 53, 3)), (34, (.return_, 1))]
theorem dsX1_enter_0_ok : (dsX1_enter_0.all fun q => decide (decode cX1_enter q.1 = .ok q.2)) = true := by decide +kernel
theorem dX1_enter_0 : decode cX1_enter 0 = .ok (.aload_n 0, 1) := of_decide_eq_true (List.all_eq_true.mp dsX1_enter_0_ok (0, (.aload_n 0, 1)) (List.mem_of_getElem? (i := 0) rfl))
theorem dX1_enter_1 : decode cX1_enter 1 = .ok (.getfield 15, 3) := of_decide_eq_true (List.all_eq_true.mp dsX1_enter_0_ok (1, (.getfield 15, 3)) (List.mem_of_getElem? (i := 1) rfl))
theorem dX1_enter_4 : decode cX1_enter 4 = .ok (.bipush 7, 2) := of_decide_eq_true (List.all_eq_true.mp dsX1_enter_0_ok (4, (.bipush 7, 2)) (List.mem_of_getElem? (i := 2) rfl))
theorem dX1_enter_6 : decode cX1_enter 6 = .ok (.if_icmp .lt 11, 3) := of_decide_eq_true (List.all_eq_true.mp dsX1_enter_0_ok (6, (.if_icmp .lt 11, 3)) (List.mem_of_getElem? (i := 3) rfl))
theorem dX1_enter_9 : decode cX1_enter 9 = .ok (.aload_n 0, 1) := of_decide_eq_true (List.all_eq_true.mp dsX1_enter_0_ok (9, (.aload_n 0, 1)) (List.mem_of_getElem? (i := 4) rfl))
theorem dX1_enter_10 : decode cX1_enter 10 = .ok (.getfield 21, 3) := of_decide_eq_true (List.all_eq_true.mp dsX1_enter_0_ok (10, (.getfield 21, 3)) (List.mem_of_getElem? (i := 5) rfl))
theorem dX1_enter_13 : decode cX1_enter 13 = .ok (.iconst 5, 1) := of_decide_eq_true (List.all_eq_true.mp dsX1_enter_0_ok (13, (.iconst 5, 1)) (List.mem_of_getElem? (i := 6) rfl))
theorem dX1_enter_14 : decode cX1_enter 14 = .ok (.invokevirtual 94, 3) := of_decide_eq_true (List.all_eq_true.mp dsX1_enter_0_ok (14, (.invokevirtual 94, 3)) (List.mem_of_getElem? (i := 7) rfl))
theorem dX1_enter_17 : decode cX1_enter 17 = .ok (.aload_n 0, 1) := of_decide_eq_true (List.all_eq_true.mp dsX1_enter_0_ok (17, (.aload_n 0, 1)) (List.mem_of_getElem? (i := 8) rfl))
theorem dX1_enter_18 : decode cX1_enter 18 = .ok (.dup, 1) := of_decide_eq_true (List.all_eq_true.mp dsX1_enter_0_ok (18, (.dup, 1)) (List.mem_of_getElem? (i := 9) rfl))
theorem dX1_enter_19 : decode cX1_enter 19 = .ok (.getfield 15, 3) := of_decide_eq_true (List.all_eq_true.mp dsX1_enter_0_ok (19, (.getfield 15, 3)) (List.mem_of_getElem? (i := 10) rfl))
theorem dX1_enter_22 : decode cX1_enter 22 = .ok (.iconst 1, 1) := of_decide_eq_true (List.all_eq_true.mp dsX1_enter_0_ok (22, (.iconst 1, 1)) (List.mem_of_getElem? (i := 11) rfl))
theorem dX1_enter_23 : decode cX1_enter 23 = .ok (.iadd, 1) := of_decide_eq_true (List.all_eq_true.mp dsX1_enter_0_ok (23, (.iadd, 1)) (List.mem_of_getElem? (i := 12) rfl))
theorem dX1_enter_24 : decode cX1_enter 24 = .ok (.putfield 15, 3) := of_decide_eq_true (List.all_eq_true.mp dsX1_enter_0_ok (24, (.putfield 15, 3)) (List.mem_of_getElem? (i := 13) rfl))
theorem dX1_enter_27 : decode cX1_enter 27 = .ok (.aload_n 0, 1) := of_decide_eq_true (List.all_eq_true.mp dsX1_enter_0_ok (27, (.aload_n 0, 1)) (List.mem_of_getElem? (i := 14) rfl))
theorem dX1_enter_28 : decode cX1_enter 28 = .ok (.getfield 21, 3) := of_decide_eq_true (List.all_eq_true.mp dsX1_enter_0_ok (28, (.getfield 21, 3)) (List.mem_of_getElem? (i := 15) rfl))
theorem dX1_enter_31 : decode cX1_enter 31 = .ok (.invokevirtual 53, 3) := of_decide_eq_true (List.all_eq_true.mp dsX1_enter_0_ok (31, (.invokevirtual 53, 3)) (List.mem_of_getElem? (i := 16) rfl))
theorem dX1_enter_34 : decode cX1_enter 34 = .ok (.return_, 1) := of_decide_eq_true (List.all_eq_true.mp dsX1_enter_0_ok (34, (.return_, 1)) (List.mem_of_getElem? (i := 17) rfl))
def fX1_enter_b17 (N : Nat) (text_startsF : Nat → Int32) (text_startsN : Nat)  : ((Nat → Int32) × (Nat → Int32)) → Option ((Nat → Int32) × (Nat → Int32)) :=
  fun (frI_17, textI_17) => (xq_bd (fX10_next N textI_17) fun r_1 => some (((va_up frI_17 3 ((frI_17 3) + 1)), r_1)))
def fX1_enter (N : Nat) (frI : Nat → Int32) (textI : Nat → Int32) (text_startsF : Nat → Int32) (text_startsN : Nat)  : Option ((Nat → Int32) × (Nat → Int32)) :=
  (if (frI 3) < 7 then fX1_enter_b17 N text_startsF text_startsN (frI, textI) else (xq_bd (fX10_fail N textI text_startsF text_startsN 5) fun r_1 => fX1_enter_b17 N text_startsF text_startsN (frI, r_1)))
set_option maxHeartbeats 4000000 in
set_option maxRecDepth 100000 in
theorem kX1_enter (l : Launch) (dC : Nat → ClassId) (dI : Nat → Nat → Nat) (cI cB cJ cZ cM : ClassId) (z : Nat) (ad : Nat → Nat) (N : Nat) (a_p0 : Nat) (frI : Nat → Int32) (frR : Nat → Nat) (textI : Nat → Int32) (textR : Nat → Nat) (text_startsF : Nat → Int32) (text_startsN : Nat) {r0 : Nat → Int32} {r1 : Nat → Int32} (hf : fX1_enter N frI textI text_startsF text_startsN = some (r0, r1)) : xq_Ct l yX1_enter wsX1_enter { frames := 1, cells := 0, slots := 0, locals := 21 } (dC, dI) vwCl (xq_tys cI cB cJ cZ cM) z ad [.ref a_p0] [(a_p0, .inr (1, oX1 frI frR)), ((frR 0), .inr (10, oX10 textI textR)), ((textR 2), .inl (cI, text_startsN, .inl text_startsF))] [(a_p0, .inr (1, oX1 r0 frR)), ((frR 0), .inr (10, oX10 r1 textR)), ((textR 2), .inl (cI, text_startsN, .inl text_startsF))] none := by
  intro sz
  refine Met.ofW (cc := cX1_enter) (maxL := 1) (ret := none) (by decide) rfl ?_
  intro p e s m args below meth c s₁ B hml hv
  obtain ⟨rfl, hsz, hP, hK, hD0, hE, hz⟩ := hv
  have hx := B.exec
  have hb := B.bytes
  have hr := B.returns
  have hts := atoms_spec (ws := wsX1_enter) B.pre
  have hown : s.vm.findClass RX1 = some m.cls := findClass_of_methodNamed B.named
  have hlocks := B.notSynchronized
  subst hsz
  have hD := hD0.self (sz := s.heap.size)
  have hN := xq_Env.of hE hz hD0
  generalize hAe : va_A [(a_p0, .inr (1, oX1 frI frR)), ((frR 0), .inr (10, oX10 textI textR)), ((textR 2), .inl (cI, text_startsN, .inl text_startsF))] s.heap.size = A at hD hN ⊢
  have hA : ∀ q : Nat, s.heap.size ≤ q → A q := fun q h => by rw [← hAe]; exact Or.inr h
  clear hAe hD0
  have hS : va_S A s.heap s.heap [] := va_S.rf
  have hl := lv_entry ([.ref a_p0]) (n := 1) (Nat.le_of_ble_eq_true rfl)
  rw [lg_entry_eq]
  generalize (lg_sl ([.ref a_p0]) ++ List.replicate (1 - (lg_sl ([.ref a_p0])).length) Slot.unset).toArray = ls at hl ⊢
  have hl : lv_has ls 1 [(0, .ref a_p0)] := hl
  have hw0 := hts (.fieldLink RX1 15 "DistantVoice$FormulaReader" "open" "I") (by decide +kernel)
  have hinX1 : ∀ w ∈ wsX10, w ∈ wsX1_enter := fun w h => List.mem_cons_of_mem _ (List.mem_append_left _ (List.mem_append_right _ h))
  have hw2 := hts (.fieldLink RX1 21 "DistantVoice$FormulaReader" "text" "LDistantVoice$Text;") (by decide +kernel)
  have b17 : ∀ (frI_17 : Nat → Int32) (textI_17 : Nat → Int32) (ls : Array Slot) (H : Heap) (locs : List Loc), fX1_enter_b17 N text_startsF text_startsN (frI_17, textI_17) = some (r0, r1) → va_P (dC, dI) vwCl [(a_p0, .inr (1, oX1 frI_17 frR)), ((frR 0), .inr (10, oX10 textI_17 textR)), ((textR 2), .inl (cI, text_startsN, .inl text_startsF))] H → va_D A [(a_p0, .inr (1, oX1 frI_17 frR)), ((frR 0), .inr (10, oX10 textI_17 textR)), ((textR 2), .inl (cI, text_startsN, .inl text_startsF))] → va_S A s.heap H locs → lv_has ls 1 [(0, .ref a_p0)] → W p l e (headSpec wsX1_enter { frames := 1, cells := 0, slots := 0, locals := 21 }).room s m [.ref a_p0].toArray below meth c H locs 0 0 (MQ below (xq_Q (dC, dI) vwCl (xq_tys cI cB cJ cZ cM) A [(a_p0, .inr (1, oX1 r0 frR)), ((frR 0), .inr (10, oX10 r1 textR)), ((textR 2), .inl (cI, text_startsN, .inl text_startsF))] none) [.ref a_p0].toArray s 0 0 A) (F0 m 17 ls []) := by
    intro frI_17 textI_17 ls H locs hf hP hD hS hl
    unfold fX1_enter_b17 at hf
    refine lv_aload_n hx hb dX1_enter_17 rfl (lv_at hl 0 rfl) ?_
    refine lv_dup hx hb dX1_enter_18 rfl ?_
    refine va_get (D := (dC, dI)) (ci := 1) (v := .int (frI_17 3)) (C := RX1) (T := TX1) (N := 5) hx hb hts hinX1 hown hK hP 0 rfl rfl 3 (by decide) hw0 (fun _ h9 => h9) rfl dX1_enter_19 ?_
    refine lv_iconst (v := 1) hx hb dX1_enter_22 (by decide) ?_
    refine lv_iadd hx hb dX1_enter_23 ?_
    refine va_put (D := (dC, dI)) (ci := 1) (v := .int ((frI_17 3) + 1)) (ty := .int) (C := RX1) (T := TX1) (N := 5) hx hb hts hinX1 tyX1 tyX1_ok nmX1 hown hK hP hD hS 0 rfl rfl 3 (by decide) hw0 (fun _ h9 => h9) rfl (by decide +kernel) rfl rfl (Nat.le_of_ble_eq_true rfl) dX1_enter_24 (fun H locs hP hD hS => ?_)
    have hP : va_P (dC, dI) vwCl [(a_p0, .inr (1, oX1 (va_up frI_17 3 ((frI_17 3) + 1)) frR)), ((frR 0), .inr (10, oX10 textI_17 textR)), ((textR 2), .inl (cI, text_startsN, .inl text_startsF))] H := hP
    have hD : va_D A [(a_p0, .inr (1, oX1 (va_up frI_17 3 ((frI_17 3) + 1)) frR)), ((frR 0), .inr (10, oX10 textI_17 textR)), ((textR 2), .inl (cI, text_startsN, .inl text_startsF))] := hD
    refine lv_aload_n hx hb dX1_enter_27 rfl (lv_at hl 0 rfl) ?_
    refine va_get (D := (dC, dI)) (ci := 1) (v := .ref ((frR 0))) (C := RX1) (T := TX1) (N := 5) hx hb hts hinX1 hown hK hP 0 rfl rfl 0 (by decide) hw2 (fun _ h9 => h9) rfl dX1_enter_28 ?_
    obtain ⟨r_1, h_2, hf⟩ := xq_bd_some hf
    refine xq_callV (As := []) (rest := []) (ci := 10) (q0 := 1) ⟨hx, hb, hml, hown, hts⟩ (kX10_next l dC dI cI cB cJ cZ cM z ad N ((frR 0)) textI_17 textR h_2) (cwV 0 hts gX1_enter_X10_next rfl rfl rfl (by decide +kernel) ⟨Nat.le_of_ble_eq_true rfl, Nat.le_of_ble_eq_true rfl⟩) hN hK hP hD hS hA [1] (by decide) rfl rfl rfl rfl rfl rfl hl.1 rfl (Nat.le_of_ble_eq_true rfl) dX1_enter_31 ⟨Nat.zero_le _, Nat.zero_le _⟩ (fun H locs hP hD hS => ?_)
    have hP : va_P (dC, dI) vwCl [(a_p0, .inr (1, oX1 (va_up frI_17 3 ((frI_17 3) + 1)) frR)), ((frR 0), .inr (10, oX10 r_1 textR)), ((textR 2), .inl (cI, text_startsN, .inl text_startsF))] H := hP
    have hD : va_D A [(a_p0, .inr (1, oX1 (va_up frI_17 3 ((frI_17 3) + 1)) frR)), ((frR 0), .inr (10, oX10 r_1 textR)), ((textR 2), .inl (cI, text_startsN, .inl text_startsF))] := hD
    refine W.eq (g2 := F0 m 34 ls []) rfl ?_
    cases hf
    exact xq_vret hx hb hr hlocks hK hP hD hS dX1_enter_34
  unfold fX1_enter at hf
  refine lv_aload_n hx hb dX1_enter_0 rfl (lv_at hl 0 rfl) ?_
  refine va_get (D := (dC, dI)) (ci := 1) (v := .int (frI 3)) (C := RX1) (T := TX1) (N := 5) hx hb hts hinX1 hown hK hP 0 rfl rfl 3 (by decide) hw0 (fun _ h9 => h9) rfl dX1_enter_1 ?_
  refine lv_bipush (v := 7) hx hb dX1_enter_4 (by decide) ?_
  refine lv_icmp_lt (tgt := 17) hx hb dX1_enter_6 (by decide) (fun c_ => ?_) (fun c_ => ?_)
  · have hf := xq_pos hf c_
    exact b17 frI textI _ _ _ hf hP hD hS (lv_sub hl [0] rfl)
  · have hf := xq_neg hf c_
    refine lv_aload_n hx hb dX1_enter_9 rfl (lv_at hl 0 rfl) ?_
    refine va_get (D := (dC, dI)) (ci := 1) (v := .ref ((frR 0))) (C := RX1) (T := TX1) (N := 5) hx hb hts hinX1 hown hK hP 0 rfl rfl 0 (by decide) hw2 (fun _ h9 => h9) rfl dX1_enter_10 ?_
    refine lv_iconst (v := 5) hx hb dX1_enter_13 (by decide) ?_
    obtain ⟨r_1, h_2, hf⟩ := xq_bd_some hf
    refine xq_callV (As := [.int 5]) (rest := []) (ci := 10) (q0 := 1) ⟨hx, hb, hml, hown, hts⟩ (kX10_fail l dC dI cI cB cJ cZ cM z ad N ((frR 0)) textI textR text_startsF text_startsN 5 h_2) (cwV 1 hts gX1_enter_X10_fail rfl rfl rfl (by decide +kernel) ⟨Nat.le_of_ble_eq_true rfl, Nat.le_of_ble_eq_true rfl⟩) hN hK hP hD hS hA [1, 2] (by decide) rfl rfl rfl rfl rfl rfl hl.1 rfl (Nat.le_of_ble_eq_true rfl) dX1_enter_14 ⟨Nat.zero_le _, Nat.zero_le _⟩ (fun H locs hP hD hS => ?_)
    have hP : va_P (dC, dI) vwCl [(a_p0, .inr (1, oX1 frI frR)), ((frR 0), .inr (10, oX10 r_1 textR)), ((textR 2), .inl (cI, text_startsN, .inl text_startsF))] H := hP
    have hD : va_D A [(a_p0, .inr (1, oX1 frI frR)), ((frR 0), .inr (10, oX10 r_1 textR)), ((textR 2), .inl (cI, text_startsN, .inl text_startsF))] := hD
    refine W.eq (g2 := F0 m 17 ls []) rfl ?_
    exact b17 frI r_1 _ _ _ hf hP hD hS (lv_sub hl [0] rfl)
set_option maxRecDepth 20000 in
theorem ggX3_readNewName_X10_value : GoodIn wsX3_readNewName wsX10_value := goodIn_r _ [7, 8, 9, 10, 43, 44, 45, 46, 47, 48, 49, 50] rfl (by decide +kernel)
set_option maxRecDepth 20000 in
theorem gX3_readNewName_X10_value : GoodIn wsX3_readNewName (wsV RX3 119 RX10 yX10_value wsX10_value) := goodIn_app (goodIn_of _ (by decide +kernel)) ggX3_readNewName_X10_value
set_option maxRecDepth 20000 in
theorem ggX3_readNewName_X10_piece : GoodIn wsX3_readNewName wsX10_piece := goodIn_r _ [14, 15, 8, 9, 16, 43, 44, 45, 46, 47, 48, 49, 50] rfl (by decide +kernel)
set_option maxRecDepth 20000 in
theorem gX3_readNewName_X10_piece : GoodIn wsX3_readNewName (wsV RX3 51 RX10 yX10_piece wsX10_piece) := goodIn_app (goodIn_of _ (by decide +kernel)) ggX3_readNewName_X10_piece
set_option maxRecDepth 20000 in
theorem ggX3_readNewName_X10_wrong : GoodIn wsX3_readNewName wsX10_wrong := goodIn_r _ [20, 15, 8, 9, 16, 10, 21, 22, 43, 44, 45, 46, 47, 48, 49, 50] rfl (by decide +kernel)
set_option maxRecDepth 20000 in
theorem gX3_readNewName_X10_wrong : GoodIn wsX3_readNewName (wsV RX3 85 RX10 yX10_wrong wsX10_wrong) := goodIn_app (goodIn_of _ (by decide +kernel)) ggX3_readNewName_X10_wrong
set_option maxRecDepth 20000 in
theorem ggX3_readNewName_X2_hasName : GoodIn wsX3_readNewName wsX2_hasName := goodIn_r _ [27, 28, 29, 30, 31, 51, 52, 53, 54, 55, 56, 57, 58, 59, 60, 61, 62, 63, 64, 65, 66, 67, 68, 69] rfl (by decide +kernel)
set_option maxRecDepth 20000 in
theorem gX3_readNewName_X2_hasName : GoodIn wsX3_readNewName (wsV RX3 131 RX2 yX2_hasName wsX2_hasName) := goodIn_app (goodIn_of _ (by decide +kernel)) ggX3_readNewName_X2_hasName
set_option maxRecDepth 20000 in
theorem ggX3_readNewName_X10_fail : GoodIn wsX3_readNewName wsX10_fail := goodIn_r _ [35, 15, 8, 9, 21, 22, 43, 44, 45, 46, 47, 48, 49, 50] rfl (by decide +kernel)
set_option maxRecDepth 20000 in
theorem gX3_readNewName_X10_fail : GoodIn wsX3_readNewName (wsV RX3 58 RX10 yX10_fail wsX10_fail) := goodIn_app (goodIn_of _ (by decide +kernel)) ggX3_readNewName_X10_fail
set_option maxRecDepth 20000 in
theorem ggX3_readNewName_X10_next : GoodIn wsX3_readNewName wsX10_next := goodIn_r _ [39, 8, 9, 43, 44, 45, 46, 47, 48, 49, 50] rfl (by decide +kernel)
set_option maxRecDepth 20000 in
theorem gX3_readNewName_X10_next : GoodIn wsX3_readNewName (wsV RX3 74 RX10 yX10_next wsX10_next) := goodIn_app (goodIn_of _ (by decide +kernel)) ggX3_readNewName_X10_next
def dsX3_readNewName_0 : List (Nat × Instr × Nat) := [(0, (.aload_n 0, 1)), (1, (.getfield 18, 3)), (4, (.invokevirtual 119, 3)), (7, (.istore_n 1, 1)), (8, (.aload_n 0, 1)), (9, (.getfield 18, 3)), (12, (.invokevirtual 51, 3)), (15, (.bipush (-4), 2)), (17, (.if_icmp .eq 13, 3)), (20, (.aload_n 0, 1)), (21, (.getfield 18, 3)), (24, (.invokevirtual 85, 3)), (27, (.goto 22, 3)), (30, (.aload_n 0, 1)), (31, (.getfield 12, 3)), (34, (.iload_n 1, 1)), (35, (.invokevirtual 131, 3)), (38, (.ifCond .eq 11, 3)), (41, (.aload_n 0, 1)), (42, (.getfield 18, 3)), (45, (.iconst 2, 1)), (46, (.invokevirtual 58, 3)), (49, (.aload_n 0, 1)), (50, (.getfield 18, 3)), (53, (.invokevirtual 74, 3)), (56, (.iload_n 1, 1)), (57, (.ireturn, 1))]
theorem dsX3_readNewName_0_ok : (dsX3_readNewName_0.all fun q => decide (decode cX3_readNewName q.1 = .ok q.2)) = true := by decide +kernel
theorem dX3_readNewName_0 : decode cX3_readNewName 0 = .ok (.aload_n 0, 1) := of_decide_eq_true (List.all_eq_true.mp dsX3_readNewName_0_ok (0, (.aload_n 0, 1)) (List.mem_of_getElem? (i := 0) rfl))
theorem dX3_readNewName_1 : decode cX3_readNewName 1 = .ok (.getfield 18, 3) := of_decide_eq_true (List.all_eq_true.mp dsX3_readNewName_0_ok (1, (.getfield 18, 3)) (List.mem_of_getElem? (i := 1) rfl))
theorem dX3_readNewName_4 : decode cX3_readNewName 4 = .ok (.invokevirtual 119, 3) := of_decide_eq_true (List.all_eq_true.mp dsX3_readNewName_0_ok (4, (.invokevirtual 119, 3)) (List.mem_of_getElem? (i := 2) rfl))
theorem dX3_readNewName_7 : decode cX3_readNewName 7 = .ok (.istore_n 1, 1) := of_decide_eq_true (List.all_eq_true.mp dsX3_readNewName_0_ok (7, (.istore_n 1, 1)) (List.mem_of_getElem? (i := 3) rfl))
theorem dX3_readNewName_8 : decode cX3_readNewName 8 = .ok (.aload_n 0, 1) := of_decide_eq_true (List.all_eq_true.mp dsX3_readNewName_0_ok (8, (.aload_n 0, 1)) (List.mem_of_getElem? (i := 4) rfl))
theorem dX3_readNewName_9 : decode cX3_readNewName 9 = .ok (.getfield 18, 3) := of_decide_eq_true (List.all_eq_true.mp dsX3_readNewName_0_ok (9, (.getfield 18, 3)) (List.mem_of_getElem? (i := 5) rfl))
theorem dX3_readNewName_12 : decode cX3_readNewName 12 = .ok (.invokevirtual 51, 3) := of_decide_eq_true (List.all_eq_true.mp dsX3_readNewName_0_ok (12, (.invokevirtual 51, 3)) (List.mem_of_getElem? (i := 6) rfl))
theorem dX3_readNewName_15 : decode cX3_readNewName 15 = .ok (.bipush (-4), 2) := of_decide_eq_true (List.all_eq_true.mp dsX3_readNewName_0_ok (15, (.bipush (-4), 2)) (List.mem_of_getElem? (i := 7) rfl))
theorem dX3_readNewName_17 : decode cX3_readNewName 17 = .ok (.if_icmp .eq 13, 3) := of_decide_eq_true (List.all_eq_true.mp dsX3_readNewName_0_ok (17, (.if_icmp .eq 13, 3)) (List.mem_of_getElem? (i := 8) rfl))
theorem dX3_readNewName_20 : decode cX3_readNewName 20 = .ok (.aload_n 0, 1) := of_decide_eq_true (List.all_eq_true.mp dsX3_readNewName_0_ok (20, (.aload_n 0, 1)) (List.mem_of_getElem? (i := 9) rfl))
theorem dX3_readNewName_21 : decode cX3_readNewName 21 = .ok (.getfield 18, 3) := of_decide_eq_true (List.all_eq_true.mp dsX3_readNewName_0_ok (21, (.getfield 18, 3)) (List.mem_of_getElem? (i := 10) rfl))
theorem dX3_readNewName_24 : decode cX3_readNewName 24 = .ok (.invokevirtual 85, 3) := of_decide_eq_true (List.all_eq_true.mp dsX3_readNewName_0_ok (24, (.invokevirtual 85, 3)) (List.mem_of_getElem? (i := 11) rfl))
theorem dX3_readNewName_27 : decode cX3_readNewName 27 = .ok (.goto 22, 3) := of_decide_eq_true (List.all_eq_true.mp dsX3_readNewName_0_ok (27, (.goto 22, 3)) (List.mem_of_getElem? (i := 12) rfl))
theorem dX3_readNewName_30 : decode cX3_readNewName 30 = .ok (.aload_n 0, 1) := of_decide_eq_true (List.all_eq_true.mp dsX3_readNewName_0_ok (30, (.aload_n 0, 1)) (List.mem_of_getElem? (i := 13) rfl))
theorem dX3_readNewName_31 : decode cX3_readNewName 31 = .ok (.getfield 12, 3) := of_decide_eq_true (List.all_eq_true.mp dsX3_readNewName_0_ok (31, (.getfield 12, 3)) (List.mem_of_getElem? (i := 14) rfl))
theorem dX3_readNewName_34 : decode cX3_readNewName 34 = .ok (.iload_n 1, 1) := of_decide_eq_true (List.all_eq_true.mp dsX3_readNewName_0_ok (34, (.iload_n 1, 1)) (List.mem_of_getElem? (i := 15) rfl))
theorem dX3_readNewName_35 : decode cX3_readNewName 35 = .ok (.invokevirtual 131, 3) := of_decide_eq_true (List.all_eq_true.mp dsX3_readNewName_0_ok (35, (.invokevirtual 131, 3)) (List.mem_of_getElem? (i := 16) rfl))
theorem dX3_readNewName_38 : decode cX3_readNewName 38 = .ok (.ifCond .eq 11, 3) := of_decide_eq_true (List.all_eq_true.mp dsX3_readNewName_0_ok (38, (.ifCond .eq 11, 3)) (List.mem_of_getElem? (i := 17) rfl))
theorem dX3_readNewName_41 : decode cX3_readNewName 41 = .ok (.aload_n 0, 1) := of_decide_eq_true (List.all_eq_true.mp dsX3_readNewName_0_ok (41, (.aload_n 0, 1)) (List.mem_of_getElem? (i := 18) rfl))
theorem dX3_readNewName_42 : decode cX3_readNewName 42 = .ok (.getfield 18, 3) := of_decide_eq_true (List.all_eq_true.mp dsX3_readNewName_0_ok (42, (.getfield 18, 3)) (List.mem_of_getElem? (i := 19) rfl))
theorem dX3_readNewName_45 : decode cX3_readNewName 45 = .ok (.iconst 2, 1) := of_decide_eq_true (List.all_eq_true.mp dsX3_readNewName_0_ok (45, (.iconst 2, 1)) (List.mem_of_getElem? (i := 20) rfl))
theorem dX3_readNewName_46 : decode cX3_readNewName 46 = .ok (.invokevirtual 58, 3) := of_decide_eq_true (List.all_eq_true.mp dsX3_readNewName_0_ok (46, (.invokevirtual 58, 3)) (List.mem_of_getElem? (i := 21) rfl))
theorem dX3_readNewName_49 : decode cX3_readNewName 49 = .ok (.aload_n 0, 1) := of_decide_eq_true (List.all_eq_true.mp dsX3_readNewName_0_ok (49, (.aload_n 0, 1)) (List.mem_of_getElem? (i := 22) rfl))
theorem dX3_readNewName_50 : decode cX3_readNewName 50 = .ok (.getfield 18, 3) := of_decide_eq_true (List.all_eq_true.mp dsX3_readNewName_0_ok (50, (.getfield 18, 3)) (List.mem_of_getElem? (i := 23) rfl))
theorem dX3_readNewName_53 : decode cX3_readNewName 53 = .ok (.invokevirtual 74, 3) := of_decide_eq_true (List.all_eq_true.mp dsX3_readNewName_0_ok (53, (.invokevirtual 74, 3)) (List.mem_of_getElem? (i := 24) rfl))
theorem dX3_readNewName_56 : decode cX3_readNewName 56 = .ok (.iload_n 1, 1) := of_decide_eq_true (List.all_eq_true.mp dsX3_readNewName_0_ok (56, (.iload_n 1, 1)) (List.mem_of_getElem? (i := 25) rfl))
theorem dX3_readNewName_57 : decode cX3_readNewName 57 = .ok (.ireturn, 1) := of_decide_eq_true (List.all_eq_true.mp dsX3_readNewName_0_ok (57, (.ireturn, 1)) (List.mem_of_getElem? (i := 26) rfl))
def fX3_readNewName_b49 (N : Nat) (text_valuesF : Nat → Int32) (text_kindsF : Nat → Int32) (madeI : Nat → Int32) (made_earNamesF : Nat → Int32) (made_placeNamesF : Nat → Int32) (text_startsF : Nat → Int32) (text_valuesN : Nat) (text_kindsN : Nat) (text_startsN : Nat)  : ((Nat → Int32) × Int32) → Option (Int32 × (Nat → Int32)) :=
  fun (textI_49, x1_49) => (xq_bd (fX10_next N textI_49) fun r_1 => some ((x1_49, r_1)))
def fX3_readNewName (N : Nat) (textI : Nat → Int32) (text_valuesF : Nat → Int32) (text_kindsF : Nat → Int32) (madeI : Nat → Int32) (made_earNamesF : Nat → Int32) (made_placeNamesF : Nat → Int32) (text_startsF : Nat → Int32) (text_valuesN : Nat) (text_kindsN : Nat) (text_startsN : Nat)  : Option (Int32 × (Nat → Int32)) :=
  (xq_bd (fX10_value N textI text_valuesF text_valuesN) fun r_1 => (xq_bd (fX10_piece N textI text_kindsF text_kindsN) fun r_3 => (if r_3 = ((-4)) then (xq_bd (fX2_hasName N madeI made_earNamesF made_placeNamesF r_1) fun r_5 => (if r_5 = 0 then fX3_readNewName_b49 N text_valuesF text_kindsF madeI made_earNamesF made_placeNamesF text_startsF text_valuesN text_kindsN text_startsN (textI, r_1) else (xq_bd (fX10_fail N textI text_startsF text_startsN 2) fun r_7 => fX3_readNewName_b49 N text_valuesF text_kindsF madeI made_earNamesF made_placeNamesF text_startsF text_valuesN text_kindsN text_startsN (r_7, r_1)))) else (xq_bd (fX10_wrong N textI text_kindsF text_startsF text_valuesF text_kindsN text_startsN text_valuesN) fun r_9 => fX3_readNewName_b49 N text_valuesF text_kindsF madeI made_earNamesF made_placeNamesF text_startsF text_valuesN text_kindsN text_startsN (r_9, r_1)))))
set_option maxHeartbeats 4000000 in
set_option maxRecDepth 100000 in
theorem kX3_readNewName (l : Launch) (dC : Nat → ClassId) (dI : Nat → Nat → Nat) (cI cB cJ cZ cM : ClassId) (z : Nat) (ad : Nat → Nat) (N : Nat) (a_p0 : Nat) (hrI : Nat → Int32) (hrR : Nat → Nat) (textI : Nat → Int32) (textR : Nat → Nat) (text_valuesF : Nat → Int32) (text_valuesN : Nat) (text_kindsF : Nat → Int32) (text_kindsN : Nat) (madeI : Nat → Int32) (madeR : Nat → Nat) (made_earNamesF : Nat → Int32) (made_placeNamesF : Nat → Int32) (text_startsF : Nat → Int32) (text_startsN : Nat) {r0 : Int32} {r1 : Nat → Int32} (hf : fX3_readNewName N textI text_valuesF text_kindsF madeI made_earNamesF made_placeNamesF text_startsF text_valuesN text_kindsN text_startsN = some (r0, r1)) : xq_Ct l yX3_readNewName wsX3_readNewName { frames := 1, cells := 0, slots := 0, locals := 22 } (dC, dI) vwCl (xq_tys cI cB cJ cZ cM) z ad [.ref a_p0] [(a_p0, .inr (3, oX3 hrI hrR)), ((hrR 0), .inr (10, oX10 textI textR)), ((textR 3), .inl (cI, text_valuesN, .inl text_valuesF)), ((textR 1), .inl (cI, text_kindsN, .inl text_kindsF)), ((hrR 2), .inr (2, oX2 madeI madeR)), ((madeR 7), .inl (cI, 7, .inl made_earNamesF)), ((madeR 10), .inl (cI, 6, .inl made_placeNamesF)), ((textR 2), .inl (cI, text_startsN, .inl text_startsF))] [(a_p0, .inr (3, oX3 hrI hrR)), ((hrR 0), .inr (10, oX10 r1 textR)), ((textR 3), .inl (cI, text_valuesN, .inl text_valuesF)), ((textR 1), .inl (cI, text_kindsN, .inl text_kindsF)), ((hrR 2), .inr (2, oX2 madeI madeR)), ((madeR 7), .inl (cI, 7, .inl made_earNamesF)), ((madeR 10), .inl (cI, 6, .inl made_placeNamesF)), ((textR 2), .inl (cI, text_startsN, .inl text_startsF))] (some (.int r0)) := by
  intro sz
  refine Met.ofW (cc := cX3_readNewName) (maxL := 2) (ret := (some .int)) (by decide) rfl ?_
  intro p e s m args below meth c s₁ B hml hv
  obtain ⟨rfl, hsz, hP, hK, hD0, hE, hz⟩ := hv
  have hx := B.exec
  have hb := B.bytes
  have hr := B.returns
  have hts := atoms_spec (ws := wsX3_readNewName) B.pre
  have hown : s.vm.findClass RX3 = some m.cls := findClass_of_methodNamed B.named
  have hlocks := B.notSynchronized
  subst hsz
  have hD := hD0.self (sz := s.heap.size)
  have hN := xq_Env.of hE hz hD0
  generalize hAe : va_A [(a_p0, .inr (3, oX3 hrI hrR)), ((hrR 0), .inr (10, oX10 textI textR)), ((textR 3), .inl (cI, text_valuesN, .inl text_valuesF)), ((textR 1), .inl (cI, text_kindsN, .inl text_kindsF)), ((hrR 2), .inr (2, oX2 madeI madeR)), ((madeR 7), .inl (cI, 7, .inl made_earNamesF)), ((madeR 10), .inl (cI, 6, .inl made_placeNamesF)), ((textR 2), .inl (cI, text_startsN, .inl text_startsF))] s.heap.size = A at hD hN ⊢
  have hA : ∀ q : Nat, s.heap.size ≤ q → A q := fun q h => by rw [← hAe]; exact Or.inr h
  clear hAe hD0
  have hS : va_S A s.heap s.heap [] := va_S.rf
  have hl := lv_entry ([.ref a_p0]) (n := 2) (Nat.le_of_ble_eq_true rfl)
  rw [lg_entry_eq]
  generalize (lg_sl ([.ref a_p0]) ++ List.replicate (2 - (lg_sl ([.ref a_p0])).length) Slot.unset).toArray = ls at hl ⊢
  have hl : lv_has ls 2 [(0, .ref a_p0)] := hl
  have hw0 := hts (.fieldLink RX3 18 "DistantVoice$HouseReader" "text" "LDistantVoice$Text;") (by decide +kernel)
  have hinX3 : ∀ w ∈ wsX30, w ∈ wsX3_readNewName := fun w h => List.mem_cons_of_mem _ (List.mem_append_left _ (List.mem_append_left _ (List.mem_append_right _ h)))
  have hw2 := hts (.fieldLink RX3 12 "DistantVoice$HouseReader" "made" "LDistantVoice$House;") (by decide +kernel)
  have b49 : ∀ (textI_49 : Nat → Int32) (x1_49 : Int32) (ls : Array Slot) (H : Heap) (locs : List Loc), fX3_readNewName_b49 N text_valuesF text_kindsF madeI made_earNamesF made_placeNamesF text_startsF text_valuesN text_kindsN text_startsN (textI_49, x1_49) = some (r0, r1) → va_P (dC, dI) vwCl [(a_p0, .inr (3, oX3 hrI hrR)), ((hrR 0), .inr (10, oX10 textI_49 textR)), ((textR 3), .inl (cI, text_valuesN, .inl text_valuesF)), ((textR 1), .inl (cI, text_kindsN, .inl text_kindsF)), ((hrR 2), .inr (2, oX2 madeI madeR)), ((madeR 7), .inl (cI, 7, .inl made_earNamesF)), ((madeR 10), .inl (cI, 6, .inl made_placeNamesF)), ((textR 2), .inl (cI, text_startsN, .inl text_startsF))] H → va_D A [(a_p0, .inr (3, oX3 hrI hrR)), ((hrR 0), .inr (10, oX10 textI_49 textR)), ((textR 3), .inl (cI, text_valuesN, .inl text_valuesF)), ((textR 1), .inl (cI, text_kindsN, .inl text_kindsF)), ((hrR 2), .inr (2, oX2 madeI madeR)), ((madeR 7), .inl (cI, 7, .inl made_earNamesF)), ((madeR 10), .inl (cI, 6, .inl made_placeNamesF)), ((textR 2), .inl (cI, text_startsN, .inl text_startsF))] → va_S A s.heap H locs → lv_has ls 2 [(0, .ref a_p0), (1, .int x1_49)] → W p l e (headSpec wsX3_readNewName { frames := 1, cells := 0, slots := 0, locals := 22 }).room s m [.ref a_p0].toArray below meth c H locs 0 0 (MQ below (xq_Q (dC, dI) vwCl (xq_tys cI cB cJ cZ cM) A [(a_p0, .inr (3, oX3 hrI hrR)), ((hrR 0), .inr (10, oX10 r1 textR)), ((textR 3), .inl (cI, text_valuesN, .inl text_valuesF)), ((textR 1), .inl (cI, text_kindsN, .inl text_kindsF)), ((hrR 2), .inr (2, oX2 madeI madeR)), ((madeR 7), .inl (cI, 7, .inl made_earNamesF)), ((madeR 10), .inl (cI, 6, .inl made_placeNamesF)), ((textR 2), .inl (cI, text_startsN, .inl text_startsF))] (some (.int r0))) [.ref a_p0].toArray s 0 0 A) (F0 m 49 ls []) := by
    intro textI_49 x1_49 ls H locs hf hP hD hS hl
    unfold fX3_readNewName_b49 at hf
    refine lv_aload_n hx hb dX3_readNewName_49 rfl (lv_at hl 0 rfl) ?_
    refine va_get (D := (dC, dI)) (ci := 3) (v := .ref ((hrR 0))) (C := RX3) (T := TX3) (N := 3) hx hb hts hinX3 hown hK hP 0 rfl rfl 0 (by decide) hw0 (fun _ h9 => h9) rfl dX3_readNewName_50 ?_
    obtain ⟨r_1, h_2, hf⟩ := xq_bd_some hf
    refine xq_callV (As := []) (rest := []) (ci := 10) (q0 := 1) ⟨hx, hb, hml, hown, hts⟩ (kX10_next l dC dI cI cB cJ cZ cM z ad N ((hrR 0)) textI_49 textR h_2) (cwV 0 hts gX3_readNewName_X10_next rfl rfl rfl (by decide +kernel) ⟨Nat.le_of_ble_eq_true rfl, Nat.le_of_ble_eq_true rfl⟩) hN hK hP hD hS hA [1] (by decide) rfl rfl rfl rfl rfl rfl hl.1 rfl (Nat.le_of_ble_eq_true rfl) dX3_readNewName_53 ⟨Nat.zero_le _, Nat.zero_le _⟩ (fun H locs hP hD hS => ?_)
    have hP : va_P (dC, dI) vwCl [(a_p0, .inr (3, oX3 hrI hrR)), ((hrR 0), .inr (10, oX10 r_1 textR)), ((textR 3), .inl (cI, text_valuesN, .inl text_valuesF)), ((textR 1), .inl (cI, text_kindsN, .inl text_kindsF)), ((hrR 2), .inr (2, oX2 madeI madeR)), ((madeR 7), .inl (cI, 7, .inl made_earNamesF)), ((madeR 10), .inl (cI, 6, .inl made_placeNamesF)), ((textR 2), .inl (cI, text_startsN, .inl text_startsF))] H := hP
    have hD : va_D A [(a_p0, .inr (3, oX3 hrI hrR)), ((hrR 0), .inr (10, oX10 r_1 textR)), ((textR 3), .inl (cI, text_valuesN, .inl text_valuesF)), ((textR 1), .inl (cI, text_kindsN, .inl text_kindsF)), ((hrR 2), .inr (2, oX2 madeI madeR)), ((madeR 7), .inl (cI, 7, .inl made_earNamesF)), ((madeR 10), .inl (cI, 6, .inl made_placeNamesF)), ((textR 2), .inl (cI, text_startsN, .inl text_startsF))] := hD
    refine W.eq (g2 := F0 m 56 ls []) rfl ?_
    refine lv_iload_n hx hb dX3_readNewName_56 rfl (lv_at hl 1 rfl) ?_
    cases hf
    exact xq_iret hx hb hr hlocks hK hP hD hS dX3_readNewName_57
  unfold fX3_readNewName at hf
  refine lv_aload_n hx hb dX3_readNewName_0 rfl (lv_at hl 0 rfl) ?_
  refine va_get (D := (dC, dI)) (ci := 3) (v := .ref ((hrR 0))) (C := RX3) (T := TX3) (N := 3) hx hb hts hinX3 hown hK hP 0 rfl rfl 0 (by decide) hw0 (fun _ h9 => h9) rfl dX3_readNewName_1 ?_
  obtain ⟨r_1, h_2, hf⟩ := xq_bd_some hf
  refine xq_callV (As := []) (rest := []) (ci := 10) (q0 := 1) ⟨hx, hb, hml, hown, hts⟩ (kX10_value l dC dI cI cB cJ cZ cM z ad N ((hrR 0)) textI textR text_valuesF text_valuesN h_2) (cwV 0 hts gX3_readNewName_X10_value rfl rfl rfl (by decide +kernel) ⟨Nat.le_of_ble_eq_true rfl, Nat.le_of_ble_eq_true rfl⟩) hN hK hP hD hS hA [1, 2] (by decide) rfl rfl rfl rfl rfl rfl hl.1 rfl (Nat.le_of_ble_eq_true rfl) dX3_readNewName_4 ⟨Nat.zero_le _, Nat.zero_le _⟩ (fun H locs hP hD hS => ?_)
  have hP : va_P (dC, dI) vwCl [(a_p0, .inr (3, oX3 hrI hrR)), ((hrR 0), .inr (10, oX10 textI textR)), ((textR 3), .inl (cI, text_valuesN, .inl text_valuesF)), ((textR 1), .inl (cI, text_kindsN, .inl text_kindsF)), ((hrR 2), .inr (2, oX2 madeI madeR)), ((madeR 7), .inl (cI, 7, .inl made_earNamesF)), ((madeR 10), .inl (cI, 6, .inl made_placeNamesF)), ((textR 2), .inl (cI, text_startsN, .inl text_startsF))] H := hP
  have hD : va_D A [(a_p0, .inr (3, oX3 hrI hrR)), ((hrR 0), .inr (10, oX10 textI textR)), ((textR 3), .inl (cI, text_valuesN, .inl text_valuesF)), ((textR 1), .inl (cI, text_kindsN, .inl text_kindsF)), ((hrR 2), .inr (2, oX2 madeI madeR)), ((madeR 7), .inl (cI, 7, .inl made_earNamesF)), ((madeR 10), .inl (cI, 6, .inl made_placeNamesF)), ((textR 2), .inl (cI, text_startsN, .inl text_startsF))] := hD
  refine W.eq (g2 := F0 m 7 ls [.int r_1]) rfl ?_
  refine lv_istore_n (lv' := [(1, .int r_1), (0, .ref a_p0)]) hx hb dX3_readNewName_7 rfl hl (by decide) rfl (fun ls hl => ?_)
  refine lv_aload_n hx hb dX3_readNewName_8 rfl (lv_at hl 1 rfl) ?_
  refine va_get (D := (dC, dI)) (ci := 3) (v := .ref ((hrR 0))) (C := RX3) (T := TX3) (N := 3) hx hb hts hinX3 hown hK hP 0 rfl rfl 0 (by decide) hw0 (fun _ h9 => h9) rfl dX3_readNewName_9 ?_
  obtain ⟨r_3, h_4, hf⟩ := xq_bd_some hf
  refine xq_callV (As := []) (rest := []) (ci := 10) (q0 := 1) ⟨hx, hb, hml, hown, hts⟩ (kX10_piece l dC dI cI cB cJ cZ cM z ad N ((hrR 0)) textI textR text_kindsF text_kindsN h_4) (cwV 0 hts gX3_readNewName_X10_piece rfl rfl rfl (by decide +kernel) ⟨Nat.le_of_ble_eq_true rfl, Nat.le_of_ble_eq_true rfl⟩) hN hK hP hD hS hA [1, 3] (by decide) rfl rfl rfl rfl rfl rfl hl.1 rfl (Nat.le_of_ble_eq_true rfl) dX3_readNewName_12 ⟨Nat.zero_le _, Nat.zero_le _⟩ (fun H locs hP hD hS => ?_)
  have hP : va_P (dC, dI) vwCl [(a_p0, .inr (3, oX3 hrI hrR)), ((hrR 0), .inr (10, oX10 textI textR)), ((textR 3), .inl (cI, text_valuesN, .inl text_valuesF)), ((textR 1), .inl (cI, text_kindsN, .inl text_kindsF)), ((hrR 2), .inr (2, oX2 madeI madeR)), ((madeR 7), .inl (cI, 7, .inl made_earNamesF)), ((madeR 10), .inl (cI, 6, .inl made_placeNamesF)), ((textR 2), .inl (cI, text_startsN, .inl text_startsF))] H := hP
  have hD : va_D A [(a_p0, .inr (3, oX3 hrI hrR)), ((hrR 0), .inr (10, oX10 textI textR)), ((textR 3), .inl (cI, text_valuesN, .inl text_valuesF)), ((textR 1), .inl (cI, text_kindsN, .inl text_kindsF)), ((hrR 2), .inr (2, oX2 madeI madeR)), ((madeR 7), .inl (cI, 7, .inl made_earNamesF)), ((madeR 10), .inl (cI, 6, .inl made_placeNamesF)), ((textR 2), .inl (cI, text_startsN, .inl text_startsF))] := hD
  refine W.eq (g2 := F0 m 15 ls [.int r_3]) rfl ?_
  refine lv_bipush (v := (-4)) hx hb dX3_readNewName_15 (by decide) ?_
  refine lv_icmp_eq (tgt := 30) hx hb dX3_readNewName_17 (by decide) (fun c_ => ?_) (fun c_ => ?_)
  · have hf := xq_pos hf c_
    refine lv_aload_n hx hb dX3_readNewName_30 rfl (lv_at hl 1 rfl) ?_
    refine va_get (D := (dC, dI)) (ci := 3) (v := .ref ((hrR 2))) (C := RX3) (T := TX3) (N := 3) hx hb hts hinX3 hown hK hP 0 rfl rfl 2 (by decide) hw2 (fun _ h9 => h9) rfl dX3_readNewName_31 ?_
    refine lv_iload_n hx hb dX3_readNewName_34 rfl (lv_at hl 0 rfl) ?_
    obtain ⟨r_5, h_6, hf⟩ := xq_bd_some hf
    refine xq_callV (As := [.int r_1]) (rest := []) (ci := 2) (q0 := 4) ⟨hx, hb, hml, hown, hts⟩ (kX2_hasName l dC dI cI cB cJ cZ cM z ad N ((hrR 2)) madeI madeR made_earNamesF made_placeNamesF r_1 h_6) (cwV 1 hts gX3_readNewName_X2_hasName rfl rfl rfl (by decide +kernel) ⟨Nat.le_of_ble_eq_true rfl, Nat.le_of_ble_eq_true rfl⟩) hN hK hP hD hS hA [4, 5, 6] (by decide) rfl rfl rfl rfl rfl rfl hl.1 rfl (Nat.le_of_ble_eq_true rfl) dX3_readNewName_35 ⟨Nat.zero_le _, Nat.zero_le _⟩ (fun H locs hP hD hS => ?_)
    have hP : va_P (dC, dI) vwCl [(a_p0, .inr (3, oX3 hrI hrR)), ((hrR 0), .inr (10, oX10 textI textR)), ((textR 3), .inl (cI, text_valuesN, .inl text_valuesF)), ((textR 1), .inl (cI, text_kindsN, .inl text_kindsF)), ((hrR 2), .inr (2, oX2 madeI madeR)), ((madeR 7), .inl (cI, 7, .inl made_earNamesF)), ((madeR 10), .inl (cI, 6, .inl made_placeNamesF)), ((textR 2), .inl (cI, text_startsN, .inl text_startsF))] H := hP
    have hD : va_D A [(a_p0, .inr (3, oX3 hrI hrR)), ((hrR 0), .inr (10, oX10 textI textR)), ((textR 3), .inl (cI, text_valuesN, .inl text_valuesF)), ((textR 1), .inl (cI, text_kindsN, .inl text_kindsF)), ((hrR 2), .inr (2, oX2 madeI madeR)), ((madeR 7), .inl (cI, 7, .inl made_earNamesF)), ((madeR 10), .inl (cI, 6, .inl made_placeNamesF)), ((textR 2), .inl (cI, text_startsN, .inl text_startsF))] := hD
    refine W.eq (g2 := F0 m 38 ls [.int r_5]) rfl ?_
    refine lv_if_eq (tgt := 49) hx hb dX3_readNewName_38 (by decide) (fun c_ => ?_) (fun c_ => ?_)
    · have hf := xq_pos hf c_
      exact b49 textI r_1 _ _ _ hf hP hD hS (lv_sub hl [1, 0] rfl)
    · have hf := xq_neg hf c_
      refine lv_aload_n hx hb dX3_readNewName_41 rfl (lv_at hl 1 rfl) ?_
      refine va_get (D := (dC, dI)) (ci := 3) (v := .ref ((hrR 0))) (C := RX3) (T := TX3) (N := 3) hx hb hts hinX3 hown hK hP 0 rfl rfl 0 (by decide) hw0 (fun _ h9 => h9) rfl dX3_readNewName_42 ?_
      refine lv_iconst (v := 2) hx hb dX3_readNewName_45 (by decide) ?_
      obtain ⟨r_7, h_8, hf⟩ := xq_bd_some hf
      refine xq_callV (As := [.int 2]) (rest := []) (ci := 10) (q0 := 1) ⟨hx, hb, hml, hown, hts⟩ (kX10_fail l dC dI cI cB cJ cZ cM z ad N ((hrR 0)) textI textR text_startsF text_startsN 2 h_8) (cwV 1 hts gX3_readNewName_X10_fail rfl rfl rfl (by decide +kernel) ⟨Nat.le_of_ble_eq_true rfl, Nat.le_of_ble_eq_true rfl⟩) hN hK hP hD hS hA [1, 7] (by decide) rfl rfl rfl rfl rfl rfl hl.1 rfl (Nat.le_of_ble_eq_true rfl) dX3_readNewName_46 ⟨Nat.zero_le _, Nat.zero_le _⟩ (fun H locs hP hD hS => ?_)
      have hP : va_P (dC, dI) vwCl [(a_p0, .inr (3, oX3 hrI hrR)), ((hrR 0), .inr (10, oX10 r_7 textR)), ((textR 3), .inl (cI, text_valuesN, .inl text_valuesF)), ((textR 1), .inl (cI, text_kindsN, .inl text_kindsF)), ((hrR 2), .inr (2, oX2 madeI madeR)), ((madeR 7), .inl (cI, 7, .inl made_earNamesF)), ((madeR 10), .inl (cI, 6, .inl made_placeNamesF)), ((textR 2), .inl (cI, text_startsN, .inl text_startsF))] H := hP
      have hD : va_D A [(a_p0, .inr (3, oX3 hrI hrR)), ((hrR 0), .inr (10, oX10 r_7 textR)), ((textR 3), .inl (cI, text_valuesN, .inl text_valuesF)), ((textR 1), .inl (cI, text_kindsN, .inl text_kindsF)), ((hrR 2), .inr (2, oX2 madeI madeR)), ((madeR 7), .inl (cI, 7, .inl made_earNamesF)), ((madeR 10), .inl (cI, 6, .inl made_placeNamesF)), ((textR 2), .inl (cI, text_startsN, .inl text_startsF))] := hD
      refine W.eq (g2 := F0 m 49 ls []) rfl ?_
      exact b49 r_7 r_1 _ _ _ hf hP hD hS (lv_sub hl [1, 0] rfl)
  · have hf := xq_neg hf c_
    refine lv_aload_n hx hb dX3_readNewName_20 rfl (lv_at hl 1 rfl) ?_
    refine va_get (D := (dC, dI)) (ci := 3) (v := .ref ((hrR 0))) (C := RX3) (T := TX3) (N := 3) hx hb hts hinX3 hown hK hP 0 rfl rfl 0 (by decide) hw0 (fun _ h9 => h9) rfl dX3_readNewName_21 ?_
    obtain ⟨r_9, h_10, hf⟩ := xq_bd_some hf
    refine xq_callV (As := []) (rest := []) (ci := 10) (q0 := 1) ⟨hx, hb, hml, hown, hts⟩ (kX10_wrong l dC dI cI cB cJ cZ cM z ad N ((hrR 0)) textI textR text_kindsF text_kindsN text_startsF text_startsN text_valuesF text_valuesN h_10) (cwV 0 hts gX3_readNewName_X10_wrong rfl rfl rfl (by decide +kernel) ⟨Nat.le_of_ble_eq_true rfl, Nat.le_of_ble_eq_true rfl⟩) hN hK hP hD hS hA [1, 3, 7, 2] (by decide) rfl rfl rfl rfl rfl rfl hl.1 rfl (Nat.le_of_ble_eq_true rfl) dX3_readNewName_24 ⟨Nat.zero_le _, Nat.zero_le _⟩ (fun H locs hP hD hS => ?_)
    have hP : va_P (dC, dI) vwCl [(a_p0, .inr (3, oX3 hrI hrR)), ((hrR 0), .inr (10, oX10 r_9 textR)), ((textR 3), .inl (cI, text_valuesN, .inl text_valuesF)), ((textR 1), .inl (cI, text_kindsN, .inl text_kindsF)), ((hrR 2), .inr (2, oX2 madeI madeR)), ((madeR 7), .inl (cI, 7, .inl made_earNamesF)), ((madeR 10), .inl (cI, 6, .inl made_placeNamesF)), ((textR 2), .inl (cI, text_startsN, .inl text_startsF))] H := hP
    have hD : va_D A [(a_p0, .inr (3, oX3 hrI hrR)), ((hrR 0), .inr (10, oX10 r_9 textR)), ((textR 3), .inl (cI, text_valuesN, .inl text_valuesF)), ((textR 1), .inl (cI, text_kindsN, .inl text_kindsF)), ((hrR 2), .inr (2, oX2 madeI madeR)), ((madeR 7), .inl (cI, 7, .inl made_earNamesF)), ((madeR 10), .inl (cI, 6, .inl made_placeNamesF)), ((textR 2), .inl (cI, text_startsN, .inl text_startsF))] := hD
    refine W.eq (g2 := F0 m 27 ls []) rfl ?_
    refine lv_goto (tgt := 49) hx hb dX3_readNewName_27 (by decide) ?_
    exact b49 r_9 r_1 _ _ _ hf hP hD hS (lv_sub hl [1, 0] rfl)
set_option maxRecDepth 20000 in
theorem ggX3_readNumber_X10_value : GoodIn wsX3_readNumber wsX10_value := goodIn_r _ [6, 7, 8, 9, 33, 34, 35, 36, 37, 38, 39, 40] rfl (by decide +kernel)
set_option maxRecDepth 20000 in
theorem gX3_readNumber_X10_value : GoodIn wsX3_readNumber (wsV RX3 119 RX10 yX10_value wsX10_value) := goodIn_app (goodIn_of _ (by decide +kernel)) ggX3_readNumber_X10_value
set_option maxRecDepth 20000 in
theorem ggX3_readNumber_X10_piece : GoodIn wsX3_readNumber wsX10_piece := goodIn_r _ [13, 14, 7, 8, 15, 33, 34, 35, 36, 37, 38, 39, 40] rfl (by decide +kernel)
set_option maxRecDepth 20000 in
theorem gX3_readNumber_X10_piece : GoodIn wsX3_readNumber (wsV RX3 51 RX10 yX10_piece wsX10_piece) := goodIn_app (goodIn_of _ (by decide +kernel)) ggX3_readNumber_X10_piece
set_option maxRecDepth 20000 in
theorem ggX3_readNumber_X10_wrong : GoodIn wsX3_readNumber wsX10_wrong := goodIn_r _ [19, 14, 7, 8, 15, 9, 20, 21, 33, 34, 35, 36, 37, 38, 39, 40] rfl (by decide +kernel)
set_option maxRecDepth 20000 in
theorem gX3_readNumber_X10_wrong : GoodIn wsX3_readNumber (wsV RX3 85 RX10 yX10_wrong wsX10_wrong) := goodIn_app (goodIn_of _ (by decide +kernel)) ggX3_readNumber_X10_wrong
set_option maxRecDepth 20000 in
theorem ggX3_readNumber_X10_fail : GoodIn wsX3_readNumber wsX10_fail := goodIn_r _ [25, 14, 7, 8, 20, 21, 33, 34, 35, 36, 37, 38, 39, 40] rfl (by decide +kernel)
set_option maxRecDepth 20000 in
theorem gX3_readNumber_X10_fail : GoodIn wsX3_readNumber (wsV RX3 58 RX10 yX10_fail wsX10_fail) := goodIn_app (goodIn_of _ (by decide +kernel)) ggX3_readNumber_X10_fail
set_option maxRecDepth 20000 in
theorem ggX3_readNumber_X10_next : GoodIn wsX3_readNumber wsX10_next := goodIn_r _ [29, 7, 8, 33, 34, 35, 36, 37, 38, 39, 40] rfl (by decide +kernel)
set_option maxRecDepth 20000 in
theorem gX3_readNumber_X10_next : GoodIn wsX3_readNumber (wsV RX3 74 RX10 yX10_next wsX10_next) := goodIn_app (goodIn_of _ (by decide +kernel)) ggX3_readNumber_X10_next
def dsX3_readNumber_0 : List (Nat × Instr × Nat) := [(0, (.aload_n 0, 1)), (1, (.getfield 18, 3)), (4, (.invokevirtual 119, 3)), (7, (.istore_n 3, 1)), (8, (.aload_n 0, 1)), (9, (.getfield 18, 3)), (12, (.invokevirtual 51, 3)), (15, (.bipush (-3), 2)), (17, (.if_icmp .eq 13, 3)), (20, (.aload_n 0, 1)), (21, (.getfield 18, 3)), (24, (.invokevirtual 85, 3)), (27, (.goto 21, 3)), (30, (.iload_n 3, 1)), (31, (.iload_n 1, 1)), (32, (.if_icmp .lt 8, 3)), (35, (.iload_n 3, 1)), (36, (.iload_n 2, 1)), (37, (.if_icmp .le 11, 3)), (40, (.aload_n 0, 1)), (41, (.getfield 18, 3)), (44, (.iconst 4, 1)), (45, (.invokevirtual 58, 3)), (48, (.aload_n 0, 1)), (49, (.getfield 18, 3)), (52, (.invokevirtual 74, 3)), (55, (.iload_n 3, 1)), (56, (.ireturn, 1))]
theorem dsX3_readNumber_0_ok : (dsX3_readNumber_0.all fun q => decide (decode cX3_readNumber q.1 = .ok q.2)) = true := by decide +kernel
theorem dX3_readNumber_0 : decode cX3_readNumber 0 = .ok (.aload_n 0, 1) := of_decide_eq_true (List.all_eq_true.mp dsX3_readNumber_0_ok (0, (.aload_n 0, 1)) (List.mem_of_getElem? (i := 0) rfl))
theorem dX3_readNumber_1 : decode cX3_readNumber 1 = .ok (.getfield 18, 3) := of_decide_eq_true (List.all_eq_true.mp dsX3_readNumber_0_ok (1, (.getfield 18, 3)) (List.mem_of_getElem? (i := 1) rfl))
theorem dX3_readNumber_4 : decode cX3_readNumber 4 = .ok (.invokevirtual 119, 3) := of_decide_eq_true (List.all_eq_true.mp dsX3_readNumber_0_ok (4, (.invokevirtual 119, 3)) (List.mem_of_getElem? (i := 2) rfl))
theorem dX3_readNumber_7 : decode cX3_readNumber 7 = .ok (.istore_n 3, 1) := of_decide_eq_true (List.all_eq_true.mp dsX3_readNumber_0_ok (7, (.istore_n 3, 1)) (List.mem_of_getElem? (i := 3) rfl))
theorem dX3_readNumber_8 : decode cX3_readNumber 8 = .ok (.aload_n 0, 1) := of_decide_eq_true (List.all_eq_true.mp dsX3_readNumber_0_ok (8, (.aload_n 0, 1)) (List.mem_of_getElem? (i := 4) rfl))
theorem dX3_readNumber_9 : decode cX3_readNumber 9 = .ok (.getfield 18, 3) := of_decide_eq_true (List.all_eq_true.mp dsX3_readNumber_0_ok (9, (.getfield 18, 3)) (List.mem_of_getElem? (i := 5) rfl))
theorem dX3_readNumber_12 : decode cX3_readNumber 12 = .ok (.invokevirtual 51, 3) := of_decide_eq_true (List.all_eq_true.mp dsX3_readNumber_0_ok (12, (.invokevirtual 51, 3)) (List.mem_of_getElem? (i := 6) rfl))
theorem dX3_readNumber_15 : decode cX3_readNumber 15 = .ok (.bipush (-3), 2) := of_decide_eq_true (List.all_eq_true.mp dsX3_readNumber_0_ok (15, (.bipush (-3), 2)) (List.mem_of_getElem? (i := 7) rfl))
theorem dX3_readNumber_17 : decode cX3_readNumber 17 = .ok (.if_icmp .eq 13, 3) := of_decide_eq_true (List.all_eq_true.mp dsX3_readNumber_0_ok (17, (.if_icmp .eq 13, 3)) (List.mem_of_getElem? (i := 8) rfl))
theorem dX3_readNumber_20 : decode cX3_readNumber 20 = .ok (.aload_n 0, 1) := of_decide_eq_true (List.all_eq_true.mp dsX3_readNumber_0_ok (20, (.aload_n 0, 1)) (List.mem_of_getElem? (i := 9) rfl))
theorem dX3_readNumber_21 : decode cX3_readNumber 21 = .ok (.getfield 18, 3) := of_decide_eq_true (List.all_eq_true.mp dsX3_readNumber_0_ok (21, (.getfield 18, 3)) (List.mem_of_getElem? (i := 10) rfl))
theorem dX3_readNumber_24 : decode cX3_readNumber 24 = .ok (.invokevirtual 85, 3) := of_decide_eq_true (List.all_eq_true.mp dsX3_readNumber_0_ok (24, (.invokevirtual 85, 3)) (List.mem_of_getElem? (i := 11) rfl))
theorem dX3_readNumber_27 : decode cX3_readNumber 27 = .ok (.goto 21, 3) := of_decide_eq_true (List.all_eq_true.mp dsX3_readNumber_0_ok (27, (.goto 21, 3)) (List.mem_of_getElem? (i := 12) rfl))
theorem dX3_readNumber_30 : decode cX3_readNumber 30 = .ok (.iload_n 3, 1) := of_decide_eq_true (List.all_eq_true.mp dsX3_readNumber_0_ok (30, (.iload_n 3, 1)) (List.mem_of_getElem? (i := 13) rfl))
theorem dX3_readNumber_31 : decode cX3_readNumber 31 = .ok (.iload_n 1, 1) := of_decide_eq_true (List.all_eq_true.mp dsX3_readNumber_0_ok (31, (.iload_n 1, 1)) (List.mem_of_getElem? (i := 14) rfl))
theorem dX3_readNumber_32 : decode cX3_readNumber 32 = .ok (.if_icmp .lt 8, 3) := of_decide_eq_true (List.all_eq_true.mp dsX3_readNumber_0_ok (32, (.if_icmp .lt 8, 3)) (List.mem_of_getElem? (i := 15) rfl))
theorem dX3_readNumber_35 : decode cX3_readNumber 35 = .ok (.iload_n 3, 1) := of_decide_eq_true (List.all_eq_true.mp dsX3_readNumber_0_ok (35, (.iload_n 3, 1)) (List.mem_of_getElem? (i := 16) rfl))
theorem dX3_readNumber_36 : decode cX3_readNumber 36 = .ok (.iload_n 2, 1) := of_decide_eq_true (List.all_eq_true.mp dsX3_readNumber_0_ok (36, (.iload_n 2, 1)) (List.mem_of_getElem? (i := 17) rfl))
theorem dX3_readNumber_37 : decode cX3_readNumber 37 = .ok (.if_icmp .le 11, 3) := of_decide_eq_true (List.all_eq_true.mp dsX3_readNumber_0_ok (37, (.if_icmp .le 11, 3)) (List.mem_of_getElem? (i := 18) rfl))
theorem dX3_readNumber_40 : decode cX3_readNumber 40 = .ok (.aload_n 0, 1) := of_decide_eq_true (List.all_eq_true.mp dsX3_readNumber_0_ok (40, (.aload_n 0, 1)) (List.mem_of_getElem? (i := 19) rfl))
theorem dX3_readNumber_41 : decode cX3_readNumber 41 = .ok (.getfield 18, 3) := of_decide_eq_true (List.all_eq_true.mp dsX3_readNumber_0_ok (41, (.getfield 18, 3)) (List.mem_of_getElem? (i := 20) rfl))
theorem dX3_readNumber_44 : decode cX3_readNumber 44 = .ok (.iconst 4, 1) := of_decide_eq_true (List.all_eq_true.mp dsX3_readNumber_0_ok (44, (.iconst 4, 1)) (List.mem_of_getElem? (i := 21) rfl))
theorem dX3_readNumber_45 : decode cX3_readNumber 45 = .ok (.invokevirtual 58, 3) := of_decide_eq_true (List.all_eq_true.mp dsX3_readNumber_0_ok (45, (.invokevirtual 58, 3)) (List.mem_of_getElem? (i := 22) rfl))
theorem dX3_readNumber_48 : decode cX3_readNumber 48 = .ok (.aload_n 0, 1) := of_decide_eq_true (List.all_eq_true.mp dsX3_readNumber_0_ok (48, (.aload_n 0, 1)) (List.mem_of_getElem? (i := 23) rfl))
theorem dX3_readNumber_49 : decode cX3_readNumber 49 = .ok (.getfield 18, 3) := of_decide_eq_true (List.all_eq_true.mp dsX3_readNumber_0_ok (49, (.getfield 18, 3)) (List.mem_of_getElem? (i := 24) rfl))
theorem dX3_readNumber_52 : decode cX3_readNumber 52 = .ok (.invokevirtual 74, 3) := of_decide_eq_true (List.all_eq_true.mp dsX3_readNumber_0_ok (52, (.invokevirtual 74, 3)) (List.mem_of_getElem? (i := 25) rfl))
theorem dX3_readNumber_55 : decode cX3_readNumber 55 = .ok (.iload_n 3, 1) := of_decide_eq_true (List.all_eq_true.mp dsX3_readNumber_0_ok (55, (.iload_n 3, 1)) (List.mem_of_getElem? (i := 26) rfl))
theorem dX3_readNumber_56 : decode cX3_readNumber 56 = .ok (.ireturn, 1) := of_decide_eq_true (List.all_eq_true.mp dsX3_readNumber_0_ok (56, (.ireturn, 1)) (List.mem_of_getElem? (i := 27) rfl))
def fX3_readNumber_b48 (N : Nat) (text_valuesF : Nat → Int32) (text_kindsF : Nat → Int32) (text_startsF : Nat → Int32) (text_valuesN : Nat) (text_kindsN : Nat) (text_startsN : Nat)  : ((Nat → Int32) × Int32) → Option (Int32 × (Nat → Int32)) :=
  fun (textI_48, x3_48) => (xq_bd (fX10_next N textI_48) fun r_1 => some ((x3_48, r_1)))
def fX3_readNumber_b40 (N : Nat) (text_valuesF : Nat → Int32) (text_kindsF : Nat → Int32) (text_startsF : Nat → Int32) (text_valuesN : Nat) (text_kindsN : Nat) (text_startsN : Nat)  : ((Nat → Int32) × Int32) → Option (Int32 × (Nat → Int32)) :=
  fun (textI_40, x3_40) => (xq_bd (fX10_fail N textI_40 text_startsF text_startsN 4) fun r_3 => fX3_readNumber_b48 N text_valuesF text_kindsF text_startsF text_valuesN text_kindsN text_startsN (r_3, x3_40))
def fX3_readNumber (N : Nat) (textI : Nat → Int32) (text_valuesF : Nat → Int32) (text_kindsF : Nat → Int32) (text_startsF : Nat → Int32) (text_valuesN : Nat) (text_kindsN : Nat) (text_startsN : Nat) (p1 : Int32) (p2 : Int32) : Option (Int32 × (Nat → Int32)) :=
  (xq_bd (fX10_value N textI text_valuesF text_valuesN) fun r_1 => (xq_bd (fX10_piece N textI text_kindsF text_kindsN) fun r_3 => (if r_3 = ((-3)) then (if r_1 < p1 then fX3_readNumber_b40 N text_valuesF text_kindsF text_startsF text_valuesN text_kindsN text_startsN (textI, r_1) else (if r_1 ≤ p2 then fX3_readNumber_b48 N text_valuesF text_kindsF text_startsF text_valuesN text_kindsN text_startsN (textI, r_1) else fX3_readNumber_b40 N text_valuesF text_kindsF text_startsF text_valuesN text_kindsN text_startsN (textI, r_1))) else (xq_bd (fX10_wrong N textI text_kindsF text_startsF text_valuesF text_kindsN text_startsN text_valuesN) fun r_5 => fX3_readNumber_b48 N text_valuesF text_kindsF text_startsF text_valuesN text_kindsN text_startsN (r_5, r_1)))))
set_option maxHeartbeats 4000000 in
set_option maxRecDepth 100000 in
theorem kX3_readNumber (l : Launch) (dC : Nat → ClassId) (dI : Nat → Nat → Nat) (cI cB cJ cZ cM : ClassId) (z : Nat) (ad : Nat → Nat) (N : Nat) (a_p0 : Nat) (hrI : Nat → Int32) (hrR : Nat → Nat) (textI : Nat → Int32) (textR : Nat → Nat) (text_valuesF : Nat → Int32) (text_valuesN : Nat) (text_kindsF : Nat → Int32) (text_kindsN : Nat) (text_startsF : Nat → Int32) (text_startsN : Nat) (p1 : Int32) (p2 : Int32) {r0 : Int32} {r1 : Nat → Int32} (hf : fX3_readNumber N textI text_valuesF text_kindsF text_startsF text_valuesN text_kindsN text_startsN p1 p2 = some (r0, r1)) : xq_Ct l yX3_readNumber wsX3_readNumber { frames := 1, cells := 0, slots := 0, locals := 21 } (dC, dI) vwCl (xq_tys cI cB cJ cZ cM) z ad [.ref a_p0, .int p1, .int p2] [(a_p0, .inr (3, oX3 hrI hrR)), ((hrR 0), .inr (10, oX10 textI textR)), ((textR 3), .inl (cI, text_valuesN, .inl text_valuesF)), ((textR 1), .inl (cI, text_kindsN, .inl text_kindsF)), ((textR 2), .inl (cI, text_startsN, .inl text_startsF))] [(a_p0, .inr (3, oX3 hrI hrR)), ((hrR 0), .inr (10, oX10 r1 textR)), ((textR 3), .inl (cI, text_valuesN, .inl text_valuesF)), ((textR 1), .inl (cI, text_kindsN, .inl text_kindsF)), ((textR 2), .inl (cI, text_startsN, .inl text_startsF))] (some (.int r0)) := by
  intro sz
  refine Met.ofW (cc := cX3_readNumber) (maxL := 4) (ret := (some .int)) (by decide) rfl ?_
  intro p e s m args below meth c s₁ B hml hv
  obtain ⟨rfl, hsz, hP, hK, hD0, hE, hz⟩ := hv
  have hx := B.exec
  have hb := B.bytes
  have hr := B.returns
  have hts := atoms_spec (ws := wsX3_readNumber) B.pre
  have hown : s.vm.findClass RX3 = some m.cls := findClass_of_methodNamed B.named
  have hlocks := B.notSynchronized
  subst hsz
  have hD := hD0.self (sz := s.heap.size)
  have hN := xq_Env.of hE hz hD0
  generalize hAe : va_A [(a_p0, .inr (3, oX3 hrI hrR)), ((hrR 0), .inr (10, oX10 textI textR)), ((textR 3), .inl (cI, text_valuesN, .inl text_valuesF)), ((textR 1), .inl (cI, text_kindsN, .inl text_kindsF)), ((textR 2), .inl (cI, text_startsN, .inl text_startsF))] s.heap.size = A at hD hN ⊢
  have hA : ∀ q : Nat, s.heap.size ≤ q → A q := fun q h => by rw [← hAe]; exact Or.inr h
  clear hAe hD0
  have hS : va_S A s.heap s.heap [] := va_S.rf
  have hl := lv_entry ([.ref a_p0, .int p1, .int p2]) (n := 4) (Nat.le_of_ble_eq_true rfl)
  rw [lg_entry_eq]
  generalize (lg_sl ([.ref a_p0, .int p1, .int p2]) ++ List.replicate (4 - (lg_sl ([.ref a_p0, .int p1, .int p2])).length) Slot.unset).toArray = ls at hl ⊢
  have hl : lv_has ls 4 [(0, .ref a_p0), (1, .int p1), (2, .int p2)] := hl
  have hw0 := hts (.fieldLink RX3 18 "DistantVoice$HouseReader" "text" "LDistantVoice$Text;") (by decide +kernel)
  have hinX3 : ∀ w ∈ wsX30, w ∈ wsX3_readNumber := fun w h => List.mem_cons_of_mem _ (List.mem_append_left _ (List.mem_append_right _ h))
  have b48 : ∀ (textI_48 : Nat → Int32) (x3_48 : Int32) (ls : Array Slot) (H : Heap) (locs : List Loc), fX3_readNumber_b48 N text_valuesF text_kindsF text_startsF text_valuesN text_kindsN text_startsN (textI_48, x3_48) = some (r0, r1) → va_P (dC, dI) vwCl [(a_p0, .inr (3, oX3 hrI hrR)), ((hrR 0), .inr (10, oX10 textI_48 textR)), ((textR 3), .inl (cI, text_valuesN, .inl text_valuesF)), ((textR 1), .inl (cI, text_kindsN, .inl text_kindsF)), ((textR 2), .inl (cI, text_startsN, .inl text_startsF))] H → va_D A [(a_p0, .inr (3, oX3 hrI hrR)), ((hrR 0), .inr (10, oX10 textI_48 textR)), ((textR 3), .inl (cI, text_valuesN, .inl text_valuesF)), ((textR 1), .inl (cI, text_kindsN, .inl text_kindsF)), ((textR 2), .inl (cI, text_startsN, .inl text_startsF))] → va_S A s.heap H locs → lv_has ls 4 [(0, .ref a_p0), (3, .int x3_48)] → W p l e (headSpec wsX3_readNumber { frames := 1, cells := 0, slots := 0, locals := 21 }).room s m [.ref a_p0, .int p1, .int p2].toArray below meth c H locs 0 0 (MQ below (xq_Q (dC, dI) vwCl (xq_tys cI cB cJ cZ cM) A [(a_p0, .inr (3, oX3 hrI hrR)), ((hrR 0), .inr (10, oX10 r1 textR)), ((textR 3), .inl (cI, text_valuesN, .inl text_valuesF)), ((textR 1), .inl (cI, text_kindsN, .inl text_kindsF)), ((textR 2), .inl (cI, text_startsN, .inl text_startsF))] (some (.int r0))) [.ref a_p0, .int p1, .int p2].toArray s 0 0 A) (F0 m 48 ls []) := by
    intro textI_48 x3_48 ls H locs hf hP hD hS hl
    unfold fX3_readNumber_b48 at hf
    refine lv_aload_n hx hb dX3_readNumber_48 rfl (lv_at hl 0 rfl) ?_
    refine va_get (D := (dC, dI)) (ci := 3) (v := .ref ((hrR 0))) (C := RX3) (T := TX3) (N := 3) hx hb hts hinX3 hown hK hP 0 rfl rfl 0 (by decide) hw0 (fun _ h9 => h9) rfl dX3_readNumber_49 ?_
    obtain ⟨r_1, h_2, hf⟩ := xq_bd_some hf
    refine xq_callV (As := []) (rest := []) (ci := 10) (q0 := 1) ⟨hx, hb, hml, hown, hts⟩ (kX10_next l dC dI cI cB cJ cZ cM z ad N ((hrR 0)) textI_48 textR h_2) (cwV 0 hts gX3_readNumber_X10_next rfl rfl rfl (by decide +kernel) ⟨Nat.le_of_ble_eq_true rfl, Nat.le_of_ble_eq_true rfl⟩) hN hK hP hD hS hA [1] (by decide) rfl rfl rfl rfl rfl rfl hl.1 rfl (Nat.le_of_ble_eq_true rfl) dX3_readNumber_52 ⟨Nat.zero_le _, Nat.zero_le _⟩ (fun H locs hP hD hS => ?_)
    have hP : va_P (dC, dI) vwCl [(a_p0, .inr (3, oX3 hrI hrR)), ((hrR 0), .inr (10, oX10 r_1 textR)), ((textR 3), .inl (cI, text_valuesN, .inl text_valuesF)), ((textR 1), .inl (cI, text_kindsN, .inl text_kindsF)), ((textR 2), .inl (cI, text_startsN, .inl text_startsF))] H := hP
    have hD : va_D A [(a_p0, .inr (3, oX3 hrI hrR)), ((hrR 0), .inr (10, oX10 r_1 textR)), ((textR 3), .inl (cI, text_valuesN, .inl text_valuesF)), ((textR 1), .inl (cI, text_kindsN, .inl text_kindsF)), ((textR 2), .inl (cI, text_startsN, .inl text_startsF))] := hD
    refine W.eq (g2 := F0 m 55 ls []) rfl ?_
    refine lv_iload_n hx hb dX3_readNumber_55 rfl (lv_at hl 1 rfl) ?_
    cases hf
    exact xq_iret hx hb hr hlocks hK hP hD hS dX3_readNumber_56
  have b40 : ∀ (textI_40 : Nat → Int32) (x3_40 : Int32) (ls : Array Slot) (H : Heap) (locs : List Loc), fX3_readNumber_b40 N text_valuesF text_kindsF text_startsF text_valuesN text_kindsN text_startsN (textI_40, x3_40) = some (r0, r1) → va_P (dC, dI) vwCl [(a_p0, .inr (3, oX3 hrI hrR)), ((hrR 0), .inr (10, oX10 textI_40 textR)), ((textR 3), .inl (cI, text_valuesN, .inl text_valuesF)), ((textR 1), .inl (cI, text_kindsN, .inl text_kindsF)), ((textR 2), .inl (cI, text_startsN, .inl text_startsF))] H → va_D A [(a_p0, .inr (3, oX3 hrI hrR)), ((hrR 0), .inr (10, oX10 textI_40 textR)), ((textR 3), .inl (cI, text_valuesN, .inl text_valuesF)), ((textR 1), .inl (cI, text_kindsN, .inl text_kindsF)), ((textR 2), .inl (cI, text_startsN, .inl text_startsF))] → va_S A s.heap H locs → lv_has ls 4 [(0, .ref a_p0), (3, .int x3_40)] → W p l e (headSpec wsX3_readNumber { frames := 1, cells := 0, slots := 0, locals := 21 }).room s m [.ref a_p0, .int p1, .int p2].toArray below meth c H locs 0 0 (MQ below (xq_Q (dC, dI) vwCl (xq_tys cI cB cJ cZ cM) A [(a_p0, .inr (3, oX3 hrI hrR)), ((hrR 0), .inr (10, oX10 r1 textR)), ((textR 3), .inl (cI, text_valuesN, .inl text_valuesF)), ((textR 1), .inl (cI, text_kindsN, .inl text_kindsF)), ((textR 2), .inl (cI, text_startsN, .inl text_startsF))] (some (.int r0))) [.ref a_p0, .int p1, .int p2].toArray s 0 0 A) (F0 m 40 ls []) := by
    intro textI_40 x3_40 ls H locs hf hP hD hS hl
    unfold fX3_readNumber_b40 at hf
    refine lv_aload_n hx hb dX3_readNumber_40 rfl (lv_at hl 0 rfl) ?_
    refine va_get (D := (dC, dI)) (ci := 3) (v := .ref ((hrR 0))) (C := RX3) (T := TX3) (N := 3) hx hb hts hinX3 hown hK hP 0 rfl rfl 0 (by decide) hw0 (fun _ h9 => h9) rfl dX3_readNumber_41 ?_
    refine lv_iconst (v := 4) hx hb dX3_readNumber_44 (by decide) ?_
    obtain ⟨r_1, h_2, hf⟩ := xq_bd_some hf
    refine xq_callV (As := [.int 4]) (rest := []) (ci := 10) (q0 := 1) ⟨hx, hb, hml, hown, hts⟩ (kX10_fail l dC dI cI cB cJ cZ cM z ad N ((hrR 0)) textI_40 textR text_startsF text_startsN 4 h_2) (cwV 1 hts gX3_readNumber_X10_fail rfl rfl rfl (by decide +kernel) ⟨Nat.le_of_ble_eq_true rfl, Nat.le_of_ble_eq_true rfl⟩) hN hK hP hD hS hA [1, 4] (by decide) rfl rfl rfl rfl rfl rfl hl.1 rfl (Nat.le_of_ble_eq_true rfl) dX3_readNumber_45 ⟨Nat.zero_le _, Nat.zero_le _⟩ (fun H locs hP hD hS => ?_)
    have hP : va_P (dC, dI) vwCl [(a_p0, .inr (3, oX3 hrI hrR)), ((hrR 0), .inr (10, oX10 r_1 textR)), ((textR 3), .inl (cI, text_valuesN, .inl text_valuesF)), ((textR 1), .inl (cI, text_kindsN, .inl text_kindsF)), ((textR 2), .inl (cI, text_startsN, .inl text_startsF))] H := hP
    have hD : va_D A [(a_p0, .inr (3, oX3 hrI hrR)), ((hrR 0), .inr (10, oX10 r_1 textR)), ((textR 3), .inl (cI, text_valuesN, .inl text_valuesF)), ((textR 1), .inl (cI, text_kindsN, .inl text_kindsF)), ((textR 2), .inl (cI, text_startsN, .inl text_startsF))] := hD
    refine W.eq (g2 := F0 m 48 ls []) rfl ?_
    exact b48 r_1 x3_40 _ _ _ hf hP hD hS (lv_sub hl [0, 1] rfl)
  unfold fX3_readNumber at hf
  refine lv_aload_n hx hb dX3_readNumber_0 rfl (lv_at hl 0 rfl) ?_
  refine va_get (D := (dC, dI)) (ci := 3) (v := .ref ((hrR 0))) (C := RX3) (T := TX3) (N := 3) hx hb hts hinX3 hown hK hP 0 rfl rfl 0 (by decide) hw0 (fun _ h9 => h9) rfl dX3_readNumber_1 ?_
  obtain ⟨r_1, h_2, hf⟩ := xq_bd_some hf
  refine xq_callV (As := []) (rest := []) (ci := 10) (q0 := 1) ⟨hx, hb, hml, hown, hts⟩ (kX10_value l dC dI cI cB cJ cZ cM z ad N ((hrR 0)) textI textR text_valuesF text_valuesN h_2) (cwV 0 hts gX3_readNumber_X10_value rfl rfl rfl (by decide +kernel) ⟨Nat.le_of_ble_eq_true rfl, Nat.le_of_ble_eq_true rfl⟩) hN hK hP hD hS hA [1, 2] (by decide) rfl rfl rfl rfl rfl rfl hl.1 rfl (Nat.le_of_ble_eq_true rfl) dX3_readNumber_4 ⟨Nat.zero_le _, Nat.zero_le _⟩ (fun H locs hP hD hS => ?_)
  have hP : va_P (dC, dI) vwCl [(a_p0, .inr (3, oX3 hrI hrR)), ((hrR 0), .inr (10, oX10 textI textR)), ((textR 3), .inl (cI, text_valuesN, .inl text_valuesF)), ((textR 1), .inl (cI, text_kindsN, .inl text_kindsF)), ((textR 2), .inl (cI, text_startsN, .inl text_startsF))] H := hP
  have hD : va_D A [(a_p0, .inr (3, oX3 hrI hrR)), ((hrR 0), .inr (10, oX10 textI textR)), ((textR 3), .inl (cI, text_valuesN, .inl text_valuesF)), ((textR 1), .inl (cI, text_kindsN, .inl text_kindsF)), ((textR 2), .inl (cI, text_startsN, .inl text_startsF))] := hD
  refine W.eq (g2 := F0 m 7 ls [.int r_1]) rfl ?_
  refine lv_istore_n (lv' := [(3, .int r_1), (0, .ref a_p0), (1, .int p1), (2, .int p2)]) hx hb dX3_readNumber_7 rfl hl (by decide) rfl (fun ls hl => ?_)
  refine lv_aload_n hx hb dX3_readNumber_8 rfl (lv_at hl 1 rfl) ?_
  refine va_get (D := (dC, dI)) (ci := 3) (v := .ref ((hrR 0))) (C := RX3) (T := TX3) (N := 3) hx hb hts hinX3 hown hK hP 0 rfl rfl 0 (by decide) hw0 (fun _ h9 => h9) rfl dX3_readNumber_9 ?_
  obtain ⟨r_3, h_4, hf⟩ := xq_bd_some hf
  refine xq_callV (As := []) (rest := []) (ci := 10) (q0 := 1) ⟨hx, hb, hml, hown, hts⟩ (kX10_piece l dC dI cI cB cJ cZ cM z ad N ((hrR 0)) textI textR text_kindsF text_kindsN h_4) (cwV 0 hts gX3_readNumber_X10_piece rfl rfl rfl (by decide +kernel) ⟨Nat.le_of_ble_eq_true rfl, Nat.le_of_ble_eq_true rfl⟩) hN hK hP hD hS hA [1, 3] (by decide) rfl rfl rfl rfl rfl rfl hl.1 rfl (Nat.le_of_ble_eq_true rfl) dX3_readNumber_12 ⟨Nat.zero_le _, Nat.zero_le _⟩ (fun H locs hP hD hS => ?_)
  have hP : va_P (dC, dI) vwCl [(a_p0, .inr (3, oX3 hrI hrR)), ((hrR 0), .inr (10, oX10 textI textR)), ((textR 3), .inl (cI, text_valuesN, .inl text_valuesF)), ((textR 1), .inl (cI, text_kindsN, .inl text_kindsF)), ((textR 2), .inl (cI, text_startsN, .inl text_startsF))] H := hP
  have hD : va_D A [(a_p0, .inr (3, oX3 hrI hrR)), ((hrR 0), .inr (10, oX10 textI textR)), ((textR 3), .inl (cI, text_valuesN, .inl text_valuesF)), ((textR 1), .inl (cI, text_kindsN, .inl text_kindsF)), ((textR 2), .inl (cI, text_startsN, .inl text_startsF))] := hD
  refine W.eq (g2 := F0 m 15 ls [.int r_3]) rfl ?_
  refine lv_bipush (v := (-3)) hx hb dX3_readNumber_15 (by decide) ?_
  refine lv_icmp_eq (tgt := 30) hx hb dX3_readNumber_17 (by decide) (fun c_ => ?_) (fun c_ => ?_)
  · have hf := xq_pos hf c_
    refine lv_iload_n hx hb dX3_readNumber_30 rfl (lv_at hl 0 rfl) ?_
    refine lv_iload_n hx hb dX3_readNumber_31 rfl (lv_at hl 2 rfl) ?_
    refine lv_icmp_lt (tgt := 40) hx hb dX3_readNumber_32 (by decide) (fun c_ => ?_) (fun c_ => ?_)
    · have hf := xq_pos hf c_
      exact b40 textI r_1 _ _ _ hf hP hD hS (lv_sub hl [1, 0] rfl)
    · have hf := xq_neg hf c_
      refine lv_iload_n hx hb dX3_readNumber_35 rfl (lv_at hl 0 rfl) ?_
      refine lv_iload_n hx hb dX3_readNumber_36 rfl (lv_at hl 3 rfl) ?_
      refine lv_icmp_le (tgt := 48) hx hb dX3_readNumber_37 (by decide) (fun c_ => ?_) (fun c_ => ?_)
      · have hf := xq_pos hf c_
        exact b48 textI r_1 _ _ _ hf hP hD hS (lv_sub hl [1, 0] rfl)
      · have hf := xq_neg hf c_
        exact b40 textI r_1 _ _ _ hf hP hD hS (lv_sub hl [1, 0] rfl)
  · have hf := xq_neg hf c_
    refine lv_aload_n hx hb dX3_readNumber_20 rfl (lv_at hl 1 rfl) ?_
    refine va_get (D := (dC, dI)) (ci := 3) (v := .ref ((hrR 0))) (C := RX3) (T := TX3) (N := 3) hx hb hts hinX3 hown hK hP 0 rfl rfl 0 (by decide) hw0 (fun _ h9 => h9) rfl dX3_readNumber_21 ?_
    obtain ⟨r_5, h_6, hf⟩ := xq_bd_some hf
    refine xq_callV (As := []) (rest := []) (ci := 10) (q0 := 1) ⟨hx, hb, hml, hown, hts⟩ (kX10_wrong l dC dI cI cB cJ cZ cM z ad N ((hrR 0)) textI textR text_kindsF text_kindsN text_startsF text_startsN text_valuesF text_valuesN h_6) (cwV 0 hts gX3_readNumber_X10_wrong rfl rfl rfl (by decide +kernel) ⟨Nat.le_of_ble_eq_true rfl, Nat.le_of_ble_eq_true rfl⟩) hN hK hP hD hS hA [1, 3, 4, 2] (by decide) rfl rfl rfl rfl rfl rfl hl.1 rfl (Nat.le_of_ble_eq_true rfl) dX3_readNumber_24 ⟨Nat.zero_le _, Nat.zero_le _⟩ (fun H locs hP hD hS => ?_)
    have hP : va_P (dC, dI) vwCl [(a_p0, .inr (3, oX3 hrI hrR)), ((hrR 0), .inr (10, oX10 r_5 textR)), ((textR 3), .inl (cI, text_valuesN, .inl text_valuesF)), ((textR 1), .inl (cI, text_kindsN, .inl text_kindsF)), ((textR 2), .inl (cI, text_startsN, .inl text_startsF))] H := hP
    have hD : va_D A [(a_p0, .inr (3, oX3 hrI hrR)), ((hrR 0), .inr (10, oX10 r_5 textR)), ((textR 3), .inl (cI, text_valuesN, .inl text_valuesF)), ((textR 1), .inl (cI, text_kindsN, .inl text_kindsF)), ((textR 2), .inl (cI, text_startsN, .inl text_startsF))] := hD
    refine W.eq (g2 := F0 m 27 ls []) rfl ?_
    refine lv_goto (tgt := 48) hx hb dX3_readNumber_27 (by decide) ?_
    exact b48 r_5 r_1 _ _ _ hf hP hD hS (lv_sub hl [1, 0] rfl)
set_option maxRecDepth 20000 in
theorem ggX3_readSetting_X10_next : GoodIn wsX3_readSetting wsX10_next := goodIn_r _ [7, 8, 9, 58, 59, 60, 61, 62, 63, 64, 65] rfl (by decide +kernel)
set_option maxRecDepth 20000 in
theorem gX3_readSetting_X10_next : GoodIn wsX3_readSetting (wsV RX3 74 RX10 yX10_next wsX10_next) := goodIn_app (goodIn_of _ (by decide +kernel)) ggX3_readSetting_X10_next
set_option maxRecDepth 20000 in
theorem ggX3_readSetting_X3_readNumber : GoodIn wsX3_readSetting wsX3_readNumber := goodIn_r _ [14, 1, 15, 16, 17, 6, 18, 8, 9, 19, 20, 21, 22, 23, 24, 25, 26, 27, 28, 29, 30, 31, 32, 33, 34, 35, 3, 4, 5, 7, 36, 37, 38, 58, 59, 60, 61, 62, 63, 64, 65] rfl (by decide +kernel)
set_option maxRecDepth 20000 in
theorem gX3_readSetting_X3_readNumber : GoodIn wsX3_readSetting (wsV RX3 37 RX3 yX3_readNumber wsX3_readNumber) := goodIn_app (goodIn_of _ (by decide +kernel)) ggX3_readSetting_X3_readNumber
def dsX3_readSetting_0 : List (Nat × Instr × Nat) := [(0, (.aload_n 0, 1)), (1, (.getfield 18, 3)), (4, (.invokevirtual 74, 3)), (7, (.iload_n 1, 1)), (8, (.sipush 301, 3)), (11, (.if_icmp .ne 27, 3)), (14, (.aload_n 0, 1)), (15, (.getfield 12, 3)), (18, (.aload_n 0, 1)), (19, (.iconst 0, 1)), (20, (.aload_n 0, 1)), (21, (.getfield 12, 3)), (24, (.getfield 41, 3)), (27, (.iconst 1, 1)), (28, (.isub, 1)), (29, (.invokevirtual 37, 3)), (32, (.putfield 88, 3)), (35, (.goto 41, 3)), (38, (.iload_n 1, 1)), (39, (.sipush 302, 3)), (42, (.if_icmp .ne 20, 3)), (45, (.aload_n 0, 1)), (46, (.getfield 12, 3)), (49, (.aload_n 0, 1)), (50, (.iconst 0, 1)), (51, (.bipush 9, 2)), (53, (.invokevirtual 37, 3)), (56, (.putfield 91, 3)), (59, (.goto 17, 3)), (62, (.aload_n 0, 1)), (63, (.getfield 12, 3)), (66, (.aload_n 0, 1)), (67, (.iconst 0, 1)), (68, (.bipush 100, 2)), (70, (.invokevirtual 37, 3)), (73, (.putfield 94, 3)), (76, (.return_, 1))]
theorem dsX3_readSetting_0_ok : (dsX3_readSetting_0.all fun q => decide (decode cX3_readSetting q.1 = .ok q.2)) = true := by decide +kernel
theorem dX3_readSetting_0 : decode cX3_readSetting 0 = .ok (.aload_n 0, 1) := of_decide_eq_true (List.all_eq_true.mp dsX3_readSetting_0_ok (0, (.aload_n 0, 1)) (List.mem_of_getElem? (i := 0) rfl))
theorem dX3_readSetting_1 : decode cX3_readSetting 1 = .ok (.getfield 18, 3) := of_decide_eq_true (List.all_eq_true.mp dsX3_readSetting_0_ok (1, (.getfield 18, 3)) (List.mem_of_getElem? (i := 1) rfl))
theorem dX3_readSetting_4 : decode cX3_readSetting 4 = .ok (.invokevirtual 74, 3) := of_decide_eq_true (List.all_eq_true.mp dsX3_readSetting_0_ok (4, (.invokevirtual 74, 3)) (List.mem_of_getElem? (i := 2) rfl))
theorem dX3_readSetting_7 : decode cX3_readSetting 7 = .ok (.iload_n 1, 1) := of_decide_eq_true (List.all_eq_true.mp dsX3_readSetting_0_ok (7, (.iload_n 1, 1)) (List.mem_of_getElem? (i := 3) rfl))
theorem dX3_readSetting_8 : decode cX3_readSetting 8 = .ok (.sipush 301, 3) := of_decide_eq_true (List.all_eq_true.mp dsX3_readSetting_0_ok (8, (.sipush 301, 3)) (List.mem_of_getElem? (i := 4) rfl))
theorem dX3_readSetting_11 : decode cX3_readSetting 11 = .ok (.if_icmp .ne 27, 3) := of_decide_eq_true (List.all_eq_true.mp dsX3_readSetting_0_ok (11, (.if_icmp .ne 27, 3)) (List.mem_of_getElem? (i := 5) rfl))
theorem dX3_readSetting_14 : decode cX3_readSetting 14 = .ok (.aload_n 0, 1) := of_decide_eq_true (List.all_eq_true.mp dsX3_readSetting_0_ok (14, (.aload_n 0, 1)) (List.mem_of_getElem? (i := 6) rfl))
theorem dX3_readSetting_15 : decode cX3_readSetting 15 = .ok (.getfield 12, 3) := of_decide_eq_true (List.all_eq_true.mp dsX3_readSetting_0_ok (15, (.getfield 12, 3)) (List.mem_of_getElem? (i := 7) rfl))
theorem dX3_readSetting_18 : decode cX3_readSetting 18 = .ok (.aload_n 0, 1) := of_decide_eq_true (List.all_eq_true.mp dsX3_readSetting_0_ok (18, (.aload_n 0, 1)) (List.mem_of_getElem? (i := 8) rfl))
theorem dX3_readSetting_19 : decode cX3_readSetting 19 = .ok (.iconst 0, 1) := of_decide_eq_true (List.all_eq_true.mp dsX3_readSetting_0_ok (19, (.iconst 0, 1)) (List.mem_of_getElem? (i := 9) rfl))
theorem dX3_readSetting_20 : decode cX3_readSetting 20 = .ok (.aload_n 0, 1) := of_decide_eq_true (List.all_eq_true.mp dsX3_readSetting_0_ok (20, (.aload_n 0, 1)) (List.mem_of_getElem? (i := 10) rfl))
theorem dX3_readSetting_21 : decode cX3_readSetting 21 = .ok (.getfield 12, 3) := of_decide_eq_true (List.all_eq_true.mp dsX3_readSetting_0_ok (21, (.getfield 12, 3)) (List.mem_of_getElem? (i := 11) rfl))
theorem dX3_readSetting_24 : decode cX3_readSetting 24 = .ok (.getfield 41, 3) := of_decide_eq_true (List.all_eq_true.mp dsX3_readSetting_0_ok (24, (.getfield 41, 3)) (List.mem_of_getElem? (i := 12) rfl))
theorem dX3_readSetting_27 : decode cX3_readSetting 27 = .ok (.iconst 1, 1) := of_decide_eq_true (List.all_eq_true.mp dsX3_readSetting_0_ok (27, (.iconst 1, 1)) (List.mem_of_getElem? (i := 13) rfl))
theorem dX3_readSetting_28 : decode cX3_readSetting 28 = .ok (.isub, 1) := of_decide_eq_true (List.all_eq_true.mp dsX3_readSetting_0_ok (28, (.isub, 1)) (List.mem_of_getElem? (i := 14) rfl))
theorem dX3_readSetting_29 : decode cX3_readSetting 29 = .ok (.invokevirtual 37, 3) := of_decide_eq_true (List.all_eq_true.mp dsX3_readSetting_0_ok (29, (.invokevirtual 37, 3)) (List.mem_of_getElem? (i := 15) rfl))
theorem dX3_readSetting_32 : decode cX3_readSetting 32 = .ok (.putfield 88, 3) := of_decide_eq_true (List.all_eq_true.mp dsX3_readSetting_0_ok (32, (.putfield 88, 3)) (List.mem_of_getElem? (i := 16) rfl))
theorem dX3_readSetting_35 : decode cX3_readSetting 35 = .ok (.goto 41, 3) := of_decide_eq_true (List.all_eq_true.mp dsX3_readSetting_0_ok (35, (.goto 41, 3)) (List.mem_of_getElem? (i := 17) rfl))
theorem dX3_readSetting_38 : decode cX3_readSetting 38 = .ok (.iload_n 1, 1) := of_decide_eq_true (List.all_eq_true.mp dsX3_readSetting_0_ok (38, (.iload_n 1, 1)) (List.mem_of_getElem? (i := 18) rfl))
theorem dX3_readSetting_39 : decode cX3_readSetting 39 = .ok (.sipush 302, 3) := of_decide_eq_true (List.all_eq_true.mp dsX3_readSetting_0_ok (39, (.sipush 302, 3)) (List.mem_of_getElem? (i := 19) rfl))
theorem dX3_readSetting_42 : decode cX3_readSetting 42 = .ok (.if_icmp .ne 20, 3) := of_decide_eq_true (List.all_eq_true.mp dsX3_readSetting_0_ok (42, (.if_icmp .ne 20, 3)) (List.mem_of_getElem? (i := 20) rfl))
theorem dX3_readSetting_45 : decode cX3_readSetting 45 = .ok (.aload_n 0, 1) := of_decide_eq_true (List.all_eq_true.mp dsX3_readSetting_0_ok (45, (.aload_n 0, 1)) (List.mem_of_getElem? (i := 21) rfl))
theorem dX3_readSetting_46 : decode cX3_readSetting 46 = .ok (.getfield 12, 3) := of_decide_eq_true (List.all_eq_true.mp dsX3_readSetting_0_ok (46, (.getfield 12, 3)) (List.mem_of_getElem? (i := 22) rfl))
theorem dX3_readSetting_49 : decode cX3_readSetting 49 = .ok (.aload_n 0, 1) := of_decide_eq_true (List.all_eq_true.mp dsX3_readSetting_0_ok (49, (.aload_n 0, 1)) (List.mem_of_getElem? (i := 23) rfl))
theorem dX3_readSetting_50 : decode cX3_readSetting 50 = .ok (.iconst 0, 1) := of_decide_eq_true (List.all_eq_true.mp dsX3_readSetting_0_ok (50, (.iconst 0, 1)) (List.mem_of_getElem? (i := 24) rfl))
theorem dX3_readSetting_51 : decode cX3_readSetting 51 = .ok (.bipush 9, 2) := of_decide_eq_true (List.all_eq_true.mp dsX3_readSetting_0_ok (51, (.bipush 9, 2)) (List.mem_of_getElem? (i := 25) rfl))
theorem dX3_readSetting_53 : decode cX3_readSetting 53 = .ok (.invokevirtual 37, 3) := of_decide_eq_true (List.all_eq_true.mp dsX3_readSetting_0_ok (53, (.invokevirtual 37, 3)) (List.mem_of_getElem? (i := 26) rfl))
theorem dX3_readSetting_56 : decode cX3_readSetting 56 = .ok (.putfield 91, 3) := of_decide_eq_true (List.all_eq_true.mp dsX3_readSetting_0_ok (56, (.putfield 91, 3)) (List.mem_of_getElem? (i := 27) rfl))
theorem dX3_readSetting_59 : decode cX3_readSetting 59 = .ok (.goto 17, 3) := of_decide_eq_true (List.all_eq_true.mp dsX3_readSetting_0_ok (59, (.goto 17, 3)) (List.mem_of_getElem? (i := 28) rfl))
theorem dX3_readSetting_62 : decode cX3_readSetting 62 = .ok (.aload_n 0, 1) := of_decide_eq_true (List.all_eq_true.mp dsX3_readSetting_0_ok (62, (.aload_n 0, 1)) (List.mem_of_getElem? (i := 29) rfl))
theorem dX3_readSetting_63 : decode cX3_readSetting 63 = .ok (.getfield 12, 3) := of_decide_eq_true (List.all_eq_true.mp dsX3_readSetting_0_ok (63, (.getfield 12, 3)) (List.mem_of_getElem? (i := 30) rfl))
theorem dX3_readSetting_66 : decode cX3_readSetting 66 = .ok (.aload_n 0, 1) := of_decide_eq_true (List.all_eq_true.mp dsX3_readSetting_0_ok (66, (.aload_n 0, 1)) (List.mem_of_getElem? (i := 31) rfl))
theorem dX3_readSetting_67 : decode cX3_readSetting 67 = .ok (.iconst 0, 1) := of_decide_eq_true (List.all_eq_true.mp dsX3_readSetting_0_ok (67, (.iconst 0, 1)) (List.mem_of_getElem? (i := 32) rfl))
theorem dX3_readSetting_68 : decode cX3_readSetting 68 = .ok (.bipush 100, 2) := of_decide_eq_true (List.all_eq_true.mp dsX3_readSetting_0_ok (68, (.bipush 100, 2)) (List.mem_of_getElem? (i := 33) rfl))
theorem dX3_readSetting_70 : decode cX3_readSetting 70 = .ok (.invokevirtual 37, 3) := of_decide_eq_true (List.all_eq_true.mp dsX3_readSetting_0_ok (70, (.invokevirtual 37, 3)) (List.mem_of_getElem? (i := 34) rfl))
theorem dX3_readSetting_73 : decode cX3_readSetting 73 = .ok (.putfield 94, 3) := of_decide_eq_true (List.all_eq_true.mp dsX3_readSetting_0_ok (73, (.putfield 94, 3)) (List.mem_of_getElem? (i := 35) rfl))
theorem dX3_readSetting_76 : decode cX3_readSetting 76 = .ok (.return_, 1) := of_decide_eq_true (List.all_eq_true.mp dsX3_readSetting_0_ok (76, (.return_, 1)) (List.mem_of_getElem? (i := 36) rfl))
def fX3_readSetting (N : Nat) (textI : Nat → Int32) (text_valuesF : Nat → Int32) (text_kindsF : Nat → Int32) (text_startsF : Nat → Int32) (madeI : Nat → Int32) (text_valuesN : Nat) (text_kindsN : Nat) (text_startsN : Nat) (p1 : Int32) : Option ((Nat → Int32) × (Nat → Int32)) :=
  (xq_bd (fX10_next N textI) fun r_1 => (if p1 = 301 then (xq_bd (fX3_readNumber N r_1 text_valuesF text_kindsF text_startsF text_valuesN text_kindsN text_startsN 0 ((madeI 1) - 1)) fun (r_7_0, r_7_1) => some ((r_7_1, (va_up madeI 2 r_7_0)))) else (if p1 = 302 then (xq_bd (fX3_readNumber N r_1 text_valuesF text_kindsF text_startsF text_valuesN text_kindsN text_startsN 0 9) fun (r_5_0, r_5_1) => some ((r_5_1, (va_up madeI 3 r_5_0)))) else (xq_bd (fX3_readNumber N r_1 text_valuesF text_kindsF text_startsF text_valuesN text_kindsN text_startsN 0 100) fun (r_3_0, r_3_1) => some ((r_3_1, (va_up madeI 4 r_3_0)))))))
set_option maxHeartbeats 4000000 in
set_option maxRecDepth 100000 in
theorem kX3_readSetting (l : Launch) (dC : Nat → ClassId) (dI : Nat → Nat → Nat) (cI cB cJ cZ cM : ClassId) (z : Nat) (ad : Nat → Nat) (N : Nat) (a_p0 : Nat) (hrI : Nat → Int32) (hrR : Nat → Nat) (textI : Nat → Int32) (textR : Nat → Nat) (text_valuesF : Nat → Int32) (text_valuesN : Nat) (text_kindsF : Nat → Int32) (text_kindsN : Nat) (text_startsF : Nat → Int32) (text_startsN : Nat) (madeI : Nat → Int32) (madeR : Nat → Nat) (p1 : Int32) {r0 : Nat → Int32} {r1 : Nat → Int32} (hf : fX3_readSetting N textI text_valuesF text_kindsF text_startsF madeI text_valuesN text_kindsN text_startsN p1 = some (r0, r1)) : xq_Ct l yX3_readSetting wsX3_readSetting { frames := 2, cells := 0, slots := 0, locals := 44 } (dC, dI) vwCl (xq_tys cI cB cJ cZ cM) z ad [.ref a_p0, .int p1] [(a_p0, .inr (3, oX3 hrI hrR)), ((hrR 0), .inr (10, oX10 textI textR)), ((textR 3), .inl (cI, text_valuesN, .inl text_valuesF)), ((textR 1), .inl (cI, text_kindsN, .inl text_kindsF)), ((textR 2), .inl (cI, text_startsN, .inl text_startsF)), ((hrR 2), .inr (2, oX2 madeI madeR))] [(a_p0, .inr (3, oX3 hrI hrR)), ((hrR 0), .inr (10, oX10 r0 textR)), ((textR 3), .inl (cI, text_valuesN, .inl text_valuesF)), ((textR 1), .inl (cI, text_kindsN, .inl text_kindsF)), ((textR 2), .inl (cI, text_startsN, .inl text_startsF)), ((hrR 2), .inr (2, oX2 r1 madeR))] none := by
  intro sz
  refine Met.ofW (cc := cX3_readSetting) (maxL := 2) (ret := none) (by decide) rfl ?_
  intro p e s m args below meth c s₁ B hml hv
  obtain ⟨rfl, hsz, hP, hK, hD0, hE, hz⟩ := hv
  have hx := B.exec
  have hb := B.bytes
  have hr := B.returns
  have hts := atoms_spec (ws := wsX3_readSetting) B.pre
  have hown : s.vm.findClass RX3 = some m.cls := findClass_of_methodNamed B.named
  have hlocks := B.notSynchronized
  subst hsz
  have hD := hD0.self (sz := s.heap.size)
  have hN := xq_Env.of hE hz hD0
  generalize hAe : va_A [(a_p0, .inr (3, oX3 hrI hrR)), ((hrR 0), .inr (10, oX10 textI textR)), ((textR 3), .inl (cI, text_valuesN, .inl text_valuesF)), ((textR 1), .inl (cI, text_kindsN, .inl text_kindsF)), ((textR 2), .inl (cI, text_startsN, .inl text_startsF)), ((hrR 2), .inr (2, oX2 madeI madeR))] s.heap.size = A at hD hN ⊢
  have hA : ∀ q : Nat, s.heap.size ≤ q → A q := fun q h => by rw [← hAe]; exact Or.inr h
  clear hAe hD0
  have hS : va_S A s.heap s.heap [] := va_S.rf
  have hl := lv_entry ([.ref a_p0, .int p1]) (n := 2) (Nat.le_of_ble_eq_true rfl)
  rw [lg_entry_eq]
  generalize (lg_sl ([.ref a_p0, .int p1]) ++ List.replicate (2 - (lg_sl ([.ref a_p0, .int p1])).length) Slot.unset).toArray = ls at hl ⊢
  have hl : lv_has ls 2 [(0, .ref a_p0), (1, .int p1)] := hl
  have hw0 := hts (.fieldLink RX3 18 "DistantVoice$HouseReader" "text" "LDistantVoice$Text;") (by decide +kernel)
  have hinX3 : ∀ w ∈ wsX30, w ∈ wsX3_readSetting := fun w h => List.mem_cons_of_mem _ (List.mem_append_left _ (List.mem_append_left _ (List.mem_append_right _ h)))
  have hw2 := hts (.fieldLink RX3 12 "DistantVoice$HouseReader" "made" "LDistantVoice$House;") (by decide +kernel)
  have hnf43 := va_Nw.use (A := [.ref a_p0, .int p1].toArray) rfl (hN.1.1.1 ("DistantVoice$HouseReader", 94, "DistantVoice$House", "cough", "I", "DistantVoice") (List.mem_of_getElem? (i := 43) rfl))
  have hinX2 : ∀ w ∈ wsX20, w ∈ wsX3_readSetting := fun w h => List.mem_cons_of_mem _ (List.mem_append_left _ (List.mem_append_right _ h))
  have hnf42 := va_Nw.use (A := [.ref a_p0, .int p1].toArray) rfl (hN.1.1.1 ("DistantVoice$HouseReader", 91, "DistantVoice$House", "firstHush", "I", "DistantVoice") (List.mem_of_getElem? (i := 42) rfl))
  have hnf35 := va_Nw.use (A := [.ref a_p0, .int p1].toArray) rfl (hN.1.1.1 ("DistantVoice$HouseReader", 41, "DistantVoice$House", "roundMiles", "I", "DistantVoice") (List.mem_of_getElem? (i := 35) rfl))
  have hnf40 := va_Nw.use (A := [.ref a_p0, .int p1].toArray) rfl (hN.1.1.1 ("DistantVoice$HouseReader", 88, "DistantVoice$House", "firstMile", "I", "DistantVoice") (List.mem_of_getElem? (i := 40) rfl))
  unfold fX3_readSetting at hf
  refine lv_aload_n hx hb dX3_readSetting_0 rfl (lv_at hl 0 rfl) ?_
  refine va_get (D := (dC, dI)) (ci := 3) (v := .ref ((hrR 0))) (C := RX3) (T := TX3) (N := 3) hx hb hts hinX3 hown hK hP 0 rfl rfl 0 (by decide) hw0 (fun _ h9 => h9) rfl dX3_readSetting_1 ?_
  obtain ⟨r_1, h_2, hf⟩ := xq_bd_some hf
  refine xq_callV (As := []) (rest := []) (ci := 10) (q0 := 1) ⟨hx, hb, hml, hown, hts⟩ (kX10_next l dC dI cI cB cJ cZ cM z ad N ((hrR 0)) textI textR h_2) (cwV 0 hts gX3_readSetting_X10_next rfl rfl rfl (by decide +kernel) ⟨Nat.le_of_ble_eq_true rfl, Nat.le_of_ble_eq_true rfl⟩) hN hK hP hD hS hA [1] (by decide) rfl rfl rfl rfl rfl rfl hl.1 rfl (Nat.le_of_ble_eq_true rfl) dX3_readSetting_4 ⟨Nat.zero_le _, Nat.zero_le _⟩ (fun H locs hP hD hS => ?_)
  have hP : va_P (dC, dI) vwCl [(a_p0, .inr (3, oX3 hrI hrR)), ((hrR 0), .inr (10, oX10 r_1 textR)), ((textR 3), .inl (cI, text_valuesN, .inl text_valuesF)), ((textR 1), .inl (cI, text_kindsN, .inl text_kindsF)), ((textR 2), .inl (cI, text_startsN, .inl text_startsF)), ((hrR 2), .inr (2, oX2 madeI madeR))] H := hP
  have hD : va_D A [(a_p0, .inr (3, oX3 hrI hrR)), ((hrR 0), .inr (10, oX10 r_1 textR)), ((textR 3), .inl (cI, text_valuesN, .inl text_valuesF)), ((textR 1), .inl (cI, text_kindsN, .inl text_kindsF)), ((textR 2), .inl (cI, text_startsN, .inl text_startsF)), ((hrR 2), .inr (2, oX2 madeI madeR))] := hD
  refine W.eq (g2 := F0 m 7 ls []) rfl ?_
  refine lv_iload_n hx hb dX3_readSetting_7 rfl (lv_at hl 1 rfl) ?_
  refine lv_sipush (v := 301) hx hb dX3_readSetting_8 (by decide) ?_
  refine lv_icmp_ne (tgt := 38) hx hb dX3_readSetting_11 (by decide) (fun c_ => ?_) (fun c_ => ?_)
  · have hf := xq_neg hf c_
    refine lv_iload_n hx hb dX3_readSetting_38 rfl (lv_at hl 1 rfl) ?_
    refine lv_sipush (v := 302) hx hb dX3_readSetting_39 (by decide) ?_
    refine lv_icmp_ne (tgt := 62) hx hb dX3_readSetting_42 (by decide) (fun c_ => ?_) (fun c_ => ?_)
    · have hf := xq_neg hf c_
      refine lv_aload_n hx hb dX3_readSetting_62 rfl (lv_at hl 0 rfl) ?_
      refine va_get (D := (dC, dI)) (ci := 3) (v := .ref ((hrR 2))) (C := RX3) (T := TX3) (N := 3) hx hb hts hinX3 hown hK hP 0 rfl rfl 2 (by decide) hw2 (fun _ h9 => h9) rfl dX3_readSetting_63 ?_
      refine lv_aload_n hx hb dX3_readSetting_66 rfl (lv_at hl 0 rfl) ?_
      refine lv_iconst (v := 0) hx hb dX3_readSetting_67 (by decide) ?_
      refine lv_bipush (v := 100) hx hb dX3_readSetting_68 (by decide) ?_
      obtain ⟨⟨r_3_0, r_3_1⟩, h_4, hf⟩ := xq_bd_some hf
      refine xq_callV (As := [.int 0, .int 100]) (rest := [.ref ((hrR 2))]) (ci := 3) (q0 := 0) ⟨hx, hb, hml, hown, hts⟩ (kX3_readNumber l dC dI cI cB cJ cZ cM z ad N a_p0 hrI hrR r_1 textR text_valuesF text_valuesN text_kindsF text_kindsN text_startsF text_startsN 0 100 h_4) (cwV 2 hts gX3_readSetting_X3_readNumber rfl rfl rfl (by decide +kernel) ⟨Nat.le_of_ble_eq_true rfl, Nat.le_of_ble_eq_true rfl⟩) hN hK hP hD hS hA [0, 1, 2, 3, 4] (by decide) rfl rfl rfl rfl rfl rfl hl.1 rfl (Nat.le_of_ble_eq_true rfl) dX3_readSetting_70 ⟨Nat.zero_le _, Nat.zero_le _⟩ (fun H locs hP hD hS => ?_)
      have hP : va_P (dC, dI) vwCl [(a_p0, .inr (3, oX3 hrI hrR)), ((hrR 0), .inr (10, oX10 r_3_1 textR)), ((textR 3), .inl (cI, text_valuesN, .inl text_valuesF)), ((textR 1), .inl (cI, text_kindsN, .inl text_kindsF)), ((textR 2), .inl (cI, text_startsN, .inl text_startsF)), ((hrR 2), .inr (2, oX2 madeI madeR))] H := hP
      have hD : va_D A [(a_p0, .inr (3, oX3 hrI hrR)), ((hrR 0), .inr (10, oX10 r_3_1 textR)), ((textR 3), .inl (cI, text_valuesN, .inl text_valuesF)), ((textR 1), .inl (cI, text_kindsN, .inl text_kindsF)), ((textR 2), .inl (cI, text_startsN, .inl text_startsF)), ((hrR 2), .inr (2, oX2 madeI madeR))] := hD
      refine W.eq (g2 := F0 m 73 ls [.int r_3_0, .ref ((hrR 2))]) rfl ?_
      refine va_putN (D := (dC, dI)) (ci := 2) (v := .int r_3_0) (ty := .int) (C := RX2) (T := TX2) (N := 19) hx hb hts hinX2 tyX2 tyX2_ok nmX2 hown hK hP hD hS 5 rfl rfl 4 (by decide) hnf43 (fun _ h9 => h9) rfl (by decide +kernel) rfl rfl (Nat.le_of_ble_eq_true rfl) dX3_readSetting_73 (fun H locs hP hD hS => ?_)
      have hP : va_P (dC, dI) vwCl [(a_p0, .inr (3, oX3 hrI hrR)), ((hrR 0), .inr (10, oX10 r_3_1 textR)), ((textR 3), .inl (cI, text_valuesN, .inl text_valuesF)), ((textR 1), .inl (cI, text_kindsN, .inl text_kindsF)), ((textR 2), .inl (cI, text_startsN, .inl text_startsF)), ((hrR 2), .inr (2, oX2 (va_up madeI 4 r_3_0) madeR))] H := hP
      have hD : va_D A [(a_p0, .inr (3, oX3 hrI hrR)), ((hrR 0), .inr (10, oX10 r_3_1 textR)), ((textR 3), .inl (cI, text_valuesN, .inl text_valuesF)), ((textR 1), .inl (cI, text_kindsN, .inl text_kindsF)), ((textR 2), .inl (cI, text_startsN, .inl text_startsF)), ((hrR 2), .inr (2, oX2 (va_up madeI 4 r_3_0) madeR))] := hD
      cases hf
      exact xq_vret hx hb hr hlocks hK hP hD hS dX3_readSetting_76
    · have hf := xq_pos hf c_
      refine lv_aload_n hx hb dX3_readSetting_45 rfl (lv_at hl 0 rfl) ?_
      refine va_get (D := (dC, dI)) (ci := 3) (v := .ref ((hrR 2))) (C := RX3) (T := TX3) (N := 3) hx hb hts hinX3 hown hK hP 0 rfl rfl 2 (by decide) hw2 (fun _ h9 => h9) rfl dX3_readSetting_46 ?_
      refine lv_aload_n hx hb dX3_readSetting_49 rfl (lv_at hl 0 rfl) ?_
      refine lv_iconst (v := 0) hx hb dX3_readSetting_50 (by decide) ?_
      refine lv_bipush (v := 9) hx hb dX3_readSetting_51 (by decide) ?_
      obtain ⟨⟨r_5_0, r_5_1⟩, h_6, hf⟩ := xq_bd_some hf
      refine xq_callV (As := [.int 0, .int 9]) (rest := [.ref ((hrR 2))]) (ci := 3) (q0 := 0) ⟨hx, hb, hml, hown, hts⟩ (kX3_readNumber l dC dI cI cB cJ cZ cM z ad N a_p0 hrI hrR r_1 textR text_valuesF text_valuesN text_kindsF text_kindsN text_startsF text_startsN 0 9 h_6) (cwV 2 hts gX3_readSetting_X3_readNumber rfl rfl rfl (by decide +kernel) ⟨Nat.le_of_ble_eq_true rfl, Nat.le_of_ble_eq_true rfl⟩) hN hK hP hD hS hA [0, 1, 2, 3, 4] (by decide) rfl rfl rfl rfl rfl rfl hl.1 rfl (Nat.le_of_ble_eq_true rfl) dX3_readSetting_53 ⟨Nat.zero_le _, Nat.zero_le _⟩ (fun H locs hP hD hS => ?_)
      have hP : va_P (dC, dI) vwCl [(a_p0, .inr (3, oX3 hrI hrR)), ((hrR 0), .inr (10, oX10 r_5_1 textR)), ((textR 3), .inl (cI, text_valuesN, .inl text_valuesF)), ((textR 1), .inl (cI, text_kindsN, .inl text_kindsF)), ((textR 2), .inl (cI, text_startsN, .inl text_startsF)), ((hrR 2), .inr (2, oX2 madeI madeR))] H := hP
      have hD : va_D A [(a_p0, .inr (3, oX3 hrI hrR)), ((hrR 0), .inr (10, oX10 r_5_1 textR)), ((textR 3), .inl (cI, text_valuesN, .inl text_valuesF)), ((textR 1), .inl (cI, text_kindsN, .inl text_kindsF)), ((textR 2), .inl (cI, text_startsN, .inl text_startsF)), ((hrR 2), .inr (2, oX2 madeI madeR))] := hD
      refine W.eq (g2 := F0 m 56 ls [.int r_5_0, .ref ((hrR 2))]) rfl ?_
      refine va_putN (D := (dC, dI)) (ci := 2) (v := .int r_5_0) (ty := .int) (C := RX2) (T := TX2) (N := 19) hx hb hts hinX2 tyX2 tyX2_ok nmX2 hown hK hP hD hS 5 rfl rfl 3 (by decide) hnf42 (fun _ h9 => h9) rfl (by decide +kernel) rfl rfl (Nat.le_of_ble_eq_true rfl) dX3_readSetting_56 (fun H locs hP hD hS => ?_)
      have hP : va_P (dC, dI) vwCl [(a_p0, .inr (3, oX3 hrI hrR)), ((hrR 0), .inr (10, oX10 r_5_1 textR)), ((textR 3), .inl (cI, text_valuesN, .inl text_valuesF)), ((textR 1), .inl (cI, text_kindsN, .inl text_kindsF)), ((textR 2), .inl (cI, text_startsN, .inl text_startsF)), ((hrR 2), .inr (2, oX2 (va_up madeI 3 r_5_0) madeR))] H := hP
      have hD : va_D A [(a_p0, .inr (3, oX3 hrI hrR)), ((hrR 0), .inr (10, oX10 r_5_1 textR)), ((textR 3), .inl (cI, text_valuesN, .inl text_valuesF)), ((textR 1), .inl (cI, text_kindsN, .inl text_kindsF)), ((textR 2), .inl (cI, text_startsN, .inl text_startsF)), ((hrR 2), .inr (2, oX2 (va_up madeI 3 r_5_0) madeR))] := hD
      refine lv_goto (tgt := 76) hx hb dX3_readSetting_59 (by decide) ?_
      cases hf
      exact xq_vret hx hb hr hlocks hK hP hD hS dX3_readSetting_76
  · have hf := xq_pos hf c_
    refine lv_aload_n hx hb dX3_readSetting_14 rfl (lv_at hl 0 rfl) ?_
    refine va_get (D := (dC, dI)) (ci := 3) (v := .ref ((hrR 2))) (C := RX3) (T := TX3) (N := 3) hx hb hts hinX3 hown hK hP 0 rfl rfl 2 (by decide) hw2 (fun _ h9 => h9) rfl dX3_readSetting_15 ?_
    refine lv_aload_n hx hb dX3_readSetting_18 rfl (lv_at hl 0 rfl) ?_
    refine lv_iconst (v := 0) hx hb dX3_readSetting_19 (by decide) ?_
    refine lv_aload_n hx hb dX3_readSetting_20 rfl (lv_at hl 0 rfl) ?_
    refine va_get (D := (dC, dI)) (ci := 3) (v := .ref ((hrR 2))) (C := RX3) (T := TX3) (N := 3) hx hb hts hinX3 hown hK hP 0 rfl rfl 2 (by decide) hw2 (fun _ h9 => h9) rfl dX3_readSetting_21 ?_
    refine va_getN (D := (dC, dI)) (ci := 2) (v := .int (madeI 1)) (C := RX2) (T := TX2) (N := 19) hx hb hts hinX2 hown hK hP 5 rfl rfl 1 (by decide) hnf35 (fun _ h9 => h9) rfl dX3_readSetting_24 ?_
    refine lv_iconst (v := 1) hx hb dX3_readSetting_27 (by decide) ?_
    refine lv_isub hx hb dX3_readSetting_28 ?_
    obtain ⟨⟨r_7_0, r_7_1⟩, h_8, hf⟩ := xq_bd_some hf
    refine xq_callV (As := [.int 0, .int ((madeI 1) - 1)]) (rest := [.ref ((hrR 2))]) (ci := 3) (q0 := 0) ⟨hx, hb, hml, hown, hts⟩ (kX3_readNumber l dC dI cI cB cJ cZ cM z ad N a_p0 hrI hrR r_1 textR text_valuesF text_valuesN text_kindsF text_kindsN text_startsF text_startsN 0 ((madeI 1) - 1) h_8) (cwV 2 hts gX3_readSetting_X3_readNumber rfl rfl rfl (by decide +kernel) ⟨Nat.le_of_ble_eq_true rfl, Nat.le_of_ble_eq_true rfl⟩) hN hK hP hD hS hA [0, 1, 2, 3, 4] (by decide) rfl rfl rfl rfl rfl rfl hl.1 rfl (Nat.le_of_ble_eq_true rfl) dX3_readSetting_29 ⟨Nat.zero_le _, Nat.zero_le _⟩ (fun H locs hP hD hS => ?_)
    have hP : va_P (dC, dI) vwCl [(a_p0, .inr (3, oX3 hrI hrR)), ((hrR 0), .inr (10, oX10 r_7_1 textR)), ((textR 3), .inl (cI, text_valuesN, .inl text_valuesF)), ((textR 1), .inl (cI, text_kindsN, .inl text_kindsF)), ((textR 2), .inl (cI, text_startsN, .inl text_startsF)), ((hrR 2), .inr (2, oX2 madeI madeR))] H := hP
    have hD : va_D A [(a_p0, .inr (3, oX3 hrI hrR)), ((hrR 0), .inr (10, oX10 r_7_1 textR)), ((textR 3), .inl (cI, text_valuesN, .inl text_valuesF)), ((textR 1), .inl (cI, text_kindsN, .inl text_kindsF)), ((textR 2), .inl (cI, text_startsN, .inl text_startsF)), ((hrR 2), .inr (2, oX2 madeI madeR))] := hD
    refine W.eq (g2 := F0 m 32 ls [.int r_7_0, .ref ((hrR 2))]) rfl ?_
    refine va_putN (D := (dC, dI)) (ci := 2) (v := .int r_7_0) (ty := .int) (C := RX2) (T := TX2) (N := 19) hx hb hts hinX2 tyX2 tyX2_ok nmX2 hown hK hP hD hS 5 rfl rfl 2 (by decide) hnf40 (fun _ h9 => h9) rfl (by decide +kernel) rfl rfl (Nat.le_of_ble_eq_true rfl) dX3_readSetting_32 (fun H locs hP hD hS => ?_)
    have hP : va_P (dC, dI) vwCl [(a_p0, .inr (3, oX3 hrI hrR)), ((hrR 0), .inr (10, oX10 r_7_1 textR)), ((textR 3), .inl (cI, text_valuesN, .inl text_valuesF)), ((textR 1), .inl (cI, text_kindsN, .inl text_kindsF)), ((textR 2), .inl (cI, text_startsN, .inl text_startsF)), ((hrR 2), .inr (2, oX2 (va_up madeI 2 r_7_0) madeR))] H := hP
    have hD : va_D A [(a_p0, .inr (3, oX3 hrI hrR)), ((hrR 0), .inr (10, oX10 r_7_1 textR)), ((textR 3), .inl (cI, text_valuesN, .inl text_valuesF)), ((textR 1), .inl (cI, text_kindsN, .inl text_kindsF)), ((textR 2), .inl (cI, text_startsN, .inl text_startsF)), ((hrR 2), .inr (2, oX2 (va_up madeI 2 r_7_0) madeR))] := hD
    refine lv_goto (tgt := 76) hx hb dX3_readSetting_35 (by decide) ?_
    cases hf
    exact xq_vret hx hb hr hlocks hK hP hD hS dX3_readSetting_76
set_option maxRecDepth 20000 in
theorem ggX3_readEar_X10_fail : GoodIn wsX3_readEar wsX10_fail := goodIn_r _ [7, 8, 9, 10, 11, 12, 78, 79, 80, 81, 82, 83, 84, 85] rfl (by decide +kernel)
set_option maxRecDepth 20000 in
theorem gX3_readEar_X10_fail : GoodIn wsX3_readEar (wsV RX3 58 RX10 yX10_fail wsX10_fail) := goodIn_app (goodIn_of _ (by decide +kernel)) ggX3_readEar_X10_fail
set_option maxRecDepth 20000 in
theorem ggX3_readEar_X10_next : GoodIn wsX3_readEar wsX10_next := goodIn_r _ [16, 9, 10, 78, 79, 80, 81, 82, 83, 84, 85] rfl (by decide +kernel)
set_option maxRecDepth 20000 in
theorem gX3_readEar_X10_next : GoodIn wsX3_readEar (wsV RX3 74 RX10 yX10_next wsX10_next) := goodIn_app (goodIn_of _ (by decide +kernel)) ggX3_readEar_X10_next
set_option maxRecDepth 20000 in
theorem ggX3_readEar_X3_readNewName : GoodIn wsX3_readEar wsX3_readNewName := goodIn_r _ [21, 2, 1, 22, 23, 24, 6, 25, 9, 10, 26, 27, 28, 29, 30, 8, 31, 32, 33, 34, 35, 11, 12, 36, 37, 38, 39, 40, 41, 42, 43, 44, 3, 4, 5, 7, 13, 14, 15, 16, 56, 57, 58, 78, 79, 80, 81, 82, 83, 84, 85, 59, 60, 61, 62, 63, 64, 65, 66, 67, 68, 69, 70, 71, 72, 73, 74, 75, 76, 77] rfl (by decide +kernel)
set_option maxRecDepth 20000 in
theorem gX3_readEar_X3_readNewName : GoodIn wsX3_readEar (wsV RX3 104 RX3 yX3_readNewName wsX3_readNewName) := goodIn_app (goodIn_of _ (by decide +kernel)) ggX3_readEar_X3_readNewName
set_option maxRecDepth 20000 in
theorem ggX3_readEar_X10_take : GoodIn wsX3_readEar wsX10_take := goodIn_r _ [48, 49, 28, 29, 6, 30, 8, 9, 10, 31, 50, 14, 15, 16, 51, 33, 34, 35, 26, 11, 12, 78, 79, 80, 81, 82, 83, 84, 85] rfl (by decide +kernel)
set_option maxRecDepth 20000 in
theorem gX3_readEar_X10_take : GoodIn wsX3_readEar (wsV RX3 31 RX10 yX10_take wsX10_take) := goodIn_app (goodIn_of _ (by decide +kernel)) ggX3_readEar_X10_take
set_option maxRecDepth 20000 in
theorem ggX3_readEar_X3_readNumber : GoodIn wsX3_readEar wsX3_readNumber := goodIn_r _ [55, 2, 22, 23, 24, 6, 25, 9, 10, 26, 27, 28, 29, 30, 8, 31, 32, 33, 34, 35, 11, 12, 3, 4, 5, 7, 13, 14, 15, 16, 56, 57, 58, 78, 79, 80, 81, 82, 83, 84, 85] rfl (by decide +kernel)
set_option maxRecDepth 20000 in
theorem gX3_readEar_X3_readNumber : GoodIn wsX3_readEar (wsV RX3 37 RX3 yX3_readNumber wsX3_readNumber) := goodIn_app (goodIn_of _ (by decide +kernel)) ggX3_readEar_X3_readNumber
def dsX3_readEar_0 : List (Nat × Instr × Nat) := [(0, (.aload_n 0, 1)), (1, (.getfield 12, 3)), (4, (.getfield 97, 3)), (7, (.bipush 7, 2)), (9, (.if_icmp .lt 13, 3)), (12, (.aload_n 0, 1)), (13, (.getfield 18, 3)), (16, (.bipush 6, 2)), (18, (.invokevirtual 58, 3)), (21, (.return_, 1)), (22, (.aload_n 0, 1)), (23, (.getfield 18, 3)), (26, (.invokevirtual 74, 3)), (29, (.aload_n 0, 1)), (30, (.getfield 12, 3)), (33, (.getfield 100, 3)), (36, (.aload_n 0, 1)), (37, (.getfield 12, 3)), (40, (.getfield 97, 3)), (43, (.aload_n 0, 1)), (44, (.invokevirtual 104, 3)), (47, (.iastore, 1)), (48, (.aload_n 0, 1)), (49, (.getfield 18, 3)), (52, (.sipush 305, 3)), (55, (.invokevirtual 31, 3)), (58, (.aload_n 0, 1)), (59, (.getfield 12, 3)), (62, (.getfield 107, 3)), (65, (.aload_n 0, 1)), (66, (.getfield 12, 3)), (69, (.getfield 97, 3)), (72, (.aload_n 0, 1)), (73, (.iconst 0, 1)), (74, (.bipush 9, 2)), (76, (.invokevirtual 37, 3)), (79, (.iastore, 1)), (80, (.aload_n 0, 1)), (81, (.getfield 18, 3)), (84, (.sipush 306, 3)), (87, (.invokevirtual 31, 3)), (90, (.aload_n 0, 1)), (91, (.getfield 12, 3)), (94, (.getfield 110, 3)), (97, (.aload_n 0, 1)), (98, (.getfield 12, 3)), (101, (.getfield 97, 3)), (104, (.aload_n 0, 1)), (105, (.iconst 0, 1)), (106, (.bipush 9, 2)), (108, (.invokevirtual 37, 3)), (111, (.iastore, 1)), (112, (.aload_n 0, 1)), (113, (.getfield 12, 3)), (116, (.dup, 1)), (117, (.getfield 97, 3)), (120, (.iconst 1, 1)), (121, (.iadd, 1)), (122, (.putfield 97, 3)), (125, (.return_, 1))]
theorem dsX3_readEar_0_ok : (dsX3_readEar_0.all fun q => decide (decode cX3_readEar q.1 = .ok q.2)) = true := by decide +kernel
theorem dX3_readEar_0 : decode cX3_readEar 0 = .ok (.aload_n 0, 1) := of_decide_eq_true (List.all_eq_true.mp dsX3_readEar_0_ok (0, (.aload_n 0, 1)) (List.mem_of_getElem? (i := 0) rfl))
theorem dX3_readEar_1 : decode cX3_readEar 1 = .ok (.getfield 12, 3) := of_decide_eq_true (List.all_eq_true.mp dsX3_readEar_0_ok (1, (.getfield 12, 3)) (List.mem_of_getElem? (i := 1) rfl))
theorem dX3_readEar_4 : decode cX3_readEar 4 = .ok (.getfield 97, 3) := of_decide_eq_true (List.all_eq_true.mp dsX3_readEar_0_ok (4, (.getfield 97, 3)) (List.mem_of_getElem? (i := 2) rfl))
theorem dX3_readEar_7 : decode cX3_readEar 7 = .ok (.bipush 7, 2) := of_decide_eq_true (List.all_eq_true.mp dsX3_readEar_0_ok (7, (.bipush 7, 2)) (List.mem_of_getElem? (i := 3) rfl))
theorem dX3_readEar_9 : decode cX3_readEar 9 = .ok (.if_icmp .lt 13, 3) := of_decide_eq_true (List.all_eq_true.mp dsX3_readEar_0_ok (9, (.if_icmp .lt 13, 3)) (List.mem_of_getElem? (i := 4) rfl))
theorem dX3_readEar_12 : decode cX3_readEar 12 = .ok (.aload_n 0, 1) := of_decide_eq_true (List.all_eq_true.mp dsX3_readEar_0_ok (12, (.aload_n 0, 1)) (List.mem_of_getElem? (i := 5) rfl))
theorem dX3_readEar_13 : decode cX3_readEar 13 = .ok (.getfield 18, 3) := of_decide_eq_true (List.all_eq_true.mp dsX3_readEar_0_ok (13, (.getfield 18, 3)) (List.mem_of_getElem? (i := 6) rfl))
theorem dX3_readEar_16 : decode cX3_readEar 16 = .ok (.bipush 6, 2) := of_decide_eq_true (List.all_eq_true.mp dsX3_readEar_0_ok (16, (.bipush 6, 2)) (List.mem_of_getElem? (i := 7) rfl))
theorem dX3_readEar_18 : decode cX3_readEar 18 = .ok (.invokevirtual 58, 3) := of_decide_eq_true (List.all_eq_true.mp dsX3_readEar_0_ok (18, (.invokevirtual 58, 3)) (List.mem_of_getElem? (i := 8) rfl))
theorem dX3_readEar_21 : decode cX3_readEar 21 = .ok (.return_, 1) := of_decide_eq_true (List.all_eq_true.mp dsX3_readEar_0_ok (21, (.return_, 1)) (List.mem_of_getElem? (i := 9) rfl))
theorem dX3_readEar_22 : decode cX3_readEar 22 = .ok (.aload_n 0, 1) := of_decide_eq_true (List.all_eq_true.mp dsX3_readEar_0_ok (22, (.aload_n 0, 1)) (List.mem_of_getElem? (i := 10) rfl))
theorem dX3_readEar_23 : decode cX3_readEar 23 = .ok (.getfield 18, 3) := of_decide_eq_true (List.all_eq_true.mp dsX3_readEar_0_ok (23, (.getfield 18, 3)) (List.mem_of_getElem? (i := 11) rfl))
theorem dX3_readEar_26 : decode cX3_readEar 26 = .ok (.invokevirtual 74, 3) := of_decide_eq_true (List.all_eq_true.mp dsX3_readEar_0_ok (26, (.invokevirtual 74, 3)) (List.mem_of_getElem? (i := 12) rfl))
theorem dX3_readEar_29 : decode cX3_readEar 29 = .ok (.aload_n 0, 1) := of_decide_eq_true (List.all_eq_true.mp dsX3_readEar_0_ok (29, (.aload_n 0, 1)) (List.mem_of_getElem? (i := 13) rfl))
theorem dX3_readEar_30 : decode cX3_readEar 30 = .ok (.getfield 12, 3) := of_decide_eq_true (List.all_eq_true.mp dsX3_readEar_0_ok (30, (.getfield 12, 3)) (List.mem_of_getElem? (i := 14) rfl))
theorem dX3_readEar_33 : decode cX3_readEar 33 = .ok (.getfield 100, 3) := of_decide_eq_true (List.all_eq_true.mp dsX3_readEar_0_ok (33, (.getfield 100, 3)) (List.mem_of_getElem? (i := 15) rfl))
theorem dX3_readEar_36 : decode cX3_readEar 36 = .ok (.aload_n 0, 1) := of_decide_eq_true (List.all_eq_true.mp dsX3_readEar_0_ok (36, (.aload_n 0, 1)) (List.mem_of_getElem? (i := 16) rfl))
theorem dX3_readEar_37 : decode cX3_readEar 37 = .ok (.getfield 12, 3) := of_decide_eq_true (List.all_eq_true.mp dsX3_readEar_0_ok (37, (.getfield 12, 3)) (List.mem_of_getElem? (i := 17) rfl))
theorem dX3_readEar_40 : decode cX3_readEar 40 = .ok (.getfield 97, 3) := of_decide_eq_true (List.all_eq_true.mp dsX3_readEar_0_ok (40, (.getfield 97, 3)) (List.mem_of_getElem? (i := 18) rfl))
theorem dX3_readEar_43 : decode cX3_readEar 43 = .ok (.aload_n 0, 1) := of_decide_eq_true (List.all_eq_true.mp dsX3_readEar_0_ok (43, (.aload_n 0, 1)) (List.mem_of_getElem? (i := 19) rfl))
theorem dX3_readEar_44 : decode cX3_readEar 44 = .ok (.invokevirtual 104, 3) := of_decide_eq_true (List.all_eq_true.mp dsX3_readEar_0_ok (44, (.invokevirtual 104, 3)) (List.mem_of_getElem? (i := 20) rfl))
theorem dX3_readEar_47 : decode cX3_readEar 47 = .ok (.iastore, 1) := of_decide_eq_true (List.all_eq_true.mp dsX3_readEar_0_ok (47, (.iastore, 1)) (List.mem_of_getElem? (i := 21) rfl))
theorem dX3_readEar_48 : decode cX3_readEar 48 = .ok (.aload_n 0, 1) := of_decide_eq_true (List.all_eq_true.mp dsX3_readEar_0_ok (48, (.aload_n 0, 1)) (List.mem_of_getElem? (i := 22) rfl))
theorem dX3_readEar_49 : decode cX3_readEar 49 = .ok (.getfield 18, 3) := of_decide_eq_true (List.all_eq_true.mp dsX3_readEar_0_ok (49, (.getfield 18, 3)) (List.mem_of_getElem? (i := 23) rfl))
theorem dX3_readEar_52 : decode cX3_readEar 52 = .ok (.sipush 305, 3) := of_decide_eq_true (List.all_eq_true.mp dsX3_readEar_0_ok (52, (.sipush 305, 3)) (List.mem_of_getElem? (i := 24) rfl))
theorem dX3_readEar_55 : decode cX3_readEar 55 = .ok (.invokevirtual 31, 3) := of_decide_eq_true (List.all_eq_true.mp dsX3_readEar_0_ok (55, (.invokevirtual 31, 3)) (List.mem_of_getElem? (i := 25) rfl))
theorem dX3_readEar_58 : decode cX3_readEar 58 = .ok (.aload_n 0, 1) := of_decide_eq_true (List.all_eq_true.mp dsX3_readEar_0_ok (58, (.aload_n 0, 1)) (List.mem_of_getElem? (i := 26) rfl))
theorem dX3_readEar_59 : decode cX3_readEar 59 = .ok (.getfield 12, 3) := of_decide_eq_true (List.all_eq_true.mp dsX3_readEar_0_ok (59, (.getfield 12, 3)) (List.mem_of_getElem? (i := 27) rfl))
theorem dX3_readEar_62 : decode cX3_readEar 62 = .ok (.getfield 107, 3) := of_decide_eq_true (List.all_eq_true.mp dsX3_readEar_0_ok (62, (.getfield 107, 3)) (List.mem_of_getElem? (i := 28) rfl))
theorem dX3_readEar_65 : decode cX3_readEar 65 = .ok (.aload_n 0, 1) := of_decide_eq_true (List.all_eq_true.mp dsX3_readEar_0_ok (65, (.aload_n 0, 1)) (List.mem_of_getElem? (i := 29) rfl))
theorem dX3_readEar_66 : decode cX3_readEar 66 = .ok (.getfield 12, 3) := of_decide_eq_true (List.all_eq_true.mp dsX3_readEar_0_ok (66, (.getfield 12, 3)) (List.mem_of_getElem? (i := 30) rfl))
theorem dX3_readEar_69 : decode cX3_readEar 69 = .ok (.getfield 97, 3) := of_decide_eq_true (List.all_eq_true.mp dsX3_readEar_0_ok (69, (.getfield 97, 3)) (List.mem_of_getElem? (i := 31) rfl))
theorem dX3_readEar_72 : decode cX3_readEar 72 = .ok (.aload_n 0, 1) := of_decide_eq_true (List.all_eq_true.mp dsX3_readEar_0_ok (72, (.aload_n 0, 1)) (List.mem_of_getElem? (i := 32) rfl))
theorem dX3_readEar_73 : decode cX3_readEar 73 = .ok (.iconst 0, 1) := of_decide_eq_true (List.all_eq_true.mp dsX3_readEar_0_ok (73, (.iconst 0, 1)) (List.mem_of_getElem? (i := 33) rfl))
theorem dX3_readEar_74 : decode cX3_readEar 74 = .ok (.bipush 9, 2) := of_decide_eq_true (List.all_eq_true.mp dsX3_readEar_0_ok (74, (.bipush 9, 2)) (List.mem_of_getElem? (i := 34) rfl))
theorem dX3_readEar_76 : decode cX3_readEar 76 = .ok (.invokevirtual 37, 3) := of_decide_eq_true (List.all_eq_true.mp dsX3_readEar_0_ok (76, (.invokevirtual 37, 3)) (List.mem_of_getElem? (i := 35) rfl))
theorem dX3_readEar_79 : decode cX3_readEar 79 = .ok (.iastore, 1) := of_decide_eq_true (List.all_eq_true.mp dsX3_readEar_0_ok (79, (.iastore, 1)) (List.mem_of_getElem? (i := 36) rfl))
theorem dX3_readEar_80 : decode cX3_readEar 80 = .ok (.aload_n 0, 1) := of_decide_eq_true (List.all_eq_true.mp dsX3_readEar_0_ok (80, (.aload_n 0, 1)) (List.mem_of_getElem? (i := 37) rfl))
theorem dX3_readEar_81 : decode cX3_readEar 81 = .ok (.getfield 18, 3) := of_decide_eq_true (List.all_eq_true.mp dsX3_readEar_0_ok (81, (.getfield 18, 3)) (List.mem_of_getElem? (i := 38) rfl))
theorem dX3_readEar_84 : decode cX3_readEar 84 = .ok (.sipush 306, 3) := of_decide_eq_true (List.all_eq_true.mp dsX3_readEar_0_ok (84, (.sipush 306, 3)) (List.mem_of_getElem? (i := 39) rfl))
theorem dX3_readEar_87 : decode cX3_readEar 87 = .ok (.invokevirtual 31, 3) := of_decide_eq_true (List.all_eq_true.mp dsX3_readEar_0_ok (87, (.invokevirtual 31, 3)) (List.mem_of_getElem? (i := 40) rfl))
theorem dX3_readEar_90 : decode cX3_readEar 90 = .ok (.aload_n 0, 1) := of_decide_eq_true (List.all_eq_true.mp dsX3_readEar_0_ok (90, (.aload_n 0, 1)) (List.mem_of_getElem? (i := 41) rfl))
theorem dX3_readEar_91 : decode cX3_readEar 91 = .ok (.getfield 12, 3) := of_decide_eq_true (List.all_eq_true.mp dsX3_readEar_0_ok (91, (.getfield 12, 3)) (List.mem_of_getElem? (i := 42) rfl))
theorem dX3_readEar_94 : decode cX3_readEar 94 = .ok (.getfield 110, 3) := of_decide_eq_true (List.all_eq_true.mp dsX3_readEar_0_ok (94, (.getfield 110, 3)) (List.mem_of_getElem? (i := 43) rfl))
theorem dX3_readEar_97 : decode cX3_readEar 97 = .ok (.aload_n 0, 1) := of_decide_eq_true (List.all_eq_true.mp dsX3_readEar_0_ok (97, (.aload_n 0, 1)) (List.mem_of_getElem? (i := 44) rfl))
theorem dX3_readEar_98 : decode cX3_readEar 98 = .ok (.getfield 12, 3) := of_decide_eq_true (List.all_eq_true.mp dsX3_readEar_0_ok (98, (.getfield 12, 3)) (List.mem_of_getElem? (i := 45) rfl))
theorem dX3_readEar_101 : decode cX3_readEar 101 = .ok (.getfield 97, 3) := of_decide_eq_true (List.all_eq_true.mp dsX3_readEar_0_ok (101, (.getfield 97, 3)) (List.mem_of_getElem? (i := 46) rfl))
theorem dX3_readEar_104 : decode cX3_readEar 104 = .ok (.aload_n 0, 1) := of_decide_eq_true (List.all_eq_true.mp dsX3_readEar_0_ok (104, (.aload_n 0, 1)) (List.mem_of_getElem? (i := 47) rfl))
theorem dX3_readEar_105 : decode cX3_readEar 105 = .ok (.iconst 0, 1) := of_decide_eq_true (List.all_eq_true.mp dsX3_readEar_0_ok (105, (.iconst 0, 1)) (List.mem_of_getElem? (i := 48) rfl))
theorem dX3_readEar_106 : decode cX3_readEar 106 = .ok (.bipush 9, 2) := of_decide_eq_true (List.all_eq_true.mp dsX3_readEar_0_ok (106, (.bipush 9, 2)) (List.mem_of_getElem? (i := 49) rfl))
theorem dX3_readEar_108 : decode cX3_readEar 108 = .ok (.invokevirtual 37, 3) := of_decide_eq_true (List.all_eq_true.mp dsX3_readEar_0_ok (108, (.invokevirtual 37, 3)) (List.mem_of_getElem? (i := 50) rfl))
theorem dX3_readEar_111 : decode cX3_readEar 111 = .ok (.iastore, 1) := of_decide_eq_true (List.all_eq_true.mp dsX3_readEar_0_ok (111, (.iastore, 1)) (List.mem_of_getElem? (i := 51) rfl))
theorem dX3_readEar_112 : decode cX3_readEar 112 = .ok (.aload_n 0, 1) := of_decide_eq_true (List.all_eq_true.mp dsX3_readEar_0_ok (112, (.aload_n 0, 1)) (List.mem_of_getElem? (i := 52) rfl))
theorem dX3_readEar_113 : decode cX3_readEar 113 = .ok (.getfield 12, 3) := of_decide_eq_true (List.all_eq_true.mp dsX3_readEar_0_ok (113, (.getfield 12, 3)) (List.mem_of_getElem? (i := 53) rfl))
theorem dX3_readEar_116 : decode cX3_readEar 116 = .ok (.dup, 1) := of_decide_eq_true (List.all_eq_true.mp dsX3_readEar_0_ok (116, (.dup, 1)) (List.mem_of_getElem? (i := 54) rfl))
theorem dX3_readEar_117 : decode cX3_readEar 117 = .ok (.getfield 97, 3) := of_decide_eq_true (List.all_eq_true.mp dsX3_readEar_0_ok (117, (.getfield 97, 3)) (List.mem_of_getElem? (i := 55) rfl))
theorem dX3_readEar_120 : decode cX3_readEar 120 = .ok (.iconst 1, 1) := of_decide_eq_true (List.all_eq_true.mp dsX3_readEar_0_ok (120, (.iconst 1, 1)) (List.mem_of_getElem? (i := 56) rfl))
theorem dX3_readEar_121 : decode cX3_readEar 121 = .ok (.iadd, 1) := of_decide_eq_true (List.all_eq_true.mp dsX3_readEar_0_ok (121, (.iadd, 1)) (List.mem_of_getElem? (i := 57) rfl))
theorem dX3_readEar_122 : decode cX3_readEar 122 = .ok (.putfield 97, 3) := of_decide_eq_true (List.all_eq_true.mp dsX3_readEar_0_ok (122, (.putfield 97, 3)) (List.mem_of_getElem? (i := 58) rfl))
theorem dX3_readEar_125 : decode cX3_readEar 125 = .ok (.return_, 1) := of_decide_eq_true (List.all_eq_true.mp dsX3_readEar_0_ok (125, (.return_, 1)) (List.mem_of_getElem? (i := 59) rfl))
def fX3_readEar (N : Nat) (madeI : Nat → Int32) (textI : Nat → Int32) (text_valuesF : Nat → Int32) (text_kindsF : Nat → Int32) (made_earNamesF : Nat → Int32) (made_placeNamesF : Nat → Int32) (text_startsF : Nat → Int32) (made_rowsF : Nat → Int32) (made_sharpsF : Nat → Int32) (text_valuesN : Nat) (text_kindsN : Nat) (text_startsN : Nat)  : Option ((Nat → Int32) × (Nat → Int32) × (Nat → Int32) × (Nat → Int32) × (Nat → Int32)) :=
  (if (madeI 5) < 7 then (xq_bd (fX10_next N textI) fun r_1 => (xq_bd (fX3_readNewName N r_1 text_valuesF text_kindsF madeI made_earNamesF made_placeNamesF text_startsF text_valuesN text_kindsN text_startsN) fun (r_3_0, r_3_1) => (xq_bd (xq_ast 7 made_earNamesF (madeI 5) r_3_0) fun g_5 => (xq_bd (fX10_take N r_3_1 text_kindsF text_startsF text_valuesF text_kindsN text_startsN text_valuesN 305) fun r_6 => (xq_bd (fX3_readNumber N r_6 text_valuesF text_kindsF text_startsF text_valuesN text_kindsN text_startsN 0 9) fun (r_8_0, r_8_1) => (xq_bd (xq_ast 7 made_rowsF (madeI 5) r_8_0) fun g_10 => (xq_bd (fX10_take N r_8_1 text_kindsF text_startsF text_valuesF text_kindsN text_startsN text_valuesN 306) fun r_11 => (xq_bd (fX3_readNumber N r_11 text_valuesF text_kindsF text_startsF text_valuesN text_kindsN text_startsN 0 9) fun (r_13_0, r_13_1) => (xq_bd (xq_ast 7 made_sharpsF (madeI 5) r_13_0) fun g_15 => some (((va_up madeI 5 ((madeI 5) + 1)), r_13_1, g_5, g_10, g_15))))))))))) else (xq_bd (fX10_fail N textI text_startsF text_startsN 6) fun r_16 => some ((madeI, r_16, made_earNamesF, made_rowsF, made_sharpsF))))
set_option maxHeartbeats 4000000 in
set_option maxRecDepth 100000 in
theorem kX3_readEar (l : Launch) (dC : Nat → ClassId) (dI : Nat → Nat → Nat) (cI cB cJ cZ cM : ClassId) (z : Nat) (ad : Nat → Nat) (N : Nat) (a_p0 : Nat) (hrI : Nat → Int32) (hrR : Nat → Nat) (madeI : Nat → Int32) (madeR : Nat → Nat) (textI : Nat → Int32) (textR : Nat → Nat) (text_valuesF : Nat → Int32) (text_valuesN : Nat) (text_kindsF : Nat → Int32) (text_kindsN : Nat) (made_earNamesF : Nat → Int32) (made_placeNamesF : Nat → Int32) (text_startsF : Nat → Int32) (text_startsN : Nat) (made_rowsF : Nat → Int32) (made_sharpsF : Nat → Int32) {r0 : Nat → Int32} {r1 : Nat → Int32} {r2 : Nat → Int32} {r3 : Nat → Int32} {r4 : Nat → Int32} (hf : fX3_readEar N madeI textI text_valuesF text_kindsF made_earNamesF made_placeNamesF text_startsF made_rowsF made_sharpsF text_valuesN text_kindsN text_startsN = some (r0, r1, r2, r3, r4)) : xq_Ct l yX3_readEar wsX3_readEar { frames := 2, cells := 0, slots := 0, locals := 44 } (dC, dI) vwCl (xq_tys cI cB cJ cZ cM) z ad [.ref a_p0] [(a_p0, .inr (3, oX3 hrI hrR)), ((hrR 2), .inr (2, oX2 madeI madeR)), ((hrR 0), .inr (10, oX10 textI textR)), ((textR 3), .inl (cI, text_valuesN, .inl text_valuesF)), ((textR 1), .inl (cI, text_kindsN, .inl text_kindsF)), ((madeR 7), .inl (cI, 7, .inl made_earNamesF)), ((madeR 10), .inl (cI, 6, .inl made_placeNamesF)), ((textR 2), .inl (cI, text_startsN, .inl text_startsF)), ((madeR 8), .inl (cI, 7, .inl made_rowsF)), ((madeR 9), .inl (cI, 7, .inl made_sharpsF))] [(a_p0, .inr (3, oX3 hrI hrR)), ((hrR 2), .inr (2, oX2 r0 madeR)), ((hrR 0), .inr (10, oX10 r1 textR)), ((textR 3), .inl (cI, text_valuesN, .inl text_valuesF)), ((textR 1), .inl (cI, text_kindsN, .inl text_kindsF)), ((madeR 7), .inl (cI, 7, .inl r2)), ((madeR 10), .inl (cI, 6, .inl made_placeNamesF)), ((textR 2), .inl (cI, text_startsN, .inl text_startsF)), ((madeR 8), .inl (cI, 7, .inl r3)), ((madeR 9), .inl (cI, 7, .inl r4))] none := by
  intro sz
  refine Met.ofW (cc := cX3_readEar) (maxL := 1) (ret := none) (by decide) rfl ?_
  intro p e s m args below meth c s₁ B hml hv
  obtain ⟨rfl, hsz, hP, hK, hD0, hE, hz⟩ := hv
  have hx := B.exec
  have hb := B.bytes
  have hr := B.returns
  have hts := atoms_spec (ws := wsX3_readEar) B.pre
  have hown : s.vm.findClass RX3 = some m.cls := findClass_of_methodNamed B.named
  have hlocks := B.notSynchronized
  subst hsz
  have hD := hD0.self (sz := s.heap.size)
  have hN := xq_Env.of hE hz hD0
  generalize hAe : va_A [(a_p0, .inr (3, oX3 hrI hrR)), ((hrR 2), .inr (2, oX2 madeI madeR)), ((hrR 0), .inr (10, oX10 textI textR)), ((textR 3), .inl (cI, text_valuesN, .inl text_valuesF)), ((textR 1), .inl (cI, text_kindsN, .inl text_kindsF)), ((madeR 7), .inl (cI, 7, .inl made_earNamesF)), ((madeR 10), .inl (cI, 6, .inl made_placeNamesF)), ((textR 2), .inl (cI, text_startsN, .inl text_startsF)), ((madeR 8), .inl (cI, 7, .inl made_rowsF)), ((madeR 9), .inl (cI, 7, .inl made_sharpsF))] s.heap.size = A at hD hN ⊢
  have hA : ∀ q : Nat, s.heap.size ≤ q → A q := fun q h => by rw [← hAe]; exact Or.inr h
  clear hAe hD0
  have hS : va_S A s.heap s.heap [] := va_S.rf
  have hl := lv_entry ([.ref a_p0]) (n := 1) (Nat.le_of_ble_eq_true rfl)
  rw [lg_entry_eq]
  generalize (lg_sl ([.ref a_p0]) ++ List.replicate (1 - (lg_sl ([.ref a_p0])).length) Slot.unset).toArray = ls at hl ⊢
  have hl : lv_has ls 1 [(0, .ref a_p0)] := hl
  have hw0 := hts (.fieldLink RX3 12 "DistantVoice$HouseReader" "made" "LDistantVoice$House;") (by decide +kernel)
  have hinX3 : ∀ w ∈ wsX30, w ∈ wsX3_readEar := fun w h => List.mem_cons_of_mem _ (List.mem_append_left _ (List.mem_append_left _ (List.mem_append_right _ h)))
  have hnf46 := va_Nw.use (A := [.ref a_p0].toArray) rfl (hN.1.1.1 ("DistantVoice$HouseReader", 97, "DistantVoice$House", "ears", "I", "DistantVoice") (List.mem_of_getElem? (i := 46) rfl))
  have hinX2 : ∀ w ∈ wsX20, w ∈ wsX3_readEar := fun w h => List.mem_cons_of_mem _ (List.mem_append_left _ (List.mem_append_right _ h))
  have hw4 := hts (.fieldLink RX3 18 "DistantVoice$HouseReader" "text" "LDistantVoice$Text;") (by decide +kernel)
  have hnf53 := va_Nw.use (A := [.ref a_p0].toArray) rfl (hN.1.1.1 ("DistantVoice$HouseReader", 100, "DistantVoice$House", "earNames", "[I", "DistantVoice") (List.mem_of_getElem? (i := 53) rfl))
  have hnf56 := va_Nw.use (A := [.ref a_p0].toArray) rfl (hN.1.1.1 ("DistantVoice$HouseReader", 107, "DistantVoice$House", "rows", "[I", "DistantVoice") (List.mem_of_getElem? (i := 56) rfl))
  have hnf57 := va_Nw.use (A := [.ref a_p0].toArray) rfl (hN.1.1.1 ("DistantVoice$HouseReader", 110, "DistantVoice$House", "sharps", "[I", "DistantVoice") (List.mem_of_getElem? (i := 57) rfl))
  unfold fX3_readEar at hf
  refine lv_aload_n hx hb dX3_readEar_0 rfl (lv_at hl 0 rfl) ?_
  refine va_get (D := (dC, dI)) (ci := 3) (v := .ref ((hrR 2))) (C := RX3) (T := TX3) (N := 3) hx hb hts hinX3 hown hK hP 0 rfl rfl 2 (by decide) hw0 (fun _ h9 => h9) rfl dX3_readEar_1 ?_
  refine va_getN (D := (dC, dI)) (ci := 2) (v := .int (madeI 5)) (C := RX2) (T := TX2) (N := 19) hx hb hts hinX2 hown hK hP 1 rfl rfl 5 (by decide) hnf46 (fun _ h9 => h9) rfl dX3_readEar_4 ?_
  refine lv_bipush (v := 7) hx hb dX3_readEar_7 (by decide) ?_
  refine lv_icmp_lt (tgt := 22) hx hb dX3_readEar_9 (by decide) (fun c_ => ?_) (fun c_ => ?_)
  · have hf := xq_pos hf c_
    refine lv_aload_n hx hb dX3_readEar_22 rfl (lv_at hl 0 rfl) ?_
    refine va_get (D := (dC, dI)) (ci := 3) (v := .ref ((hrR 0))) (C := RX3) (T := TX3) (N := 3) hx hb hts hinX3 hown hK hP 0 rfl rfl 0 (by decide) hw4 (fun _ h9 => h9) rfl dX3_readEar_23 ?_
    obtain ⟨r_1, h_2, hf⟩ := xq_bd_some hf
    refine xq_callV (As := []) (rest := []) (ci := 10) (q0 := 2) ⟨hx, hb, hml, hown, hts⟩ (kX10_next l dC dI cI cB cJ cZ cM z ad N ((hrR 0)) textI textR h_2) (cwV 0 hts gX3_readEar_X10_next rfl rfl rfl (by decide +kernel) ⟨Nat.le_of_ble_eq_true rfl, Nat.le_of_ble_eq_true rfl⟩) hN hK hP hD hS hA [2] (by decide) rfl rfl rfl rfl rfl rfl hl.1 rfl (Nat.le_of_ble_eq_true rfl) dX3_readEar_26 ⟨Nat.zero_le _, Nat.zero_le _⟩ (fun H locs hP hD hS => ?_)
    have hP : va_P (dC, dI) vwCl [(a_p0, .inr (3, oX3 hrI hrR)), ((hrR 2), .inr (2, oX2 madeI madeR)), ((hrR 0), .inr (10, oX10 r_1 textR)), ((textR 3), .inl (cI, text_valuesN, .inl text_valuesF)), ((textR 1), .inl (cI, text_kindsN, .inl text_kindsF)), ((madeR 7), .inl (cI, 7, .inl made_earNamesF)), ((madeR 10), .inl (cI, 6, .inl made_placeNamesF)), ((textR 2), .inl (cI, text_startsN, .inl text_startsF)), ((madeR 8), .inl (cI, 7, .inl made_rowsF)), ((madeR 9), .inl (cI, 7, .inl made_sharpsF))] H := hP
    have hD : va_D A [(a_p0, .inr (3, oX3 hrI hrR)), ((hrR 2), .inr (2, oX2 madeI madeR)), ((hrR 0), .inr (10, oX10 r_1 textR)), ((textR 3), .inl (cI, text_valuesN, .inl text_valuesF)), ((textR 1), .inl (cI, text_kindsN, .inl text_kindsF)), ((madeR 7), .inl (cI, 7, .inl made_earNamesF)), ((madeR 10), .inl (cI, 6, .inl made_placeNamesF)), ((textR 2), .inl (cI, text_startsN, .inl text_startsF)), ((madeR 8), .inl (cI, 7, .inl made_rowsF)), ((madeR 9), .inl (cI, 7, .inl made_sharpsF))] := hD
    refine W.eq (g2 := F0 m 29 ls []) rfl ?_
    refine lv_aload_n hx hb dX3_readEar_29 rfl (lv_at hl 0 rfl) ?_
    refine va_get (D := (dC, dI)) (ci := 3) (v := .ref ((hrR 2))) (C := RX3) (T := TX3) (N := 3) hx hb hts hinX3 hown hK hP 0 rfl rfl 2 (by decide) hw0 (fun _ h9 => h9) rfl dX3_readEar_30 ?_
    refine va_getN (D := (dC, dI)) (ci := 2) (v := .ref ((madeR 7))) (C := RX2) (T := TX2) (N := 19) hx hb hts hinX2 hown hK hP 1 rfl rfl 7 (by decide) hnf53 (fun _ h9 => h9) rfl dX3_readEar_33 ?_
    refine lv_aload_n hx hb dX3_readEar_36 rfl (lv_at hl 0 rfl) ?_
    refine va_get (D := (dC, dI)) (ci := 3) (v := .ref ((hrR 2))) (C := RX3) (T := TX3) (N := 3) hx hb hts hinX3 hown hK hP 0 rfl rfl 2 (by decide) hw0 (fun _ h9 => h9) rfl dX3_readEar_37 ?_
    refine va_getN (D := (dC, dI)) (ci := 2) (v := .int (madeI 5)) (C := RX2) (T := TX2) (N := 19) hx hb hts hinX2 hown hK hP 1 rfl rfl 5 (by decide) hnf46 (fun _ h9 => h9) rfl dX3_readEar_40 ?_
    refine lv_aload_n hx hb dX3_readEar_43 rfl (lv_at hl 0 rfl) ?_
    obtain ⟨⟨r_3_0, r_3_1⟩, h_4, hf⟩ := xq_bd_some hf
    refine xq_callV (As := []) (rest := [.int (madeI 5), .ref ((madeR 7))]) (ci := 3) (q0 := 0) ⟨hx, hb, hml, hown, hts⟩ (kX3_readNewName l dC dI cI cB cJ cZ cM z ad N a_p0 hrI hrR r_1 textR text_valuesF text_valuesN text_kindsF text_kindsN madeI madeR made_earNamesF made_placeNamesF text_startsF text_startsN h_4) (cwV 0 hts gX3_readEar_X3_readNewName rfl rfl rfl (by decide +kernel) ⟨Nat.le_of_ble_eq_true rfl, Nat.le_of_ble_eq_true rfl⟩) hN hK hP hD hS hA [0, 2, 3, 4, 1, 5, 6, 7] (by decide) rfl rfl rfl rfl rfl rfl hl.1 rfl (Nat.le_of_ble_eq_true rfl) dX3_readEar_44 ⟨Nat.zero_le _, Nat.zero_le _⟩ (fun H locs hP hD hS => ?_)
    have hP : va_P (dC, dI) vwCl [(a_p0, .inr (3, oX3 hrI hrR)), ((hrR 2), .inr (2, oX2 madeI madeR)), ((hrR 0), .inr (10, oX10 r_3_1 textR)), ((textR 3), .inl (cI, text_valuesN, .inl text_valuesF)), ((textR 1), .inl (cI, text_kindsN, .inl text_kindsF)), ((madeR 7), .inl (cI, 7, .inl made_earNamesF)), ((madeR 10), .inl (cI, 6, .inl made_placeNamesF)), ((textR 2), .inl (cI, text_startsN, .inl text_startsF)), ((madeR 8), .inl (cI, 7, .inl made_rowsF)), ((madeR 9), .inl (cI, 7, .inl made_sharpsF))] H := hP
    have hD : va_D A [(a_p0, .inr (3, oX3 hrI hrR)), ((hrR 2), .inr (2, oX2 madeI madeR)), ((hrR 0), .inr (10, oX10 r_3_1 textR)), ((textR 3), .inl (cI, text_valuesN, .inl text_valuesF)), ((textR 1), .inl (cI, text_kindsN, .inl text_kindsF)), ((madeR 7), .inl (cI, 7, .inl made_earNamesF)), ((madeR 10), .inl (cI, 6, .inl made_placeNamesF)), ((textR 2), .inl (cI, text_startsN, .inl text_startsF)), ((madeR 8), .inl (cI, 7, .inl made_rowsF)), ((madeR 9), .inl (cI, 7, .inl made_sharpsF))] := hD
    refine W.eq (g2 := F0 m 47 ls [.int r_3_0, .int (madeI 5), .ref ((madeR 7))]) rfl ?_
    refine xq_iast hx hb hK hP hD hS 5 0 rfl rfl hf dX3_readEar_47 (fun g_5 H locs hf hP hD hS => ?_)
    have hP : va_P (dC, dI) vwCl [(a_p0, .inr (3, oX3 hrI hrR)), ((hrR 2), .inr (2, oX2 madeI madeR)), ((hrR 0), .inr (10, oX10 r_3_1 textR)), ((textR 3), .inl (cI, text_valuesN, .inl text_valuesF)), ((textR 1), .inl (cI, text_kindsN, .inl text_kindsF)), ((madeR 7), .inl (cI, 7, .inl g_5)), ((madeR 10), .inl (cI, 6, .inl made_placeNamesF)), ((textR 2), .inl (cI, text_startsN, .inl text_startsF)), ((madeR 8), .inl (cI, 7, .inl made_rowsF)), ((madeR 9), .inl (cI, 7, .inl made_sharpsF))] H := hP
    have hD : va_D A [(a_p0, .inr (3, oX3 hrI hrR)), ((hrR 2), .inr (2, oX2 madeI madeR)), ((hrR 0), .inr (10, oX10 r_3_1 textR)), ((textR 3), .inl (cI, text_valuesN, .inl text_valuesF)), ((textR 1), .inl (cI, text_kindsN, .inl text_kindsF)), ((madeR 7), .inl (cI, 7, .inl g_5)), ((madeR 10), .inl (cI, 6, .inl made_placeNamesF)), ((textR 2), .inl (cI, text_startsN, .inl text_startsF)), ((madeR 8), .inl (cI, 7, .inl made_rowsF)), ((madeR 9), .inl (cI, 7, .inl made_sharpsF))] := hD
    refine lv_aload_n hx hb dX3_readEar_48 rfl (lv_at hl 0 rfl) ?_
    refine va_get (D := (dC, dI)) (ci := 3) (v := .ref ((hrR 0))) (C := RX3) (T := TX3) (N := 3) hx hb hts hinX3 hown hK hP 0 rfl rfl 0 (by decide) hw4 (fun _ h9 => h9) rfl dX3_readEar_49 ?_
    refine lv_sipush (v := 305) hx hb dX3_readEar_52 (by decide) ?_
    obtain ⟨r_6, h_7, hf⟩ := xq_bd_some hf
    refine xq_callV (As := [.int 305]) (rest := []) (ci := 10) (q0 := 2) ⟨hx, hb, hml, hown, hts⟩ (kX10_take l dC dI cI cB cJ cZ cM z ad N ((hrR 0)) r_3_1 textR text_kindsF text_kindsN text_startsF text_startsN text_valuesF text_valuesN 305 h_7) (cwV 1 hts gX3_readEar_X10_take rfl rfl rfl (by decide +kernel) ⟨Nat.le_of_ble_eq_true rfl, Nat.le_of_ble_eq_true rfl⟩) hN hK hP hD hS hA [2, 4, 7, 3] (by decide) rfl rfl rfl rfl rfl rfl hl.1 rfl (Nat.le_of_ble_eq_true rfl) dX3_readEar_55 ⟨Nat.zero_le _, Nat.zero_le _⟩ (fun H locs hP hD hS => ?_)
    have hP : va_P (dC, dI) vwCl [(a_p0, .inr (3, oX3 hrI hrR)), ((hrR 2), .inr (2, oX2 madeI madeR)), ((hrR 0), .inr (10, oX10 r_6 textR)), ((textR 3), .inl (cI, text_valuesN, .inl text_valuesF)), ((textR 1), .inl (cI, text_kindsN, .inl text_kindsF)), ((madeR 7), .inl (cI, 7, .inl g_5)), ((madeR 10), .inl (cI, 6, .inl made_placeNamesF)), ((textR 2), .inl (cI, text_startsN, .inl text_startsF)), ((madeR 8), .inl (cI, 7, .inl made_rowsF)), ((madeR 9), .inl (cI, 7, .inl made_sharpsF))] H := hP
    have hD : va_D A [(a_p0, .inr (3, oX3 hrI hrR)), ((hrR 2), .inr (2, oX2 madeI madeR)), ((hrR 0), .inr (10, oX10 r_6 textR)), ((textR 3), .inl (cI, text_valuesN, .inl text_valuesF)), ((textR 1), .inl (cI, text_kindsN, .inl text_kindsF)), ((madeR 7), .inl (cI, 7, .inl g_5)), ((madeR 10), .inl (cI, 6, .inl made_placeNamesF)), ((textR 2), .inl (cI, text_startsN, .inl text_startsF)), ((madeR 8), .inl (cI, 7, .inl made_rowsF)), ((madeR 9), .inl (cI, 7, .inl made_sharpsF))] := hD
    refine W.eq (g2 := F0 m 58 ls []) rfl ?_
    refine lv_aload_n hx hb dX3_readEar_58 rfl (lv_at hl 0 rfl) ?_
    refine va_get (D := (dC, dI)) (ci := 3) (v := .ref ((hrR 2))) (C := RX3) (T := TX3) (N := 3) hx hb hts hinX3 hown hK hP 0 rfl rfl 2 (by decide) hw0 (fun _ h9 => h9) rfl dX3_readEar_59 ?_
    refine va_getN (D := (dC, dI)) (ci := 2) (v := .ref ((madeR 8))) (C := RX2) (T := TX2) (N := 19) hx hb hts hinX2 hown hK hP 1 rfl rfl 8 (by decide) hnf56 (fun _ h9 => h9) rfl dX3_readEar_62 ?_
    refine lv_aload_n hx hb dX3_readEar_65 rfl (lv_at hl 0 rfl) ?_
    refine va_get (D := (dC, dI)) (ci := 3) (v := .ref ((hrR 2))) (C := RX3) (T := TX3) (N := 3) hx hb hts hinX3 hown hK hP 0 rfl rfl 2 (by decide) hw0 (fun _ h9 => h9) rfl dX3_readEar_66 ?_
    refine va_getN (D := (dC, dI)) (ci := 2) (v := .int (madeI 5)) (C := RX2) (T := TX2) (N := 19) hx hb hts hinX2 hown hK hP 1 rfl rfl 5 (by decide) hnf46 (fun _ h9 => h9) rfl dX3_readEar_69 ?_
    refine lv_aload_n hx hb dX3_readEar_72 rfl (lv_at hl 0 rfl) ?_
    refine lv_iconst (v := 0) hx hb dX3_readEar_73 (by decide) ?_
    refine lv_bipush (v := 9) hx hb dX3_readEar_74 (by decide) ?_
    obtain ⟨⟨r_8_0, r_8_1⟩, h_9, hf⟩ := xq_bd_some hf
    refine xq_callV (As := [.int 0, .int 9]) (rest := [.int (madeI 5), .ref ((madeR 8))]) (ci := 3) (q0 := 0) ⟨hx, hb, hml, hown, hts⟩ (kX3_readNumber l dC dI cI cB cJ cZ cM z ad N a_p0 hrI hrR r_6 textR text_valuesF text_valuesN text_kindsF text_kindsN text_startsF text_startsN 0 9 h_9) (cwV 2 hts gX3_readEar_X3_readNumber rfl rfl rfl (by decide +kernel) ⟨Nat.le_of_ble_eq_true rfl, Nat.le_of_ble_eq_true rfl⟩) hN hK hP hD hS hA [0, 2, 3, 4, 7] (by decide) rfl rfl rfl rfl rfl rfl hl.1 rfl (Nat.le_of_ble_eq_true rfl) dX3_readEar_76 ⟨Nat.zero_le _, Nat.zero_le _⟩ (fun H locs hP hD hS => ?_)
    have hP : va_P (dC, dI) vwCl [(a_p0, .inr (3, oX3 hrI hrR)), ((hrR 2), .inr (2, oX2 madeI madeR)), ((hrR 0), .inr (10, oX10 r_8_1 textR)), ((textR 3), .inl (cI, text_valuesN, .inl text_valuesF)), ((textR 1), .inl (cI, text_kindsN, .inl text_kindsF)), ((madeR 7), .inl (cI, 7, .inl g_5)), ((madeR 10), .inl (cI, 6, .inl made_placeNamesF)), ((textR 2), .inl (cI, text_startsN, .inl text_startsF)), ((madeR 8), .inl (cI, 7, .inl made_rowsF)), ((madeR 9), .inl (cI, 7, .inl made_sharpsF))] H := hP
    have hD : va_D A [(a_p0, .inr (3, oX3 hrI hrR)), ((hrR 2), .inr (2, oX2 madeI madeR)), ((hrR 0), .inr (10, oX10 r_8_1 textR)), ((textR 3), .inl (cI, text_valuesN, .inl text_valuesF)), ((textR 1), .inl (cI, text_kindsN, .inl text_kindsF)), ((madeR 7), .inl (cI, 7, .inl g_5)), ((madeR 10), .inl (cI, 6, .inl made_placeNamesF)), ((textR 2), .inl (cI, text_startsN, .inl text_startsF)), ((madeR 8), .inl (cI, 7, .inl made_rowsF)), ((madeR 9), .inl (cI, 7, .inl made_sharpsF))] := hD
    refine W.eq (g2 := F0 m 79 ls [.int r_8_0, .int (madeI 5), .ref ((madeR 8))]) rfl ?_
    refine xq_iast hx hb hK hP hD hS 8 0 rfl rfl hf dX3_readEar_79 (fun g_10 H locs hf hP hD hS => ?_)
    have hP : va_P (dC, dI) vwCl [(a_p0, .inr (3, oX3 hrI hrR)), ((hrR 2), .inr (2, oX2 madeI madeR)), ((hrR 0), .inr (10, oX10 r_8_1 textR)), ((textR 3), .inl (cI, text_valuesN, .inl text_valuesF)), ((textR 1), .inl (cI, text_kindsN, .inl text_kindsF)), ((madeR 7), .inl (cI, 7, .inl g_5)), ((madeR 10), .inl (cI, 6, .inl made_placeNamesF)), ((textR 2), .inl (cI, text_startsN, .inl text_startsF)), ((madeR 8), .inl (cI, 7, .inl g_10)), ((madeR 9), .inl (cI, 7, .inl made_sharpsF))] H := hP
    have hD : va_D A [(a_p0, .inr (3, oX3 hrI hrR)), ((hrR 2), .inr (2, oX2 madeI madeR)), ((hrR 0), .inr (10, oX10 r_8_1 textR)), ((textR 3), .inl (cI, text_valuesN, .inl text_valuesF)), ((textR 1), .inl (cI, text_kindsN, .inl text_kindsF)), ((madeR 7), .inl (cI, 7, .inl g_5)), ((madeR 10), .inl (cI, 6, .inl made_placeNamesF)), ((textR 2), .inl (cI, text_startsN, .inl text_startsF)), ((madeR 8), .inl (cI, 7, .inl g_10)), ((madeR 9), .inl (cI, 7, .inl made_sharpsF))] := hD
    refine lv_aload_n hx hb dX3_readEar_80 rfl (lv_at hl 0 rfl) ?_
    refine va_get (D := (dC, dI)) (ci := 3) (v := .ref ((hrR 0))) (C := RX3) (T := TX3) (N := 3) hx hb hts hinX3 hown hK hP 0 rfl rfl 0 (by decide) hw4 (fun _ h9 => h9) rfl dX3_readEar_81 ?_
    refine lv_sipush (v := 306) hx hb dX3_readEar_84 (by decide) ?_
    obtain ⟨r_11, h_12, hf⟩ := xq_bd_some hf
    refine xq_callV (As := [.int 306]) (rest := []) (ci := 10) (q0 := 2) ⟨hx, hb, hml, hown, hts⟩ (kX10_take l dC dI cI cB cJ cZ cM z ad N ((hrR 0)) r_8_1 textR text_kindsF text_kindsN text_startsF text_startsN text_valuesF text_valuesN 306 h_12) (cwV 1 hts gX3_readEar_X10_take rfl rfl rfl (by decide +kernel) ⟨Nat.le_of_ble_eq_true rfl, Nat.le_of_ble_eq_true rfl⟩) hN hK hP hD hS hA [2, 4, 7, 3] (by decide) rfl rfl rfl rfl rfl rfl hl.1 rfl (Nat.le_of_ble_eq_true rfl) dX3_readEar_87 ⟨Nat.zero_le _, Nat.zero_le _⟩ (fun H locs hP hD hS => ?_)
    have hP : va_P (dC, dI) vwCl [(a_p0, .inr (3, oX3 hrI hrR)), ((hrR 2), .inr (2, oX2 madeI madeR)), ((hrR 0), .inr (10, oX10 r_11 textR)), ((textR 3), .inl (cI, text_valuesN, .inl text_valuesF)), ((textR 1), .inl (cI, text_kindsN, .inl text_kindsF)), ((madeR 7), .inl (cI, 7, .inl g_5)), ((madeR 10), .inl (cI, 6, .inl made_placeNamesF)), ((textR 2), .inl (cI, text_startsN, .inl text_startsF)), ((madeR 8), .inl (cI, 7, .inl g_10)), ((madeR 9), .inl (cI, 7, .inl made_sharpsF))] H := hP
    have hD : va_D A [(a_p0, .inr (3, oX3 hrI hrR)), ((hrR 2), .inr (2, oX2 madeI madeR)), ((hrR 0), .inr (10, oX10 r_11 textR)), ((textR 3), .inl (cI, text_valuesN, .inl text_valuesF)), ((textR 1), .inl (cI, text_kindsN, .inl text_kindsF)), ((madeR 7), .inl (cI, 7, .inl g_5)), ((madeR 10), .inl (cI, 6, .inl made_placeNamesF)), ((textR 2), .inl (cI, text_startsN, .inl text_startsF)), ((madeR 8), .inl (cI, 7, .inl g_10)), ((madeR 9), .inl (cI, 7, .inl made_sharpsF))] := hD
    refine W.eq (g2 := F0 m 90 ls []) rfl ?_
    refine lv_aload_n hx hb dX3_readEar_90 rfl (lv_at hl 0 rfl) ?_
    refine va_get (D := (dC, dI)) (ci := 3) (v := .ref ((hrR 2))) (C := RX3) (T := TX3) (N := 3) hx hb hts hinX3 hown hK hP 0 rfl rfl 2 (by decide) hw0 (fun _ h9 => h9) rfl dX3_readEar_91 ?_
    refine va_getN (D := (dC, dI)) (ci := 2) (v := .ref ((madeR 9))) (C := RX2) (T := TX2) (N := 19) hx hb hts hinX2 hown hK hP 1 rfl rfl 9 (by decide) hnf57 (fun _ h9 => h9) rfl dX3_readEar_94 ?_
    refine lv_aload_n hx hb dX3_readEar_97 rfl (lv_at hl 0 rfl) ?_
    refine va_get (D := (dC, dI)) (ci := 3) (v := .ref ((hrR 2))) (C := RX3) (T := TX3) (N := 3) hx hb hts hinX3 hown hK hP 0 rfl rfl 2 (by decide) hw0 (fun _ h9 => h9) rfl dX3_readEar_98 ?_
    refine va_getN (D := (dC, dI)) (ci := 2) (v := .int (madeI 5)) (C := RX2) (T := TX2) (N := 19) hx hb hts hinX2 hown hK hP 1 rfl rfl 5 (by decide) hnf46 (fun _ h9 => h9) rfl dX3_readEar_101 ?_
    refine lv_aload_n hx hb dX3_readEar_104 rfl (lv_at hl 0 rfl) ?_
    refine lv_iconst (v := 0) hx hb dX3_readEar_105 (by decide) ?_
    refine lv_bipush (v := 9) hx hb dX3_readEar_106 (by decide) ?_
    obtain ⟨⟨r_13_0, r_13_1⟩, h_14, hf⟩ := xq_bd_some hf
    refine xq_callV (As := [.int 0, .int 9]) (rest := [.int (madeI 5), .ref ((madeR 9))]) (ci := 3) (q0 := 0) ⟨hx, hb, hml, hown, hts⟩ (kX3_readNumber l dC dI cI cB cJ cZ cM z ad N a_p0 hrI hrR r_11 textR text_valuesF text_valuesN text_kindsF text_kindsN text_startsF text_startsN 0 9 h_14) (cwV 2 hts gX3_readEar_X3_readNumber rfl rfl rfl (by decide +kernel) ⟨Nat.le_of_ble_eq_true rfl, Nat.le_of_ble_eq_true rfl⟩) hN hK hP hD hS hA [0, 2, 3, 4, 7] (by decide) rfl rfl rfl rfl rfl rfl hl.1 rfl (Nat.le_of_ble_eq_true rfl) dX3_readEar_108 ⟨Nat.zero_le _, Nat.zero_le _⟩ (fun H locs hP hD hS => ?_)
    have hP : va_P (dC, dI) vwCl [(a_p0, .inr (3, oX3 hrI hrR)), ((hrR 2), .inr (2, oX2 madeI madeR)), ((hrR 0), .inr (10, oX10 r_13_1 textR)), ((textR 3), .inl (cI, text_valuesN, .inl text_valuesF)), ((textR 1), .inl (cI, text_kindsN, .inl text_kindsF)), ((madeR 7), .inl (cI, 7, .inl g_5)), ((madeR 10), .inl (cI, 6, .inl made_placeNamesF)), ((textR 2), .inl (cI, text_startsN, .inl text_startsF)), ((madeR 8), .inl (cI, 7, .inl g_10)), ((madeR 9), .inl (cI, 7, .inl made_sharpsF))] H := hP
    have hD : va_D A [(a_p0, .inr (3, oX3 hrI hrR)), ((hrR 2), .inr (2, oX2 madeI madeR)), ((hrR 0), .inr (10, oX10 r_13_1 textR)), ((textR 3), .inl (cI, text_valuesN, .inl text_valuesF)), ((textR 1), .inl (cI, text_kindsN, .inl text_kindsF)), ((madeR 7), .inl (cI, 7, .inl g_5)), ((madeR 10), .inl (cI, 6, .inl made_placeNamesF)), ((textR 2), .inl (cI, text_startsN, .inl text_startsF)), ((madeR 8), .inl (cI, 7, .inl g_10)), ((madeR 9), .inl (cI, 7, .inl made_sharpsF))] := hD
    refine W.eq (g2 := F0 m 111 ls [.int r_13_0, .int (madeI 5), .ref ((madeR 9))]) rfl ?_
    refine xq_iast hx hb hK hP hD hS 9 0 rfl rfl hf dX3_readEar_111 (fun g_15 H locs hf hP hD hS => ?_)
    have hP : va_P (dC, dI) vwCl [(a_p0, .inr (3, oX3 hrI hrR)), ((hrR 2), .inr (2, oX2 madeI madeR)), ((hrR 0), .inr (10, oX10 r_13_1 textR)), ((textR 3), .inl (cI, text_valuesN, .inl text_valuesF)), ((textR 1), .inl (cI, text_kindsN, .inl text_kindsF)), ((madeR 7), .inl (cI, 7, .inl g_5)), ((madeR 10), .inl (cI, 6, .inl made_placeNamesF)), ((textR 2), .inl (cI, text_startsN, .inl text_startsF)), ((madeR 8), .inl (cI, 7, .inl g_10)), ((madeR 9), .inl (cI, 7, .inl g_15))] H := hP
    have hD : va_D A [(a_p0, .inr (3, oX3 hrI hrR)), ((hrR 2), .inr (2, oX2 madeI madeR)), ((hrR 0), .inr (10, oX10 r_13_1 textR)), ((textR 3), .inl (cI, text_valuesN, .inl text_valuesF)), ((textR 1), .inl (cI, text_kindsN, .inl text_kindsF)), ((madeR 7), .inl (cI, 7, .inl g_5)), ((madeR 10), .inl (cI, 6, .inl made_placeNamesF)), ((textR 2), .inl (cI, text_startsN, .inl text_startsF)), ((madeR 8), .inl (cI, 7, .inl g_10)), ((madeR 9), .inl (cI, 7, .inl g_15))] := hD
    refine lv_aload_n hx hb dX3_readEar_112 rfl (lv_at hl 0 rfl) ?_
    refine va_get (D := (dC, dI)) (ci := 3) (v := .ref ((hrR 2))) (C := RX3) (T := TX3) (N := 3) hx hb hts hinX3 hown hK hP 0 rfl rfl 2 (by decide) hw0 (fun _ h9 => h9) rfl dX3_readEar_113 ?_
    refine lv_dup hx hb dX3_readEar_116 rfl ?_
    refine va_getN (D := (dC, dI)) (ci := 2) (v := .int (madeI 5)) (C := RX2) (T := TX2) (N := 19) hx hb hts hinX2 hown hK hP 1 rfl rfl 5 (by decide) hnf46 (fun _ h9 => h9) rfl dX3_readEar_117 ?_
    refine lv_iconst (v := 1) hx hb dX3_readEar_120 (by decide) ?_
    refine lv_iadd hx hb dX3_readEar_121 ?_
    refine va_putN (D := (dC, dI)) (ci := 2) (v := .int ((madeI 5) + 1)) (ty := .int) (C := RX2) (T := TX2) (N := 19) hx hb hts hinX2 tyX2 tyX2_ok nmX2 hown hK hP hD hS 1 rfl rfl 5 (by decide) hnf46 (fun _ h9 => h9) rfl (by decide +kernel) rfl rfl (Nat.le_of_ble_eq_true rfl) dX3_readEar_122 (fun H locs hP hD hS => ?_)
    have hP : va_P (dC, dI) vwCl [(a_p0, .inr (3, oX3 hrI hrR)), ((hrR 2), .inr (2, oX2 (va_up madeI 5 ((madeI 5) + 1)) madeR)), ((hrR 0), .inr (10, oX10 r_13_1 textR)), ((textR 3), .inl (cI, text_valuesN, .inl text_valuesF)), ((textR 1), .inl (cI, text_kindsN, .inl text_kindsF)), ((madeR 7), .inl (cI, 7, .inl g_5)), ((madeR 10), .inl (cI, 6, .inl made_placeNamesF)), ((textR 2), .inl (cI, text_startsN, .inl text_startsF)), ((madeR 8), .inl (cI, 7, .inl g_10)), ((madeR 9), .inl (cI, 7, .inl g_15))] H := hP
    have hD : va_D A [(a_p0, .inr (3, oX3 hrI hrR)), ((hrR 2), .inr (2, oX2 (va_up madeI 5 ((madeI 5) + 1)) madeR)), ((hrR 0), .inr (10, oX10 r_13_1 textR)), ((textR 3), .inl (cI, text_valuesN, .inl text_valuesF)), ((textR 1), .inl (cI, text_kindsN, .inl text_kindsF)), ((madeR 7), .inl (cI, 7, .inl g_5)), ((madeR 10), .inl (cI, 6, .inl made_placeNamesF)), ((textR 2), .inl (cI, text_startsN, .inl text_startsF)), ((madeR 8), .inl (cI, 7, .inl g_10)), ((madeR 9), .inl (cI, 7, .inl g_15))] := hD
    cases hf
    exact xq_vret hx hb hr hlocks hK hP hD hS dX3_readEar_125
  · have hf := xq_neg hf c_
    refine lv_aload_n hx hb dX3_readEar_12 rfl (lv_at hl 0 rfl) ?_
    refine va_get (D := (dC, dI)) (ci := 3) (v := .ref ((hrR 0))) (C := RX3) (T := TX3) (N := 3) hx hb hts hinX3 hown hK hP 0 rfl rfl 0 (by decide) hw4 (fun _ h9 => h9) rfl dX3_readEar_13 ?_
    refine lv_bipush (v := 6) hx hb dX3_readEar_16 (by decide) ?_
    obtain ⟨r_16, h_17, hf⟩ := xq_bd_some hf
    refine xq_callV (As := [.int 6]) (rest := []) (ci := 10) (q0 := 2) ⟨hx, hb, hml, hown, hts⟩ (kX10_fail l dC dI cI cB cJ cZ cM z ad N ((hrR 0)) textI textR text_startsF text_startsN 6 h_17) (cwV 1 hts gX3_readEar_X10_fail rfl rfl rfl (by decide +kernel) ⟨Nat.le_of_ble_eq_true rfl, Nat.le_of_ble_eq_true rfl⟩) hN hK hP hD hS hA [2, 7] (by decide) rfl rfl rfl rfl rfl rfl hl.1 rfl (Nat.le_of_ble_eq_true rfl) dX3_readEar_18 ⟨Nat.zero_le _, Nat.zero_le _⟩ (fun H locs hP hD hS => ?_)
    have hP : va_P (dC, dI) vwCl [(a_p0, .inr (3, oX3 hrI hrR)), ((hrR 2), .inr (2, oX2 madeI madeR)), ((hrR 0), .inr (10, oX10 r_16 textR)), ((textR 3), .inl (cI, text_valuesN, .inl text_valuesF)), ((textR 1), .inl (cI, text_kindsN, .inl text_kindsF)), ((madeR 7), .inl (cI, 7, .inl made_earNamesF)), ((madeR 10), .inl (cI, 6, .inl made_placeNamesF)), ((textR 2), .inl (cI, text_startsN, .inl text_startsF)), ((madeR 8), .inl (cI, 7, .inl made_rowsF)), ((madeR 9), .inl (cI, 7, .inl made_sharpsF))] H := hP
    have hD : va_D A [(a_p0, .inr (3, oX3 hrI hrR)), ((hrR 2), .inr (2, oX2 madeI madeR)), ((hrR 0), .inr (10, oX10 r_16 textR)), ((textR 3), .inl (cI, text_valuesN, .inl text_valuesF)), ((textR 1), .inl (cI, text_kindsN, .inl text_kindsF)), ((madeR 7), .inl (cI, 7, .inl made_earNamesF)), ((madeR 10), .inl (cI, 6, .inl made_placeNamesF)), ((textR 2), .inl (cI, text_startsN, .inl text_startsF)), ((madeR 8), .inl (cI, 7, .inl made_rowsF)), ((madeR 9), .inl (cI, 7, .inl made_sharpsF))] := hD
    refine W.eq (g2 := F0 m 21 ls []) rfl ?_
    cases hf
    exact xq_vret hx hb hr hlocks hK hP hD hS dX3_readEar_21
set_option maxRecDepth 20000 in
theorem ggX3_readPlace_X10_fail : GoodIn wsX3_readPlace wsX10_fail := goodIn_r _ [7, 8, 9, 10, 11, 12, 83, 84, 85, 86, 87, 88, 89, 90] rfl (by decide +kernel)
set_option maxRecDepth 20000 in
theorem gX3_readPlace_X10_fail : GoodIn wsX3_readPlace (wsV RX3 58 RX10 yX10_fail wsX10_fail) := goodIn_app (goodIn_of _ (by decide +kernel)) ggX3_readPlace_X10_fail
set_option maxRecDepth 20000 in
theorem ggX3_readPlace_X10_next : GoodIn wsX3_readPlace wsX10_next := goodIn_r _ [16, 9, 10, 83, 84, 85, 86, 87, 88, 89, 90] rfl (by decide +kernel)
set_option maxRecDepth 20000 in
theorem gX3_readPlace_X10_next : GoodIn wsX3_readPlace (wsV RX3 74 RX10 yX10_next wsX10_next) := goodIn_app (goodIn_of _ (by decide +kernel)) ggX3_readPlace_X10_next
set_option maxRecDepth 20000 in
theorem ggX3_readPlace_X3_readNewName : GoodIn wsX3_readPlace wsX3_readNewName := goodIn_r _ [21, 2, 1, 22, 23, 24, 6, 25, 9, 10, 26, 27, 28, 29, 30, 8, 31, 32, 33, 34, 35, 11, 12, 36, 37, 38, 39, 40, 41, 42, 43, 44, 3, 4, 5, 7, 13, 14, 15, 16, 61, 62, 63, 83, 84, 85, 86, 87, 88, 89, 90, 64, 65, 66, 67, 68, 69, 70, 71, 72, 73, 74, 75, 76, 77, 78, 79, 80, 81, 82] rfl (by decide +kernel)
set_option maxRecDepth 20000 in
theorem gX3_readPlace_X3_readNewName : GoodIn wsX3_readPlace (wsV RX3 104 RX3 yX3_readNewName wsX3_readNewName) := goodIn_app (goodIn_of _ (by decide +kernel)) ggX3_readPlace_X3_readNewName
set_option maxRecDepth 20000 in
theorem ggX3_readPlace_X10_take : GoodIn wsX3_readPlace wsX10_take := goodIn_r _ [48, 49, 28, 29, 6, 30, 8, 9, 10, 31, 50, 14, 15, 16, 51, 33, 34, 35, 26, 11, 12, 83, 84, 85, 86, 87, 88, 89, 90] rfl (by decide +kernel)
set_option maxRecDepth 20000 in
theorem gX3_readPlace_X10_take : GoodIn wsX3_readPlace (wsV RX3 31 RX10 yX10_take wsX10_take) := goodIn_app (goodIn_of _ (by decide +kernel)) ggX3_readPlace_X10_take
set_option maxRecDepth 20000 in
theorem ggX3_readPlace_X10_piece : GoodIn wsX3_readPlace wsX10_piece := goodIn_r _ [30, 8, 9, 10, 31, 83, 84, 85, 86, 87, 88, 89, 90] rfl (by decide +kernel)
set_option maxRecDepth 20000 in
theorem gX3_readPlace_X10_piece : GoodIn wsX3_readPlace (wsV RX3 51 RX10 yX10_piece wsX10_piece) := goodIn_app (goodIn_of _ (by decide +kernel)) ggX3_readPlace_X10_piece
set_option maxRecDepth 20000 in
theorem ggX3_readPlace_X10_value : GoodIn wsX3_readPlace wsX10_value := goodIn_r _ [25, 9, 10, 26, 83, 84, 85, 86, 87, 88, 89, 90] rfl (by decide +kernel)
set_option maxRecDepth 20000 in
theorem gX3_readPlace_X10_value : GoodIn wsX3_readPlace (wsV RX3 119 RX10 yX10_value wsX10_value) := goodIn_app (goodIn_of _ (by decide +kernel)) ggX3_readPlace_X10_value
set_option maxRecDepth 20000 in
theorem ggX3_readPlace_X2_hasPlaceAt : GoodIn wsX3_readPlace wsX2_hasPlaceAt := goodIn_r _ [55, 43, 56, 64, 65, 66, 67, 68, 69, 70, 71, 72, 73, 74, 75, 76, 77, 78, 79, 80, 81, 82] rfl (by decide +kernel)
set_option maxRecDepth 20000 in
theorem gX3_readPlace_X2_hasPlaceAt : GoodIn wsX3_readPlace (wsV RX3 122 RX2 yX2_hasPlaceAt wsX2_hasPlaceAt) := goodIn_app (goodIn_of _ (by decide +kernel)) ggX3_readPlace_X2_hasPlaceAt
set_option maxRecDepth 20000 in
theorem ggX3_readPlace_X3_readNumber : GoodIn wsX3_readPlace wsX3_readNumber := goodIn_r _ [60, 2, 22, 23, 24, 6, 25, 9, 10, 26, 27, 28, 29, 30, 8, 31, 32, 33, 34, 35, 11, 12, 3, 4, 5, 7, 13, 14, 15, 16, 61, 62, 63, 83, 84, 85, 86, 87, 88, 89, 90] rfl (by decide +kernel)
set_option maxRecDepth 20000 in
theorem gX3_readPlace_X3_readNumber : GoodIn wsX3_readPlace (wsV RX3 37 RX3 yX3_readNumber wsX3_readNumber) := goodIn_app (goodIn_of _ (by decide +kernel)) ggX3_readPlace_X3_readNumber
def dsX3_readPlace_0 : List (Nat × Instr × Nat) := [(0, (.aload_n 0, 1)), (1, (.getfield 12, 3)), (4, (.getfield 113, 3)), (7, (.bipush 6, 2)), (9, (.if_icmp .lt 13, 3)), (12, (.aload_n 0, 1)), (13, (.getfield 18, 3)), (16, (.bipush 6, 2)), (18, (.invokevirtual 58, 3)), (21, (.return_, 1)), (22, (.aload_n 0, 1)), (23, (.getfield 18, 3)), (26, (.invokevirtual 74, 3)), (29, (.aload_n 0, 1)), (30, (.getfield 12, 3)), (33, (.getfield 116, 3)), (36, (.aload_n 0, 1)), (37, (.getfield 12, 3)), (40, (.getfield 113, 3)), (43, (.aload_n 0, 1)), (44, (.invokevirtual 104, 3)), (47, (.iastore, 1)), (48, (.aload_n 0, 1)), (49, (.getfield 18, 3)), (52, (.sipush 308, 3)), (55, (.invokevirtual 31, 3)), (58, (.aload_n 0, 1)), (59, (.getfield 18, 3)), (62, (.invokevirtual 51, 3)), (65, (.bipush (-3), 2)), (67, (.if_icmp .ne 28, 3)), (70, (.aload_n 0, 1)), (71, (.getfield 12, 3)), (74, (.aload_n 0, 1)), (75, (.getfield 18, 3)), (78, (.invokevirtual 119, 3)), (81, (.invokevirtual 122, 3)), (84, (.ifCond .eq 11, 3)), (87, (.aload_n 0, 1)), (88, (.getfield 18, 3)), (91, (.iconst 4, 1)), (92, (.invokevirtual 58, 3)), (95, (.aload_n 0, 1)), (96, (.getfield 12, 3)), (99, (.getfield 125, 3)), (102, (.aload_n 0, 1)), (103, (.getfield 12, 3)), (106, (.getfield 113, 3)), (109, (.aload_n 0, 1)), (110, (.iconst 1, 1)), (111, (.aload_n 0, 1)), (112, (.getfield 12, 3)), (115, (.getfield 41, 3)), (118, (.iconst 1, 1)), (119, (.isub, 1)), (120, (.invokevirtual 37, 3)), (123, (.iastore, 1)), (124, (.aload_n 0, 1)), (125, (.getfield 18, 3)), (128, (.sipush 309, 3))]
theorem dsX3_readPlace_0_ok : (dsX3_readPlace_0.all fun q => decide (decode cX3_readPlace q.1 = .ok q.2)) = true := by decide +kernel
theorem dX3_readPlace_0 : decode cX3_readPlace 0 = .ok (.aload_n 0, 1) := of_decide_eq_true (List.all_eq_true.mp dsX3_readPlace_0_ok (0, (.aload_n 0, 1)) (List.mem_of_getElem? (i := 0) rfl))
theorem dX3_readPlace_1 : decode cX3_readPlace 1 = .ok (.getfield 12, 3) := of_decide_eq_true (List.all_eq_true.mp dsX3_readPlace_0_ok (1, (.getfield 12, 3)) (List.mem_of_getElem? (i := 1) rfl))
theorem dX3_readPlace_4 : decode cX3_readPlace 4 = .ok (.getfield 113, 3) := of_decide_eq_true (List.all_eq_true.mp dsX3_readPlace_0_ok (4, (.getfield 113, 3)) (List.mem_of_getElem? (i := 2) rfl))
theorem dX3_readPlace_7 : decode cX3_readPlace 7 = .ok (.bipush 6, 2) := of_decide_eq_true (List.all_eq_true.mp dsX3_readPlace_0_ok (7, (.bipush 6, 2)) (List.mem_of_getElem? (i := 3) rfl))
theorem dX3_readPlace_9 : decode cX3_readPlace 9 = .ok (.if_icmp .lt 13, 3) := of_decide_eq_true (List.all_eq_true.mp dsX3_readPlace_0_ok (9, (.if_icmp .lt 13, 3)) (List.mem_of_getElem? (i := 4) rfl))
theorem dX3_readPlace_12 : decode cX3_readPlace 12 = .ok (.aload_n 0, 1) := of_decide_eq_true (List.all_eq_true.mp dsX3_readPlace_0_ok (12, (.aload_n 0, 1)) (List.mem_of_getElem? (i := 5) rfl))
theorem dX3_readPlace_13 : decode cX3_readPlace 13 = .ok (.getfield 18, 3) := of_decide_eq_true (List.all_eq_true.mp dsX3_readPlace_0_ok (13, (.getfield 18, 3)) (List.mem_of_getElem? (i := 6) rfl))
theorem dX3_readPlace_16 : decode cX3_readPlace 16 = .ok (.bipush 6, 2) := of_decide_eq_true (List.all_eq_true.mp dsX3_readPlace_0_ok (16, (.bipush 6, 2)) (List.mem_of_getElem? (i := 7) rfl))
theorem dX3_readPlace_18 : decode cX3_readPlace 18 = .ok (.invokevirtual 58, 3) := of_decide_eq_true (List.all_eq_true.mp dsX3_readPlace_0_ok (18, (.invokevirtual 58, 3)) (List.mem_of_getElem? (i := 8) rfl))
theorem dX3_readPlace_21 : decode cX3_readPlace 21 = .ok (.return_, 1) := of_decide_eq_true (List.all_eq_true.mp dsX3_readPlace_0_ok (21, (.return_, 1)) (List.mem_of_getElem? (i := 9) rfl))
theorem dX3_readPlace_22 : decode cX3_readPlace 22 = .ok (.aload_n 0, 1) := of_decide_eq_true (List.all_eq_true.mp dsX3_readPlace_0_ok (22, (.aload_n 0, 1)) (List.mem_of_getElem? (i := 10) rfl))
theorem dX3_readPlace_23 : decode cX3_readPlace 23 = .ok (.getfield 18, 3) := of_decide_eq_true (List.all_eq_true.mp dsX3_readPlace_0_ok (23, (.getfield 18, 3)) (List.mem_of_getElem? (i := 11) rfl))
theorem dX3_readPlace_26 : decode cX3_readPlace 26 = .ok (.invokevirtual 74, 3) := of_decide_eq_true (List.all_eq_true.mp dsX3_readPlace_0_ok (26, (.invokevirtual 74, 3)) (List.mem_of_getElem? (i := 12) rfl))
theorem dX3_readPlace_29 : decode cX3_readPlace 29 = .ok (.aload_n 0, 1) := of_decide_eq_true (List.all_eq_true.mp dsX3_readPlace_0_ok (29, (.aload_n 0, 1)) (List.mem_of_getElem? (i := 13) rfl))
theorem dX3_readPlace_30 : decode cX3_readPlace 30 = .ok (.getfield 12, 3) := of_decide_eq_true (List.all_eq_true.mp dsX3_readPlace_0_ok (30, (.getfield 12, 3)) (List.mem_of_getElem? (i := 14) rfl))
theorem dX3_readPlace_33 : decode cX3_readPlace 33 = .ok (.getfield 116, 3) := of_decide_eq_true (List.all_eq_true.mp dsX3_readPlace_0_ok (33, (.getfield 116, 3)) (List.mem_of_getElem? (i := 15) rfl))
theorem dX3_readPlace_36 : decode cX3_readPlace 36 = .ok (.aload_n 0, 1) := of_decide_eq_true (List.all_eq_true.mp dsX3_readPlace_0_ok (36, (.aload_n 0, 1)) (List.mem_of_getElem? (i := 16) rfl))
theorem dX3_readPlace_37 : decode cX3_readPlace 37 = .ok (.getfield 12, 3) := of_decide_eq_true (List.all_eq_true.mp dsX3_readPlace_0_ok (37, (.getfield 12, 3)) (List.mem_of_getElem? (i := 17) rfl))
theorem dX3_readPlace_40 : decode cX3_readPlace 40 = .ok (.getfield 113, 3) := of_decide_eq_true (List.all_eq_true.mp dsX3_readPlace_0_ok (40, (.getfield 113, 3)) (List.mem_of_getElem? (i := 18) rfl))
theorem dX3_readPlace_43 : decode cX3_readPlace 43 = .ok (.aload_n 0, 1) := of_decide_eq_true (List.all_eq_true.mp dsX3_readPlace_0_ok (43, (.aload_n 0, 1)) (List.mem_of_getElem? (i := 19) rfl))
theorem dX3_readPlace_44 : decode cX3_readPlace 44 = .ok (.invokevirtual 104, 3) := of_decide_eq_true (List.all_eq_true.mp dsX3_readPlace_0_ok (44, (.invokevirtual 104, 3)) (List.mem_of_getElem? (i := 20) rfl))
theorem dX3_readPlace_47 : decode cX3_readPlace 47 = .ok (.iastore, 1) := of_decide_eq_true (List.all_eq_true.mp dsX3_readPlace_0_ok (47, (.iastore, 1)) (List.mem_of_getElem? (i := 21) rfl))
theorem dX3_readPlace_48 : decode cX3_readPlace 48 = .ok (.aload_n 0, 1) := of_decide_eq_true (List.all_eq_true.mp dsX3_readPlace_0_ok (48, (.aload_n 0, 1)) (List.mem_of_getElem? (i := 22) rfl))
theorem dX3_readPlace_49 : decode cX3_readPlace 49 = .ok (.getfield 18, 3) := of_decide_eq_true (List.all_eq_true.mp dsX3_readPlace_0_ok (49, (.getfield 18, 3)) (List.mem_of_getElem? (i := 23) rfl))
theorem dX3_readPlace_52 : decode cX3_readPlace 52 = .ok (.sipush 308, 3) := of_decide_eq_true (List.all_eq_true.mp dsX3_readPlace_0_ok (52, (.sipush 308, 3)) (List.mem_of_getElem? (i := 24) rfl))
theorem dX3_readPlace_55 : decode cX3_readPlace 55 = .ok (.invokevirtual 31, 3) := of_decide_eq_true (List.all_eq_true.mp dsX3_readPlace_0_ok (55, (.invokevirtual 31, 3)) (List.mem_of_getElem? (i := 25) rfl))
theorem dX3_readPlace_58 : decode cX3_readPlace 58 = .ok (.aload_n 0, 1) := of_decide_eq_true (List.all_eq_true.mp dsX3_readPlace_0_ok (58, (.aload_n 0, 1)) (List.mem_of_getElem? (i := 26) rfl))
theorem dX3_readPlace_59 : decode cX3_readPlace 59 = .ok (.getfield 18, 3) := of_decide_eq_true (List.all_eq_true.mp dsX3_readPlace_0_ok (59, (.getfield 18, 3)) (List.mem_of_getElem? (i := 27) rfl))
theorem dX3_readPlace_62 : decode cX3_readPlace 62 = .ok (.invokevirtual 51, 3) := of_decide_eq_true (List.all_eq_true.mp dsX3_readPlace_0_ok (62, (.invokevirtual 51, 3)) (List.mem_of_getElem? (i := 28) rfl))
theorem dX3_readPlace_65 : decode cX3_readPlace 65 = .ok (.bipush (-3), 2) := of_decide_eq_true (List.all_eq_true.mp dsX3_readPlace_0_ok (65, (.bipush (-3), 2)) (List.mem_of_getElem? (i := 29) rfl))
theorem dX3_readPlace_67 : decode cX3_readPlace 67 = .ok (.if_icmp .ne 28, 3) := of_decide_eq_true (List.all_eq_true.mp dsX3_readPlace_0_ok (67, (.if_icmp .ne 28, 3)) (List.mem_of_getElem? (i := 30) rfl))
theorem dX3_readPlace_70 : decode cX3_readPlace 70 = .ok (.aload_n 0, 1) := of_decide_eq_true (List.all_eq_true.mp dsX3_readPlace_0_ok (70, (.aload_n 0, 1)) (List.mem_of_getElem? (i := 31) rfl))
theorem dX3_readPlace_71 : decode cX3_readPlace 71 = .ok (.getfield 12, 3) := of_decide_eq_true (List.all_eq_true.mp dsX3_readPlace_0_ok (71, (.getfield 12, 3)) (List.mem_of_getElem? (i := 32) rfl))
theorem dX3_readPlace_74 : decode cX3_readPlace 74 = .ok (.aload_n 0, 1) := of_decide_eq_true (List.all_eq_true.mp dsX3_readPlace_0_ok (74, (.aload_n 0, 1)) (List.mem_of_getElem? (i := 33) rfl))
theorem dX3_readPlace_75 : decode cX3_readPlace 75 = .ok (.getfield 18, 3) := of_decide_eq_true (List.all_eq_true.mp dsX3_readPlace_0_ok (75, (.getfield 18, 3)) (List.mem_of_getElem? (i := 34) rfl))
theorem dX3_readPlace_78 : decode cX3_readPlace 78 = .ok (.invokevirtual 119, 3) := of_decide_eq_true (List.all_eq_true.mp dsX3_readPlace_0_ok (78, (.invokevirtual 119, 3)) (List.mem_of_getElem? (i := 35) rfl))
theorem dX3_readPlace_81 : decode cX3_readPlace 81 = .ok (.invokevirtual 122, 3) := of_decide_eq_true (List.all_eq_true.mp dsX3_readPlace_0_ok (81, (.invokevirtual 122, 3)) (List.mem_of_getElem? (i := 36) rfl))
theorem dX3_readPlace_84 : decode cX3_readPlace 84 = .ok (.ifCond .eq 11, 3) := of_decide_eq_true (List.all_eq_true.mp dsX3_readPlace_0_ok (84, (.ifCond .eq 11, 3)) (List.mem_of_getElem? (i := 37) rfl))
theorem dX3_readPlace_87 : decode cX3_readPlace 87 = .ok (.aload_n 0, 1) := of_decide_eq_true (List.all_eq_true.mp dsX3_readPlace_0_ok (87, (.aload_n 0, 1)) (List.mem_of_getElem? (i := 38) rfl))
theorem dX3_readPlace_88 : decode cX3_readPlace 88 = .ok (.getfield 18, 3) := of_decide_eq_true (List.all_eq_true.mp dsX3_readPlace_0_ok (88, (.getfield 18, 3)) (List.mem_of_getElem? (i := 39) rfl))
theorem dX3_readPlace_91 : decode cX3_readPlace 91 = .ok (.iconst 4, 1) := of_decide_eq_true (List.all_eq_true.mp dsX3_readPlace_0_ok (91, (.iconst 4, 1)) (List.mem_of_getElem? (i := 40) rfl))
theorem dX3_readPlace_92 : decode cX3_readPlace 92 = .ok (.invokevirtual 58, 3) := of_decide_eq_true (List.all_eq_true.mp dsX3_readPlace_0_ok (92, (.invokevirtual 58, 3)) (List.mem_of_getElem? (i := 41) rfl))
theorem dX3_readPlace_95 : decode cX3_readPlace 95 = .ok (.aload_n 0, 1) := of_decide_eq_true (List.all_eq_true.mp dsX3_readPlace_0_ok (95, (.aload_n 0, 1)) (List.mem_of_getElem? (i := 42) rfl))
theorem dX3_readPlace_96 : decode cX3_readPlace 96 = .ok (.getfield 12, 3) := of_decide_eq_true (List.all_eq_true.mp dsX3_readPlace_0_ok (96, (.getfield 12, 3)) (List.mem_of_getElem? (i := 43) rfl))
theorem dX3_readPlace_99 : decode cX3_readPlace 99 = .ok (.getfield 125, 3) := of_decide_eq_true (List.all_eq_true.mp dsX3_readPlace_0_ok (99, (.getfield 125, 3)) (List.mem_of_getElem? (i := 44) rfl))
theorem dX3_readPlace_102 : decode cX3_readPlace 102 = .ok (.aload_n 0, 1) := of_decide_eq_true (List.all_eq_true.mp dsX3_readPlace_0_ok (102, (.aload_n 0, 1)) (List.mem_of_getElem? (i := 45) rfl))
theorem dX3_readPlace_103 : decode cX3_readPlace 103 = .ok (.getfield 12, 3) := of_decide_eq_true (List.all_eq_true.mp dsX3_readPlace_0_ok (103, (.getfield 12, 3)) (List.mem_of_getElem? (i := 46) rfl))
theorem dX3_readPlace_106 : decode cX3_readPlace 106 = .ok (.getfield 113, 3) := of_decide_eq_true (List.all_eq_true.mp dsX3_readPlace_0_ok (106, (.getfield 113, 3)) (List.mem_of_getElem? (i := 47) rfl))
theorem dX3_readPlace_109 : decode cX3_readPlace 109 = .ok (.aload_n 0, 1) := of_decide_eq_true (List.all_eq_true.mp dsX3_readPlace_0_ok (109, (.aload_n 0, 1)) (List.mem_of_getElem? (i := 48) rfl))
theorem dX3_readPlace_110 : decode cX3_readPlace 110 = .ok (.iconst 1, 1) := of_decide_eq_true (List.all_eq_true.mp dsX3_readPlace_0_ok (110, (.iconst 1, 1)) (List.mem_of_getElem? (i := 49) rfl))
theorem dX3_readPlace_111 : decode cX3_readPlace 111 = .ok (.aload_n 0, 1) := of_decide_eq_true (List.all_eq_true.mp dsX3_readPlace_0_ok (111, (.aload_n 0, 1)) (List.mem_of_getElem? (i := 50) rfl))
theorem dX3_readPlace_112 : decode cX3_readPlace 112 = .ok (.getfield 12, 3) := of_decide_eq_true (List.all_eq_true.mp dsX3_readPlace_0_ok (112, (.getfield 12, 3)) (List.mem_of_getElem? (i := 51) rfl))
theorem dX3_readPlace_115 : decode cX3_readPlace 115 = .ok (.getfield 41, 3) := of_decide_eq_true (List.all_eq_true.mp dsX3_readPlace_0_ok (115, (.getfield 41, 3)) (List.mem_of_getElem? (i := 52) rfl))
theorem dX3_readPlace_118 : decode cX3_readPlace 118 = .ok (.iconst 1, 1) := of_decide_eq_true (List.all_eq_true.mp dsX3_readPlace_0_ok (118, (.iconst 1, 1)) (List.mem_of_getElem? (i := 53) rfl))
theorem dX3_readPlace_119 : decode cX3_readPlace 119 = .ok (.isub, 1) := of_decide_eq_true (List.all_eq_true.mp dsX3_readPlace_0_ok (119, (.isub, 1)) (List.mem_of_getElem? (i := 54) rfl))
theorem dX3_readPlace_120 : decode cX3_readPlace 120 = .ok (.invokevirtual 37, 3) := of_decide_eq_true (List.all_eq_true.mp dsX3_readPlace_0_ok (120, (.invokevirtual 37, 3)) (List.mem_of_getElem? (i := 55) rfl))
theorem dX3_readPlace_123 : decode cX3_readPlace 123 = .ok (.iastore, 1) := of_decide_eq_true (List.all_eq_true.mp dsX3_readPlace_0_ok (123, (.iastore, 1)) (List.mem_of_getElem? (i := 56) rfl))
theorem dX3_readPlace_124 : decode cX3_readPlace 124 = .ok (.aload_n 0, 1) := of_decide_eq_true (List.all_eq_true.mp dsX3_readPlace_0_ok (124, (.aload_n 0, 1)) (List.mem_of_getElem? (i := 57) rfl))
theorem dX3_readPlace_125 : decode cX3_readPlace 125 = .ok (.getfield 18, 3) := of_decide_eq_true (List.all_eq_true.mp dsX3_readPlace_0_ok (125, (.getfield 18, 3)) (List.mem_of_getElem? (i := 58) rfl))
theorem dX3_readPlace_128 : decode cX3_readPlace 128 = .ok (.sipush 309, 3) := of_decide_eq_true (List.all_eq_true.mp dsX3_readPlace_0_ok (128, (.sipush 309, 3)) (List.mem_of_getElem? (i := 59) rfl))
def dsX3_readPlace_1 : List (Nat × Instr × Nat) := [(131, (.invokevirtual 31, 3)), (134, (.aload_n 0, 1)), (135, (.getfield 12, 3)), (138, (.getfield 128, 3)), (141, (.aload_n 0, 1)), (142, (.getfield 12, 3)), (145, (.getfield 113, 3)), (148, (.aload_n 0, 1)), (149, (.iconst 0, 1)), (150, (.bipush 9, 2)), (152, (.invokevirtual 37, 3)), (155, (.iastore, 1)), (156, (.aload_n 0, 1)), (157, (.getfield 12, 3)), (160, (.dup, 1)), (161, (.getfield 113, 3)), (164, (.iconst 1, 1)), (165, (.iadd, 1)), (166, (.putfield 113, 3)), (169, (.return_, 1))]
theorem dsX3_readPlace_1_ok : (dsX3_readPlace_1.all fun q => decide (decode cX3_readPlace q.1 = .ok q.2)) = true := by decide +kernel
theorem dX3_readPlace_131 : decode cX3_readPlace 131 = .ok (.invokevirtual 31, 3) := of_decide_eq_true (List.all_eq_true.mp dsX3_readPlace_1_ok (131, (.invokevirtual 31, 3)) (List.mem_of_getElem? (i := 0) rfl))
theorem dX3_readPlace_134 : decode cX3_readPlace 134 = .ok (.aload_n 0, 1) := of_decide_eq_true (List.all_eq_true.mp dsX3_readPlace_1_ok (134, (.aload_n 0, 1)) (List.mem_of_getElem? (i := 1) rfl))
theorem dX3_readPlace_135 : decode cX3_readPlace 135 = .ok (.getfield 12, 3) := of_decide_eq_true (List.all_eq_true.mp dsX3_readPlace_1_ok (135, (.getfield 12, 3)) (List.mem_of_getElem? (i := 2) rfl))
theorem dX3_readPlace_138 : decode cX3_readPlace 138 = .ok (.getfield 128, 3) := of_decide_eq_true (List.all_eq_true.mp dsX3_readPlace_1_ok (138, (.getfield 128, 3)) (List.mem_of_getElem? (i := 3) rfl))
theorem dX3_readPlace_141 : decode cX3_readPlace 141 = .ok (.aload_n 0, 1) := of_decide_eq_true (List.all_eq_true.mp dsX3_readPlace_1_ok (141, (.aload_n 0, 1)) (List.mem_of_getElem? (i := 4) rfl))
theorem dX3_readPlace_142 : decode cX3_readPlace 142 = .ok (.getfield 12, 3) := of_decide_eq_true (List.all_eq_true.mp dsX3_readPlace_1_ok (142, (.getfield 12, 3)) (List.mem_of_getElem? (i := 5) rfl))
theorem dX3_readPlace_145 : decode cX3_readPlace 145 = .ok (.getfield 113, 3) := of_decide_eq_true (List.all_eq_true.mp dsX3_readPlace_1_ok (145, (.getfield 113, 3)) (List.mem_of_getElem? (i := 6) rfl))
theorem dX3_readPlace_148 : decode cX3_readPlace 148 = .ok (.aload_n 0, 1) := of_decide_eq_true (List.all_eq_true.mp dsX3_readPlace_1_ok (148, (.aload_n 0, 1)) (List.mem_of_getElem? (i := 7) rfl))
theorem dX3_readPlace_149 : decode cX3_readPlace 149 = .ok (.iconst 0, 1) := of_decide_eq_true (List.all_eq_true.mp dsX3_readPlace_1_ok (149, (.iconst 0, 1)) (List.mem_of_getElem? (i := 8) rfl))
theorem dX3_readPlace_150 : decode cX3_readPlace 150 = .ok (.bipush 9, 2) := of_decide_eq_true (List.all_eq_true.mp dsX3_readPlace_1_ok (150, (.bipush 9, 2)) (List.mem_of_getElem? (i := 9) rfl))
theorem dX3_readPlace_152 : decode cX3_readPlace 152 = .ok (.invokevirtual 37, 3) := of_decide_eq_true (List.all_eq_true.mp dsX3_readPlace_1_ok (152, (.invokevirtual 37, 3)) (List.mem_of_getElem? (i := 10) rfl))
theorem dX3_readPlace_155 : decode cX3_readPlace 155 = .ok (.iastore, 1) := of_decide_eq_true (List.all_eq_true.mp dsX3_readPlace_1_ok (155, (.iastore, 1)) (List.mem_of_getElem? (i := 11) rfl))
theorem dX3_readPlace_156 : decode cX3_readPlace 156 = .ok (.aload_n 0, 1) := of_decide_eq_true (List.all_eq_true.mp dsX3_readPlace_1_ok (156, (.aload_n 0, 1)) (List.mem_of_getElem? (i := 12) rfl))
theorem dX3_readPlace_157 : decode cX3_readPlace 157 = .ok (.getfield 12, 3) := of_decide_eq_true (List.all_eq_true.mp dsX3_readPlace_1_ok (157, (.getfield 12, 3)) (List.mem_of_getElem? (i := 13) rfl))
theorem dX3_readPlace_160 : decode cX3_readPlace 160 = .ok (.dup, 1) := of_decide_eq_true (List.all_eq_true.mp dsX3_readPlace_1_ok (160, (.dup, 1)) (List.mem_of_getElem? (i := 14) rfl))
theorem dX3_readPlace_161 : decode cX3_readPlace 161 = .ok (.getfield 113, 3) := of_decide_eq_true (List.all_eq_true.mp dsX3_readPlace_1_ok (161, (.getfield 113, 3)) (List.mem_of_getElem? (i := 15) rfl))
theorem dX3_readPlace_164 : decode cX3_readPlace 164 = .ok (.iconst 1, 1) := of_decide_eq_true (List.all_eq_true.mp dsX3_readPlace_1_ok (164, (.iconst 1, 1)) (List.mem_of_getElem? (i := 16) rfl))
theorem dX3_readPlace_165 : decode cX3_readPlace 165 = .ok (.iadd, 1) := of_decide_eq_true (List.all_eq_true.mp dsX3_readPlace_1_ok (165, (.iadd, 1)) (List.mem_of_getElem? (i := 17) rfl))
theorem dX3_readPlace_166 : decode cX3_readPlace 166 = .ok (.putfield 113, 3) := of_decide_eq_true (List.all_eq_true.mp dsX3_readPlace_1_ok (166, (.putfield 113, 3)) (List.mem_of_getElem? (i := 18) rfl))
theorem dX3_readPlace_169 : decode cX3_readPlace 169 = .ok (.return_, 1) := of_decide_eq_true (List.all_eq_true.mp dsX3_readPlace_1_ok (169, (.return_, 1)) (List.mem_of_getElem? (i := 19) rfl))
def fX3_readPlace_b95 (N : Nat) (text_valuesF : Nat → Int32) (text_kindsF : Nat → Int32) (made_earNamesF : Nat → Int32) (text_startsF : Nat → Int32) (text_valuesN : Nat) (text_kindsN : Nat) (text_startsN : Nat)  : ((Nat → Int32) × (Nat → Int32) × (Nat → Int32) × (Nat → Int32) × (Nat → Int32)) → Option ((Nat → Int32) × (Nat → Int32) × (Nat → Int32) × (Nat → Int32) × (Nat → Int32)) :=
  fun (madeI_95, textI_95, made_placeNamesF_95, made_placeMilesF_95, made_talksF_95) => (xq_bd (fX3_readNumber N textI_95 text_valuesF text_kindsF text_startsF text_valuesN text_kindsN text_startsN 1 ((madeI_95 1) - 1)) fun (r_1_0, r_1_1) => (xq_bd (xq_ast 6 made_placeMilesF_95 (madeI_95 6) r_1_0) fun g_3 => (xq_bd (fX10_take N r_1_1 text_kindsF text_startsF text_valuesF text_kindsN text_startsN text_valuesN 309) fun r_4 => (xq_bd (fX3_readNumber N r_4 text_valuesF text_kindsF text_startsF text_valuesN text_kindsN text_startsN 0 9) fun (r_6_0, r_6_1) => (xq_bd (xq_ast 6 made_talksF_95 (madeI_95 6) r_6_0) fun g_8 => some (((va_up madeI_95 6 ((madeI_95 6) + 1)), r_6_1, made_placeNamesF_95, g_3, g_8)))))))
def fX3_readPlace (N : Nat) (madeI : Nat → Int32) (textI : Nat → Int32) (text_valuesF : Nat → Int32) (text_kindsF : Nat → Int32) (made_earNamesF : Nat → Int32) (made_placeNamesF : Nat → Int32) (text_startsF : Nat → Int32) (made_placeMilesF : Nat → Int32) (made_talksF : Nat → Int32) (text_valuesN : Nat) (text_kindsN : Nat) (text_startsN : Nat)  : Option ((Nat → Int32) × (Nat → Int32) × (Nat → Int32) × (Nat → Int32) × (Nat → Int32)) :=
  (if (madeI 6) < 6 then (xq_bd (fX10_next N textI) fun r_1 => (xq_bd (fX3_readNewName N r_1 text_valuesF text_kindsF madeI made_earNamesF made_placeNamesF text_startsF text_valuesN text_kindsN text_startsN) fun (r_3_0, r_3_1) => (xq_bd (xq_ast 6 made_placeNamesF (madeI 6) r_3_0) fun g_5 => (xq_bd (fX10_take N r_3_1 text_kindsF text_startsF text_valuesF text_kindsN text_startsN text_valuesN 308) fun r_6 => (xq_bd (fX10_piece N r_6 text_kindsF text_kindsN) fun r_8 => (if r_8 = ((-3)) then (xq_bd (fX10_value N r_6 text_valuesF text_valuesN) fun r_10 => (xq_bd (fX2_hasPlaceAt N madeI made_placeMilesF r_10) fun r_12 => (if r_12 = 0 then fX3_readPlace_b95 N text_valuesF text_kindsF made_earNamesF text_startsF text_valuesN text_kindsN text_startsN (madeI, r_6, g_5, made_placeMilesF, made_talksF) else (xq_bd (fX10_fail N r_6 text_startsF text_startsN 4) fun r_14 => fX3_readPlace_b95 N text_valuesF text_kindsF made_earNamesF text_startsF text_valuesN text_kindsN text_startsN (madeI, r_14, g_5, made_placeMilesF, made_talksF))))) else fX3_readPlace_b95 N text_valuesF text_kindsF made_earNamesF text_startsF text_valuesN text_kindsN text_startsN (madeI, r_6, g_5, made_placeMilesF, made_talksF))))))) else (xq_bd (fX10_fail N textI text_startsF text_startsN 6) fun r_16 => some ((madeI, r_16, made_placeNamesF, made_placeMilesF, made_talksF))))
set_option maxHeartbeats 4000000 in
set_option maxRecDepth 100000 in
theorem kX3_readPlace (l : Launch) (dC : Nat → ClassId) (dI : Nat → Nat → Nat) (cI cB cJ cZ cM : ClassId) (z : Nat) (ad : Nat → Nat) (N : Nat) (a_p0 : Nat) (hrI : Nat → Int32) (hrR : Nat → Nat) (madeI : Nat → Int32) (madeR : Nat → Nat) (textI : Nat → Int32) (textR : Nat → Nat) (text_valuesF : Nat → Int32) (text_valuesN : Nat) (text_kindsF : Nat → Int32) (text_kindsN : Nat) (made_earNamesF : Nat → Int32) (made_placeNamesF : Nat → Int32) (text_startsF : Nat → Int32) (text_startsN : Nat) (made_placeMilesF : Nat → Int32) (made_talksF : Nat → Int32) {r0 : Nat → Int32} {r1 : Nat → Int32} {r2 : Nat → Int32} {r3 : Nat → Int32} {r4 : Nat → Int32} (hf : fX3_readPlace N madeI textI text_valuesF text_kindsF made_earNamesF made_placeNamesF text_startsF made_placeMilesF made_talksF text_valuesN text_kindsN text_startsN = some (r0, r1, r2, r3, r4)) : xq_Ct l yX3_readPlace wsX3_readPlace { frames := 2, cells := 0, slots := 0, locals := 44 } (dC, dI) vwCl (xq_tys cI cB cJ cZ cM) z ad [.ref a_p0] [(a_p0, .inr (3, oX3 hrI hrR)), ((hrR 2), .inr (2, oX2 madeI madeR)), ((hrR 0), .inr (10, oX10 textI textR)), ((textR 3), .inl (cI, text_valuesN, .inl text_valuesF)), ((textR 1), .inl (cI, text_kindsN, .inl text_kindsF)), ((madeR 7), .inl (cI, 7, .inl made_earNamesF)), ((madeR 10), .inl (cI, 6, .inl made_placeNamesF)), ((textR 2), .inl (cI, text_startsN, .inl text_startsF)), ((madeR 11), .inl (cI, 6, .inl made_placeMilesF)), ((madeR 12), .inl (cI, 6, .inl made_talksF))] [(a_p0, .inr (3, oX3 hrI hrR)), ((hrR 2), .inr (2, oX2 r0 madeR)), ((hrR 0), .inr (10, oX10 r1 textR)), ((textR 3), .inl (cI, text_valuesN, .inl text_valuesF)), ((textR 1), .inl (cI, text_kindsN, .inl text_kindsF)), ((madeR 7), .inl (cI, 7, .inl made_earNamesF)), ((madeR 10), .inl (cI, 6, .inl r2)), ((textR 2), .inl (cI, text_startsN, .inl text_startsF)), ((madeR 11), .inl (cI, 6, .inl r3)), ((madeR 12), .inl (cI, 6, .inl r4))] none := by
  intro sz
  refine Met.ofW (cc := cX3_readPlace) (maxL := 1) (ret := none) (by decide) rfl ?_
  intro p e s m args below meth c s₁ B hml hv
  obtain ⟨rfl, hsz, hP, hK, hD0, hE, hz⟩ := hv
  have hx := B.exec
  have hb := B.bytes
  have hr := B.returns
  have hts := atoms_spec (ws := wsX3_readPlace) B.pre
  have hown : s.vm.findClass RX3 = some m.cls := findClass_of_methodNamed B.named
  have hlocks := B.notSynchronized
  subst hsz
  have hD := hD0.self (sz := s.heap.size)
  have hN := xq_Env.of hE hz hD0
  generalize hAe : va_A [(a_p0, .inr (3, oX3 hrI hrR)), ((hrR 2), .inr (2, oX2 madeI madeR)), ((hrR 0), .inr (10, oX10 textI textR)), ((textR 3), .inl (cI, text_valuesN, .inl text_valuesF)), ((textR 1), .inl (cI, text_kindsN, .inl text_kindsF)), ((madeR 7), .inl (cI, 7, .inl made_earNamesF)), ((madeR 10), .inl (cI, 6, .inl made_placeNamesF)), ((textR 2), .inl (cI, text_startsN, .inl text_startsF)), ((madeR 11), .inl (cI, 6, .inl made_placeMilesF)), ((madeR 12), .inl (cI, 6, .inl made_talksF))] s.heap.size = A at hD hN ⊢
  have hA : ∀ q : Nat, s.heap.size ≤ q → A q := fun q h => by rw [← hAe]; exact Or.inr h
  clear hAe hD0
  have hS : va_S A s.heap s.heap [] := va_S.rf
  have hl := lv_entry ([.ref a_p0]) (n := 1) (Nat.le_of_ble_eq_true rfl)
  rw [lg_entry_eq]
  generalize (lg_sl ([.ref a_p0]) ++ List.replicate (1 - (lg_sl ([.ref a_p0])).length) Slot.unset).toArray = ls at hl ⊢
  have hl : lv_has ls 1 [(0, .ref a_p0)] := hl
  have hw0 := hts (.fieldLink RX3 12 "DistantVoice$HouseReader" "made" "LDistantVoice$House;") (by decide +kernel)
  have hinX3 : ∀ w ∈ wsX30, w ∈ wsX3_readPlace := fun w h => List.mem_cons_of_mem _ (List.mem_append_left _ (List.mem_append_left _ (List.mem_append_right _ h)))
  have hnf50 := va_Nw.use (A := [.ref a_p0].toArray) rfl (hN.1.1.1 ("DistantVoice$HouseReader", 113, "DistantVoice$House", "places", "I", "DistantVoice") (List.mem_of_getElem? (i := 50) rfl))
  have hinX2 : ∀ w ∈ wsX20, w ∈ wsX3_readPlace := fun w h => List.mem_cons_of_mem _ (List.mem_append_left _ (List.mem_append_right _ h))
  have hw4 := hts (.fieldLink RX3 18 "DistantVoice$HouseReader" "text" "LDistantVoice$Text;") (by decide +kernel)
  have hnf60 := va_Nw.use (A := [.ref a_p0].toArray) rfl (hN.1.1.1 ("DistantVoice$HouseReader", 116, "DistantVoice$House", "placeNames", "[I", "DistantVoice") (List.mem_of_getElem? (i := 60) rfl))
  have hnf63 := va_Nw.use (A := [.ref a_p0].toArray) rfl (hN.1.1.1 ("DistantVoice$HouseReader", 125, "DistantVoice$House", "placeMiles", "[I", "DistantVoice") (List.mem_of_getElem? (i := 63) rfl))
  have hnf35 := va_Nw.use (A := [.ref a_p0].toArray) rfl (hN.1.1.1 ("DistantVoice$HouseReader", 41, "DistantVoice$House", "roundMiles", "I", "DistantVoice") (List.mem_of_getElem? (i := 35) rfl))
  have hnf66 := va_Nw.use (A := [.ref a_p0].toArray) rfl (hN.1.1.1 ("DistantVoice$HouseReader", 128, "DistantVoice$House", "talks", "[I", "DistantVoice") (List.mem_of_getElem? (i := 66) rfl))
  have b95 : ∀ (madeI_95 : Nat → Int32) (textI_95 : Nat → Int32) (made_placeNamesF_95 : Nat → Int32) (made_placeMilesF_95 : Nat → Int32) (made_talksF_95 : Nat → Int32) (ls : Array Slot) (H : Heap) (locs : List Loc), fX3_readPlace_b95 N text_valuesF text_kindsF made_earNamesF text_startsF text_valuesN text_kindsN text_startsN (madeI_95, textI_95, made_placeNamesF_95, made_placeMilesF_95, made_talksF_95) = some (r0, r1, r2, r3, r4) → va_P (dC, dI) vwCl [(a_p0, .inr (3, oX3 hrI hrR)), ((hrR 2), .inr (2, oX2 madeI_95 madeR)), ((hrR 0), .inr (10, oX10 textI_95 textR)), ((textR 3), .inl (cI, text_valuesN, .inl text_valuesF)), ((textR 1), .inl (cI, text_kindsN, .inl text_kindsF)), ((madeR 7), .inl (cI, 7, .inl made_earNamesF)), ((madeR 10), .inl (cI, 6, .inl made_placeNamesF_95)), ((textR 2), .inl (cI, text_startsN, .inl text_startsF)), ((madeR 11), .inl (cI, 6, .inl made_placeMilesF_95)), ((madeR 12), .inl (cI, 6, .inl made_talksF_95))] H → va_D A [(a_p0, .inr (3, oX3 hrI hrR)), ((hrR 2), .inr (2, oX2 madeI_95 madeR)), ((hrR 0), .inr (10, oX10 textI_95 textR)), ((textR 3), .inl (cI, text_valuesN, .inl text_valuesF)), ((textR 1), .inl (cI, text_kindsN, .inl text_kindsF)), ((madeR 7), .inl (cI, 7, .inl made_earNamesF)), ((madeR 10), .inl (cI, 6, .inl made_placeNamesF_95)), ((textR 2), .inl (cI, text_startsN, .inl text_startsF)), ((madeR 11), .inl (cI, 6, .inl made_placeMilesF_95)), ((madeR 12), .inl (cI, 6, .inl made_talksF_95))] → va_S A s.heap H locs → lv_has ls 1 [(0, .ref a_p0)] → W p l e (headSpec wsX3_readPlace { frames := 2, cells := 0, slots := 0, locals := 44 }).room s m [.ref a_p0].toArray below meth c H locs 0 0 (MQ below (xq_Q (dC, dI) vwCl (xq_tys cI cB cJ cZ cM) A [(a_p0, .inr (3, oX3 hrI hrR)), ((hrR 2), .inr (2, oX2 r0 madeR)), ((hrR 0), .inr (10, oX10 r1 textR)), ((textR 3), .inl (cI, text_valuesN, .inl text_valuesF)), ((textR 1), .inl (cI, text_kindsN, .inl text_kindsF)), ((madeR 7), .inl (cI, 7, .inl made_earNamesF)), ((madeR 10), .inl (cI, 6, .inl r2)), ((textR 2), .inl (cI, text_startsN, .inl text_startsF)), ((madeR 11), .inl (cI, 6, .inl r3)), ((madeR 12), .inl (cI, 6, .inl r4))] none) [.ref a_p0].toArray s 0 0 A) (F0 m 95 ls []) := by
    intro madeI_95 textI_95 made_placeNamesF_95 made_placeMilesF_95 made_talksF_95 ls H locs hf hP hD hS hl
    unfold fX3_readPlace_b95 at hf
    refine lv_aload_n hx hb dX3_readPlace_95 rfl (lv_at hl 0 rfl) ?_
    refine va_get (D := (dC, dI)) (ci := 3) (v := .ref ((hrR 2))) (C := RX3) (T := TX3) (N := 3) hx hb hts hinX3 hown hK hP 0 rfl rfl 2 (by decide) hw0 (fun _ h9 => h9) rfl dX3_readPlace_96 ?_
    refine va_getN (D := (dC, dI)) (ci := 2) (v := .ref ((madeR 11))) (C := RX2) (T := TX2) (N := 19) hx hb hts hinX2 hown hK hP 1 rfl rfl 11 (by decide) hnf63 (fun _ h9 => h9) rfl dX3_readPlace_99 ?_
    refine lv_aload_n hx hb dX3_readPlace_102 rfl (lv_at hl 0 rfl) ?_
    refine va_get (D := (dC, dI)) (ci := 3) (v := .ref ((hrR 2))) (C := RX3) (T := TX3) (N := 3) hx hb hts hinX3 hown hK hP 0 rfl rfl 2 (by decide) hw0 (fun _ h9 => h9) rfl dX3_readPlace_103 ?_
    refine va_getN (D := (dC, dI)) (ci := 2) (v := .int (madeI_95 6)) (C := RX2) (T := TX2) (N := 19) hx hb hts hinX2 hown hK hP 1 rfl rfl 6 (by decide) hnf50 (fun _ h9 => h9) rfl dX3_readPlace_106 ?_
    refine lv_aload_n hx hb dX3_readPlace_109 rfl (lv_at hl 0 rfl) ?_
    refine lv_iconst (v := 1) hx hb dX3_readPlace_110 (by decide) ?_
    refine lv_aload_n hx hb dX3_readPlace_111 rfl (lv_at hl 0 rfl) ?_
    refine va_get (D := (dC, dI)) (ci := 3) (v := .ref ((hrR 2))) (C := RX3) (T := TX3) (N := 3) hx hb hts hinX3 hown hK hP 0 rfl rfl 2 (by decide) hw0 (fun _ h9 => h9) rfl dX3_readPlace_112 ?_
    refine va_getN (D := (dC, dI)) (ci := 2) (v := .int (madeI_95 1)) (C := RX2) (T := TX2) (N := 19) hx hb hts hinX2 hown hK hP 1 rfl rfl 1 (by decide) hnf35 (fun _ h9 => h9) rfl dX3_readPlace_115 ?_
    refine lv_iconst (v := 1) hx hb dX3_readPlace_118 (by decide) ?_
    refine lv_isub hx hb dX3_readPlace_119 ?_
    obtain ⟨⟨r_1_0, r_1_1⟩, h_2, hf⟩ := xq_bd_some hf
    refine xq_callV (As := [.int 1, .int ((madeI_95 1) - 1)]) (rest := [.int (madeI_95 6), .ref ((madeR 11))]) (ci := 3) (q0 := 0) ⟨hx, hb, hml, hown, hts⟩ (kX3_readNumber l dC dI cI cB cJ cZ cM z ad N a_p0 hrI hrR textI_95 textR text_valuesF text_valuesN text_kindsF text_kindsN text_startsF text_startsN 1 ((madeI_95 1) - 1) h_2) (cwV 2 hts gX3_readPlace_X3_readNumber rfl rfl rfl (by decide +kernel) ⟨Nat.le_of_ble_eq_true rfl, Nat.le_of_ble_eq_true rfl⟩) hN hK hP hD hS hA [0, 2, 3, 4, 7] (by decide) rfl rfl rfl rfl rfl rfl hl.1 rfl (Nat.le_of_ble_eq_true rfl) dX3_readPlace_120 ⟨Nat.zero_le _, Nat.zero_le _⟩ (fun H locs hP hD hS => ?_)
    have hP : va_P (dC, dI) vwCl [(a_p0, .inr (3, oX3 hrI hrR)), ((hrR 2), .inr (2, oX2 madeI_95 madeR)), ((hrR 0), .inr (10, oX10 r_1_1 textR)), ((textR 3), .inl (cI, text_valuesN, .inl text_valuesF)), ((textR 1), .inl (cI, text_kindsN, .inl text_kindsF)), ((madeR 7), .inl (cI, 7, .inl made_earNamesF)), ((madeR 10), .inl (cI, 6, .inl made_placeNamesF_95)), ((textR 2), .inl (cI, text_startsN, .inl text_startsF)), ((madeR 11), .inl (cI, 6, .inl made_placeMilesF_95)), ((madeR 12), .inl (cI, 6, .inl made_talksF_95))] H := hP
    have hD : va_D A [(a_p0, .inr (3, oX3 hrI hrR)), ((hrR 2), .inr (2, oX2 madeI_95 madeR)), ((hrR 0), .inr (10, oX10 r_1_1 textR)), ((textR 3), .inl (cI, text_valuesN, .inl text_valuesF)), ((textR 1), .inl (cI, text_kindsN, .inl text_kindsF)), ((madeR 7), .inl (cI, 7, .inl made_earNamesF)), ((madeR 10), .inl (cI, 6, .inl made_placeNamesF_95)), ((textR 2), .inl (cI, text_startsN, .inl text_startsF)), ((madeR 11), .inl (cI, 6, .inl made_placeMilesF_95)), ((madeR 12), .inl (cI, 6, .inl made_talksF_95))] := hD
    refine W.eq (g2 := F0 m 123 ls [.int r_1_0, .int (madeI_95 6), .ref ((madeR 11))]) rfl ?_
    refine xq_iast hx hb hK hP hD hS 8 0 rfl rfl hf dX3_readPlace_123 (fun g_3 H locs hf hP hD hS => ?_)
    have hP : va_P (dC, dI) vwCl [(a_p0, .inr (3, oX3 hrI hrR)), ((hrR 2), .inr (2, oX2 madeI_95 madeR)), ((hrR 0), .inr (10, oX10 r_1_1 textR)), ((textR 3), .inl (cI, text_valuesN, .inl text_valuesF)), ((textR 1), .inl (cI, text_kindsN, .inl text_kindsF)), ((madeR 7), .inl (cI, 7, .inl made_earNamesF)), ((madeR 10), .inl (cI, 6, .inl made_placeNamesF_95)), ((textR 2), .inl (cI, text_startsN, .inl text_startsF)), ((madeR 11), .inl (cI, 6, .inl g_3)), ((madeR 12), .inl (cI, 6, .inl made_talksF_95))] H := hP
    have hD : va_D A [(a_p0, .inr (3, oX3 hrI hrR)), ((hrR 2), .inr (2, oX2 madeI_95 madeR)), ((hrR 0), .inr (10, oX10 r_1_1 textR)), ((textR 3), .inl (cI, text_valuesN, .inl text_valuesF)), ((textR 1), .inl (cI, text_kindsN, .inl text_kindsF)), ((madeR 7), .inl (cI, 7, .inl made_earNamesF)), ((madeR 10), .inl (cI, 6, .inl made_placeNamesF_95)), ((textR 2), .inl (cI, text_startsN, .inl text_startsF)), ((madeR 11), .inl (cI, 6, .inl g_3)), ((madeR 12), .inl (cI, 6, .inl made_talksF_95))] := hD
    refine lv_aload_n hx hb dX3_readPlace_124 rfl (lv_at hl 0 rfl) ?_
    refine va_get (D := (dC, dI)) (ci := 3) (v := .ref ((hrR 0))) (C := RX3) (T := TX3) (N := 3) hx hb hts hinX3 hown hK hP 0 rfl rfl 0 (by decide) hw4 (fun _ h9 => h9) rfl dX3_readPlace_125 ?_
    refine lv_sipush (v := 309) hx hb dX3_readPlace_128 (by decide) ?_
    obtain ⟨r_4, h_5, hf⟩ := xq_bd_some hf
    refine xq_callV (As := [.int 309]) (rest := []) (ci := 10) (q0 := 2) ⟨hx, hb, hml, hown, hts⟩ (kX10_take l dC dI cI cB cJ cZ cM z ad N ((hrR 0)) r_1_1 textR text_kindsF text_kindsN text_startsF text_startsN text_valuesF text_valuesN 309 h_5) (cwV 1 hts gX3_readPlace_X10_take rfl rfl rfl (by decide +kernel) ⟨Nat.le_of_ble_eq_true rfl, Nat.le_of_ble_eq_true rfl⟩) hN hK hP hD hS hA [2, 4, 7, 3] (by decide) rfl rfl rfl rfl rfl rfl hl.1 rfl (Nat.le_of_ble_eq_true rfl) dX3_readPlace_131 ⟨Nat.zero_le _, Nat.zero_le _⟩ (fun H locs hP hD hS => ?_)
    have hP : va_P (dC, dI) vwCl [(a_p0, .inr (3, oX3 hrI hrR)), ((hrR 2), .inr (2, oX2 madeI_95 madeR)), ((hrR 0), .inr (10, oX10 r_4 textR)), ((textR 3), .inl (cI, text_valuesN, .inl text_valuesF)), ((textR 1), .inl (cI, text_kindsN, .inl text_kindsF)), ((madeR 7), .inl (cI, 7, .inl made_earNamesF)), ((madeR 10), .inl (cI, 6, .inl made_placeNamesF_95)), ((textR 2), .inl (cI, text_startsN, .inl text_startsF)), ((madeR 11), .inl (cI, 6, .inl g_3)), ((madeR 12), .inl (cI, 6, .inl made_talksF_95))] H := hP
    have hD : va_D A [(a_p0, .inr (3, oX3 hrI hrR)), ((hrR 2), .inr (2, oX2 madeI_95 madeR)), ((hrR 0), .inr (10, oX10 r_4 textR)), ((textR 3), .inl (cI, text_valuesN, .inl text_valuesF)), ((textR 1), .inl (cI, text_kindsN, .inl text_kindsF)), ((madeR 7), .inl (cI, 7, .inl made_earNamesF)), ((madeR 10), .inl (cI, 6, .inl made_placeNamesF_95)), ((textR 2), .inl (cI, text_startsN, .inl text_startsF)), ((madeR 11), .inl (cI, 6, .inl g_3)), ((madeR 12), .inl (cI, 6, .inl made_talksF_95))] := hD
    refine W.eq (g2 := F0 m 134 ls []) rfl ?_
    refine lv_aload_n hx hb dX3_readPlace_134 rfl (lv_at hl 0 rfl) ?_
    refine va_get (D := (dC, dI)) (ci := 3) (v := .ref ((hrR 2))) (C := RX3) (T := TX3) (N := 3) hx hb hts hinX3 hown hK hP 0 rfl rfl 2 (by decide) hw0 (fun _ h9 => h9) rfl dX3_readPlace_135 ?_
    refine va_getN (D := (dC, dI)) (ci := 2) (v := .ref ((madeR 12))) (C := RX2) (T := TX2) (N := 19) hx hb hts hinX2 hown hK hP 1 rfl rfl 12 (by decide) hnf66 (fun _ h9 => h9) rfl dX3_readPlace_138 ?_
    refine lv_aload_n hx hb dX3_readPlace_141 rfl (lv_at hl 0 rfl) ?_
    refine va_get (D := (dC, dI)) (ci := 3) (v := .ref ((hrR 2))) (C := RX3) (T := TX3) (N := 3) hx hb hts hinX3 hown hK hP 0 rfl rfl 2 (by decide) hw0 (fun _ h9 => h9) rfl dX3_readPlace_142 ?_
    refine va_getN (D := (dC, dI)) (ci := 2) (v := .int (madeI_95 6)) (C := RX2) (T := TX2) (N := 19) hx hb hts hinX2 hown hK hP 1 rfl rfl 6 (by decide) hnf50 (fun _ h9 => h9) rfl dX3_readPlace_145 ?_
    refine lv_aload_n hx hb dX3_readPlace_148 rfl (lv_at hl 0 rfl) ?_
    refine lv_iconst (v := 0) hx hb dX3_readPlace_149 (by decide) ?_
    refine lv_bipush (v := 9) hx hb dX3_readPlace_150 (by decide) ?_
    obtain ⟨⟨r_6_0, r_6_1⟩, h_7, hf⟩ := xq_bd_some hf
    refine xq_callV (As := [.int 0, .int 9]) (rest := [.int (madeI_95 6), .ref ((madeR 12))]) (ci := 3) (q0 := 0) ⟨hx, hb, hml, hown, hts⟩ (kX3_readNumber l dC dI cI cB cJ cZ cM z ad N a_p0 hrI hrR r_4 textR text_valuesF text_valuesN text_kindsF text_kindsN text_startsF text_startsN 0 9 h_7) (cwV 2 hts gX3_readPlace_X3_readNumber rfl rfl rfl (by decide +kernel) ⟨Nat.le_of_ble_eq_true rfl, Nat.le_of_ble_eq_true rfl⟩) hN hK hP hD hS hA [0, 2, 3, 4, 7] (by decide) rfl rfl rfl rfl rfl rfl hl.1 rfl (Nat.le_of_ble_eq_true rfl) dX3_readPlace_152 ⟨Nat.zero_le _, Nat.zero_le _⟩ (fun H locs hP hD hS => ?_)
    have hP : va_P (dC, dI) vwCl [(a_p0, .inr (3, oX3 hrI hrR)), ((hrR 2), .inr (2, oX2 madeI_95 madeR)), ((hrR 0), .inr (10, oX10 r_6_1 textR)), ((textR 3), .inl (cI, text_valuesN, .inl text_valuesF)), ((textR 1), .inl (cI, text_kindsN, .inl text_kindsF)), ((madeR 7), .inl (cI, 7, .inl made_earNamesF)), ((madeR 10), .inl (cI, 6, .inl made_placeNamesF_95)), ((textR 2), .inl (cI, text_startsN, .inl text_startsF)), ((madeR 11), .inl (cI, 6, .inl g_3)), ((madeR 12), .inl (cI, 6, .inl made_talksF_95))] H := hP
    have hD : va_D A [(a_p0, .inr (3, oX3 hrI hrR)), ((hrR 2), .inr (2, oX2 madeI_95 madeR)), ((hrR 0), .inr (10, oX10 r_6_1 textR)), ((textR 3), .inl (cI, text_valuesN, .inl text_valuesF)), ((textR 1), .inl (cI, text_kindsN, .inl text_kindsF)), ((madeR 7), .inl (cI, 7, .inl made_earNamesF)), ((madeR 10), .inl (cI, 6, .inl made_placeNamesF_95)), ((textR 2), .inl (cI, text_startsN, .inl text_startsF)), ((madeR 11), .inl (cI, 6, .inl g_3)), ((madeR 12), .inl (cI, 6, .inl made_talksF_95))] := hD
    refine W.eq (g2 := F0 m 155 ls [.int r_6_0, .int (madeI_95 6), .ref ((madeR 12))]) rfl ?_
    refine xq_iast hx hb hK hP hD hS 9 0 rfl rfl hf dX3_readPlace_155 (fun g_8 H locs hf hP hD hS => ?_)
    have hP : va_P (dC, dI) vwCl [(a_p0, .inr (3, oX3 hrI hrR)), ((hrR 2), .inr (2, oX2 madeI_95 madeR)), ((hrR 0), .inr (10, oX10 r_6_1 textR)), ((textR 3), .inl (cI, text_valuesN, .inl text_valuesF)), ((textR 1), .inl (cI, text_kindsN, .inl text_kindsF)), ((madeR 7), .inl (cI, 7, .inl made_earNamesF)), ((madeR 10), .inl (cI, 6, .inl made_placeNamesF_95)), ((textR 2), .inl (cI, text_startsN, .inl text_startsF)), ((madeR 11), .inl (cI, 6, .inl g_3)), ((madeR 12), .inl (cI, 6, .inl g_8))] H := hP
    have hD : va_D A [(a_p0, .inr (3, oX3 hrI hrR)), ((hrR 2), .inr (2, oX2 madeI_95 madeR)), ((hrR 0), .inr (10, oX10 r_6_1 textR)), ((textR 3), .inl (cI, text_valuesN, .inl text_valuesF)), ((textR 1), .inl (cI, text_kindsN, .inl text_kindsF)), ((madeR 7), .inl (cI, 7, .inl made_earNamesF)), ((madeR 10), .inl (cI, 6, .inl made_placeNamesF_95)), ((textR 2), .inl (cI, text_startsN, .inl text_startsF)), ((madeR 11), .inl (cI, 6, .inl g_3)), ((madeR 12), .inl (cI, 6, .inl g_8))] := hD
    refine lv_aload_n hx hb dX3_readPlace_156 rfl (lv_at hl 0 rfl) ?_
    refine va_get (D := (dC, dI)) (ci := 3) (v := .ref ((hrR 2))) (C := RX3) (T := TX3) (N := 3) hx hb hts hinX3 hown hK hP 0 rfl rfl 2 (by decide) hw0 (fun _ h9 => h9) rfl dX3_readPlace_157 ?_
    refine lv_dup hx hb dX3_readPlace_160 rfl ?_
    refine va_getN (D := (dC, dI)) (ci := 2) (v := .int (madeI_95 6)) (C := RX2) (T := TX2) (N := 19) hx hb hts hinX2 hown hK hP 1 rfl rfl 6 (by decide) hnf50 (fun _ h9 => h9) rfl dX3_readPlace_161 ?_
    refine lv_iconst (v := 1) hx hb dX3_readPlace_164 (by decide) ?_
    refine lv_iadd hx hb dX3_readPlace_165 ?_
    refine va_putN (D := (dC, dI)) (ci := 2) (v := .int ((madeI_95 6) + 1)) (ty := .int) (C := RX2) (T := TX2) (N := 19) hx hb hts hinX2 tyX2 tyX2_ok nmX2 hown hK hP hD hS 1 rfl rfl 6 (by decide) hnf50 (fun _ h9 => h9) rfl (by decide +kernel) rfl rfl (Nat.le_of_ble_eq_true rfl) dX3_readPlace_166 (fun H locs hP hD hS => ?_)
    have hP : va_P (dC, dI) vwCl [(a_p0, .inr (3, oX3 hrI hrR)), ((hrR 2), .inr (2, oX2 (va_up madeI_95 6 ((madeI_95 6) + 1)) madeR)), ((hrR 0), .inr (10, oX10 r_6_1 textR)), ((textR 3), .inl (cI, text_valuesN, .inl text_valuesF)), ((textR 1), .inl (cI, text_kindsN, .inl text_kindsF)), ((madeR 7), .inl (cI, 7, .inl made_earNamesF)), ((madeR 10), .inl (cI, 6, .inl made_placeNamesF_95)), ((textR 2), .inl (cI, text_startsN, .inl text_startsF)), ((madeR 11), .inl (cI, 6, .inl g_3)), ((madeR 12), .inl (cI, 6, .inl g_8))] H := hP
    have hD : va_D A [(a_p0, .inr (3, oX3 hrI hrR)), ((hrR 2), .inr (2, oX2 (va_up madeI_95 6 ((madeI_95 6) + 1)) madeR)), ((hrR 0), .inr (10, oX10 r_6_1 textR)), ((textR 3), .inl (cI, text_valuesN, .inl text_valuesF)), ((textR 1), .inl (cI, text_kindsN, .inl text_kindsF)), ((madeR 7), .inl (cI, 7, .inl made_earNamesF)), ((madeR 10), .inl (cI, 6, .inl made_placeNamesF_95)), ((textR 2), .inl (cI, text_startsN, .inl text_startsF)), ((madeR 11), .inl (cI, 6, .inl g_3)), ((madeR 12), .inl (cI, 6, .inl g_8))] := hD
    cases hf
    exact xq_vret hx hb hr hlocks hK hP hD hS dX3_readPlace_169
  unfold fX3_readPlace at hf
  refine lv_aload_n hx hb dX3_readPlace_0 rfl (lv_at hl 0 rfl) ?_
  refine va_get (D := (dC, dI)) (ci := 3) (v := .ref ((hrR 2))) (C := RX3) (T := TX3) (N := 3) hx hb hts hinX3 hown hK hP 0 rfl rfl 2 (by decide) hw0 (fun _ h9 => h9) rfl dX3_readPlace_1 ?_
  refine va_getN (D := (dC, dI)) (ci := 2) (v := .int (madeI 6)) (C := RX2) (T := TX2) (N := 19) hx hb hts hinX2 hown hK hP 1 rfl rfl 6 (by decide) hnf50 (fun _ h9 => h9) rfl dX3_readPlace_4 ?_
  refine lv_bipush (v := 6) hx hb dX3_readPlace_7 (by decide) ?_
  refine lv_icmp_lt (tgt := 22) hx hb dX3_readPlace_9 (by decide) (fun c_ => ?_) (fun c_ => ?_)
  · have hf := xq_pos hf c_
    refine lv_aload_n hx hb dX3_readPlace_22 rfl (lv_at hl 0 rfl) ?_
    refine va_get (D := (dC, dI)) (ci := 3) (v := .ref ((hrR 0))) (C := RX3) (T := TX3) (N := 3) hx hb hts hinX3 hown hK hP 0 rfl rfl 0 (by decide) hw4 (fun _ h9 => h9) rfl dX3_readPlace_23 ?_
    obtain ⟨r_1, h_2, hf⟩ := xq_bd_some hf
    refine xq_callV (As := []) (rest := []) (ci := 10) (q0 := 2) ⟨hx, hb, hml, hown, hts⟩ (kX10_next l dC dI cI cB cJ cZ cM z ad N ((hrR 0)) textI textR h_2) (cwV 0 hts gX3_readPlace_X10_next rfl rfl rfl (by decide +kernel) ⟨Nat.le_of_ble_eq_true rfl, Nat.le_of_ble_eq_true rfl⟩) hN hK hP hD hS hA [2] (by decide) rfl rfl rfl rfl rfl rfl hl.1 rfl (Nat.le_of_ble_eq_true rfl) dX3_readPlace_26 ⟨Nat.zero_le _, Nat.zero_le _⟩ (fun H locs hP hD hS => ?_)
    have hP : va_P (dC, dI) vwCl [(a_p0, .inr (3, oX3 hrI hrR)), ((hrR 2), .inr (2, oX2 madeI madeR)), ((hrR 0), .inr (10, oX10 r_1 textR)), ((textR 3), .inl (cI, text_valuesN, .inl text_valuesF)), ((textR 1), .inl (cI, text_kindsN, .inl text_kindsF)), ((madeR 7), .inl (cI, 7, .inl made_earNamesF)), ((madeR 10), .inl (cI, 6, .inl made_placeNamesF)), ((textR 2), .inl (cI, text_startsN, .inl text_startsF)), ((madeR 11), .inl (cI, 6, .inl made_placeMilesF)), ((madeR 12), .inl (cI, 6, .inl made_talksF))] H := hP
    have hD : va_D A [(a_p0, .inr (3, oX3 hrI hrR)), ((hrR 2), .inr (2, oX2 madeI madeR)), ((hrR 0), .inr (10, oX10 r_1 textR)), ((textR 3), .inl (cI, text_valuesN, .inl text_valuesF)), ((textR 1), .inl (cI, text_kindsN, .inl text_kindsF)), ((madeR 7), .inl (cI, 7, .inl made_earNamesF)), ((madeR 10), .inl (cI, 6, .inl made_placeNamesF)), ((textR 2), .inl (cI, text_startsN, .inl text_startsF)), ((madeR 11), .inl (cI, 6, .inl made_placeMilesF)), ((madeR 12), .inl (cI, 6, .inl made_talksF))] := hD
    refine W.eq (g2 := F0 m 29 ls []) rfl ?_
    refine lv_aload_n hx hb dX3_readPlace_29 rfl (lv_at hl 0 rfl) ?_
    refine va_get (D := (dC, dI)) (ci := 3) (v := .ref ((hrR 2))) (C := RX3) (T := TX3) (N := 3) hx hb hts hinX3 hown hK hP 0 rfl rfl 2 (by decide) hw0 (fun _ h9 => h9) rfl dX3_readPlace_30 ?_
    refine va_getN (D := (dC, dI)) (ci := 2) (v := .ref ((madeR 10))) (C := RX2) (T := TX2) (N := 19) hx hb hts hinX2 hown hK hP 1 rfl rfl 10 (by decide) hnf60 (fun _ h9 => h9) rfl dX3_readPlace_33 ?_
    refine lv_aload_n hx hb dX3_readPlace_36 rfl (lv_at hl 0 rfl) ?_
    refine va_get (D := (dC, dI)) (ci := 3) (v := .ref ((hrR 2))) (C := RX3) (T := TX3) (N := 3) hx hb hts hinX3 hown hK hP 0 rfl rfl 2 (by decide) hw0 (fun _ h9 => h9) rfl dX3_readPlace_37 ?_
    refine va_getN (D := (dC, dI)) (ci := 2) (v := .int (madeI 6)) (C := RX2) (T := TX2) (N := 19) hx hb hts hinX2 hown hK hP 1 rfl rfl 6 (by decide) hnf50 (fun _ h9 => h9) rfl dX3_readPlace_40 ?_
    refine lv_aload_n hx hb dX3_readPlace_43 rfl (lv_at hl 0 rfl) ?_
    obtain ⟨⟨r_3_0, r_3_1⟩, h_4, hf⟩ := xq_bd_some hf
    refine xq_callV (As := []) (rest := [.int (madeI 6), .ref ((madeR 10))]) (ci := 3) (q0 := 0) ⟨hx, hb, hml, hown, hts⟩ (kX3_readNewName l dC dI cI cB cJ cZ cM z ad N a_p0 hrI hrR r_1 textR text_valuesF text_valuesN text_kindsF text_kindsN madeI madeR made_earNamesF made_placeNamesF text_startsF text_startsN h_4) (cwV 0 hts gX3_readPlace_X3_readNewName rfl rfl rfl (by decide +kernel) ⟨Nat.le_of_ble_eq_true rfl, Nat.le_of_ble_eq_true rfl⟩) hN hK hP hD hS hA [0, 2, 3, 4, 1, 5, 6, 7] (by decide) rfl rfl rfl rfl rfl rfl hl.1 rfl (Nat.le_of_ble_eq_true rfl) dX3_readPlace_44 ⟨Nat.zero_le _, Nat.zero_le _⟩ (fun H locs hP hD hS => ?_)
    have hP : va_P (dC, dI) vwCl [(a_p0, .inr (3, oX3 hrI hrR)), ((hrR 2), .inr (2, oX2 madeI madeR)), ((hrR 0), .inr (10, oX10 r_3_1 textR)), ((textR 3), .inl (cI, text_valuesN, .inl text_valuesF)), ((textR 1), .inl (cI, text_kindsN, .inl text_kindsF)), ((madeR 7), .inl (cI, 7, .inl made_earNamesF)), ((madeR 10), .inl (cI, 6, .inl made_placeNamesF)), ((textR 2), .inl (cI, text_startsN, .inl text_startsF)), ((madeR 11), .inl (cI, 6, .inl made_placeMilesF)), ((madeR 12), .inl (cI, 6, .inl made_talksF))] H := hP
    have hD : va_D A [(a_p0, .inr (3, oX3 hrI hrR)), ((hrR 2), .inr (2, oX2 madeI madeR)), ((hrR 0), .inr (10, oX10 r_3_1 textR)), ((textR 3), .inl (cI, text_valuesN, .inl text_valuesF)), ((textR 1), .inl (cI, text_kindsN, .inl text_kindsF)), ((madeR 7), .inl (cI, 7, .inl made_earNamesF)), ((madeR 10), .inl (cI, 6, .inl made_placeNamesF)), ((textR 2), .inl (cI, text_startsN, .inl text_startsF)), ((madeR 11), .inl (cI, 6, .inl made_placeMilesF)), ((madeR 12), .inl (cI, 6, .inl made_talksF))] := hD
    refine W.eq (g2 := F0 m 47 ls [.int r_3_0, .int (madeI 6), .ref ((madeR 10))]) rfl ?_
    refine xq_iast hx hb hK hP hD hS 6 0 rfl rfl hf dX3_readPlace_47 (fun g_5 H locs hf hP hD hS => ?_)
    have hP : va_P (dC, dI) vwCl [(a_p0, .inr (3, oX3 hrI hrR)), ((hrR 2), .inr (2, oX2 madeI madeR)), ((hrR 0), .inr (10, oX10 r_3_1 textR)), ((textR 3), .inl (cI, text_valuesN, .inl text_valuesF)), ((textR 1), .inl (cI, text_kindsN, .inl text_kindsF)), ((madeR 7), .inl (cI, 7, .inl made_earNamesF)), ((madeR 10), .inl (cI, 6, .inl g_5)), ((textR 2), .inl (cI, text_startsN, .inl text_startsF)), ((madeR 11), .inl (cI, 6, .inl made_placeMilesF)), ((madeR 12), .inl (cI, 6, .inl made_talksF))] H := hP
    have hD : va_D A [(a_p0, .inr (3, oX3 hrI hrR)), ((hrR 2), .inr (2, oX2 madeI madeR)), ((hrR 0), .inr (10, oX10 r_3_1 textR)), ((textR 3), .inl (cI, text_valuesN, .inl text_valuesF)), ((textR 1), .inl (cI, text_kindsN, .inl text_kindsF)), ((madeR 7), .inl (cI, 7, .inl made_earNamesF)), ((madeR 10), .inl (cI, 6, .inl g_5)), ((textR 2), .inl (cI, text_startsN, .inl text_startsF)), ((madeR 11), .inl (cI, 6, .inl made_placeMilesF)), ((madeR 12), .inl (cI, 6, .inl made_talksF))] := hD
    refine lv_aload_n hx hb dX3_readPlace_48 rfl (lv_at hl 0 rfl) ?_
    refine va_get (D := (dC, dI)) (ci := 3) (v := .ref ((hrR 0))) (C := RX3) (T := TX3) (N := 3) hx hb hts hinX3 hown hK hP 0 rfl rfl 0 (by decide) hw4 (fun _ h9 => h9) rfl dX3_readPlace_49 ?_
    refine lv_sipush (v := 308) hx hb dX3_readPlace_52 (by decide) ?_
    obtain ⟨r_6, h_7, hf⟩ := xq_bd_some hf
    refine xq_callV (As := [.int 308]) (rest := []) (ci := 10) (q0 := 2) ⟨hx, hb, hml, hown, hts⟩ (kX10_take l dC dI cI cB cJ cZ cM z ad N ((hrR 0)) r_3_1 textR text_kindsF text_kindsN text_startsF text_startsN text_valuesF text_valuesN 308 h_7) (cwV 1 hts gX3_readPlace_X10_take rfl rfl rfl (by decide +kernel) ⟨Nat.le_of_ble_eq_true rfl, Nat.le_of_ble_eq_true rfl⟩) hN hK hP hD hS hA [2, 4, 7, 3] (by decide) rfl rfl rfl rfl rfl rfl hl.1 rfl (Nat.le_of_ble_eq_true rfl) dX3_readPlace_55 ⟨Nat.zero_le _, Nat.zero_le _⟩ (fun H locs hP hD hS => ?_)
    have hP : va_P (dC, dI) vwCl [(a_p0, .inr (3, oX3 hrI hrR)), ((hrR 2), .inr (2, oX2 madeI madeR)), ((hrR 0), .inr (10, oX10 r_6 textR)), ((textR 3), .inl (cI, text_valuesN, .inl text_valuesF)), ((textR 1), .inl (cI, text_kindsN, .inl text_kindsF)), ((madeR 7), .inl (cI, 7, .inl made_earNamesF)), ((madeR 10), .inl (cI, 6, .inl g_5)), ((textR 2), .inl (cI, text_startsN, .inl text_startsF)), ((madeR 11), .inl (cI, 6, .inl made_placeMilesF)), ((madeR 12), .inl (cI, 6, .inl made_talksF))] H := hP
    have hD : va_D A [(a_p0, .inr (3, oX3 hrI hrR)), ((hrR 2), .inr (2, oX2 madeI madeR)), ((hrR 0), .inr (10, oX10 r_6 textR)), ((textR 3), .inl (cI, text_valuesN, .inl text_valuesF)), ((textR 1), .inl (cI, text_kindsN, .inl text_kindsF)), ((madeR 7), .inl (cI, 7, .inl made_earNamesF)), ((madeR 10), .inl (cI, 6, .inl g_5)), ((textR 2), .inl (cI, text_startsN, .inl text_startsF)), ((madeR 11), .inl (cI, 6, .inl made_placeMilesF)), ((madeR 12), .inl (cI, 6, .inl made_talksF))] := hD
    refine W.eq (g2 := F0 m 58 ls []) rfl ?_
    refine lv_aload_n hx hb dX3_readPlace_58 rfl (lv_at hl 0 rfl) ?_
    refine va_get (D := (dC, dI)) (ci := 3) (v := .ref ((hrR 0))) (C := RX3) (T := TX3) (N := 3) hx hb hts hinX3 hown hK hP 0 rfl rfl 0 (by decide) hw4 (fun _ h9 => h9) rfl dX3_readPlace_59 ?_
    obtain ⟨r_8, h_9, hf⟩ := xq_bd_some hf
    refine xq_callV (As := []) (rest := []) (ci := 10) (q0 := 2) ⟨hx, hb, hml, hown, hts⟩ (kX10_piece l dC dI cI cB cJ cZ cM z ad N ((hrR 0)) r_6 textR text_kindsF text_kindsN h_9) (cwV 0 hts gX3_readPlace_X10_piece rfl rfl rfl (by decide +kernel) ⟨Nat.le_of_ble_eq_true rfl, Nat.le_of_ble_eq_true rfl⟩) hN hK hP hD hS hA [2, 4] (by decide) rfl rfl rfl rfl rfl rfl hl.1 rfl (Nat.le_of_ble_eq_true rfl) dX3_readPlace_62 ⟨Nat.zero_le _, Nat.zero_le _⟩ (fun H locs hP hD hS => ?_)
    have hP : va_P (dC, dI) vwCl [(a_p0, .inr (3, oX3 hrI hrR)), ((hrR 2), .inr (2, oX2 madeI madeR)), ((hrR 0), .inr (10, oX10 r_6 textR)), ((textR 3), .inl (cI, text_valuesN, .inl text_valuesF)), ((textR 1), .inl (cI, text_kindsN, .inl text_kindsF)), ((madeR 7), .inl (cI, 7, .inl made_earNamesF)), ((madeR 10), .inl (cI, 6, .inl g_5)), ((textR 2), .inl (cI, text_startsN, .inl text_startsF)), ((madeR 11), .inl (cI, 6, .inl made_placeMilesF)), ((madeR 12), .inl (cI, 6, .inl made_talksF))] H := hP
    have hD : va_D A [(a_p0, .inr (3, oX3 hrI hrR)), ((hrR 2), .inr (2, oX2 madeI madeR)), ((hrR 0), .inr (10, oX10 r_6 textR)), ((textR 3), .inl (cI, text_valuesN, .inl text_valuesF)), ((textR 1), .inl (cI, text_kindsN, .inl text_kindsF)), ((madeR 7), .inl (cI, 7, .inl made_earNamesF)), ((madeR 10), .inl (cI, 6, .inl g_5)), ((textR 2), .inl (cI, text_startsN, .inl text_startsF)), ((madeR 11), .inl (cI, 6, .inl made_placeMilesF)), ((madeR 12), .inl (cI, 6, .inl made_talksF))] := hD
    refine W.eq (g2 := F0 m 65 ls [.int r_8]) rfl ?_
    refine lv_bipush (v := (-3)) hx hb dX3_readPlace_65 (by decide) ?_
    refine lv_icmp_ne (tgt := 95) hx hb dX3_readPlace_67 (by decide) (fun c_ => ?_) (fun c_ => ?_)
    · have hf := xq_neg hf c_
      exact b95 madeI r_6 g_5 made_placeMilesF made_talksF _ _ _ hf hP hD hS (lv_sub hl [0] rfl)
    · have hf := xq_pos hf c_
      refine lv_aload_n hx hb dX3_readPlace_70 rfl (lv_at hl 0 rfl) ?_
      refine va_get (D := (dC, dI)) (ci := 3) (v := .ref ((hrR 2))) (C := RX3) (T := TX3) (N := 3) hx hb hts hinX3 hown hK hP 0 rfl rfl 2 (by decide) hw0 (fun _ h9 => h9) rfl dX3_readPlace_71 ?_
      refine lv_aload_n hx hb dX3_readPlace_74 rfl (lv_at hl 0 rfl) ?_
      refine va_get (D := (dC, dI)) (ci := 3) (v := .ref ((hrR 0))) (C := RX3) (T := TX3) (N := 3) hx hb hts hinX3 hown hK hP 0 rfl rfl 0 (by decide) hw4 (fun _ h9 => h9) rfl dX3_readPlace_75 ?_
      obtain ⟨r_10, h_11, hf⟩ := xq_bd_some hf
      refine xq_callV (As := []) (rest := [.ref ((hrR 2))]) (ci := 10) (q0 := 2) ⟨hx, hb, hml, hown, hts⟩ (kX10_value l dC dI cI cB cJ cZ cM z ad N ((hrR 0)) r_6 textR text_valuesF text_valuesN h_11) (cwV 0 hts gX3_readPlace_X10_value rfl rfl rfl (by decide +kernel) ⟨Nat.le_of_ble_eq_true rfl, Nat.le_of_ble_eq_true rfl⟩) hN hK hP hD hS hA [2, 3] (by decide) rfl rfl rfl rfl rfl rfl hl.1 rfl (Nat.le_of_ble_eq_true rfl) dX3_readPlace_78 ⟨Nat.zero_le _, Nat.zero_le _⟩ (fun H locs hP hD hS => ?_)
      have hP : va_P (dC, dI) vwCl [(a_p0, .inr (3, oX3 hrI hrR)), ((hrR 2), .inr (2, oX2 madeI madeR)), ((hrR 0), .inr (10, oX10 r_6 textR)), ((textR 3), .inl (cI, text_valuesN, .inl text_valuesF)), ((textR 1), .inl (cI, text_kindsN, .inl text_kindsF)), ((madeR 7), .inl (cI, 7, .inl made_earNamesF)), ((madeR 10), .inl (cI, 6, .inl g_5)), ((textR 2), .inl (cI, text_startsN, .inl text_startsF)), ((madeR 11), .inl (cI, 6, .inl made_placeMilesF)), ((madeR 12), .inl (cI, 6, .inl made_talksF))] H := hP
      have hD : va_D A [(a_p0, .inr (3, oX3 hrI hrR)), ((hrR 2), .inr (2, oX2 madeI madeR)), ((hrR 0), .inr (10, oX10 r_6 textR)), ((textR 3), .inl (cI, text_valuesN, .inl text_valuesF)), ((textR 1), .inl (cI, text_kindsN, .inl text_kindsF)), ((madeR 7), .inl (cI, 7, .inl made_earNamesF)), ((madeR 10), .inl (cI, 6, .inl g_5)), ((textR 2), .inl (cI, text_startsN, .inl text_startsF)), ((madeR 11), .inl (cI, 6, .inl made_placeMilesF)), ((madeR 12), .inl (cI, 6, .inl made_talksF))] := hD
      refine W.eq (g2 := F0 m 81 ls [.int r_10, .ref ((hrR 2))]) rfl ?_
      obtain ⟨r_12, h_13, hf⟩ := xq_bd_some hf
      refine xq_callV (As := [.int r_10]) (rest := []) (ci := 2) (q0 := 1) ⟨hx, hb, hml, hown, hts⟩ (kX2_hasPlaceAt l dC dI cI cB cJ cZ cM z ad N ((hrR 2)) madeI madeR made_placeMilesF r_10 h_13) (cwV 1 hts gX3_readPlace_X2_hasPlaceAt rfl rfl rfl (by decide +kernel) ⟨Nat.le_of_ble_eq_true rfl, Nat.le_of_ble_eq_true rfl⟩) hN hK hP hD hS hA [1, 8] (by decide) rfl rfl rfl rfl rfl rfl hl.1 rfl (Nat.le_of_ble_eq_true rfl) dX3_readPlace_81 ⟨Nat.zero_le _, Nat.zero_le _⟩ (fun H locs hP hD hS => ?_)
      have hP : va_P (dC, dI) vwCl [(a_p0, .inr (3, oX3 hrI hrR)), ((hrR 2), .inr (2, oX2 madeI madeR)), ((hrR 0), .inr (10, oX10 r_6 textR)), ((textR 3), .inl (cI, text_valuesN, .inl text_valuesF)), ((textR 1), .inl (cI, text_kindsN, .inl text_kindsF)), ((madeR 7), .inl (cI, 7, .inl made_earNamesF)), ((madeR 10), .inl (cI, 6, .inl g_5)), ((textR 2), .inl (cI, text_startsN, .inl text_startsF)), ((madeR 11), .inl (cI, 6, .inl made_placeMilesF)), ((madeR 12), .inl (cI, 6, .inl made_talksF))] H := hP
      have hD : va_D A [(a_p0, .inr (3, oX3 hrI hrR)), ((hrR 2), .inr (2, oX2 madeI madeR)), ((hrR 0), .inr (10, oX10 r_6 textR)), ((textR 3), .inl (cI, text_valuesN, .inl text_valuesF)), ((textR 1), .inl (cI, text_kindsN, .inl text_kindsF)), ((madeR 7), .inl (cI, 7, .inl made_earNamesF)), ((madeR 10), .inl (cI, 6, .inl g_5)), ((textR 2), .inl (cI, text_startsN, .inl text_startsF)), ((madeR 11), .inl (cI, 6, .inl made_placeMilesF)), ((madeR 12), .inl (cI, 6, .inl made_talksF))] := hD
      refine W.eq (g2 := F0 m 84 ls [.int r_12]) rfl ?_
      refine lv_if_eq (tgt := 95) hx hb dX3_readPlace_84 (by decide) (fun c_ => ?_) (fun c_ => ?_)
      · have hf := xq_pos hf c_
        exact b95 madeI r_6 g_5 made_placeMilesF made_talksF _ _ _ hf hP hD hS (lv_sub hl [0] rfl)
      · have hf := xq_neg hf c_
        refine lv_aload_n hx hb dX3_readPlace_87 rfl (lv_at hl 0 rfl) ?_
        refine va_get (D := (dC, dI)) (ci := 3) (v := .ref ((hrR 0))) (C := RX3) (T := TX3) (N := 3) hx hb hts hinX3 hown hK hP 0 rfl rfl 0 (by decide) hw4 (fun _ h9 => h9) rfl dX3_readPlace_88 ?_
        refine lv_iconst (v := 4) hx hb dX3_readPlace_91 (by decide) ?_
        obtain ⟨r_14, h_15, hf⟩ := xq_bd_some hf
        refine xq_callV (As := [.int 4]) (rest := []) (ci := 10) (q0 := 2) ⟨hx, hb, hml, hown, hts⟩ (kX10_fail l dC dI cI cB cJ cZ cM z ad N ((hrR 0)) r_6 textR text_startsF text_startsN 4 h_15) (cwV 1 hts gX3_readPlace_X10_fail rfl rfl rfl (by decide +kernel) ⟨Nat.le_of_ble_eq_true rfl, Nat.le_of_ble_eq_true rfl⟩) hN hK hP hD hS hA [2, 7] (by decide) rfl rfl rfl rfl rfl rfl hl.1 rfl (Nat.le_of_ble_eq_true rfl) dX3_readPlace_92 ⟨Nat.zero_le _, Nat.zero_le _⟩ (fun H locs hP hD hS => ?_)
        have hP : va_P (dC, dI) vwCl [(a_p0, .inr (3, oX3 hrI hrR)), ((hrR 2), .inr (2, oX2 madeI madeR)), ((hrR 0), .inr (10, oX10 r_14 textR)), ((textR 3), .inl (cI, text_valuesN, .inl text_valuesF)), ((textR 1), .inl (cI, text_kindsN, .inl text_kindsF)), ((madeR 7), .inl (cI, 7, .inl made_earNamesF)), ((madeR 10), .inl (cI, 6, .inl g_5)), ((textR 2), .inl (cI, text_startsN, .inl text_startsF)), ((madeR 11), .inl (cI, 6, .inl made_placeMilesF)), ((madeR 12), .inl (cI, 6, .inl made_talksF))] H := hP
        have hD : va_D A [(a_p0, .inr (3, oX3 hrI hrR)), ((hrR 2), .inr (2, oX2 madeI madeR)), ((hrR 0), .inr (10, oX10 r_14 textR)), ((textR 3), .inl (cI, text_valuesN, .inl text_valuesF)), ((textR 1), .inl (cI, text_kindsN, .inl text_kindsF)), ((madeR 7), .inl (cI, 7, .inl made_earNamesF)), ((madeR 10), .inl (cI, 6, .inl g_5)), ((textR 2), .inl (cI, text_startsN, .inl text_startsF)), ((madeR 11), .inl (cI, 6, .inl made_placeMilesF)), ((madeR 12), .inl (cI, 6, .inl made_talksF))] := hD
        refine W.eq (g2 := F0 m 95 ls []) rfl ?_
        exact b95 madeI r_14 g_5 made_placeMilesF made_talksF _ _ _ hf hP hD hS (lv_sub hl [0] rfl)
  · have hf := xq_neg hf c_
    refine lv_aload_n hx hb dX3_readPlace_12 rfl (lv_at hl 0 rfl) ?_
    refine va_get (D := (dC, dI)) (ci := 3) (v := .ref ((hrR 0))) (C := RX3) (T := TX3) (N := 3) hx hb hts hinX3 hown hK hP 0 rfl rfl 0 (by decide) hw4 (fun _ h9 => h9) rfl dX3_readPlace_13 ?_
    refine lv_bipush (v := 6) hx hb dX3_readPlace_16 (by decide) ?_
    obtain ⟨r_16, h_17, hf⟩ := xq_bd_some hf
    refine xq_callV (As := [.int 6]) (rest := []) (ci := 10) (q0 := 2) ⟨hx, hb, hml, hown, hts⟩ (kX10_fail l dC dI cI cB cJ cZ cM z ad N ((hrR 0)) textI textR text_startsF text_startsN 6 h_17) (cwV 1 hts gX3_readPlace_X10_fail rfl rfl rfl (by decide +kernel) ⟨Nat.le_of_ble_eq_true rfl, Nat.le_of_ble_eq_true rfl⟩) hN hK hP hD hS hA [2, 7] (by decide) rfl rfl rfl rfl rfl rfl hl.1 rfl (Nat.le_of_ble_eq_true rfl) dX3_readPlace_18 ⟨Nat.zero_le _, Nat.zero_le _⟩ (fun H locs hP hD hS => ?_)
    have hP : va_P (dC, dI) vwCl [(a_p0, .inr (3, oX3 hrI hrR)), ((hrR 2), .inr (2, oX2 madeI madeR)), ((hrR 0), .inr (10, oX10 r_16 textR)), ((textR 3), .inl (cI, text_valuesN, .inl text_valuesF)), ((textR 1), .inl (cI, text_kindsN, .inl text_kindsF)), ((madeR 7), .inl (cI, 7, .inl made_earNamesF)), ((madeR 10), .inl (cI, 6, .inl made_placeNamesF)), ((textR 2), .inl (cI, text_startsN, .inl text_startsF)), ((madeR 11), .inl (cI, 6, .inl made_placeMilesF)), ((madeR 12), .inl (cI, 6, .inl made_talksF))] H := hP
    have hD : va_D A [(a_p0, .inr (3, oX3 hrI hrR)), ((hrR 2), .inr (2, oX2 madeI madeR)), ((hrR 0), .inr (10, oX10 r_16 textR)), ((textR 3), .inl (cI, text_valuesN, .inl text_valuesF)), ((textR 1), .inl (cI, text_kindsN, .inl text_kindsF)), ((madeR 7), .inl (cI, 7, .inl made_earNamesF)), ((madeR 10), .inl (cI, 6, .inl made_placeNamesF)), ((textR 2), .inl (cI, text_startsN, .inl text_startsF)), ((madeR 11), .inl (cI, 6, .inl made_placeMilesF)), ((madeR 12), .inl (cI, 6, .inl made_talksF))] := hD
    refine W.eq (g2 := F0 m 21 ls []) rfl ?_
    cases hf
    exact xq_vret hx hb hr hlocks hK hP hD hS dX3_readPlace_21
