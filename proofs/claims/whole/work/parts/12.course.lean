def dsX0_wayTo_0 : List (Nat × Instr × Nat) := [(0, (.iload_n 1, 1)), (1, (.iload_n 2, 1)), (2, (.isub, 1)), (3, (.istore_n 3, 1)), (4, (.iload_n 3, 1)), (5, (.ifCond .le 7, 3)), (8, (.iload_n 3, 1)), (9, (.goto 12, 3)), (12, (.iload_n 3, 1)), (13, (.aload_n 0, 1)), (14, (.getfield 18, 3)), (17, (.getfield 74, 3)), (20, (.iadd, 1)), (21, (.ireturn, 1))]
theorem dsX0_wayTo_0_ok : (dsX0_wayTo_0.all fun q => decide (decode cX0_wayTo q.1 = .ok q.2)) = true := by decide +kernel
theorem dX0_wayTo_0 : decode cX0_wayTo 0 = .ok (.iload_n 1, 1) := of_decide_eq_true (List.all_eq_true.mp dsX0_wayTo_0_ok (0, (.iload_n 1, 1)) (List.mem_of_getElem? (i := 0) rfl))
theorem dX0_wayTo_1 : decode cX0_wayTo 1 = .ok (.iload_n 2, 1) := of_decide_eq_true (List.all_eq_true.mp dsX0_wayTo_0_ok (1, (.iload_n 2, 1)) (List.mem_of_getElem? (i := 1) rfl))
theorem dX0_wayTo_2 : decode cX0_wayTo 2 = .ok (.isub, 1) := of_decide_eq_true (List.all_eq_true.mp dsX0_wayTo_0_ok (2, (.isub, 1)) (List.mem_of_getElem? (i := 2) rfl))
theorem dX0_wayTo_3 : decode cX0_wayTo 3 = .ok (.istore_n 3, 1) := of_decide_eq_true (List.all_eq_true.mp dsX0_wayTo_0_ok (3, (.istore_n 3, 1)) (List.mem_of_getElem? (i := 3) rfl))
theorem dX0_wayTo_4 : decode cX0_wayTo 4 = .ok (.iload_n 3, 1) := of_decide_eq_true (List.all_eq_true.mp dsX0_wayTo_0_ok (4, (.iload_n 3, 1)) (List.mem_of_getElem? (i := 4) rfl))
theorem dX0_wayTo_5 : decode cX0_wayTo 5 = .ok (.ifCond .le 7, 3) := of_decide_eq_true (List.all_eq_true.mp dsX0_wayTo_0_ok (5, (.ifCond .le 7, 3)) (List.mem_of_getElem? (i := 5) rfl))
theorem dX0_wayTo_8 : decode cX0_wayTo 8 = .ok (.iload_n 3, 1) := of_decide_eq_true (List.all_eq_true.mp dsX0_wayTo_0_ok (8, (.iload_n 3, 1)) (List.mem_of_getElem? (i := 6) rfl))
theorem dX0_wayTo_9 : decode cX0_wayTo 9 = .ok (.goto 12, 3) := of_decide_eq_true (List.all_eq_true.mp dsX0_wayTo_0_ok (9, (.goto 12, 3)) (List.mem_of_getElem? (i := 7) rfl))
theorem dX0_wayTo_12 : decode cX0_wayTo 12 = .ok (.iload_n 3, 1) := of_decide_eq_true (List.all_eq_true.mp dsX0_wayTo_0_ok (12, (.iload_n 3, 1)) (List.mem_of_getElem? (i := 8) rfl))
theorem dX0_wayTo_13 : decode cX0_wayTo 13 = .ok (.aload_n 0, 1) := of_decide_eq_true (List.all_eq_true.mp dsX0_wayTo_0_ok (13, (.aload_n 0, 1)) (List.mem_of_getElem? (i := 9) rfl))
theorem dX0_wayTo_14 : decode cX0_wayTo 14 = .ok (.getfield 18, 3) := of_decide_eq_true (List.all_eq_true.mp dsX0_wayTo_0_ok (14, (.getfield 18, 3)) (List.mem_of_getElem? (i := 10) rfl))
theorem dX0_wayTo_17 : decode cX0_wayTo 17 = .ok (.getfield 74, 3) := of_decide_eq_true (List.all_eq_true.mp dsX0_wayTo_0_ok (17, (.getfield 74, 3)) (List.mem_of_getElem? (i := 11) rfl))
theorem dX0_wayTo_20 : decode cX0_wayTo 20 = .ok (.iadd, 1) := of_decide_eq_true (List.all_eq_true.mp dsX0_wayTo_0_ok (20, (.iadd, 1)) (List.mem_of_getElem? (i := 12) rfl))
theorem dX0_wayTo_21 : decode cX0_wayTo 21 = .ok (.ireturn, 1) := of_decide_eq_true (List.all_eq_true.mp dsX0_wayTo_0_ok (21, (.ireturn, 1)) (List.mem_of_getElem? (i := 13) rfl))
def fX0_wayTo (N : Nat) (homeI : Nat → Int32)  (p1 : Int32) (p2 : Int32) : Option (Int32) :=
  (if (p1 - p2) ≤ 0 then some ((p1 - p2) + (homeI 1)) else some (p1 - p2))
set_option maxHeartbeats 4000000 in
set_option maxRecDepth 100000 in
theorem kX0_wayTo (l : Launch) (dC : Nat → ClassId) (dI : Nat → Nat → Nat) (cI cB cJ cZ cM : ClassId) (z : Nat) (ad : Nat → Nat) (N : Nat) (a_p0 : Nat) (coI : Nat → Int32) (coR : Nat → Nat) (homeI : Nat → Int32) (homeR : Nat → Nat) (p1 : Int32) (p2 : Int32) {r0 : Int32} (hf : fX0_wayTo N homeI p1 p2 = some r0) : xq_Ct l yX0_wayTo wsX0_wayTo { frames := 0, cells := 0, slots := 0, locals := 0 } (dC, dI) vwCl (xq_tys cI cB cJ cZ cM) z ad [.ref a_p0, .int p1, .int p2] [(a_p0, .inr (0, oX0 coI coR)), ((coR 0), .inr (2, oX2 homeI homeR))] [(a_p0, .inr (0, oX0 coI coR)), ((coR 0), .inr (2, oX2 homeI homeR))] (some (.int r0)) := by
  intro sz
  refine Met.ofW (cc := cX0_wayTo) (maxL := 4) (ret := (some .int)) (by decide) rfl ?_
  intro p e s m args below meth c s₁ B hml hv
  obtain ⟨rfl, hsz, hP, hK, hD0, hE, hz⟩ := hv
  have hx := B.exec
  have hb := B.bytes
  have hr := B.returns
  have hts := atoms_spec (ws := wsX0_wayTo) B.pre
  have hown : s.vm.findClass RX0 = some m.cls := findClass_of_methodNamed B.named
  have hlocks := B.notSynchronized
  subst hsz
  have hD := hD0.self (sz := s.heap.size)
  have hN := xq_Env.of hE hz hD0
  generalize hAe : va_A [(a_p0, .inr (0, oX0 coI coR)), ((coR 0), .inr (2, oX2 homeI homeR))] s.heap.size = A at hD hN ⊢
  have hA : ∀ q : Nat, s.heap.size ≤ q → A q := fun q h => by rw [← hAe]; exact Or.inr h
  clear hAe hD0
  have hS : va_S A s.heap s.heap [] := va_S.rf
  have hl := lv_entry ([.ref a_p0, .int p1, .int p2]) (n := 4) (Nat.le_of_ble_eq_true rfl)
  rw [lg_entry_eq]
  generalize (lg_sl ([.ref a_p0, .int p1, .int p2]) ++ List.replicate (4 - (lg_sl ([.ref a_p0, .int p1, .int p2])).length) Slot.unset).toArray = ls at hl ⊢
  have hl : lv_has ls 4 [(0, .ref a_p0), (1, .int p1), (2, .int p2)] := hl
  have hw0 := hts (.fieldLink RX0 18 "DistantVoice$Course" "home" "LDistantVoice$House;") (by decide +kernel)
  have hinX0 : ∀ w ∈ wsX00, w ∈ wsX0_wayTo := fun w h => List.mem_cons_of_mem _ (List.mem_append_left _ (List.mem_append_right _ h))
  have hnf36 := va_Nw.use (A := [.ref a_p0, .int p1, .int p2].toArray) rfl (hN.1.1.1 ("DistantVoice$Course", 74, "DistantVoice$House", "roundMiles", "I", "DistantVoice") (List.mem_of_getElem? (i := 36) rfl))
  have hinX2 : ∀ w ∈ wsX20, w ∈ wsX0_wayTo := fun w h => List.mem_cons_of_mem _ (List.mem_append_right _ h)
  unfold fX0_wayTo at hf
  refine lv_iload_n hx hb dX0_wayTo_0 rfl (lv_at hl 1 rfl) ?_
  refine lv_iload_n hx hb dX0_wayTo_1 rfl (lv_at hl 2 rfl) ?_
  refine lv_isub hx hb dX0_wayTo_2 ?_
  refine lv_istore_n (lv' := [(3, .int (p1 - p2)), (0, .ref a_p0), (1, .int p1), (2, .int p2)]) hx hb dX0_wayTo_3 rfl hl (by decide) rfl (fun ls hl => ?_)
  refine lv_iload_n hx hb dX0_wayTo_4 rfl (lv_at hl 0 rfl) ?_
  refine lv_if_le (tgt := 12) hx hb dX0_wayTo_5 (by decide) (fun c_ => ?_) (fun c_ => ?_)
  · have hf := xq_pos hf c_
    refine lv_iload_n hx hb dX0_wayTo_12 rfl (lv_at hl 0 rfl) ?_
    refine lv_aload_n hx hb dX0_wayTo_13 rfl (lv_at hl 1 rfl) ?_
    refine va_get (D := (dC, dI)) (ci := 0) (v := .ref ((coR 0))) (C := RX0) (T := TX0) (N := 3) hx hb hts hinX0 hown hK hP 0 rfl rfl 0 (by decide) hw0 (fun _ h9 => h9) rfl dX0_wayTo_14 ?_
    refine va_getN (D := (dC, dI)) (ci := 2) (v := .int (homeI 1)) (C := RX2) (T := TX2) (N := 19) hx hb hts hinX2 hown hK hP 1 rfl rfl 1 (by decide) hnf36 (fun _ h9 => h9) rfl dX0_wayTo_17 ?_
    refine lv_iadd hx hb dX0_wayTo_20 ?_
    cases hf
    exact xq_iret hx hb hr hlocks hK hP hD hS dX0_wayTo_21
  · have hf := xq_neg hf c_
    refine lv_iload_n hx hb dX0_wayTo_8 rfl (lv_at hl 0 rfl) ?_
    refine lv_goto (tgt := 21) hx hb dX0_wayTo_9 (by decide) ?_
    cases hf
    exact xq_iret hx hb hr hlocks hK hP hD hS dX0_wayTo_21
def dsX0_goOn_0 : List (Nat × Instr × Nat) := [(0, (.aload_n 1, 1)), (1, (.dup, 1)), (2, (.getfield 60, 3)), (5, (.iload_n 2, 1)), (6, (.iadd, 1)), (7, (.putfield 60, 3)), (10, (.iconst 0, 1)), (11, (.istore_n 3, 1)), (12, (.iload_n 3, 1)), (13, (.bipush 99, 2)), (15, (.if_icmp .gt 55, 3)), (18, (.aload_n 1, 1)), (19, (.getfield 60, 3)), (22, (.aload_n 0, 1)), (23, (.getfield 18, 3)), (26, (.getfield 74, 3)), (29, (.if_icmp .lt 41, 3)), (32, (.aload_n 1, 1)), (33, (.dup, 1)), (34, (.getfield 60, 3)), (37, (.aload_n 0, 1)), (38, (.getfield 18, 3)), (41, (.getfield 74, 3)), (44, (.isub, 1)), (45, (.putfield 60, 3)), (48, (.aload_n 1, 1)), (49, (.sipush 999, 3)), (52, (.aload_n 1, 1)), (53, (.getfield 77, 3)), (56, (.iconst 1, 1)), (57, (.iadd, 1)), (58, (.invokestatic 80, 3)), (61, (.putfield 77, 3)), (64, (.iinc 3 1, 3)), (67, (.goto (-55), 3)), (70, (.return_, 1))]
theorem dsX0_goOn_0_ok : (dsX0_goOn_0.all fun q => decide (decode cX0_goOn q.1 = .ok q.2)) = true := by decide +kernel
theorem dX0_goOn_0 : decode cX0_goOn 0 = .ok (.aload_n 1, 1) := of_decide_eq_true (List.all_eq_true.mp dsX0_goOn_0_ok (0, (.aload_n 1, 1)) (List.mem_of_getElem? (i := 0) rfl))
theorem dX0_goOn_1 : decode cX0_goOn 1 = .ok (.dup, 1) := of_decide_eq_true (List.all_eq_true.mp dsX0_goOn_0_ok (1, (.dup, 1)) (List.mem_of_getElem? (i := 1) rfl))
theorem dX0_goOn_2 : decode cX0_goOn 2 = .ok (.getfield 60, 3) := of_decide_eq_true (List.all_eq_true.mp dsX0_goOn_0_ok (2, (.getfield 60, 3)) (List.mem_of_getElem? (i := 2) rfl))
theorem dX0_goOn_5 : decode cX0_goOn 5 = .ok (.iload_n 2, 1) := of_decide_eq_true (List.all_eq_true.mp dsX0_goOn_0_ok (5, (.iload_n 2, 1)) (List.mem_of_getElem? (i := 3) rfl))
theorem dX0_goOn_6 : decode cX0_goOn 6 = .ok (.iadd, 1) := of_decide_eq_true (List.all_eq_true.mp dsX0_goOn_0_ok (6, (.iadd, 1)) (List.mem_of_getElem? (i := 4) rfl))
theorem dX0_goOn_7 : decode cX0_goOn 7 = .ok (.putfield 60, 3) := of_decide_eq_true (List.all_eq_true.mp dsX0_goOn_0_ok (7, (.putfield 60, 3)) (List.mem_of_getElem? (i := 5) rfl))
theorem dX0_goOn_10 : decode cX0_goOn 10 = .ok (.iconst 0, 1) := of_decide_eq_true (List.all_eq_true.mp dsX0_goOn_0_ok (10, (.iconst 0, 1)) (List.mem_of_getElem? (i := 6) rfl))
theorem dX0_goOn_11 : decode cX0_goOn 11 = .ok (.istore_n 3, 1) := of_decide_eq_true (List.all_eq_true.mp dsX0_goOn_0_ok (11, (.istore_n 3, 1)) (List.mem_of_getElem? (i := 7) rfl))
theorem dX0_goOn_12 : decode cX0_goOn 12 = .ok (.iload_n 3, 1) := of_decide_eq_true (List.all_eq_true.mp dsX0_goOn_0_ok (12, (.iload_n 3, 1)) (List.mem_of_getElem? (i := 8) rfl))
theorem dX0_goOn_13 : decode cX0_goOn 13 = .ok (.bipush 99, 2) := of_decide_eq_true (List.all_eq_true.mp dsX0_goOn_0_ok (13, (.bipush 99, 2)) (List.mem_of_getElem? (i := 9) rfl))
theorem dX0_goOn_15 : decode cX0_goOn 15 = .ok (.if_icmp .gt 55, 3) := of_decide_eq_true (List.all_eq_true.mp dsX0_goOn_0_ok (15, (.if_icmp .gt 55, 3)) (List.mem_of_getElem? (i := 10) rfl))
theorem dX0_goOn_18 : decode cX0_goOn 18 = .ok (.aload_n 1, 1) := of_decide_eq_true (List.all_eq_true.mp dsX0_goOn_0_ok (18, (.aload_n 1, 1)) (List.mem_of_getElem? (i := 11) rfl))
theorem dX0_goOn_19 : decode cX0_goOn 19 = .ok (.getfield 60, 3) := of_decide_eq_true (List.all_eq_true.mp dsX0_goOn_0_ok (19, (.getfield 60, 3)) (List.mem_of_getElem? (i := 12) rfl))
theorem dX0_goOn_22 : decode cX0_goOn 22 = .ok (.aload_n 0, 1) := of_decide_eq_true (List.all_eq_true.mp dsX0_goOn_0_ok (22, (.aload_n 0, 1)) (List.mem_of_getElem? (i := 13) rfl))
theorem dX0_goOn_23 : decode cX0_goOn 23 = .ok (.getfield 18, 3) := of_decide_eq_true (List.all_eq_true.mp dsX0_goOn_0_ok (23, (.getfield 18, 3)) (List.mem_of_getElem? (i := 14) rfl))
theorem dX0_goOn_26 : decode cX0_goOn 26 = .ok (.getfield 74, 3) := of_decide_eq_true (List.all_eq_true.mp dsX0_goOn_0_ok (26, (.getfield 74, 3)) (List.mem_of_getElem? (i := 15) rfl))
theorem dX0_goOn_29 : decode cX0_goOn 29 = .ok (.if_icmp .lt 41, 3) := of_decide_eq_true (List.all_eq_true.mp dsX0_goOn_0_ok (29, (.if_icmp .lt 41, 3)) (List.mem_of_getElem? (i := 16) rfl))
theorem dX0_goOn_32 : decode cX0_goOn 32 = .ok (.aload_n 1, 1) := of_decide_eq_true (List.all_eq_true.mp dsX0_goOn_0_ok (32, (.aload_n 1, 1)) (List.mem_of_getElem? (i := 17) rfl))
theorem dX0_goOn_33 : decode cX0_goOn 33 = .ok (.dup, 1) := of_decide_eq_true (List.all_eq_true.mp dsX0_goOn_0_ok (33, (.dup, 1)) (List.mem_of_getElem? (i := 18) rfl))
theorem dX0_goOn_34 : decode cX0_goOn 34 = .ok (.getfield 60, 3) := of_decide_eq_true (List.all_eq_true.mp dsX0_goOn_0_ok (34, (.getfield 60, 3)) (List.mem_of_getElem? (i := 19) rfl))
theorem dX0_goOn_37 : decode cX0_goOn 37 = .ok (.aload_n 0, 1) := of_decide_eq_true (List.all_eq_true.mp dsX0_goOn_0_ok (37, (.aload_n 0, 1)) (List.mem_of_getElem? (i := 20) rfl))
theorem dX0_goOn_38 : decode cX0_goOn 38 = .ok (.getfield 18, 3) := of_decide_eq_true (List.all_eq_true.mp dsX0_goOn_0_ok (38, (.getfield 18, 3)) (List.mem_of_getElem? (i := 21) rfl))
theorem dX0_goOn_41 : decode cX0_goOn 41 = .ok (.getfield 74, 3) := of_decide_eq_true (List.all_eq_true.mp dsX0_goOn_0_ok (41, (.getfield 74, 3)) (List.mem_of_getElem? (i := 22) rfl))
theorem dX0_goOn_44 : decode cX0_goOn 44 = .ok (.isub, 1) := of_decide_eq_true (List.all_eq_true.mp dsX0_goOn_0_ok (44, (.isub, 1)) (List.mem_of_getElem? (i := 23) rfl))
theorem dX0_goOn_45 : decode cX0_goOn 45 = .ok (.putfield 60, 3) := of_decide_eq_true (List.all_eq_true.mp dsX0_goOn_0_ok (45, (.putfield 60, 3)) (List.mem_of_getElem? (i := 24) rfl))
theorem dX0_goOn_48 : decode cX0_goOn 48 = .ok (.aload_n 1, 1) := of_decide_eq_true (List.all_eq_true.mp dsX0_goOn_0_ok (48, (.aload_n 1, 1)) (List.mem_of_getElem? (i := 25) rfl))
theorem dX0_goOn_49 : decode cX0_goOn 49 = .ok (.sipush 999, 3) := of_decide_eq_true (List.all_eq_true.mp dsX0_goOn_0_ok (49, (.sipush 999, 3)) (List.mem_of_getElem? (i := 26) rfl))
theorem dX0_goOn_52 : decode cX0_goOn 52 = .ok (.aload_n 1, 1) := of_decide_eq_true (List.all_eq_true.mp dsX0_goOn_0_ok (52, (.aload_n 1, 1)) (List.mem_of_getElem? (i := 27) rfl))
theorem dX0_goOn_53 : decode cX0_goOn 53 = .ok (.getfield 77, 3) := of_decide_eq_true (List.all_eq_true.mp dsX0_goOn_0_ok (53, (.getfield 77, 3)) (List.mem_of_getElem? (i := 28) rfl))
theorem dX0_goOn_56 : decode cX0_goOn 56 = .ok (.iconst 1, 1) := of_decide_eq_true (List.all_eq_true.mp dsX0_goOn_0_ok (56, (.iconst 1, 1)) (List.mem_of_getElem? (i := 29) rfl))
theorem dX0_goOn_57 : decode cX0_goOn 57 = .ok (.iadd, 1) := of_decide_eq_true (List.all_eq_true.mp dsX0_goOn_0_ok (57, (.iadd, 1)) (List.mem_of_getElem? (i := 30) rfl))
theorem dX0_goOn_58 : decode cX0_goOn 58 = .ok (.invokestatic 80, 3) := of_decide_eq_true (List.all_eq_true.mp dsX0_goOn_0_ok (58, (.invokestatic 80, 3)) (List.mem_of_getElem? (i := 31) rfl))
theorem dX0_goOn_61 : decode cX0_goOn 61 = .ok (.putfield 77, 3) := of_decide_eq_true (List.all_eq_true.mp dsX0_goOn_0_ok (61, (.putfield 77, 3)) (List.mem_of_getElem? (i := 32) rfl))
theorem dX0_goOn_64 : decode cX0_goOn 64 = .ok (.iinc 3 1, 3) := of_decide_eq_true (List.all_eq_true.mp dsX0_goOn_0_ok (64, (.iinc 3 1, 3)) (List.mem_of_getElem? (i := 33) rfl))
theorem dX0_goOn_67 : decode cX0_goOn 67 = .ok (.goto (-55), 3) := of_decide_eq_true (List.all_eq_true.mp dsX0_goOn_0_ok (67, (.goto (-55), 3)) (List.mem_of_getElem? (i := 34) rfl))
theorem dX0_goOn_70 : decode cX0_goOn 70 = .ok (.return_, 1) := of_decide_eq_true (List.all_eq_true.mp dsX0_goOn_0_ok (70, (.return_, 1)) (List.mem_of_getElem? (i := 35) rfl))
def fX0_goOn_l12 (N : Nat) (homeI : Nat → Int32)  (k12 : ((Nat → Int32) × Int32) → Option ((Nat → Int32))) : ((Nat → Int32) × Int32) → Option ((Nat → Int32)) :=
  fun (moI_12, x3_12) => (if 99 < x3_12 then some moI_12 else (if (moI_12 1) < (homeI 1) then some moI_12 else k12 ((va_up (va_up moI_12 1 ((moI_12 1) - (homeI 1))) 2 (xq_min 999 ((moI_12 2) + 1))), x3_12 + 1)))
def fX0_goOn (N : Nat) (moI : Nat → Int32) (homeI : Nat → Int32)  (p2 : Int32) : Option ((Nat → Int32)) :=
  xq_loop (fX0_goOn_l12 N homeI) N ((va_up moI 1 ((moI 1) + p2)), 0)
set_option maxHeartbeats 4000000 in
set_option maxRecDepth 100000 in
theorem kX0_goOn (l : Launch) (dC : Nat → ClassId) (dI : Nat → Nat → Nat) (cI cB cJ cZ cM : ClassId) (z : Nat) (ad : Nat → Nat) (N : Nat) (a_p1 : Nat) (moI : Nat → Int32) (moR : Nat → Nat) (a_p0 : Nat) (coI : Nat → Int32) (coR : Nat → Nat) (homeI : Nat → Int32) (homeR : Nat → Nat) (p2 : Int32) {r0 : Nat → Int32} (hf : fX0_goOn N moI homeI p2 = some r0) : xq_Ct l yX0_goOn wsX0_goOn { frames := 1, cells := 0, slots := 0, locals := 24 } (dC, dI) vwCl (xq_tys cI cB cJ cZ cM) z ad [.ref a_p0, .ref a_p1, .int p2] [(a_p1, .inr (6, oX6 moI moR)), (a_p0, .inr (0, oX0 coI coR)), ((coR 0), .inr (2, oX2 homeI homeR))] [(a_p1, .inr (6, oX6 r0 moR)), (a_p0, .inr (0, oX0 coI coR)), ((coR 0), .inr (2, oX2 homeI homeR))] none := by
  intro sz
  refine Met.ofW (cc := cX0_goOn) (maxL := 4) (ret := none) (by decide) rfl ?_
  intro p e s m args below meth c s₁ B hml hv
  obtain ⟨rfl, hsz, hP, hK, hD0, hE, hz⟩ := hv
  have hx := B.exec
  have hb := B.bytes
  have hr := B.returns
  have hts := atoms_spec (ws := wsX0_goOn) B.pre
  have hown : s.vm.findClass RX0 = some m.cls := findClass_of_methodNamed B.named
  have hlocks := B.notSynchronized
  subst hsz
  have hD := hD0.self (sz := s.heap.size)
  have hN := xq_Env.of hE hz hD0
  generalize hAe : va_A [(a_p1, .inr (6, oX6 moI moR)), (a_p0, .inr (0, oX0 coI coR)), ((coR 0), .inr (2, oX2 homeI homeR))] s.heap.size = A at hD hN ⊢
  have hA : ∀ q : Nat, s.heap.size ≤ q → A q := fun q h => by rw [← hAe]; exact Or.inr h
  clear hAe hD0
  have hS : va_S A s.heap s.heap [] := va_S.rf
  have hl := lv_entry ([.ref a_p0, .ref a_p1, .int p2]) (n := 4) (Nat.le_of_ble_eq_true rfl)
  rw [lg_entry_eq]
  generalize (lg_sl ([.ref a_p0, .ref a_p1, .int p2]) ++ List.replicate (4 - (lg_sl ([.ref a_p0, .ref a_p1, .int p2])).length) Slot.unset).toArray = ls at hl ⊢
  have hl : lv_has ls 4 [(0, .ref a_p0), (1, .ref a_p1), (2, .int p2)] := hl
  have hnf8 := va_Nw.use (A := [.ref a_p0, .ref a_p1, .int p2].toArray) rfl (hN.1.1.1 ("DistantVoice$Course", 60, "DistantVoice$Moment", "mile", "I", "DistantVoice") (List.mem_of_getElem? (i := 8) rfl))
  have hinX6 : ∀ w ∈ wsX60, w ∈ wsX0_goOn := fun w h => List.mem_cons_of_mem _ (List.mem_append_left _ (List.mem_append_left _ (List.mem_append_right _ h)))
  have hw2 := hts (.fieldLink RX0 18 "DistantVoice$Course" "home" "LDistantVoice$House;") (by decide +kernel)
  have hinX0 : ∀ w ∈ wsX00, w ∈ wsX0_goOn := fun w h => List.mem_cons_of_mem _ (List.mem_append_left _ (List.mem_append_right _ h))
  have hnf36 := va_Nw.use (A := [.ref a_p0, .ref a_p1, .int p2].toArray) rfl (hN.1.1.1 ("DistantVoice$Course", 74, "DistantVoice$House", "roundMiles", "I", "DistantVoice") (List.mem_of_getElem? (i := 36) rfl))
  have hinX2 : ∀ w ∈ wsX20, w ∈ wsX0_goOn := fun w h => List.mem_cons_of_mem _ (List.mem_append_right _ h)
  have hnf11 := va_Nw.use (A := [.ref a_p0, .ref a_p1, .int p2].toArray) rfl (hN.1.1.1 ("DistantVoice$Course", 77, "DistantVoice$Moment", "rounds", "I", "DistantVoice") (List.mem_of_getElem? (i := 11) rfl))
  have hw7 := hts (.methodLink RX0 80 Lib.Math.min.name) (by decide +kernel)
  have hw8 := hts (.static Lib.Math.min.name) (by decide +kernel)
  have hw9 := hts (.initialized "java/lang/Math") (by decide +kernel)
  have hw10 := hts (.code Lib.Math.min.name Lib.Math.min.code 2 (some .int)) (by decide +kernel)
  have l12 : ∀ n12 : Nat, ∀ (moI_12 : Nat → Int32) (x3_12 : Int32) (ls : Array Slot) (H : Heap) (locs : List Loc), xq_loop (fX0_goOn_l12 N homeI) n12 (moI_12, x3_12) = some r0 → va_P (dC, dI) vwCl [(a_p1, .inr (6, oX6 moI_12 moR)), (a_p0, .inr (0, oX0 coI coR)), ((coR 0), .inr (2, oX2 homeI homeR))] H → va_D A [(a_p1, .inr (6, oX6 moI_12 moR)), (a_p0, .inr (0, oX0 coI coR)), ((coR 0), .inr (2, oX2 homeI homeR))] → va_S A s.heap H locs → lv_has ls 4 [(0, .ref a_p0), (1, .ref a_p1), (3, .int x3_12)] → W p l e (headSpec wsX0_goOn { frames := 1, cells := 0, slots := 0, locals := 24 }).room s m [.ref a_p0, .ref a_p1, .int p2].toArray below meth c H locs 0 0 (MQ below (xq_Q (dC, dI) vwCl (xq_tys cI cB cJ cZ cM) A [(a_p1, .inr (6, oX6 r0 moR)), (a_p0, .inr (0, oX0 coI coR)), ((coR 0), .inr (2, oX2 homeI homeR))] none) [.ref a_p0, .ref a_p1, .int p2].toArray s 0 0 A) (F0 m 12 ls []) := by
    intro n12
    induction n12 with
    | zero => intro moI_12 x3_12 ls H locs hf; cases (show none = some r0 from hf)
    | succ n12 ih12 =>
      intro moI_12 x3_12 ls H locs hf hP hD hS hl
      have hf : fX0_goOn_l12 N homeI (xq_loop (fX0_goOn_l12 N homeI) n12) (moI_12, x3_12) = some r0 := hf
      unfold fX0_goOn_l12 at hf
      refine lv_iload_n hx hb dX0_goOn_12 rfl (lv_at hl 2 rfl) ?_
      refine lv_bipush (v := 99) hx hb dX0_goOn_13 (by decide) ?_
      refine lv_icmp_gt (tgt := 70) hx hb dX0_goOn_15 (by decide) (fun c_ => ?_) (fun c_ => ?_)
      · have hf := xq_pos hf c_
        cases hf
        exact xq_vret hx hb hr hlocks hK hP hD hS dX0_goOn_70
      · have hf := xq_neg hf c_
        refine lv_aload_n hx hb dX0_goOn_18 rfl (lv_at hl 1 rfl) ?_
        refine va_getN (D := (dC, dI)) (ci := 6) (v := .int (moI_12 1)) (C := RX6) (T := TX6) (N := 8) hx hb hts hinX6 hown hK hP 0 rfl rfl 1 (by decide) hnf8 (fun _ h9 => h9) rfl dX0_goOn_19 ?_
        refine lv_aload_n hx hb dX0_goOn_22 rfl (lv_at hl 0 rfl) ?_
        refine va_get (D := (dC, dI)) (ci := 0) (v := .ref ((coR 0))) (C := RX0) (T := TX0) (N := 3) hx hb hts hinX0 hown hK hP 1 rfl rfl 0 (by decide) hw2 (fun _ h9 => h9) rfl dX0_goOn_23 ?_
        refine va_getN (D := (dC, dI)) (ci := 2) (v := .int (homeI 1)) (C := RX2) (T := TX2) (N := 19) hx hb hts hinX2 hown hK hP 2 rfl rfl 1 (by decide) hnf36 (fun _ h9 => h9) rfl dX0_goOn_26 ?_
        refine lv_icmp_lt (tgt := 70) hx hb dX0_goOn_29 (by decide) (fun c_ => ?_) (fun c_ => ?_)
        · have hf := xq_pos hf c_
          cases hf
          exact xq_vret hx hb hr hlocks hK hP hD hS dX0_goOn_70
        · have hf := xq_neg hf c_
          refine lv_aload_n hx hb dX0_goOn_32 rfl (lv_at hl 1 rfl) ?_
          refine lv_dup hx hb dX0_goOn_33 rfl ?_
          refine va_getN (D := (dC, dI)) (ci := 6) (v := .int (moI_12 1)) (C := RX6) (T := TX6) (N := 8) hx hb hts hinX6 hown hK hP 0 rfl rfl 1 (by decide) hnf8 (fun _ h9 => h9) rfl dX0_goOn_34 ?_
          refine lv_aload_n hx hb dX0_goOn_37 rfl (lv_at hl 0 rfl) ?_
          refine va_get (D := (dC, dI)) (ci := 0) (v := .ref ((coR 0))) (C := RX0) (T := TX0) (N := 3) hx hb hts hinX0 hown hK hP 1 rfl rfl 0 (by decide) hw2 (fun _ h9 => h9) rfl dX0_goOn_38 ?_
          refine va_getN (D := (dC, dI)) (ci := 2) (v := .int (homeI 1)) (C := RX2) (T := TX2) (N := 19) hx hb hts hinX2 hown hK hP 2 rfl rfl 1 (by decide) hnf36 (fun _ h9 => h9) rfl dX0_goOn_41 ?_
          refine lv_isub hx hb dX0_goOn_44 ?_
          refine va_putN (D := (dC, dI)) (ci := 6) (v := .int ((moI_12 1) - (homeI 1))) (ty := .int) (C := RX6) (T := TX6) (N := 8) hx hb hts hinX6 tyX6 tyX6_ok nmX6 hown hK hP hD hS 0 rfl rfl 1 (by decide) hnf8 (fun _ h9 => h9) rfl (by decide +kernel) rfl rfl (Nat.le_of_ble_eq_true rfl) dX0_goOn_45 (fun H locs hP hD hS => ?_)
          have hP : va_P (dC, dI) vwCl [(a_p1, .inr (6, oX6 (va_up moI_12 1 ((moI_12 1) - (homeI 1))) moR)), (a_p0, .inr (0, oX0 coI coR)), ((coR 0), .inr (2, oX2 homeI homeR))] H := hP
          have hD : va_D A [(a_p1, .inr (6, oX6 (va_up moI_12 1 ((moI_12 1) - (homeI 1))) moR)), (a_p0, .inr (0, oX0 coI coR)), ((coR 0), .inr (2, oX2 homeI homeR))] := hD
          refine lv_aload_n hx hb dX0_goOn_48 rfl (lv_at hl 1 rfl) ?_
          refine lv_sipush (v := 999) hx hb dX0_goOn_49 (by decide) ?_
          refine lv_aload_n hx hb dX0_goOn_52 rfl (lv_at hl 1 rfl) ?_
          refine va_getN (D := (dC, dI)) (ci := 6) (v := .int (moI_12 2)) (C := RX6) (T := TX6) (N := 8) hx hb hts hinX6 hown hK hP 0 rfl rfl 2 (by decide) hnf11 (fun _ h9 => h9) rfl dX0_goOn_53 ?_
          refine lv_iconst (v := 1) hx hb dX0_goOn_56 (by decide) ?_
          refine lv_iadd hx hb dX0_goOn_57 ?_
          refine va_mmin hx hb (hml.trans hl.1.symm) hown hw7 hw8 hw9 hw10 (Nat.le_of_ble_eq_true rfl) (Nat.le_of_ble_eq_true rfl) (Nat.zero_le _) (Nat.zero_le _) dX0_goOn_58 ?_
          refine W.eq (g2 := F0 m 61 ls [.int (xq_min 999 ((moI_12 2) + 1)), .ref a_p1]) rfl ?_
          refine va_putN (D := (dC, dI)) (ci := 6) (v := .int (xq_min 999 ((moI_12 2) + 1))) (ty := .int) (C := RX6) (T := TX6) (N := 8) hx hb hts hinX6 tyX6 tyX6_ok nmX6 hown hK hP hD hS 0 rfl rfl 2 (by decide) hnf11 (fun _ h9 => h9) rfl (by decide +kernel) rfl rfl (Nat.le_of_ble_eq_true rfl) dX0_goOn_61 (fun H locs hP hD hS => ?_)
          have hP : va_P (dC, dI) vwCl [(a_p1, .inr (6, oX6 (va_up (va_up moI_12 1 ((moI_12 1) - (homeI 1))) 2 (xq_min 999 ((moI_12 2) + 1))) moR)), (a_p0, .inr (0, oX0 coI coR)), ((coR 0), .inr (2, oX2 homeI homeR))] H := hP
          have hD : va_D A [(a_p1, .inr (6, oX6 (va_up (va_up moI_12 1 ((moI_12 1) - (homeI 1))) 2 (xq_min 999 ((moI_12 2) + 1))) moR)), (a_p0, .inr (0, oX0 coI coR)), ((coR 0), .inr (2, oX2 homeI homeR))] := hD
          refine lv_iinc (v := x3_12 + 1) (lv' := [(3, .int (x3_12 + 1)), (0, .ref a_p0), (1, .ref a_p1)]) hx hb dX0_goOn_64 hl (k := 2) rfl (congrArg (fun q9 => x3_12 + q9) (by decide : Int32.ofInt 1 = 1)) (by decide) rfl (fun ls hl => ?_)
          refine lv_goto (tgt := 12) hx hb dX0_goOn_67 (by decide) ?_
          exact ih12 ((va_up (va_up moI_12 1 ((moI_12 1) - (homeI 1))) 2 (xq_min 999 ((moI_12 2) + 1)))) (x3_12 + 1) _ _ _ hf hP hD hS (lv_sub hl [1, 2, 0] rfl)
  unfold fX0_goOn at hf
  refine lv_aload_n hx hb dX0_goOn_0 rfl (lv_at hl 1 rfl) ?_
  refine lv_dup hx hb dX0_goOn_1 rfl ?_
  refine va_getN (D := (dC, dI)) (ci := 6) (v := .int (moI 1)) (C := RX6) (T := TX6) (N := 8) hx hb hts hinX6 hown hK hP 0 rfl rfl 1 (by decide) hnf8 (fun _ h9 => h9) rfl dX0_goOn_2 ?_
  refine lv_iload_n hx hb dX0_goOn_5 rfl (lv_at hl 2 rfl) ?_
  refine lv_iadd hx hb dX0_goOn_6 ?_
  refine va_putN (D := (dC, dI)) (ci := 6) (v := .int ((moI 1) + p2)) (ty := .int) (C := RX6) (T := TX6) (N := 8) hx hb hts hinX6 tyX6 tyX6_ok nmX6 hown hK hP hD hS 0 rfl rfl 1 (by decide) hnf8 (fun _ h9 => h9) rfl (by decide +kernel) rfl rfl (Nat.le_of_ble_eq_true rfl) dX0_goOn_7 (fun H locs hP hD hS => ?_)
  have hP : va_P (dC, dI) vwCl [(a_p1, .inr (6, oX6 (va_up moI 1 ((moI 1) + p2)) moR)), (a_p0, .inr (0, oX0 coI coR)), ((coR 0), .inr (2, oX2 homeI homeR))] H := hP
  have hD : va_D A [(a_p1, .inr (6, oX6 (va_up moI 1 ((moI 1) + p2)) moR)), (a_p0, .inr (0, oX0 coI coR)), ((coR 0), .inr (2, oX2 homeI homeR))] := hD
  refine lv_iconst (v := 0) hx hb dX0_goOn_10 (by decide) ?_
  refine lv_istore_n (lv' := [(3, .int 0), (0, .ref a_p0), (1, .ref a_p1), (2, .int p2)]) hx hb dX0_goOn_11 rfl hl (by decide) rfl (fun ls hl => ?_)
  exact l12 N ((va_up moI 1 ((moI 1) + p2))) 0 _ _ _ hf hP hD hS (lv_sub hl [1, 2, 0] rfl)
def dsX0_set_0 : List (Nat × Instr × Nat) := [(0, (.aload_n 0, 1)), (1, (.getfield 9, 3)), (4, (.iload_n 1, 1)), (5, (.sipush 300, 3)), (8, (.isub, 1)), (9, (.iload_n 2, 1)), (10, (.iastore, 1)), (11, (.return_, 1))]
theorem dsX0_set_0_ok : (dsX0_set_0.all fun q => decide (decode cX0_set q.1 = .ok q.2)) = true := by decide +kernel
theorem dX0_set_0 : decode cX0_set 0 = .ok (.aload_n 0, 1) := of_decide_eq_true (List.all_eq_true.mp dsX0_set_0_ok (0, (.aload_n 0, 1)) (List.mem_of_getElem? (i := 0) rfl))
theorem dX0_set_1 : decode cX0_set 1 = .ok (.getfield 9, 3) := of_decide_eq_true (List.all_eq_true.mp dsX0_set_0_ok (1, (.getfield 9, 3)) (List.mem_of_getElem? (i := 1) rfl))
theorem dX0_set_4 : decode cX0_set 4 = .ok (.iload_n 1, 1) := of_decide_eq_true (List.all_eq_true.mp dsX0_set_0_ok (4, (.iload_n 1, 1)) (List.mem_of_getElem? (i := 2) rfl))
theorem dX0_set_5 : decode cX0_set 5 = .ok (.sipush 300, 3) := of_decide_eq_true (List.all_eq_true.mp dsX0_set_0_ok (5, (.sipush 300, 3)) (List.mem_of_getElem? (i := 3) rfl))
theorem dX0_set_8 : decode cX0_set 8 = .ok (.isub, 1) := of_decide_eq_true (List.all_eq_true.mp dsX0_set_0_ok (8, (.isub, 1)) (List.mem_of_getElem? (i := 4) rfl))
theorem dX0_set_9 : decode cX0_set 9 = .ok (.iload_n 2, 1) := of_decide_eq_true (List.all_eq_true.mp dsX0_set_0_ok (9, (.iload_n 2, 1)) (List.mem_of_getElem? (i := 5) rfl))
theorem dX0_set_10 : decode cX0_set 10 = .ok (.iastore, 1) := of_decide_eq_true (List.all_eq_true.mp dsX0_set_0_ok (10, (.iastore, 1)) (List.mem_of_getElem? (i := 6) rfl))
theorem dX0_set_11 : decode cX0_set 11 = .ok (.return_, 1) := of_decide_eq_true (List.all_eq_true.mp dsX0_set_0_ok (11, (.return_, 1)) (List.mem_of_getElem? (i := 7) rfl))
def fX0_set (N : Nat) (co_valuesF : Nat → Int32)  (p1 : Int32) (p2 : Int32) : Option ((Nat → Int32)) :=
  (xq_bd (xq_ast 24 co_valuesF (p1 - 300) p2) fun g_1 => some g_1)
set_option maxHeartbeats 4000000 in
set_option maxRecDepth 100000 in
theorem kX0_set (l : Launch) (dC : Nat → ClassId) (dI : Nat → Nat → Nat) (cI cB cJ cZ cM : ClassId) (z : Nat) (ad : Nat → Nat) (N : Nat) (a_p0 : Nat) (coI : Nat → Int32) (coR : Nat → Nat) (co_valuesF : Nat → Int32) (p1 : Int32) (p2 : Int32) {r0 : Nat → Int32} (hf : fX0_set N co_valuesF p1 p2 = some r0) : xq_Ct l yX0_set wsX0_set { frames := 0, cells := 0, slots := 0, locals := 0 } (dC, dI) vwCl (xq_tys cI cB cJ cZ cM) z ad [.ref a_p0, .int p1, .int p2] [(a_p0, .inr (0, oX0 coI coR)), ((coR 1), .inl (cI, 24, .inl co_valuesF))] [(a_p0, .inr (0, oX0 coI coR)), ((coR 1), .inl (cI, 24, .inl r0))] none := by
  intro sz
  refine Met.ofW (cc := cX0_set) (maxL := 3) (ret := none) (by decide) rfl ?_
  intro p e s m args below meth c s₁ B hml hv
  obtain ⟨rfl, hsz, hP, hK, hD0, hE, hz⟩ := hv
  have hx := B.exec
  have hb := B.bytes
  have hr := B.returns
  have hts := atoms_spec (ws := wsX0_set) B.pre
  have hown : s.vm.findClass RX0 = some m.cls := findClass_of_methodNamed B.named
  have hlocks := B.notSynchronized
  subst hsz
  have hD := hD0.self (sz := s.heap.size)
  have hN := xq_Env.of hE hz hD0
  generalize hAe : va_A [(a_p0, .inr (0, oX0 coI coR)), ((coR 1), .inl (cI, 24, .inl co_valuesF))] s.heap.size = A at hD hN ⊢
  have hA : ∀ q : Nat, s.heap.size ≤ q → A q := fun q h => by rw [← hAe]; exact Or.inr h
  clear hAe hD0
  have hS : va_S A s.heap s.heap [] := va_S.rf
  have hl := lv_entry ([.ref a_p0, .int p1, .int p2]) (n := 3) (Nat.le_of_ble_eq_true rfl)
  rw [lg_entry_eq]
  generalize (lg_sl ([.ref a_p0, .int p1, .int p2]) ++ List.replicate (3 - (lg_sl ([.ref a_p0, .int p1, .int p2])).length) Slot.unset).toArray = ls at hl ⊢
  have hl : lv_has ls 3 [(0, .ref a_p0), (1, .int p1), (2, .int p2)] := hl
  have hw0 := hts (.fieldLink RX0 9 "DistantVoice$Course" "values" "[I") (by decide +kernel)
  have hinX0 : ∀ w ∈ wsX00, w ∈ wsX0_set := fun w h => List.mem_cons_of_mem _ (List.mem_append_right _ h)
  unfold fX0_set at hf
  refine lv_aload_n hx hb dX0_set_0 rfl (lv_at hl 0 rfl) ?_
  refine va_get (D := (dC, dI)) (ci := 0) (v := .ref ((coR 1))) (C := RX0) (T := TX0) (N := 3) hx hb hts hinX0 hown hK hP 0 rfl rfl 1 (by decide) hw0 (fun _ h9 => h9) rfl dX0_set_1 ?_
  refine lv_iload_n hx hb dX0_set_4 rfl (lv_at hl 1 rfl) ?_
  refine lv_sipush (v := 300) hx hb dX0_set_5 (by decide) ?_
  refine lv_isub hx hb dX0_set_8 ?_
  refine lv_iload_n hx hb dX0_set_9 rfl (lv_at hl 2 rfl) ?_
  refine xq_iast hx hb hK hP hD hS 1 0 rfl rfl hf dX0_set_10 (fun g_1 H locs hf hP hD hS => ?_)
  have hP : va_P (dC, dI) vwCl [(a_p0, .inr (0, oX0 coI coR)), ((coR 1), .inl (cI, 24, .inl g_1))] H := hP
  have hD : va_D A [(a_p0, .inr (0, oX0 coI coR)), ((coR 1), .inl (cI, 24, .inl g_1))] := hD
  cases hf
  exact xq_vret hx hb hr hlocks hK hP hD hS dX0_set_11
def dsX0_valueOf_0 : List (Nat × Instr × Nat) := [(0, (.iload_n 1, 1)), (1, (.sipush 10000, 3)), (4, (.isub, 1)), (5, (.sipush 300, 3)), (8, (.isub, 1)), (9, (.istore_n 2, 1)), (10, (.iload_n 2, 1)), (11, (.ifCond .lt 21, 3)), (14, (.iload_n 2, 1)), (15, (.aload_n 0, 1)), (16, (.getfield 9, 3)), (19, (.arraylength, 1)), (20, (.if_icmp .ge 12, 3)), (23, (.aload_n 0, 1)), (24, (.getfield 9, 3)), (27, (.iload_n 2, 1)), (28, (.iaload, 1)), (29, (.goto 4, 3)), (32, (.iload_n 1, 1)), (33, (.ireturn, 1))]
theorem dsX0_valueOf_0_ok : (dsX0_valueOf_0.all fun q => decide (decode cX0_valueOf q.1 = .ok q.2)) = true := by decide +kernel
theorem dX0_valueOf_0 : decode cX0_valueOf 0 = .ok (.iload_n 1, 1) := of_decide_eq_true (List.all_eq_true.mp dsX0_valueOf_0_ok (0, (.iload_n 1, 1)) (List.mem_of_getElem? (i := 0) rfl))
theorem dX0_valueOf_1 : decode cX0_valueOf 1 = .ok (.sipush 10000, 3) := of_decide_eq_true (List.all_eq_true.mp dsX0_valueOf_0_ok (1, (.sipush 10000, 3)) (List.mem_of_getElem? (i := 1) rfl))
theorem dX0_valueOf_4 : decode cX0_valueOf 4 = .ok (.isub, 1) := of_decide_eq_true (List.all_eq_true.mp dsX0_valueOf_0_ok (4, (.isub, 1)) (List.mem_of_getElem? (i := 2) rfl))
theorem dX0_valueOf_5 : decode cX0_valueOf 5 = .ok (.sipush 300, 3) := of_decide_eq_true (List.all_eq_true.mp dsX0_valueOf_0_ok (5, (.sipush 300, 3)) (List.mem_of_getElem? (i := 3) rfl))
theorem dX0_valueOf_8 : decode cX0_valueOf 8 = .ok (.isub, 1) := of_decide_eq_true (List.all_eq_true.mp dsX0_valueOf_0_ok (8, (.isub, 1)) (List.mem_of_getElem? (i := 4) rfl))
theorem dX0_valueOf_9 : decode cX0_valueOf 9 = .ok (.istore_n 2, 1) := of_decide_eq_true (List.all_eq_true.mp dsX0_valueOf_0_ok (9, (.istore_n 2, 1)) (List.mem_of_getElem? (i := 5) rfl))
theorem dX0_valueOf_10 : decode cX0_valueOf 10 = .ok (.iload_n 2, 1) := of_decide_eq_true (List.all_eq_true.mp dsX0_valueOf_0_ok (10, (.iload_n 2, 1)) (List.mem_of_getElem? (i := 6) rfl))
theorem dX0_valueOf_11 : decode cX0_valueOf 11 = .ok (.ifCond .lt 21, 3) := of_decide_eq_true (List.all_eq_true.mp dsX0_valueOf_0_ok (11, (.ifCond .lt 21, 3)) (List.mem_of_getElem? (i := 7) rfl))
theorem dX0_valueOf_14 : decode cX0_valueOf 14 = .ok (.iload_n 2, 1) := of_decide_eq_true (List.all_eq_true.mp dsX0_valueOf_0_ok (14, (.iload_n 2, 1)) (List.mem_of_getElem? (i := 8) rfl))
theorem dX0_valueOf_15 : decode cX0_valueOf 15 = .ok (.aload_n 0, 1) := of_decide_eq_true (List.all_eq_true.mp dsX0_valueOf_0_ok (15, (.aload_n 0, 1)) (List.mem_of_getElem? (i := 9) rfl))
theorem dX0_valueOf_16 : decode cX0_valueOf 16 = .ok (.getfield 9, 3) := of_decide_eq_true (List.all_eq_true.mp dsX0_valueOf_0_ok (16, (.getfield 9, 3)) (List.mem_of_getElem? (i := 10) rfl))
theorem dX0_valueOf_19 : decode cX0_valueOf 19 = .ok (.arraylength, 1) := of_decide_eq_true (List.all_eq_true.mp dsX0_valueOf_0_ok (19, (.arraylength, 1)) (List.mem_of_getElem? (i := 11) rfl))
theorem dX0_valueOf_20 : decode cX0_valueOf 20 = .ok (.if_icmp .ge 12, 3) := of_decide_eq_true (List.all_eq_true.mp dsX0_valueOf_0_ok (20, (.if_icmp .ge 12, 3)) (List.mem_of_getElem? (i := 12) rfl))
theorem dX0_valueOf_23 : decode cX0_valueOf 23 = .ok (.aload_n 0, 1) := of_decide_eq_true (List.all_eq_true.mp dsX0_valueOf_0_ok (23, (.aload_n 0, 1)) (List.mem_of_getElem? (i := 13) rfl))
theorem dX0_valueOf_24 : decode cX0_valueOf 24 = .ok (.getfield 9, 3) := of_decide_eq_true (List.all_eq_true.mp dsX0_valueOf_0_ok (24, (.getfield 9, 3)) (List.mem_of_getElem? (i := 14) rfl))
theorem dX0_valueOf_27 : decode cX0_valueOf 27 = .ok (.iload_n 2, 1) := of_decide_eq_true (List.all_eq_true.mp dsX0_valueOf_0_ok (27, (.iload_n 2, 1)) (List.mem_of_getElem? (i := 15) rfl))
theorem dX0_valueOf_28 : decode cX0_valueOf 28 = .ok (.iaload, 1) := of_decide_eq_true (List.all_eq_true.mp dsX0_valueOf_0_ok (28, (.iaload, 1)) (List.mem_of_getElem? (i := 16) rfl))
theorem dX0_valueOf_29 : decode cX0_valueOf 29 = .ok (.goto 4, 3) := of_decide_eq_true (List.all_eq_true.mp dsX0_valueOf_0_ok (29, (.goto 4, 3)) (List.mem_of_getElem? (i := 17) rfl))
theorem dX0_valueOf_32 : decode cX0_valueOf 32 = .ok (.iload_n 1, 1) := of_decide_eq_true (List.all_eq_true.mp dsX0_valueOf_0_ok (32, (.iload_n 1, 1)) (List.mem_of_getElem? (i := 18) rfl))
theorem dX0_valueOf_33 : decode cX0_valueOf 33 = .ok (.ireturn, 1) := of_decide_eq_true (List.all_eq_true.mp dsX0_valueOf_0_ok (33, (.ireturn, 1)) (List.mem_of_getElem? (i := 19) rfl))
def fX0_valueOf (N : Nat) (co_valuesF : Nat → Int32)  (p1 : Int32) : Option (Int32) :=
  (if ((p1 - 10000) - 300) < 0 then some p1 else (if 24 ≤ ((p1 - 10000) - 300) then some p1 else (xq_bd (xq_ald 24 co_valuesF ((p1 - 10000) - 300)) fun v_1 => some v_1)))
set_option maxHeartbeats 4000000 in
set_option maxRecDepth 100000 in
theorem kX0_valueOf (l : Launch) (dC : Nat → ClassId) (dI : Nat → Nat → Nat) (cI cB cJ cZ cM : ClassId) (z : Nat) (ad : Nat → Nat) (N : Nat) (a_p0 : Nat) (coI : Nat → Int32) (coR : Nat → Nat) (co_valuesF : Nat → Int32) (p1 : Int32) {r0 : Int32} (hf : fX0_valueOf N co_valuesF p1 = some r0) : xq_Ct l yX0_valueOf wsX0_valueOf { frames := 0, cells := 0, slots := 0, locals := 0 } (dC, dI) vwCl (xq_tys cI cB cJ cZ cM) z ad [.ref a_p0, .int p1] [(a_p0, .inr (0, oX0 coI coR)), ((coR 1), .inl (cI, 24, .inl co_valuesF))] [(a_p0, .inr (0, oX0 coI coR)), ((coR 1), .inl (cI, 24, .inl co_valuesF))] (some (.int r0)) := by
  intro sz
  refine Met.ofW (cc := cX0_valueOf) (maxL := 3) (ret := (some .int)) (by decide) rfl ?_
  intro p e s m args below meth c s₁ B hml hv
  obtain ⟨rfl, hsz, hP, hK, hD0, hE, hz⟩ := hv
  have hx := B.exec
  have hb := B.bytes
  have hr := B.returns
  have hts := atoms_spec (ws := wsX0_valueOf) B.pre
  have hown : s.vm.findClass RX0 = some m.cls := findClass_of_methodNamed B.named
  have hlocks := B.notSynchronized
  subst hsz
  have hD := hD0.self (sz := s.heap.size)
  have hN := xq_Env.of hE hz hD0
  generalize hAe : va_A [(a_p0, .inr (0, oX0 coI coR)), ((coR 1), .inl (cI, 24, .inl co_valuesF))] s.heap.size = A at hD hN ⊢
  have hA : ∀ q : Nat, s.heap.size ≤ q → A q := fun q h => by rw [← hAe]; exact Or.inr h
  clear hAe hD0
  have hS : va_S A s.heap s.heap [] := va_S.rf
  have hl := lv_entry ([.ref a_p0, .int p1]) (n := 3) (Nat.le_of_ble_eq_true rfl)
  rw [lg_entry_eq]
  generalize (lg_sl ([.ref a_p0, .int p1]) ++ List.replicate (3 - (lg_sl ([.ref a_p0, .int p1])).length) Slot.unset).toArray = ls at hl ⊢
  have hl : lv_has ls 3 [(0, .ref a_p0), (1, .int p1)] := hl
  have hw0 := hts (.fieldLink RX0 9 "DistantVoice$Course" "values" "[I") (by decide +kernel)
  have hinX0 : ∀ w ∈ wsX00, w ∈ wsX0_valueOf := fun w h => List.mem_cons_of_mem _ (List.mem_append_right _ h)
  unfold fX0_valueOf at hf
  refine lv_iload_n hx hb dX0_valueOf_0 rfl (lv_at hl 1 rfl) ?_
  refine lv_sipush (v := 10000) hx hb dX0_valueOf_1 (by decide) ?_
  refine lv_isub hx hb dX0_valueOf_4 ?_
  refine lv_sipush (v := 300) hx hb dX0_valueOf_5 (by decide) ?_
  refine lv_isub hx hb dX0_valueOf_8 ?_
  refine lv_istore_n (lv' := [(2, .int ((p1 - 10000) - 300)), (0, .ref a_p0), (1, .int p1)]) hx hb dX0_valueOf_9 rfl hl (by decide) rfl (fun ls hl => ?_)
  refine lv_iload_n hx hb dX0_valueOf_10 rfl (lv_at hl 0 rfl) ?_
  refine lv_if_lt (tgt := 32) hx hb dX0_valueOf_11 (by decide) (fun c_ => ?_) (fun c_ => ?_)
  · have hf := xq_pos hf c_
    refine lv_iload_n hx hb dX0_valueOf_32 rfl (lv_at hl 2 rfl) ?_
    cases hf
    exact xq_iret hx hb hr hlocks hK hP hD hS dX0_valueOf_33
  · have hf := xq_neg hf c_
    refine lv_iload_n hx hb dX0_valueOf_14 rfl (lv_at hl 0 rfl) ?_
    refine lv_aload_n hx hb dX0_valueOf_15 rfl (lv_at hl 1 rfl) ?_
    refine va_get (D := (dC, dI)) (ci := 0) (v := .ref ((coR 1))) (C := RX0) (T := TX0) (N := 3) hx hb hts hinX0 hown hK hP 0 rfl rfl 1 (by decide) hw0 (fun _ h9 => h9) rfl dX0_valueOf_16 ?_
    refine va_alen hx hb hK hP 1 0 (v := 24) rfl rfl rfl dX0_valueOf_19 ?_
    refine lv_icmp_ge (tgt := 32) hx hb dX0_valueOf_20 (by decide) (fun c_ => ?_) (fun c_ => ?_)
    · have hf := xq_pos hf c_
      refine lv_iload_n hx hb dX0_valueOf_32 rfl (lv_at hl 2 rfl) ?_
      cases hf
      exact xq_iret hx hb hr hlocks hK hP hD hS dX0_valueOf_33
    · have hf := xq_neg hf c_
      refine lv_aload_n hx hb dX0_valueOf_23 rfl (lv_at hl 1 rfl) ?_
      refine va_get (D := (dC, dI)) (ci := 0) (v := .ref ((coR 1))) (C := RX0) (T := TX0) (N := 3) hx hb hts hinX0 hown hK hP 0 rfl rfl 1 (by decide) hw0 (fun _ h9 => h9) rfl dX0_valueOf_24 ?_
      refine lv_iload_n hx hb dX0_valueOf_27 rfl (lv_at hl 0 rfl) ?_
      refine xq_iald hx hb hK hP 1 0 rfl rfl hf dX0_valueOf_28 (fun v_1 hf => ?_)
      refine lv_goto (tgt := 33) hx hb dX0_valueOf_29 (by decide) ?_
      cases hf
      exact xq_iret hx hb hr hlocks hK hP hD hS dX0_valueOf_33
set_option maxRecDepth 20000 in
theorem ggX0_operate_J9_floorDiv_f86c9 : GoodIn wsX0_operate wsJ9_floorDiv_f86c9 := goodIn_r _ [11] rfl (by decide +kernel)
set_option maxRecDepth 20000 in
theorem gX0_operate_J9_floorDiv_f86c9 : GoodIn wsX0_operate (va_wsS RX0 134 yJ9_floorDiv_f86c9 wsJ9_floorDiv_f86c9) := goodIn_app (goodIn_of _ (by decide +kernel)) ggX0_operate_J9_floorDiv_f86c9
set_option maxRecDepth 20000 in
theorem ggX0_operate_J9_floorMod_f86c9 : GoodIn wsX0_operate wsJ9_floorMod_f86c9 := goodIn_r _ [14] rfl (by decide +kernel)
set_option maxRecDepth 20000 in
theorem gX0_operate_J9_floorMod_f86c9 : GoodIn wsX0_operate (va_wsS RX0 137 yJ9_floorMod_f86c9 wsJ9_floorMod_f86c9) := goodIn_app (goodIn_of _ (by decide +kernel)) ggX0_operate_J9_floorMod_f86c9
def dsX0_operate_0 : List (Nat × Instr × Nat) := [(0, (.iload_n 0, 1)), (1, (.lookupswitch 177 #[(37, 119), (42, 99), (43, 91), (45, 95), (47, 103), (60, 135), (61, 159), (62, 147), (319, 171), (322, 171)], 91)), (92, (.lload_n 1, 1)), (93, (.lload_n 3, 1)), (94, (.ladd, 1)), (95, (.lreturn, 1)), (96, (.lload_n 1, 1)), (97, (.lload_n 3, 1)), (98, (.lsub, 1)), (99, (.lreturn, 1)), (100, (.lload_n 1, 1)), (101, (.lload_n 3, 1)), (102, (.lmul, 1)), (103, (.lreturn, 1)), (104, (.lload_n 3, 1)), (105, (.lconst 0, 1)), (106, (.lcmp, 1)), (107, (.ifCond .ne 7, 3)), (110, (.lconst 0, 1)), (111, (.goto 8, 3)), (114, (.lload_n 1, 1)), (115, (.lload_n 3, 1)), (116, (.invokestatic 134, 3)), (119, (.lreturn, 1)), (120, (.lload_n 3, 1)), (121, (.lconst 0, 1)), (122, (.lcmp, 1)), (123, (.ifCond .ne 7, 3)), (126, (.lconst 0, 1)), (127, (.goto 8, 3)), (130, (.lload_n 1, 1)), (131, (.lload_n 3, 1)), (132, (.invokestatic 137, 3)), (135, (.lreturn, 1)), (136, (.lload_n 1, 1)), (137, (.lload_n 3, 1)), (138, (.lcmp, 1)), (139, (.ifCond .ge 7, 3)), (142, (.lconst 1, 1)), (143, (.goto 4, 3)), (146, (.lconst 0, 1)), (147, (.lreturn, 1)), (148, (.lload_n 1, 1)), (149, (.lload_n 3, 1)), (150, (.lcmp, 1)), (151, (.ifCond .le 7, 3)), (154, (.lconst 1, 1)), (155, (.goto 4, 3)), (158, (.lconst 0, 1)), (159, (.lreturn, 1)), (160, (.lload_n 1, 1)), (161, (.lload_n 3, 1)), (162, (.lcmp, 1)), (163, (.ifCond .ne 7, 3)), (166, (.lconst 1, 1)), (167, (.goto 4, 3)), (170, (.lconst 0, 1)), (171, (.lreturn, 1)), (172, (.lload_n 1, 1)), (173, (.lload_n 3, 1))]
theorem dsX0_operate_0_ok : (dsX0_operate_0.all fun q => decide (decode cX0_operate q.1 = .ok q.2)) = true := by decide +kernel
theorem dX0_operate_0 : decode cX0_operate 0 = .ok (.iload_n 0, 1) := of_decide_eq_true (List.all_eq_true.mp dsX0_operate_0_ok (0, (.iload_n 0, 1)) (List.mem_of_getElem? (i := 0) rfl))
theorem dX0_operate_1 : decode cX0_operate 1 = .ok (.lookupswitch 177 #[(37, 119), (42, 99), (43, 91), (45, 95), (47, 103), (60, 135), (61, 159), (62, 147), (319, 171), (322, 171)], 91) := of_decide_eq_true (List.all_eq_true.mp dsX0_operate_0_ok (1, (.lookupswitch 177 #[(37, 119), (42, 99), (43, 91), (45, 95), (47, 103), (60, 135), (61, 159), (62, 147), (319, 171), (322, 171)], 91)) (List.mem_of_getElem? (i := 1) rfl))
theorem dX0_operate_92 : decode cX0_operate 92 = .ok (.lload_n 1, 1) := of_decide_eq_true (List.all_eq_true.mp dsX0_operate_0_ok (92, (.lload_n 1, 1)) (List.mem_of_getElem? (i := 2) rfl))
theorem dX0_operate_93 : decode cX0_operate 93 = .ok (.lload_n 3, 1) := of_decide_eq_true (List.all_eq_true.mp dsX0_operate_0_ok (93, (.lload_n 3, 1)) (List.mem_of_getElem? (i := 3) rfl))
theorem dX0_operate_94 : decode cX0_operate 94 = .ok (.ladd, 1) := of_decide_eq_true (List.all_eq_true.mp dsX0_operate_0_ok (94, (.ladd, 1)) (List.mem_of_getElem? (i := 4) rfl))
theorem dX0_operate_95 : decode cX0_operate 95 = .ok (.lreturn, 1) := of_decide_eq_true (List.all_eq_true.mp dsX0_operate_0_ok (95, (.lreturn, 1)) (List.mem_of_getElem? (i := 5) rfl))
theorem dX0_operate_96 : decode cX0_operate 96 = .ok (.lload_n 1, 1) := of_decide_eq_true (List.all_eq_true.mp dsX0_operate_0_ok (96, (.lload_n 1, 1)) (List.mem_of_getElem? (i := 6) rfl))
theorem dX0_operate_97 : decode cX0_operate 97 = .ok (.lload_n 3, 1) := of_decide_eq_true (List.all_eq_true.mp dsX0_operate_0_ok (97, (.lload_n 3, 1)) (List.mem_of_getElem? (i := 7) rfl))
theorem dX0_operate_98 : decode cX0_operate 98 = .ok (.lsub, 1) := of_decide_eq_true (List.all_eq_true.mp dsX0_operate_0_ok (98, (.lsub, 1)) (List.mem_of_getElem? (i := 8) rfl))
theorem dX0_operate_99 : decode cX0_operate 99 = .ok (.lreturn, 1) := of_decide_eq_true (List.all_eq_true.mp dsX0_operate_0_ok (99, (.lreturn, 1)) (List.mem_of_getElem? (i := 9) rfl))
theorem dX0_operate_100 : decode cX0_operate 100 = .ok (.lload_n 1, 1) := of_decide_eq_true (List.all_eq_true.mp dsX0_operate_0_ok (100, (.lload_n 1, 1)) (List.mem_of_getElem? (i := 10) rfl))
theorem dX0_operate_101 : decode cX0_operate 101 = .ok (.lload_n 3, 1) := of_decide_eq_true (List.all_eq_true.mp dsX0_operate_0_ok (101, (.lload_n 3, 1)) (List.mem_of_getElem? (i := 11) rfl))
theorem dX0_operate_102 : decode cX0_operate 102 = .ok (.lmul, 1) := of_decide_eq_true (List.all_eq_true.mp dsX0_operate_0_ok (102, (.lmul, 1)) (List.mem_of_getElem? (i := 12) rfl))
theorem dX0_operate_103 : decode cX0_operate 103 = .ok (.lreturn, 1) := of_decide_eq_true (List.all_eq_true.mp dsX0_operate_0_ok (103, (.lreturn, 1)) (List.mem_of_getElem? (i := 13) rfl))
theorem dX0_operate_104 : decode cX0_operate 104 = .ok (.lload_n 3, 1) := of_decide_eq_true (List.all_eq_true.mp dsX0_operate_0_ok (104, (.lload_n 3, 1)) (List.mem_of_getElem? (i := 14) rfl))
theorem dX0_operate_105 : decode cX0_operate 105 = .ok (.lconst 0, 1) := of_decide_eq_true (List.all_eq_true.mp dsX0_operate_0_ok (105, (.lconst 0, 1)) (List.mem_of_getElem? (i := 15) rfl))
theorem dX0_operate_106 : decode cX0_operate 106 = .ok (.lcmp, 1) := of_decide_eq_true (List.all_eq_true.mp dsX0_operate_0_ok (106, (.lcmp, 1)) (List.mem_of_getElem? (i := 16) rfl))
theorem dX0_operate_107 : decode cX0_operate 107 = .ok (.ifCond .ne 7, 3) := of_decide_eq_true (List.all_eq_true.mp dsX0_operate_0_ok (107, (.ifCond .ne 7, 3)) (List.mem_of_getElem? (i := 17) rfl))
theorem dX0_operate_110 : decode cX0_operate 110 = .ok (.lconst 0, 1) := of_decide_eq_true (List.all_eq_true.mp dsX0_operate_0_ok (110, (.lconst 0, 1)) (List.mem_of_getElem? (i := 18) rfl))
theorem dX0_operate_111 : decode cX0_operate 111 = .ok (.goto 8, 3) := of_decide_eq_true (List.all_eq_true.mp dsX0_operate_0_ok (111, (.goto 8, 3)) (List.mem_of_getElem? (i := 19) rfl))
theorem dX0_operate_114 : decode cX0_operate 114 = .ok (.lload_n 1, 1) := of_decide_eq_true (List.all_eq_true.mp dsX0_operate_0_ok (114, (.lload_n 1, 1)) (List.mem_of_getElem? (i := 20) rfl))
theorem dX0_operate_115 : decode cX0_operate 115 = .ok (.lload_n 3, 1) := of_decide_eq_true (List.all_eq_true.mp dsX0_operate_0_ok (115, (.lload_n 3, 1)) (List.mem_of_getElem? (i := 21) rfl))
theorem dX0_operate_116 : decode cX0_operate 116 = .ok (.invokestatic 134, 3) := of_decide_eq_true (List.all_eq_true.mp dsX0_operate_0_ok (116, (.invokestatic 134, 3)) (List.mem_of_getElem? (i := 22) rfl))
theorem dX0_operate_119 : decode cX0_operate 119 = .ok (.lreturn, 1) := of_decide_eq_true (List.all_eq_true.mp dsX0_operate_0_ok (119, (.lreturn, 1)) (List.mem_of_getElem? (i := 23) rfl))
theorem dX0_operate_120 : decode cX0_operate 120 = .ok (.lload_n 3, 1) := of_decide_eq_true (List.all_eq_true.mp dsX0_operate_0_ok (120, (.lload_n 3, 1)) (List.mem_of_getElem? (i := 24) rfl))
theorem dX0_operate_121 : decode cX0_operate 121 = .ok (.lconst 0, 1) := of_decide_eq_true (List.all_eq_true.mp dsX0_operate_0_ok (121, (.lconst 0, 1)) (List.mem_of_getElem? (i := 25) rfl))
theorem dX0_operate_122 : decode cX0_operate 122 = .ok (.lcmp, 1) := of_decide_eq_true (List.all_eq_true.mp dsX0_operate_0_ok (122, (.lcmp, 1)) (List.mem_of_getElem? (i := 26) rfl))
theorem dX0_operate_123 : decode cX0_operate 123 = .ok (.ifCond .ne 7, 3) := of_decide_eq_true (List.all_eq_true.mp dsX0_operate_0_ok (123, (.ifCond .ne 7, 3)) (List.mem_of_getElem? (i := 27) rfl))
theorem dX0_operate_126 : decode cX0_operate 126 = .ok (.lconst 0, 1) := of_decide_eq_true (List.all_eq_true.mp dsX0_operate_0_ok (126, (.lconst 0, 1)) (List.mem_of_getElem? (i := 28) rfl))
theorem dX0_operate_127 : decode cX0_operate 127 = .ok (.goto 8, 3) := of_decide_eq_true (List.all_eq_true.mp dsX0_operate_0_ok (127, (.goto 8, 3)) (List.mem_of_getElem? (i := 29) rfl))
theorem dX0_operate_130 : decode cX0_operate 130 = .ok (.lload_n 1, 1) := of_decide_eq_true (List.all_eq_true.mp dsX0_operate_0_ok (130, (.lload_n 1, 1)) (List.mem_of_getElem? (i := 30) rfl))
theorem dX0_operate_131 : decode cX0_operate 131 = .ok (.lload_n 3, 1) := of_decide_eq_true (List.all_eq_true.mp dsX0_operate_0_ok (131, (.lload_n 3, 1)) (List.mem_of_getElem? (i := 31) rfl))
theorem dX0_operate_132 : decode cX0_operate 132 = .ok (.invokestatic 137, 3) := of_decide_eq_true (List.all_eq_true.mp dsX0_operate_0_ok (132, (.invokestatic 137, 3)) (List.mem_of_getElem? (i := 32) rfl))
theorem dX0_operate_135 : decode cX0_operate 135 = .ok (.lreturn, 1) := of_decide_eq_true (List.all_eq_true.mp dsX0_operate_0_ok (135, (.lreturn, 1)) (List.mem_of_getElem? (i := 33) rfl))
theorem dX0_operate_136 : decode cX0_operate 136 = .ok (.lload_n 1, 1) := of_decide_eq_true (List.all_eq_true.mp dsX0_operate_0_ok (136, (.lload_n 1, 1)) (List.mem_of_getElem? (i := 34) rfl))
theorem dX0_operate_137 : decode cX0_operate 137 = .ok (.lload_n 3, 1) := of_decide_eq_true (List.all_eq_true.mp dsX0_operate_0_ok (137, (.lload_n 3, 1)) (List.mem_of_getElem? (i := 35) rfl))
theorem dX0_operate_138 : decode cX0_operate 138 = .ok (.lcmp, 1) := of_decide_eq_true (List.all_eq_true.mp dsX0_operate_0_ok (138, (.lcmp, 1)) (List.mem_of_getElem? (i := 36) rfl))
theorem dX0_operate_139 : decode cX0_operate 139 = .ok (.ifCond .ge 7, 3) := of_decide_eq_true (List.all_eq_true.mp dsX0_operate_0_ok (139, (.ifCond .ge 7, 3)) (List.mem_of_getElem? (i := 37) rfl))
theorem dX0_operate_142 : decode cX0_operate 142 = .ok (.lconst 1, 1) := of_decide_eq_true (List.all_eq_true.mp dsX0_operate_0_ok (142, (.lconst 1, 1)) (List.mem_of_getElem? (i := 38) rfl))
theorem dX0_operate_143 : decode cX0_operate 143 = .ok (.goto 4, 3) := of_decide_eq_true (List.all_eq_true.mp dsX0_operate_0_ok (143, (.goto 4, 3)) (List.mem_of_getElem? (i := 39) rfl))
theorem dX0_operate_146 : decode cX0_operate 146 = .ok (.lconst 0, 1) := of_decide_eq_true (List.all_eq_true.mp dsX0_operate_0_ok (146, (.lconst 0, 1)) (List.mem_of_getElem? (i := 40) rfl))
theorem dX0_operate_147 : decode cX0_operate 147 = .ok (.lreturn, 1) := of_decide_eq_true (List.all_eq_true.mp dsX0_operate_0_ok (147, (.lreturn, 1)) (List.mem_of_getElem? (i := 41) rfl))
theorem dX0_operate_148 : decode cX0_operate 148 = .ok (.lload_n 1, 1) := of_decide_eq_true (List.all_eq_true.mp dsX0_operate_0_ok (148, (.lload_n 1, 1)) (List.mem_of_getElem? (i := 42) rfl))
theorem dX0_operate_149 : decode cX0_operate 149 = .ok (.lload_n 3, 1) := of_decide_eq_true (List.all_eq_true.mp dsX0_operate_0_ok (149, (.lload_n 3, 1)) (List.mem_of_getElem? (i := 43) rfl))
theorem dX0_operate_150 : decode cX0_operate 150 = .ok (.lcmp, 1) := of_decide_eq_true (List.all_eq_true.mp dsX0_operate_0_ok (150, (.lcmp, 1)) (List.mem_of_getElem? (i := 44) rfl))
theorem dX0_operate_151 : decode cX0_operate 151 = .ok (.ifCond .le 7, 3) := of_decide_eq_true (List.all_eq_true.mp dsX0_operate_0_ok (151, (.ifCond .le 7, 3)) (List.mem_of_getElem? (i := 45) rfl))
theorem dX0_operate_154 : decode cX0_operate 154 = .ok (.lconst 1, 1) := of_decide_eq_true (List.all_eq_true.mp dsX0_operate_0_ok (154, (.lconst 1, 1)) (List.mem_of_getElem? (i := 46) rfl))
theorem dX0_operate_155 : decode cX0_operate 155 = .ok (.goto 4, 3) := of_decide_eq_true (List.all_eq_true.mp dsX0_operate_0_ok (155, (.goto 4, 3)) (List.mem_of_getElem? (i := 47) rfl))
theorem dX0_operate_158 : decode cX0_operate 158 = .ok (.lconst 0, 1) := of_decide_eq_true (List.all_eq_true.mp dsX0_operate_0_ok (158, (.lconst 0, 1)) (List.mem_of_getElem? (i := 48) rfl))
theorem dX0_operate_159 : decode cX0_operate 159 = .ok (.lreturn, 1) := of_decide_eq_true (List.all_eq_true.mp dsX0_operate_0_ok (159, (.lreturn, 1)) (List.mem_of_getElem? (i := 49) rfl))
theorem dX0_operate_160 : decode cX0_operate 160 = .ok (.lload_n 1, 1) := of_decide_eq_true (List.all_eq_true.mp dsX0_operate_0_ok (160, (.lload_n 1, 1)) (List.mem_of_getElem? (i := 50) rfl))
theorem dX0_operate_161 : decode cX0_operate 161 = .ok (.lload_n 3, 1) := of_decide_eq_true (List.all_eq_true.mp dsX0_operate_0_ok (161, (.lload_n 3, 1)) (List.mem_of_getElem? (i := 51) rfl))
theorem dX0_operate_162 : decode cX0_operate 162 = .ok (.lcmp, 1) := of_decide_eq_true (List.all_eq_true.mp dsX0_operate_0_ok (162, (.lcmp, 1)) (List.mem_of_getElem? (i := 52) rfl))
theorem dX0_operate_163 : decode cX0_operate 163 = .ok (.ifCond .ne 7, 3) := of_decide_eq_true (List.all_eq_true.mp dsX0_operate_0_ok (163, (.ifCond .ne 7, 3)) (List.mem_of_getElem? (i := 53) rfl))
theorem dX0_operate_166 : decode cX0_operate 166 = .ok (.lconst 1, 1) := of_decide_eq_true (List.all_eq_true.mp dsX0_operate_0_ok (166, (.lconst 1, 1)) (List.mem_of_getElem? (i := 54) rfl))
theorem dX0_operate_167 : decode cX0_operate 167 = .ok (.goto 4, 3) := of_decide_eq_true (List.all_eq_true.mp dsX0_operate_0_ok (167, (.goto 4, 3)) (List.mem_of_getElem? (i := 55) rfl))
theorem dX0_operate_170 : decode cX0_operate 170 = .ok (.lconst 0, 1) := of_decide_eq_true (List.all_eq_true.mp dsX0_operate_0_ok (170, (.lconst 0, 1)) (List.mem_of_getElem? (i := 56) rfl))
theorem dX0_operate_171 : decode cX0_operate 171 = .ok (.lreturn, 1) := of_decide_eq_true (List.all_eq_true.mp dsX0_operate_0_ok (171, (.lreturn, 1)) (List.mem_of_getElem? (i := 57) rfl))
theorem dX0_operate_172 : decode cX0_operate 172 = .ok (.lload_n 1, 1) := of_decide_eq_true (List.all_eq_true.mp dsX0_operate_0_ok (172, (.lload_n 1, 1)) (List.mem_of_getElem? (i := 58) rfl))
theorem dX0_operate_173 : decode cX0_operate 173 = .ok (.lload_n 3, 1) := of_decide_eq_true (List.all_eq_true.mp dsX0_operate_0_ok (173, (.lload_n 3, 1)) (List.mem_of_getElem? (i := 59) rfl))
def dsX0_operate_1 : List (Nat × Instr × Nat) := [(174, (.invokestatic 129, 3)), (177, (.lreturn, 1)), (178, (.lload_n 1, 1)), (179, (.lload_n 3, 1)), (180, (.invokestatic 132, 3)), (183, (.lreturn, 1))]
theorem dsX0_operate_1_ok : (dsX0_operate_1.all fun q => decide (decode cX0_operate q.1 = .ok q.2)) = true := by decide +kernel
theorem dX0_operate_174 : decode cX0_operate 174 = .ok (.invokestatic 129, 3) := of_decide_eq_true (List.all_eq_true.mp dsX0_operate_1_ok (174, (.invokestatic 129, 3)) (List.mem_of_getElem? (i := 0) rfl))
theorem dX0_operate_177 : decode cX0_operate 177 = .ok (.lreturn, 1) := of_decide_eq_true (List.all_eq_true.mp dsX0_operate_1_ok (177, (.lreturn, 1)) (List.mem_of_getElem? (i := 1) rfl))
theorem dX0_operate_178 : decode cX0_operate 178 = .ok (.lload_n 1, 1) := of_decide_eq_true (List.all_eq_true.mp dsX0_operate_1_ok (178, (.lload_n 1, 1)) (List.mem_of_getElem? (i := 2) rfl))
theorem dX0_operate_179 : decode cX0_operate 179 = .ok (.lload_n 3, 1) := of_decide_eq_true (List.all_eq_true.mp dsX0_operate_1_ok (179, (.lload_n 3, 1)) (List.mem_of_getElem? (i := 3) rfl))
theorem dX0_operate_180 : decode cX0_operate 180 = .ok (.invokestatic 132, 3) := of_decide_eq_true (List.all_eq_true.mp dsX0_operate_1_ok (180, (.invokestatic 132, 3)) (List.mem_of_getElem? (i := 4) rfl))
theorem dX0_operate_183 : decode cX0_operate 183 = .ok (.lreturn, 1) := of_decide_eq_true (List.all_eq_true.mp dsX0_operate_1_ok (183, (.lreturn, 1)) (List.mem_of_getElem? (i := 5) rfl))
def fX0_operate (N : Nat)   (p0 : Int32) (p1 : Int64) (p2 : Int64) : Option (Int64) :=
  (if p0 = 37 then (if (lg_cmp p2 0) = 0 then some 0 else (xq_bd (fJ9_floorMod_f86c9 N p1 p2) fun r_1 => some r_1)) else (if p0 = 42 then some (p1 * p2) else (if p0 = 43 then some (p1 + p2) else (if p0 = 45 then some (p1 - p2) else (if p0 = 47 then (if (lg_cmp p2 0) = 0 then some 0 else (xq_bd (fJ9_floorDiv_f86c9 N p1 p2) fun r_3 => some r_3)) else (if p0 = 60 then (if 0 ≤ (lg_cmp p1 p2) then some 0 else some 1) else (if p0 = 61 then (if (lg_cmp p1 p2) = 0 then some 1 else some 0) else (if p0 = 62 then (if (lg_cmp p1 p2) ≤ 0 then some 0 else some 1) else (if p0 = 319 then some (xq_minL p1 p2) else (if p0 = 322 then some (xq_minL p1 p2) else some (xq_maxL p1 p2)))))))))))
set_option maxHeartbeats 4000000 in
set_option maxRecDepth 100000 in
theorem kX0_operate (l : Launch) (dC : Nat → ClassId) (dI : Nat → Nat → Nat) (cI cB cJ cZ cM : ClassId) (z : Nat) (ad : Nat → Nat) (N : Nat) (p0 : Int32) (p1 : Int64) (p2 : Int64) {r0 : Int64} (hf : fX0_operate N p0 p1 p2 = some r0) : xq_Ct l yX0_operate wsX0_operate { frames := 1, cells := 0, slots := 0, locals := 25 } (dC, dI) vwCl (xq_tys cI cB cJ cZ cM) z ad [.int p0, .long p1, .long p2] [] [] (some (.long r0)) := by
  intro sz
  refine Met.ofW (cc := cX0_operate) (maxL := 5) (ret := (some .long)) (by decide) rfl ?_
  intro p e s m args below meth c s₁ B hml hv
  obtain ⟨rfl, hsz, hP, hK, hD0, hE, hz⟩ := hv
  have hx := B.exec
  have hb := B.bytes
  have hr := B.returns
  have hts := atoms_spec (ws := wsX0_operate) B.pre
  have hown : s.vm.findClass RX0 = some m.cls := findClass_of_methodNamed B.named
  have hlocks := B.notSynchronized
  subst hsz
  have hD := hD0.self (sz := s.heap.size)
  have hN := xq_Env.of hE hz hD0
  generalize hAe : va_A [] s.heap.size = A at hD hN ⊢
  have hA : ∀ q : Nat, s.heap.size ≤ q → A q := fun q h => by rw [← hAe]; exact Or.inr h
  clear hAe hD0
  have hS : va_S A s.heap s.heap [] := va_S.rf
  have hl := lv_entry ([.int p0, .long p1, .long p2]) (n := 5) (Nat.le_of_ble_eq_true rfl)
  rw [lg_entry_eq]
  generalize (lg_sl ([.int p0, .long p1, .long p2]) ++ List.replicate (5 - (lg_sl ([.int p0, .long p1, .long p2])).length) Slot.unset).toArray = ls at hl ⊢
  have hl : lv_has ls 5 [(0, .int p0), (1, .long p1), (3, .long p2)] := hl
  have hw0 := hts (.methodLink RX0 129 Lib.MathLoose.min_long.x) (by decide +kernel)
  have hw1 := hts (.static Lib.MathLoose.min_long.x) (by decide +kernel)
  have hw2 := hts (.initialized "java/lang/Math") (by decide +kernel)
  have hw3 := hts (.code Lib.MathLoose.min_long.x Lib.MathLoose.min_long.code 4 (some .long)) (by decide +kernel)
  have hw4 := hts (.methodLink RX0 132 Lib.MathLoose.max_long.x) (by decide +kernel)
  have hw5 := hts (.static Lib.MathLoose.max_long.x) (by decide +kernel)
  have hw6 := hts (.code Lib.MathLoose.max_long.x Lib.MathLoose.max_long.code 4 (some .long)) (by decide +kernel)
  unfold fX0_operate at hf
  refine lv_iload_n hx hb dX0_operate_0 rfl (lv_at hl 0 rfl) ?_
  by_cases c0 : p0 = 37
  · have hf := xq_pos hf c0
    refine lv_lookup (tgt := 120) hx hb dX0_operate_1 (by decide) (off := 119) (by rw [c0]; decide) (by decide) ?_
    refine lv_lload_n hx hb dX0_operate_120 rfl (lv_at hl 2 rfl) ?_
    refine lv_lconst (v := 0) hx hb dX0_operate_121 (by decide) ?_
    refine W.lcmp hx hb dX0_operate_122 ?_
    refine lv_if_ne (tgt := 130) hx hb dX0_operate_123 (by decide) (fun c_ => ?_) (fun c_ => ?_)
    · have hf := xq_neg hf c_
      refine lv_lload_n hx hb dX0_operate_130 rfl (lv_at hl 1 rfl) ?_
      refine lv_lload_n hx hb dX0_operate_131 rfl (lv_at hl 2 rfl) ?_
      obtain ⟨r_1, h_2, hf⟩ := xq_bd_some hf
      refine xq_callS (As := [.long p1, .long p2]) (rest := []) ⟨hx, hb, hml, hown, hts⟩ (kJ9_floorMod_f86c9 l dC dI cI cB cJ cZ cM z ad N p1 p2 h_2) (va_cwS 2 hts gX0_operate_J9_floorMod_f86c9 rfl rfl rfl (by decide +kernel) ⟨Nat.le_of_ble_eq_true rfl, Nat.le_of_ble_eq_true rfl⟩) hN hK hP hD hS hA [] (by decide) rfl rfl rfl hl.1 rfl (Nat.le_of_ble_eq_true rfl) dX0_operate_132 ⟨Nat.zero_le _, Nat.zero_le _⟩ (fun H locs hP hD hS => ?_)
      have hP : va_P (dC, dI) vwCl [] H := hP
      have hD : va_D A [] := hD
      refine W.eq (g2 := F0 m 135 ls [.long r_1]) rfl ?_
      cases hf
      exact xq_lret hx hb hr hlocks hK hP hD hS dX0_operate_135
    · have hf := xq_pos hf c_
      refine lv_lconst (v := 0) hx hb dX0_operate_126 (by decide) ?_
      refine lv_goto (tgt := 135) hx hb dX0_operate_127 (by decide) ?_
      cases hf
      exact xq_lret hx hb hr hlocks hK hP hD hS dX0_operate_135
  · have hf := xq_neg hf c0
    by_cases c1 : p0 = 42
    · have hf := xq_pos hf c1
      refine lv_lookup (tgt := 100) hx hb dX0_operate_1 (by decide) (off := 99) (by rw [c1]; decide) (by decide) ?_
      refine lv_lload_n hx hb dX0_operate_100 rfl (lv_at hl 1 rfl) ?_
      refine lv_lload_n hx hb dX0_operate_101 rfl (lv_at hl 2 rfl) ?_
      refine lv_lmul hx hb dX0_operate_102 ?_
      cases hf
      exact xq_lret hx hb hr hlocks hK hP hD hS dX0_operate_103
    · have hf := xq_neg hf c1
      by_cases c2 : p0 = 43
      · have hf := xq_pos hf c2
        refine lv_lookup (tgt := 92) hx hb dX0_operate_1 (by decide) (off := 91) (by rw [c2]; decide) (by decide) ?_
        refine lv_lload_n hx hb dX0_operate_92 rfl (lv_at hl 1 rfl) ?_
        refine lv_lload_n hx hb dX0_operate_93 rfl (lv_at hl 2 rfl) ?_
        refine lv_ladd hx hb dX0_operate_94 ?_
        cases hf
        exact xq_lret hx hb hr hlocks hK hP hD hS dX0_operate_95
      · have hf := xq_neg hf c2
        by_cases c3 : p0 = 45
        · have hf := xq_pos hf c3
          refine lv_lookup (tgt := 96) hx hb dX0_operate_1 (by decide) (off := 95) (by rw [c3]; decide) (by decide) ?_
          refine lv_lload_n hx hb dX0_operate_96 rfl (lv_at hl 1 rfl) ?_
          refine lv_lload_n hx hb dX0_operate_97 rfl (lv_at hl 2 rfl) ?_
          refine lv_lsub hx hb dX0_operate_98 ?_
          cases hf
          exact xq_lret hx hb hr hlocks hK hP hD hS dX0_operate_99
        · have hf := xq_neg hf c3
          by_cases c4 : p0 = 47
          · have hf := xq_pos hf c4
            refine lv_lookup (tgt := 104) hx hb dX0_operate_1 (by decide) (off := 103) (by rw [c4]; decide) (by decide) ?_
            refine lv_lload_n hx hb dX0_operate_104 rfl (lv_at hl 2 rfl) ?_
            refine lv_lconst (v := 0) hx hb dX0_operate_105 (by decide) ?_
            refine W.lcmp hx hb dX0_operate_106 ?_
            refine lv_if_ne (tgt := 114) hx hb dX0_operate_107 (by decide) (fun c_ => ?_) (fun c_ => ?_)
            · have hf := xq_neg hf c_
              refine lv_lload_n hx hb dX0_operate_114 rfl (lv_at hl 1 rfl) ?_
              refine lv_lload_n hx hb dX0_operate_115 rfl (lv_at hl 2 rfl) ?_
              obtain ⟨r_3, h_4, hf⟩ := xq_bd_some hf
              refine xq_callS (As := [.long p1, .long p2]) (rest := []) ⟨hx, hb, hml, hown, hts⟩ (kJ9_floorDiv_f86c9 l dC dI cI cB cJ cZ cM z ad N p1 p2 h_4) (va_cwS 2 hts gX0_operate_J9_floorDiv_f86c9 rfl rfl rfl (by decide +kernel) ⟨Nat.le_of_ble_eq_true rfl, Nat.le_of_ble_eq_true rfl⟩) hN hK hP hD hS hA [] (by decide) rfl rfl rfl hl.1 rfl (Nat.le_of_ble_eq_true rfl) dX0_operate_116 ⟨Nat.zero_le _, Nat.zero_le _⟩ (fun H locs hP hD hS => ?_)
              have hP : va_P (dC, dI) vwCl [] H := hP
              have hD : va_D A [] := hD
              refine W.eq (g2 := F0 m 119 ls [.long r_3]) rfl ?_
              cases hf
              exact xq_lret hx hb hr hlocks hK hP hD hS dX0_operate_119
            · have hf := xq_pos hf c_
              refine lv_lconst (v := 0) hx hb dX0_operate_110 (by decide) ?_
              refine lv_goto (tgt := 119) hx hb dX0_operate_111 (by decide) ?_
              cases hf
              exact xq_lret hx hb hr hlocks hK hP hD hS dX0_operate_119
          · have hf := xq_neg hf c4
            by_cases c5 : p0 = 60
            · have hf := xq_pos hf c5
              refine lv_lookup (tgt := 136) hx hb dX0_operate_1 (by decide) (off := 135) (by rw [c5]; decide) (by decide) ?_
              refine lv_lload_n hx hb dX0_operate_136 rfl (lv_at hl 1 rfl) ?_
              refine lv_lload_n hx hb dX0_operate_137 rfl (lv_at hl 2 rfl) ?_
              refine W.lcmp hx hb dX0_operate_138 ?_
              refine lv_if_ge (tgt := 146) hx hb dX0_operate_139 (by decide) (fun c_ => ?_) (fun c_ => ?_)
              · have hf := xq_pos hf c_
                refine lv_lconst (v := 0) hx hb dX0_operate_146 (by decide) ?_
                cases hf
                exact xq_lret hx hb hr hlocks hK hP hD hS dX0_operate_147
              · have hf := xq_neg hf c_
                refine lv_lconst (v := 1) hx hb dX0_operate_142 (by decide) ?_
                refine lv_goto (tgt := 147) hx hb dX0_operate_143 (by decide) ?_
                cases hf
                exact xq_lret hx hb hr hlocks hK hP hD hS dX0_operate_147
            · have hf := xq_neg hf c5
              by_cases c6 : p0 = 61
              · have hf := xq_pos hf c6
                refine lv_lookup (tgt := 160) hx hb dX0_operate_1 (by decide) (off := 159) (by rw [c6]; decide) (by decide) ?_
                refine lv_lload_n hx hb dX0_operate_160 rfl (lv_at hl 1 rfl) ?_
                refine lv_lload_n hx hb dX0_operate_161 rfl (lv_at hl 2 rfl) ?_
                refine W.lcmp hx hb dX0_operate_162 ?_
                refine lv_if_ne (tgt := 170) hx hb dX0_operate_163 (by decide) (fun c_ => ?_) (fun c_ => ?_)
                · have hf := xq_neg hf c_
                  refine lv_lconst (v := 0) hx hb dX0_operate_170 (by decide) ?_
                  cases hf
                  exact xq_lret hx hb hr hlocks hK hP hD hS dX0_operate_171
                · have hf := xq_pos hf c_
                  refine lv_lconst (v := 1) hx hb dX0_operate_166 (by decide) ?_
                  refine lv_goto (tgt := 171) hx hb dX0_operate_167 (by decide) ?_
                  cases hf
                  exact xq_lret hx hb hr hlocks hK hP hD hS dX0_operate_171
              · have hf := xq_neg hf c6
                by_cases c7 : p0 = 62
                · have hf := xq_pos hf c7
                  refine lv_lookup (tgt := 148) hx hb dX0_operate_1 (by decide) (off := 147) (by rw [c7]; decide) (by decide) ?_
                  refine lv_lload_n hx hb dX0_operate_148 rfl (lv_at hl 1 rfl) ?_
                  refine lv_lload_n hx hb dX0_operate_149 rfl (lv_at hl 2 rfl) ?_
                  refine W.lcmp hx hb dX0_operate_150 ?_
                  refine lv_if_le (tgt := 158) hx hb dX0_operate_151 (by decide) (fun c_ => ?_) (fun c_ => ?_)
                  · have hf := xq_pos hf c_
                    refine lv_lconst (v := 0) hx hb dX0_operate_158 (by decide) ?_
                    cases hf
                    exact xq_lret hx hb hr hlocks hK hP hD hS dX0_operate_159
                  · have hf := xq_neg hf c_
                    refine lv_lconst (v := 1) hx hb dX0_operate_154 (by decide) ?_
                    refine lv_goto (tgt := 159) hx hb dX0_operate_155 (by decide) ?_
                    cases hf
                    exact xq_lret hx hb hr hlocks hK hP hD hS dX0_operate_159
                · have hf := xq_neg hf c7
                  by_cases c8 : p0 = 319
                  · have hf := xq_pos hf c8
                    refine lv_lookup (tgt := 172) hx hb dX0_operate_1 (by decide) (off := 171) (by rw [c8]; decide) (by decide) ?_
                    refine lv_lload_n hx hb dX0_operate_172 rfl (lv_at hl 1 rfl) ?_
                    refine lv_lload_n hx hb dX0_operate_173 rfl (lv_at hl 2 rfl) ?_
                    refine va_mmin_long hx hb (hml.trans hl.1.symm) hown hw0 hw1 hw2 hw3 (Nat.le_of_ble_eq_true rfl) (Nat.le_of_ble_eq_true rfl) (Nat.zero_le _) (Nat.zero_le _) dX0_operate_174 ?_
                    refine W.eq (g2 := F0 m 177 ls [.long (xq_minL p1 p2)]) rfl ?_
                    cases hf
                    exact xq_lret hx hb hr hlocks hK hP hD hS dX0_operate_177
                  · have hf := xq_neg hf c8
                    by_cases c9 : p0 = 322
                    · have hf := xq_pos hf c9
                      refine lv_lookup (tgt := 172) hx hb dX0_operate_1 (by decide) (off := 171) (by rw [c9]; decide) (by decide) ?_
                      refine lv_lload_n hx hb dX0_operate_172 rfl (lv_at hl 1 rfl) ?_
                      refine lv_lload_n hx hb dX0_operate_173 rfl (lv_at hl 2 rfl) ?_
                      refine va_mmin_long hx hb (hml.trans hl.1.symm) hown hw0 hw1 hw2 hw3 (Nat.le_of_ble_eq_true rfl) (Nat.le_of_ble_eq_true rfl) (Nat.zero_le _) (Nat.zero_le _) dX0_operate_174 ?_
                      refine W.eq (g2 := F0 m 177 ls [.long (xq_minL p1 p2)]) rfl ?_
                      cases hf
                      exact xq_lret hx hb hr hlocks hK hP hD hS dX0_operate_177
                    · have hf := xq_neg hf c9
                      refine lv_lookup (tgt := 178) hx hb dX0_operate_1 (by decide) (off := 177) (by refine (lv_osw c0 (by decide)).trans ?_; refine (lv_osw c1 (by decide)).trans ?_; refine (lv_osw c2 (by decide)).trans ?_; refine (lv_osw c3 (by decide)).trans ?_; refine (lv_osw c4 (by decide)).trans ?_; refine (lv_osw c5 (by decide)).trans ?_; refine (lv_osw c6 (by decide)).trans ?_; refine (lv_osw c7 (by decide)).trans ?_; refine (lv_osw c8 (by decide)).trans ?_; refine (lv_osw c9 (by decide)).trans ?_; rfl) (by decide) ?_
                      refine lv_lload_n hx hb dX0_operate_178 rfl (lv_at hl 1 rfl) ?_
                      refine lv_lload_n hx hb dX0_operate_179 rfl (lv_at hl 2 rfl) ?_
                      refine va_mmax_long hx hb (hml.trans hl.1.symm) hown hw4 hw5 hw2 hw6 (Nat.le_of_ble_eq_true rfl) (Nat.le_of_ble_eq_true rfl) (Nat.zero_le _) (Nat.zero_le _) dX0_operate_180 ?_
                      refine W.eq (g2 := F0 m 183 ls [.long (xq_maxL p1 p2)]) rfl ?_
                      cases hf
                      exact xq_lret hx hb hr hlocks hK hP hD hS dX0_operate_183
set_option maxRecDepth 20000 in
theorem ggX0_resultOf_X0_valueOf : GoodIn wsX0_resultOf wsX0_valueOf := goodIn_r _ [15, 16, 27, 28, 29] rfl (by decide +kernel)
set_option maxRecDepth 20000 in
theorem gX0_resultOf_X0_valueOf : GoodIn wsX0_resultOf (wsV RX0 118 RX0 yX0_valueOf wsX0_valueOf) := goodIn_app (goodIn_of _ (by decide +kernel)) ggX0_resultOf_X0_valueOf
set_option maxRecDepth 20000 in
theorem ggX0_resultOf_X0_operate : GoodIn wsX0_resultOf wsX0_operate := goodIn_r _ [19, 4, 5, 6, 7, 8, 9, 10, 20, 21, 22, 23, 24, 25, 26] rfl (by decide +kernel)
set_option maxRecDepth 20000 in
theorem gX0_resultOf_X0_operate : GoodIn wsX0_resultOf (va_wsS RX0 121 yX0_operate wsX0_operate) := goodIn_app (goodIn_of _ (by decide +kernel)) ggX0_resultOf_X0_operate
def dsX0_resultOf_0 : List (Nat × Instr × Nat) := [(0, (.iconst 0, 1)), (1, (.istore_n 2, 1)), (2, (.iconst 0, 1)), (3, (.istore_n 3, 1)), (4, (.iload_n 3, 1)), (5, (.aload_n 1, 1)), (6, (.arraylength, 1)), (7, (.if_icmp .ge 199, 3)), (10, (.aload_n 1, 1)), (11, (.iload_n 3, 1)), (12, (.iaload, 1)), (13, (.sipush 20000, 3)), (16, (.isub, 1)), (17, (.istore 4, 2)), (19, (.iload 4, 2)), (21, (.ifCond .ge 31, 3)), (24, (.iload_n 2, 1)), (25, (.aload_n 0, 1)), (26, (.getfield 15, 3)), (29, (.arraylength, 1)), (30, (.if_icmp .ge 22, 3)), (33, (.aload_n 0, 1)), (34, (.getfield 15, 3)), (37, (.iload_n 2, 1)), (38, (.aload_n 0, 1)), (39, (.aload_n 1, 1)), (40, (.iload_n 3, 1)), (41, (.iaload, 1)), (42, (.invokevirtual 118, 3)), (45, (.iastore, 1)), (46, (.iinc 2 1, 3)), (49, (.goto 151, 3)), (52, (.iload 4, 2)), (54, (.sipush 320, 3)), (57, (.if_icmp .ne 29, 3)), (60, (.iload_n 2, 1)), (61, (.iconst 1, 1)), (62, (.if_icmp .lt 24, 3)), (65, (.aload_n 0, 1)), (66, (.getfield 15, 3)), (69, (.iload_n 2, 1)), (70, (.iconst 1, 1)), (71, (.isub, 1)), (72, (.iconst 1, 1)), (73, (.aload_n 0, 1)), (74, (.getfield 15, 3)), (77, (.iload_n 2, 1)), (78, (.iconst 1, 1)), (79, (.isub, 1)), (80, (.iaload, 1)), (81, (.isub, 1)), (82, (.iastore, 1)), (83, (.goto 117, 3)), (86, (.iload 4, 2)), (88, (.sipush 317, 3)), (91, (.if_icmp .ne 50, 3)), (94, (.iload_n 2, 1)), (95, (.iconst 3, 1)), (96, (.if_icmp .lt 45, 3)), (99, (.iinc 2 (-2), 3))]
theorem dsX0_resultOf_0_ok : (dsX0_resultOf_0.all fun q => decide (decode cX0_resultOf q.1 = .ok q.2)) = true := by decide +kernel
theorem dX0_resultOf_0 : decode cX0_resultOf 0 = .ok (.iconst 0, 1) := of_decide_eq_true (List.all_eq_true.mp dsX0_resultOf_0_ok (0, (.iconst 0, 1)) (List.mem_of_getElem? (i := 0) rfl))
theorem dX0_resultOf_1 : decode cX0_resultOf 1 = .ok (.istore_n 2, 1) := of_decide_eq_true (List.all_eq_true.mp dsX0_resultOf_0_ok (1, (.istore_n 2, 1)) (List.mem_of_getElem? (i := 1) rfl))
theorem dX0_resultOf_2 : decode cX0_resultOf 2 = .ok (.iconst 0, 1) := of_decide_eq_true (List.all_eq_true.mp dsX0_resultOf_0_ok (2, (.iconst 0, 1)) (List.mem_of_getElem? (i := 2) rfl))
theorem dX0_resultOf_3 : decode cX0_resultOf 3 = .ok (.istore_n 3, 1) := of_decide_eq_true (List.all_eq_true.mp dsX0_resultOf_0_ok (3, (.istore_n 3, 1)) (List.mem_of_getElem? (i := 3) rfl))
theorem dX0_resultOf_4 : decode cX0_resultOf 4 = .ok (.iload_n 3, 1) := of_decide_eq_true (List.all_eq_true.mp dsX0_resultOf_0_ok (4, (.iload_n 3, 1)) (List.mem_of_getElem? (i := 4) rfl))
theorem dX0_resultOf_5 : decode cX0_resultOf 5 = .ok (.aload_n 1, 1) := of_decide_eq_true (List.all_eq_true.mp dsX0_resultOf_0_ok (5, (.aload_n 1, 1)) (List.mem_of_getElem? (i := 5) rfl))
theorem dX0_resultOf_6 : decode cX0_resultOf 6 = .ok (.arraylength, 1) := of_decide_eq_true (List.all_eq_true.mp dsX0_resultOf_0_ok (6, (.arraylength, 1)) (List.mem_of_getElem? (i := 6) rfl))
theorem dX0_resultOf_7 : decode cX0_resultOf 7 = .ok (.if_icmp .ge 199, 3) := of_decide_eq_true (List.all_eq_true.mp dsX0_resultOf_0_ok (7, (.if_icmp .ge 199, 3)) (List.mem_of_getElem? (i := 7) rfl))
theorem dX0_resultOf_10 : decode cX0_resultOf 10 = .ok (.aload_n 1, 1) := of_decide_eq_true (List.all_eq_true.mp dsX0_resultOf_0_ok (10, (.aload_n 1, 1)) (List.mem_of_getElem? (i := 8) rfl))
theorem dX0_resultOf_11 : decode cX0_resultOf 11 = .ok (.iload_n 3, 1) := of_decide_eq_true (List.all_eq_true.mp dsX0_resultOf_0_ok (11, (.iload_n 3, 1)) (List.mem_of_getElem? (i := 9) rfl))
theorem dX0_resultOf_12 : decode cX0_resultOf 12 = .ok (.iaload, 1) := of_decide_eq_true (List.all_eq_true.mp dsX0_resultOf_0_ok (12, (.iaload, 1)) (List.mem_of_getElem? (i := 10) rfl))
theorem dX0_resultOf_13 : decode cX0_resultOf 13 = .ok (.sipush 20000, 3) := of_decide_eq_true (List.all_eq_true.mp dsX0_resultOf_0_ok (13, (.sipush 20000, 3)) (List.mem_of_getElem? (i := 11) rfl))
theorem dX0_resultOf_16 : decode cX0_resultOf 16 = .ok (.isub, 1) := of_decide_eq_true (List.all_eq_true.mp dsX0_resultOf_0_ok (16, (.isub, 1)) (List.mem_of_getElem? (i := 12) rfl))
theorem dX0_resultOf_17 : decode cX0_resultOf 17 = .ok (.istore 4, 2) := of_decide_eq_true (List.all_eq_true.mp dsX0_resultOf_0_ok (17, (.istore 4, 2)) (List.mem_of_getElem? (i := 13) rfl))
theorem dX0_resultOf_19 : decode cX0_resultOf 19 = .ok (.iload 4, 2) := of_decide_eq_true (List.all_eq_true.mp dsX0_resultOf_0_ok (19, (.iload 4, 2)) (List.mem_of_getElem? (i := 14) rfl))
theorem dX0_resultOf_21 : decode cX0_resultOf 21 = .ok (.ifCond .ge 31, 3) := of_decide_eq_true (List.all_eq_true.mp dsX0_resultOf_0_ok (21, (.ifCond .ge 31, 3)) (List.mem_of_getElem? (i := 15) rfl))
theorem dX0_resultOf_24 : decode cX0_resultOf 24 = .ok (.iload_n 2, 1) := of_decide_eq_true (List.all_eq_true.mp dsX0_resultOf_0_ok (24, (.iload_n 2, 1)) (List.mem_of_getElem? (i := 16) rfl))
theorem dX0_resultOf_25 : decode cX0_resultOf 25 = .ok (.aload_n 0, 1) := of_decide_eq_true (List.all_eq_true.mp dsX0_resultOf_0_ok (25, (.aload_n 0, 1)) (List.mem_of_getElem? (i := 17) rfl))
theorem dX0_resultOf_26 : decode cX0_resultOf 26 = .ok (.getfield 15, 3) := of_decide_eq_true (List.all_eq_true.mp dsX0_resultOf_0_ok (26, (.getfield 15, 3)) (List.mem_of_getElem? (i := 18) rfl))
theorem dX0_resultOf_29 : decode cX0_resultOf 29 = .ok (.arraylength, 1) := of_decide_eq_true (List.all_eq_true.mp dsX0_resultOf_0_ok (29, (.arraylength, 1)) (List.mem_of_getElem? (i := 19) rfl))
theorem dX0_resultOf_30 : decode cX0_resultOf 30 = .ok (.if_icmp .ge 22, 3) := of_decide_eq_true (List.all_eq_true.mp dsX0_resultOf_0_ok (30, (.if_icmp .ge 22, 3)) (List.mem_of_getElem? (i := 20) rfl))
theorem dX0_resultOf_33 : decode cX0_resultOf 33 = .ok (.aload_n 0, 1) := of_decide_eq_true (List.all_eq_true.mp dsX0_resultOf_0_ok (33, (.aload_n 0, 1)) (List.mem_of_getElem? (i := 21) rfl))
theorem dX0_resultOf_34 : decode cX0_resultOf 34 = .ok (.getfield 15, 3) := of_decide_eq_true (List.all_eq_true.mp dsX0_resultOf_0_ok (34, (.getfield 15, 3)) (List.mem_of_getElem? (i := 22) rfl))
theorem dX0_resultOf_37 : decode cX0_resultOf 37 = .ok (.iload_n 2, 1) := of_decide_eq_true (List.all_eq_true.mp dsX0_resultOf_0_ok (37, (.iload_n 2, 1)) (List.mem_of_getElem? (i := 23) rfl))
theorem dX0_resultOf_38 : decode cX0_resultOf 38 = .ok (.aload_n 0, 1) := of_decide_eq_true (List.all_eq_true.mp dsX0_resultOf_0_ok (38, (.aload_n 0, 1)) (List.mem_of_getElem? (i := 24) rfl))
theorem dX0_resultOf_39 : decode cX0_resultOf 39 = .ok (.aload_n 1, 1) := of_decide_eq_true (List.all_eq_true.mp dsX0_resultOf_0_ok (39, (.aload_n 1, 1)) (List.mem_of_getElem? (i := 25) rfl))
theorem dX0_resultOf_40 : decode cX0_resultOf 40 = .ok (.iload_n 3, 1) := of_decide_eq_true (List.all_eq_true.mp dsX0_resultOf_0_ok (40, (.iload_n 3, 1)) (List.mem_of_getElem? (i := 26) rfl))
theorem dX0_resultOf_41 : decode cX0_resultOf 41 = .ok (.iaload, 1) := of_decide_eq_true (List.all_eq_true.mp dsX0_resultOf_0_ok (41, (.iaload, 1)) (List.mem_of_getElem? (i := 27) rfl))
theorem dX0_resultOf_42 : decode cX0_resultOf 42 = .ok (.invokevirtual 118, 3) := of_decide_eq_true (List.all_eq_true.mp dsX0_resultOf_0_ok (42, (.invokevirtual 118, 3)) (List.mem_of_getElem? (i := 28) rfl))
theorem dX0_resultOf_45 : decode cX0_resultOf 45 = .ok (.iastore, 1) := of_decide_eq_true (List.all_eq_true.mp dsX0_resultOf_0_ok (45, (.iastore, 1)) (List.mem_of_getElem? (i := 29) rfl))
theorem dX0_resultOf_46 : decode cX0_resultOf 46 = .ok (.iinc 2 1, 3) := of_decide_eq_true (List.all_eq_true.mp dsX0_resultOf_0_ok (46, (.iinc 2 1, 3)) (List.mem_of_getElem? (i := 30) rfl))
theorem dX0_resultOf_49 : decode cX0_resultOf 49 = .ok (.goto 151, 3) := of_decide_eq_true (List.all_eq_true.mp dsX0_resultOf_0_ok (49, (.goto 151, 3)) (List.mem_of_getElem? (i := 31) rfl))
theorem dX0_resultOf_52 : decode cX0_resultOf 52 = .ok (.iload 4, 2) := of_decide_eq_true (List.all_eq_true.mp dsX0_resultOf_0_ok (52, (.iload 4, 2)) (List.mem_of_getElem? (i := 32) rfl))
theorem dX0_resultOf_54 : decode cX0_resultOf 54 = .ok (.sipush 320, 3) := of_decide_eq_true (List.all_eq_true.mp dsX0_resultOf_0_ok (54, (.sipush 320, 3)) (List.mem_of_getElem? (i := 33) rfl))
theorem dX0_resultOf_57 : decode cX0_resultOf 57 = .ok (.if_icmp .ne 29, 3) := of_decide_eq_true (List.all_eq_true.mp dsX0_resultOf_0_ok (57, (.if_icmp .ne 29, 3)) (List.mem_of_getElem? (i := 34) rfl))
theorem dX0_resultOf_60 : decode cX0_resultOf 60 = .ok (.iload_n 2, 1) := of_decide_eq_true (List.all_eq_true.mp dsX0_resultOf_0_ok (60, (.iload_n 2, 1)) (List.mem_of_getElem? (i := 35) rfl))
theorem dX0_resultOf_61 : decode cX0_resultOf 61 = .ok (.iconst 1, 1) := of_decide_eq_true (List.all_eq_true.mp dsX0_resultOf_0_ok (61, (.iconst 1, 1)) (List.mem_of_getElem? (i := 36) rfl))
theorem dX0_resultOf_62 : decode cX0_resultOf 62 = .ok (.if_icmp .lt 24, 3) := of_decide_eq_true (List.all_eq_true.mp dsX0_resultOf_0_ok (62, (.if_icmp .lt 24, 3)) (List.mem_of_getElem? (i := 37) rfl))
theorem dX0_resultOf_65 : decode cX0_resultOf 65 = .ok (.aload_n 0, 1) := of_decide_eq_true (List.all_eq_true.mp dsX0_resultOf_0_ok (65, (.aload_n 0, 1)) (List.mem_of_getElem? (i := 38) rfl))
theorem dX0_resultOf_66 : decode cX0_resultOf 66 = .ok (.getfield 15, 3) := of_decide_eq_true (List.all_eq_true.mp dsX0_resultOf_0_ok (66, (.getfield 15, 3)) (List.mem_of_getElem? (i := 39) rfl))
theorem dX0_resultOf_69 : decode cX0_resultOf 69 = .ok (.iload_n 2, 1) := of_decide_eq_true (List.all_eq_true.mp dsX0_resultOf_0_ok (69, (.iload_n 2, 1)) (List.mem_of_getElem? (i := 40) rfl))
theorem dX0_resultOf_70 : decode cX0_resultOf 70 = .ok (.iconst 1, 1) := of_decide_eq_true (List.all_eq_true.mp dsX0_resultOf_0_ok (70, (.iconst 1, 1)) (List.mem_of_getElem? (i := 41) rfl))
theorem dX0_resultOf_71 : decode cX0_resultOf 71 = .ok (.isub, 1) := of_decide_eq_true (List.all_eq_true.mp dsX0_resultOf_0_ok (71, (.isub, 1)) (List.mem_of_getElem? (i := 42) rfl))
theorem dX0_resultOf_72 : decode cX0_resultOf 72 = .ok (.iconst 1, 1) := of_decide_eq_true (List.all_eq_true.mp dsX0_resultOf_0_ok (72, (.iconst 1, 1)) (List.mem_of_getElem? (i := 43) rfl))
theorem dX0_resultOf_73 : decode cX0_resultOf 73 = .ok (.aload_n 0, 1) := of_decide_eq_true (List.all_eq_true.mp dsX0_resultOf_0_ok (73, (.aload_n 0, 1)) (List.mem_of_getElem? (i := 44) rfl))
theorem dX0_resultOf_74 : decode cX0_resultOf 74 = .ok (.getfield 15, 3) := of_decide_eq_true (List.all_eq_true.mp dsX0_resultOf_0_ok (74, (.getfield 15, 3)) (List.mem_of_getElem? (i := 45) rfl))
theorem dX0_resultOf_77 : decode cX0_resultOf 77 = .ok (.iload_n 2, 1) := of_decide_eq_true (List.all_eq_true.mp dsX0_resultOf_0_ok (77, (.iload_n 2, 1)) (List.mem_of_getElem? (i := 46) rfl))
theorem dX0_resultOf_78 : decode cX0_resultOf 78 = .ok (.iconst 1, 1) := of_decide_eq_true (List.all_eq_true.mp dsX0_resultOf_0_ok (78, (.iconst 1, 1)) (List.mem_of_getElem? (i := 47) rfl))
theorem dX0_resultOf_79 : decode cX0_resultOf 79 = .ok (.isub, 1) := of_decide_eq_true (List.all_eq_true.mp dsX0_resultOf_0_ok (79, (.isub, 1)) (List.mem_of_getElem? (i := 48) rfl))
theorem dX0_resultOf_80 : decode cX0_resultOf 80 = .ok (.iaload, 1) := of_decide_eq_true (List.all_eq_true.mp dsX0_resultOf_0_ok (80, (.iaload, 1)) (List.mem_of_getElem? (i := 49) rfl))
theorem dX0_resultOf_81 : decode cX0_resultOf 81 = .ok (.isub, 1) := of_decide_eq_true (List.all_eq_true.mp dsX0_resultOf_0_ok (81, (.isub, 1)) (List.mem_of_getElem? (i := 50) rfl))
theorem dX0_resultOf_82 : decode cX0_resultOf 82 = .ok (.iastore, 1) := of_decide_eq_true (List.all_eq_true.mp dsX0_resultOf_0_ok (82, (.iastore, 1)) (List.mem_of_getElem? (i := 51) rfl))
theorem dX0_resultOf_83 : decode cX0_resultOf 83 = .ok (.goto 117, 3) := of_decide_eq_true (List.all_eq_true.mp dsX0_resultOf_0_ok (83, (.goto 117, 3)) (List.mem_of_getElem? (i := 52) rfl))
theorem dX0_resultOf_86 : decode cX0_resultOf 86 = .ok (.iload 4, 2) := of_decide_eq_true (List.all_eq_true.mp dsX0_resultOf_0_ok (86, (.iload 4, 2)) (List.mem_of_getElem? (i := 53) rfl))
theorem dX0_resultOf_88 : decode cX0_resultOf 88 = .ok (.sipush 317, 3) := of_decide_eq_true (List.all_eq_true.mp dsX0_resultOf_0_ok (88, (.sipush 317, 3)) (List.mem_of_getElem? (i := 54) rfl))
theorem dX0_resultOf_91 : decode cX0_resultOf 91 = .ok (.if_icmp .ne 50, 3) := of_decide_eq_true (List.all_eq_true.mp dsX0_resultOf_0_ok (91, (.if_icmp .ne 50, 3)) (List.mem_of_getElem? (i := 55) rfl))
theorem dX0_resultOf_94 : decode cX0_resultOf 94 = .ok (.iload_n 2, 1) := of_decide_eq_true (List.all_eq_true.mp dsX0_resultOf_0_ok (94, (.iload_n 2, 1)) (List.mem_of_getElem? (i := 56) rfl))
theorem dX0_resultOf_95 : decode cX0_resultOf 95 = .ok (.iconst 3, 1) := of_decide_eq_true (List.all_eq_true.mp dsX0_resultOf_0_ok (95, (.iconst 3, 1)) (List.mem_of_getElem? (i := 57) rfl))
theorem dX0_resultOf_96 : decode cX0_resultOf 96 = .ok (.if_icmp .lt 45, 3) := of_decide_eq_true (List.all_eq_true.mp dsX0_resultOf_0_ok (96, (.if_icmp .lt 45, 3)) (List.mem_of_getElem? (i := 58) rfl))
theorem dX0_resultOf_99 : decode cX0_resultOf 99 = .ok (.iinc 2 (-2), 3) := of_decide_eq_true (List.all_eq_true.mp dsX0_resultOf_0_ok (99, (.iinc 2 (-2), 3)) (List.mem_of_getElem? (i := 59) rfl))
def dsX0_resultOf_1 : List (Nat × Instr × Nat) := [(102, (.aload_n 0, 1)), (103, (.getfield 15, 3)), (106, (.iload_n 2, 1)), (107, (.iconst 1, 1)), (108, (.isub, 1)), (109, (.aload_n 0, 1)), (110, (.getfield 15, 3)), (113, (.iload_n 2, 1)), (114, (.iconst 1, 1)), (115, (.isub, 1)), (116, (.iaload, 1)), (117, (.ifCond .eq 12, 3)), (120, (.aload_n 0, 1)), (121, (.getfield 15, 3)), (124, (.iload_n 2, 1)), (125, (.iaload, 1)), (126, (.goto 11, 3)), (129, (.aload_n 0, 1)), (130, (.getfield 15, 3)), (133, (.iload_n 2, 1)), (134, (.iconst 1, 1)), (135, (.iadd, 1)), (136, (.iaload, 1)), (137, (.iastore, 1)), (138, (.goto 62, 3)), (141, (.iload 4, 2)), (143, (.ifCond .le 57, 3)), (146, (.iload_n 2, 1)), (147, (.iconst 2, 1)), (148, (.if_icmp .lt 52, 3)), (151, (.iinc 2 (-1), 3)), (154, (.iload 4, 2)), (156, (.aload_n 0, 1)), (157, (.getfield 15, 3)), (160, (.iload_n 2, 1)), (161, (.iconst 1, 1)), (162, (.isub, 1)), (163, (.iaload, 1)), (164, (.i2l, 1)), (165, (.aload_n 0, 1)), (166, (.getfield 15, 3)), (169, (.iload_n 2, 1)), (170, (.iaload, 1)), (171, (.i2l, 1)), (172, (.invokestatic 121, 3)), (175, (.lstore 5, 2)), (177, (.aload_n 0, 1)), (178, (.getfield 15, 3)), (181, (.iload_n 2, 1)), (182, (.iconst 1, 1)), (183, (.isub, 1)), (184, (.ldc2_w 125, 3)), (187, (.ldc2_w 127, 3)), (190, (.lload 5, 2)), (192, (.invokestatic 129, 3)), (195, (.invokestatic 132, 3)), (198, (.l2i, 1)), (199, (.iastore, 1)), (200, (.iinc 3 1, 3)), (203, (.goto (-199), 3))]
theorem dsX0_resultOf_1_ok : (dsX0_resultOf_1.all fun q => decide (decode cX0_resultOf q.1 = .ok q.2)) = true := by decide +kernel
theorem dX0_resultOf_102 : decode cX0_resultOf 102 = .ok (.aload_n 0, 1) := of_decide_eq_true (List.all_eq_true.mp dsX0_resultOf_1_ok (102, (.aload_n 0, 1)) (List.mem_of_getElem? (i := 0) rfl))
theorem dX0_resultOf_103 : decode cX0_resultOf 103 = .ok (.getfield 15, 3) := of_decide_eq_true (List.all_eq_true.mp dsX0_resultOf_1_ok (103, (.getfield 15, 3)) (List.mem_of_getElem? (i := 1) rfl))
theorem dX0_resultOf_106 : decode cX0_resultOf 106 = .ok (.iload_n 2, 1) := of_decide_eq_true (List.all_eq_true.mp dsX0_resultOf_1_ok (106, (.iload_n 2, 1)) (List.mem_of_getElem? (i := 2) rfl))
theorem dX0_resultOf_107 : decode cX0_resultOf 107 = .ok (.iconst 1, 1) := of_decide_eq_true (List.all_eq_true.mp dsX0_resultOf_1_ok (107, (.iconst 1, 1)) (List.mem_of_getElem? (i := 3) rfl))
theorem dX0_resultOf_108 : decode cX0_resultOf 108 = .ok (.isub, 1) := of_decide_eq_true (List.all_eq_true.mp dsX0_resultOf_1_ok (108, (.isub, 1)) (List.mem_of_getElem? (i := 4) rfl))
theorem dX0_resultOf_109 : decode cX0_resultOf 109 = .ok (.aload_n 0, 1) := of_decide_eq_true (List.all_eq_true.mp dsX0_resultOf_1_ok (109, (.aload_n 0, 1)) (List.mem_of_getElem? (i := 5) rfl))
theorem dX0_resultOf_110 : decode cX0_resultOf 110 = .ok (.getfield 15, 3) := of_decide_eq_true (List.all_eq_true.mp dsX0_resultOf_1_ok (110, (.getfield 15, 3)) (List.mem_of_getElem? (i := 6) rfl))
theorem dX0_resultOf_113 : decode cX0_resultOf 113 = .ok (.iload_n 2, 1) := of_decide_eq_true (List.all_eq_true.mp dsX0_resultOf_1_ok (113, (.iload_n 2, 1)) (List.mem_of_getElem? (i := 7) rfl))
theorem dX0_resultOf_114 : decode cX0_resultOf 114 = .ok (.iconst 1, 1) := of_decide_eq_true (List.all_eq_true.mp dsX0_resultOf_1_ok (114, (.iconst 1, 1)) (List.mem_of_getElem? (i := 8) rfl))
theorem dX0_resultOf_115 : decode cX0_resultOf 115 = .ok (.isub, 1) := of_decide_eq_true (List.all_eq_true.mp dsX0_resultOf_1_ok (115, (.isub, 1)) (List.mem_of_getElem? (i := 9) rfl))
theorem dX0_resultOf_116 : decode cX0_resultOf 116 = .ok (.iaload, 1) := of_decide_eq_true (List.all_eq_true.mp dsX0_resultOf_1_ok (116, (.iaload, 1)) (List.mem_of_getElem? (i := 10) rfl))
theorem dX0_resultOf_117 : decode cX0_resultOf 117 = .ok (.ifCond .eq 12, 3) := of_decide_eq_true (List.all_eq_true.mp dsX0_resultOf_1_ok (117, (.ifCond .eq 12, 3)) (List.mem_of_getElem? (i := 11) rfl))
theorem dX0_resultOf_120 : decode cX0_resultOf 120 = .ok (.aload_n 0, 1) := of_decide_eq_true (List.all_eq_true.mp dsX0_resultOf_1_ok (120, (.aload_n 0, 1)) (List.mem_of_getElem? (i := 12) rfl))
theorem dX0_resultOf_121 : decode cX0_resultOf 121 = .ok (.getfield 15, 3) := of_decide_eq_true (List.all_eq_true.mp dsX0_resultOf_1_ok (121, (.getfield 15, 3)) (List.mem_of_getElem? (i := 13) rfl))
theorem dX0_resultOf_124 : decode cX0_resultOf 124 = .ok (.iload_n 2, 1) := of_decide_eq_true (List.all_eq_true.mp dsX0_resultOf_1_ok (124, (.iload_n 2, 1)) (List.mem_of_getElem? (i := 14) rfl))
theorem dX0_resultOf_125 : decode cX0_resultOf 125 = .ok (.iaload, 1) := of_decide_eq_true (List.all_eq_true.mp dsX0_resultOf_1_ok (125, (.iaload, 1)) (List.mem_of_getElem? (i := 15) rfl))
theorem dX0_resultOf_126 : decode cX0_resultOf 126 = .ok (.goto 11, 3) := of_decide_eq_true (List.all_eq_true.mp dsX0_resultOf_1_ok (126, (.goto 11, 3)) (List.mem_of_getElem? (i := 16) rfl))
theorem dX0_resultOf_129 : decode cX0_resultOf 129 = .ok (.aload_n 0, 1) := of_decide_eq_true (List.all_eq_true.mp dsX0_resultOf_1_ok (129, (.aload_n 0, 1)) (List.mem_of_getElem? (i := 17) rfl))
theorem dX0_resultOf_130 : decode cX0_resultOf 130 = .ok (.getfield 15, 3) := of_decide_eq_true (List.all_eq_true.mp dsX0_resultOf_1_ok (130, (.getfield 15, 3)) (List.mem_of_getElem? (i := 18) rfl))
theorem dX0_resultOf_133 : decode cX0_resultOf 133 = .ok (.iload_n 2, 1) := of_decide_eq_true (List.all_eq_true.mp dsX0_resultOf_1_ok (133, (.iload_n 2, 1)) (List.mem_of_getElem? (i := 19) rfl))
theorem dX0_resultOf_134 : decode cX0_resultOf 134 = .ok (.iconst 1, 1) := of_decide_eq_true (List.all_eq_true.mp dsX0_resultOf_1_ok (134, (.iconst 1, 1)) (List.mem_of_getElem? (i := 20) rfl))
theorem dX0_resultOf_135 : decode cX0_resultOf 135 = .ok (.iadd, 1) := of_decide_eq_true (List.all_eq_true.mp dsX0_resultOf_1_ok (135, (.iadd, 1)) (List.mem_of_getElem? (i := 21) rfl))
theorem dX0_resultOf_136 : decode cX0_resultOf 136 = .ok (.iaload, 1) := of_decide_eq_true (List.all_eq_true.mp dsX0_resultOf_1_ok (136, (.iaload, 1)) (List.mem_of_getElem? (i := 22) rfl))
theorem dX0_resultOf_137 : decode cX0_resultOf 137 = .ok (.iastore, 1) := of_decide_eq_true (List.all_eq_true.mp dsX0_resultOf_1_ok (137, (.iastore, 1)) (List.mem_of_getElem? (i := 23) rfl))
theorem dX0_resultOf_138 : decode cX0_resultOf 138 = .ok (.goto 62, 3) := of_decide_eq_true (List.all_eq_true.mp dsX0_resultOf_1_ok (138, (.goto 62, 3)) (List.mem_of_getElem? (i := 24) rfl))
theorem dX0_resultOf_141 : decode cX0_resultOf 141 = .ok (.iload 4, 2) := of_decide_eq_true (List.all_eq_true.mp dsX0_resultOf_1_ok (141, (.iload 4, 2)) (List.mem_of_getElem? (i := 25) rfl))
theorem dX0_resultOf_143 : decode cX0_resultOf 143 = .ok (.ifCond .le 57, 3) := of_decide_eq_true (List.all_eq_true.mp dsX0_resultOf_1_ok (143, (.ifCond .le 57, 3)) (List.mem_of_getElem? (i := 26) rfl))
theorem dX0_resultOf_146 : decode cX0_resultOf 146 = .ok (.iload_n 2, 1) := of_decide_eq_true (List.all_eq_true.mp dsX0_resultOf_1_ok (146, (.iload_n 2, 1)) (List.mem_of_getElem? (i := 27) rfl))
theorem dX0_resultOf_147 : decode cX0_resultOf 147 = .ok (.iconst 2, 1) := of_decide_eq_true (List.all_eq_true.mp dsX0_resultOf_1_ok (147, (.iconst 2, 1)) (List.mem_of_getElem? (i := 28) rfl))
theorem dX0_resultOf_148 : decode cX0_resultOf 148 = .ok (.if_icmp .lt 52, 3) := of_decide_eq_true (List.all_eq_true.mp dsX0_resultOf_1_ok (148, (.if_icmp .lt 52, 3)) (List.mem_of_getElem? (i := 29) rfl))
theorem dX0_resultOf_151 : decode cX0_resultOf 151 = .ok (.iinc 2 (-1), 3) := of_decide_eq_true (List.all_eq_true.mp dsX0_resultOf_1_ok (151, (.iinc 2 (-1), 3)) (List.mem_of_getElem? (i := 30) rfl))
theorem dX0_resultOf_154 : decode cX0_resultOf 154 = .ok (.iload 4, 2) := of_decide_eq_true (List.all_eq_true.mp dsX0_resultOf_1_ok (154, (.iload 4, 2)) (List.mem_of_getElem? (i := 31) rfl))
theorem dX0_resultOf_156 : decode cX0_resultOf 156 = .ok (.aload_n 0, 1) := of_decide_eq_true (List.all_eq_true.mp dsX0_resultOf_1_ok (156, (.aload_n 0, 1)) (List.mem_of_getElem? (i := 32) rfl))
theorem dX0_resultOf_157 : decode cX0_resultOf 157 = .ok (.getfield 15, 3) := of_decide_eq_true (List.all_eq_true.mp dsX0_resultOf_1_ok (157, (.getfield 15, 3)) (List.mem_of_getElem? (i := 33) rfl))
theorem dX0_resultOf_160 : decode cX0_resultOf 160 = .ok (.iload_n 2, 1) := of_decide_eq_true (List.all_eq_true.mp dsX0_resultOf_1_ok (160, (.iload_n 2, 1)) (List.mem_of_getElem? (i := 34) rfl))
theorem dX0_resultOf_161 : decode cX0_resultOf 161 = .ok (.iconst 1, 1) := of_decide_eq_true (List.all_eq_true.mp dsX0_resultOf_1_ok (161, (.iconst 1, 1)) (List.mem_of_getElem? (i := 35) rfl))
theorem dX0_resultOf_162 : decode cX0_resultOf 162 = .ok (.isub, 1) := of_decide_eq_true (List.all_eq_true.mp dsX0_resultOf_1_ok (162, (.isub, 1)) (List.mem_of_getElem? (i := 36) rfl))
theorem dX0_resultOf_163 : decode cX0_resultOf 163 = .ok (.iaload, 1) := of_decide_eq_true (List.all_eq_true.mp dsX0_resultOf_1_ok (163, (.iaload, 1)) (List.mem_of_getElem? (i := 37) rfl))
theorem dX0_resultOf_164 : decode cX0_resultOf 164 = .ok (.i2l, 1) := of_decide_eq_true (List.all_eq_true.mp dsX0_resultOf_1_ok (164, (.i2l, 1)) (List.mem_of_getElem? (i := 38) rfl))
theorem dX0_resultOf_165 : decode cX0_resultOf 165 = .ok (.aload_n 0, 1) := of_decide_eq_true (List.all_eq_true.mp dsX0_resultOf_1_ok (165, (.aload_n 0, 1)) (List.mem_of_getElem? (i := 39) rfl))
theorem dX0_resultOf_166 : decode cX0_resultOf 166 = .ok (.getfield 15, 3) := of_decide_eq_true (List.all_eq_true.mp dsX0_resultOf_1_ok (166, (.getfield 15, 3)) (List.mem_of_getElem? (i := 40) rfl))
theorem dX0_resultOf_169 : decode cX0_resultOf 169 = .ok (.iload_n 2, 1) := of_decide_eq_true (List.all_eq_true.mp dsX0_resultOf_1_ok (169, (.iload_n 2, 1)) (List.mem_of_getElem? (i := 41) rfl))
theorem dX0_resultOf_170 : decode cX0_resultOf 170 = .ok (.iaload, 1) := of_decide_eq_true (List.all_eq_true.mp dsX0_resultOf_1_ok (170, (.iaload, 1)) (List.mem_of_getElem? (i := 42) rfl))
theorem dX0_resultOf_171 : decode cX0_resultOf 171 = .ok (.i2l, 1) := of_decide_eq_true (List.all_eq_true.mp dsX0_resultOf_1_ok (171, (.i2l, 1)) (List.mem_of_getElem? (i := 43) rfl))
theorem dX0_resultOf_172 : decode cX0_resultOf 172 = .ok (.invokestatic 121, 3) := of_decide_eq_true (List.all_eq_true.mp dsX0_resultOf_1_ok (172, (.invokestatic 121, 3)) (List.mem_of_getElem? (i := 44) rfl))
theorem dX0_resultOf_175 : decode cX0_resultOf 175 = .ok (.lstore 5, 2) := of_decide_eq_true (List.all_eq_true.mp dsX0_resultOf_1_ok (175, (.lstore 5, 2)) (List.mem_of_getElem? (i := 45) rfl))
theorem dX0_resultOf_177 : decode cX0_resultOf 177 = .ok (.aload_n 0, 1) := of_decide_eq_true (List.all_eq_true.mp dsX0_resultOf_1_ok (177, (.aload_n 0, 1)) (List.mem_of_getElem? (i := 46) rfl))
theorem dX0_resultOf_178 : decode cX0_resultOf 178 = .ok (.getfield 15, 3) := of_decide_eq_true (List.all_eq_true.mp dsX0_resultOf_1_ok (178, (.getfield 15, 3)) (List.mem_of_getElem? (i := 47) rfl))
theorem dX0_resultOf_181 : decode cX0_resultOf 181 = .ok (.iload_n 2, 1) := of_decide_eq_true (List.all_eq_true.mp dsX0_resultOf_1_ok (181, (.iload_n 2, 1)) (List.mem_of_getElem? (i := 48) rfl))
theorem dX0_resultOf_182 : decode cX0_resultOf 182 = .ok (.iconst 1, 1) := of_decide_eq_true (List.all_eq_true.mp dsX0_resultOf_1_ok (182, (.iconst 1, 1)) (List.mem_of_getElem? (i := 49) rfl))
theorem dX0_resultOf_183 : decode cX0_resultOf 183 = .ok (.isub, 1) := of_decide_eq_true (List.all_eq_true.mp dsX0_resultOf_1_ok (183, (.isub, 1)) (List.mem_of_getElem? (i := 50) rfl))
theorem dX0_resultOf_184 : decode cX0_resultOf 184 = .ok (.ldc2_w 125, 3) := of_decide_eq_true (List.all_eq_true.mp dsX0_resultOf_1_ok (184, (.ldc2_w 125, 3)) (List.mem_of_getElem? (i := 51) rfl))
theorem dX0_resultOf_187 : decode cX0_resultOf 187 = .ok (.ldc2_w 127, 3) := of_decide_eq_true (List.all_eq_true.mp dsX0_resultOf_1_ok (187, (.ldc2_w 127, 3)) (List.mem_of_getElem? (i := 52) rfl))
theorem dX0_resultOf_190 : decode cX0_resultOf 190 = .ok (.lload 5, 2) := of_decide_eq_true (List.all_eq_true.mp dsX0_resultOf_1_ok (190, (.lload 5, 2)) (List.mem_of_getElem? (i := 53) rfl))
theorem dX0_resultOf_192 : decode cX0_resultOf 192 = .ok (.invokestatic 129, 3) := of_decide_eq_true (List.all_eq_true.mp dsX0_resultOf_1_ok (192, (.invokestatic 129, 3)) (List.mem_of_getElem? (i := 54) rfl))
theorem dX0_resultOf_195 : decode cX0_resultOf 195 = .ok (.invokestatic 132, 3) := of_decide_eq_true (List.all_eq_true.mp dsX0_resultOf_1_ok (195, (.invokestatic 132, 3)) (List.mem_of_getElem? (i := 55) rfl))
theorem dX0_resultOf_198 : decode cX0_resultOf 198 = .ok (.l2i, 1) := of_decide_eq_true (List.all_eq_true.mp dsX0_resultOf_1_ok (198, (.l2i, 1)) (List.mem_of_getElem? (i := 56) rfl))
theorem dX0_resultOf_199 : decode cX0_resultOf 199 = .ok (.iastore, 1) := of_decide_eq_true (List.all_eq_true.mp dsX0_resultOf_1_ok (199, (.iastore, 1)) (List.mem_of_getElem? (i := 57) rfl))
theorem dX0_resultOf_200 : decode cX0_resultOf 200 = .ok (.iinc 3 1, 3) := of_decide_eq_true (List.all_eq_true.mp dsX0_resultOf_1_ok (200, (.iinc 3 1, 3)) (List.mem_of_getElem? (i := 58) rfl))
theorem dX0_resultOf_203 : decode cX0_resultOf 203 = .ok (.goto (-199), 3) := of_decide_eq_true (List.all_eq_true.mp dsX0_resultOf_1_ok (203, (.goto (-199), 3)) (List.mem_of_getElem? (i := 59) rfl))
def dsX0_resultOf_2 : List (Nat × Instr × Nat) := [(206, (.aload_n 0, 1)), (207, (.getfield 15, 3)), (210, (.iconst 0, 1)), (211, (.iaload, 1)), (212, (.ireturn, 1))]
theorem dsX0_resultOf_2_ok : (dsX0_resultOf_2.all fun q => decide (decode cX0_resultOf q.1 = .ok q.2)) = true := by decide +kernel
theorem dX0_resultOf_206 : decode cX0_resultOf 206 = .ok (.aload_n 0, 1) := of_decide_eq_true (List.all_eq_true.mp dsX0_resultOf_2_ok (206, (.aload_n 0, 1)) (List.mem_of_getElem? (i := 0) rfl))
theorem dX0_resultOf_207 : decode cX0_resultOf 207 = .ok (.getfield 15, 3) := of_decide_eq_true (List.all_eq_true.mp dsX0_resultOf_2_ok (207, (.getfield 15, 3)) (List.mem_of_getElem? (i := 1) rfl))
theorem dX0_resultOf_210 : decode cX0_resultOf 210 = .ok (.iconst 0, 1) := of_decide_eq_true (List.all_eq_true.mp dsX0_resultOf_2_ok (210, (.iconst 0, 1)) (List.mem_of_getElem? (i := 2) rfl))
theorem dX0_resultOf_211 : decode cX0_resultOf 211 = .ok (.iaload, 1) := of_decide_eq_true (List.all_eq_true.mp dsX0_resultOf_2_ok (211, (.iaload, 1)) (List.mem_of_getElem? (i := 3) rfl))
theorem dX0_resultOf_212 : decode cX0_resultOf 212 = .ok (.ireturn, 1) := of_decide_eq_true (List.all_eq_true.mp dsX0_resultOf_2_ok (212, (.ireturn, 1)) (List.mem_of_getElem? (i := 4) rfl))
def fX0_resultOf_b200 (N : Nat) (ar1F : Nat → Int32) (co_valuesF : Nat → Int32) (ar1N : Nat) (k4 : ((Nat → Int32) × Int32 × Int32) → Option (Int32 × (Nat → Int32))) : ((Nat → Int32) × Int32 × Int32) → Option (Int32 × (Nat → Int32)) :=
  fun (co_stackF_200, x2_200, x3_200) => k4 (co_stackF_200, x2_200, x3_200 + 1)
def fX0_resultOf_b141 (N : Nat) (ar1F : Nat → Int32) (co_valuesF : Nat → Int32) (ar1N : Nat) (k4 : ((Nat → Int32) × Int32 × Int32) → Option (Int32 × (Nat → Int32))) : ((Nat → Int32) × Int32 × Int32 × Int32) → Option (Int32 × (Nat → Int32)) :=
  fun (co_stackF_141, x2_141, x3_141, x4_141) => (if x4_141 ≤ 0 then fX0_resultOf_b200 N ar1F co_valuesF ar1N k4 (co_stackF_141, x2_141, x3_141) else (if x2_141 < 2 then fX0_resultOf_b200 N ar1F co_valuesF ar1N k4 (co_stackF_141, x2_141, x3_141) else (xq_bd (xq_ald 64 co_stackF_141 ((x2_141 + (-1)) - 1)) fun v_1 => (xq_bd (xq_ald 64 co_stackF_141 (x2_141 + (-1))) fun v_2 => (xq_bd (fX0_operate N x4_141 v_1.toInt64 v_2.toInt64) fun r_3 => (xq_bd (xq_ast 64 co_stackF_141 ((x2_141 + (-1)) - 1) ((xq_maxL ((-1000000)) (xq_minL 1000000 r_3)).toInt32)) fun g_5 => fX0_resultOf_b200 N ar1F co_valuesF ar1N k4 (g_5, x2_141 + (-1), x3_141)))))))
def fX0_resultOf_b137 (N : Nat) (ar1F : Nat → Int32) (co_valuesF : Nat → Int32) (ar1N : Nat) (k4 : ((Nat → Int32) × Int32 × Int32) → Option (Int32 × (Nat → Int32))) : ((Nat → Int32) × Int32 × Int32 × Int32 × Int32) → Option (Int32 × (Nat → Int32)) :=
  fun (co_stackF_137, x2_137, x3_137, y1_137, y2_137) => (xq_bd (xq_ast 64 co_stackF_137 y1_137 y2_137) fun g_6 => fX0_resultOf_b200 N ar1F co_valuesF ar1N k4 (g_6, x2_137, x3_137))
def fX0_resultOf_b86 (N : Nat) (ar1F : Nat → Int32) (co_valuesF : Nat → Int32) (ar1N : Nat) (k4 : ((Nat → Int32) × Int32 × Int32) → Option (Int32 × (Nat → Int32))) : ((Nat → Int32) × Int32 × Int32 × Int32) → Option (Int32 × (Nat → Int32)) :=
  fun (co_stackF_86, x2_86, x3_86, x4_86) => (if x4_86 = 317 then (if x2_86 < 3 then fX0_resultOf_b141 N ar1F co_valuesF ar1N k4 (co_stackF_86, x2_86, x3_86, x4_86) else (xq_bd (xq_ald 64 co_stackF_86 ((x2_86 + (-2)) - 1)) fun v_7 => (if v_7 = 0 then (xq_bd (xq_ald 64 co_stackF_86 ((x2_86 + (-2)) + 1)) fun v_8 => fX0_resultOf_b137 N ar1F co_valuesF ar1N k4 (co_stackF_86, x2_86 + (-2), x3_86, (x2_86 + (-2)) - 1, v_8)) else (xq_bd (xq_ald 64 co_stackF_86 (x2_86 + (-2))) fun v_9 => fX0_resultOf_b137 N ar1F co_valuesF ar1N k4 (co_stackF_86, x2_86 + (-2), x3_86, (x2_86 + (-2)) - 1, v_9))))) else fX0_resultOf_b141 N ar1F co_valuesF ar1N k4 (co_stackF_86, x2_86, x3_86, x4_86))
def fX0_resultOf_b52 (N : Nat) (ar1F : Nat → Int32) (co_valuesF : Nat → Int32) (ar1N : Nat) (k4 : ((Nat → Int32) × Int32 × Int32) → Option (Int32 × (Nat → Int32))) : ((Nat → Int32) × Int32 × Int32 × Int32) → Option (Int32 × (Nat → Int32)) :=
  fun (co_stackF_52, x2_52, x3_52, x4_52) => (if x4_52 = 320 then (if x2_52 < 1 then fX0_resultOf_b86 N ar1F co_valuesF ar1N k4 (co_stackF_52, x2_52, x3_52, x4_52) else (xq_bd (xq_ald 64 co_stackF_52 (x2_52 - 1)) fun v_10 => (xq_bd (xq_ast 64 co_stackF_52 (x2_52 - 1) (1 - v_10)) fun g_11 => fX0_resultOf_b200 N ar1F co_valuesF ar1N k4 (g_11, x2_52, x3_52)))) else fX0_resultOf_b86 N ar1F co_valuesF ar1N k4 (co_stackF_52, x2_52, x3_52, x4_52))
def fX0_resultOf_l4 (N : Nat) (ar1F : Nat → Int32) (co_valuesF : Nat → Int32) (ar1N : Nat) (k4 : ((Nat → Int32) × Int32 × Int32) → Option (Int32 × (Nat → Int32))) : ((Nat → Int32) × Int32 × Int32) → Option (Int32 × (Nat → Int32)) :=
  fun (co_stackF_4, x2_4, x3_4) => (if (nI ar1N) ≤ x3_4 then (xq_bd (xq_ald 64 co_stackF_4 0) fun v_12 => some ((v_12, co_stackF_4))) else (xq_bd (xq_ald ar1N ar1F x3_4) fun v_13 => (if 0 ≤ (v_13 - 20000) then fX0_resultOf_b52 N ar1F co_valuesF ar1N k4 (co_stackF_4, x2_4, x3_4, v_13 - 20000) else (if 64 ≤ x2_4 then fX0_resultOf_b52 N ar1F co_valuesF ar1N k4 (co_stackF_4, x2_4, x3_4, v_13 - 20000) else (xq_bd (xq_ald ar1N ar1F x3_4) fun v_14 => (xq_bd (fX0_valueOf N co_valuesF v_14) fun r_15 => (xq_bd (xq_ast 64 co_stackF_4 x2_4 r_15) fun g_17 => fX0_resultOf_b200 N ar1F co_valuesF ar1N k4 (g_17, x2_4 + 1, x3_4))))))))
def fX0_resultOf (N : Nat) (ar1F : Nat → Int32) (co_stackF : Nat → Int32) (co_valuesF : Nat → Int32) (ar1N : Nat)  : Option (Int32 × (Nat → Int32)) :=
  xq_loop (fX0_resultOf_l4 N ar1F co_valuesF ar1N) N (co_stackF, 0, 0)
set_option maxHeartbeats 4000000 in
set_option maxRecDepth 100000 in
theorem kX0_resultOf (l : Launch) (dC : Nat → ClassId) (dI : Nat → Nat → Nat) (cI cB cJ cZ cM : ClassId) (z : Nat) (ad : Nat → Nat) (N : Nat) (a_p1 : Nat) (ar1F : Nat → Int32) (ar1N : Nat) (a_p0 : Nat) (coI : Nat → Int32) (coR : Nat → Nat) (co_stackF : Nat → Int32) (co_valuesF : Nat → Int32) {r0 : Int32} {r1 : Nat → Int32} (hf : fX0_resultOf N ar1F co_stackF co_valuesF ar1N = some (r0, r1)) : xq_Ct l yX0_resultOf wsX0_resultOf { frames := 2, cells := 0, slots := 0, locals := 49 } (dC, dI) vwCl (xq_tys cI cB cJ cZ cM) z ad [.ref a_p0, .ref a_p1] [(a_p1, .inl (cI, ar1N, .inl ar1F)), (a_p0, .inr (0, oX0 coI coR)), ((coR 2), .inl (cI, 64, .inl co_stackF)), ((coR 1), .inl (cI, 24, .inl co_valuesF))] [(a_p1, .inl (cI, ar1N, .inl ar1F)), (a_p0, .inr (0, oX0 coI coR)), ((coR 2), .inl (cI, 64, .inl r1)), ((coR 1), .inl (cI, 24, .inl co_valuesF))] (some (.int r0)) := by
  intro sz
  refine Met.ofW (cc := cX0_resultOf) (maxL := 7) (ret := (some .int)) (by decide) rfl ?_
  intro p e s m args below meth c s₁ B hml hv
  obtain ⟨rfl, hsz, hP, hK, hD0, hE, hz⟩ := hv
  have hx := B.exec
  have hb := B.bytes
  have hr := B.returns
  have hts := atoms_spec (ws := wsX0_resultOf) B.pre
  have hown : s.vm.findClass RX0 = some m.cls := findClass_of_methodNamed B.named
  have hlocks := B.notSynchronized
  subst hsz
  have hD := hD0.self (sz := s.heap.size)
  have hN := xq_Env.of hE hz hD0
  generalize hAe : va_A [(a_p1, .inl (cI, ar1N, .inl ar1F)), (a_p0, .inr (0, oX0 coI coR)), ((coR 2), .inl (cI, 64, .inl co_stackF)), ((coR 1), .inl (cI, 24, .inl co_valuesF))] s.heap.size = A at hD hN ⊢
  have hA : ∀ q : Nat, s.heap.size ≤ q → A q := fun q h => by rw [← hAe]; exact Or.inr h
  clear hAe hD0
  have hS : va_S A s.heap s.heap [] := va_S.rf
  have hl := lv_entry ([.ref a_p0, .ref a_p1]) (n := 7) (Nat.le_of_ble_eq_true rfl)
  rw [lg_entry_eq]
  generalize (lg_sl ([.ref a_p0, .ref a_p1]) ++ List.replicate (7 - (lg_sl ([.ref a_p0, .ref a_p1])).length) Slot.unset).toArray = ls at hl ⊢
  have hl : lv_has ls 7 [(0, .ref a_p0), (1, .ref a_p1)] := hl
  have hw0 := hts (.fieldLink RX0 15 "DistantVoice$Course" "stack" "[I") (by decide +kernel)
  have hinX0 : ∀ w ∈ wsX00, w ∈ wsX0_resultOf := fun w h => List.mem_cons_of_mem _ (List.mem_append_right _ h)
  have hw2 := hts (.constantLong RX0 125 (-1000000)) (by decide +kernel)
  have hw3 := hts (.constantLong RX0 127 (1000000)) (by decide +kernel)
  have hw4 := hts (.methodLink RX0 129 Lib.MathLoose.min_long.x) (by decide +kernel)
  have hw5 := hts (.static Lib.MathLoose.min_long.x) (by decide +kernel)
  have hw6 := hts (.initialized "java/lang/Math") (by decide +kernel)
  have hw7 := hts (.code Lib.MathLoose.min_long.x Lib.MathLoose.min_long.code 4 (some .long)) (by decide +kernel)
  have hw8 := hts (.methodLink RX0 132 Lib.MathLoose.max_long.x) (by decide +kernel)
  have hw9 := hts (.static Lib.MathLoose.max_long.x) (by decide +kernel)
  have hw10 := hts (.code Lib.MathLoose.max_long.x Lib.MathLoose.max_long.code 4 (some .long)) (by decide +kernel)
  have l4 : ∀ n4 : Nat, ∀ (co_stackF_4 : Nat → Int32) (x2_4 : Int32) (x3_4 : Int32) (ls : Array Slot) (H : Heap) (locs : List Loc), xq_loop (fX0_resultOf_l4 N ar1F co_valuesF ar1N) n4 (co_stackF_4, x2_4, x3_4) = some (r0, r1) → va_P (dC, dI) vwCl [(a_p1, .inl (cI, ar1N, .inl ar1F)), (a_p0, .inr (0, oX0 coI coR)), ((coR 2), .inl (cI, 64, .inl co_stackF_4)), ((coR 1), .inl (cI, 24, .inl co_valuesF))] H → va_D A [(a_p1, .inl (cI, ar1N, .inl ar1F)), (a_p0, .inr (0, oX0 coI coR)), ((coR 2), .inl (cI, 64, .inl co_stackF_4)), ((coR 1), .inl (cI, 24, .inl co_valuesF))] → va_S A s.heap H locs → lv_has ls 7 [(0, .ref a_p0), (1, .ref a_p1), (2, .int x2_4), (3, .int x3_4)] → W p l e (headSpec wsX0_resultOf { frames := 2, cells := 0, slots := 0, locals := 49 }).room s m [.ref a_p0, .ref a_p1].toArray below meth c H locs 0 0 (MQ below (xq_Q (dC, dI) vwCl (xq_tys cI cB cJ cZ cM) A [(a_p1, .inl (cI, ar1N, .inl ar1F)), (a_p0, .inr (0, oX0 coI coR)), ((coR 2), .inl (cI, 64, .inl r1)), ((coR 1), .inl (cI, 24, .inl co_valuesF))] (some (.int r0))) [.ref a_p0, .ref a_p1].toArray s 0 0 A) (F0 m 4 ls []) := by
    intro n4
    induction n4 with
    | zero => intro co_stackF_4 x2_4 x3_4 ls H locs hf; cases (show none = some (r0, r1) from hf)
    | succ n4 ih4 =>
      have b200 : ∀ (co_stackF_200 : Nat → Int32) (x2_200 : Int32) (x3_200 : Int32) (ls : Array Slot) (H : Heap) (locs : List Loc), fX0_resultOf_b200 N ar1F co_valuesF ar1N (xq_loop (fX0_resultOf_l4 N ar1F co_valuesF ar1N) n4) (co_stackF_200, x2_200, x3_200) = some (r0, r1) → va_P (dC, dI) vwCl [(a_p1, .inl (cI, ar1N, .inl ar1F)), (a_p0, .inr (0, oX0 coI coR)), ((coR 2), .inl (cI, 64, .inl co_stackF_200)), ((coR 1), .inl (cI, 24, .inl co_valuesF))] H → va_D A [(a_p1, .inl (cI, ar1N, .inl ar1F)), (a_p0, .inr (0, oX0 coI coR)), ((coR 2), .inl (cI, 64, .inl co_stackF_200)), ((coR 1), .inl (cI, 24, .inl co_valuesF))] → va_S A s.heap H locs → lv_has ls 7 [(0, .ref a_p0), (1, .ref a_p1), (2, .int x2_200), (3, .int x3_200)] → W p l e (headSpec wsX0_resultOf { frames := 2, cells := 0, slots := 0, locals := 49 }).room s m [.ref a_p0, .ref a_p1].toArray below meth c H locs 0 0 (MQ below (xq_Q (dC, dI) vwCl (xq_tys cI cB cJ cZ cM) A [(a_p1, .inl (cI, ar1N, .inl ar1F)), (a_p0, .inr (0, oX0 coI coR)), ((coR 2), .inl (cI, 64, .inl r1)), ((coR 1), .inl (cI, 24, .inl co_valuesF))] (some (.int r0))) [.ref a_p0, .ref a_p1].toArray s 0 0 A) (F0 m 200 ls []) := by
        intro co_stackF_200 x2_200 x3_200 ls H locs hf hP hD hS hl
        unfold fX0_resultOf_b200 at hf
        refine lv_iinc (v := x3_200 + 1) (lv' := [(3, .int (x3_200 + 1)), (0, .ref a_p0), (1, .ref a_p1), (2, .int x2_200)]) hx hb dX0_resultOf_200 hl (k := 3) rfl (congrArg (fun q9 => x3_200 + q9) (by decide : Int32.ofInt 1 = 1)) (by decide) rfl (fun ls hl => ?_)
        refine lv_goto (tgt := 4) hx hb dX0_resultOf_203 (by decide) ?_
        exact ih4 co_stackF_200 x2_200 (x3_200 + 1) _ _ _ hf hP hD hS (lv_sub hl [1, 2, 3, 0] rfl)
      have b141 : ∀ (co_stackF_141 : Nat → Int32) (x2_141 : Int32) (x3_141 : Int32) (x4_141 : Int32) (ls : Array Slot) (H : Heap) (locs : List Loc), fX0_resultOf_b141 N ar1F co_valuesF ar1N (xq_loop (fX0_resultOf_l4 N ar1F co_valuesF ar1N) n4) (co_stackF_141, x2_141, x3_141, x4_141) = some (r0, r1) → va_P (dC, dI) vwCl [(a_p1, .inl (cI, ar1N, .inl ar1F)), (a_p0, .inr (0, oX0 coI coR)), ((coR 2), .inl (cI, 64, .inl co_stackF_141)), ((coR 1), .inl (cI, 24, .inl co_valuesF))] H → va_D A [(a_p1, .inl (cI, ar1N, .inl ar1F)), (a_p0, .inr (0, oX0 coI coR)), ((coR 2), .inl (cI, 64, .inl co_stackF_141)), ((coR 1), .inl (cI, 24, .inl co_valuesF))] → va_S A s.heap H locs → lv_has ls 7 [(0, .ref a_p0), (1, .ref a_p1), (2, .int x2_141), (3, .int x3_141), (4, .int x4_141)] → W p l e (headSpec wsX0_resultOf { frames := 2, cells := 0, slots := 0, locals := 49 }).room s m [.ref a_p0, .ref a_p1].toArray below meth c H locs 0 0 (MQ below (xq_Q (dC, dI) vwCl (xq_tys cI cB cJ cZ cM) A [(a_p1, .inl (cI, ar1N, .inl ar1F)), (a_p0, .inr (0, oX0 coI coR)), ((coR 2), .inl (cI, 64, .inl r1)), ((coR 1), .inl (cI, 24, .inl co_valuesF))] (some (.int r0))) [.ref a_p0, .ref a_p1].toArray s 0 0 A) (F0 m 141 ls []) := by
        intro co_stackF_141 x2_141 x3_141 x4_141 ls H locs hf hP hD hS hl
        unfold fX0_resultOf_b141 at hf
        refine lv_iload hx hb dX0_resultOf_141 (lv_at hl 4 rfl) ?_
        refine lv_if_le (tgt := 200) hx hb dX0_resultOf_143 (by decide) (fun c_ => ?_) (fun c_ => ?_)
        · have hf := xq_pos hf c_
          exact b200 co_stackF_141 x2_141 x3_141 _ _ _ hf hP hD hS (lv_sub hl [0, 1, 2, 3] rfl)
        · have hf := xq_neg hf c_
          refine lv_iload_n hx hb dX0_resultOf_146 rfl (lv_at hl 2 rfl) ?_
          refine lv_iconst (v := 2) hx hb dX0_resultOf_147 (by decide) ?_
          refine lv_icmp_lt (tgt := 200) hx hb dX0_resultOf_148 (by decide) (fun c_ => ?_) (fun c_ => ?_)
          · have hf := xq_pos hf c_
            exact b200 co_stackF_141 x2_141 x3_141 _ _ _ hf hP hD hS (lv_sub hl [0, 1, 2, 3] rfl)
          · have hf := xq_neg hf c_
            refine lv_iinc (v := x2_141 + (-1)) (lv' := [(2, .int (x2_141 + (-1))), (0, .ref a_p0), (1, .ref a_p1), (3, .int x3_141), (4, .int x4_141)]) hx hb dX0_resultOf_151 hl (k := 2) rfl (congrArg (fun q9 => x2_141 + q9) (by decide : Int32.ofInt (-1) = (-1))) (by decide) rfl (fun ls hl => ?_)
            refine lv_iload hx hb dX0_resultOf_154 (lv_at hl 4 rfl) ?_
            refine lv_aload_n hx hb dX0_resultOf_156 rfl (lv_at hl 1 rfl) ?_
            refine va_get (D := (dC, dI)) (ci := 0) (v := .ref ((coR 2))) (C := RX0) (T := TX0) (N := 3) hx hb hts hinX0 hown hK hP 1 rfl rfl 2 (by decide) hw0 (fun _ h9 => h9) rfl dX0_resultOf_157 ?_
            refine lv_iload_n hx hb dX0_resultOf_160 rfl (lv_at hl 0 rfl) ?_
            refine lv_iconst (v := 1) hx hb dX0_resultOf_161 (by decide) ?_
            refine lv_isub hx hb dX0_resultOf_162 ?_
            refine xq_iald hx hb hK hP 2 0 rfl rfl hf dX0_resultOf_163 (fun v_1 hf => ?_)
            refine lv_i2l (v := v_1.toInt64) hx hb dX0_resultOf_164 rfl ?_
            refine lv_aload_n hx hb dX0_resultOf_165 rfl (lv_at hl 1 rfl) ?_
            refine va_get (D := (dC, dI)) (ci := 0) (v := .ref ((coR 2))) (C := RX0) (T := TX0) (N := 3) hx hb hts hinX0 hown hK hP 1 rfl rfl 2 (by decide) hw0 (fun _ h9 => h9) rfl dX0_resultOf_166 ?_
            refine lv_iload_n hx hb dX0_resultOf_169 rfl (lv_at hl 0 rfl) ?_
            refine xq_iald hx hb hK hP 2 0 rfl rfl hf dX0_resultOf_170 (fun v_2 hf => ?_)
            refine lv_i2l (v := v_2.toInt64) hx hb dX0_resultOf_171 rfl ?_
            obtain ⟨r_3, h_4, hf⟩ := xq_bd_some hf
            refine xq_callS (As := [.int x4_141, .long v_1.toInt64, .long v_2.toInt64]) (rest := []) ⟨hx, hb, hml, hown, hts⟩ (kX0_operate l dC dI cI cB cJ cZ cM z ad N x4_141 v_1.toInt64 v_2.toInt64 h_4) (va_cwS 3 hts gX0_resultOf_X0_operate rfl rfl rfl (by decide +kernel) ⟨Nat.le_of_ble_eq_true rfl, Nat.le_of_ble_eq_true rfl⟩) hN hK hP hD hS hA [] (by decide) rfl rfl rfl hl.1 rfl (Nat.le_of_ble_eq_true rfl) dX0_resultOf_172 ⟨Nat.zero_le _, Nat.zero_le _⟩ (fun H locs hP hD hS => ?_)
            have hP : va_P (dC, dI) vwCl [(a_p1, .inl (cI, ar1N, .inl ar1F)), (a_p0, .inr (0, oX0 coI coR)), ((coR 2), .inl (cI, 64, .inl co_stackF_141)), ((coR 1), .inl (cI, 24, .inl co_valuesF))] H := hP
            have hD : va_D A [(a_p1, .inl (cI, ar1N, .inl ar1F)), (a_p0, .inr (0, oX0 coI coR)), ((coR 2), .inl (cI, 64, .inl co_stackF_141)), ((coR 1), .inl (cI, 24, .inl co_valuesF))] := hD
            refine W.eq (g2 := F0 m 175 ls [.long r_3]) rfl ?_
            refine lv_lstore (lv' := [(5, .long r_3), (2, .int (x2_141 + (-1))), (0, .ref a_p0), (1, .ref a_p1), (3, .int x3_141), (4, .int x4_141)]) hx hb dX0_resultOf_175 hl (by decide) rfl (fun ls hl => ?_)
            refine lv_aload_n hx hb dX0_resultOf_177 rfl (lv_at hl 2 rfl) ?_
            refine va_get (D := (dC, dI)) (ci := 0) (v := .ref ((coR 2))) (C := RX0) (T := TX0) (N := 3) hx hb hts hinX0 hown hK hP 1 rfl rfl 2 (by decide) hw0 (fun _ h9 => h9) rfl dX0_resultOf_178 ?_
            refine lv_iload_n hx hb dX0_resultOf_181 rfl (lv_at hl 1 rfl) ?_
            refine lv_iconst (v := 1) hx hb dX0_resultOf_182 (by decide) ?_
            refine lv_isub hx hb dX0_resultOf_183 ?_
            refine lv_ldc2 (v := (-1000000)) hx hb hown hw2 dX0_resultOf_184 ?_
            refine lv_ldc2 (v := 1000000) hx hb hown hw3 dX0_resultOf_187 ?_
            refine lv_lload hx hb dX0_resultOf_190 (lv_at hl 0 rfl) ?_
            refine va_mmin_long hx hb (hml.trans hl.1.symm) hown hw4 hw5 hw6 hw7 (Nat.le_of_ble_eq_true rfl) (Nat.le_of_ble_eq_true rfl) (Nat.zero_le _) (Nat.zero_le _) dX0_resultOf_192 ?_
            refine W.eq (g2 := F0 m 195 ls [.long (xq_minL 1000000 r_3), .long ((-1000000)), .int ((x2_141 + (-1)) - 1), .ref ((coR 2))]) rfl ?_
            refine va_mmax_long hx hb (hml.trans hl.1.symm) hown hw8 hw9 hw6 hw10 (Nat.le_of_ble_eq_true rfl) (Nat.le_of_ble_eq_true rfl) (Nat.zero_le _) (Nat.zero_le _) dX0_resultOf_195 ?_
            refine W.eq (g2 := F0 m 198 ls [.long (xq_maxL ((-1000000)) (xq_minL 1000000 r_3)), .int ((x2_141 + (-1)) - 1), .ref ((coR 2))]) rfl ?_
            refine lv_l2i (v := (xq_maxL ((-1000000)) (xq_minL 1000000 r_3)).toInt32) hx hb dX0_resultOf_198 rfl ?_
            refine xq_iast hx hb hK hP hD hS 2 0 rfl rfl hf dX0_resultOf_199 (fun g_5 H locs hf hP hD hS => ?_)
            have hP : va_P (dC, dI) vwCl [(a_p1, .inl (cI, ar1N, .inl ar1F)), (a_p0, .inr (0, oX0 coI coR)), ((coR 2), .inl (cI, 64, .inl g_5)), ((coR 1), .inl (cI, 24, .inl co_valuesF))] H := hP
            have hD : va_D A [(a_p1, .inl (cI, ar1N, .inl ar1F)), (a_p0, .inr (0, oX0 coI coR)), ((coR 2), .inl (cI, 64, .inl g_5)), ((coR 1), .inl (cI, 24, .inl co_valuesF))] := hD
            exact b200 g_5 (x2_141 + (-1)) x3_141 _ _ _ hf hP hD hS (lv_sub hl [2, 3, 1, 4] rfl)
      have b137 : ∀ (co_stackF_137 : Nat → Int32) (x2_137 : Int32) (x3_137 : Int32) (y1_137 : Int32) (y2_137 : Int32) (ls : Array Slot) (H : Heap) (locs : List Loc), fX0_resultOf_b137 N ar1F co_valuesF ar1N (xq_loop (fX0_resultOf_l4 N ar1F co_valuesF ar1N) n4) (co_stackF_137, x2_137, x3_137, y1_137, y2_137) = some (r0, r1) → va_P (dC, dI) vwCl [(a_p1, .inl (cI, ar1N, .inl ar1F)), (a_p0, .inr (0, oX0 coI coR)), ((coR 2), .inl (cI, 64, .inl co_stackF_137)), ((coR 1), .inl (cI, 24, .inl co_valuesF))] H → va_D A [(a_p1, .inl (cI, ar1N, .inl ar1F)), (a_p0, .inr (0, oX0 coI coR)), ((coR 2), .inl (cI, 64, .inl co_stackF_137)), ((coR 1), .inl (cI, 24, .inl co_valuesF))] → va_S A s.heap H locs → lv_has ls 7 [(0, .ref a_p0), (1, .ref a_p1), (2, .int x2_137), (3, .int x3_137)] → W p l e (headSpec wsX0_resultOf { frames := 2, cells := 0, slots := 0, locals := 49 }).room s m [.ref a_p0, .ref a_p1].toArray below meth c H locs 0 0 (MQ below (xq_Q (dC, dI) vwCl (xq_tys cI cB cJ cZ cM) A [(a_p1, .inl (cI, ar1N, .inl ar1F)), (a_p0, .inr (0, oX0 coI coR)), ((coR 2), .inl (cI, 64, .inl r1)), ((coR 1), .inl (cI, 24, .inl co_valuesF))] (some (.int r0))) [.ref a_p0, .ref a_p1].toArray s 0 0 A) (F0 m 137 ls [.int y2_137, .int y1_137, .ref ((coR 2))]) := by
        intro co_stackF_137 x2_137 x3_137 y1_137 y2_137 ls H locs hf hP hD hS hl
        unfold fX0_resultOf_b137 at hf
        refine xq_iast hx hb hK hP hD hS 2 0 rfl rfl hf dX0_resultOf_137 (fun g_1 H locs hf hP hD hS => ?_)
        have hP : va_P (dC, dI) vwCl [(a_p1, .inl (cI, ar1N, .inl ar1F)), (a_p0, .inr (0, oX0 coI coR)), ((coR 2), .inl (cI, 64, .inl g_1)), ((coR 1), .inl (cI, 24, .inl co_valuesF))] H := hP
        have hD : va_D A [(a_p1, .inl (cI, ar1N, .inl ar1F)), (a_p0, .inr (0, oX0 coI coR)), ((coR 2), .inl (cI, 64, .inl g_1)), ((coR 1), .inl (cI, 24, .inl co_valuesF))] := hD
        refine lv_goto (tgt := 200) hx hb dX0_resultOf_138 (by decide) ?_
        exact b200 g_1 x2_137 x3_137 _ _ _ hf hP hD hS (lv_sub hl [0, 1, 2, 3] rfl)
      have b86 : ∀ (co_stackF_86 : Nat → Int32) (x2_86 : Int32) (x3_86 : Int32) (x4_86 : Int32) (ls : Array Slot) (H : Heap) (locs : List Loc), fX0_resultOf_b86 N ar1F co_valuesF ar1N (xq_loop (fX0_resultOf_l4 N ar1F co_valuesF ar1N) n4) (co_stackF_86, x2_86, x3_86, x4_86) = some (r0, r1) → va_P (dC, dI) vwCl [(a_p1, .inl (cI, ar1N, .inl ar1F)), (a_p0, .inr (0, oX0 coI coR)), ((coR 2), .inl (cI, 64, .inl co_stackF_86)), ((coR 1), .inl (cI, 24, .inl co_valuesF))] H → va_D A [(a_p1, .inl (cI, ar1N, .inl ar1F)), (a_p0, .inr (0, oX0 coI coR)), ((coR 2), .inl (cI, 64, .inl co_stackF_86)), ((coR 1), .inl (cI, 24, .inl co_valuesF))] → va_S A s.heap H locs → lv_has ls 7 [(0, .ref a_p0), (1, .ref a_p1), (2, .int x2_86), (3, .int x3_86), (4, .int x4_86)] → W p l e (headSpec wsX0_resultOf { frames := 2, cells := 0, slots := 0, locals := 49 }).room s m [.ref a_p0, .ref a_p1].toArray below meth c H locs 0 0 (MQ below (xq_Q (dC, dI) vwCl (xq_tys cI cB cJ cZ cM) A [(a_p1, .inl (cI, ar1N, .inl ar1F)), (a_p0, .inr (0, oX0 coI coR)), ((coR 2), .inl (cI, 64, .inl r1)), ((coR 1), .inl (cI, 24, .inl co_valuesF))] (some (.int r0))) [.ref a_p0, .ref a_p1].toArray s 0 0 A) (F0 m 86 ls []) := by
        intro co_stackF_86 x2_86 x3_86 x4_86 ls H locs hf hP hD hS hl
        unfold fX0_resultOf_b86 at hf
        refine lv_iload hx hb dX0_resultOf_86 (lv_at hl 4 rfl) ?_
        refine lv_sipush (v := 317) hx hb dX0_resultOf_88 (by decide) ?_
        refine lv_icmp_ne (tgt := 141) hx hb dX0_resultOf_91 (by decide) (fun c_ => ?_) (fun c_ => ?_)
        · have hf := xq_neg hf c_
          exact b141 co_stackF_86 x2_86 x3_86 x4_86 _ _ _ hf hP hD hS (lv_sub hl [0, 1, 2, 3, 4] rfl)
        · have hf := xq_pos hf c_
          refine lv_iload_n hx hb dX0_resultOf_94 rfl (lv_at hl 2 rfl) ?_
          refine lv_iconst (v := 3) hx hb dX0_resultOf_95 (by decide) ?_
          refine lv_icmp_lt (tgt := 141) hx hb dX0_resultOf_96 (by decide) (fun c_ => ?_) (fun c_ => ?_)
          · have hf := xq_pos hf c_
            exact b141 co_stackF_86 x2_86 x3_86 x4_86 _ _ _ hf hP hD hS (lv_sub hl [0, 1, 2, 3, 4] rfl)
          · have hf := xq_neg hf c_
            refine lv_iinc (v := x2_86 + (-2)) (lv' := [(2, .int (x2_86 + (-2))), (0, .ref a_p0), (1, .ref a_p1), (3, .int x3_86), (4, .int x4_86)]) hx hb dX0_resultOf_99 hl (k := 2) rfl (congrArg (fun q9 => x2_86 + q9) (by decide : Int32.ofInt (-2) = (-2))) (by decide) rfl (fun ls hl => ?_)
            refine lv_aload_n hx hb dX0_resultOf_102 rfl (lv_at hl 1 rfl) ?_
            refine va_get (D := (dC, dI)) (ci := 0) (v := .ref ((coR 2))) (C := RX0) (T := TX0) (N := 3) hx hb hts hinX0 hown hK hP 1 rfl rfl 2 (by decide) hw0 (fun _ h9 => h9) rfl dX0_resultOf_103 ?_
            refine lv_iload_n hx hb dX0_resultOf_106 rfl (lv_at hl 0 rfl) ?_
            refine lv_iconst (v := 1) hx hb dX0_resultOf_107 (by decide) ?_
            refine lv_isub hx hb dX0_resultOf_108 ?_
            refine lv_aload_n hx hb dX0_resultOf_109 rfl (lv_at hl 1 rfl) ?_
            refine va_get (D := (dC, dI)) (ci := 0) (v := .ref ((coR 2))) (C := RX0) (T := TX0) (N := 3) hx hb hts hinX0 hown hK hP 1 rfl rfl 2 (by decide) hw0 (fun _ h9 => h9) rfl dX0_resultOf_110 ?_
            refine lv_iload_n hx hb dX0_resultOf_113 rfl (lv_at hl 0 rfl) ?_
            refine lv_iconst (v := 1) hx hb dX0_resultOf_114 (by decide) ?_
            refine lv_isub hx hb dX0_resultOf_115 ?_
            refine xq_iald hx hb hK hP 2 0 rfl rfl hf dX0_resultOf_116 (fun v_1 hf => ?_)
            refine lv_if_eq (tgt := 129) hx hb dX0_resultOf_117 (by decide) (fun c_ => ?_) (fun c_ => ?_)
            · have hf := xq_pos hf c_
              refine lv_aload_n hx hb dX0_resultOf_129 rfl (lv_at hl 1 rfl) ?_
              refine va_get (D := (dC, dI)) (ci := 0) (v := .ref ((coR 2))) (C := RX0) (T := TX0) (N := 3) hx hb hts hinX0 hown hK hP 1 rfl rfl 2 (by decide) hw0 (fun _ h9 => h9) rfl dX0_resultOf_130 ?_
              refine lv_iload_n hx hb dX0_resultOf_133 rfl (lv_at hl 0 rfl) ?_
              refine lv_iconst (v := 1) hx hb dX0_resultOf_134 (by decide) ?_
              refine lv_iadd hx hb dX0_resultOf_135 ?_
              refine xq_iald hx hb hK hP 2 0 rfl rfl hf dX0_resultOf_136 (fun v_2 hf => ?_)
              exact b137 co_stackF_86 (x2_86 + (-2)) x3_86 ((x2_86 + (-2)) - 1) v_2 _ _ _ hf hP hD hS (lv_sub hl [1, 2, 0, 3] rfl)
            · have hf := xq_neg hf c_
              refine lv_aload_n hx hb dX0_resultOf_120 rfl (lv_at hl 1 rfl) ?_
              refine va_get (D := (dC, dI)) (ci := 0) (v := .ref ((coR 2))) (C := RX0) (T := TX0) (N := 3) hx hb hts hinX0 hown hK hP 1 rfl rfl 2 (by decide) hw0 (fun _ h9 => h9) rfl dX0_resultOf_121 ?_
              refine lv_iload_n hx hb dX0_resultOf_124 rfl (lv_at hl 0 rfl) ?_
              refine xq_iald hx hb hK hP 2 0 rfl rfl hf dX0_resultOf_125 (fun v_3 hf => ?_)
              refine lv_goto (tgt := 137) hx hb dX0_resultOf_126 (by decide) ?_
              exact b137 co_stackF_86 (x2_86 + (-2)) x3_86 ((x2_86 + (-2)) - 1) v_3 _ _ _ hf hP hD hS (lv_sub hl [1, 2, 0, 3] rfl)
      have b52 : ∀ (co_stackF_52 : Nat → Int32) (x2_52 : Int32) (x3_52 : Int32) (x4_52 : Int32) (ls : Array Slot) (H : Heap) (locs : List Loc), fX0_resultOf_b52 N ar1F co_valuesF ar1N (xq_loop (fX0_resultOf_l4 N ar1F co_valuesF ar1N) n4) (co_stackF_52, x2_52, x3_52, x4_52) = some (r0, r1) → va_P (dC, dI) vwCl [(a_p1, .inl (cI, ar1N, .inl ar1F)), (a_p0, .inr (0, oX0 coI coR)), ((coR 2), .inl (cI, 64, .inl co_stackF_52)), ((coR 1), .inl (cI, 24, .inl co_valuesF))] H → va_D A [(a_p1, .inl (cI, ar1N, .inl ar1F)), (a_p0, .inr (0, oX0 coI coR)), ((coR 2), .inl (cI, 64, .inl co_stackF_52)), ((coR 1), .inl (cI, 24, .inl co_valuesF))] → va_S A s.heap H locs → lv_has ls 7 [(0, .ref a_p0), (1, .ref a_p1), (2, .int x2_52), (3, .int x3_52), (4, .int x4_52)] → W p l e (headSpec wsX0_resultOf { frames := 2, cells := 0, slots := 0, locals := 49 }).room s m [.ref a_p0, .ref a_p1].toArray below meth c H locs 0 0 (MQ below (xq_Q (dC, dI) vwCl (xq_tys cI cB cJ cZ cM) A [(a_p1, .inl (cI, ar1N, .inl ar1F)), (a_p0, .inr (0, oX0 coI coR)), ((coR 2), .inl (cI, 64, .inl r1)), ((coR 1), .inl (cI, 24, .inl co_valuesF))] (some (.int r0))) [.ref a_p0, .ref a_p1].toArray s 0 0 A) (F0 m 52 ls []) := by
        intro co_stackF_52 x2_52 x3_52 x4_52 ls H locs hf hP hD hS hl
        unfold fX0_resultOf_b52 at hf
        refine lv_iload hx hb dX0_resultOf_52 (lv_at hl 4 rfl) ?_
        refine lv_sipush (v := 320) hx hb dX0_resultOf_54 (by decide) ?_
        refine lv_icmp_ne (tgt := 86) hx hb dX0_resultOf_57 (by decide) (fun c_ => ?_) (fun c_ => ?_)
        · have hf := xq_neg hf c_
          exact b86 co_stackF_52 x2_52 x3_52 x4_52 _ _ _ hf hP hD hS (lv_sub hl [0, 1, 2, 3, 4] rfl)
        · have hf := xq_pos hf c_
          refine lv_iload_n hx hb dX0_resultOf_60 rfl (lv_at hl 2 rfl) ?_
          refine lv_iconst (v := 1) hx hb dX0_resultOf_61 (by decide) ?_
          refine lv_icmp_lt (tgt := 86) hx hb dX0_resultOf_62 (by decide) (fun c_ => ?_) (fun c_ => ?_)
          · have hf := xq_pos hf c_
            exact b86 co_stackF_52 x2_52 x3_52 x4_52 _ _ _ hf hP hD hS (lv_sub hl [0, 1, 2, 3, 4] rfl)
          · have hf := xq_neg hf c_
            refine lv_aload_n hx hb dX0_resultOf_65 rfl (lv_at hl 0 rfl) ?_
            refine va_get (D := (dC, dI)) (ci := 0) (v := .ref ((coR 2))) (C := RX0) (T := TX0) (N := 3) hx hb hts hinX0 hown hK hP 1 rfl rfl 2 (by decide) hw0 (fun _ h9 => h9) rfl dX0_resultOf_66 ?_
            refine lv_iload_n hx hb dX0_resultOf_69 rfl (lv_at hl 2 rfl) ?_
            refine lv_iconst (v := 1) hx hb dX0_resultOf_70 (by decide) ?_
            refine lv_isub hx hb dX0_resultOf_71 ?_
            refine lv_iconst (v := 1) hx hb dX0_resultOf_72 (by decide) ?_
            refine lv_aload_n hx hb dX0_resultOf_73 rfl (lv_at hl 0 rfl) ?_
            refine va_get (D := (dC, dI)) (ci := 0) (v := .ref ((coR 2))) (C := RX0) (T := TX0) (N := 3) hx hb hts hinX0 hown hK hP 1 rfl rfl 2 (by decide) hw0 (fun _ h9 => h9) rfl dX0_resultOf_74 ?_
            refine lv_iload_n hx hb dX0_resultOf_77 rfl (lv_at hl 2 rfl) ?_
            refine lv_iconst (v := 1) hx hb dX0_resultOf_78 (by decide) ?_
            refine lv_isub hx hb dX0_resultOf_79 ?_
            refine xq_iald hx hb hK hP 2 0 rfl rfl hf dX0_resultOf_80 (fun v_1 hf => ?_)
            refine lv_isub hx hb dX0_resultOf_81 ?_
            refine xq_iast hx hb hK hP hD hS 2 0 rfl rfl hf dX0_resultOf_82 (fun g_2 H locs hf hP hD hS => ?_)
            have hP : va_P (dC, dI) vwCl [(a_p1, .inl (cI, ar1N, .inl ar1F)), (a_p0, .inr (0, oX0 coI coR)), ((coR 2), .inl (cI, 64, .inl g_2)), ((coR 1), .inl (cI, 24, .inl co_valuesF))] H := hP
            have hD : va_D A [(a_p1, .inl (cI, ar1N, .inl ar1F)), (a_p0, .inr (0, oX0 coI coR)), ((coR 2), .inl (cI, 64, .inl g_2)), ((coR 1), .inl (cI, 24, .inl co_valuesF))] := hD
            refine lv_goto (tgt := 200) hx hb dX0_resultOf_83 (by decide) ?_
            exact b200 g_2 x2_52 x3_52 _ _ _ hf hP hD hS (lv_sub hl [0, 1, 2, 3] rfl)
      intro co_stackF_4 x2_4 x3_4 ls H locs hf hP hD hS hl
      have hf : fX0_resultOf_l4 N ar1F co_valuesF ar1N (xq_loop (fX0_resultOf_l4 N ar1F co_valuesF ar1N) n4) (co_stackF_4, x2_4, x3_4) = some (r0, r1) := hf
      unfold fX0_resultOf_l4 at hf
      refine lv_iload_n hx hb dX0_resultOf_4 rfl (lv_at hl 3 rfl) ?_
      refine lv_aload_n hx hb dX0_resultOf_5 rfl (lv_at hl 1 rfl) ?_
      refine va_alen hx hb hK hP 0 0 (v := nI ar1N) rfl rfl rfl dX0_resultOf_6 ?_
      refine lv_icmp_ge (tgt := 206) hx hb dX0_resultOf_7 (by decide) (fun c_ => ?_) (fun c_ => ?_)
      · have hf := xq_pos hf c_
        refine lv_aload_n hx hb dX0_resultOf_206 rfl (lv_at hl 0 rfl) ?_
        refine va_get (D := (dC, dI)) (ci := 0) (v := .ref ((coR 2))) (C := RX0) (T := TX0) (N := 3) hx hb hts hinX0 hown hK hP 1 rfl rfl 2 (by decide) hw0 (fun _ h9 => h9) rfl dX0_resultOf_207 ?_
        refine lv_iconst (v := 0) hx hb dX0_resultOf_210 (by decide) ?_
        refine xq_iald hx hb hK hP 2 0 rfl rfl hf dX0_resultOf_211 (fun v_1 hf => ?_)
        cases hf
        exact xq_iret hx hb hr hlocks hK hP hD hS dX0_resultOf_212
      · have hf := xq_neg hf c_
        refine lv_aload_n hx hb dX0_resultOf_10 rfl (lv_at hl 1 rfl) ?_
        refine lv_iload_n hx hb dX0_resultOf_11 rfl (lv_at hl 3 rfl) ?_
        refine xq_iald hx hb hK hP 0 0 rfl rfl hf dX0_resultOf_12 (fun v_2 hf => ?_)
        refine lv_sipush (v := 20000) hx hb dX0_resultOf_13 (by decide) ?_
        refine lv_isub hx hb dX0_resultOf_16 ?_
        refine lv_istore (lv' := [(4, .int (v_2 - 20000)), (0, .ref a_p0), (1, .ref a_p1), (2, .int x2_4), (3, .int x3_4)]) hx hb dX0_resultOf_17 hl (by decide) rfl (fun ls hl => ?_)
        refine lv_iload hx hb dX0_resultOf_19 (lv_at hl 0 rfl) ?_
        refine lv_if_ge (tgt := 52) hx hb dX0_resultOf_21 (by decide) (fun c_ => ?_) (fun c_ => ?_)
        · have hf := xq_pos hf c_
          exact b52 co_stackF_4 x2_4 x3_4 (v_2 - 20000) _ _ _ hf hP hD hS (lv_sub hl [1, 2, 3, 4, 0] rfl)
        · have hf := xq_neg hf c_
          refine lv_iload_n hx hb dX0_resultOf_24 rfl (lv_at hl 3 rfl) ?_
          refine lv_aload_n hx hb dX0_resultOf_25 rfl (lv_at hl 1 rfl) ?_
          refine va_get (D := (dC, dI)) (ci := 0) (v := .ref ((coR 2))) (C := RX0) (T := TX0) (N := 3) hx hb hts hinX0 hown hK hP 1 rfl rfl 2 (by decide) hw0 (fun _ h9 => h9) rfl dX0_resultOf_26 ?_
          refine va_alen hx hb hK hP 2 0 (v := 64) rfl rfl rfl dX0_resultOf_29 ?_
          refine lv_icmp_ge (tgt := 52) hx hb dX0_resultOf_30 (by decide) (fun c_ => ?_) (fun c_ => ?_)
          · have hf := xq_pos hf c_
            exact b52 co_stackF_4 x2_4 x3_4 (v_2 - 20000) _ _ _ hf hP hD hS (lv_sub hl [1, 2, 3, 4, 0] rfl)
          · have hf := xq_neg hf c_
            refine lv_aload_n hx hb dX0_resultOf_33 rfl (lv_at hl 1 rfl) ?_
            refine va_get (D := (dC, dI)) (ci := 0) (v := .ref ((coR 2))) (C := RX0) (T := TX0) (N := 3) hx hb hts hinX0 hown hK hP 1 rfl rfl 2 (by decide) hw0 (fun _ h9 => h9) rfl dX0_resultOf_34 ?_
            refine lv_iload_n hx hb dX0_resultOf_37 rfl (lv_at hl 3 rfl) ?_
            refine lv_aload_n hx hb dX0_resultOf_38 rfl (lv_at hl 1 rfl) ?_
            refine lv_aload_n hx hb dX0_resultOf_39 rfl (lv_at hl 2 rfl) ?_
            refine lv_iload_n hx hb dX0_resultOf_40 rfl (lv_at hl 4 rfl) ?_
            refine xq_iald hx hb hK hP 0 0 rfl rfl hf dX0_resultOf_41 (fun v_3 hf => ?_)
            obtain ⟨r_4, h_5, hf⟩ := xq_bd_some hf
            refine xq_callV (As := [.int v_3]) (rest := [.int x2_4, .ref ((coR 2))]) (ci := 0) (q0 := 1) ⟨hx, hb, hml, hown, hts⟩ (kX0_valueOf l dC dI cI cB cJ cZ cM z ad N a_p0 coI coR co_valuesF v_3 h_5) (cwV 1 hts gX0_resultOf_X0_valueOf rfl rfl rfl (by decide +kernel) ⟨Nat.le_of_ble_eq_true rfl, Nat.le_of_ble_eq_true rfl⟩) hN hK hP hD hS hA [1, 3] (by decide) rfl rfl rfl rfl rfl rfl hl.1 rfl (Nat.le_of_ble_eq_true rfl) dX0_resultOf_42 ⟨Nat.zero_le _, Nat.zero_le _⟩ (fun H locs hP hD hS => ?_)
            have hP : va_P (dC, dI) vwCl [(a_p1, .inl (cI, ar1N, .inl ar1F)), (a_p0, .inr (0, oX0 coI coR)), ((coR 2), .inl (cI, 64, .inl co_stackF_4)), ((coR 1), .inl (cI, 24, .inl co_valuesF))] H := hP
            have hD : va_D A [(a_p1, .inl (cI, ar1N, .inl ar1F)), (a_p0, .inr (0, oX0 coI coR)), ((coR 2), .inl (cI, 64, .inl co_stackF_4)), ((coR 1), .inl (cI, 24, .inl co_valuesF))] := hD
            refine W.eq (g2 := F0 m 45 ls [.int r_4, .int x2_4, .ref ((coR 2))]) rfl ?_
            refine xq_iast hx hb hK hP hD hS 2 0 rfl rfl hf dX0_resultOf_45 (fun g_6 H locs hf hP hD hS => ?_)
            have hP : va_P (dC, dI) vwCl [(a_p1, .inl (cI, ar1N, .inl ar1F)), (a_p0, .inr (0, oX0 coI coR)), ((coR 2), .inl (cI, 64, .inl g_6)), ((coR 1), .inl (cI, 24, .inl co_valuesF))] H := hP
            have hD : va_D A [(a_p1, .inl (cI, ar1N, .inl ar1F)), (a_p0, .inr (0, oX0 coI coR)), ((coR 2), .inl (cI, 64, .inl g_6)), ((coR 1), .inl (cI, 24, .inl co_valuesF))] := hD
            refine lv_iinc (v := x2_4 + 1) (lv' := [(2, .int (x2_4 + 1)), (4, .int (v_2 - 20000)), (0, .ref a_p0), (1, .ref a_p1), (3, .int x3_4)]) hx hb dX0_resultOf_46 hl (k := 3) rfl (congrArg (fun q9 => x2_4 + q9) (by decide : Int32.ofInt 1 = 1)) (by decide) rfl (fun ls hl => ?_)
            refine lv_goto (tgt := 200) hx hb dX0_resultOf_49 (by decide) ?_
            exact b200 g_6 (x2_4 + 1) x3_4 _ _ _ hf hP hD hS (lv_sub hl [2, 3, 0, 4] rfl)
  unfold fX0_resultOf at hf
  refine lv_iconst (v := 0) hx hb dX0_resultOf_0 (by decide) ?_
  refine lv_istore_n (lv' := [(2, .int 0), (0, .ref a_p0), (1, .ref a_p1)]) hx hb dX0_resultOf_1 rfl hl (by decide) rfl (fun ls hl => ?_)
  refine lv_iconst (v := 0) hx hb dX0_resultOf_2 (by decide) ?_
  refine lv_istore_n (lv' := [(3, .int 0), (2, .int 0), (0, .ref a_p0), (1, .ref a_p1)]) hx hb dX0_resultOf_3 rfl hl (by decide) rfl (fun ls hl => ?_)
  exact l4 N co_stackF 0 0 _ _ _ hf hP hD hS (lv_sub hl [2, 3, 1, 0] rfl)
set_option maxRecDepth 20000 in
theorem ggX0_paceOf_X0_set : GoodIn wsX0_paceOf wsX0_set := goodIn_r _ [13, 14, 50, 51, 52] rfl (by decide +kernel)
set_option maxRecDepth 20000 in
theorem gX0_paceOf_X0_set : GoodIn wsX0_paceOf (wsV RX0 88 RX0 yX0_set wsX0_set) := goodIn_app (goodIn_of _ (by decide +kernel)) ggX0_paceOf_X0_set
set_option maxRecDepth 20000 in
theorem ggX0_paceOf_X0_resultOf : GoodIn wsX0_paceOf wsX0_resultOf := goodIn_r _ [18, 19, 20, 21, 22, 23, 4, 24, 25, 26, 27, 28, 29, 30, 12, 31, 14, 32, 33, 34, 35, 36, 37, 38, 39, 40, 41, 50, 51, 52] rfl (by decide +kernel)
set_option maxRecDepth 20000 in
theorem gX0_paceOf_X0_resultOf : GoodIn wsX0_paceOf (wsV RX0 95 RX0 yX0_resultOf wsX0_resultOf) := goodIn_app (goodIn_of _ (by decide +kernel)) ggX0_paceOf_X0_resultOf
def dsX0_paceOf_0 : List (Nat × Instr × Nat) := [(0, (.aload_n 0, 1)), (1, (.sipush 313, 3)), (4, (.aload_n 1, 1)), (5, (.getfield 85, 3)), (8, (.invokevirtual 88, 3)), (11, (.aload_n 0, 1)), (12, (.sipush 302, 3)), (15, (.iload_n 2, 1)), (16, (.invokevirtual 88, 3)), (19, (.aload_n 0, 1)), (20, (.sipush 314, 3)), (23, (.aload_n 1, 1)), (24, (.getfield 60, 3)), (27, (.invokevirtual 88, 3)), (30, (.aload_n 0, 1)), (31, (.sipush 315, 3)), (34, (.aload_n 1, 1)), (35, (.getfield 77, 3)), (38, (.invokevirtual 88, 3)), (41, (.iconst 0, 1)), (42, (.bipush 99, 2)), (44, (.aload_n 0, 1)), (45, (.aload_n 0, 1)), (46, (.getfield 18, 3)), (49, (.getfield 92, 3)), (52, (.invokevirtual 95, 3)), (55, (.invokestatic 80, 3)), (58, (.invokestatic 99, 3)), (61, (.ireturn, 1))]
theorem dsX0_paceOf_0_ok : (dsX0_paceOf_0.all fun q => decide (decode cX0_paceOf q.1 = .ok q.2)) = true := by decide +kernel
theorem dX0_paceOf_0 : decode cX0_paceOf 0 = .ok (.aload_n 0, 1) := of_decide_eq_true (List.all_eq_true.mp dsX0_paceOf_0_ok (0, (.aload_n 0, 1)) (List.mem_of_getElem? (i := 0) rfl))
theorem dX0_paceOf_1 : decode cX0_paceOf 1 = .ok (.sipush 313, 3) := of_decide_eq_true (List.all_eq_true.mp dsX0_paceOf_0_ok (1, (.sipush 313, 3)) (List.mem_of_getElem? (i := 1) rfl))
theorem dX0_paceOf_4 : decode cX0_paceOf 4 = .ok (.aload_n 1, 1) := of_decide_eq_true (List.all_eq_true.mp dsX0_paceOf_0_ok (4, (.aload_n 1, 1)) (List.mem_of_getElem? (i := 2) rfl))
theorem dX0_paceOf_5 : decode cX0_paceOf 5 = .ok (.getfield 85, 3) := of_decide_eq_true (List.all_eq_true.mp dsX0_paceOf_0_ok (5, (.getfield 85, 3)) (List.mem_of_getElem? (i := 3) rfl))
theorem dX0_paceOf_8 : decode cX0_paceOf 8 = .ok (.invokevirtual 88, 3) := of_decide_eq_true (List.all_eq_true.mp dsX0_paceOf_0_ok (8, (.invokevirtual 88, 3)) (List.mem_of_getElem? (i := 4) rfl))
theorem dX0_paceOf_11 : decode cX0_paceOf 11 = .ok (.aload_n 0, 1) := of_decide_eq_true (List.all_eq_true.mp dsX0_paceOf_0_ok (11, (.aload_n 0, 1)) (List.mem_of_getElem? (i := 5) rfl))
theorem dX0_paceOf_12 : decode cX0_paceOf 12 = .ok (.sipush 302, 3) := of_decide_eq_true (List.all_eq_true.mp dsX0_paceOf_0_ok (12, (.sipush 302, 3)) (List.mem_of_getElem? (i := 6) rfl))
theorem dX0_paceOf_15 : decode cX0_paceOf 15 = .ok (.iload_n 2, 1) := of_decide_eq_true (List.all_eq_true.mp dsX0_paceOf_0_ok (15, (.iload_n 2, 1)) (List.mem_of_getElem? (i := 7) rfl))
theorem dX0_paceOf_16 : decode cX0_paceOf 16 = .ok (.invokevirtual 88, 3) := of_decide_eq_true (List.all_eq_true.mp dsX0_paceOf_0_ok (16, (.invokevirtual 88, 3)) (List.mem_of_getElem? (i := 8) rfl))
theorem dX0_paceOf_19 : decode cX0_paceOf 19 = .ok (.aload_n 0, 1) := of_decide_eq_true (List.all_eq_true.mp dsX0_paceOf_0_ok (19, (.aload_n 0, 1)) (List.mem_of_getElem? (i := 9) rfl))
theorem dX0_paceOf_20 : decode cX0_paceOf 20 = .ok (.sipush 314, 3) := of_decide_eq_true (List.all_eq_true.mp dsX0_paceOf_0_ok (20, (.sipush 314, 3)) (List.mem_of_getElem? (i := 10) rfl))
theorem dX0_paceOf_23 : decode cX0_paceOf 23 = .ok (.aload_n 1, 1) := of_decide_eq_true (List.all_eq_true.mp dsX0_paceOf_0_ok (23, (.aload_n 1, 1)) (List.mem_of_getElem? (i := 11) rfl))
theorem dX0_paceOf_24 : decode cX0_paceOf 24 = .ok (.getfield 60, 3) := of_decide_eq_true (List.all_eq_true.mp dsX0_paceOf_0_ok (24, (.getfield 60, 3)) (List.mem_of_getElem? (i := 12) rfl))
theorem dX0_paceOf_27 : decode cX0_paceOf 27 = .ok (.invokevirtual 88, 3) := of_decide_eq_true (List.all_eq_true.mp dsX0_paceOf_0_ok (27, (.invokevirtual 88, 3)) (List.mem_of_getElem? (i := 13) rfl))
theorem dX0_paceOf_30 : decode cX0_paceOf 30 = .ok (.aload_n 0, 1) := of_decide_eq_true (List.all_eq_true.mp dsX0_paceOf_0_ok (30, (.aload_n 0, 1)) (List.mem_of_getElem? (i := 14) rfl))
theorem dX0_paceOf_31 : decode cX0_paceOf 31 = .ok (.sipush 315, 3) := of_decide_eq_true (List.all_eq_true.mp dsX0_paceOf_0_ok (31, (.sipush 315, 3)) (List.mem_of_getElem? (i := 15) rfl))
theorem dX0_paceOf_34 : decode cX0_paceOf 34 = .ok (.aload_n 1, 1) := of_decide_eq_true (List.all_eq_true.mp dsX0_paceOf_0_ok (34, (.aload_n 1, 1)) (List.mem_of_getElem? (i := 16) rfl))
theorem dX0_paceOf_35 : decode cX0_paceOf 35 = .ok (.getfield 77, 3) := of_decide_eq_true (List.all_eq_true.mp dsX0_paceOf_0_ok (35, (.getfield 77, 3)) (List.mem_of_getElem? (i := 17) rfl))
theorem dX0_paceOf_38 : decode cX0_paceOf 38 = .ok (.invokevirtual 88, 3) := of_decide_eq_true (List.all_eq_true.mp dsX0_paceOf_0_ok (38, (.invokevirtual 88, 3)) (List.mem_of_getElem? (i := 18) rfl))
theorem dX0_paceOf_41 : decode cX0_paceOf 41 = .ok (.iconst 0, 1) := of_decide_eq_true (List.all_eq_true.mp dsX0_paceOf_0_ok (41, (.iconst 0, 1)) (List.mem_of_getElem? (i := 19) rfl))
theorem dX0_paceOf_42 : decode cX0_paceOf 42 = .ok (.bipush 99, 2) := of_decide_eq_true (List.all_eq_true.mp dsX0_paceOf_0_ok (42, (.bipush 99, 2)) (List.mem_of_getElem? (i := 20) rfl))
theorem dX0_paceOf_44 : decode cX0_paceOf 44 = .ok (.aload_n 0, 1) := of_decide_eq_true (List.all_eq_true.mp dsX0_paceOf_0_ok (44, (.aload_n 0, 1)) (List.mem_of_getElem? (i := 21) rfl))
theorem dX0_paceOf_45 : decode cX0_paceOf 45 = .ok (.aload_n 0, 1) := of_decide_eq_true (List.all_eq_true.mp dsX0_paceOf_0_ok (45, (.aload_n 0, 1)) (List.mem_of_getElem? (i := 22) rfl))
theorem dX0_paceOf_46 : decode cX0_paceOf 46 = .ok (.getfield 18, 3) := of_decide_eq_true (List.all_eq_true.mp dsX0_paceOf_0_ok (46, (.getfield 18, 3)) (List.mem_of_getElem? (i := 23) rfl))
theorem dX0_paceOf_49 : decode cX0_paceOf 49 = .ok (.getfield 92, 3) := of_decide_eq_true (List.all_eq_true.mp dsX0_paceOf_0_ok (49, (.getfield 92, 3)) (List.mem_of_getElem? (i := 24) rfl))
theorem dX0_paceOf_52 : decode cX0_paceOf 52 = .ok (.invokevirtual 95, 3) := of_decide_eq_true (List.all_eq_true.mp dsX0_paceOf_0_ok (52, (.invokevirtual 95, 3)) (List.mem_of_getElem? (i := 25) rfl))
theorem dX0_paceOf_55 : decode cX0_paceOf 55 = .ok (.invokestatic 80, 3) := of_decide_eq_true (List.all_eq_true.mp dsX0_paceOf_0_ok (55, (.invokestatic 80, 3)) (List.mem_of_getElem? (i := 26) rfl))
theorem dX0_paceOf_58 : decode cX0_paceOf 58 = .ok (.invokestatic 99, 3) := of_decide_eq_true (List.all_eq_true.mp dsX0_paceOf_0_ok (58, (.invokestatic 99, 3)) (List.mem_of_getElem? (i := 27) rfl))
theorem dX0_paceOf_61 : decode cX0_paceOf 61 = .ok (.ireturn, 1) := of_decide_eq_true (List.all_eq_true.mp dsX0_paceOf_0_ok (61, (.ireturn, 1)) (List.mem_of_getElem? (i := 28) rfl))
def fX0_paceOf (N : Nat) (moI : Nat → Int32) (co_valuesF : Nat → Int32) (home_goesF : Nat → Int32) (co_stackF : Nat → Int32) (home_goesN : Nat) (p2 : Int32) : Option (Int32 × (Nat → Int32) × (Nat → Int32)) :=
  (xq_bd (fX0_set N co_valuesF 313 (moI 0)) fun r_1 => (xq_bd (fX0_set N r_1 302 p2) fun r_3 => (xq_bd (fX0_set N r_3 314 (moI 1)) fun r_5 => (xq_bd (fX0_set N r_5 315 (moI 2)) fun r_7 => (xq_bd (fX0_resultOf N home_goesF co_stackF r_7 home_goesN) fun (r_9_0, r_9_1) => some ((xq_max 0 (xq_min 99 r_9_0), r_7, r_9_1)))))))
set_option maxHeartbeats 4000000 in
set_option maxRecDepth 100000 in
theorem kX0_paceOf (l : Launch) (dC : Nat → ClassId) (dI : Nat → Nat → Nat) (cI cB cJ cZ cM : ClassId) (z : Nat) (ad : Nat → Nat) (N : Nat) (a_p1 : Nat) (moI : Nat → Int32) (moR : Nat → Nat) (a_p0 : Nat) (coI : Nat → Int32) (coR : Nat → Nat) (co_valuesF : Nat → Int32) (homeI : Nat → Int32) (homeR : Nat → Nat) (home_goesF : Nat → Int32) (home_goesN : Nat) (co_stackF : Nat → Int32) (p2 : Int32) {r0 : Int32} {r1 : Nat → Int32} {r2 : Nat → Int32} (hf : fX0_paceOf N moI co_valuesF home_goesF co_stackF home_goesN p2 = some (r0, r1, r2)) : xq_Ct l yX0_paceOf wsX0_paceOf { frames := 3, cells := 0, slots := 0, locals := 75 } (dC, dI) vwCl (xq_tys cI cB cJ cZ cM) z ad [.ref a_p0, .ref a_p1, .int p2] [(a_p1, .inr (6, oX6 moI moR)), (a_p0, .inr (0, oX0 coI coR)), ((coR 1), .inl (cI, 24, .inl co_valuesF)), ((coR 0), .inr (2, oX2 homeI homeR)), ((homeR 13), .inl (cI, home_goesN, .inl home_goesF)), ((coR 2), .inl (cI, 64, .inl co_stackF))] [(a_p1, .inr (6, oX6 moI moR)), (a_p0, .inr (0, oX0 coI coR)), ((coR 1), .inl (cI, 24, .inl r1)), ((coR 0), .inr (2, oX2 homeI homeR)), ((homeR 13), .inl (cI, home_goesN, .inl home_goesF)), ((coR 2), .inl (cI, 64, .inl r2))] (some (.int r0)) := by
  intro sz
  refine Met.ofW (cc := cX0_paceOf) (maxL := 3) (ret := (some .int)) (by decide) rfl ?_
  intro p e s m args below meth c s₁ B hml hv
  obtain ⟨rfl, hsz, hP, hK, hD0, hE, hz⟩ := hv
  have hx := B.exec
  have hb := B.bytes
  have hr := B.returns
  have hts := atoms_spec (ws := wsX0_paceOf) B.pre
  have hown : s.vm.findClass RX0 = some m.cls := findClass_of_methodNamed B.named
  have hlocks := B.notSynchronized
  subst hsz
  have hD := hD0.self (sz := s.heap.size)
  have hN := xq_Env.of hE hz hD0
  generalize hAe : va_A [(a_p1, .inr (6, oX6 moI moR)), (a_p0, .inr (0, oX0 coI coR)), ((coR 1), .inl (cI, 24, .inl co_valuesF)), ((coR 0), .inr (2, oX2 homeI homeR)), ((homeR 13), .inl (cI, home_goesN, .inl home_goesF)), ((coR 2), .inl (cI, 64, .inl co_stackF))] s.heap.size = A at hD hN ⊢
  have hA : ∀ q : Nat, s.heap.size ≤ q → A q := fun q h => by rw [← hAe]; exact Or.inr h
  clear hAe hD0
  have hS : va_S A s.heap s.heap [] := va_S.rf
  have hl := lv_entry ([.ref a_p0, .ref a_p1, .int p2]) (n := 3) (Nat.le_of_ble_eq_true rfl)
  rw [lg_entry_eq]
  generalize (lg_sl ([.ref a_p0, .ref a_p1, .int p2]) ++ List.replicate (3 - (lg_sl ([.ref a_p0, .ref a_p1, .int p2])).length) Slot.unset).toArray = ls at hl ⊢
  have hl : lv_has ls 3 [(0, .ref a_p0), (1, .ref a_p1), (2, .int p2)] := hl
  have hnf6 := va_Nw.use (A := [.ref a_p0, .ref a_p1, .int p2].toArray) rfl (hN.1.1.1 ("DistantVoice$Course", 85, "DistantVoice$Moment", "night", "I", "DistantVoice") (List.mem_of_getElem? (i := 6) rfl))
  have hinX6 : ∀ w ∈ wsX60, w ∈ wsX0_paceOf := fun w h => List.mem_cons_of_mem _ (List.mem_append_left _ (List.mem_append_left _ (List.mem_append_right _ h)))
  have hnf8 := va_Nw.use (A := [.ref a_p0, .ref a_p1, .int p2].toArray) rfl (hN.1.1.1 ("DistantVoice$Course", 60, "DistantVoice$Moment", "mile", "I", "DistantVoice") (List.mem_of_getElem? (i := 8) rfl))
  have hnf11 := va_Nw.use (A := [.ref a_p0, .ref a_p1, .int p2].toArray) rfl (hN.1.1.1 ("DistantVoice$Course", 77, "DistantVoice$Moment", "rounds", "I", "DistantVoice") (List.mem_of_getElem? (i := 11) rfl))
  have hw4 := hts (.fieldLink RX0 18 "DistantVoice$Course" "home" "LDistantVoice$House;") (by decide +kernel)
  have hinX0 : ∀ w ∈ wsX00, w ∈ wsX0_paceOf := fun w h => List.mem_cons_of_mem _ (List.mem_append_left _ (List.mem_append_right _ h))
  have hnf67 := va_Nw.use (A := [.ref a_p0, .ref a_p1, .int p2].toArray) rfl (hN.1.1.1 ("DistantVoice$Course", 92, "DistantVoice$House", "goes", "[I", "DistantVoice") (List.mem_of_getElem? (i := 67) rfl))
  have hinX2 : ∀ w ∈ wsX20, w ∈ wsX0_paceOf := fun w h => List.mem_cons_of_mem _ (List.mem_append_right _ h)
  have hw8 := hts (.methodLink RX0 80 Lib.Math.min.name) (by decide +kernel)
  have hw9 := hts (.static Lib.Math.min.name) (by decide +kernel)
  have hw10 := hts (.initialized "java/lang/Math") (by decide +kernel)
  have hw11 := hts (.code Lib.Math.min.name Lib.Math.min.code 2 (some .int)) (by decide +kernel)
  have hw12 := hts (.methodLink RX0 99 Lib.Math.max.name) (by decide +kernel)
  have hw13 := hts (.static Lib.Math.max.name) (by decide +kernel)
  have hw14 := hts (.code Lib.Math.max.name Lib.Math.max.code 2 (some .int)) (by decide +kernel)
  unfold fX0_paceOf at hf
  refine lv_aload_n hx hb dX0_paceOf_0 rfl (lv_at hl 0 rfl) ?_
  refine lv_sipush (v := 313) hx hb dX0_paceOf_1 (by decide) ?_
  refine lv_aload_n hx hb dX0_paceOf_4 rfl (lv_at hl 1 rfl) ?_
  refine va_getN (D := (dC, dI)) (ci := 6) (v := .int (moI 0)) (C := RX6) (T := TX6) (N := 8) hx hb hts hinX6 hown hK hP 0 rfl rfl 0 (by decide) hnf6 (fun _ h9 => h9) rfl dX0_paceOf_5 ?_
  obtain ⟨r_1, h_2, hf⟩ := xq_bd_some hf
  refine xq_callV (As := [.int 313, .int (moI 0)]) (rest := []) (ci := 0) (q0 := 1) ⟨hx, hb, hml, hown, hts⟩ (kX0_set l dC dI cI cB cJ cZ cM z ad N a_p0 coI coR co_valuesF 313 (moI 0) h_2) (cwV 2 hts gX0_paceOf_X0_set rfl rfl rfl (by decide +kernel) ⟨Nat.le_of_ble_eq_true rfl, Nat.le_of_ble_eq_true rfl⟩) hN hK hP hD hS hA [1, 2] (by decide) rfl rfl rfl rfl rfl rfl hl.1 rfl (Nat.le_of_ble_eq_true rfl) dX0_paceOf_8 ⟨Nat.zero_le _, Nat.zero_le _⟩ (fun H locs hP hD hS => ?_)
  have hP : va_P (dC, dI) vwCl [(a_p1, .inr (6, oX6 moI moR)), (a_p0, .inr (0, oX0 coI coR)), ((coR 1), .inl (cI, 24, .inl r_1)), ((coR 0), .inr (2, oX2 homeI homeR)), ((homeR 13), .inl (cI, home_goesN, .inl home_goesF)), ((coR 2), .inl (cI, 64, .inl co_stackF))] H := hP
  have hD : va_D A [(a_p1, .inr (6, oX6 moI moR)), (a_p0, .inr (0, oX0 coI coR)), ((coR 1), .inl (cI, 24, .inl r_1)), ((coR 0), .inr (2, oX2 homeI homeR)), ((homeR 13), .inl (cI, home_goesN, .inl home_goesF)), ((coR 2), .inl (cI, 64, .inl co_stackF))] := hD
  refine W.eq (g2 := F0 m 11 ls []) rfl ?_
  refine lv_aload_n hx hb dX0_paceOf_11 rfl (lv_at hl 0 rfl) ?_
  refine lv_sipush (v := 302) hx hb dX0_paceOf_12 (by decide) ?_
  refine lv_iload_n hx hb dX0_paceOf_15 rfl (lv_at hl 2 rfl) ?_
  obtain ⟨r_3, h_4, hf⟩ := xq_bd_some hf
  refine xq_callV (As := [.int 302, .int p2]) (rest := []) (ci := 0) (q0 := 1) ⟨hx, hb, hml, hown, hts⟩ (kX0_set l dC dI cI cB cJ cZ cM z ad N a_p0 coI coR r_1 302 p2 h_4) (cwV 2 hts gX0_paceOf_X0_set rfl rfl rfl (by decide +kernel) ⟨Nat.le_of_ble_eq_true rfl, Nat.le_of_ble_eq_true rfl⟩) hN hK hP hD hS hA [1, 2] (by decide) rfl rfl rfl rfl rfl rfl hl.1 rfl (Nat.le_of_ble_eq_true rfl) dX0_paceOf_16 ⟨Nat.zero_le _, Nat.zero_le _⟩ (fun H locs hP hD hS => ?_)
  have hP : va_P (dC, dI) vwCl [(a_p1, .inr (6, oX6 moI moR)), (a_p0, .inr (0, oX0 coI coR)), ((coR 1), .inl (cI, 24, .inl r_3)), ((coR 0), .inr (2, oX2 homeI homeR)), ((homeR 13), .inl (cI, home_goesN, .inl home_goesF)), ((coR 2), .inl (cI, 64, .inl co_stackF))] H := hP
  have hD : va_D A [(a_p1, .inr (6, oX6 moI moR)), (a_p0, .inr (0, oX0 coI coR)), ((coR 1), .inl (cI, 24, .inl r_3)), ((coR 0), .inr (2, oX2 homeI homeR)), ((homeR 13), .inl (cI, home_goesN, .inl home_goesF)), ((coR 2), .inl (cI, 64, .inl co_stackF))] := hD
  refine W.eq (g2 := F0 m 19 ls []) rfl ?_
  refine lv_aload_n hx hb dX0_paceOf_19 rfl (lv_at hl 0 rfl) ?_
  refine lv_sipush (v := 314) hx hb dX0_paceOf_20 (by decide) ?_
  refine lv_aload_n hx hb dX0_paceOf_23 rfl (lv_at hl 1 rfl) ?_
  refine va_getN (D := (dC, dI)) (ci := 6) (v := .int (moI 1)) (C := RX6) (T := TX6) (N := 8) hx hb hts hinX6 hown hK hP 0 rfl rfl 1 (by decide) hnf8 (fun _ h9 => h9) rfl dX0_paceOf_24 ?_
  obtain ⟨r_5, h_6, hf⟩ := xq_bd_some hf
  refine xq_callV (As := [.int 314, .int (moI 1)]) (rest := []) (ci := 0) (q0 := 1) ⟨hx, hb, hml, hown, hts⟩ (kX0_set l dC dI cI cB cJ cZ cM z ad N a_p0 coI coR r_3 314 (moI 1) h_6) (cwV 2 hts gX0_paceOf_X0_set rfl rfl rfl (by decide +kernel) ⟨Nat.le_of_ble_eq_true rfl, Nat.le_of_ble_eq_true rfl⟩) hN hK hP hD hS hA [1, 2] (by decide) rfl rfl rfl rfl rfl rfl hl.1 rfl (Nat.le_of_ble_eq_true rfl) dX0_paceOf_27 ⟨Nat.zero_le _, Nat.zero_le _⟩ (fun H locs hP hD hS => ?_)
  have hP : va_P (dC, dI) vwCl [(a_p1, .inr (6, oX6 moI moR)), (a_p0, .inr (0, oX0 coI coR)), ((coR 1), .inl (cI, 24, .inl r_5)), ((coR 0), .inr (2, oX2 homeI homeR)), ((homeR 13), .inl (cI, home_goesN, .inl home_goesF)), ((coR 2), .inl (cI, 64, .inl co_stackF))] H := hP
  have hD : va_D A [(a_p1, .inr (6, oX6 moI moR)), (a_p0, .inr (0, oX0 coI coR)), ((coR 1), .inl (cI, 24, .inl r_5)), ((coR 0), .inr (2, oX2 homeI homeR)), ((homeR 13), .inl (cI, home_goesN, .inl home_goesF)), ((coR 2), .inl (cI, 64, .inl co_stackF))] := hD
  refine W.eq (g2 := F0 m 30 ls []) rfl ?_
  refine lv_aload_n hx hb dX0_paceOf_30 rfl (lv_at hl 0 rfl) ?_
  refine lv_sipush (v := 315) hx hb dX0_paceOf_31 (by decide) ?_
  refine lv_aload_n hx hb dX0_paceOf_34 rfl (lv_at hl 1 rfl) ?_
  refine va_getN (D := (dC, dI)) (ci := 6) (v := .int (moI 2)) (C := RX6) (T := TX6) (N := 8) hx hb hts hinX6 hown hK hP 0 rfl rfl 2 (by decide) hnf11 (fun _ h9 => h9) rfl dX0_paceOf_35 ?_
  obtain ⟨r_7, h_8, hf⟩ := xq_bd_some hf
  refine xq_callV (As := [.int 315, .int (moI 2)]) (rest := []) (ci := 0) (q0 := 1) ⟨hx, hb, hml, hown, hts⟩ (kX0_set l dC dI cI cB cJ cZ cM z ad N a_p0 coI coR r_5 315 (moI 2) h_8) (cwV 2 hts gX0_paceOf_X0_set rfl rfl rfl (by decide +kernel) ⟨Nat.le_of_ble_eq_true rfl, Nat.le_of_ble_eq_true rfl⟩) hN hK hP hD hS hA [1, 2] (by decide) rfl rfl rfl rfl rfl rfl hl.1 rfl (Nat.le_of_ble_eq_true rfl) dX0_paceOf_38 ⟨Nat.zero_le _, Nat.zero_le _⟩ (fun H locs hP hD hS => ?_)
  have hP : va_P (dC, dI) vwCl [(a_p1, .inr (6, oX6 moI moR)), (a_p0, .inr (0, oX0 coI coR)), ((coR 1), .inl (cI, 24, .inl r_7)), ((coR 0), .inr (2, oX2 homeI homeR)), ((homeR 13), .inl (cI, home_goesN, .inl home_goesF)), ((coR 2), .inl (cI, 64, .inl co_stackF))] H := hP
  have hD : va_D A [(a_p1, .inr (6, oX6 moI moR)), (a_p0, .inr (0, oX0 coI coR)), ((coR 1), .inl (cI, 24, .inl r_7)), ((coR 0), .inr (2, oX2 homeI homeR)), ((homeR 13), .inl (cI, home_goesN, .inl home_goesF)), ((coR 2), .inl (cI, 64, .inl co_stackF))] := hD
  refine W.eq (g2 := F0 m 41 ls []) rfl ?_
  refine lv_iconst (v := 0) hx hb dX0_paceOf_41 (by decide) ?_
  refine lv_bipush (v := 99) hx hb dX0_paceOf_42 (by decide) ?_
  refine lv_aload_n hx hb dX0_paceOf_44 rfl (lv_at hl 0 rfl) ?_
  refine lv_aload_n hx hb dX0_paceOf_45 rfl (lv_at hl 0 rfl) ?_
  refine va_get (D := (dC, dI)) (ci := 0) (v := .ref ((coR 0))) (C := RX0) (T := TX0) (N := 3) hx hb hts hinX0 hown hK hP 1 rfl rfl 0 (by decide) hw4 (fun _ h9 => h9) rfl dX0_paceOf_46 ?_
  refine va_getN (D := (dC, dI)) (ci := 2) (v := .ref ((homeR 13))) (C := RX2) (T := TX2) (N := 19) hx hb hts hinX2 hown hK hP 3 rfl rfl 13 (by decide) hnf67 (fun _ h9 => h9) rfl dX0_paceOf_49 ?_
  obtain ⟨⟨r_9_0, r_9_1⟩, h_10, hf⟩ := xq_bd_some hf
  refine xq_callV (As := [.ref ((homeR 13))]) (rest := [.int 99, .int 0]) (ci := 0) (q0 := 1) ⟨hx, hb, hml, hown, hts⟩ (kX0_resultOf l dC dI cI cB cJ cZ cM z ad N ((homeR 13)) home_goesF home_goesN a_p0 coI coR co_stackF r_7 h_10) (cwV 1 hts gX0_paceOf_X0_resultOf rfl rfl rfl (by decide +kernel) ⟨Nat.le_of_ble_eq_true rfl, Nat.le_of_ble_eq_true rfl⟩) hN hK hP hD hS hA [4, 1, 5, 2] (by decide) rfl rfl rfl rfl rfl rfl hl.1 rfl (Nat.le_of_ble_eq_true rfl) dX0_paceOf_52 ⟨Nat.zero_le _, Nat.zero_le _⟩ (fun H locs hP hD hS => ?_)
  have hP : va_P (dC, dI) vwCl [(a_p1, .inr (6, oX6 moI moR)), (a_p0, .inr (0, oX0 coI coR)), ((coR 1), .inl (cI, 24, .inl r_7)), ((coR 0), .inr (2, oX2 homeI homeR)), ((homeR 13), .inl (cI, home_goesN, .inl home_goesF)), ((coR 2), .inl (cI, 64, .inl r_9_1))] H := hP
  have hD : va_D A [(a_p1, .inr (6, oX6 moI moR)), (a_p0, .inr (0, oX0 coI coR)), ((coR 1), .inl (cI, 24, .inl r_7)), ((coR 0), .inr (2, oX2 homeI homeR)), ((homeR 13), .inl (cI, home_goesN, .inl home_goesF)), ((coR 2), .inl (cI, 64, .inl r_9_1))] := hD
  refine W.eq (g2 := F0 m 55 ls [.int r_9_0, .int 99, .int 0]) rfl ?_
  refine va_mmin hx hb (hml.trans hl.1.symm) hown hw8 hw9 hw10 hw11 (Nat.le_of_ble_eq_true rfl) (Nat.le_of_ble_eq_true rfl) (Nat.zero_le _) (Nat.zero_le _) dX0_paceOf_55 ?_
  refine W.eq (g2 := F0 m 58 ls [.int (xq_min 99 r_9_0), .int 0]) rfl ?_
  refine va_mmax hx hb (hml.trans hl.1.symm) hown hw12 hw13 hw10 hw14 (Nat.le_of_ble_eq_true rfl) (Nat.le_of_ble_eq_true rfl) (Nat.zero_le _) (Nat.zero_le _) dX0_paceOf_58 ?_
  refine W.eq (g2 := F0 m 61 ls [.int (xq_max 0 (xq_min 99 r_9_0))]) rfl ?_
  cases hf
  exact xq_iret hx hb hr hlocks hK hP hD hS dX0_paceOf_61
set_option maxRecDepth 20000 in
theorem ggX0_talkingAt_X0_set : GoodIn wsX0_talkingAt wsX0_set := goodIn_r _ [13, 14, 50, 51, 52] rfl (by decide +kernel)
set_option maxRecDepth 20000 in
theorem gX0_talkingAt_X0_set : GoodIn wsX0_talkingAt (wsV RX0 88 RX0 yX0_set wsX0_set) := goodIn_app (goodIn_of _ (by decide +kernel)) ggX0_talkingAt_X0_set
set_option maxRecDepth 20000 in
theorem ggX0_talkingAt_X0_resultOf : GoodIn wsX0_talkingAt wsX0_resultOf := goodIn_r _ [18, 19, 20, 21, 22, 23, 4, 24, 25, 26, 27, 28, 29, 30, 12, 31, 14, 32, 33, 34, 35, 36, 37, 38, 39, 40, 41, 50, 51, 52] rfl (by decide +kernel)
set_option maxRecDepth 20000 in
theorem gX0_talkingAt_X0_resultOf : GoodIn wsX0_talkingAt (wsV RX0 95 RX0 yX0_resultOf wsX0_resultOf) := goodIn_app (goodIn_of _ (by decide +kernel)) ggX0_talkingAt_X0_resultOf
def dsX0_talkingAt_0 : List (Nat × Instr × Nat) := [(0, (.aload_n 0, 1)), (1, (.sipush 313, 3)), (4, (.aload_n 1, 1)), (5, (.getfield 85, 3)), (8, (.invokevirtual 88, 3)), (11, (.aload_n 0, 1)), (12, (.sipush 302, 3)), (15, (.iload_n 3, 1)), (16, (.invokevirtual 88, 3)), (19, (.aload_n 0, 1)), (20, (.sipush 309, 3)), (23, (.aload_n 1, 1)), (24, (.getfield 102, 3)), (27, (.iload_n 2, 1)), (28, (.iaload, 1)), (29, (.invokevirtual 88, 3)), (32, (.iconst 0, 1)), (33, (.bipush 20, 2)), (35, (.aload_n 0, 1)), (36, (.aload_n 0, 1)), (37, (.getfield 18, 3)), (40, (.getfield 105, 3)), (43, (.invokevirtual 95, 3)), (46, (.invokestatic 80, 3)), (49, (.invokestatic 99, 3)), (52, (.ireturn, 1))]
theorem dsX0_talkingAt_0_ok : (dsX0_talkingAt_0.all fun q => decide (decode cX0_talkingAt q.1 = .ok q.2)) = true := by decide +kernel
theorem dX0_talkingAt_0 : decode cX0_talkingAt 0 = .ok (.aload_n 0, 1) := of_decide_eq_true (List.all_eq_true.mp dsX0_talkingAt_0_ok (0, (.aload_n 0, 1)) (List.mem_of_getElem? (i := 0) rfl))
theorem dX0_talkingAt_1 : decode cX0_talkingAt 1 = .ok (.sipush 313, 3) := of_decide_eq_true (List.all_eq_true.mp dsX0_talkingAt_0_ok (1, (.sipush 313, 3)) (List.mem_of_getElem? (i := 1) rfl))
theorem dX0_talkingAt_4 : decode cX0_talkingAt 4 = .ok (.aload_n 1, 1) := of_decide_eq_true (List.all_eq_true.mp dsX0_talkingAt_0_ok (4, (.aload_n 1, 1)) (List.mem_of_getElem? (i := 2) rfl))
theorem dX0_talkingAt_5 : decode cX0_talkingAt 5 = .ok (.getfield 85, 3) := of_decide_eq_true (List.all_eq_true.mp dsX0_talkingAt_0_ok (5, (.getfield 85, 3)) (List.mem_of_getElem? (i := 3) rfl))
theorem dX0_talkingAt_8 : decode cX0_talkingAt 8 = .ok (.invokevirtual 88, 3) := of_decide_eq_true (List.all_eq_true.mp dsX0_talkingAt_0_ok (8, (.invokevirtual 88, 3)) (List.mem_of_getElem? (i := 4) rfl))
theorem dX0_talkingAt_11 : decode cX0_talkingAt 11 = .ok (.aload_n 0, 1) := of_decide_eq_true (List.all_eq_true.mp dsX0_talkingAt_0_ok (11, (.aload_n 0, 1)) (List.mem_of_getElem? (i := 5) rfl))
theorem dX0_talkingAt_12 : decode cX0_talkingAt 12 = .ok (.sipush 302, 3) := of_decide_eq_true (List.all_eq_true.mp dsX0_talkingAt_0_ok (12, (.sipush 302, 3)) (List.mem_of_getElem? (i := 6) rfl))
theorem dX0_talkingAt_15 : decode cX0_talkingAt 15 = .ok (.iload_n 3, 1) := of_decide_eq_true (List.all_eq_true.mp dsX0_talkingAt_0_ok (15, (.iload_n 3, 1)) (List.mem_of_getElem? (i := 7) rfl))
theorem dX0_talkingAt_16 : decode cX0_talkingAt 16 = .ok (.invokevirtual 88, 3) := of_decide_eq_true (List.all_eq_true.mp dsX0_talkingAt_0_ok (16, (.invokevirtual 88, 3)) (List.mem_of_getElem? (i := 8) rfl))
theorem dX0_talkingAt_19 : decode cX0_talkingAt 19 = .ok (.aload_n 0, 1) := of_decide_eq_true (List.all_eq_true.mp dsX0_talkingAt_0_ok (19, (.aload_n 0, 1)) (List.mem_of_getElem? (i := 9) rfl))
theorem dX0_talkingAt_20 : decode cX0_talkingAt 20 = .ok (.sipush 309, 3) := of_decide_eq_true (List.all_eq_true.mp dsX0_talkingAt_0_ok (20, (.sipush 309, 3)) (List.mem_of_getElem? (i := 10) rfl))
theorem dX0_talkingAt_23 : decode cX0_talkingAt 23 = .ok (.aload_n 1, 1) := of_decide_eq_true (List.all_eq_true.mp dsX0_talkingAt_0_ok (23, (.aload_n 1, 1)) (List.mem_of_getElem? (i := 11) rfl))
theorem dX0_talkingAt_24 : decode cX0_talkingAt 24 = .ok (.getfield 102, 3) := of_decide_eq_true (List.all_eq_true.mp dsX0_talkingAt_0_ok (24, (.getfield 102, 3)) (List.mem_of_getElem? (i := 12) rfl))
theorem dX0_talkingAt_27 : decode cX0_talkingAt 27 = .ok (.iload_n 2, 1) := of_decide_eq_true (List.all_eq_true.mp dsX0_talkingAt_0_ok (27, (.iload_n 2, 1)) (List.mem_of_getElem? (i := 13) rfl))
theorem dX0_talkingAt_28 : decode cX0_talkingAt 28 = .ok (.iaload, 1) := of_decide_eq_true (List.all_eq_true.mp dsX0_talkingAt_0_ok (28, (.iaload, 1)) (List.mem_of_getElem? (i := 14) rfl))
theorem dX0_talkingAt_29 : decode cX0_talkingAt 29 = .ok (.invokevirtual 88, 3) := of_decide_eq_true (List.all_eq_true.mp dsX0_talkingAt_0_ok (29, (.invokevirtual 88, 3)) (List.mem_of_getElem? (i := 15) rfl))
theorem dX0_talkingAt_32 : decode cX0_talkingAt 32 = .ok (.iconst 0, 1) := of_decide_eq_true (List.all_eq_true.mp dsX0_talkingAt_0_ok (32, (.iconst 0, 1)) (List.mem_of_getElem? (i := 16) rfl))
theorem dX0_talkingAt_33 : decode cX0_talkingAt 33 = .ok (.bipush 20, 2) := of_decide_eq_true (List.all_eq_true.mp dsX0_talkingAt_0_ok (33, (.bipush 20, 2)) (List.mem_of_getElem? (i := 17) rfl))
theorem dX0_talkingAt_35 : decode cX0_talkingAt 35 = .ok (.aload_n 0, 1) := of_decide_eq_true (List.all_eq_true.mp dsX0_talkingAt_0_ok (35, (.aload_n 0, 1)) (List.mem_of_getElem? (i := 18) rfl))
theorem dX0_talkingAt_36 : decode cX0_talkingAt 36 = .ok (.aload_n 0, 1) := of_decide_eq_true (List.all_eq_true.mp dsX0_talkingAt_0_ok (36, (.aload_n 0, 1)) (List.mem_of_getElem? (i := 19) rfl))
theorem dX0_talkingAt_37 : decode cX0_talkingAt 37 = .ok (.getfield 18, 3) := of_decide_eq_true (List.all_eq_true.mp dsX0_talkingAt_0_ok (37, (.getfield 18, 3)) (List.mem_of_getElem? (i := 20) rfl))
theorem dX0_talkingAt_40 : decode cX0_talkingAt 40 = .ok (.getfield 105, 3) := of_decide_eq_true (List.all_eq_true.mp dsX0_talkingAt_0_ok (40, (.getfield 105, 3)) (List.mem_of_getElem? (i := 21) rfl))
theorem dX0_talkingAt_43 : decode cX0_talkingAt 43 = .ok (.invokevirtual 95, 3) := of_decide_eq_true (List.all_eq_true.mp dsX0_talkingAt_0_ok (43, (.invokevirtual 95, 3)) (List.mem_of_getElem? (i := 22) rfl))
theorem dX0_talkingAt_46 : decode cX0_talkingAt 46 = .ok (.invokestatic 80, 3) := of_decide_eq_true (List.all_eq_true.mp dsX0_talkingAt_0_ok (46, (.invokestatic 80, 3)) (List.mem_of_getElem? (i := 23) rfl))
theorem dX0_talkingAt_49 : decode cX0_talkingAt 49 = .ok (.invokestatic 99, 3) := of_decide_eq_true (List.all_eq_true.mp dsX0_talkingAt_0_ok (49, (.invokestatic 99, 3)) (List.mem_of_getElem? (i := 24) rfl))
theorem dX0_talkingAt_52 : decode cX0_talkingAt 52 = .ok (.ireturn, 1) := of_decide_eq_true (List.all_eq_true.mp dsX0_talkingAt_0_ok (52, (.ireturn, 1)) (List.mem_of_getElem? (i := 25) rfl))
def fX0_talkingAt (N : Nat) (moI : Nat → Int32) (co_valuesF : Nat → Int32) (mo_talksF : Nat → Int32) (home_talkForF : Nat → Int32) (co_stackF : Nat → Int32) (home_talkForN : Nat) (p2 : Int32) (p3 : Int32) : Option (Int32 × (Nat → Int32) × (Nat → Int32)) :=
  (xq_bd (fX0_set N co_valuesF 313 (moI 0)) fun r_1 => (xq_bd (fX0_set N r_1 302 p3) fun r_3 => (xq_bd (xq_ald 6 mo_talksF p2) fun v_5 => (xq_bd (fX0_set N r_3 309 v_5) fun r_6 => (xq_bd (fX0_resultOf N home_talkForF co_stackF r_6 home_talkForN) fun (r_8_0, r_8_1) => some ((xq_max 0 (xq_min 20 r_8_0), r_6, r_8_1)))))))
set_option maxHeartbeats 4000000 in
set_option maxRecDepth 100000 in
theorem kX0_talkingAt (l : Launch) (dC : Nat → ClassId) (dI : Nat → Nat → Nat) (cI cB cJ cZ cM : ClassId) (z : Nat) (ad : Nat → Nat) (N : Nat) (a_p1 : Nat) (moI : Nat → Int32) (moR : Nat → Nat) (a_p0 : Nat) (coI : Nat → Int32) (coR : Nat → Nat) (co_valuesF : Nat → Int32) (mo_talksF : Nat → Int32) (homeI : Nat → Int32) (homeR : Nat → Nat) (home_talkForF : Nat → Int32) (home_talkForN : Nat) (co_stackF : Nat → Int32) (p2 : Int32) (p3 : Int32) {r0 : Int32} {r1 : Nat → Int32} {r2 : Nat → Int32} (hf : fX0_talkingAt N moI co_valuesF mo_talksF home_talkForF co_stackF home_talkForN p2 p3 = some (r0, r1, r2)) : xq_Ct l yX0_talkingAt wsX0_talkingAt { frames := 3, cells := 0, slots := 0, locals := 75 } (dC, dI) vwCl (xq_tys cI cB cJ cZ cM) z ad [.ref a_p0, .ref a_p1, .int p2, .int p3] [(a_p1, .inr (6, oX6 moI moR)), (a_p0, .inr (0, oX0 coI coR)), ((coR 1), .inl (cI, 24, .inl co_valuesF)), ((moR 7), .inl (cI, 6, .inl mo_talksF)), ((coR 0), .inr (2, oX2 homeI homeR)), ((homeR 15), .inl (cI, home_talkForN, .inl home_talkForF)), ((coR 2), .inl (cI, 64, .inl co_stackF))] [(a_p1, .inr (6, oX6 moI moR)), (a_p0, .inr (0, oX0 coI coR)), ((coR 1), .inl (cI, 24, .inl r1)), ((moR 7), .inl (cI, 6, .inl mo_talksF)), ((coR 0), .inr (2, oX2 homeI homeR)), ((homeR 15), .inl (cI, home_talkForN, .inl home_talkForF)), ((coR 2), .inl (cI, 64, .inl r2))] (some (.int r0)) := by
  intro sz
  refine Met.ofW (cc := cX0_talkingAt) (maxL := 4) (ret := (some .int)) (by decide) rfl ?_
  intro p e s m args below meth c s₁ B hml hv
  obtain ⟨rfl, hsz, hP, hK, hD0, hE, hz⟩ := hv
  have hx := B.exec
  have hb := B.bytes
  have hr := B.returns
  have hts := atoms_spec (ws := wsX0_talkingAt) B.pre
  have hown : s.vm.findClass RX0 = some m.cls := findClass_of_methodNamed B.named
  have hlocks := B.notSynchronized
  subst hsz
  have hD := hD0.self (sz := s.heap.size)
  have hN := xq_Env.of hE hz hD0
  generalize hAe : va_A [(a_p1, .inr (6, oX6 moI moR)), (a_p0, .inr (0, oX0 coI coR)), ((coR 1), .inl (cI, 24, .inl co_valuesF)), ((moR 7), .inl (cI, 6, .inl mo_talksF)), ((coR 0), .inr (2, oX2 homeI homeR)), ((homeR 15), .inl (cI, home_talkForN, .inl home_talkForF)), ((coR 2), .inl (cI, 64, .inl co_stackF))] s.heap.size = A at hD hN ⊢
  have hA : ∀ q : Nat, s.heap.size ≤ q → A q := fun q h => by rw [← hAe]; exact Or.inr h
  clear hAe hD0
  have hS : va_S A s.heap s.heap [] := va_S.rf
  have hl := lv_entry ([.ref a_p0, .ref a_p1, .int p2, .int p3]) (n := 4) (Nat.le_of_ble_eq_true rfl)
  rw [lg_entry_eq]
  generalize (lg_sl ([.ref a_p0, .ref a_p1, .int p2, .int p3]) ++ List.replicate (4 - (lg_sl ([.ref a_p0, .ref a_p1, .int p2, .int p3])).length) Slot.unset).toArray = ls at hl ⊢
  have hl : lv_has ls 4 [(0, .ref a_p0), (1, .ref a_p1), (2, .int p2), (3, .int p3)] := hl
  have hnf6 := va_Nw.use (A := [.ref a_p0, .ref a_p1, .int p2, .int p3].toArray) rfl (hN.1.1.1 ("DistantVoice$Course", 85, "DistantVoice$Moment", "night", "I", "DistantVoice") (List.mem_of_getElem? (i := 6) rfl))
  have hinX6 : ∀ w ∈ wsX60, w ∈ wsX0_talkingAt := fun w h => List.mem_cons_of_mem _ (List.mem_append_left _ (List.mem_append_left _ (List.mem_append_right _ h)))
  have hnf24 := va_Nw.use (A := [.ref a_p0, .ref a_p1, .int p2, .int p3].toArray) rfl (hN.1.1.1 ("DistantVoice$Course", 102, "DistantVoice$Moment", "talks", "[I", "DistantVoice") (List.mem_of_getElem? (i := 24) rfl))
  have hw3 := hts (.fieldLink RX0 18 "DistantVoice$Course" "home" "LDistantVoice$House;") (by decide +kernel)
  have hinX0 : ∀ w ∈ wsX00, w ∈ wsX0_talkingAt := fun w h => List.mem_cons_of_mem _ (List.mem_append_left _ (List.mem_append_right _ h))
  have hnf69 := va_Nw.use (A := [.ref a_p0, .ref a_p1, .int p2, .int p3].toArray) rfl (hN.1.1.1 ("DistantVoice$Course", 105, "DistantVoice$House", "talkFor", "[I", "DistantVoice") (List.mem_of_getElem? (i := 69) rfl))
  have hinX2 : ∀ w ∈ wsX20, w ∈ wsX0_talkingAt := fun w h => List.mem_cons_of_mem _ (List.mem_append_right _ h)
  have hw7 := hts (.methodLink RX0 80 Lib.Math.min.name) (by decide +kernel)
  have hw8 := hts (.static Lib.Math.min.name) (by decide +kernel)
  have hw9 := hts (.initialized "java/lang/Math") (by decide +kernel)
  have hw10 := hts (.code Lib.Math.min.name Lib.Math.min.code 2 (some .int)) (by decide +kernel)
  have hw11 := hts (.methodLink RX0 99 Lib.Math.max.name) (by decide +kernel)
  have hw12 := hts (.static Lib.Math.max.name) (by decide +kernel)
  have hw13 := hts (.code Lib.Math.max.name Lib.Math.max.code 2 (some .int)) (by decide +kernel)
  unfold fX0_talkingAt at hf
  refine lv_aload_n hx hb dX0_talkingAt_0 rfl (lv_at hl 0 rfl) ?_
  refine lv_sipush (v := 313) hx hb dX0_talkingAt_1 (by decide) ?_
  refine lv_aload_n hx hb dX0_talkingAt_4 rfl (lv_at hl 1 rfl) ?_
  refine va_getN (D := (dC, dI)) (ci := 6) (v := .int (moI 0)) (C := RX6) (T := TX6) (N := 8) hx hb hts hinX6 hown hK hP 0 rfl rfl 0 (by decide) hnf6 (fun _ h9 => h9) rfl dX0_talkingAt_5 ?_
  obtain ⟨r_1, h_2, hf⟩ := xq_bd_some hf
  refine xq_callV (As := [.int 313, .int (moI 0)]) (rest := []) (ci := 0) (q0 := 1) ⟨hx, hb, hml, hown, hts⟩ (kX0_set l dC dI cI cB cJ cZ cM z ad N a_p0 coI coR co_valuesF 313 (moI 0) h_2) (cwV 2 hts gX0_talkingAt_X0_set rfl rfl rfl (by decide +kernel) ⟨Nat.le_of_ble_eq_true rfl, Nat.le_of_ble_eq_true rfl⟩) hN hK hP hD hS hA [1, 2] (by decide) rfl rfl rfl rfl rfl rfl hl.1 rfl (Nat.le_of_ble_eq_true rfl) dX0_talkingAt_8 ⟨Nat.zero_le _, Nat.zero_le _⟩ (fun H locs hP hD hS => ?_)
  have hP : va_P (dC, dI) vwCl [(a_p1, .inr (6, oX6 moI moR)), (a_p0, .inr (0, oX0 coI coR)), ((coR 1), .inl (cI, 24, .inl r_1)), ((moR 7), .inl (cI, 6, .inl mo_talksF)), ((coR 0), .inr (2, oX2 homeI homeR)), ((homeR 15), .inl (cI, home_talkForN, .inl home_talkForF)), ((coR 2), .inl (cI, 64, .inl co_stackF))] H := hP
  have hD : va_D A [(a_p1, .inr (6, oX6 moI moR)), (a_p0, .inr (0, oX0 coI coR)), ((coR 1), .inl (cI, 24, .inl r_1)), ((moR 7), .inl (cI, 6, .inl mo_talksF)), ((coR 0), .inr (2, oX2 homeI homeR)), ((homeR 15), .inl (cI, home_talkForN, .inl home_talkForF)), ((coR 2), .inl (cI, 64, .inl co_stackF))] := hD
  refine W.eq (g2 := F0 m 11 ls []) rfl ?_
  refine lv_aload_n hx hb dX0_talkingAt_11 rfl (lv_at hl 0 rfl) ?_
  refine lv_sipush (v := 302) hx hb dX0_talkingAt_12 (by decide) ?_
  refine lv_iload_n hx hb dX0_talkingAt_15 rfl (lv_at hl 3 rfl) ?_
  obtain ⟨r_3, h_4, hf⟩ := xq_bd_some hf
  refine xq_callV (As := [.int 302, .int p3]) (rest := []) (ci := 0) (q0 := 1) ⟨hx, hb, hml, hown, hts⟩ (kX0_set l dC dI cI cB cJ cZ cM z ad N a_p0 coI coR r_1 302 p3 h_4) (cwV 2 hts gX0_talkingAt_X0_set rfl rfl rfl (by decide +kernel) ⟨Nat.le_of_ble_eq_true rfl, Nat.le_of_ble_eq_true rfl⟩) hN hK hP hD hS hA [1, 2] (by decide) rfl rfl rfl rfl rfl rfl hl.1 rfl (Nat.le_of_ble_eq_true rfl) dX0_talkingAt_16 ⟨Nat.zero_le _, Nat.zero_le _⟩ (fun H locs hP hD hS => ?_)
  have hP : va_P (dC, dI) vwCl [(a_p1, .inr (6, oX6 moI moR)), (a_p0, .inr (0, oX0 coI coR)), ((coR 1), .inl (cI, 24, .inl r_3)), ((moR 7), .inl (cI, 6, .inl mo_talksF)), ((coR 0), .inr (2, oX2 homeI homeR)), ((homeR 15), .inl (cI, home_talkForN, .inl home_talkForF)), ((coR 2), .inl (cI, 64, .inl co_stackF))] H := hP
  have hD : va_D A [(a_p1, .inr (6, oX6 moI moR)), (a_p0, .inr (0, oX0 coI coR)), ((coR 1), .inl (cI, 24, .inl r_3)), ((moR 7), .inl (cI, 6, .inl mo_talksF)), ((coR 0), .inr (2, oX2 homeI homeR)), ((homeR 15), .inl (cI, home_talkForN, .inl home_talkForF)), ((coR 2), .inl (cI, 64, .inl co_stackF))] := hD
  refine W.eq (g2 := F0 m 19 ls []) rfl ?_
  refine lv_aload_n hx hb dX0_talkingAt_19 rfl (lv_at hl 0 rfl) ?_
  refine lv_sipush (v := 309) hx hb dX0_talkingAt_20 (by decide) ?_
  refine lv_aload_n hx hb dX0_talkingAt_23 rfl (lv_at hl 1 rfl) ?_
  refine va_getN (D := (dC, dI)) (ci := 6) (v := .ref ((moR 7))) (C := RX6) (T := TX6) (N := 8) hx hb hts hinX6 hown hK hP 0 rfl rfl 7 (by decide) hnf24 (fun _ h9 => h9) rfl dX0_talkingAt_24 ?_
  refine lv_iload_n hx hb dX0_talkingAt_27 rfl (lv_at hl 2 rfl) ?_
  refine xq_iald hx hb hK hP 3 0 rfl rfl hf dX0_talkingAt_28 (fun v_5 hf => ?_)
  obtain ⟨r_6, h_7, hf⟩ := xq_bd_some hf
  refine xq_callV (As := [.int 309, .int v_5]) (rest := []) (ci := 0) (q0 := 1) ⟨hx, hb, hml, hown, hts⟩ (kX0_set l dC dI cI cB cJ cZ cM z ad N a_p0 coI coR r_3 309 v_5 h_7) (cwV 2 hts gX0_talkingAt_X0_set rfl rfl rfl (by decide +kernel) ⟨Nat.le_of_ble_eq_true rfl, Nat.le_of_ble_eq_true rfl⟩) hN hK hP hD hS hA [1, 2] (by decide) rfl rfl rfl rfl rfl rfl hl.1 rfl (Nat.le_of_ble_eq_true rfl) dX0_talkingAt_29 ⟨Nat.zero_le _, Nat.zero_le _⟩ (fun H locs hP hD hS => ?_)
  have hP : va_P (dC, dI) vwCl [(a_p1, .inr (6, oX6 moI moR)), (a_p0, .inr (0, oX0 coI coR)), ((coR 1), .inl (cI, 24, .inl r_6)), ((moR 7), .inl (cI, 6, .inl mo_talksF)), ((coR 0), .inr (2, oX2 homeI homeR)), ((homeR 15), .inl (cI, home_talkForN, .inl home_talkForF)), ((coR 2), .inl (cI, 64, .inl co_stackF))] H := hP
  have hD : va_D A [(a_p1, .inr (6, oX6 moI moR)), (a_p0, .inr (0, oX0 coI coR)), ((coR 1), .inl (cI, 24, .inl r_6)), ((moR 7), .inl (cI, 6, .inl mo_talksF)), ((coR 0), .inr (2, oX2 homeI homeR)), ((homeR 15), .inl (cI, home_talkForN, .inl home_talkForF)), ((coR 2), .inl (cI, 64, .inl co_stackF))] := hD
  refine W.eq (g2 := F0 m 32 ls []) rfl ?_
  refine lv_iconst (v := 0) hx hb dX0_talkingAt_32 (by decide) ?_
  refine lv_bipush (v := 20) hx hb dX0_talkingAt_33 (by decide) ?_
  refine lv_aload_n hx hb dX0_talkingAt_35 rfl (lv_at hl 0 rfl) ?_
  refine lv_aload_n hx hb dX0_talkingAt_36 rfl (lv_at hl 0 rfl) ?_
  refine va_get (D := (dC, dI)) (ci := 0) (v := .ref ((coR 0))) (C := RX0) (T := TX0) (N := 3) hx hb hts hinX0 hown hK hP 1 rfl rfl 0 (by decide) hw3 (fun _ h9 => h9) rfl dX0_talkingAt_37 ?_
  refine va_getN (D := (dC, dI)) (ci := 2) (v := .ref ((homeR 15))) (C := RX2) (T := TX2) (N := 19) hx hb hts hinX2 hown hK hP 4 rfl rfl 15 (by decide) hnf69 (fun _ h9 => h9) rfl dX0_talkingAt_40 ?_
  obtain ⟨⟨r_8_0, r_8_1⟩, h_9, hf⟩ := xq_bd_some hf
  refine xq_callV (As := [.ref ((homeR 15))]) (rest := [.int 20, .int 0]) (ci := 0) (q0 := 1) ⟨hx, hb, hml, hown, hts⟩ (kX0_resultOf l dC dI cI cB cJ cZ cM z ad N ((homeR 15)) home_talkForF home_talkForN a_p0 coI coR co_stackF r_6 h_9) (cwV 1 hts gX0_talkingAt_X0_resultOf rfl rfl rfl (by decide +kernel) ⟨Nat.le_of_ble_eq_true rfl, Nat.le_of_ble_eq_true rfl⟩) hN hK hP hD hS hA [5, 1, 6, 2] (by decide) rfl rfl rfl rfl rfl rfl hl.1 rfl (Nat.le_of_ble_eq_true rfl) dX0_talkingAt_43 ⟨Nat.zero_le _, Nat.zero_le _⟩ (fun H locs hP hD hS => ?_)
  have hP : va_P (dC, dI) vwCl [(a_p1, .inr (6, oX6 moI moR)), (a_p0, .inr (0, oX0 coI coR)), ((coR 1), .inl (cI, 24, .inl r_6)), ((moR 7), .inl (cI, 6, .inl mo_talksF)), ((coR 0), .inr (2, oX2 homeI homeR)), ((homeR 15), .inl (cI, home_talkForN, .inl home_talkForF)), ((coR 2), .inl (cI, 64, .inl r_8_1))] H := hP
  have hD : va_D A [(a_p1, .inr (6, oX6 moI moR)), (a_p0, .inr (0, oX0 coI coR)), ((coR 1), .inl (cI, 24, .inl r_6)), ((moR 7), .inl (cI, 6, .inl mo_talksF)), ((coR 0), .inr (2, oX2 homeI homeR)), ((homeR 15), .inl (cI, home_talkForN, .inl home_talkForF)), ((coR 2), .inl (cI, 64, .inl r_8_1))] := hD
  refine W.eq (g2 := F0 m 46 ls [.int r_8_0, .int 20, .int 0]) rfl ?_
  refine va_mmin hx hb (hml.trans hl.1.symm) hown hw7 hw8 hw9 hw10 (Nat.le_of_ble_eq_true rfl) (Nat.le_of_ble_eq_true rfl) (Nat.zero_le _) (Nat.zero_le _) dX0_talkingAt_46 ?_
  refine W.eq (g2 := F0 m 49 ls [.int (xq_min 20 r_8_0), .int 0]) rfl ?_
  refine va_mmax hx hb (hml.trans hl.1.symm) hown hw11 hw12 hw9 hw13 (Nat.le_of_ble_eq_true rfl) (Nat.le_of_ble_eq_true rfl) (Nat.zero_le _) (Nat.zero_le _) dX0_talkingAt_49 ?_
  refine W.eq (g2 := F0 m 52 ls [.int (xq_max 0 (xq_min 20 r_8_0))]) rfl ?_
  cases hf
  exact xq_iret hx hb hr hlocks hK hP hD hS dX0_talkingAt_52
set_option maxRecDepth 20000 in
theorem ggX0_hearsIn_X0_set : GoodIn wsX0_hearsIn wsX0_set := goodIn_r _ [6, 7, 53, 54, 55] rfl (by decide +kernel)
set_option maxRecDepth 20000 in
theorem gX0_hearsIn_X0_set : GoodIn wsX0_hearsIn (wsV RX0 88 RX0 yX0_set wsX0_set) := goodIn_app (goodIn_of _ (by decide +kernel)) ggX0_hearsIn_X0_set
set_option maxRecDepth 20000 in
theorem ggX0_hearsIn_X2_farOf : GoodIn wsX0_hearsIn wsX2_farOf := goodIn_r _ [12, 13, 14, 15, 16, 17, 56, 57, 58, 59, 60, 61, 62, 63, 64, 65, 66, 67, 68, 69, 70, 71, 72, 73, 74] rfl (by decide +kernel)
set_option maxRecDepth 20000 in
theorem gX0_hearsIn_X2_farOf : GoodIn wsX0_hearsIn (wsV RX0 111 RX2 yX2_farOf wsX2_farOf) := goodIn_app (goodIn_of _ (by decide +kernel)) ggX0_hearsIn_X2_farOf
set_option maxRecDepth 20000 in
theorem ggX0_hearsIn_X0_resultOf : GoodIn wsX0_hearsIn wsX0_resultOf := goodIn_r _ [21, 22, 23, 24, 25, 26, 16, 27, 28, 29, 30, 31, 32, 33, 5, 34, 7, 35, 36, 37, 38, 39, 40, 41, 42, 43, 44, 53, 54, 55] rfl (by decide +kernel)
set_option maxRecDepth 20000 in
theorem gX0_hearsIn_X0_resultOf : GoodIn wsX0_hearsIn (wsV RX0 95 RX0 yX0_resultOf wsX0_resultOf) := goodIn_app (goodIn_of _ (by decide +kernel)) ggX0_hearsIn_X0_resultOf
def dsX0_hearsIn_0 : List (Nat × Instr × Nat) := [(0, (.aload_n 0, 1)), (1, (.sipush 313, 3)), (4, (.aload_n 1, 1)), (5, (.getfield 85, 3)), (8, (.invokevirtual 88, 3)), (11, (.aload_n 0, 1)), (12, (.sipush 302, 3)), (15, (.iload 4, 2)), (17, (.invokevirtual 88, 3)), (20, (.aload_n 0, 1)), (21, (.sipush 306, 3)), (24, (.aload_n 0, 1)), (25, (.getfield 18, 3)), (28, (.getfield 108, 3)), (31, (.iload_n 2, 1)), (32, (.iaload, 1)), (33, (.invokevirtual 88, 3)), (36, (.aload_n 0, 1)), (37, (.sipush 305, 3)), (40, (.iload_n 3, 1)), (41, (.invokevirtual 88, 3)), (44, (.aload_n 0, 1)), (45, (.sipush 316, 3)), (48, (.aload_n 0, 1)), (49, (.getfield 18, 3)), (52, (.aload_n 1, 1)), (53, (.getfield 60, 3)), (56, (.invokevirtual 111, 3)), (59, (.invokevirtual 88, 3)), (62, (.aload_n 0, 1)), (63, (.aload_n 0, 1)), (64, (.getfield 18, 3)), (67, (.getfield 115, 3)), (70, (.invokevirtual 95, 3)), (73, (.ifCond .eq 7, 3)), (76, (.iconst 1, 1)), (77, (.goto 4, 3)), (80, (.iconst 0, 1)), (81, (.ireturn, 1))]
theorem dsX0_hearsIn_0_ok : (dsX0_hearsIn_0.all fun q => decide (decode cX0_hearsIn q.1 = .ok q.2)) = true := by decide +kernel
theorem dX0_hearsIn_0 : decode cX0_hearsIn 0 = .ok (.aload_n 0, 1) := of_decide_eq_true (List.all_eq_true.mp dsX0_hearsIn_0_ok (0, (.aload_n 0, 1)) (List.mem_of_getElem? (i := 0) rfl))
theorem dX0_hearsIn_1 : decode cX0_hearsIn 1 = .ok (.sipush 313, 3) := of_decide_eq_true (List.all_eq_true.mp dsX0_hearsIn_0_ok (1, (.sipush 313, 3)) (List.mem_of_getElem? (i := 1) rfl))
theorem dX0_hearsIn_4 : decode cX0_hearsIn 4 = .ok (.aload_n 1, 1) := of_decide_eq_true (List.all_eq_true.mp dsX0_hearsIn_0_ok (4, (.aload_n 1, 1)) (List.mem_of_getElem? (i := 2) rfl))
theorem dX0_hearsIn_5 : decode cX0_hearsIn 5 = .ok (.getfield 85, 3) := of_decide_eq_true (List.all_eq_true.mp dsX0_hearsIn_0_ok (5, (.getfield 85, 3)) (List.mem_of_getElem? (i := 3) rfl))
theorem dX0_hearsIn_8 : decode cX0_hearsIn 8 = .ok (.invokevirtual 88, 3) := of_decide_eq_true (List.all_eq_true.mp dsX0_hearsIn_0_ok (8, (.invokevirtual 88, 3)) (List.mem_of_getElem? (i := 4) rfl))
theorem dX0_hearsIn_11 : decode cX0_hearsIn 11 = .ok (.aload_n 0, 1) := of_decide_eq_true (List.all_eq_true.mp dsX0_hearsIn_0_ok (11, (.aload_n 0, 1)) (List.mem_of_getElem? (i := 5) rfl))
theorem dX0_hearsIn_12 : decode cX0_hearsIn 12 = .ok (.sipush 302, 3) := of_decide_eq_true (List.all_eq_true.mp dsX0_hearsIn_0_ok (12, (.sipush 302, 3)) (List.mem_of_getElem? (i := 6) rfl))
theorem dX0_hearsIn_15 : decode cX0_hearsIn 15 = .ok (.iload 4, 2) := of_decide_eq_true (List.all_eq_true.mp dsX0_hearsIn_0_ok (15, (.iload 4, 2)) (List.mem_of_getElem? (i := 7) rfl))
theorem dX0_hearsIn_17 : decode cX0_hearsIn 17 = .ok (.invokevirtual 88, 3) := of_decide_eq_true (List.all_eq_true.mp dsX0_hearsIn_0_ok (17, (.invokevirtual 88, 3)) (List.mem_of_getElem? (i := 8) rfl))
theorem dX0_hearsIn_20 : decode cX0_hearsIn 20 = .ok (.aload_n 0, 1) := of_decide_eq_true (List.all_eq_true.mp dsX0_hearsIn_0_ok (20, (.aload_n 0, 1)) (List.mem_of_getElem? (i := 9) rfl))
theorem dX0_hearsIn_21 : decode cX0_hearsIn 21 = .ok (.sipush 306, 3) := of_decide_eq_true (List.all_eq_true.mp dsX0_hearsIn_0_ok (21, (.sipush 306, 3)) (List.mem_of_getElem? (i := 10) rfl))
theorem dX0_hearsIn_24 : decode cX0_hearsIn 24 = .ok (.aload_n 0, 1) := of_decide_eq_true (List.all_eq_true.mp dsX0_hearsIn_0_ok (24, (.aload_n 0, 1)) (List.mem_of_getElem? (i := 11) rfl))
theorem dX0_hearsIn_25 : decode cX0_hearsIn 25 = .ok (.getfield 18, 3) := of_decide_eq_true (List.all_eq_true.mp dsX0_hearsIn_0_ok (25, (.getfield 18, 3)) (List.mem_of_getElem? (i := 12) rfl))
theorem dX0_hearsIn_28 : decode cX0_hearsIn 28 = .ok (.getfield 108, 3) := of_decide_eq_true (List.all_eq_true.mp dsX0_hearsIn_0_ok (28, (.getfield 108, 3)) (List.mem_of_getElem? (i := 13) rfl))
theorem dX0_hearsIn_31 : decode cX0_hearsIn 31 = .ok (.iload_n 2, 1) := of_decide_eq_true (List.all_eq_true.mp dsX0_hearsIn_0_ok (31, (.iload_n 2, 1)) (List.mem_of_getElem? (i := 14) rfl))
theorem dX0_hearsIn_32 : decode cX0_hearsIn 32 = .ok (.iaload, 1) := of_decide_eq_true (List.all_eq_true.mp dsX0_hearsIn_0_ok (32, (.iaload, 1)) (List.mem_of_getElem? (i := 15) rfl))
theorem dX0_hearsIn_33 : decode cX0_hearsIn 33 = .ok (.invokevirtual 88, 3) := of_decide_eq_true (List.all_eq_true.mp dsX0_hearsIn_0_ok (33, (.invokevirtual 88, 3)) (List.mem_of_getElem? (i := 16) rfl))
theorem dX0_hearsIn_36 : decode cX0_hearsIn 36 = .ok (.aload_n 0, 1) := of_decide_eq_true (List.all_eq_true.mp dsX0_hearsIn_0_ok (36, (.aload_n 0, 1)) (List.mem_of_getElem? (i := 17) rfl))
theorem dX0_hearsIn_37 : decode cX0_hearsIn 37 = .ok (.sipush 305, 3) := of_decide_eq_true (List.all_eq_true.mp dsX0_hearsIn_0_ok (37, (.sipush 305, 3)) (List.mem_of_getElem? (i := 18) rfl))
theorem dX0_hearsIn_40 : decode cX0_hearsIn 40 = .ok (.iload_n 3, 1) := of_decide_eq_true (List.all_eq_true.mp dsX0_hearsIn_0_ok (40, (.iload_n 3, 1)) (List.mem_of_getElem? (i := 19) rfl))
theorem dX0_hearsIn_41 : decode cX0_hearsIn 41 = .ok (.invokevirtual 88, 3) := of_decide_eq_true (List.all_eq_true.mp dsX0_hearsIn_0_ok (41, (.invokevirtual 88, 3)) (List.mem_of_getElem? (i := 20) rfl))
theorem dX0_hearsIn_44 : decode cX0_hearsIn 44 = .ok (.aload_n 0, 1) := of_decide_eq_true (List.all_eq_true.mp dsX0_hearsIn_0_ok (44, (.aload_n 0, 1)) (List.mem_of_getElem? (i := 21) rfl))
theorem dX0_hearsIn_45 : decode cX0_hearsIn 45 = .ok (.sipush 316, 3) := of_decide_eq_true (List.all_eq_true.mp dsX0_hearsIn_0_ok (45, (.sipush 316, 3)) (List.mem_of_getElem? (i := 22) rfl))
theorem dX0_hearsIn_48 : decode cX0_hearsIn 48 = .ok (.aload_n 0, 1) := of_decide_eq_true (List.all_eq_true.mp dsX0_hearsIn_0_ok (48, (.aload_n 0, 1)) (List.mem_of_getElem? (i := 23) rfl))
theorem dX0_hearsIn_49 : decode cX0_hearsIn 49 = .ok (.getfield 18, 3) := of_decide_eq_true (List.all_eq_true.mp dsX0_hearsIn_0_ok (49, (.getfield 18, 3)) (List.mem_of_getElem? (i := 24) rfl))
theorem dX0_hearsIn_52 : decode cX0_hearsIn 52 = .ok (.aload_n 1, 1) := of_decide_eq_true (List.all_eq_true.mp dsX0_hearsIn_0_ok (52, (.aload_n 1, 1)) (List.mem_of_getElem? (i := 25) rfl))
theorem dX0_hearsIn_53 : decode cX0_hearsIn 53 = .ok (.getfield 60, 3) := of_decide_eq_true (List.all_eq_true.mp dsX0_hearsIn_0_ok (53, (.getfield 60, 3)) (List.mem_of_getElem? (i := 26) rfl))
theorem dX0_hearsIn_56 : decode cX0_hearsIn 56 = .ok (.invokevirtual 111, 3) := of_decide_eq_true (List.all_eq_true.mp dsX0_hearsIn_0_ok (56, (.invokevirtual 111, 3)) (List.mem_of_getElem? (i := 27) rfl))
theorem dX0_hearsIn_59 : decode cX0_hearsIn 59 = .ok (.invokevirtual 88, 3) := of_decide_eq_true (List.all_eq_true.mp dsX0_hearsIn_0_ok (59, (.invokevirtual 88, 3)) (List.mem_of_getElem? (i := 28) rfl))
theorem dX0_hearsIn_62 : decode cX0_hearsIn 62 = .ok (.aload_n 0, 1) := of_decide_eq_true (List.all_eq_true.mp dsX0_hearsIn_0_ok (62, (.aload_n 0, 1)) (List.mem_of_getElem? (i := 29) rfl))
theorem dX0_hearsIn_63 : decode cX0_hearsIn 63 = .ok (.aload_n 0, 1) := of_decide_eq_true (List.all_eq_true.mp dsX0_hearsIn_0_ok (63, (.aload_n 0, 1)) (List.mem_of_getElem? (i := 30) rfl))
theorem dX0_hearsIn_64 : decode cX0_hearsIn 64 = .ok (.getfield 18, 3) := of_decide_eq_true (List.all_eq_true.mp dsX0_hearsIn_0_ok (64, (.getfield 18, 3)) (List.mem_of_getElem? (i := 31) rfl))
theorem dX0_hearsIn_67 : decode cX0_hearsIn 67 = .ok (.getfield 115, 3) := of_decide_eq_true (List.all_eq_true.mp dsX0_hearsIn_0_ok (67, (.getfield 115, 3)) (List.mem_of_getElem? (i := 32) rfl))
theorem dX0_hearsIn_70 : decode cX0_hearsIn 70 = .ok (.invokevirtual 95, 3) := of_decide_eq_true (List.all_eq_true.mp dsX0_hearsIn_0_ok (70, (.invokevirtual 95, 3)) (List.mem_of_getElem? (i := 33) rfl))
theorem dX0_hearsIn_73 : decode cX0_hearsIn 73 = .ok (.ifCond .eq 7, 3) := of_decide_eq_true (List.all_eq_true.mp dsX0_hearsIn_0_ok (73, (.ifCond .eq 7, 3)) (List.mem_of_getElem? (i := 34) rfl))
theorem dX0_hearsIn_76 : decode cX0_hearsIn 76 = .ok (.iconst 1, 1) := of_decide_eq_true (List.all_eq_true.mp dsX0_hearsIn_0_ok (76, (.iconst 1, 1)) (List.mem_of_getElem? (i := 35) rfl))
theorem dX0_hearsIn_77 : decode cX0_hearsIn 77 = .ok (.goto 4, 3) := of_decide_eq_true (List.all_eq_true.mp dsX0_hearsIn_0_ok (77, (.goto 4, 3)) (List.mem_of_getElem? (i := 36) rfl))
theorem dX0_hearsIn_80 : decode cX0_hearsIn 80 = .ok (.iconst 0, 1) := of_decide_eq_true (List.all_eq_true.mp dsX0_hearsIn_0_ok (80, (.iconst 0, 1)) (List.mem_of_getElem? (i := 37) rfl))
theorem dX0_hearsIn_81 : decode cX0_hearsIn 81 = .ok (.ireturn, 1) := of_decide_eq_true (List.all_eq_true.mp dsX0_hearsIn_0_ok (81, (.ireturn, 1)) (List.mem_of_getElem? (i := 38) rfl))
def fX0_hearsIn (N : Nat) (moI : Nat → Int32) (co_valuesF : Nat → Int32) (homeI : Nat → Int32) (home_sharpsF : Nat → Int32) (home_hearsF : Nat → Int32) (co_stackF : Nat → Int32) (home_hearsN : Nat) (p2 : Int32) (p3 : Int32) (p4 : Int32) : Option (Int32 × (Nat → Int32) × (Nat → Int32)) :=
  (xq_bd (fX0_set N co_valuesF 313 (moI 0)) fun r_1 => (xq_bd (fX0_set N r_1 302 p4) fun r_3 => (xq_bd (xq_ald 7 home_sharpsF p2) fun v_5 => (xq_bd (fX0_set N r_3 306 v_5) fun r_6 => (xq_bd (fX0_set N r_6 305 p3) fun r_8 => (xq_bd (fX2_farOf N homeI (moI 1)) fun r_10 => (xq_bd (fX0_set N r_8 316 r_10) fun r_12 => (xq_bd (fX0_resultOf N home_hearsF co_stackF r_12 home_hearsN) fun (r_14_0, r_14_1) => (if r_14_0 = 0 then some ((0, r_12, r_14_1)) else some ((1, r_12, r_14_1)))))))))))
set_option maxHeartbeats 4000000 in
set_option maxRecDepth 100000 in
theorem kX0_hearsIn (l : Launch) (dC : Nat → ClassId) (dI : Nat → Nat → Nat) (cI cB cJ cZ cM : ClassId) (z : Nat) (ad : Nat → Nat) (N : Nat) (a_p1 : Nat) (moI : Nat → Int32) (moR : Nat → Nat) (a_p0 : Nat) (coI : Nat → Int32) (coR : Nat → Nat) (co_valuesF : Nat → Int32) (homeI : Nat → Int32) (homeR : Nat → Nat) (home_sharpsF : Nat → Int32) (home_hearsF : Nat → Int32) (home_hearsN : Nat) (co_stackF : Nat → Int32) (p2 : Int32) (p3 : Int32) (p4 : Int32) {r0 : Int32} {r1 : Nat → Int32} {r2 : Nat → Int32} (hf : fX0_hearsIn N moI co_valuesF homeI home_sharpsF home_hearsF co_stackF home_hearsN p2 p3 p4 = some (r0, r1, r2)) : xq_Ct l yX0_hearsIn wsX0_hearsIn { frames := 3, cells := 0, slots := 0, locals := 75 } (dC, dI) vwCl (xq_tys cI cB cJ cZ cM) z ad [.ref a_p0, .ref a_p1, .int p2, .int p3, .int p4] [(a_p1, .inr (6, oX6 moI moR)), (a_p0, .inr (0, oX0 coI coR)), ((coR 1), .inl (cI, 24, .inl co_valuesF)), ((coR 0), .inr (2, oX2 homeI homeR)), ((homeR 9), .inl (cI, 7, .inl home_sharpsF)), ((homeR 14), .inl (cI, home_hearsN, .inl home_hearsF)), ((coR 2), .inl (cI, 64, .inl co_stackF))] [(a_p1, .inr (6, oX6 moI moR)), (a_p0, .inr (0, oX0 coI coR)), ((coR 1), .inl (cI, 24, .inl r1)), ((coR 0), .inr (2, oX2 homeI homeR)), ((homeR 9), .inl (cI, 7, .inl home_sharpsF)), ((homeR 14), .inl (cI, home_hearsN, .inl home_hearsF)), ((coR 2), .inl (cI, 64, .inl r2))] (some (.int r0)) := by
  intro sz
  refine Met.ofW (cc := cX0_hearsIn) (maxL := 5) (ret := (some .boolean)) (by decide) rfl ?_
  intro p e s m args below meth c s₁ B hml hv
  obtain ⟨rfl, hsz, hP, hK, hD0, hE, hz⟩ := hv
  have hx := B.exec
  have hb := B.bytes
  have hr := B.returns
  have hts := atoms_spec (ws := wsX0_hearsIn) B.pre
  have hown : s.vm.findClass RX0 = some m.cls := findClass_of_methodNamed B.named
  have hlocks := B.notSynchronized
  subst hsz
  have hD := hD0.self (sz := s.heap.size)
  have hN := xq_Env.of hE hz hD0
  generalize hAe : va_A [(a_p1, .inr (6, oX6 moI moR)), (a_p0, .inr (0, oX0 coI coR)), ((coR 1), .inl (cI, 24, .inl co_valuesF)), ((coR 0), .inr (2, oX2 homeI homeR)), ((homeR 9), .inl (cI, 7, .inl home_sharpsF)), ((homeR 14), .inl (cI, home_hearsN, .inl home_hearsF)), ((coR 2), .inl (cI, 64, .inl co_stackF))] s.heap.size = A at hD hN ⊢
  have hA : ∀ q : Nat, s.heap.size ≤ q → A q := fun q h => by rw [← hAe]; exact Or.inr h
  clear hAe hD0
  have hS : va_S A s.heap s.heap [] := va_S.rf
  have hl := lv_entry ([.ref a_p0, .ref a_p1, .int p2, .int p3, .int p4]) (n := 5) (Nat.le_of_ble_eq_true rfl)
  rw [lg_entry_eq]
  generalize (lg_sl ([.ref a_p0, .ref a_p1, .int p2, .int p3, .int p4]) ++ List.replicate (5 - (lg_sl ([.ref a_p0, .ref a_p1, .int p2, .int p3, .int p4])).length) Slot.unset).toArray = ls at hl ⊢
  have hl : lv_has ls 5 [(0, .ref a_p0), (1, .ref a_p1), (2, .int p2), (3, .int p3), (4, .int p4)] := hl
  have hnf6 := va_Nw.use (A := [.ref a_p0, .ref a_p1, .int p2, .int p3, .int p4].toArray) rfl (hN.1.1.1 ("DistantVoice$Course", 85, "DistantVoice$Moment", "night", "I", "DistantVoice") (List.mem_of_getElem? (i := 6) rfl))
  have hinX6 : ∀ w ∈ wsX60, w ∈ wsX0_hearsIn := fun w h => List.mem_cons_of_mem _ (List.mem_append_left _ (List.mem_append_left _ (List.mem_append_right _ h)))
  have hw2 := hts (.fieldLink RX0 18 "DistantVoice$Course" "home" "LDistantVoice$House;") (by decide +kernel)
  have hinX0 : ∀ w ∈ wsX00, w ∈ wsX0_hearsIn := fun w h => List.mem_cons_of_mem _ (List.mem_append_left _ (List.mem_append_right _ h))
  have hnf59 := va_Nw.use (A := [.ref a_p0, .ref a_p1, .int p2, .int p3, .int p4].toArray) rfl (hN.1.1.1 ("DistantVoice$Course", 108, "DistantVoice$House", "sharps", "[I", "DistantVoice") (List.mem_of_getElem? (i := 59) rfl))
  have hinX2 : ∀ w ∈ wsX20, w ∈ wsX0_hearsIn := fun w h => List.mem_cons_of_mem _ (List.mem_append_right _ h)
  have hnf8 := va_Nw.use (A := [.ref a_p0, .ref a_p1, .int p2, .int p3, .int p4].toArray) rfl (hN.1.1.1 ("DistantVoice$Course", 60, "DistantVoice$Moment", "mile", "I", "DistantVoice") (List.mem_of_getElem? (i := 8) rfl))
  have hnf68 := va_Nw.use (A := [.ref a_p0, .ref a_p1, .int p2, .int p3, .int p4].toArray) rfl (hN.1.1.1 ("DistantVoice$Course", 115, "DistantVoice$House", "hears", "[I", "DistantVoice") (List.mem_of_getElem? (i := 68) rfl))
  unfold fX0_hearsIn at hf
  refine lv_aload_n hx hb dX0_hearsIn_0 rfl (lv_at hl 0 rfl) ?_
  refine lv_sipush (v := 313) hx hb dX0_hearsIn_1 (by decide) ?_
  refine lv_aload_n hx hb dX0_hearsIn_4 rfl (lv_at hl 1 rfl) ?_
  refine va_getN (D := (dC, dI)) (ci := 6) (v := .int (moI 0)) (C := RX6) (T := TX6) (N := 8) hx hb hts hinX6 hown hK hP 0 rfl rfl 0 (by decide) hnf6 (fun _ h9 => h9) rfl dX0_hearsIn_5 ?_
  obtain ⟨r_1, h_2, hf⟩ := xq_bd_some hf
  refine xq_callV (As := [.int 313, .int (moI 0)]) (rest := []) (ci := 0) (q0 := 1) ⟨hx, hb, hml, hown, hts⟩ (kX0_set l dC dI cI cB cJ cZ cM z ad N a_p0 coI coR co_valuesF 313 (moI 0) h_2) (cwV 2 hts gX0_hearsIn_X0_set rfl rfl rfl (by decide +kernel) ⟨Nat.le_of_ble_eq_true rfl, Nat.le_of_ble_eq_true rfl⟩) hN hK hP hD hS hA [1, 2] (by decide) rfl rfl rfl rfl rfl rfl hl.1 rfl (Nat.le_of_ble_eq_true rfl) dX0_hearsIn_8 ⟨Nat.zero_le _, Nat.zero_le _⟩ (fun H locs hP hD hS => ?_)
  have hP : va_P (dC, dI) vwCl [(a_p1, .inr (6, oX6 moI moR)), (a_p0, .inr (0, oX0 coI coR)), ((coR 1), .inl (cI, 24, .inl r_1)), ((coR 0), .inr (2, oX2 homeI homeR)), ((homeR 9), .inl (cI, 7, .inl home_sharpsF)), ((homeR 14), .inl (cI, home_hearsN, .inl home_hearsF)), ((coR 2), .inl (cI, 64, .inl co_stackF))] H := hP
  have hD : va_D A [(a_p1, .inr (6, oX6 moI moR)), (a_p0, .inr (0, oX0 coI coR)), ((coR 1), .inl (cI, 24, .inl r_1)), ((coR 0), .inr (2, oX2 homeI homeR)), ((homeR 9), .inl (cI, 7, .inl home_sharpsF)), ((homeR 14), .inl (cI, home_hearsN, .inl home_hearsF)), ((coR 2), .inl (cI, 64, .inl co_stackF))] := hD
  refine W.eq (g2 := F0 m 11 ls []) rfl ?_
  refine lv_aload_n hx hb dX0_hearsIn_11 rfl (lv_at hl 0 rfl) ?_
  refine lv_sipush (v := 302) hx hb dX0_hearsIn_12 (by decide) ?_
  refine lv_iload hx hb dX0_hearsIn_15 (lv_at hl 4 rfl) ?_
  obtain ⟨r_3, h_4, hf⟩ := xq_bd_some hf
  refine xq_callV (As := [.int 302, .int p4]) (rest := []) (ci := 0) (q0 := 1) ⟨hx, hb, hml, hown, hts⟩ (kX0_set l dC dI cI cB cJ cZ cM z ad N a_p0 coI coR r_1 302 p4 h_4) (cwV 2 hts gX0_hearsIn_X0_set rfl rfl rfl (by decide +kernel) ⟨Nat.le_of_ble_eq_true rfl, Nat.le_of_ble_eq_true rfl⟩) hN hK hP hD hS hA [1, 2] (by decide) rfl rfl rfl rfl rfl rfl hl.1 rfl (Nat.le_of_ble_eq_true rfl) dX0_hearsIn_17 ⟨Nat.zero_le _, Nat.zero_le _⟩ (fun H locs hP hD hS => ?_)
  have hP : va_P (dC, dI) vwCl [(a_p1, .inr (6, oX6 moI moR)), (a_p0, .inr (0, oX0 coI coR)), ((coR 1), .inl (cI, 24, .inl r_3)), ((coR 0), .inr (2, oX2 homeI homeR)), ((homeR 9), .inl (cI, 7, .inl home_sharpsF)), ((homeR 14), .inl (cI, home_hearsN, .inl home_hearsF)), ((coR 2), .inl (cI, 64, .inl co_stackF))] H := hP
  have hD : va_D A [(a_p1, .inr (6, oX6 moI moR)), (a_p0, .inr (0, oX0 coI coR)), ((coR 1), .inl (cI, 24, .inl r_3)), ((coR 0), .inr (2, oX2 homeI homeR)), ((homeR 9), .inl (cI, 7, .inl home_sharpsF)), ((homeR 14), .inl (cI, home_hearsN, .inl home_hearsF)), ((coR 2), .inl (cI, 64, .inl co_stackF))] := hD
  refine W.eq (g2 := F0 m 20 ls []) rfl ?_
  refine lv_aload_n hx hb dX0_hearsIn_20 rfl (lv_at hl 0 rfl) ?_
  refine lv_sipush (v := 306) hx hb dX0_hearsIn_21 (by decide) ?_
  refine lv_aload_n hx hb dX0_hearsIn_24 rfl (lv_at hl 0 rfl) ?_
  refine va_get (D := (dC, dI)) (ci := 0) (v := .ref ((coR 0))) (C := RX0) (T := TX0) (N := 3) hx hb hts hinX0 hown hK hP 1 rfl rfl 0 (by decide) hw2 (fun _ h9 => h9) rfl dX0_hearsIn_25 ?_
  refine va_getN (D := (dC, dI)) (ci := 2) (v := .ref ((homeR 9))) (C := RX2) (T := TX2) (N := 19) hx hb hts hinX2 hown hK hP 3 rfl rfl 9 (by decide) hnf59 (fun _ h9 => h9) rfl dX0_hearsIn_28 ?_
  refine lv_iload_n hx hb dX0_hearsIn_31 rfl (lv_at hl 2 rfl) ?_
  refine xq_iald hx hb hK hP 4 0 rfl rfl hf dX0_hearsIn_32 (fun v_5 hf => ?_)
  obtain ⟨r_6, h_7, hf⟩ := xq_bd_some hf
  refine xq_callV (As := [.int 306, .int v_5]) (rest := []) (ci := 0) (q0 := 1) ⟨hx, hb, hml, hown, hts⟩ (kX0_set l dC dI cI cB cJ cZ cM z ad N a_p0 coI coR r_3 306 v_5 h_7) (cwV 2 hts gX0_hearsIn_X0_set rfl rfl rfl (by decide +kernel) ⟨Nat.le_of_ble_eq_true rfl, Nat.le_of_ble_eq_true rfl⟩) hN hK hP hD hS hA [1, 2] (by decide) rfl rfl rfl rfl rfl rfl hl.1 rfl (Nat.le_of_ble_eq_true rfl) dX0_hearsIn_33 ⟨Nat.zero_le _, Nat.zero_le _⟩ (fun H locs hP hD hS => ?_)
  have hP : va_P (dC, dI) vwCl [(a_p1, .inr (6, oX6 moI moR)), (a_p0, .inr (0, oX0 coI coR)), ((coR 1), .inl (cI, 24, .inl r_6)), ((coR 0), .inr (2, oX2 homeI homeR)), ((homeR 9), .inl (cI, 7, .inl home_sharpsF)), ((homeR 14), .inl (cI, home_hearsN, .inl home_hearsF)), ((coR 2), .inl (cI, 64, .inl co_stackF))] H := hP
  have hD : va_D A [(a_p1, .inr (6, oX6 moI moR)), (a_p0, .inr (0, oX0 coI coR)), ((coR 1), .inl (cI, 24, .inl r_6)), ((coR 0), .inr (2, oX2 homeI homeR)), ((homeR 9), .inl (cI, 7, .inl home_sharpsF)), ((homeR 14), .inl (cI, home_hearsN, .inl home_hearsF)), ((coR 2), .inl (cI, 64, .inl co_stackF))] := hD
  refine W.eq (g2 := F0 m 36 ls []) rfl ?_
  refine lv_aload_n hx hb dX0_hearsIn_36 rfl (lv_at hl 0 rfl) ?_
  refine lv_sipush (v := 305) hx hb dX0_hearsIn_37 (by decide) ?_
  refine lv_iload_n hx hb dX0_hearsIn_40 rfl (lv_at hl 3 rfl) ?_
  obtain ⟨r_8, h_9, hf⟩ := xq_bd_some hf
  refine xq_callV (As := [.int 305, .int p3]) (rest := []) (ci := 0) (q0 := 1) ⟨hx, hb, hml, hown, hts⟩ (kX0_set l dC dI cI cB cJ cZ cM z ad N a_p0 coI coR r_6 305 p3 h_9) (cwV 2 hts gX0_hearsIn_X0_set rfl rfl rfl (by decide +kernel) ⟨Nat.le_of_ble_eq_true rfl, Nat.le_of_ble_eq_true rfl⟩) hN hK hP hD hS hA [1, 2] (by decide) rfl rfl rfl rfl rfl rfl hl.1 rfl (Nat.le_of_ble_eq_true rfl) dX0_hearsIn_41 ⟨Nat.zero_le _, Nat.zero_le _⟩ (fun H locs hP hD hS => ?_)
  have hP : va_P (dC, dI) vwCl [(a_p1, .inr (6, oX6 moI moR)), (a_p0, .inr (0, oX0 coI coR)), ((coR 1), .inl (cI, 24, .inl r_8)), ((coR 0), .inr (2, oX2 homeI homeR)), ((homeR 9), .inl (cI, 7, .inl home_sharpsF)), ((homeR 14), .inl (cI, home_hearsN, .inl home_hearsF)), ((coR 2), .inl (cI, 64, .inl co_stackF))] H := hP
  have hD : va_D A [(a_p1, .inr (6, oX6 moI moR)), (a_p0, .inr (0, oX0 coI coR)), ((coR 1), .inl (cI, 24, .inl r_8)), ((coR 0), .inr (2, oX2 homeI homeR)), ((homeR 9), .inl (cI, 7, .inl home_sharpsF)), ((homeR 14), .inl (cI, home_hearsN, .inl home_hearsF)), ((coR 2), .inl (cI, 64, .inl co_stackF))] := hD
  refine W.eq (g2 := F0 m 44 ls []) rfl ?_
  refine lv_aload_n hx hb dX0_hearsIn_44 rfl (lv_at hl 0 rfl) ?_
  refine lv_sipush (v := 316) hx hb dX0_hearsIn_45 (by decide) ?_
  refine lv_aload_n hx hb dX0_hearsIn_48 rfl (lv_at hl 0 rfl) ?_
  refine va_get (D := (dC, dI)) (ci := 0) (v := .ref ((coR 0))) (C := RX0) (T := TX0) (N := 3) hx hb hts hinX0 hown hK hP 1 rfl rfl 0 (by decide) hw2 (fun _ h9 => h9) rfl dX0_hearsIn_49 ?_
  refine lv_aload_n hx hb dX0_hearsIn_52 rfl (lv_at hl 1 rfl) ?_
  refine va_getN (D := (dC, dI)) (ci := 6) (v := .int (moI 1)) (C := RX6) (T := TX6) (N := 8) hx hb hts hinX6 hown hK hP 0 rfl rfl 1 (by decide) hnf8 (fun _ h9 => h9) rfl dX0_hearsIn_53 ?_
  obtain ⟨r_10, h_11, hf⟩ := xq_bd_some hf
  refine xq_callV (As := [.int (moI 1)]) (rest := [.int 316, .ref a_p0]) (ci := 2) (q0 := 3) ⟨hx, hb, hml, hown, hts⟩ (kX2_farOf l dC dI cI cB cJ cZ cM z ad N ((coR 0)) homeI homeR (moI 1) h_11) (cwV 1 hts gX0_hearsIn_X2_farOf rfl rfl rfl (by decide +kernel) ⟨Nat.le_of_ble_eq_true rfl, Nat.le_of_ble_eq_true rfl⟩) hN hK hP hD hS hA [3] (by decide) rfl rfl rfl rfl rfl rfl hl.1 rfl (Nat.le_of_ble_eq_true rfl) dX0_hearsIn_56 ⟨Nat.zero_le _, Nat.zero_le _⟩ (fun H locs hP hD hS => ?_)
  have hP : va_P (dC, dI) vwCl [(a_p1, .inr (6, oX6 moI moR)), (a_p0, .inr (0, oX0 coI coR)), ((coR 1), .inl (cI, 24, .inl r_8)), ((coR 0), .inr (2, oX2 homeI homeR)), ((homeR 9), .inl (cI, 7, .inl home_sharpsF)), ((homeR 14), .inl (cI, home_hearsN, .inl home_hearsF)), ((coR 2), .inl (cI, 64, .inl co_stackF))] H := hP
  have hD : va_D A [(a_p1, .inr (6, oX6 moI moR)), (a_p0, .inr (0, oX0 coI coR)), ((coR 1), .inl (cI, 24, .inl r_8)), ((coR 0), .inr (2, oX2 homeI homeR)), ((homeR 9), .inl (cI, 7, .inl home_sharpsF)), ((homeR 14), .inl (cI, home_hearsN, .inl home_hearsF)), ((coR 2), .inl (cI, 64, .inl co_stackF))] := hD
  refine W.eq (g2 := F0 m 59 ls [.int r_10, .int 316, .ref a_p0]) rfl ?_
  obtain ⟨r_12, h_13, hf⟩ := xq_bd_some hf
  refine xq_callV (As := [.int 316, .int r_10]) (rest := []) (ci := 0) (q0 := 1) ⟨hx, hb, hml, hown, hts⟩ (kX0_set l dC dI cI cB cJ cZ cM z ad N a_p0 coI coR r_8 316 r_10 h_13) (cwV 2 hts gX0_hearsIn_X0_set rfl rfl rfl (by decide +kernel) ⟨Nat.le_of_ble_eq_true rfl, Nat.le_of_ble_eq_true rfl⟩) hN hK hP hD hS hA [1, 2] (by decide) rfl rfl rfl rfl rfl rfl hl.1 rfl (Nat.le_of_ble_eq_true rfl) dX0_hearsIn_59 ⟨Nat.zero_le _, Nat.zero_le _⟩ (fun H locs hP hD hS => ?_)
  have hP : va_P (dC, dI) vwCl [(a_p1, .inr (6, oX6 moI moR)), (a_p0, .inr (0, oX0 coI coR)), ((coR 1), .inl (cI, 24, .inl r_12)), ((coR 0), .inr (2, oX2 homeI homeR)), ((homeR 9), .inl (cI, 7, .inl home_sharpsF)), ((homeR 14), .inl (cI, home_hearsN, .inl home_hearsF)), ((coR 2), .inl (cI, 64, .inl co_stackF))] H := hP
  have hD : va_D A [(a_p1, .inr (6, oX6 moI moR)), (a_p0, .inr (0, oX0 coI coR)), ((coR 1), .inl (cI, 24, .inl r_12)), ((coR 0), .inr (2, oX2 homeI homeR)), ((homeR 9), .inl (cI, 7, .inl home_sharpsF)), ((homeR 14), .inl (cI, home_hearsN, .inl home_hearsF)), ((coR 2), .inl (cI, 64, .inl co_stackF))] := hD
  refine W.eq (g2 := F0 m 62 ls []) rfl ?_
  refine lv_aload_n hx hb dX0_hearsIn_62 rfl (lv_at hl 0 rfl) ?_
  refine lv_aload_n hx hb dX0_hearsIn_63 rfl (lv_at hl 0 rfl) ?_
  refine va_get (D := (dC, dI)) (ci := 0) (v := .ref ((coR 0))) (C := RX0) (T := TX0) (N := 3) hx hb hts hinX0 hown hK hP 1 rfl rfl 0 (by decide) hw2 (fun _ h9 => h9) rfl dX0_hearsIn_64 ?_
  refine va_getN (D := (dC, dI)) (ci := 2) (v := .ref ((homeR 14))) (C := RX2) (T := TX2) (N := 19) hx hb hts hinX2 hown hK hP 3 rfl rfl 14 (by decide) hnf68 (fun _ h9 => h9) rfl dX0_hearsIn_67 ?_
  obtain ⟨⟨r_14_0, r_14_1⟩, h_15, hf⟩ := xq_bd_some hf
  refine xq_callV (As := [.ref ((homeR 14))]) (rest := []) (ci := 0) (q0 := 1) ⟨hx, hb, hml, hown, hts⟩ (kX0_resultOf l dC dI cI cB cJ cZ cM z ad N ((homeR 14)) home_hearsF home_hearsN a_p0 coI coR co_stackF r_12 h_15) (cwV 1 hts gX0_hearsIn_X0_resultOf rfl rfl rfl (by decide +kernel) ⟨Nat.le_of_ble_eq_true rfl, Nat.le_of_ble_eq_true rfl⟩) hN hK hP hD hS hA [5, 1, 6, 2] (by decide) rfl rfl rfl rfl rfl rfl hl.1 rfl (Nat.le_of_ble_eq_true rfl) dX0_hearsIn_70 ⟨Nat.zero_le _, Nat.zero_le _⟩ (fun H locs hP hD hS => ?_)
  have hP : va_P (dC, dI) vwCl [(a_p1, .inr (6, oX6 moI moR)), (a_p0, .inr (0, oX0 coI coR)), ((coR 1), .inl (cI, 24, .inl r_12)), ((coR 0), .inr (2, oX2 homeI homeR)), ((homeR 9), .inl (cI, 7, .inl home_sharpsF)), ((homeR 14), .inl (cI, home_hearsN, .inl home_hearsF)), ((coR 2), .inl (cI, 64, .inl r_14_1))] H := hP
  have hD : va_D A [(a_p1, .inr (6, oX6 moI moR)), (a_p0, .inr (0, oX0 coI coR)), ((coR 1), .inl (cI, 24, .inl r_12)), ((coR 0), .inr (2, oX2 homeI homeR)), ((homeR 9), .inl (cI, 7, .inl home_sharpsF)), ((homeR 14), .inl (cI, home_hearsN, .inl home_hearsF)), ((coR 2), .inl (cI, 64, .inl r_14_1))] := hD
  refine W.eq (g2 := F0 m 73 ls [.int r_14_0]) rfl ?_
  refine lv_if_eq (tgt := 80) hx hb dX0_hearsIn_73 (by decide) (fun c_ => ?_) (fun c_ => ?_)
  · have hf := xq_pos hf c_
    refine lv_iconst (v := 0) hx hb dX0_hearsIn_80 (by decide) ?_
    cases hf
    exact xq_zret hx hb hr (by decide +kernel) hlocks hK hP hD hS dX0_hearsIn_81
  · have hf := xq_neg hf c_
    refine lv_iconst (v := 1) hx hb dX0_hearsIn_76 (by decide) ?_
    refine lv_goto (tgt := 81) hx hb dX0_hearsIn_77 (by decide) ?_
    cases hf
    exact xq_zret hx hb hr (by decide +kernel) hlocks hK hP hD hS dX0_hearsIn_81
set_option maxRecDepth 20000 in
theorem ggX0_earsHearing_X0_hearsIn : GoodIn wsX0_earsHearing wsX0_hearsIn := goodIn_r _ [6, 1, 7, 8, 9, 5, 10, 11, 12, 13, 14, 15, 16, 17, 18, 19, 20, 21, 22, 23, 24, 25, 26, 27, 28, 29, 30, 31, 32, 33, 34, 35, 36, 37, 38, 39, 40, 41, 42, 43, 44, 45, 46, 47, 48, 71, 72, 73, 74, 75, 76, 77, 78, 49, 50, 51, 52, 53, 54, 55, 56, 57, 58, 59, 60, 61, 62, 63, 64, 65, 66, 67, 68, 69, 70] rfl (by decide +kernel)
set_option maxRecDepth 20000 in
theorem gX0_earsHearing_X0_hearsIn : GoodIn wsX0_earsHearing (wsV RX0 44 RX0 yX0_hearsIn wsX0_hearsIn) := goodIn_app (goodIn_of _ (by decide +kernel)) ggX0_earsHearing_X0_hearsIn
def dsX0_earsHearing_0 : List (Nat × Instr × Nat) := [(0, (.iconst 0, 1)), (1, (.istore_n 3, 1)), (2, (.iconst 0, 1)), (3, (.istore 4, 2)), (5, (.iload 4, 2)), (7, (.aload_n 0, 1)), (8, (.getfield 18, 3)), (11, (.getfield 35, 3)), (14, (.if_icmp .ge 34, 3)), (17, (.aload_n 0, 1)), (18, (.aload_n 1, 1)), (19, (.iload 4, 2)), (21, (.aload_n 1, 1)), (22, (.getfield 41, 3)), (25, (.iload 4, 2)), (27, (.iaload, 1)), (28, (.iload_n 2, 1)), (29, (.invokevirtual 44, 3)), (32, (.ifCond .eq 10, 3)), (35, (.iload_n 3, 1)), (36, (.iconst 1, 1)), (37, (.iload 4, 2)), (39, (.ishl, 1)), (40, (.ior, 1)), (41, (.istore_n 3, 1)), (42, (.iinc 4 1, 3)), (45, (.goto (-40), 3)), (48, (.iload_n 3, 1)), (49, (.ireturn, 1))]
theorem dsX0_earsHearing_0_ok : (dsX0_earsHearing_0.all fun q => decide (decode cX0_earsHearing q.1 = .ok q.2)) = true := by decide +kernel
theorem dX0_earsHearing_0 : decode cX0_earsHearing 0 = .ok (.iconst 0, 1) := of_decide_eq_true (List.all_eq_true.mp dsX0_earsHearing_0_ok (0, (.iconst 0, 1)) (List.mem_of_getElem? (i := 0) rfl))
theorem dX0_earsHearing_1 : decode cX0_earsHearing 1 = .ok (.istore_n 3, 1) := of_decide_eq_true (List.all_eq_true.mp dsX0_earsHearing_0_ok (1, (.istore_n 3, 1)) (List.mem_of_getElem? (i := 1) rfl))
theorem dX0_earsHearing_2 : decode cX0_earsHearing 2 = .ok (.iconst 0, 1) := of_decide_eq_true (List.all_eq_true.mp dsX0_earsHearing_0_ok (2, (.iconst 0, 1)) (List.mem_of_getElem? (i := 2) rfl))
theorem dX0_earsHearing_3 : decode cX0_earsHearing 3 = .ok (.istore 4, 2) := of_decide_eq_true (List.all_eq_true.mp dsX0_earsHearing_0_ok (3, (.istore 4, 2)) (List.mem_of_getElem? (i := 3) rfl))
theorem dX0_earsHearing_5 : decode cX0_earsHearing 5 = .ok (.iload 4, 2) := of_decide_eq_true (List.all_eq_true.mp dsX0_earsHearing_0_ok (5, (.iload 4, 2)) (List.mem_of_getElem? (i := 4) rfl))
theorem dX0_earsHearing_7 : decode cX0_earsHearing 7 = .ok (.aload_n 0, 1) := of_decide_eq_true (List.all_eq_true.mp dsX0_earsHearing_0_ok (7, (.aload_n 0, 1)) (List.mem_of_getElem? (i := 5) rfl))
theorem dX0_earsHearing_8 : decode cX0_earsHearing 8 = .ok (.getfield 18, 3) := of_decide_eq_true (List.all_eq_true.mp dsX0_earsHearing_0_ok (8, (.getfield 18, 3)) (List.mem_of_getElem? (i := 6) rfl))
theorem dX0_earsHearing_11 : decode cX0_earsHearing 11 = .ok (.getfield 35, 3) := of_decide_eq_true (List.all_eq_true.mp dsX0_earsHearing_0_ok (11, (.getfield 35, 3)) (List.mem_of_getElem? (i := 7) rfl))
theorem dX0_earsHearing_14 : decode cX0_earsHearing 14 = .ok (.if_icmp .ge 34, 3) := of_decide_eq_true (List.all_eq_true.mp dsX0_earsHearing_0_ok (14, (.if_icmp .ge 34, 3)) (List.mem_of_getElem? (i := 8) rfl))
theorem dX0_earsHearing_17 : decode cX0_earsHearing 17 = .ok (.aload_n 0, 1) := of_decide_eq_true (List.all_eq_true.mp dsX0_earsHearing_0_ok (17, (.aload_n 0, 1)) (List.mem_of_getElem? (i := 9) rfl))
theorem dX0_earsHearing_18 : decode cX0_earsHearing 18 = .ok (.aload_n 1, 1) := of_decide_eq_true (List.all_eq_true.mp dsX0_earsHearing_0_ok (18, (.aload_n 1, 1)) (List.mem_of_getElem? (i := 10) rfl))
theorem dX0_earsHearing_19 : decode cX0_earsHearing 19 = .ok (.iload 4, 2) := of_decide_eq_true (List.all_eq_true.mp dsX0_earsHearing_0_ok (19, (.iload 4, 2)) (List.mem_of_getElem? (i := 11) rfl))
theorem dX0_earsHearing_21 : decode cX0_earsHearing 21 = .ok (.aload_n 1, 1) := of_decide_eq_true (List.all_eq_true.mp dsX0_earsHearing_0_ok (21, (.aload_n 1, 1)) (List.mem_of_getElem? (i := 12) rfl))
theorem dX0_earsHearing_22 : decode cX0_earsHearing 22 = .ok (.getfield 41, 3) := of_decide_eq_true (List.all_eq_true.mp dsX0_earsHearing_0_ok (22, (.getfield 41, 3)) (List.mem_of_getElem? (i := 13) rfl))
theorem dX0_earsHearing_25 : decode cX0_earsHearing 25 = .ok (.iload 4, 2) := of_decide_eq_true (List.all_eq_true.mp dsX0_earsHearing_0_ok (25, (.iload 4, 2)) (List.mem_of_getElem? (i := 14) rfl))
theorem dX0_earsHearing_27 : decode cX0_earsHearing 27 = .ok (.iaload, 1) := of_decide_eq_true (List.all_eq_true.mp dsX0_earsHearing_0_ok (27, (.iaload, 1)) (List.mem_of_getElem? (i := 15) rfl))
theorem dX0_earsHearing_28 : decode cX0_earsHearing 28 = .ok (.iload_n 2, 1) := of_decide_eq_true (List.all_eq_true.mp dsX0_earsHearing_0_ok (28, (.iload_n 2, 1)) (List.mem_of_getElem? (i := 16) rfl))
theorem dX0_earsHearing_29 : decode cX0_earsHearing 29 = .ok (.invokevirtual 44, 3) := of_decide_eq_true (List.all_eq_true.mp dsX0_earsHearing_0_ok (29, (.invokevirtual 44, 3)) (List.mem_of_getElem? (i := 17) rfl))
theorem dX0_earsHearing_32 : decode cX0_earsHearing 32 = .ok (.ifCond .eq 10, 3) := of_decide_eq_true (List.all_eq_true.mp dsX0_earsHearing_0_ok (32, (.ifCond .eq 10, 3)) (List.mem_of_getElem? (i := 18) rfl))
theorem dX0_earsHearing_35 : decode cX0_earsHearing 35 = .ok (.iload_n 3, 1) := of_decide_eq_true (List.all_eq_true.mp dsX0_earsHearing_0_ok (35, (.iload_n 3, 1)) (List.mem_of_getElem? (i := 19) rfl))
theorem dX0_earsHearing_36 : decode cX0_earsHearing 36 = .ok (.iconst 1, 1) := of_decide_eq_true (List.all_eq_true.mp dsX0_earsHearing_0_ok (36, (.iconst 1, 1)) (List.mem_of_getElem? (i := 20) rfl))
theorem dX0_earsHearing_37 : decode cX0_earsHearing 37 = .ok (.iload 4, 2) := of_decide_eq_true (List.all_eq_true.mp dsX0_earsHearing_0_ok (37, (.iload 4, 2)) (List.mem_of_getElem? (i := 21) rfl))
theorem dX0_earsHearing_39 : decode cX0_earsHearing 39 = .ok (.ishl, 1) := of_decide_eq_true (List.all_eq_true.mp dsX0_earsHearing_0_ok (39, (.ishl, 1)) (List.mem_of_getElem? (i := 22) rfl))
theorem dX0_earsHearing_40 : decode cX0_earsHearing 40 = .ok (.ior, 1) := of_decide_eq_true (List.all_eq_true.mp dsX0_earsHearing_0_ok (40, (.ior, 1)) (List.mem_of_getElem? (i := 23) rfl))
theorem dX0_earsHearing_41 : decode cX0_earsHearing 41 = .ok (.istore_n 3, 1) := of_decide_eq_true (List.all_eq_true.mp dsX0_earsHearing_0_ok (41, (.istore_n 3, 1)) (List.mem_of_getElem? (i := 24) rfl))
theorem dX0_earsHearing_42 : decode cX0_earsHearing 42 = .ok (.iinc 4 1, 3) := of_decide_eq_true (List.all_eq_true.mp dsX0_earsHearing_0_ok (42, (.iinc 4 1, 3)) (List.mem_of_getElem? (i := 25) rfl))
theorem dX0_earsHearing_45 : decode cX0_earsHearing 45 = .ok (.goto (-40), 3) := of_decide_eq_true (List.all_eq_true.mp dsX0_earsHearing_0_ok (45, (.goto (-40), 3)) (List.mem_of_getElem? (i := 26) rfl))
theorem dX0_earsHearing_48 : decode cX0_earsHearing 48 = .ok (.iload_n 3, 1) := of_decide_eq_true (List.all_eq_true.mp dsX0_earsHearing_0_ok (48, (.iload_n 3, 1)) (List.mem_of_getElem? (i := 27) rfl))
theorem dX0_earsHearing_49 : decode cX0_earsHearing 49 = .ok (.ireturn, 1) := of_decide_eq_true (List.all_eq_true.mp dsX0_earsHearing_0_ok (49, (.ireturn, 1)) (List.mem_of_getElem? (i := 28) rfl))
def fX0_earsHearing_b42 (N : Nat) (homeI : Nat → Int32) (moI : Nat → Int32) (mo_rowsF : Nat → Int32) (home_sharpsF : Nat → Int32) (home_hearsF : Nat → Int32) (home_hearsN : Nat) (k5 : ((Nat → Int32) × (Nat → Int32) × Int32 × Int32 × Int32) → Option (Int32 × (Nat → Int32) × (Nat → Int32))) : ((Nat → Int32) × (Nat → Int32) × Int32 × Int32 × Int32) → Option (Int32 × (Nat → Int32) × (Nat → Int32)) :=
  fun (co_valuesF_42, co_stackF_42, x2_42, x3_42, x4_42) => k5 (co_valuesF_42, co_stackF_42, x2_42, x3_42, x4_42 + 1)
def fX0_earsHearing_l5 (N : Nat) (homeI : Nat → Int32) (moI : Nat → Int32) (mo_rowsF : Nat → Int32) (home_sharpsF : Nat → Int32) (home_hearsF : Nat → Int32) (home_hearsN : Nat) (k5 : ((Nat → Int32) × (Nat → Int32) × Int32 × Int32 × Int32) → Option (Int32 × (Nat → Int32) × (Nat → Int32))) : ((Nat → Int32) × (Nat → Int32) × Int32 × Int32 × Int32) → Option (Int32 × (Nat → Int32) × (Nat → Int32)) :=
  fun (co_valuesF_5, co_stackF_5, x2_5, x3_5, x4_5) => (if (homeI 5) ≤ x4_5 then some ((x3_5, co_valuesF_5, co_stackF_5)) else (xq_bd (xq_ald 7 mo_rowsF x4_5) fun v_1 => (xq_bd (fX0_hearsIn N moI co_valuesF_5 homeI home_sharpsF home_hearsF co_stackF_5 home_hearsN x4_5 v_1 x2_5) fun (r_2_0, r_2_1, r_2_2) => (if r_2_0 = 0 then fX0_earsHearing_b42 N homeI moI mo_rowsF home_sharpsF home_hearsF home_hearsN k5 (r_2_1, r_2_2, x2_5, x3_5, x4_5) else fX0_earsHearing_b42 N homeI moI mo_rowsF home_sharpsF home_hearsF home_hearsN k5 (r_2_1, r_2_2, x2_5, x3_5 ||| (1 <<< (x4_5 &&& 31)), x4_5)))))
def fX0_earsHearing (N : Nat) (homeI : Nat → Int32) (moI : Nat → Int32) (mo_rowsF : Nat → Int32) (co_valuesF : Nat → Int32) (home_sharpsF : Nat → Int32) (home_hearsF : Nat → Int32) (co_stackF : Nat → Int32) (home_hearsN : Nat) (p2 : Int32) : Option (Int32 × (Nat → Int32) × (Nat → Int32)) :=
  xq_loop (fX0_earsHearing_l5 N homeI moI mo_rowsF home_sharpsF home_hearsF home_hearsN) N (co_valuesF, co_stackF, p2, 0, 0)
set_option maxHeartbeats 4000000 in
set_option maxRecDepth 100000 in
theorem kX0_earsHearing (l : Launch) (dC : Nat → ClassId) (dI : Nat → Nat → Nat) (cI cB cJ cZ cM : ClassId) (z : Nat) (ad : Nat → Nat) (N : Nat) (a_p0 : Nat) (coI : Nat → Int32) (coR : Nat → Nat) (homeI : Nat → Int32) (homeR : Nat → Nat) (a_p1 : Nat) (moI : Nat → Int32) (moR : Nat → Nat) (mo_rowsF : Nat → Int32) (co_valuesF : Nat → Int32) (home_sharpsF : Nat → Int32) (home_hearsF : Nat → Int32) (home_hearsN : Nat) (co_stackF : Nat → Int32) (p2 : Int32) {r0 : Int32} {r1 : Nat → Int32} {r2 : Nat → Int32} (hf : fX0_earsHearing N homeI moI mo_rowsF co_valuesF home_sharpsF home_hearsF co_stackF home_hearsN p2 = some (r0, r1, r2)) : xq_Ct l yX0_earsHearing wsX0_earsHearing { frames := 4, cells := 0, slots := 0, locals := 99 } (dC, dI) vwCl (xq_tys cI cB cJ cZ cM) z ad [.ref a_p0, .ref a_p1, .int p2] [(a_p0, .inr (0, oX0 coI coR)), ((coR 0), .inr (2, oX2 homeI homeR)), (a_p1, .inr (6, oX6 moI moR)), ((moR 6), .inl (cI, 7, .inl mo_rowsF)), ((coR 1), .inl (cI, 24, .inl co_valuesF)), ((homeR 9), .inl (cI, 7, .inl home_sharpsF)), ((homeR 14), .inl (cI, home_hearsN, .inl home_hearsF)), ((coR 2), .inl (cI, 64, .inl co_stackF))] [(a_p0, .inr (0, oX0 coI coR)), ((coR 0), .inr (2, oX2 homeI homeR)), (a_p1, .inr (6, oX6 moI moR)), ((moR 6), .inl (cI, 7, .inl mo_rowsF)), ((coR 1), .inl (cI, 24, .inl r1)), ((homeR 9), .inl (cI, 7, .inl home_sharpsF)), ((homeR 14), .inl (cI, home_hearsN, .inl home_hearsF)), ((coR 2), .inl (cI, 64, .inl r2))] (some (.int r0)) := by
  intro sz
  refine Met.ofW (cc := cX0_earsHearing) (maxL := 5) (ret := (some .int)) (by decide) rfl ?_
  intro p e s m args below meth c s₁ B hml hv
  obtain ⟨rfl, hsz, hP, hK, hD0, hE, hz⟩ := hv
  have hx := B.exec
  have hb := B.bytes
  have hr := B.returns
  have hts := atoms_spec (ws := wsX0_earsHearing) B.pre
  have hown : s.vm.findClass RX0 = some m.cls := findClass_of_methodNamed B.named
  have hlocks := B.notSynchronized
  subst hsz
  have hD := hD0.self (sz := s.heap.size)
  have hN := xq_Env.of hE hz hD0
  generalize hAe : va_A [(a_p0, .inr (0, oX0 coI coR)), ((coR 0), .inr (2, oX2 homeI homeR)), (a_p1, .inr (6, oX6 moI moR)), ((moR 6), .inl (cI, 7, .inl mo_rowsF)), ((coR 1), .inl (cI, 24, .inl co_valuesF)), ((homeR 9), .inl (cI, 7, .inl home_sharpsF)), ((homeR 14), .inl (cI, home_hearsN, .inl home_hearsF)), ((coR 2), .inl (cI, 64, .inl co_stackF))] s.heap.size = A at hD hN ⊢
  have hA : ∀ q : Nat, s.heap.size ≤ q → A q := fun q h => by rw [← hAe]; exact Or.inr h
  clear hAe hD0
  have hS : va_S A s.heap s.heap [] := va_S.rf
  have hl := lv_entry ([.ref a_p0, .ref a_p1, .int p2]) (n := 5) (Nat.le_of_ble_eq_true rfl)
  rw [lg_entry_eq]
  generalize (lg_sl ([.ref a_p0, .ref a_p1, .int p2]) ++ List.replicate (5 - (lg_sl ([.ref a_p0, .ref a_p1, .int p2])).length) Slot.unset).toArray = ls at hl ⊢
  have hl : lv_has ls 5 [(0, .ref a_p0), (1, .ref a_p1), (2, .int p2)] := hl
  have hw0 := hts (.fieldLink RX0 18 "DistantVoice$Course" "home" "LDistantVoice$House;") (by decide +kernel)
  have hinX0 : ∀ w ∈ wsX00, w ∈ wsX0_earsHearing := fun w h => List.mem_cons_of_mem _ (List.mem_append_left _ (List.mem_append_left _ (List.mem_append_right _ h)))
  have hnf45 := va_Nw.use (A := [.ref a_p0, .ref a_p1, .int p2].toArray) rfl (hN.1.1.1 ("DistantVoice$Course", 35, "DistantVoice$House", "ears", "I", "DistantVoice") (List.mem_of_getElem? (i := 45) rfl))
  have hinX2 : ∀ w ∈ wsX20, w ∈ wsX0_earsHearing := fun w h => List.mem_cons_of_mem _ (List.mem_append_left _ (List.mem_append_right _ h))
  have hnf21 := va_Nw.use (A := [.ref a_p0, .ref a_p1, .int p2].toArray) rfl (hN.1.1.1 ("DistantVoice$Course", 41, "DistantVoice$Moment", "rows", "[I", "DistantVoice") (List.mem_of_getElem? (i := 21) rfl))
  have hinX6 : ∀ w ∈ wsX60, w ∈ wsX0_earsHearing := fun w h => List.mem_cons_of_mem _ (List.mem_append_right _ h)
  have l5 : ∀ n5 : Nat, ∀ (co_valuesF_5 : Nat → Int32) (co_stackF_5 : Nat → Int32) (x2_5 : Int32) (x3_5 : Int32) (x4_5 : Int32) (ls : Array Slot) (H : Heap) (locs : List Loc), xq_loop (fX0_earsHearing_l5 N homeI moI mo_rowsF home_sharpsF home_hearsF home_hearsN) n5 (co_valuesF_5, co_stackF_5, x2_5, x3_5, x4_5) = some (r0, r1, r2) → va_P (dC, dI) vwCl [(a_p0, .inr (0, oX0 coI coR)), ((coR 0), .inr (2, oX2 homeI homeR)), (a_p1, .inr (6, oX6 moI moR)), ((moR 6), .inl (cI, 7, .inl mo_rowsF)), ((coR 1), .inl (cI, 24, .inl co_valuesF_5)), ((homeR 9), .inl (cI, 7, .inl home_sharpsF)), ((homeR 14), .inl (cI, home_hearsN, .inl home_hearsF)), ((coR 2), .inl (cI, 64, .inl co_stackF_5))] H → va_D A [(a_p0, .inr (0, oX0 coI coR)), ((coR 0), .inr (2, oX2 homeI homeR)), (a_p1, .inr (6, oX6 moI moR)), ((moR 6), .inl (cI, 7, .inl mo_rowsF)), ((coR 1), .inl (cI, 24, .inl co_valuesF_5)), ((homeR 9), .inl (cI, 7, .inl home_sharpsF)), ((homeR 14), .inl (cI, home_hearsN, .inl home_hearsF)), ((coR 2), .inl (cI, 64, .inl co_stackF_5))] → va_S A s.heap H locs → lv_has ls 5 [(0, .ref a_p0), (1, .ref a_p1), (2, .int x2_5), (3, .int x3_5), (4, .int x4_5)] → W p l e (headSpec wsX0_earsHearing { frames := 4, cells := 0, slots := 0, locals := 99 }).room s m [.ref a_p0, .ref a_p1, .int p2].toArray below meth c H locs 0 0 (MQ below (xq_Q (dC, dI) vwCl (xq_tys cI cB cJ cZ cM) A [(a_p0, .inr (0, oX0 coI coR)), ((coR 0), .inr (2, oX2 homeI homeR)), (a_p1, .inr (6, oX6 moI moR)), ((moR 6), .inl (cI, 7, .inl mo_rowsF)), ((coR 1), .inl (cI, 24, .inl r1)), ((homeR 9), .inl (cI, 7, .inl home_sharpsF)), ((homeR 14), .inl (cI, home_hearsN, .inl home_hearsF)), ((coR 2), .inl (cI, 64, .inl r2))] (some (.int r0))) [.ref a_p0, .ref a_p1, .int p2].toArray s 0 0 A) (F0 m 5 ls []) := by
    intro n5
    induction n5 with
    | zero => intro co_valuesF_5 co_stackF_5 x2_5 x3_5 x4_5 ls H locs hf; cases (show none = some (r0, r1, r2) from hf)
    | succ n5 ih5 =>
      have b42 : ∀ (co_valuesF_42 : Nat → Int32) (co_stackF_42 : Nat → Int32) (x2_42 : Int32) (x3_42 : Int32) (x4_42 : Int32) (ls : Array Slot) (H : Heap) (locs : List Loc), fX0_earsHearing_b42 N homeI moI mo_rowsF home_sharpsF home_hearsF home_hearsN (xq_loop (fX0_earsHearing_l5 N homeI moI mo_rowsF home_sharpsF home_hearsF home_hearsN) n5) (co_valuesF_42, co_stackF_42, x2_42, x3_42, x4_42) = some (r0, r1, r2) → va_P (dC, dI) vwCl [(a_p0, .inr (0, oX0 coI coR)), ((coR 0), .inr (2, oX2 homeI homeR)), (a_p1, .inr (6, oX6 moI moR)), ((moR 6), .inl (cI, 7, .inl mo_rowsF)), ((coR 1), .inl (cI, 24, .inl co_valuesF_42)), ((homeR 9), .inl (cI, 7, .inl home_sharpsF)), ((homeR 14), .inl (cI, home_hearsN, .inl home_hearsF)), ((coR 2), .inl (cI, 64, .inl co_stackF_42))] H → va_D A [(a_p0, .inr (0, oX0 coI coR)), ((coR 0), .inr (2, oX2 homeI homeR)), (a_p1, .inr (6, oX6 moI moR)), ((moR 6), .inl (cI, 7, .inl mo_rowsF)), ((coR 1), .inl (cI, 24, .inl co_valuesF_42)), ((homeR 9), .inl (cI, 7, .inl home_sharpsF)), ((homeR 14), .inl (cI, home_hearsN, .inl home_hearsF)), ((coR 2), .inl (cI, 64, .inl co_stackF_42))] → va_S A s.heap H locs → lv_has ls 5 [(0, .ref a_p0), (1, .ref a_p1), (2, .int x2_42), (3, .int x3_42), (4, .int x4_42)] → W p l e (headSpec wsX0_earsHearing { frames := 4, cells := 0, slots := 0, locals := 99 }).room s m [.ref a_p0, .ref a_p1, .int p2].toArray below meth c H locs 0 0 (MQ below (xq_Q (dC, dI) vwCl (xq_tys cI cB cJ cZ cM) A [(a_p0, .inr (0, oX0 coI coR)), ((coR 0), .inr (2, oX2 homeI homeR)), (a_p1, .inr (6, oX6 moI moR)), ((moR 6), .inl (cI, 7, .inl mo_rowsF)), ((coR 1), .inl (cI, 24, .inl r1)), ((homeR 9), .inl (cI, 7, .inl home_sharpsF)), ((homeR 14), .inl (cI, home_hearsN, .inl home_hearsF)), ((coR 2), .inl (cI, 64, .inl r2))] (some (.int r0))) [.ref a_p0, .ref a_p1, .int p2].toArray s 0 0 A) (F0 m 42 ls []) := by
        intro co_valuesF_42 co_stackF_42 x2_42 x3_42 x4_42 ls H locs hf hP hD hS hl
        unfold fX0_earsHearing_b42 at hf
        refine lv_iinc (v := x4_42 + 1) (lv' := [(4, .int (x4_42 + 1)), (0, .ref a_p0), (1, .ref a_p1), (2, .int x2_42), (3, .int x3_42)]) hx hb dX0_earsHearing_42 hl (k := 4) rfl (congrArg (fun q9 => x4_42 + q9) (by decide : Int32.ofInt 1 = 1)) (by decide) rfl (fun ls hl => ?_)
        refine lv_goto (tgt := 5) hx hb dX0_earsHearing_45 (by decide) ?_
        exact ih5 co_valuesF_42 co_stackF_42 x2_42 x3_42 (x4_42 + 1) _ _ _ hf hP hD hS (lv_sub hl [1, 2, 3, 4, 0] rfl)
      intro co_valuesF_5 co_stackF_5 x2_5 x3_5 x4_5 ls H locs hf hP hD hS hl
      have hf : fX0_earsHearing_l5 N homeI moI mo_rowsF home_sharpsF home_hearsF home_hearsN (xq_loop (fX0_earsHearing_l5 N homeI moI mo_rowsF home_sharpsF home_hearsF home_hearsN) n5) (co_valuesF_5, co_stackF_5, x2_5, x3_5, x4_5) = some (r0, r1, r2) := hf
      unfold fX0_earsHearing_l5 at hf
      refine lv_iload hx hb dX0_earsHearing_5 (lv_at hl 4 rfl) ?_
      refine lv_aload_n hx hb dX0_earsHearing_7 rfl (lv_at hl 0 rfl) ?_
      refine va_get (D := (dC, dI)) (ci := 0) (v := .ref ((coR 0))) (C := RX0) (T := TX0) (N := 3) hx hb hts hinX0 hown hK hP 0 rfl rfl 0 (by decide) hw0 (fun _ h9 => h9) rfl dX0_earsHearing_8 ?_
      refine va_getN (D := (dC, dI)) (ci := 2) (v := .int (homeI 5)) (C := RX2) (T := TX2) (N := 19) hx hb hts hinX2 hown hK hP 1 rfl rfl 5 (by decide) hnf45 (fun _ h9 => h9) rfl dX0_earsHearing_11 ?_
      refine lv_icmp_ge (tgt := 48) hx hb dX0_earsHearing_14 (by decide) (fun c_ => ?_) (fun c_ => ?_)
      · have hf := xq_pos hf c_
        refine lv_iload_n hx hb dX0_earsHearing_48 rfl (lv_at hl 3 rfl) ?_
        cases hf
        exact xq_iret hx hb hr hlocks hK hP hD hS dX0_earsHearing_49
      · have hf := xq_neg hf c_
        refine lv_aload_n hx hb dX0_earsHearing_17 rfl (lv_at hl 0 rfl) ?_
        refine lv_aload_n hx hb dX0_earsHearing_18 rfl (lv_at hl 1 rfl) ?_
        refine lv_iload hx hb dX0_earsHearing_19 (lv_at hl 4 rfl) ?_
        refine lv_aload_n hx hb dX0_earsHearing_21 rfl (lv_at hl 1 rfl) ?_
        refine va_getN (D := (dC, dI)) (ci := 6) (v := .ref ((moR 6))) (C := RX6) (T := TX6) (N := 8) hx hb hts hinX6 hown hK hP 2 rfl rfl 6 (by decide) hnf21 (fun _ h9 => h9) rfl dX0_earsHearing_22 ?_
        refine lv_iload hx hb dX0_earsHearing_25 (lv_at hl 4 rfl) ?_
        refine xq_iald hx hb hK hP 3 0 rfl rfl hf dX0_earsHearing_27 (fun v_1 hf => ?_)
        refine lv_iload_n hx hb dX0_earsHearing_28 rfl (lv_at hl 2 rfl) ?_
        obtain ⟨⟨r_2_0, r_2_1, r_2_2⟩, h_3, hf⟩ := xq_bd_some hf
        refine xq_callV (As := [.ref a_p1, .int x4_5, .int v_1, .int x2_5]) (rest := []) (ci := 0) (q0 := 0) ⟨hx, hb, hml, hown, hts⟩ (kX0_hearsIn l dC dI cI cB cJ cZ cM z ad N a_p1 moI moR a_p0 coI coR co_valuesF_5 homeI homeR home_sharpsF home_hearsF home_hearsN co_stackF_5 x4_5 v_1 x2_5 h_3) (cwV 4 hts gX0_earsHearing_X0_hearsIn rfl rfl rfl (by decide +kernel) ⟨Nat.le_of_ble_eq_true rfl, Nat.le_of_ble_eq_true rfl⟩) hN hK hP hD hS hA [2, 0, 4, 1, 5, 6, 7] (by decide) rfl rfl rfl rfl rfl rfl hl.1 rfl (Nat.le_of_ble_eq_true rfl) dX0_earsHearing_29 ⟨Nat.zero_le _, Nat.zero_le _⟩ (fun H locs hP hD hS => ?_)
        have hP : va_P (dC, dI) vwCl [(a_p0, .inr (0, oX0 coI coR)), ((coR 0), .inr (2, oX2 homeI homeR)), (a_p1, .inr (6, oX6 moI moR)), ((moR 6), .inl (cI, 7, .inl mo_rowsF)), ((coR 1), .inl (cI, 24, .inl r_2_1)), ((homeR 9), .inl (cI, 7, .inl home_sharpsF)), ((homeR 14), .inl (cI, home_hearsN, .inl home_hearsF)), ((coR 2), .inl (cI, 64, .inl r_2_2))] H := hP
        have hD : va_D A [(a_p0, .inr (0, oX0 coI coR)), ((coR 0), .inr (2, oX2 homeI homeR)), (a_p1, .inr (6, oX6 moI moR)), ((moR 6), .inl (cI, 7, .inl mo_rowsF)), ((coR 1), .inl (cI, 24, .inl r_2_1)), ((homeR 9), .inl (cI, 7, .inl home_sharpsF)), ((homeR 14), .inl (cI, home_hearsN, .inl home_hearsF)), ((coR 2), .inl (cI, 64, .inl r_2_2))] := hD
        refine W.eq (g2 := F0 m 32 ls [.int r_2_0]) rfl ?_
        refine lv_if_eq (tgt := 42) hx hb dX0_earsHearing_32 (by decide) (fun c_ => ?_) (fun c_ => ?_)
        · have hf := xq_pos hf c_
          exact b42 r_2_1 r_2_2 x2_5 x3_5 x4_5 _ _ _ hf hP hD hS (lv_sub hl [0, 1, 2, 3, 4] rfl)
        · have hf := xq_neg hf c_
          refine lv_iload_n hx hb dX0_earsHearing_35 rfl (lv_at hl 3 rfl) ?_
          refine lv_iconst (v := 1) hx hb dX0_earsHearing_36 (by decide) ?_
          refine lv_iload hx hb dX0_earsHearing_37 (lv_at hl 4 rfl) ?_
          refine lv_ishl hx hb dX0_earsHearing_39 ?_
          refine lv_ior hx hb dX0_earsHearing_40 ?_
          refine lv_istore_n (lv' := [(3, .int (x3_5 ||| (1 <<< (x4_5 &&& 31)))), (0, .ref a_p0), (1, .ref a_p1), (2, .int x2_5), (4, .int x4_5)]) hx hb dX0_earsHearing_41 rfl hl (by decide) rfl (fun ls hl => ?_)
          exact b42 r_2_1 r_2_2 x2_5 (x3_5 ||| (1 <<< (x4_5 &&& 31))) x4_5 _ _ _ hf hP hD hS (lv_sub hl [1, 2, 3, 0, 4] rfl)
  unfold fX0_earsHearing at hf
  refine lv_iconst (v := 0) hx hb dX0_earsHearing_0 (by decide) ?_
  refine lv_istore_n (lv' := [(3, .int 0), (0, .ref a_p0), (1, .ref a_p1), (2, .int p2)]) hx hb dX0_earsHearing_1 rfl hl (by decide) rfl (fun ls hl => ?_)
  refine lv_iconst (v := 0) hx hb dX0_earsHearing_2 (by decide) ?_
  refine lv_istore (lv' := [(4, .int 0), (3, .int 0), (0, .ref a_p0), (1, .ref a_p1), (2, .int p2)]) hx hb dX0_earsHearing_3 hl (by decide) rfl (fun ls hl => ?_)
  exact l5 N co_valuesF co_stackF p2 0 0 _ _ _ hf hP hD hS (lv_sub hl [2, 3, 4, 1, 0] rfl)
set_option maxRecDepth 20000 in
theorem ggX0_move_X0_paceOf : GoodIn wsX0_move wsX0_paceOf := goodIn_r _ [6, 1, 7, 8, 9, 10, 11, 12, 13, 14, 15, 16, 5, 17, 18, 19, 20, 21, 22, 23, 24, 25, 26, 27, 28, 29, 30, 31, 32, 33, 34, 35, 36, 37, 38, 39, 40, 41, 42, 43, 44, 45, 58, 59, 60, 61, 62, 63, 64, 65, 66, 67, 68, 69, 70, 71, 72, 73, 74, 75, 76, 77, 78, 79, 80, 81, 82, 83, 84, 85, 86, 87] rfl (by decide +kernel)
set_option maxRecDepth 20000 in
theorem gX0_move_X0_paceOf : GoodIn wsX0_move (wsV RX0 51 RX0 yX0_paceOf wsX0_paceOf) := goodIn_app (goodIn_of _ (by decide +kernel)) ggX0_move_X0_paceOf
set_option maxRecDepth 20000 in
theorem ggX0_move_X0_wayTo : GoodIn wsX0_move wsX0_wayTo := goodIn_r _ [49, 1, 66, 67, 68, 69, 70, 71, 72, 73, 74, 75, 76, 77, 78, 79, 80, 81, 82, 83, 84, 85, 86, 87] rfl (by decide +kernel)
set_option maxRecDepth 20000 in
theorem gX0_move_X0_wayTo : GoodIn wsX0_move (wsV RX0 63 RX0 yX0_wayTo wsX0_wayTo) := goodIn_app (goodIn_of _ (by decide +kernel)) ggX0_move_X0_wayTo
set_option maxRecDepth 20000 in
theorem ggX0_move_X0_goOn : GoodIn wsX0_move wsX0_goOn := goodIn_r _ [53, 1, 7, 8, 9, 10, 58, 59, 60, 61, 62, 63, 64, 65, 66, 67, 68, 69, 70, 71, 72, 73, 74, 75, 76, 77, 78, 79, 80, 81, 82, 83, 84, 85, 86, 87] rfl (by decide +kernel)
set_option maxRecDepth 20000 in
theorem gX0_move_X0_goOn : GoodIn wsX0_move (wsV RX0 67 RX0 yX0_goOn wsX0_goOn) := goodIn_app (goodIn_of _ (by decide +kernel)) ggX0_move_X0_goOn
set_option maxRecDepth 20000 in
theorem ggX0_move_X0_talkingAt : GoodIn wsX0_move wsX0_talkingAt := goodIn_r _ [57, 1, 7, 8, 9, 10, 11, 12, 13, 14, 15, 16, 5, 17, 18, 19, 20, 21, 22, 23, 24, 25, 26, 27, 28, 29, 30, 31, 32, 33, 34, 35, 36, 37, 38, 39, 40, 41, 42, 43, 44, 45, 58, 59, 60, 61, 62, 63, 64, 65, 66, 67, 68, 69, 70, 71, 72, 73, 74, 75, 76, 77, 78, 79, 80, 81, 82, 83, 84, 85, 86, 87] rfl (by decide +kernel)
set_option maxRecDepth 20000 in
theorem gX0_move_X0_talkingAt : GoodIn wsX0_move (wsV RX0 70 RX0 yX0_talkingAt wsX0_talkingAt) := goodIn_app (goodIn_of _ (by decide +kernel)) ggX0_move_X0_talkingAt
def dsX0_move_0 : List (Nat × Instr × Nat) := [(0, (.aload_n 1, 1)), (1, (.getfield 48, 3)), (4, (.ifCond .le 14, 3)), (7, (.aload_n 1, 1)), (8, (.dup, 1)), (9, (.getfield 48, 3)), (12, (.iconst 1, 1)), (13, (.isub, 1)), (14, (.putfield 48, 3)), (17, (.return_, 1)), (18, (.aload_n 0, 1)), (19, (.aload_n 1, 1)), (20, (.iload_n 2, 1)), (21, (.invokevirtual 51, 3)), (24, (.istore_n 3, 1)), (25, (.iconst (-1), 1)), (26, (.istore 4, 2)), (28, (.iconst 0, 1)), (29, (.istore 5, 2)), (31, (.iload 5, 2)), (33, (.aload_n 0, 1)), (34, (.getfield 18, 3)), (37, (.getfield 54, 3)), (40, (.if_icmp .ge 42, 3)), (43, (.aload_n 0, 1)), (44, (.aload_n 0, 1)), (45, (.getfield 18, 3)), (48, (.getfield 57, 3)), (51, (.iload 5, 2)), (53, (.iaload, 1)), (54, (.aload_n 1, 1)), (55, (.getfield 60, 3)), (58, (.invokevirtual 63, 3)), (61, (.istore 6, 2)), (63, (.iload 6, 2)), (65, (.iload_n 3, 1)), (66, (.if_icmp .gt 10, 3)), (69, (.iload 6, 2)), (71, (.istore_n 3, 1)), (72, (.iload 5, 2)), (74, (.istore 4, 2)), (76, (.iinc 5 1, 3)), (79, (.goto (-48), 3)), (82, (.aload_n 0, 1)), (83, (.aload_n 1, 1)), (84, (.iload_n 3, 1)), (85, (.invokevirtual 67, 3)), (88, (.iload 4, 2)), (90, (.iconst (-1), 1)), (91, (.if_icmp .eq 15, 3)), (94, (.aload_n 1, 1)), (95, (.aload_n 0, 1)), (96, (.aload_n 1, 1)), (97, (.iload 4, 2)), (99, (.iload_n 2, 1)), (100, (.invokevirtual 70, 3)), (103, (.putfield 48, 3)), (106, (.return_, 1))]
theorem dsX0_move_0_ok : (dsX0_move_0.all fun q => decide (decode cX0_move q.1 = .ok q.2)) = true := by decide +kernel
theorem dX0_move_0 : decode cX0_move 0 = .ok (.aload_n 1, 1) := of_decide_eq_true (List.all_eq_true.mp dsX0_move_0_ok (0, (.aload_n 1, 1)) (List.mem_of_getElem? (i := 0) rfl))
theorem dX0_move_1 : decode cX0_move 1 = .ok (.getfield 48, 3) := of_decide_eq_true (List.all_eq_true.mp dsX0_move_0_ok (1, (.getfield 48, 3)) (List.mem_of_getElem? (i := 1) rfl))
theorem dX0_move_4 : decode cX0_move 4 = .ok (.ifCond .le 14, 3) := of_decide_eq_true (List.all_eq_true.mp dsX0_move_0_ok (4, (.ifCond .le 14, 3)) (List.mem_of_getElem? (i := 2) rfl))
theorem dX0_move_7 : decode cX0_move 7 = .ok (.aload_n 1, 1) := of_decide_eq_true (List.all_eq_true.mp dsX0_move_0_ok (7, (.aload_n 1, 1)) (List.mem_of_getElem? (i := 3) rfl))
theorem dX0_move_8 : decode cX0_move 8 = .ok (.dup, 1) := of_decide_eq_true (List.all_eq_true.mp dsX0_move_0_ok (8, (.dup, 1)) (List.mem_of_getElem? (i := 4) rfl))
theorem dX0_move_9 : decode cX0_move 9 = .ok (.getfield 48, 3) := of_decide_eq_true (List.all_eq_true.mp dsX0_move_0_ok (9, (.getfield 48, 3)) (List.mem_of_getElem? (i := 5) rfl))
theorem dX0_move_12 : decode cX0_move 12 = .ok (.iconst 1, 1) := of_decide_eq_true (List.all_eq_true.mp dsX0_move_0_ok (12, (.iconst 1, 1)) (List.mem_of_getElem? (i := 6) rfl))
theorem dX0_move_13 : decode cX0_move 13 = .ok (.isub, 1) := of_decide_eq_true (List.all_eq_true.mp dsX0_move_0_ok (13, (.isub, 1)) (List.mem_of_getElem? (i := 7) rfl))
theorem dX0_move_14 : decode cX0_move 14 = .ok (.putfield 48, 3) := of_decide_eq_true (List.all_eq_true.mp dsX0_move_0_ok (14, (.putfield 48, 3)) (List.mem_of_getElem? (i := 8) rfl))
theorem dX0_move_17 : decode cX0_move 17 = .ok (.return_, 1) := of_decide_eq_true (List.all_eq_true.mp dsX0_move_0_ok (17, (.return_, 1)) (List.mem_of_getElem? (i := 9) rfl))
theorem dX0_move_18 : decode cX0_move 18 = .ok (.aload_n 0, 1) := of_decide_eq_true (List.all_eq_true.mp dsX0_move_0_ok (18, (.aload_n 0, 1)) (List.mem_of_getElem? (i := 10) rfl))
theorem dX0_move_19 : decode cX0_move 19 = .ok (.aload_n 1, 1) := of_decide_eq_true (List.all_eq_true.mp dsX0_move_0_ok (19, (.aload_n 1, 1)) (List.mem_of_getElem? (i := 11) rfl))
theorem dX0_move_20 : decode cX0_move 20 = .ok (.iload_n 2, 1) := of_decide_eq_true (List.all_eq_true.mp dsX0_move_0_ok (20, (.iload_n 2, 1)) (List.mem_of_getElem? (i := 12) rfl))
theorem dX0_move_21 : decode cX0_move 21 = .ok (.invokevirtual 51, 3) := of_decide_eq_true (List.all_eq_true.mp dsX0_move_0_ok (21, (.invokevirtual 51, 3)) (List.mem_of_getElem? (i := 13) rfl))
theorem dX0_move_24 : decode cX0_move 24 = .ok (.istore_n 3, 1) := of_decide_eq_true (List.all_eq_true.mp dsX0_move_0_ok (24, (.istore_n 3, 1)) (List.mem_of_getElem? (i := 14) rfl))
theorem dX0_move_25 : decode cX0_move 25 = .ok (.iconst (-1), 1) := of_decide_eq_true (List.all_eq_true.mp dsX0_move_0_ok (25, (.iconst (-1), 1)) (List.mem_of_getElem? (i := 15) rfl))
theorem dX0_move_26 : decode cX0_move 26 = .ok (.istore 4, 2) := of_decide_eq_true (List.all_eq_true.mp dsX0_move_0_ok (26, (.istore 4, 2)) (List.mem_of_getElem? (i := 16) rfl))
theorem dX0_move_28 : decode cX0_move 28 = .ok (.iconst 0, 1) := of_decide_eq_true (List.all_eq_true.mp dsX0_move_0_ok (28, (.iconst 0, 1)) (List.mem_of_getElem? (i := 17) rfl))
theorem dX0_move_29 : decode cX0_move 29 = .ok (.istore 5, 2) := of_decide_eq_true (List.all_eq_true.mp dsX0_move_0_ok (29, (.istore 5, 2)) (List.mem_of_getElem? (i := 18) rfl))
theorem dX0_move_31 : decode cX0_move 31 = .ok (.iload 5, 2) := of_decide_eq_true (List.all_eq_true.mp dsX0_move_0_ok (31, (.iload 5, 2)) (List.mem_of_getElem? (i := 19) rfl))
theorem dX0_move_33 : decode cX0_move 33 = .ok (.aload_n 0, 1) := of_decide_eq_true (List.all_eq_true.mp dsX0_move_0_ok (33, (.aload_n 0, 1)) (List.mem_of_getElem? (i := 20) rfl))
theorem dX0_move_34 : decode cX0_move 34 = .ok (.getfield 18, 3) := of_decide_eq_true (List.all_eq_true.mp dsX0_move_0_ok (34, (.getfield 18, 3)) (List.mem_of_getElem? (i := 21) rfl))
theorem dX0_move_37 : decode cX0_move 37 = .ok (.getfield 54, 3) := of_decide_eq_true (List.all_eq_true.mp dsX0_move_0_ok (37, (.getfield 54, 3)) (List.mem_of_getElem? (i := 22) rfl))
theorem dX0_move_40 : decode cX0_move 40 = .ok (.if_icmp .ge 42, 3) := of_decide_eq_true (List.all_eq_true.mp dsX0_move_0_ok (40, (.if_icmp .ge 42, 3)) (List.mem_of_getElem? (i := 23) rfl))
theorem dX0_move_43 : decode cX0_move 43 = .ok (.aload_n 0, 1) := of_decide_eq_true (List.all_eq_true.mp dsX0_move_0_ok (43, (.aload_n 0, 1)) (List.mem_of_getElem? (i := 24) rfl))
theorem dX0_move_44 : decode cX0_move 44 = .ok (.aload_n 0, 1) := of_decide_eq_true (List.all_eq_true.mp dsX0_move_0_ok (44, (.aload_n 0, 1)) (List.mem_of_getElem? (i := 25) rfl))
theorem dX0_move_45 : decode cX0_move 45 = .ok (.getfield 18, 3) := of_decide_eq_true (List.all_eq_true.mp dsX0_move_0_ok (45, (.getfield 18, 3)) (List.mem_of_getElem? (i := 26) rfl))
theorem dX0_move_48 : decode cX0_move 48 = .ok (.getfield 57, 3) := of_decide_eq_true (List.all_eq_true.mp dsX0_move_0_ok (48, (.getfield 57, 3)) (List.mem_of_getElem? (i := 27) rfl))
theorem dX0_move_51 : decode cX0_move 51 = .ok (.iload 5, 2) := of_decide_eq_true (List.all_eq_true.mp dsX0_move_0_ok (51, (.iload 5, 2)) (List.mem_of_getElem? (i := 28) rfl))
theorem dX0_move_53 : decode cX0_move 53 = .ok (.iaload, 1) := of_decide_eq_true (List.all_eq_true.mp dsX0_move_0_ok (53, (.iaload, 1)) (List.mem_of_getElem? (i := 29) rfl))
theorem dX0_move_54 : decode cX0_move 54 = .ok (.aload_n 1, 1) := of_decide_eq_true (List.all_eq_true.mp dsX0_move_0_ok (54, (.aload_n 1, 1)) (List.mem_of_getElem? (i := 30) rfl))
theorem dX0_move_55 : decode cX0_move 55 = .ok (.getfield 60, 3) := of_decide_eq_true (List.all_eq_true.mp dsX0_move_0_ok (55, (.getfield 60, 3)) (List.mem_of_getElem? (i := 31) rfl))
theorem dX0_move_58 : decode cX0_move 58 = .ok (.invokevirtual 63, 3) := of_decide_eq_true (List.all_eq_true.mp dsX0_move_0_ok (58, (.invokevirtual 63, 3)) (List.mem_of_getElem? (i := 32) rfl))
theorem dX0_move_61 : decode cX0_move 61 = .ok (.istore 6, 2) := of_decide_eq_true (List.all_eq_true.mp dsX0_move_0_ok (61, (.istore 6, 2)) (List.mem_of_getElem? (i := 33) rfl))
theorem dX0_move_63 : decode cX0_move 63 = .ok (.iload 6, 2) := of_decide_eq_true (List.all_eq_true.mp dsX0_move_0_ok (63, (.iload 6, 2)) (List.mem_of_getElem? (i := 34) rfl))
theorem dX0_move_65 : decode cX0_move 65 = .ok (.iload_n 3, 1) := of_decide_eq_true (List.all_eq_true.mp dsX0_move_0_ok (65, (.iload_n 3, 1)) (List.mem_of_getElem? (i := 35) rfl))
theorem dX0_move_66 : decode cX0_move 66 = .ok (.if_icmp .gt 10, 3) := of_decide_eq_true (List.all_eq_true.mp dsX0_move_0_ok (66, (.if_icmp .gt 10, 3)) (List.mem_of_getElem? (i := 36) rfl))
theorem dX0_move_69 : decode cX0_move 69 = .ok (.iload 6, 2) := of_decide_eq_true (List.all_eq_true.mp dsX0_move_0_ok (69, (.iload 6, 2)) (List.mem_of_getElem? (i := 37) rfl))
theorem dX0_move_71 : decode cX0_move 71 = .ok (.istore_n 3, 1) := of_decide_eq_true (List.all_eq_true.mp dsX0_move_0_ok (71, (.istore_n 3, 1)) (List.mem_of_getElem? (i := 38) rfl))
theorem dX0_move_72 : decode cX0_move 72 = .ok (.iload 5, 2) := of_decide_eq_true (List.all_eq_true.mp dsX0_move_0_ok (72, (.iload 5, 2)) (List.mem_of_getElem? (i := 39) rfl))
theorem dX0_move_74 : decode cX0_move 74 = .ok (.istore 4, 2) := of_decide_eq_true (List.all_eq_true.mp dsX0_move_0_ok (74, (.istore 4, 2)) (List.mem_of_getElem? (i := 40) rfl))
theorem dX0_move_76 : decode cX0_move 76 = .ok (.iinc 5 1, 3) := of_decide_eq_true (List.all_eq_true.mp dsX0_move_0_ok (76, (.iinc 5 1, 3)) (List.mem_of_getElem? (i := 41) rfl))
theorem dX0_move_79 : decode cX0_move 79 = .ok (.goto (-48), 3) := of_decide_eq_true (List.all_eq_true.mp dsX0_move_0_ok (79, (.goto (-48), 3)) (List.mem_of_getElem? (i := 42) rfl))
theorem dX0_move_82 : decode cX0_move 82 = .ok (.aload_n 0, 1) := of_decide_eq_true (List.all_eq_true.mp dsX0_move_0_ok (82, (.aload_n 0, 1)) (List.mem_of_getElem? (i := 43) rfl))
theorem dX0_move_83 : decode cX0_move 83 = .ok (.aload_n 1, 1) := of_decide_eq_true (List.all_eq_true.mp dsX0_move_0_ok (83, (.aload_n 1, 1)) (List.mem_of_getElem? (i := 44) rfl))
theorem dX0_move_84 : decode cX0_move 84 = .ok (.iload_n 3, 1) := of_decide_eq_true (List.all_eq_true.mp dsX0_move_0_ok (84, (.iload_n 3, 1)) (List.mem_of_getElem? (i := 45) rfl))
theorem dX0_move_85 : decode cX0_move 85 = .ok (.invokevirtual 67, 3) := of_decide_eq_true (List.all_eq_true.mp dsX0_move_0_ok (85, (.invokevirtual 67, 3)) (List.mem_of_getElem? (i := 46) rfl))
theorem dX0_move_88 : decode cX0_move 88 = .ok (.iload 4, 2) := of_decide_eq_true (List.all_eq_true.mp dsX0_move_0_ok (88, (.iload 4, 2)) (List.mem_of_getElem? (i := 47) rfl))
theorem dX0_move_90 : decode cX0_move 90 = .ok (.iconst (-1), 1) := of_decide_eq_true (List.all_eq_true.mp dsX0_move_0_ok (90, (.iconst (-1), 1)) (List.mem_of_getElem? (i := 48) rfl))
theorem dX0_move_91 : decode cX0_move 91 = .ok (.if_icmp .eq 15, 3) := of_decide_eq_true (List.all_eq_true.mp dsX0_move_0_ok (91, (.if_icmp .eq 15, 3)) (List.mem_of_getElem? (i := 49) rfl))
theorem dX0_move_94 : decode cX0_move 94 = .ok (.aload_n 1, 1) := of_decide_eq_true (List.all_eq_true.mp dsX0_move_0_ok (94, (.aload_n 1, 1)) (List.mem_of_getElem? (i := 50) rfl))
theorem dX0_move_95 : decode cX0_move 95 = .ok (.aload_n 0, 1) := of_decide_eq_true (List.all_eq_true.mp dsX0_move_0_ok (95, (.aload_n 0, 1)) (List.mem_of_getElem? (i := 51) rfl))
theorem dX0_move_96 : decode cX0_move 96 = .ok (.aload_n 1, 1) := of_decide_eq_true (List.all_eq_true.mp dsX0_move_0_ok (96, (.aload_n 1, 1)) (List.mem_of_getElem? (i := 52) rfl))
theorem dX0_move_97 : decode cX0_move 97 = .ok (.iload 4, 2) := of_decide_eq_true (List.all_eq_true.mp dsX0_move_0_ok (97, (.iload 4, 2)) (List.mem_of_getElem? (i := 53) rfl))
theorem dX0_move_99 : decode cX0_move 99 = .ok (.iload_n 2, 1) := of_decide_eq_true (List.all_eq_true.mp dsX0_move_0_ok (99, (.iload_n 2, 1)) (List.mem_of_getElem? (i := 54) rfl))
theorem dX0_move_100 : decode cX0_move 100 = .ok (.invokevirtual 70, 3) := of_decide_eq_true (List.all_eq_true.mp dsX0_move_0_ok (100, (.invokevirtual 70, 3)) (List.mem_of_getElem? (i := 55) rfl))
theorem dX0_move_103 : decode cX0_move 103 = .ok (.putfield 48, 3) := of_decide_eq_true (List.all_eq_true.mp dsX0_move_0_ok (103, (.putfield 48, 3)) (List.mem_of_getElem? (i := 56) rfl))
theorem dX0_move_106 : decode cX0_move 106 = .ok (.return_, 1) := of_decide_eq_true (List.all_eq_true.mp dsX0_move_0_ok (106, (.return_, 1)) (List.mem_of_getElem? (i := 57) rfl))
def fX0_move_b76 (N : Nat) (homeI : Nat → Int32) (home_goesF : Nat → Int32) (mo_talksF : Nat → Int32) (home_talkForF : Nat → Int32) (home_placeMilesF : Nat → Int32) (home_goesN : Nat) (home_talkForN : Nat) (k31 : ((Nat → Int32) × (Nat → Int32) × (Nat → Int32) × Int32 × Int32 × Int32 × Int32) → Option ((Nat → Int32) × (Nat → Int32) × (Nat → Int32))) : ((Nat → Int32) × (Nat → Int32) × (Nat → Int32) × Int32 × Int32 × Int32 × Int32) → Option ((Nat → Int32) × (Nat → Int32) × (Nat → Int32)) :=
  fun (moI_76, co_valuesF_76, co_stackF_76, x2_76, x3_76, x4_76, x5_76) => k31 (moI_76, co_valuesF_76, co_stackF_76, x2_76, x3_76, x4_76, x5_76 + 1)
def fX0_move_l31 (N : Nat) (homeI : Nat → Int32) (home_goesF : Nat → Int32) (mo_talksF : Nat → Int32) (home_talkForF : Nat → Int32) (home_placeMilesF : Nat → Int32) (home_goesN : Nat) (home_talkForN : Nat) (k31 : ((Nat → Int32) × (Nat → Int32) × (Nat → Int32) × Int32 × Int32 × Int32 × Int32) → Option ((Nat → Int32) × (Nat → Int32) × (Nat → Int32))) : ((Nat → Int32) × (Nat → Int32) × (Nat → Int32) × Int32 × Int32 × Int32 × Int32) → Option ((Nat → Int32) × (Nat → Int32) × (Nat → Int32)) :=
  fun (moI_31, co_valuesF_31, co_stackF_31, x2_31, x3_31, x4_31, x5_31) => (if (homeI 6) ≤ x5_31 then (xq_bd (fX0_goOn N moI_31 homeI x3_31) fun r_1 => (if x4_31 = ((-1)) then some ((r_1, co_valuesF_31, co_stackF_31)) else (xq_bd (fX0_talkingAt N r_1 co_valuesF_31 mo_talksF home_talkForF co_stackF_31 home_talkForN x4_31 x2_31) fun (r_3_0, r_3_1, r_3_2) => some (((va_up r_1 3 r_3_0), r_3_1, r_3_2))))) else (xq_bd (xq_ald 6 home_placeMilesF x5_31) fun v_5 => (xq_bd (fX0_wayTo N homeI v_5 (moI_31 1)) fun r_6 => (if x3_31 < r_6 then fX0_move_b76 N homeI home_goesF mo_talksF home_talkForF home_placeMilesF home_goesN home_talkForN k31 (moI_31, co_valuesF_31, co_stackF_31, x2_31, x3_31, x4_31, x5_31) else fX0_move_b76 N homeI home_goesF mo_talksF home_talkForF home_placeMilesF home_goesN home_talkForN k31 (moI_31, co_valuesF_31, co_stackF_31, x2_31, r_6, x5_31, x5_31)))))
def fX0_move (N : Nat) (moI : Nat → Int32) (co_valuesF : Nat → Int32) (homeI : Nat → Int32) (home_goesF : Nat → Int32) (co_stackF : Nat → Int32) (mo_talksF : Nat → Int32) (home_talkForF : Nat → Int32) (home_placeMilesF : Nat → Int32) (home_goesN : Nat) (home_talkForN : Nat) (p2 : Int32) : Option ((Nat → Int32) × (Nat → Int32) × (Nat → Int32)) :=
  (if (moI 3) ≤ 0 then (xq_bd (fX0_paceOf N moI co_valuesF home_goesF co_stackF home_goesN p2) fun (r_1_0, r_1_1, r_1_2) => xq_loop (fX0_move_l31 N homeI home_goesF mo_talksF home_talkForF home_placeMilesF home_goesN home_talkForN) N (moI, r_1_1, r_1_2, p2, r_1_0, (-1), 0)) else some (((va_up moI 3 ((moI 3) - 1)), co_valuesF, co_stackF)))
set_option maxHeartbeats 4000000 in
set_option maxRecDepth 100000 in
theorem kX0_move (l : Launch) (dC : Nat → ClassId) (dI : Nat → Nat → Nat) (cI cB cJ cZ cM : ClassId) (z : Nat) (ad : Nat → Nat) (N : Nat) (a_p1 : Nat) (moI : Nat → Int32) (moR : Nat → Nat) (a_p0 : Nat) (coI : Nat → Int32) (coR : Nat → Nat) (co_valuesF : Nat → Int32) (homeI : Nat → Int32) (homeR : Nat → Nat) (home_goesF : Nat → Int32) (home_goesN : Nat) (co_stackF : Nat → Int32) (mo_talksF : Nat → Int32) (home_talkForF : Nat → Int32) (home_talkForN : Nat) (home_placeMilesF : Nat → Int32) (p2 : Int32) {r0 : Nat → Int32} {r1 : Nat → Int32} {r2 : Nat → Int32} (hf : fX0_move N moI co_valuesF homeI home_goesF co_stackF mo_talksF home_talkForF home_placeMilesF home_goesN home_talkForN p2 = some (r0, r1, r2)) : xq_Ct l yX0_move wsX0_move { frames := 4, cells := 0, slots := 0, locals := 98 } (dC, dI) vwCl (xq_tys cI cB cJ cZ cM) z ad [.ref a_p0, .ref a_p1, .int p2] [(a_p1, .inr (6, oX6 moI moR)), (a_p0, .inr (0, oX0 coI coR)), ((coR 1), .inl (cI, 24, .inl co_valuesF)), ((coR 0), .inr (2, oX2 homeI homeR)), ((homeR 13), .inl (cI, home_goesN, .inl home_goesF)), ((coR 2), .inl (cI, 64, .inl co_stackF)), ((moR 7), .inl (cI, 6, .inl mo_talksF)), ((homeR 15), .inl (cI, home_talkForN, .inl home_talkForF)), ((homeR 11), .inl (cI, 6, .inl home_placeMilesF))] [(a_p1, .inr (6, oX6 r0 moR)), (a_p0, .inr (0, oX0 coI coR)), ((coR 1), .inl (cI, 24, .inl r1)), ((coR 0), .inr (2, oX2 homeI homeR)), ((homeR 13), .inl (cI, home_goesN, .inl home_goesF)), ((coR 2), .inl (cI, 64, .inl r2)), ((moR 7), .inl (cI, 6, .inl mo_talksF)), ((homeR 15), .inl (cI, home_talkForN, .inl home_talkForF)), ((homeR 11), .inl (cI, 6, .inl home_placeMilesF))] none := by
  intro sz
  refine Met.ofW (cc := cX0_move) (maxL := 7) (ret := none) (by decide) rfl ?_
  intro p e s m args below meth c s₁ B hml hv
  obtain ⟨rfl, hsz, hP, hK, hD0, hE, hz⟩ := hv
  have hx := B.exec
  have hb := B.bytes
  have hr := B.returns
  have hts := atoms_spec (ws := wsX0_move) B.pre
  have hown : s.vm.findClass RX0 = some m.cls := findClass_of_methodNamed B.named
  have hlocks := B.notSynchronized
  subst hsz
  have hD := hD0.self (sz := s.heap.size)
  have hN := xq_Env.of hE hz hD0
  generalize hAe : va_A [(a_p1, .inr (6, oX6 moI moR)), (a_p0, .inr (0, oX0 coI coR)), ((coR 1), .inl (cI, 24, .inl co_valuesF)), ((coR 0), .inr (2, oX2 homeI homeR)), ((homeR 13), .inl (cI, home_goesN, .inl home_goesF)), ((coR 2), .inl (cI, 64, .inl co_stackF)), ((moR 7), .inl (cI, 6, .inl mo_talksF)), ((homeR 15), .inl (cI, home_talkForN, .inl home_talkForF)), ((homeR 11), .inl (cI, 6, .inl home_placeMilesF))] s.heap.size = A at hD hN ⊢
  have hA : ∀ q : Nat, s.heap.size ≤ q → A q := fun q h => by rw [← hAe]; exact Or.inr h
  clear hAe hD0
  have hS : va_S A s.heap s.heap [] := va_S.rf
  have hl := lv_entry ([.ref a_p0, .ref a_p1, .int p2]) (n := 7) (Nat.le_of_ble_eq_true rfl)
  rw [lg_entry_eq]
  generalize (lg_sl ([.ref a_p0, .ref a_p1, .int p2]) ++ List.replicate (7 - (lg_sl ([.ref a_p0, .ref a_p1, .int p2])).length) Slot.unset).toArray = ls at hl ⊢
  have hl : lv_has ls 7 [(0, .ref a_p0), (1, .ref a_p1), (2, .int p2)] := hl
  have hnf14 := va_Nw.use (A := [.ref a_p0, .ref a_p1, .int p2].toArray) rfl (hN.1.1.1 ("DistantVoice$Course", 48, "DistantVoice$Moment", "talking", "I", "DistantVoice") (List.mem_of_getElem? (i := 14) rfl))
  have hinX6 : ∀ w ∈ wsX60, w ∈ wsX0_move := fun w h => List.mem_cons_of_mem _ (List.mem_append_left _ (List.mem_append_left _ (List.mem_append_right _ h)))
  have hw2 := hts (.fieldLink RX0 18 "DistantVoice$Course" "home" "LDistantVoice$House;") (by decide +kernel)
  have hinX0 : ∀ w ∈ wsX00, w ∈ wsX0_move := fun w h => List.mem_cons_of_mem _ (List.mem_append_left _ (List.mem_append_right _ h))
  have hnf49 := va_Nw.use (A := [.ref a_p0, .ref a_p1, .int p2].toArray) rfl (hN.1.1.1 ("DistantVoice$Course", 54, "DistantVoice$House", "places", "I", "DistantVoice") (List.mem_of_getElem? (i := 49) rfl))
  have hinX2 : ∀ w ∈ wsX20, w ∈ wsX0_move := fun w h => List.mem_cons_of_mem _ (List.mem_append_right _ h)
  have hnf62 := va_Nw.use (A := [.ref a_p0, .ref a_p1, .int p2].toArray) rfl (hN.1.1.1 ("DistantVoice$Course", 57, "DistantVoice$House", "placeMiles", "[I", "DistantVoice") (List.mem_of_getElem? (i := 62) rfl))
  have hnf8 := va_Nw.use (A := [.ref a_p0, .ref a_p1, .int p2].toArray) rfl (hN.1.1.1 ("DistantVoice$Course", 60, "DistantVoice$Moment", "mile", "I", "DistantVoice") (List.mem_of_getElem? (i := 8) rfl))
  have l31 : ∀ n31 : Nat, ∀ (moI_31 : Nat → Int32) (co_valuesF_31 : Nat → Int32) (co_stackF_31 : Nat → Int32) (x2_31 : Int32) (x3_31 : Int32) (x4_31 : Int32) (x5_31 : Int32) (ls : Array Slot) (H : Heap) (locs : List Loc), xq_loop (fX0_move_l31 N homeI home_goesF mo_talksF home_talkForF home_placeMilesF home_goesN home_talkForN) n31 (moI_31, co_valuesF_31, co_stackF_31, x2_31, x3_31, x4_31, x5_31) = some (r0, r1, r2) → va_P (dC, dI) vwCl [(a_p1, .inr (6, oX6 moI_31 moR)), (a_p0, .inr (0, oX0 coI coR)), ((coR 1), .inl (cI, 24, .inl co_valuesF_31)), ((coR 0), .inr (2, oX2 homeI homeR)), ((homeR 13), .inl (cI, home_goesN, .inl home_goesF)), ((coR 2), .inl (cI, 64, .inl co_stackF_31)), ((moR 7), .inl (cI, 6, .inl mo_talksF)), ((homeR 15), .inl (cI, home_talkForN, .inl home_talkForF)), ((homeR 11), .inl (cI, 6, .inl home_placeMilesF))] H → va_D A [(a_p1, .inr (6, oX6 moI_31 moR)), (a_p0, .inr (0, oX0 coI coR)), ((coR 1), .inl (cI, 24, .inl co_valuesF_31)), ((coR 0), .inr (2, oX2 homeI homeR)), ((homeR 13), .inl (cI, home_goesN, .inl home_goesF)), ((coR 2), .inl (cI, 64, .inl co_stackF_31)), ((moR 7), .inl (cI, 6, .inl mo_talksF)), ((homeR 15), .inl (cI, home_talkForN, .inl home_talkForF)), ((homeR 11), .inl (cI, 6, .inl home_placeMilesF))] → va_S A s.heap H locs → lv_has ls 7 [(0, .ref a_p0), (1, .ref a_p1), (2, .int x2_31), (3, .int x3_31), (4, .int x4_31), (5, .int x5_31)] → W p l e (headSpec wsX0_move { frames := 4, cells := 0, slots := 0, locals := 98 }).room s m [.ref a_p0, .ref a_p1, .int p2].toArray below meth c H locs 0 0 (MQ below (xq_Q (dC, dI) vwCl (xq_tys cI cB cJ cZ cM) A [(a_p1, .inr (6, oX6 r0 moR)), (a_p0, .inr (0, oX0 coI coR)), ((coR 1), .inl (cI, 24, .inl r1)), ((coR 0), .inr (2, oX2 homeI homeR)), ((homeR 13), .inl (cI, home_goesN, .inl home_goesF)), ((coR 2), .inl (cI, 64, .inl r2)), ((moR 7), .inl (cI, 6, .inl mo_talksF)), ((homeR 15), .inl (cI, home_talkForN, .inl home_talkForF)), ((homeR 11), .inl (cI, 6, .inl home_placeMilesF))] none) [.ref a_p0, .ref a_p1, .int p2].toArray s 0 0 A) (F0 m 31 ls []) := by
    intro n31
    induction n31 with
    | zero => intro moI_31 co_valuesF_31 co_stackF_31 x2_31 x3_31 x4_31 x5_31 ls H locs hf; cases (show none = some (r0, r1, r2) from hf)
    | succ n31 ih31 =>
      have b76 : ∀ (moI_76 : Nat → Int32) (co_valuesF_76 : Nat → Int32) (co_stackF_76 : Nat → Int32) (x2_76 : Int32) (x3_76 : Int32) (x4_76 : Int32) (x5_76 : Int32) (ls : Array Slot) (H : Heap) (locs : List Loc), fX0_move_b76 N homeI home_goesF mo_talksF home_talkForF home_placeMilesF home_goesN home_talkForN (xq_loop (fX0_move_l31 N homeI home_goesF mo_talksF home_talkForF home_placeMilesF home_goesN home_talkForN) n31) (moI_76, co_valuesF_76, co_stackF_76, x2_76, x3_76, x4_76, x5_76) = some (r0, r1, r2) → va_P (dC, dI) vwCl [(a_p1, .inr (6, oX6 moI_76 moR)), (a_p0, .inr (0, oX0 coI coR)), ((coR 1), .inl (cI, 24, .inl co_valuesF_76)), ((coR 0), .inr (2, oX2 homeI homeR)), ((homeR 13), .inl (cI, home_goesN, .inl home_goesF)), ((coR 2), .inl (cI, 64, .inl co_stackF_76)), ((moR 7), .inl (cI, 6, .inl mo_talksF)), ((homeR 15), .inl (cI, home_talkForN, .inl home_talkForF)), ((homeR 11), .inl (cI, 6, .inl home_placeMilesF))] H → va_D A [(a_p1, .inr (6, oX6 moI_76 moR)), (a_p0, .inr (0, oX0 coI coR)), ((coR 1), .inl (cI, 24, .inl co_valuesF_76)), ((coR 0), .inr (2, oX2 homeI homeR)), ((homeR 13), .inl (cI, home_goesN, .inl home_goesF)), ((coR 2), .inl (cI, 64, .inl co_stackF_76)), ((moR 7), .inl (cI, 6, .inl mo_talksF)), ((homeR 15), .inl (cI, home_talkForN, .inl home_talkForF)), ((homeR 11), .inl (cI, 6, .inl home_placeMilesF))] → va_S A s.heap H locs → lv_has ls 7 [(0, .ref a_p0), (1, .ref a_p1), (2, .int x2_76), (3, .int x3_76), (4, .int x4_76), (5, .int x5_76)] → W p l e (headSpec wsX0_move { frames := 4, cells := 0, slots := 0, locals := 98 }).room s m [.ref a_p0, .ref a_p1, .int p2].toArray below meth c H locs 0 0 (MQ below (xq_Q (dC, dI) vwCl (xq_tys cI cB cJ cZ cM) A [(a_p1, .inr (6, oX6 r0 moR)), (a_p0, .inr (0, oX0 coI coR)), ((coR 1), .inl (cI, 24, .inl r1)), ((coR 0), .inr (2, oX2 homeI homeR)), ((homeR 13), .inl (cI, home_goesN, .inl home_goesF)), ((coR 2), .inl (cI, 64, .inl r2)), ((moR 7), .inl (cI, 6, .inl mo_talksF)), ((homeR 15), .inl (cI, home_talkForN, .inl home_talkForF)), ((homeR 11), .inl (cI, 6, .inl home_placeMilesF))] none) [.ref a_p0, .ref a_p1, .int p2].toArray s 0 0 A) (F0 m 76 ls []) := by
        intro moI_76 co_valuesF_76 co_stackF_76 x2_76 x3_76 x4_76 x5_76 ls H locs hf hP hD hS hl
        unfold fX0_move_b76 at hf
        refine lv_iinc (v := x5_76 + 1) (lv' := [(5, .int (x5_76 + 1)), (0, .ref a_p0), (1, .ref a_p1), (2, .int x2_76), (3, .int x3_76), (4, .int x4_76)]) hx hb dX0_move_76 hl (k := 5) rfl (congrArg (fun q9 => x5_76 + q9) (by decide : Int32.ofInt 1 = 1)) (by decide) rfl (fun ls hl => ?_)
        refine lv_goto (tgt := 31) hx hb dX0_move_79 (by decide) ?_
        exact ih31 moI_76 co_valuesF_76 co_stackF_76 x2_76 x3_76 x4_76 (x5_76 + 1) _ _ _ hf hP hD hS (lv_sub hl [1, 2, 3, 4, 5, 0] rfl)
      intro moI_31 co_valuesF_31 co_stackF_31 x2_31 x3_31 x4_31 x5_31 ls H locs hf hP hD hS hl
      have hf : fX0_move_l31 N homeI home_goesF mo_talksF home_talkForF home_placeMilesF home_goesN home_talkForN (xq_loop (fX0_move_l31 N homeI home_goesF mo_talksF home_talkForF home_placeMilesF home_goesN home_talkForN) n31) (moI_31, co_valuesF_31, co_stackF_31, x2_31, x3_31, x4_31, x5_31) = some (r0, r1, r2) := hf
      unfold fX0_move_l31 at hf
      refine lv_iload hx hb dX0_move_31 (lv_at hl 5 rfl) ?_
      refine lv_aload_n hx hb dX0_move_33 rfl (lv_at hl 0 rfl) ?_
      refine va_get (D := (dC, dI)) (ci := 0) (v := .ref ((coR 0))) (C := RX0) (T := TX0) (N := 3) hx hb hts hinX0 hown hK hP 1 rfl rfl 0 (by decide) hw2 (fun _ h9 => h9) rfl dX0_move_34 ?_
      refine va_getN (D := (dC, dI)) (ci := 2) (v := .int (homeI 6)) (C := RX2) (T := TX2) (N := 19) hx hb hts hinX2 hown hK hP 3 rfl rfl 6 (by decide) hnf49 (fun _ h9 => h9) rfl dX0_move_37 ?_
      refine lv_icmp_ge (tgt := 82) hx hb dX0_move_40 (by decide) (fun c_ => ?_) (fun c_ => ?_)
      · have hf := xq_pos hf c_
        refine lv_aload_n hx hb dX0_move_82 rfl (lv_at hl 0 rfl) ?_
        refine lv_aload_n hx hb dX0_move_83 rfl (lv_at hl 1 rfl) ?_
        refine lv_iload_n hx hb dX0_move_84 rfl (lv_at hl 3 rfl) ?_
        obtain ⟨r_1, h_2, hf⟩ := xq_bd_some hf
        refine xq_callV (As := [.ref a_p1, .int x3_31]) (rest := []) (ci := 0) (q0 := 1) ⟨hx, hb, hml, hown, hts⟩ (kX0_goOn l dC dI cI cB cJ cZ cM z ad N a_p1 moI_31 moR a_p0 coI coR homeI homeR x3_31 h_2) (cwV 2 hts gX0_move_X0_goOn rfl rfl rfl (by decide +kernel) ⟨Nat.le_of_ble_eq_true rfl, Nat.le_of_ble_eq_true rfl⟩) hN hK hP hD hS hA [0, 1, 3] (by decide) rfl rfl rfl rfl rfl rfl hl.1 rfl (Nat.le_of_ble_eq_true rfl) dX0_move_85 ⟨Nat.zero_le _, Nat.zero_le _⟩ (fun H locs hP hD hS => ?_)
        have hP : va_P (dC, dI) vwCl [(a_p1, .inr (6, oX6 r_1 moR)), (a_p0, .inr (0, oX0 coI coR)), ((coR 1), .inl (cI, 24, .inl co_valuesF_31)), ((coR 0), .inr (2, oX2 homeI homeR)), ((homeR 13), .inl (cI, home_goesN, .inl home_goesF)), ((coR 2), .inl (cI, 64, .inl co_stackF_31)), ((moR 7), .inl (cI, 6, .inl mo_talksF)), ((homeR 15), .inl (cI, home_talkForN, .inl home_talkForF)), ((homeR 11), .inl (cI, 6, .inl home_placeMilesF))] H := hP
        have hD : va_D A [(a_p1, .inr (6, oX6 r_1 moR)), (a_p0, .inr (0, oX0 coI coR)), ((coR 1), .inl (cI, 24, .inl co_valuesF_31)), ((coR 0), .inr (2, oX2 homeI homeR)), ((homeR 13), .inl (cI, home_goesN, .inl home_goesF)), ((coR 2), .inl (cI, 64, .inl co_stackF_31)), ((moR 7), .inl (cI, 6, .inl mo_talksF)), ((homeR 15), .inl (cI, home_talkForN, .inl home_talkForF)), ((homeR 11), .inl (cI, 6, .inl home_placeMilesF))] := hD
        refine W.eq (g2 := F0 m 88 ls []) rfl ?_
        refine lv_iload hx hb dX0_move_88 (lv_at hl 4 rfl) ?_
        refine lv_iconst (v := (-1)) hx hb dX0_move_90 (by decide) ?_
        refine lv_icmp_eq (tgt := 106) hx hb dX0_move_91 (by decide) (fun c_ => ?_) (fun c_ => ?_)
        · have hf := xq_pos hf c_
          cases hf
          exact xq_vret hx hb hr hlocks hK hP hD hS dX0_move_106
        · have hf := xq_neg hf c_
          refine lv_aload_n hx hb dX0_move_94 rfl (lv_at hl 1 rfl) ?_
          refine lv_aload_n hx hb dX0_move_95 rfl (lv_at hl 0 rfl) ?_
          refine lv_aload_n hx hb dX0_move_96 rfl (lv_at hl 1 rfl) ?_
          refine lv_iload hx hb dX0_move_97 (lv_at hl 4 rfl) ?_
          refine lv_iload_n hx hb dX0_move_99 rfl (lv_at hl 2 rfl) ?_
          obtain ⟨⟨r_3_0, r_3_1, r_3_2⟩, h_4, hf⟩ := xq_bd_some hf
          refine xq_callV (As := [.ref a_p1, .int x4_31, .int x2_31]) (rest := [.ref a_p1]) (ci := 0) (q0 := 1) ⟨hx, hb, hml, hown, hts⟩ (kX0_talkingAt l dC dI cI cB cJ cZ cM z ad N a_p1 r_1 moR a_p0 coI coR co_valuesF_31 mo_talksF homeI homeR home_talkForF home_talkForN co_stackF_31 x4_31 x2_31 h_4) (cwV 3 hts gX0_move_X0_talkingAt rfl rfl rfl (by decide +kernel) ⟨Nat.le_of_ble_eq_true rfl, Nat.le_of_ble_eq_true rfl⟩) hN hK hP hD hS hA [0, 1, 2, 6, 3, 7, 5] (by decide) rfl rfl rfl rfl rfl rfl hl.1 rfl (Nat.le_of_ble_eq_true rfl) dX0_move_100 ⟨Nat.zero_le _, Nat.zero_le _⟩ (fun H locs hP hD hS => ?_)
          have hP : va_P (dC, dI) vwCl [(a_p1, .inr (6, oX6 r_1 moR)), (a_p0, .inr (0, oX0 coI coR)), ((coR 1), .inl (cI, 24, .inl r_3_1)), ((coR 0), .inr (2, oX2 homeI homeR)), ((homeR 13), .inl (cI, home_goesN, .inl home_goesF)), ((coR 2), .inl (cI, 64, .inl r_3_2)), ((moR 7), .inl (cI, 6, .inl mo_talksF)), ((homeR 15), .inl (cI, home_talkForN, .inl home_talkForF)), ((homeR 11), .inl (cI, 6, .inl home_placeMilesF))] H := hP
          have hD : va_D A [(a_p1, .inr (6, oX6 r_1 moR)), (a_p0, .inr (0, oX0 coI coR)), ((coR 1), .inl (cI, 24, .inl r_3_1)), ((coR 0), .inr (2, oX2 homeI homeR)), ((homeR 13), .inl (cI, home_goesN, .inl home_goesF)), ((coR 2), .inl (cI, 64, .inl r_3_2)), ((moR 7), .inl (cI, 6, .inl mo_talksF)), ((homeR 15), .inl (cI, home_talkForN, .inl home_talkForF)), ((homeR 11), .inl (cI, 6, .inl home_placeMilesF))] := hD
          refine W.eq (g2 := F0 m 103 ls [.int r_3_0, .ref a_p1]) rfl ?_
          refine va_putN (D := (dC, dI)) (ci := 6) (v := .int r_3_0) (ty := .int) (C := RX6) (T := TX6) (N := 8) hx hb hts hinX6 tyX6 tyX6_ok nmX6 hown hK hP hD hS 0 rfl rfl 3 (by decide) hnf14 (fun _ h9 => h9) rfl (by decide +kernel) rfl rfl (Nat.le_of_ble_eq_true rfl) dX0_move_103 (fun H locs hP hD hS => ?_)
          have hP : va_P (dC, dI) vwCl [(a_p1, .inr (6, oX6 (va_up r_1 3 r_3_0) moR)), (a_p0, .inr (0, oX0 coI coR)), ((coR 1), .inl (cI, 24, .inl r_3_1)), ((coR 0), .inr (2, oX2 homeI homeR)), ((homeR 13), .inl (cI, home_goesN, .inl home_goesF)), ((coR 2), .inl (cI, 64, .inl r_3_2)), ((moR 7), .inl (cI, 6, .inl mo_talksF)), ((homeR 15), .inl (cI, home_talkForN, .inl home_talkForF)), ((homeR 11), .inl (cI, 6, .inl home_placeMilesF))] H := hP
          have hD : va_D A [(a_p1, .inr (6, oX6 (va_up r_1 3 r_3_0) moR)), (a_p0, .inr (0, oX0 coI coR)), ((coR 1), .inl (cI, 24, .inl r_3_1)), ((coR 0), .inr (2, oX2 homeI homeR)), ((homeR 13), .inl (cI, home_goesN, .inl home_goesF)), ((coR 2), .inl (cI, 64, .inl r_3_2)), ((moR 7), .inl (cI, 6, .inl mo_talksF)), ((homeR 15), .inl (cI, home_talkForN, .inl home_talkForF)), ((homeR 11), .inl (cI, 6, .inl home_placeMilesF))] := hD
          cases hf
          exact xq_vret hx hb hr hlocks hK hP hD hS dX0_move_106
      · have hf := xq_neg hf c_
        refine lv_aload_n hx hb dX0_move_43 rfl (lv_at hl 0 rfl) ?_
        refine lv_aload_n hx hb dX0_move_44 rfl (lv_at hl 0 rfl) ?_
        refine va_get (D := (dC, dI)) (ci := 0) (v := .ref ((coR 0))) (C := RX0) (T := TX0) (N := 3) hx hb hts hinX0 hown hK hP 1 rfl rfl 0 (by decide) hw2 (fun _ h9 => h9) rfl dX0_move_45 ?_
        refine va_getN (D := (dC, dI)) (ci := 2) (v := .ref ((homeR 11))) (C := RX2) (T := TX2) (N := 19) hx hb hts hinX2 hown hK hP 3 rfl rfl 11 (by decide) hnf62 (fun _ h9 => h9) rfl dX0_move_48 ?_
        refine lv_iload hx hb dX0_move_51 (lv_at hl 5 rfl) ?_
        refine xq_iald hx hb hK hP 8 0 rfl rfl hf dX0_move_53 (fun v_5 hf => ?_)
        refine lv_aload_n hx hb dX0_move_54 rfl (lv_at hl 1 rfl) ?_
        refine va_getN (D := (dC, dI)) (ci := 6) (v := .int (moI_31 1)) (C := RX6) (T := TX6) (N := 8) hx hb hts hinX6 hown hK hP 0 rfl rfl 1 (by decide) hnf8 (fun _ h9 => h9) rfl dX0_move_55 ?_
        obtain ⟨r_6, h_7, hf⟩ := xq_bd_some hf
        refine xq_callV (As := [.int v_5, .int (moI_31 1)]) (rest := []) (ci := 0) (q0 := 1) ⟨hx, hb, hml, hown, hts⟩ (kX0_wayTo l dC dI cI cB cJ cZ cM z ad N a_p0 coI coR homeI homeR v_5 (moI_31 1) h_7) (cwV 2 hts gX0_move_X0_wayTo rfl rfl rfl (by decide +kernel) ⟨Nat.le_of_ble_eq_true rfl, Nat.le_of_ble_eq_true rfl⟩) hN hK hP hD hS hA [1, 3] (by decide) rfl rfl rfl rfl rfl rfl hl.1 rfl (Nat.le_of_ble_eq_true rfl) dX0_move_58 ⟨Nat.zero_le _, Nat.zero_le _⟩ (fun H locs hP hD hS => ?_)
        have hP : va_P (dC, dI) vwCl [(a_p1, .inr (6, oX6 moI_31 moR)), (a_p0, .inr (0, oX0 coI coR)), ((coR 1), .inl (cI, 24, .inl co_valuesF_31)), ((coR 0), .inr (2, oX2 homeI homeR)), ((homeR 13), .inl (cI, home_goesN, .inl home_goesF)), ((coR 2), .inl (cI, 64, .inl co_stackF_31)), ((moR 7), .inl (cI, 6, .inl mo_talksF)), ((homeR 15), .inl (cI, home_talkForN, .inl home_talkForF)), ((homeR 11), .inl (cI, 6, .inl home_placeMilesF))] H := hP
        have hD : va_D A [(a_p1, .inr (6, oX6 moI_31 moR)), (a_p0, .inr (0, oX0 coI coR)), ((coR 1), .inl (cI, 24, .inl co_valuesF_31)), ((coR 0), .inr (2, oX2 homeI homeR)), ((homeR 13), .inl (cI, home_goesN, .inl home_goesF)), ((coR 2), .inl (cI, 64, .inl co_stackF_31)), ((moR 7), .inl (cI, 6, .inl mo_talksF)), ((homeR 15), .inl (cI, home_talkForN, .inl home_talkForF)), ((homeR 11), .inl (cI, 6, .inl home_placeMilesF))] := hD
        refine W.eq (g2 := F0 m 61 ls [.int r_6]) rfl ?_
        refine lv_istore (lv' := [(6, .int r_6), (0, .ref a_p0), (1, .ref a_p1), (2, .int x2_31), (3, .int x3_31), (4, .int x4_31), (5, .int x5_31)]) hx hb dX0_move_61 hl (by decide) rfl (fun ls hl => ?_)
        refine lv_iload hx hb dX0_move_63 (lv_at hl 0 rfl) ?_
        refine lv_iload_n hx hb dX0_move_65 rfl (lv_at hl 4 rfl) ?_
        refine lv_icmp_gt (tgt := 76) hx hb dX0_move_66 (by decide) (fun c_ => ?_) (fun c_ => ?_)
        · have hf := xq_pos hf c_
          exact b76 moI_31 co_valuesF_31 co_stackF_31 x2_31 x3_31 x4_31 x5_31 _ _ _ hf hP hD hS (lv_sub hl [1, 2, 3, 4, 5, 6] rfl)
        · have hf := xq_neg hf c_
          refine lv_iload hx hb dX0_move_69 (lv_at hl 0 rfl) ?_
          refine lv_istore_n (lv' := [(3, .int r_6), (6, .int r_6), (0, .ref a_p0), (1, .ref a_p1), (2, .int x2_31), (4, .int x4_31), (5, .int x5_31)]) hx hb dX0_move_71 rfl hl (by decide) rfl (fun ls hl => ?_)
          refine lv_iload hx hb dX0_move_72 (lv_at hl 6 rfl) ?_
          refine lv_istore (lv' := [(4, .int x5_31), (3, .int r_6), (6, .int r_6), (0, .ref a_p0), (1, .ref a_p1), (2, .int x2_31), (5, .int x5_31)]) hx hb dX0_move_74 hl (by decide) rfl (fun ls hl => ?_)
          exact b76 moI_31 co_valuesF_31 co_stackF_31 x2_31 r_6 x5_31 x5_31 _ _ _ hf hP hD hS (lv_sub hl [3, 4, 5, 1, 0, 6] rfl)
  unfold fX0_move at hf
  refine lv_aload_n hx hb dX0_move_0 rfl (lv_at hl 1 rfl) ?_
  refine va_getN (D := (dC, dI)) (ci := 6) (v := .int (moI 3)) (C := RX6) (T := TX6) (N := 8) hx hb hts hinX6 hown hK hP 0 rfl rfl 3 (by decide) hnf14 (fun _ h9 => h9) rfl dX0_move_1 ?_
  refine lv_if_le (tgt := 18) hx hb dX0_move_4 (by decide) (fun c_ => ?_) (fun c_ => ?_)
  · have hf := xq_pos hf c_
    refine lv_aload_n hx hb dX0_move_18 rfl (lv_at hl 0 rfl) ?_
    refine lv_aload_n hx hb dX0_move_19 rfl (lv_at hl 1 rfl) ?_
    refine lv_iload_n hx hb dX0_move_20 rfl (lv_at hl 2 rfl) ?_
    obtain ⟨⟨r_1_0, r_1_1, r_1_2⟩, h_2, hf⟩ := xq_bd_some hf
    refine xq_callV (As := [.ref a_p1, .int p2]) (rest := []) (ci := 0) (q0 := 1) ⟨hx, hb, hml, hown, hts⟩ (kX0_paceOf l dC dI cI cB cJ cZ cM z ad N a_p1 moI moR a_p0 coI coR co_valuesF homeI homeR home_goesF home_goesN co_stackF p2 h_2) (cwV 2 hts gX0_move_X0_paceOf rfl rfl rfl (by decide +kernel) ⟨Nat.le_of_ble_eq_true rfl, Nat.le_of_ble_eq_true rfl⟩) hN hK hP hD hS hA [0, 1, 2, 3, 4, 5] (by decide) rfl rfl rfl rfl rfl rfl hl.1 rfl (Nat.le_of_ble_eq_true rfl) dX0_move_21 ⟨Nat.zero_le _, Nat.zero_le _⟩ (fun H locs hP hD hS => ?_)
    have hP : va_P (dC, dI) vwCl [(a_p1, .inr (6, oX6 moI moR)), (a_p0, .inr (0, oX0 coI coR)), ((coR 1), .inl (cI, 24, .inl r_1_1)), ((coR 0), .inr (2, oX2 homeI homeR)), ((homeR 13), .inl (cI, home_goesN, .inl home_goesF)), ((coR 2), .inl (cI, 64, .inl r_1_2)), ((moR 7), .inl (cI, 6, .inl mo_talksF)), ((homeR 15), .inl (cI, home_talkForN, .inl home_talkForF)), ((homeR 11), .inl (cI, 6, .inl home_placeMilesF))] H := hP
    have hD : va_D A [(a_p1, .inr (6, oX6 moI moR)), (a_p0, .inr (0, oX0 coI coR)), ((coR 1), .inl (cI, 24, .inl r_1_1)), ((coR 0), .inr (2, oX2 homeI homeR)), ((homeR 13), .inl (cI, home_goesN, .inl home_goesF)), ((coR 2), .inl (cI, 64, .inl r_1_2)), ((moR 7), .inl (cI, 6, .inl mo_talksF)), ((homeR 15), .inl (cI, home_talkForN, .inl home_talkForF)), ((homeR 11), .inl (cI, 6, .inl home_placeMilesF))] := hD
    refine W.eq (g2 := F0 m 24 ls [.int r_1_0]) rfl ?_
    refine lv_istore_n (lv' := [(3, .int r_1_0), (0, .ref a_p0), (1, .ref a_p1), (2, .int p2)]) hx hb dX0_move_24 rfl hl (by decide) rfl (fun ls hl => ?_)
    refine lv_iconst (v := (-1)) hx hb dX0_move_25 (by decide) ?_
    refine lv_istore (lv' := [(4, .int ((-1))), (3, .int r_1_0), (0, .ref a_p0), (1, .ref a_p1), (2, .int p2)]) hx hb dX0_move_26 hl (by decide) rfl (fun ls hl => ?_)
    refine lv_iconst (v := 0) hx hb dX0_move_28 (by decide) ?_
    refine lv_istore (lv' := [(5, .int 0), (4, .int ((-1))), (3, .int r_1_0), (0, .ref a_p0), (1, .ref a_p1), (2, .int p2)]) hx hb dX0_move_29 hl (by decide) rfl (fun ls hl => ?_)
    exact l31 N moI r_1_1 r_1_2 p2 r_1_0 ((-1)) 0 _ _ _ hf hP hD hS (lv_sub hl [3, 4, 5, 2, 1, 0] rfl)
  · have hf := xq_neg hf c_
    refine lv_aload_n hx hb dX0_move_7 rfl (lv_at hl 1 rfl) ?_
    refine lv_dup hx hb dX0_move_8 rfl ?_
    refine va_getN (D := (dC, dI)) (ci := 6) (v := .int (moI 3)) (C := RX6) (T := TX6) (N := 8) hx hb hts hinX6 hown hK hP 0 rfl rfl 3 (by decide) hnf14 (fun _ h9 => h9) rfl dX0_move_9 ?_
    refine lv_iconst (v := 1) hx hb dX0_move_12 (by decide) ?_
    refine lv_isub hx hb dX0_move_13 ?_
    refine va_putN (D := (dC, dI)) (ci := 6) (v := .int ((moI 3) - 1)) (ty := .int) (C := RX6) (T := TX6) (N := 8) hx hb hts hinX6 tyX6 tyX6_ok nmX6 hown hK hP hD hS 0 rfl rfl 3 (by decide) hnf14 (fun _ h9 => h9) rfl (by decide +kernel) rfl rfl (Nat.le_of_ble_eq_true rfl) dX0_move_14 (fun H locs hP hD hS => ?_)
    have hP : va_P (dC, dI) vwCl [(a_p1, .inr (6, oX6 (va_up moI 3 ((moI 3) - 1)) moR)), (a_p0, .inr (0, oX0 coI coR)), ((coR 1), .inl (cI, 24, .inl co_valuesF)), ((coR 0), .inr (2, oX2 homeI homeR)), ((homeR 13), .inl (cI, home_goesN, .inl home_goesF)), ((coR 2), .inl (cI, 64, .inl co_stackF)), ((moR 7), .inl (cI, 6, .inl mo_talksF)), ((homeR 15), .inl (cI, home_talkForN, .inl home_talkForF)), ((homeR 11), .inl (cI, 6, .inl home_placeMilesF))] H := hP
    have hD : va_D A [(a_p1, .inr (6, oX6 (va_up moI 3 ((moI 3) - 1)) moR)), (a_p0, .inr (0, oX0 coI coR)), ((coR 1), .inl (cI, 24, .inl co_valuesF)), ((coR 0), .inr (2, oX2 homeI homeR)), ((homeR 13), .inl (cI, home_goesN, .inl home_goesF)), ((coR 2), .inl (cI, 64, .inl co_stackF)), ((moR 7), .inl (cI, 6, .inl mo_talksF)), ((homeR 15), .inl (cI, home_talkForN, .inl home_talkForF)), ((homeR 11), .inl (cI, 6, .inl home_placeMilesF))] := hD
    cases hf
    exact xq_vret hx hb hr hlocks hK hP hD hS dX0_move_17
set_option maxRecDepth 20000 in
theorem ggX0_passNights_X0_move : GoodIn wsX0_passNights wsX0_move := goodIn_r _ [5, 6, 7, 8, 9, 4, 10, 11, 12, 13, 14, 15, 16, 17, 18, 19, 20, 21, 22, 23, 24, 25, 26, 27, 28, 29, 30, 31, 32, 33, 34, 35, 36, 37, 38, 39, 40, 41, 42, 43, 44, 45, 46, 47, 48, 49, 50, 51, 52, 53, 54, 55, 56, 57, 58, 59, 60, 61, 84, 85, 86, 87, 88, 89, 90, 91, 92, 93, 94, 95, 96, 97, 98, 99, 100, 101, 102, 103, 104, 105, 106, 107, 108, 109, 110, 111, 112, 113] rfl (by decide +kernel)
set_option maxRecDepth 20000 in
theorem gX0_passNights_X0_move : GoodIn wsX0_passNights (wsV RX0 22 RX0 yX0_move wsX0_move) := goodIn_app (goodIn_of _ (by decide +kernel)) ggX0_passNights_X0_move
set_option maxRecDepth 20000 in
theorem ggX0_passNights_X0_earsHearing : GoodIn wsX0_passNights wsX0_earsHearing := goodIn_r _ [65, 6, 66, 67, 68, 4, 69, 18, 19, 20, 21, 22, 70, 71, 72, 73, 74, 75, 76, 12, 13, 14, 23, 24, 25, 26, 27, 28, 29, 30, 31, 32, 33, 34, 35, 36, 37, 38, 39, 40, 41, 42, 43, 44, 45, 46, 47, 48, 49, 92, 93, 94, 95, 96, 97, 98, 99, 100, 101, 102, 103, 104, 105, 106, 107, 108, 109, 110, 111, 112, 113, 84, 85, 86, 87, 88, 89, 90, 91] rfl (by decide +kernel)
set_option maxRecDepth 20000 in
theorem gX0_passNights_X0_earsHearing : GoodIn wsX0_passNights (wsV RX0 26 RX0 yX0_earsHearing wsX0_earsHearing) := goodIn_app (goodIn_of _ (by decide +kernel)) ggX0_passNights_X0_earsHearing
set_option maxRecDepth 20000 in
theorem ggX0_passNights_X6_nextNight : GoodIn wsX0_passNights wsX6_nextNight := goodIn_r _ [81, 82, 83, 12, 13, 14, 84, 85, 86, 87, 88, 89, 90, 91] rfl (by decide +kernel)
set_option maxRecDepth 20000 in
theorem gX0_passNights_X6_nextNight : GoodIn wsX0_passNights (wsV RX0 30 RX6 yX6_nextNight wsX6_nextNight) := goodIn_app (goodIn_of _ (by decide +kernel)) ggX0_passNights_X6_nextNight
def dsX0_passNights_0 : List (Nat × Instr × Nat) := [(0, (.iconst 0, 1)), (1, (.istore 5, 2)), (3, (.iload 5, 2)), (5, (.iload_n 3, 1)), (6, (.if_icmp .ge 38, 3)), (9, (.iload 5, 2)), (11, (.aload 4, 2)), (13, (.arraylength, 1)), (14, (.if_icmp .ge 30, 3)), (17, (.aload_n 0, 1)), (18, (.aload_n 1, 1)), (19, (.iload_n 2, 1)), (20, (.invokevirtual 22, 3)), (23, (.aload 4, 2)), (25, (.iload 5, 2)), (27, (.aload_n 0, 1)), (28, (.aload_n 1, 1)), (29, (.iload_n 2, 1)), (30, (.invokevirtual 26, 3)), (33, (.iastore, 1)), (34, (.aload_n 1, 1)), (35, (.invokevirtual 30, 3)), (38, (.iinc 5 1, 3)), (41, (.goto (-38), 3)), (44, (.return_, 1))]
theorem dsX0_passNights_0_ok : (dsX0_passNights_0.all fun q => decide (decode cX0_passNights q.1 = .ok q.2)) = true := by decide +kernel
theorem dX0_passNights_0 : decode cX0_passNights 0 = .ok (.iconst 0, 1) := of_decide_eq_true (List.all_eq_true.mp dsX0_passNights_0_ok (0, (.iconst 0, 1)) (List.mem_of_getElem? (i := 0) rfl))
theorem dX0_passNights_1 : decode cX0_passNights 1 = .ok (.istore 5, 2) := of_decide_eq_true (List.all_eq_true.mp dsX0_passNights_0_ok (1, (.istore 5, 2)) (List.mem_of_getElem? (i := 1) rfl))
theorem dX0_passNights_3 : decode cX0_passNights 3 = .ok (.iload 5, 2) := of_decide_eq_true (List.all_eq_true.mp dsX0_passNights_0_ok (3, (.iload 5, 2)) (List.mem_of_getElem? (i := 2) rfl))
theorem dX0_passNights_5 : decode cX0_passNights 5 = .ok (.iload_n 3, 1) := of_decide_eq_true (List.all_eq_true.mp dsX0_passNights_0_ok (5, (.iload_n 3, 1)) (List.mem_of_getElem? (i := 3) rfl))
theorem dX0_passNights_6 : decode cX0_passNights 6 = .ok (.if_icmp .ge 38, 3) := of_decide_eq_true (List.all_eq_true.mp dsX0_passNights_0_ok (6, (.if_icmp .ge 38, 3)) (List.mem_of_getElem? (i := 4) rfl))
theorem dX0_passNights_9 : decode cX0_passNights 9 = .ok (.iload 5, 2) := of_decide_eq_true (List.all_eq_true.mp dsX0_passNights_0_ok (9, (.iload 5, 2)) (List.mem_of_getElem? (i := 5) rfl))
theorem dX0_passNights_11 : decode cX0_passNights 11 = .ok (.aload 4, 2) := of_decide_eq_true (List.all_eq_true.mp dsX0_passNights_0_ok (11, (.aload 4, 2)) (List.mem_of_getElem? (i := 6) rfl))
theorem dX0_passNights_13 : decode cX0_passNights 13 = .ok (.arraylength, 1) := of_decide_eq_true (List.all_eq_true.mp dsX0_passNights_0_ok (13, (.arraylength, 1)) (List.mem_of_getElem? (i := 7) rfl))
theorem dX0_passNights_14 : decode cX0_passNights 14 = .ok (.if_icmp .ge 30, 3) := of_decide_eq_true (List.all_eq_true.mp dsX0_passNights_0_ok (14, (.if_icmp .ge 30, 3)) (List.mem_of_getElem? (i := 8) rfl))
theorem dX0_passNights_17 : decode cX0_passNights 17 = .ok (.aload_n 0, 1) := of_decide_eq_true (List.all_eq_true.mp dsX0_passNights_0_ok (17, (.aload_n 0, 1)) (List.mem_of_getElem? (i := 9) rfl))
theorem dX0_passNights_18 : decode cX0_passNights 18 = .ok (.aload_n 1, 1) := of_decide_eq_true (List.all_eq_true.mp dsX0_passNights_0_ok (18, (.aload_n 1, 1)) (List.mem_of_getElem? (i := 10) rfl))
theorem dX0_passNights_19 : decode cX0_passNights 19 = .ok (.iload_n 2, 1) := of_decide_eq_true (List.all_eq_true.mp dsX0_passNights_0_ok (19, (.iload_n 2, 1)) (List.mem_of_getElem? (i := 11) rfl))
theorem dX0_passNights_20 : decode cX0_passNights 20 = .ok (.invokevirtual 22, 3) := of_decide_eq_true (List.all_eq_true.mp dsX0_passNights_0_ok (20, (.invokevirtual 22, 3)) (List.mem_of_getElem? (i := 12) rfl))
theorem dX0_passNights_23 : decode cX0_passNights 23 = .ok (.aload 4, 2) := of_decide_eq_true (List.all_eq_true.mp dsX0_passNights_0_ok (23, (.aload 4, 2)) (List.mem_of_getElem? (i := 13) rfl))
theorem dX0_passNights_25 : decode cX0_passNights 25 = .ok (.iload 5, 2) := of_decide_eq_true (List.all_eq_true.mp dsX0_passNights_0_ok (25, (.iload 5, 2)) (List.mem_of_getElem? (i := 14) rfl))
theorem dX0_passNights_27 : decode cX0_passNights 27 = .ok (.aload_n 0, 1) := of_decide_eq_true (List.all_eq_true.mp dsX0_passNights_0_ok (27, (.aload_n 0, 1)) (List.mem_of_getElem? (i := 15) rfl))
theorem dX0_passNights_28 : decode cX0_passNights 28 = .ok (.aload_n 1, 1) := of_decide_eq_true (List.all_eq_true.mp dsX0_passNights_0_ok (28, (.aload_n 1, 1)) (List.mem_of_getElem? (i := 16) rfl))
theorem dX0_passNights_29 : decode cX0_passNights 29 = .ok (.iload_n 2, 1) := of_decide_eq_true (List.all_eq_true.mp dsX0_passNights_0_ok (29, (.iload_n 2, 1)) (List.mem_of_getElem? (i := 17) rfl))
theorem dX0_passNights_30 : decode cX0_passNights 30 = .ok (.invokevirtual 26, 3) := of_decide_eq_true (List.all_eq_true.mp dsX0_passNights_0_ok (30, (.invokevirtual 26, 3)) (List.mem_of_getElem? (i := 18) rfl))
theorem dX0_passNights_33 : decode cX0_passNights 33 = .ok (.iastore, 1) := of_decide_eq_true (List.all_eq_true.mp dsX0_passNights_0_ok (33, (.iastore, 1)) (List.mem_of_getElem? (i := 19) rfl))
theorem dX0_passNights_34 : decode cX0_passNights 34 = .ok (.aload_n 1, 1) := of_decide_eq_true (List.all_eq_true.mp dsX0_passNights_0_ok (34, (.aload_n 1, 1)) (List.mem_of_getElem? (i := 20) rfl))
theorem dX0_passNights_35 : decode cX0_passNights 35 = .ok (.invokevirtual 30, 3) := of_decide_eq_true (List.all_eq_true.mp dsX0_passNights_0_ok (35, (.invokevirtual 30, 3)) (List.mem_of_getElem? (i := 21) rfl))
theorem dX0_passNights_38 : decode cX0_passNights 38 = .ok (.iinc 5 1, 3) := of_decide_eq_true (List.all_eq_true.mp dsX0_passNights_0_ok (38, (.iinc 5 1, 3)) (List.mem_of_getElem? (i := 22) rfl))
theorem dX0_passNights_41 : decode cX0_passNights 41 = .ok (.goto (-38), 3) := of_decide_eq_true (List.all_eq_true.mp dsX0_passNights_0_ok (41, (.goto (-38), 3)) (List.mem_of_getElem? (i := 23) rfl))
theorem dX0_passNights_44 : decode cX0_passNights 44 = .ok (.return_, 1) := of_decide_eq_true (List.all_eq_true.mp dsX0_passNights_0_ok (44, (.return_, 1)) (List.mem_of_getElem? (i := 24) rfl))
def fX0_passNights_l3 (N : Nat) (homeI : Nat → Int32) (home_goesF : Nat → Int32) (mo_talksF : Nat → Int32) (home_talkForF : Nat → Int32) (home_placeMilesF : Nat → Int32) (mo_rowsF : Nat → Int32) (home_sharpsF : Nat → Int32) (home_hearsF : Nat → Int32) (ar4N : Nat) (home_goesN : Nat) (home_talkForN : Nat) (home_hearsN : Nat) (k3 : ((Nat → Int32) × (Nat → Int32) × (Nat → Int32) × (Nat → Int32) × Int32 × Int32 × Int32) → Option ((Nat → Int32) × (Nat → Int32) × (Nat → Int32) × (Nat → Int32))) : ((Nat → Int32) × (Nat → Int32) × (Nat → Int32) × (Nat → Int32) × Int32 × Int32 × Int32) → Option ((Nat → Int32) × (Nat → Int32) × (Nat → Int32) × (Nat → Int32)) :=
  fun (ar4F_3, moI_3, co_valuesF_3, co_stackF_3, x2_3, x3_3, x5_3) => (if x3_3 ≤ x5_3 then some ((ar4F_3, moI_3, co_valuesF_3, co_stackF_3)) else (if (nI ar4N) ≤ x5_3 then some ((ar4F_3, moI_3, co_valuesF_3, co_stackF_3)) else (xq_bd (fX0_move N moI_3 co_valuesF_3 homeI home_goesF co_stackF_3 mo_talksF home_talkForF home_placeMilesF home_goesN home_talkForN x2_3) fun (r_1_0, r_1_1, r_1_2) => (xq_bd (fX0_earsHearing N homeI r_1_0 mo_rowsF r_1_1 home_sharpsF home_hearsF r_1_2 home_hearsN x2_3) fun (r_3_0, r_3_1, r_3_2) => (xq_bd (xq_ast ar4N ar4F_3 x5_3 r_3_0) fun g_5 => (xq_bd (fX6_nextNight N r_1_0) fun r_6 => k3 (g_5, r_6, r_3_1, r_3_2, x2_3, x3_3, x5_3 + 1)))))))
def fX0_passNights (N : Nat) (ar4F : Nat → Int32) (moI : Nat → Int32) (co_valuesF : Nat → Int32) (homeI : Nat → Int32) (home_goesF : Nat → Int32) (co_stackF : Nat → Int32) (mo_talksF : Nat → Int32) (home_talkForF : Nat → Int32) (home_placeMilesF : Nat → Int32) (mo_rowsF : Nat → Int32) (home_sharpsF : Nat → Int32) (home_hearsF : Nat → Int32) (ar4N : Nat) (home_goesN : Nat) (home_talkForN : Nat) (home_hearsN : Nat) (p2 : Int32) (p3 : Int32) : Option ((Nat → Int32) × (Nat → Int32) × (Nat → Int32) × (Nat → Int32)) :=
  xq_loop (fX0_passNights_l3 N homeI home_goesF mo_talksF home_talkForF home_placeMilesF mo_rowsF home_sharpsF home_hearsF ar4N home_goesN home_talkForN home_hearsN) N (ar4F, moI, co_valuesF, co_stackF, p2, p3, 0)
set_option maxHeartbeats 4000000 in
set_option maxRecDepth 100000 in
theorem kX0_passNights (l : Launch) (dC : Nat → ClassId) (dI : Nat → Nat → Nat) (cI cB cJ cZ cM : ClassId) (z : Nat) (ad : Nat → Nat) (N : Nat) (a_p4 : Nat) (ar4F : Nat → Int32) (ar4N : Nat) (a_p1 : Nat) (moI : Nat → Int32) (moR : Nat → Nat) (a_p0 : Nat) (coI : Nat → Int32) (coR : Nat → Nat) (co_valuesF : Nat → Int32) (homeI : Nat → Int32) (homeR : Nat → Nat) (home_goesF : Nat → Int32) (home_goesN : Nat) (co_stackF : Nat → Int32) (mo_talksF : Nat → Int32) (home_talkForF : Nat → Int32) (home_talkForN : Nat) (home_placeMilesF : Nat → Int32) (mo_rowsF : Nat → Int32) (home_sharpsF : Nat → Int32) (home_hearsF : Nat → Int32) (home_hearsN : Nat) (p2 : Int32) (p3 : Int32) {r0 : Nat → Int32} {r1 : Nat → Int32} {r2 : Nat → Int32} {r3 : Nat → Int32} (hf : fX0_passNights N ar4F moI co_valuesF homeI home_goesF co_stackF mo_talksF home_talkForF home_placeMilesF mo_rowsF home_sharpsF home_hearsF ar4N home_goesN home_talkForN home_hearsN p2 p3 = some (r0, r1, r2, r3)) : xq_Ct l yX0_passNights wsX0_passNights { frames := 5, cells := 0, slots := 0, locals := 124 } (dC, dI) vwCl (xq_tys cI cB cJ cZ cM) z ad [.ref a_p0, .ref a_p1, .int p2, .int p3, .ref a_p4] [(a_p4, .inl (cI, ar4N, .inl ar4F)), (a_p1, .inr (6, oX6 moI moR)), (a_p0, .inr (0, oX0 coI coR)), ((coR 1), .inl (cI, 24, .inl co_valuesF)), ((coR 0), .inr (2, oX2 homeI homeR)), ((homeR 13), .inl (cI, home_goesN, .inl home_goesF)), ((coR 2), .inl (cI, 64, .inl co_stackF)), ((moR 7), .inl (cI, 6, .inl mo_talksF)), ((homeR 15), .inl (cI, home_talkForN, .inl home_talkForF)), ((homeR 11), .inl (cI, 6, .inl home_placeMilesF)), ((moR 6), .inl (cI, 7, .inl mo_rowsF)), ((homeR 9), .inl (cI, 7, .inl home_sharpsF)), ((homeR 14), .inl (cI, home_hearsN, .inl home_hearsF))] [(a_p4, .inl (cI, ar4N, .inl r0)), (a_p1, .inr (6, oX6 r1 moR)), (a_p0, .inr (0, oX0 coI coR)), ((coR 1), .inl (cI, 24, .inl r2)), ((coR 0), .inr (2, oX2 homeI homeR)), ((homeR 13), .inl (cI, home_goesN, .inl home_goesF)), ((coR 2), .inl (cI, 64, .inl r3)), ((moR 7), .inl (cI, 6, .inl mo_talksF)), ((homeR 15), .inl (cI, home_talkForN, .inl home_talkForF)), ((homeR 11), .inl (cI, 6, .inl home_placeMilesF)), ((moR 6), .inl (cI, 7, .inl mo_rowsF)), ((homeR 9), .inl (cI, 7, .inl home_sharpsF)), ((homeR 14), .inl (cI, home_hearsN, .inl home_hearsF))] none := by
  intro sz
  refine Met.ofW (cc := cX0_passNights) (maxL := 6) (ret := none) (by decide) rfl ?_
  intro p e s m args below meth c s₁ B hml hv
  obtain ⟨rfl, hsz, hP, hK, hD0, hE, hz⟩ := hv
  have hx := B.exec
  have hb := B.bytes
  have hr := B.returns
  have hts := atoms_spec (ws := wsX0_passNights) B.pre
  have hown : s.vm.findClass RX0 = some m.cls := findClass_of_methodNamed B.named
  have hlocks := B.notSynchronized
  subst hsz
  have hD := hD0.self (sz := s.heap.size)
  have hN := xq_Env.of hE hz hD0
  generalize hAe : va_A [(a_p4, .inl (cI, ar4N, .inl ar4F)), (a_p1, .inr (6, oX6 moI moR)), (a_p0, .inr (0, oX0 coI coR)), ((coR 1), .inl (cI, 24, .inl co_valuesF)), ((coR 0), .inr (2, oX2 homeI homeR)), ((homeR 13), .inl (cI, home_goesN, .inl home_goesF)), ((coR 2), .inl (cI, 64, .inl co_stackF)), ((moR 7), .inl (cI, 6, .inl mo_talksF)), ((homeR 15), .inl (cI, home_talkForN, .inl home_talkForF)), ((homeR 11), .inl (cI, 6, .inl home_placeMilesF)), ((moR 6), .inl (cI, 7, .inl mo_rowsF)), ((homeR 9), .inl (cI, 7, .inl home_sharpsF)), ((homeR 14), .inl (cI, home_hearsN, .inl home_hearsF))] s.heap.size = A at hD hN ⊢
  have hA : ∀ q : Nat, s.heap.size ≤ q → A q := fun q h => by rw [← hAe]; exact Or.inr h
  clear hAe hD0
  have hS : va_S A s.heap s.heap [] := va_S.rf
  have hl := lv_entry ([.ref a_p0, .ref a_p1, .int p2, .int p3, .ref a_p4]) (n := 6) (Nat.le_of_ble_eq_true rfl)
  rw [lg_entry_eq]
  generalize (lg_sl ([.ref a_p0, .ref a_p1, .int p2, .int p3, .ref a_p4]) ++ List.replicate (6 - (lg_sl ([.ref a_p0, .ref a_p1, .int p2, .int p3, .ref a_p4])).length) Slot.unset).toArray = ls at hl ⊢
  have hl : lv_has ls 6 [(0, .ref a_p0), (1, .ref a_p1), (2, .int p2), (3, .int p3), (4, .ref a_p4)] := hl
  have l3 : ∀ n3 : Nat, ∀ (ar4F_3 : Nat → Int32) (moI_3 : Nat → Int32) (co_valuesF_3 : Nat → Int32) (co_stackF_3 : Nat → Int32) (x2_3 : Int32) (x3_3 : Int32) (x5_3 : Int32) (ls : Array Slot) (H : Heap) (locs : List Loc), xq_loop (fX0_passNights_l3 N homeI home_goesF mo_talksF home_talkForF home_placeMilesF mo_rowsF home_sharpsF home_hearsF ar4N home_goesN home_talkForN home_hearsN) n3 (ar4F_3, moI_3, co_valuesF_3, co_stackF_3, x2_3, x3_3, x5_3) = some (r0, r1, r2, r3) → va_P (dC, dI) vwCl [(a_p4, .inl (cI, ar4N, .inl ar4F_3)), (a_p1, .inr (6, oX6 moI_3 moR)), (a_p0, .inr (0, oX0 coI coR)), ((coR 1), .inl (cI, 24, .inl co_valuesF_3)), ((coR 0), .inr (2, oX2 homeI homeR)), ((homeR 13), .inl (cI, home_goesN, .inl home_goesF)), ((coR 2), .inl (cI, 64, .inl co_stackF_3)), ((moR 7), .inl (cI, 6, .inl mo_talksF)), ((homeR 15), .inl (cI, home_talkForN, .inl home_talkForF)), ((homeR 11), .inl (cI, 6, .inl home_placeMilesF)), ((moR 6), .inl (cI, 7, .inl mo_rowsF)), ((homeR 9), .inl (cI, 7, .inl home_sharpsF)), ((homeR 14), .inl (cI, home_hearsN, .inl home_hearsF))] H → va_D A [(a_p4, .inl (cI, ar4N, .inl ar4F_3)), (a_p1, .inr (6, oX6 moI_3 moR)), (a_p0, .inr (0, oX0 coI coR)), ((coR 1), .inl (cI, 24, .inl co_valuesF_3)), ((coR 0), .inr (2, oX2 homeI homeR)), ((homeR 13), .inl (cI, home_goesN, .inl home_goesF)), ((coR 2), .inl (cI, 64, .inl co_stackF_3)), ((moR 7), .inl (cI, 6, .inl mo_talksF)), ((homeR 15), .inl (cI, home_talkForN, .inl home_talkForF)), ((homeR 11), .inl (cI, 6, .inl home_placeMilesF)), ((moR 6), .inl (cI, 7, .inl mo_rowsF)), ((homeR 9), .inl (cI, 7, .inl home_sharpsF)), ((homeR 14), .inl (cI, home_hearsN, .inl home_hearsF))] → va_S A s.heap H locs → lv_has ls 6 [(0, .ref a_p0), (1, .ref a_p1), (2, .int x2_3), (3, .int x3_3), (4, .ref a_p4), (5, .int x5_3)] → W p l e (headSpec wsX0_passNights { frames := 5, cells := 0, slots := 0, locals := 124 }).room s m [.ref a_p0, .ref a_p1, .int p2, .int p3, .ref a_p4].toArray below meth c H locs 0 0 (MQ below (xq_Q (dC, dI) vwCl (xq_tys cI cB cJ cZ cM) A [(a_p4, .inl (cI, ar4N, .inl r0)), (a_p1, .inr (6, oX6 r1 moR)), (a_p0, .inr (0, oX0 coI coR)), ((coR 1), .inl (cI, 24, .inl r2)), ((coR 0), .inr (2, oX2 homeI homeR)), ((homeR 13), .inl (cI, home_goesN, .inl home_goesF)), ((coR 2), .inl (cI, 64, .inl r3)), ((moR 7), .inl (cI, 6, .inl mo_talksF)), ((homeR 15), .inl (cI, home_talkForN, .inl home_talkForF)), ((homeR 11), .inl (cI, 6, .inl home_placeMilesF)), ((moR 6), .inl (cI, 7, .inl mo_rowsF)), ((homeR 9), .inl (cI, 7, .inl home_sharpsF)), ((homeR 14), .inl (cI, home_hearsN, .inl home_hearsF))] none) [.ref a_p0, .ref a_p1, .int p2, .int p3, .ref a_p4].toArray s 0 0 A) (F0 m 3 ls []) := by
    intro n3
    induction n3 with
    | zero => intro ar4F_3 moI_3 co_valuesF_3 co_stackF_3 x2_3 x3_3 x5_3 ls H locs hf; cases (show none = some (r0, r1, r2, r3) from hf)
    | succ n3 ih3 =>
      intro ar4F_3 moI_3 co_valuesF_3 co_stackF_3 x2_3 x3_3 x5_3 ls H locs hf hP hD hS hl
      have hf : fX0_passNights_l3 N homeI home_goesF mo_talksF home_talkForF home_placeMilesF mo_rowsF home_sharpsF home_hearsF ar4N home_goesN home_talkForN home_hearsN (xq_loop (fX0_passNights_l3 N homeI home_goesF mo_talksF home_talkForF home_placeMilesF mo_rowsF home_sharpsF home_hearsF ar4N home_goesN home_talkForN home_hearsN) n3) (ar4F_3, moI_3, co_valuesF_3, co_stackF_3, x2_3, x3_3, x5_3) = some (r0, r1, r2, r3) := hf
      unfold fX0_passNights_l3 at hf
      refine lv_iload hx hb dX0_passNights_3 (lv_at hl 5 rfl) ?_
      refine lv_iload_n hx hb dX0_passNights_5 rfl (lv_at hl 3 rfl) ?_
      refine lv_icmp_ge (tgt := 44) hx hb dX0_passNights_6 (by decide) (fun c_ => ?_) (fun c_ => ?_)
      · have hf := xq_pos hf c_
        cases hf
        exact xq_vret hx hb hr hlocks hK hP hD hS dX0_passNights_44
      · have hf := xq_neg hf c_
        refine lv_iload hx hb dX0_passNights_9 (lv_at hl 5 rfl) ?_
        refine lv_aload hx hb dX0_passNights_11 (lv_at hl 4 rfl) ?_
        refine va_alen hx hb hK hP 0 0 (v := nI ar4N) rfl rfl rfl dX0_passNights_13 ?_
        refine lv_icmp_ge (tgt := 44) hx hb dX0_passNights_14 (by decide) (fun c_ => ?_) (fun c_ => ?_)
        · have hf := xq_pos hf c_
          cases hf
          exact xq_vret hx hb hr hlocks hK hP hD hS dX0_passNights_44
        · have hf := xq_neg hf c_
          refine lv_aload_n hx hb dX0_passNights_17 rfl (lv_at hl 0 rfl) ?_
          refine lv_aload_n hx hb dX0_passNights_18 rfl (lv_at hl 1 rfl) ?_
          refine lv_iload_n hx hb dX0_passNights_19 rfl (lv_at hl 2 rfl) ?_
          obtain ⟨⟨r_1_0, r_1_1, r_1_2⟩, h_2, hf⟩ := xq_bd_some hf
          refine xq_callV (As := [.ref a_p1, .int x2_3]) (rest := []) (ci := 0) (q0 := 2) ⟨hx, hb, hml, hown, hts⟩ (kX0_move l dC dI cI cB cJ cZ cM z ad N a_p1 moI_3 moR a_p0 coI coR co_valuesF_3 homeI homeR home_goesF home_goesN co_stackF_3 mo_talksF home_talkForF home_talkForN home_placeMilesF x2_3 h_2) (cwV 2 hts gX0_passNights_X0_move rfl rfl rfl (by decide +kernel) ⟨Nat.le_of_ble_eq_true rfl, Nat.le_of_ble_eq_true rfl⟩) hN hK hP hD hS hA [1, 2, 3, 4, 5, 6, 7, 8, 9] (by decide) rfl rfl rfl rfl rfl rfl hl.1 rfl (Nat.le_of_ble_eq_true rfl) dX0_passNights_20 ⟨Nat.zero_le _, Nat.zero_le _⟩ (fun H locs hP hD hS => ?_)
          have hP : va_P (dC, dI) vwCl [(a_p4, .inl (cI, ar4N, .inl ar4F_3)), (a_p1, .inr (6, oX6 r_1_0 moR)), (a_p0, .inr (0, oX0 coI coR)), ((coR 1), .inl (cI, 24, .inl r_1_1)), ((coR 0), .inr (2, oX2 homeI homeR)), ((homeR 13), .inl (cI, home_goesN, .inl home_goesF)), ((coR 2), .inl (cI, 64, .inl r_1_2)), ((moR 7), .inl (cI, 6, .inl mo_talksF)), ((homeR 15), .inl (cI, home_talkForN, .inl home_talkForF)), ((homeR 11), .inl (cI, 6, .inl home_placeMilesF)), ((moR 6), .inl (cI, 7, .inl mo_rowsF)), ((homeR 9), .inl (cI, 7, .inl home_sharpsF)), ((homeR 14), .inl (cI, home_hearsN, .inl home_hearsF))] H := hP
          have hD : va_D A [(a_p4, .inl (cI, ar4N, .inl ar4F_3)), (a_p1, .inr (6, oX6 r_1_0 moR)), (a_p0, .inr (0, oX0 coI coR)), ((coR 1), .inl (cI, 24, .inl r_1_1)), ((coR 0), .inr (2, oX2 homeI homeR)), ((homeR 13), .inl (cI, home_goesN, .inl home_goesF)), ((coR 2), .inl (cI, 64, .inl r_1_2)), ((moR 7), .inl (cI, 6, .inl mo_talksF)), ((homeR 15), .inl (cI, home_talkForN, .inl home_talkForF)), ((homeR 11), .inl (cI, 6, .inl home_placeMilesF)), ((moR 6), .inl (cI, 7, .inl mo_rowsF)), ((homeR 9), .inl (cI, 7, .inl home_sharpsF)), ((homeR 14), .inl (cI, home_hearsN, .inl home_hearsF))] := hD
          refine W.eq (g2 := F0 m 23 ls []) rfl ?_
          refine lv_aload hx hb dX0_passNights_23 (lv_at hl 4 rfl) ?_
          refine lv_iload hx hb dX0_passNights_25 (lv_at hl 5 rfl) ?_
          refine lv_aload_n hx hb dX0_passNights_27 rfl (lv_at hl 0 rfl) ?_
          refine lv_aload_n hx hb dX0_passNights_28 rfl (lv_at hl 1 rfl) ?_
          refine lv_iload_n hx hb dX0_passNights_29 rfl (lv_at hl 2 rfl) ?_
          obtain ⟨⟨r_3_0, r_3_1, r_3_2⟩, h_4, hf⟩ := xq_bd_some hf
          refine xq_callV (As := [.ref a_p1, .int x2_3]) (rest := [.int x5_3, .ref a_p4]) (ci := 0) (q0 := 2) ⟨hx, hb, hml, hown, hts⟩ (kX0_earsHearing l dC dI cI cB cJ cZ cM z ad N a_p0 coI coR homeI homeR a_p1 r_1_0 moR mo_rowsF r_1_1 home_sharpsF home_hearsF home_hearsN r_1_2 x2_3 h_4) (cwV 2 hts gX0_passNights_X0_earsHearing rfl rfl rfl (by decide +kernel) ⟨Nat.le_of_ble_eq_true rfl, Nat.le_of_ble_eq_true rfl⟩) hN hK hP hD hS hA [2, 4, 1, 10, 3, 11, 12, 6] (by decide) rfl rfl rfl rfl rfl rfl hl.1 rfl (Nat.le_of_ble_eq_true rfl) dX0_passNights_30 ⟨Nat.zero_le _, Nat.zero_le _⟩ (fun H locs hP hD hS => ?_)
          have hP : va_P (dC, dI) vwCl [(a_p4, .inl (cI, ar4N, .inl ar4F_3)), (a_p1, .inr (6, oX6 r_1_0 moR)), (a_p0, .inr (0, oX0 coI coR)), ((coR 1), .inl (cI, 24, .inl r_3_1)), ((coR 0), .inr (2, oX2 homeI homeR)), ((homeR 13), .inl (cI, home_goesN, .inl home_goesF)), ((coR 2), .inl (cI, 64, .inl r_3_2)), ((moR 7), .inl (cI, 6, .inl mo_talksF)), ((homeR 15), .inl (cI, home_talkForN, .inl home_talkForF)), ((homeR 11), .inl (cI, 6, .inl home_placeMilesF)), ((moR 6), .inl (cI, 7, .inl mo_rowsF)), ((homeR 9), .inl (cI, 7, .inl home_sharpsF)), ((homeR 14), .inl (cI, home_hearsN, .inl home_hearsF))] H := hP
          have hD : va_D A [(a_p4, .inl (cI, ar4N, .inl ar4F_3)), (a_p1, .inr (6, oX6 r_1_0 moR)), (a_p0, .inr (0, oX0 coI coR)), ((coR 1), .inl (cI, 24, .inl r_3_1)), ((coR 0), .inr (2, oX2 homeI homeR)), ((homeR 13), .inl (cI, home_goesN, .inl home_goesF)), ((coR 2), .inl (cI, 64, .inl r_3_2)), ((moR 7), .inl (cI, 6, .inl mo_talksF)), ((homeR 15), .inl (cI, home_talkForN, .inl home_talkForF)), ((homeR 11), .inl (cI, 6, .inl home_placeMilesF)), ((moR 6), .inl (cI, 7, .inl mo_rowsF)), ((homeR 9), .inl (cI, 7, .inl home_sharpsF)), ((homeR 14), .inl (cI, home_hearsN, .inl home_hearsF))] := hD
          refine W.eq (g2 := F0 m 33 ls [.int r_3_0, .int x5_3, .ref a_p4]) rfl ?_
          refine xq_iast hx hb hK hP hD hS 0 0 rfl rfl hf dX0_passNights_33 (fun g_5 H locs hf hP hD hS => ?_)
          have hP : va_P (dC, dI) vwCl [(a_p4, .inl (cI, ar4N, .inl g_5)), (a_p1, .inr (6, oX6 r_1_0 moR)), (a_p0, .inr (0, oX0 coI coR)), ((coR 1), .inl (cI, 24, .inl r_3_1)), ((coR 0), .inr (2, oX2 homeI homeR)), ((homeR 13), .inl (cI, home_goesN, .inl home_goesF)), ((coR 2), .inl (cI, 64, .inl r_3_2)), ((moR 7), .inl (cI, 6, .inl mo_talksF)), ((homeR 15), .inl (cI, home_talkForN, .inl home_talkForF)), ((homeR 11), .inl (cI, 6, .inl home_placeMilesF)), ((moR 6), .inl (cI, 7, .inl mo_rowsF)), ((homeR 9), .inl (cI, 7, .inl home_sharpsF)), ((homeR 14), .inl (cI, home_hearsN, .inl home_hearsF))] H := hP
          have hD : va_D A [(a_p4, .inl (cI, ar4N, .inl g_5)), (a_p1, .inr (6, oX6 r_1_0 moR)), (a_p0, .inr (0, oX0 coI coR)), ((coR 1), .inl (cI, 24, .inl r_3_1)), ((coR 0), .inr (2, oX2 homeI homeR)), ((homeR 13), .inl (cI, home_goesN, .inl home_goesF)), ((coR 2), .inl (cI, 64, .inl r_3_2)), ((moR 7), .inl (cI, 6, .inl mo_talksF)), ((homeR 15), .inl (cI, home_talkForN, .inl home_talkForF)), ((homeR 11), .inl (cI, 6, .inl home_placeMilesF)), ((moR 6), .inl (cI, 7, .inl mo_rowsF)), ((homeR 9), .inl (cI, 7, .inl home_sharpsF)), ((homeR 14), .inl (cI, home_hearsN, .inl home_hearsF))] := hD
          refine lv_aload_n hx hb dX0_passNights_34 rfl (lv_at hl 1 rfl) ?_
          obtain ⟨r_6, h_7, hf⟩ := xq_bd_some hf
          refine xq_callV (As := []) (rest := []) (ci := 6) (q0 := 1) ⟨hx, hb, hml, hown, hts⟩ (kX6_nextNight l dC dI cI cB cJ cZ cM z ad N a_p1 r_1_0 moR h_7) (cwV 0 hts gX0_passNights_X6_nextNight rfl rfl rfl (by decide +kernel) ⟨Nat.le_of_ble_eq_true rfl, Nat.le_of_ble_eq_true rfl⟩) hN hK hP hD hS hA [1] (by decide) rfl rfl rfl rfl rfl rfl hl.1 rfl (Nat.le_of_ble_eq_true rfl) dX0_passNights_35 ⟨Nat.zero_le _, Nat.zero_le _⟩ (fun H locs hP hD hS => ?_)
          have hP : va_P (dC, dI) vwCl [(a_p4, .inl (cI, ar4N, .inl g_5)), (a_p1, .inr (6, oX6 r_6 moR)), (a_p0, .inr (0, oX0 coI coR)), ((coR 1), .inl (cI, 24, .inl r_3_1)), ((coR 0), .inr (2, oX2 homeI homeR)), ((homeR 13), .inl (cI, home_goesN, .inl home_goesF)), ((coR 2), .inl (cI, 64, .inl r_3_2)), ((moR 7), .inl (cI, 6, .inl mo_talksF)), ((homeR 15), .inl (cI, home_talkForN, .inl home_talkForF)), ((homeR 11), .inl (cI, 6, .inl home_placeMilesF)), ((moR 6), .inl (cI, 7, .inl mo_rowsF)), ((homeR 9), .inl (cI, 7, .inl home_sharpsF)), ((homeR 14), .inl (cI, home_hearsN, .inl home_hearsF))] H := hP
          have hD : va_D A [(a_p4, .inl (cI, ar4N, .inl g_5)), (a_p1, .inr (6, oX6 r_6 moR)), (a_p0, .inr (0, oX0 coI coR)), ((coR 1), .inl (cI, 24, .inl r_3_1)), ((coR 0), .inr (2, oX2 homeI homeR)), ((homeR 13), .inl (cI, home_goesN, .inl home_goesF)), ((coR 2), .inl (cI, 64, .inl r_3_2)), ((moR 7), .inl (cI, 6, .inl mo_talksF)), ((homeR 15), .inl (cI, home_talkForN, .inl home_talkForF)), ((homeR 11), .inl (cI, 6, .inl home_placeMilesF)), ((moR 6), .inl (cI, 7, .inl mo_rowsF)), ((homeR 9), .inl (cI, 7, .inl home_sharpsF)), ((homeR 14), .inl (cI, home_hearsN, .inl home_hearsF))] := hD
          refine W.eq (g2 := F0 m 38 ls []) rfl ?_
          refine lv_iinc (v := x5_3 + 1) (lv' := [(5, .int (x5_3 + 1)), (0, .ref a_p0), (1, .ref a_p1), (2, .int x2_3), (3, .int x3_3), (4, .ref a_p4)]) hx hb dX0_passNights_38 hl (k := 5) rfl (congrArg (fun q9 => x5_3 + q9) (by decide : Int32.ofInt 1 = 1)) (by decide) rfl (fun ls hl => ?_)
          refine lv_goto (tgt := 3) hx hb dX0_passNights_41 (by decide) ?_
          exact ih3 g_5 r_6 r_3_1 r_3_2 x2_3 x3_3 (x5_3 + 1) _ _ _ hf hP hD hS (lv_sub hl [1, 2, 3, 4, 5, 0] rfl)
  unfold fX0_passNights at hf
  refine lv_iconst (v := 0) hx hb dX0_passNights_0 (by decide) ?_
  refine lv_istore (lv' := [(5, .int 0), (0, .ref a_p0), (1, .ref a_p1), (2, .int p2), (3, .int p3), (4, .ref a_p4)]) hx hb dX0_passNights_1 hl (by decide) rfl (fun ls hl => ?_)
  exact l3 N ar4F moI co_valuesF co_stackF p2 p3 0 _ _ _ hf hP hD hS (lv_sub hl [1, 2, 3, 4, 5, 0] rfl)
