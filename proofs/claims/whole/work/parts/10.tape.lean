def dsX9_at_0 : List (Nat × Instr × Nat) := [(0, (.iload_n 1, 1)), (1, (.ifCond .lt 11, 3)), (4, (.iload_n 1, 1)), (5, (.aload_n 0, 1)), (6, (.getfield 15, 3)), (9, (.if_icmp .lt 7, 3)), (12, (.iconst (-1), 1)), (13, (.goto 13, 3)), (16, (.aload_n 0, 1)), (17, (.getfield 9, 3)), (20, (.iload_n 1, 1)), (21, (.baload, 1)), (22, (.sipush 255, 3)), (25, (.iand, 1)), (26, (.ireturn, 1))]
theorem dsX9_at_0_ok : (dsX9_at_0.all fun q => decide (decode cX9_at q.1 = .ok q.2)) = true := by decide +kernel
theorem dX9_at_0 : decode cX9_at 0 = .ok (.iload_n 1, 1) := of_decide_eq_true (List.all_eq_true.mp dsX9_at_0_ok (0, (.iload_n 1, 1)) (List.mem_of_getElem? (i := 0) rfl))
theorem dX9_at_1 : decode cX9_at 1 = .ok (.ifCond .lt 11, 3) := of_decide_eq_true (List.all_eq_true.mp dsX9_at_0_ok (1, (.ifCond .lt 11, 3)) (List.mem_of_getElem? (i := 1) rfl))
theorem dX9_at_4 : decode cX9_at 4 = .ok (.iload_n 1, 1) := of_decide_eq_true (List.all_eq_true.mp dsX9_at_0_ok (4, (.iload_n 1, 1)) (List.mem_of_getElem? (i := 2) rfl))
theorem dX9_at_5 : decode cX9_at 5 = .ok (.aload_n 0, 1) := of_decide_eq_true (List.all_eq_true.mp dsX9_at_0_ok (5, (.aload_n 0, 1)) (List.mem_of_getElem? (i := 3) rfl))
theorem dX9_at_6 : decode cX9_at 6 = .ok (.getfield 15, 3) := of_decide_eq_true (List.all_eq_true.mp dsX9_at_0_ok (6, (.getfield 15, 3)) (List.mem_of_getElem? (i := 4) rfl))
theorem dX9_at_9 : decode cX9_at 9 = .ok (.if_icmp .lt 7, 3) := of_decide_eq_true (List.all_eq_true.mp dsX9_at_0_ok (9, (.if_icmp .lt 7, 3)) (List.mem_of_getElem? (i := 5) rfl))
theorem dX9_at_12 : decode cX9_at 12 = .ok (.iconst (-1), 1) := of_decide_eq_true (List.all_eq_true.mp dsX9_at_0_ok (12, (.iconst (-1), 1)) (List.mem_of_getElem? (i := 6) rfl))
theorem dX9_at_13 : decode cX9_at 13 = .ok (.goto 13, 3) := of_decide_eq_true (List.all_eq_true.mp dsX9_at_0_ok (13, (.goto 13, 3)) (List.mem_of_getElem? (i := 7) rfl))
theorem dX9_at_16 : decode cX9_at 16 = .ok (.aload_n 0, 1) := of_decide_eq_true (List.all_eq_true.mp dsX9_at_0_ok (16, (.aload_n 0, 1)) (List.mem_of_getElem? (i := 8) rfl))
theorem dX9_at_17 : decode cX9_at 17 = .ok (.getfield 9, 3) := of_decide_eq_true (List.all_eq_true.mp dsX9_at_0_ok (17, (.getfield 9, 3)) (List.mem_of_getElem? (i := 9) rfl))
theorem dX9_at_20 : decode cX9_at 20 = .ok (.iload_n 1, 1) := of_decide_eq_true (List.all_eq_true.mp dsX9_at_0_ok (20, (.iload_n 1, 1)) (List.mem_of_getElem? (i := 10) rfl))
theorem dX9_at_21 : decode cX9_at 21 = .ok (.baload, 1) := of_decide_eq_true (List.all_eq_true.mp dsX9_at_0_ok (21, (.baload, 1)) (List.mem_of_getElem? (i := 11) rfl))
theorem dX9_at_22 : decode cX9_at 22 = .ok (.sipush 255, 3) := of_decide_eq_true (List.all_eq_true.mp dsX9_at_0_ok (22, (.sipush 255, 3)) (List.mem_of_getElem? (i := 12) rfl))
theorem dX9_at_25 : decode cX9_at 25 = .ok (.iand, 1) := of_decide_eq_true (List.all_eq_true.mp dsX9_at_0_ok (25, (.iand, 1)) (List.mem_of_getElem? (i := 13) rfl))
theorem dX9_at_26 : decode cX9_at 26 = .ok (.ireturn, 1) := of_decide_eq_true (List.all_eq_true.mp dsX9_at_0_ok (26, (.ireturn, 1)) (List.mem_of_getElem? (i := 14) rfl))
def fX9_at (N : Nat) (taI : Nat → Int32) (ta_bytesF : Nat → Int32)  (p1 : Int32) : Option (Int32) :=
  (if p1 < 0 then some ((-1)) else (if p1 < (taI 1) then (xq_bd (xq_ald 1600 ta_bytesF p1) fun v_1 => some (v_1 &&& 255)) else some ((-1))))
set_option maxHeartbeats 4000000 in
set_option maxRecDepth 100000 in
theorem kX9_at (l : Launch) (dC : Nat → ClassId) (dI : Nat → Nat → Nat) (cI cB cJ cZ cM : ClassId) (N : Nat) (a_p0 : Nat) (taI : Nat → Int32) (taR : Nat → Nat) (ta_bytesF : Nat → Int32) (p1 : Int32) {res : Int32} (hf : fX9_at N taI ta_bytesF p1 = some res) : xq_Ct l yX9_at wsX9_at { frames := 0, cells := 0, slots := 0, locals := 0 } (dC, dI) vwCl (xq_tys cI cB cJ cZ cM) [.ref a_p0, .int p1] [(a_p0, .inr (9, oX9 taI taR)), ((taR 0), .inl (cB, 1600, .inl ta_bytesF))] [(a_p0, .inr (9, oX9 taI taR)), ((taR 0), .inl (cB, 1600, .inl ta_bytesF))] (some (.int res)) := by
  intro sz
  refine Met.ofW (cc := cX9_at) (maxL := 2) (ret := (some .int)) (by decide) rfl ?_
  intro p e s m args below meth c s₁ B hml hv
  obtain ⟨rfl, hsz, hP, hK, hD0⟩ := hv
  have hx := B.exec
  have hb := B.bytes
  have hr := B.returns
  have hts := atoms_spec (ws := wsX9_at) B.pre
  have hown : s.vm.findClass RX9 = some m.cls := findClass_of_methodNamed B.named
  have hlocks := B.notSynchronized
  subst hsz
  have hD := hD0.self (sz := s.heap.size)
  generalize hAe : va_A [(a_p0, .inr (9, oX9 taI taR)), ((taR 0), .inl (cB, 1600, .inl ta_bytesF))] s.heap.size = A at hD ⊢
  have hA : ∀ q : Nat, s.heap.size ≤ q → A q := fun q h => by rw [← hAe]; exact Or.inr h
  clear hAe hD0
  have hS : va_S A s.heap s.heap [] := va_S.rf
  have hl := lv_entry ([.ref a_p0, .int p1]) (n := 2) (Nat.le_of_ble_eq_true rfl)
  rw [lg_entry_eq]
  generalize (lg_sl ([.ref a_p0, .int p1]) ++ List.replicate (2 - (lg_sl ([.ref a_p0, .int p1])).length) Slot.unset).toArray = ls at hl ⊢
  have hl : lv_has ls 2 [(0, .ref a_p0), (1, .int p1)] := hl
  have hw0 := hts (.fieldLink RX9 15 "DistantVoice$Tape" "length" "I") (by decide +kernel)
  have hinX9 : ∀ w ∈ wsX90, w ∈ wsX9_at := fun w h => List.mem_cons_of_mem _ (List.mem_append_right _ h)
  have hw2 := hts (.fieldLink RX9 9 "DistantVoice$Tape" "bytes" "[B") (by decide +kernel)
  unfold fX9_at at hf
  refine lv_iload_n hx hb dX9_at_0 rfl (lv_at hl 1 rfl) ?_
  refine lv_if_lt (tgt := 12) hx hb dX9_at_1 (by decide) (fun c_ => ?_) (fun c_ => ?_)
  · have hf := xq_pos hf c_
    refine lv_iconst (v := (-1)) hx hb dX9_at_12 (by decide) ?_
    refine lv_goto (tgt := 26) hx hb dX9_at_13 (by decide) ?_
    cases hf
    exact xq_iret hx hb hr hlocks hK hP hD hS dX9_at_26
  · have hf := xq_neg hf c_
    refine lv_iload_n hx hb dX9_at_4 rfl (lv_at hl 1 rfl) ?_
    refine lv_aload_n hx hb dX9_at_5 rfl (lv_at hl 0 rfl) ?_
    refine va_get (D := (dC, dI)) (ci := 9) (v := .int (taI 1)) (C := RX9) (T := TX9) (N := 2) hx hb hts hinX9 hown hK hP 0 rfl rfl 1 (by decide) hw0 (fun _ h9 => h9) rfl dX9_at_6 ?_
    refine lv_icmp_lt (tgt := 16) hx hb dX9_at_9 (by decide) (fun c_ => ?_) (fun c_ => ?_)
    · have hf := xq_pos hf c_
      refine lv_aload_n hx hb dX9_at_16 rfl (lv_at hl 0 rfl) ?_
      refine va_get (D := (dC, dI)) (ci := 9) (v := .ref ((taR 0))) (C := RX9) (T := TX9) (N := 2) hx hb hts hinX9 hown hK hP 0 rfl rfl 0 (by decide) hw2 (fun _ h9 => h9) rfl dX9_at_17 ?_
      refine lv_iload_n hx hb dX9_at_20 rfl (lv_at hl 1 rfl) ?_
      refine xq_bald hx hb hK hP 1 1 rfl rfl hf dX9_at_21 (fun v_1 hf => ?_)
      refine lv_sipush (v := 255) hx hb dX9_at_22 (by decide) ?_
      refine lv_iand hx hb dX9_at_25 ?_
      cases hf
      exact xq_iret hx hb hr hlocks hK hP hD hS dX9_at_26
    · have hf := xq_neg hf c_
      refine lv_iconst (v := (-1)) hx hb dX9_at_12 (by decide) ?_
      refine lv_goto (tgt := 26) hx hb dX9_at_13 (by decide) ?_
      cases hf
      exact xq_iret hx hb hr hlocks hK hP hD hS dX9_at_26
