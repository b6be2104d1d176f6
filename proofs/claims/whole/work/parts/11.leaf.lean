def dsX2_ruled_0 : List (Nat × Instr × Nat) := [(0, (.iload_n 1, 1)), (1, (.sipush 310, 3)), (4, (.if_icmp .ne 10, 3)), (7, (.aload_n 0, 1)), (8, (.getfield 61, 3)), (11, (.goto 21, 3)), (14, (.iload_n 1, 1)), (15, (.sipush 311, 3)), (18, (.if_icmp .ne 10, 3)), (21, (.aload_n 0, 1)), (22, (.getfield 65, 3)), (25, (.goto 7, 3)), (28, (.aload_n 0, 1)), (29, (.getfield 68, 3)), (32, (.ireturn, 1))]
theorem dsX2_ruled_0_ok : (dsX2_ruled_0.all fun q => decide (decode cX2_ruled q.1 = .ok q.2)) = true := by decide +kernel
theorem dX2_ruled_0 : decode cX2_ruled 0 = .ok (.iload_n 1, 1) := of_decide_eq_true (List.all_eq_true.mp dsX2_ruled_0_ok (0, (.iload_n 1, 1)) (List.mem_of_getElem? (i := 0) rfl))
theorem dX2_ruled_1 : decode cX2_ruled 1 = .ok (.sipush 310, 3) := of_decide_eq_true (List.all_eq_true.mp dsX2_ruled_0_ok (1, (.sipush 310, 3)) (List.mem_of_getElem? (i := 1) rfl))
theorem dX2_ruled_4 : decode cX2_ruled 4 = .ok (.if_icmp .ne 10, 3) := of_decide_eq_true (List.all_eq_true.mp dsX2_ruled_0_ok (4, (.if_icmp .ne 10, 3)) (List.mem_of_getElem? (i := 2) rfl))
theorem dX2_ruled_7 : decode cX2_ruled 7 = .ok (.aload_n 0, 1) := of_decide_eq_true (List.all_eq_true.mp dsX2_ruled_0_ok (7, (.aload_n 0, 1)) (List.mem_of_getElem? (i := 3) rfl))
theorem dX2_ruled_8 : decode cX2_ruled 8 = .ok (.getfield 61, 3) := of_decide_eq_true (List.all_eq_true.mp dsX2_ruled_0_ok (8, (.getfield 61, 3)) (List.mem_of_getElem? (i := 4) rfl))
theorem dX2_ruled_11 : decode cX2_ruled 11 = .ok (.goto 21, 3) := of_decide_eq_true (List.all_eq_true.mp dsX2_ruled_0_ok (11, (.goto 21, 3)) (List.mem_of_getElem? (i := 5) rfl))
theorem dX2_ruled_14 : decode cX2_ruled 14 = .ok (.iload_n 1, 1) := of_decide_eq_true (List.all_eq_true.mp dsX2_ruled_0_ok (14, (.iload_n 1, 1)) (List.mem_of_getElem? (i := 6) rfl))
theorem dX2_ruled_15 : decode cX2_ruled 15 = .ok (.sipush 311, 3) := of_decide_eq_true (List.all_eq_true.mp dsX2_ruled_0_ok (15, (.sipush 311, 3)) (List.mem_of_getElem? (i := 7) rfl))
theorem dX2_ruled_18 : decode cX2_ruled 18 = .ok (.if_icmp .ne 10, 3) := of_decide_eq_true (List.all_eq_true.mp dsX2_ruled_0_ok (18, (.if_icmp .ne 10, 3)) (List.mem_of_getElem? (i := 8) rfl))
theorem dX2_ruled_21 : decode cX2_ruled 21 = .ok (.aload_n 0, 1) := of_decide_eq_true (List.all_eq_true.mp dsX2_ruled_0_ok (21, (.aload_n 0, 1)) (List.mem_of_getElem? (i := 9) rfl))
theorem dX2_ruled_22 : decode cX2_ruled 22 = .ok (.getfield 65, 3) := of_decide_eq_true (List.all_eq_true.mp dsX2_ruled_0_ok (22, (.getfield 65, 3)) (List.mem_of_getElem? (i := 10) rfl))
theorem dX2_ruled_25 : decode cX2_ruled 25 = .ok (.goto 7, 3) := of_decide_eq_true (List.all_eq_true.mp dsX2_ruled_0_ok (25, (.goto 7, 3)) (List.mem_of_getElem? (i := 11) rfl))
theorem dX2_ruled_28 : decode cX2_ruled 28 = .ok (.aload_n 0, 1) := of_decide_eq_true (List.all_eq_true.mp dsX2_ruled_0_ok (28, (.aload_n 0, 1)) (List.mem_of_getElem? (i := 12) rfl))
theorem dX2_ruled_29 : decode cX2_ruled 29 = .ok (.getfield 68, 3) := of_decide_eq_true (List.all_eq_true.mp dsX2_ruled_0_ok (29, (.getfield 68, 3)) (List.mem_of_getElem? (i := 13) rfl))
theorem dX2_ruled_32 : decode cX2_ruled 32 = .ok (.ireturn, 1) := of_decide_eq_true (List.all_eq_true.mp dsX2_ruled_0_ok (32, (.ireturn, 1)) (List.mem_of_getElem? (i := 14) rfl))
def fX2_ruled (N : Nat) (hoI : Nat → Int32)  (p1 : Int32) : Option (Int32) :=
  (if p1 = 310 then (xq_bd (xq_zb (hoI 16)) fun v_3 => some (hoI 16)) else (if p1 = 311 then (xq_bd (xq_zb (hoI 17)) fun v_2 => some (hoI 17)) else (xq_bd (xq_zb (hoI 18)) fun v_1 => some (hoI 18))))
set_option maxHeartbeats 4000000 in
set_option maxRecDepth 100000 in
theorem kX2_ruled (l : Launch) (dC : Nat → ClassId) (dI : Nat → Nat → Nat) (cI cB cJ cZ cM : ClassId) (z : Nat) (ad : Nat → Nat) (N : Nat) (a_p0 : Nat) (hoI : Nat → Int32) (hoR : Nat → Nat) (p1 : Int32) {r0 : Int32} (hf : fX2_ruled N hoI p1 = some r0) : xq_Ct l yX2_ruled wsX2_ruled { frames := 0, cells := 0, slots := 0, locals := 0 } (dC, dI) vwCl (xq_tys cI cB cJ cZ cM) z ad [.ref a_p0, .int p1] [(a_p0, .inr (2, oX2 hoI hoR))] [(a_p0, .inr (2, oX2 hoI hoR))] (some (.int r0)) := by
  intro sz
  refine Met.ofW (cc := cX2_ruled) (maxL := 2) (ret := (some .boolean)) (by decide) rfl ?_
  intro p e s m args below meth c s₁ B hml hv
  obtain ⟨rfl, hsz, hP, hK, hD0, hE, hz⟩ := hv
  have hx := B.exec
  have hb := B.bytes
  have hr := B.returns
  have hts := atoms_spec (ws := wsX2_ruled) B.pre
  have hown : s.vm.findClass RX2 = some m.cls := findClass_of_methodNamed B.named
  have hlocks := B.notSynchronized
  subst hsz
  have hD := hD0.self (sz := s.heap.size)
  have hN := xq_Env.of hE hz hD0
  generalize hAe : va_A [(a_p0, .inr (2, oX2 hoI hoR))] s.heap.size = A at hD hN ⊢
  have hA : ∀ q : Nat, s.heap.size ≤ q → A q := fun q h => by rw [← hAe]; exact Or.inr h
  clear hAe hD0
  have hS : va_S A s.heap s.heap [] := va_S.rf
  have hl := lv_entry ([.ref a_p0, .int p1]) (n := 2) (Nat.le_of_ble_eq_true rfl)
  rw [lg_entry_eq]
  generalize (lg_sl ([.ref a_p0, .int p1]) ++ List.replicate (2 - (lg_sl ([.ref a_p0, .int p1])).length) Slot.unset).toArray = ls at hl ⊢
  have hl : lv_has ls 2 [(0, .ref a_p0), (1, .int p1)] := hl
  have hw0 := hts (.fieldLink RX2 68 "DistantVoice$House" "talksTold" "Z") (by decide +kernel)
  have hinX2 : ∀ w ∈ wsX20, w ∈ wsX2_ruled := fun w h => List.mem_cons_of_mem _ (List.mem_append_right _ h)
  have hw2 := hts (.fieldLink RX2 65 "DistantVoice$House" "hearsTold" "Z") (by decide +kernel)
  have hw3 := hts (.fieldLink RX2 61 "DistantVoice$House" "goesTold" "Z") (by decide +kernel)
  unfold fX2_ruled at hf
  refine lv_iload_n hx hb dX2_ruled_0 rfl (lv_at hl 1 rfl) ?_
  refine lv_sipush (v := 310) hx hb dX2_ruled_1 (by decide) ?_
  refine lv_icmp_ne (tgt := 14) hx hb dX2_ruled_4 (by decide) (fun c_ => ?_) (fun c_ => ?_)
  · have hf := xq_neg hf c_
    refine lv_iload_n hx hb dX2_ruled_14 rfl (lv_at hl 1 rfl) ?_
    refine lv_sipush (v := 311) hx hb dX2_ruled_15 (by decide) ?_
    refine lv_icmp_ne (tgt := 28) hx hb dX2_ruled_18 (by decide) (fun c_ => ?_) (fun c_ => ?_)
    · have hf := xq_neg hf c_
      refine lv_aload_n hx hb dX2_ruled_28 rfl (lv_at hl 0 rfl) ?_
      refine va_get (D := (dC, dI)) (ci := 2) (v := .int (hoI 18)) (C := RX2) (T := TX2) (N := 19) hx hb hts hinX2 hown hK hP 0 rfl rfl 18 (by decide) hw0 (fun _ h9 => h9) rfl dX2_ruled_29 ?_
      obtain ⟨v_1, hz, hf⟩ := xq_bd_some hf
      obtain ⟨hn9, hf9⟩ := xq_zb_n hz
      obtain rfl := (xq_zb_some hz).2
      cases hf
      exact xq_zret hx hb hr hn9 hlocks hK hP hD hS dX2_ruled_32
    · have hf := xq_pos hf c_
      refine lv_aload_n hx hb dX2_ruled_21 rfl (lv_at hl 0 rfl) ?_
      refine va_get (D := (dC, dI)) (ci := 2) (v := .int (hoI 17)) (C := RX2) (T := TX2) (N := 19) hx hb hts hinX2 hown hK hP 0 rfl rfl 17 (by decide) hw2 (fun _ h9 => h9) rfl dX2_ruled_22 ?_
      refine lv_goto (tgt := 32) hx hb dX2_ruled_25 (by decide) ?_
      obtain ⟨v_2, hz, hf⟩ := xq_bd_some hf
      obtain ⟨hn9, hf9⟩ := xq_zb_n hz
      obtain rfl := (xq_zb_some hz).2
      cases hf
      exact xq_zret hx hb hr hn9 hlocks hK hP hD hS dX2_ruled_32
  · have hf := xq_pos hf c_
    refine lv_aload_n hx hb dX2_ruled_7 rfl (lv_at hl 0 rfl) ?_
    refine va_get (D := (dC, dI)) (ci := 2) (v := .int (hoI 16)) (C := RX2) (T := TX2) (N := 19) hx hb hts hinX2 hown hK hP 0 rfl rfl 16 (by decide) hw3 (fun _ h9 => h9) rfl dX2_ruled_8 ?_
    refine lv_goto (tgt := 32) hx hb dX2_ruled_11 (by decide) ?_
    obtain ⟨v_3, hz, hf⟩ := xq_bd_some hf
    obtain ⟨hn9, hf9⟩ := xq_zb_n hz
    obtain rfl := (xq_zb_some hz).2
    cases hf
    exact xq_zret hx hb hr hn9 hlocks hK hP hD hS dX2_ruled_32
def dsX2_hasName_0 : List (Nat × Instr × Nat) := [(0, (.iconst 0, 1)), (1, (.istore_n 2, 1)), (2, (.iload_n 2, 1)), (3, (.aload_n 0, 1)), (4, (.getfield 27, 3)), (7, (.if_icmp .ge 21, 3)), (10, (.aload_n 0, 1)), (11, (.getfield 33, 3)), (14, (.iload_n 2, 1)), (15, (.iaload, 1)), (16, (.iload_n 1, 1)), (17, (.if_icmp .ne 5, 3)), (20, (.iconst 1, 1)), (21, (.ireturn, 1)), (22, (.iinc 2 1, 3)), (25, (.goto (-23), 3)), (28, (.iconst 0, 1)), (29, (.istore_n 2, 1)), (30, (.iload_n 2, 1)), (31, (.aload_n 0, 1)), (32, (.getfield 30, 3)), (35, (.if_icmp .ge 21, 3)), (38, (.aload_n 0, 1)), (39, (.getfield 43, 3)), (42, (.iload_n 2, 1)), (43, (.iaload, 1)), (44, (.iload_n 1, 1)), (45, (.if_icmp .ne 5, 3)), (48, (.iconst 1, 1)), (49, (.ireturn, 1)), (50, (.iinc 2 1, 3)), (53, (.goto (-23), 3)), (56, (.iconst 0, 1)), (57, (.ireturn, 1))]
theorem dsX2_hasName_0_ok : (dsX2_hasName_0.all fun q => decide (decode cX2_hasName q.1 = .ok q.2)) = true := by decide +kernel
theorem dX2_hasName_0 : decode cX2_hasName 0 = .ok (.iconst 0, 1) := of_decide_eq_true (List.all_eq_true.mp dsX2_hasName_0_ok (0, (.iconst 0, 1)) (List.mem_of_getElem? (i := 0) rfl))
theorem dX2_hasName_1 : decode cX2_hasName 1 = .ok (.istore_n 2, 1) := of_decide_eq_true (List.all_eq_true.mp dsX2_hasName_0_ok (1, (.istore_n 2, 1)) (List.mem_of_getElem? (i := 1) rfl))
theorem dX2_hasName_2 : decode cX2_hasName 2 = .ok (.iload_n 2, 1) := of_decide_eq_true (List.all_eq_true.mp dsX2_hasName_0_ok (2, (.iload_n 2, 1)) (List.mem_of_getElem? (i := 2) rfl))
theorem dX2_hasName_3 : decode cX2_hasName 3 = .ok (.aload_n 0, 1) := of_decide_eq_true (List.all_eq_true.mp dsX2_hasName_0_ok (3, (.aload_n 0, 1)) (List.mem_of_getElem? (i := 3) rfl))
theorem dX2_hasName_4 : decode cX2_hasName 4 = .ok (.getfield 27, 3) := of_decide_eq_true (List.all_eq_true.mp dsX2_hasName_0_ok (4, (.getfield 27, 3)) (List.mem_of_getElem? (i := 4) rfl))
theorem dX2_hasName_7 : decode cX2_hasName 7 = .ok (.if_icmp .ge 21, 3) := of_decide_eq_true (List.all_eq_true.mp dsX2_hasName_0_ok (7, (.if_icmp .ge 21, 3)) (List.mem_of_getElem? (i := 5) rfl))
theorem dX2_hasName_10 : decode cX2_hasName 10 = .ok (.aload_n 0, 1) := of_decide_eq_true (List.all_eq_true.mp dsX2_hasName_0_ok (10, (.aload_n 0, 1)) (List.mem_of_getElem? (i := 6) rfl))
theorem dX2_hasName_11 : decode cX2_hasName 11 = .ok (.getfield 33, 3) := of_decide_eq_true (List.all_eq_true.mp dsX2_hasName_0_ok (11, (.getfield 33, 3)) (List.mem_of_getElem? (i := 7) rfl))
theorem dX2_hasName_14 : decode cX2_hasName 14 = .ok (.iload_n 2, 1) := of_decide_eq_true (List.all_eq_true.mp dsX2_hasName_0_ok (14, (.iload_n 2, 1)) (List.mem_of_getElem? (i := 8) rfl))
theorem dX2_hasName_15 : decode cX2_hasName 15 = .ok (.iaload, 1) := of_decide_eq_true (List.all_eq_true.mp dsX2_hasName_0_ok (15, (.iaload, 1)) (List.mem_of_getElem? (i := 9) rfl))
theorem dX2_hasName_16 : decode cX2_hasName 16 = .ok (.iload_n 1, 1) := of_decide_eq_true (List.all_eq_true.mp dsX2_hasName_0_ok (16, (.iload_n 1, 1)) (List.mem_of_getElem? (i := 10) rfl))
theorem dX2_hasName_17 : decode cX2_hasName 17 = .ok (.if_icmp .ne 5, 3) := of_decide_eq_true (List.all_eq_true.mp dsX2_hasName_0_ok (17, (.if_icmp .ne 5, 3)) (List.mem_of_getElem? (i := 11) rfl))
theorem dX2_hasName_20 : decode cX2_hasName 20 = .ok (.iconst 1, 1) := of_decide_eq_true (List.all_eq_true.mp dsX2_hasName_0_ok (20, (.iconst 1, 1)) (List.mem_of_getElem? (i := 12) rfl))
theorem dX2_hasName_21 : decode cX2_hasName 21 = .ok (.ireturn, 1) := of_decide_eq_true (List.all_eq_true.mp dsX2_hasName_0_ok (21, (.ireturn, 1)) (List.mem_of_getElem? (i := 13) rfl))
theorem dX2_hasName_22 : decode cX2_hasName 22 = .ok (.iinc 2 1, 3) := of_decide_eq_true (List.all_eq_true.mp dsX2_hasName_0_ok (22, (.iinc 2 1, 3)) (List.mem_of_getElem? (i := 14) rfl))
theorem dX2_hasName_25 : decode cX2_hasName 25 = .ok (.goto (-23), 3) := of_decide_eq_true (List.all_eq_true.mp dsX2_hasName_0_ok (25, (.goto (-23), 3)) (List.mem_of_getElem? (i := 15) rfl))
theorem dX2_hasName_28 : decode cX2_hasName 28 = .ok (.iconst 0, 1) := of_decide_eq_true (List.all_eq_true.mp dsX2_hasName_0_ok (28, (.iconst 0, 1)) (List.mem_of_getElem? (i := 16) rfl))
theorem dX2_hasName_29 : decode cX2_hasName 29 = .ok (.istore_n 2, 1) := of_decide_eq_true (List.all_eq_true.mp dsX2_hasName_0_ok (29, (.istore_n 2, 1)) (List.mem_of_getElem? (i := 17) rfl))
theorem dX2_hasName_30 : decode cX2_hasName 30 = .ok (.iload_n 2, 1) := of_decide_eq_true (List.all_eq_true.mp dsX2_hasName_0_ok (30, (.iload_n 2, 1)) (List.mem_of_getElem? (i := 18) rfl))
theorem dX2_hasName_31 : decode cX2_hasName 31 = .ok (.aload_n 0, 1) := of_decide_eq_true (List.all_eq_true.mp dsX2_hasName_0_ok (31, (.aload_n 0, 1)) (List.mem_of_getElem? (i := 19) rfl))
theorem dX2_hasName_32 : decode cX2_hasName 32 = .ok (.getfield 30, 3) := of_decide_eq_true (List.all_eq_true.mp dsX2_hasName_0_ok (32, (.getfield 30, 3)) (List.mem_of_getElem? (i := 20) rfl))
theorem dX2_hasName_35 : decode cX2_hasName 35 = .ok (.if_icmp .ge 21, 3) := of_decide_eq_true (List.all_eq_true.mp dsX2_hasName_0_ok (35, (.if_icmp .ge 21, 3)) (List.mem_of_getElem? (i := 21) rfl))
theorem dX2_hasName_38 : decode cX2_hasName 38 = .ok (.aload_n 0, 1) := of_decide_eq_true (List.all_eq_true.mp dsX2_hasName_0_ok (38, (.aload_n 0, 1)) (List.mem_of_getElem? (i := 22) rfl))
theorem dX2_hasName_39 : decode cX2_hasName 39 = .ok (.getfield 43, 3) := of_decide_eq_true (List.all_eq_true.mp dsX2_hasName_0_ok (39, (.getfield 43, 3)) (List.mem_of_getElem? (i := 23) rfl))
theorem dX2_hasName_42 : decode cX2_hasName 42 = .ok (.iload_n 2, 1) := of_decide_eq_true (List.all_eq_true.mp dsX2_hasName_0_ok (42, (.iload_n 2, 1)) (List.mem_of_getElem? (i := 24) rfl))
theorem dX2_hasName_43 : decode cX2_hasName 43 = .ok (.iaload, 1) := of_decide_eq_true (List.all_eq_true.mp dsX2_hasName_0_ok (43, (.iaload, 1)) (List.mem_of_getElem? (i := 25) rfl))
theorem dX2_hasName_44 : decode cX2_hasName 44 = .ok (.iload_n 1, 1) := of_decide_eq_true (List.all_eq_true.mp dsX2_hasName_0_ok (44, (.iload_n 1, 1)) (List.mem_of_getElem? (i := 26) rfl))
theorem dX2_hasName_45 : decode cX2_hasName 45 = .ok (.if_icmp .ne 5, 3) := of_decide_eq_true (List.all_eq_true.mp dsX2_hasName_0_ok (45, (.if_icmp .ne 5, 3)) (List.mem_of_getElem? (i := 27) rfl))
theorem dX2_hasName_48 : decode cX2_hasName 48 = .ok (.iconst 1, 1) := of_decide_eq_true (List.all_eq_true.mp dsX2_hasName_0_ok (48, (.iconst 1, 1)) (List.mem_of_getElem? (i := 28) rfl))
theorem dX2_hasName_49 : decode cX2_hasName 49 = .ok (.ireturn, 1) := of_decide_eq_true (List.all_eq_true.mp dsX2_hasName_0_ok (49, (.ireturn, 1)) (List.mem_of_getElem? (i := 29) rfl))
theorem dX2_hasName_50 : decode cX2_hasName 50 = .ok (.iinc 2 1, 3) := of_decide_eq_true (List.all_eq_true.mp dsX2_hasName_0_ok (50, (.iinc 2 1, 3)) (List.mem_of_getElem? (i := 30) rfl))
theorem dX2_hasName_53 : decode cX2_hasName 53 = .ok (.goto (-23), 3) := of_decide_eq_true (List.all_eq_true.mp dsX2_hasName_0_ok (53, (.goto (-23), 3)) (List.mem_of_getElem? (i := 31) rfl))
theorem dX2_hasName_56 : decode cX2_hasName 56 = .ok (.iconst 0, 1) := of_decide_eq_true (List.all_eq_true.mp dsX2_hasName_0_ok (56, (.iconst 0, 1)) (List.mem_of_getElem? (i := 32) rfl))
theorem dX2_hasName_57 : decode cX2_hasName 57 = .ok (.ireturn, 1) := of_decide_eq_true (List.all_eq_true.mp dsX2_hasName_0_ok (57, (.ireturn, 1)) (List.mem_of_getElem? (i := 33) rfl))
def fX2_hasName_l30 (N : Nat) (hoI : Nat → Int32) (ho_earNamesF : Nat → Int32) (ho_placeNamesF : Nat → Int32)  (k30 : (Int32 × Int32) → Option (Int32)) : (Int32 × Int32) → Option (Int32) :=
  fun (x1_30, x2_30) => (if (hoI 6) ≤ x2_30 then some 0 else (xq_bd (xq_ald 6 ho_placeNamesF x2_30) fun v_1 => (if v_1 = x1_30 then some 1 else k30 (x1_30, x2_30 + 1))))
def fX2_hasName_l2 (N : Nat) (hoI : Nat → Int32) (ho_earNamesF : Nat → Int32) (ho_placeNamesF : Nat → Int32)  (k2 : (Int32 × Int32) → Option (Int32)) : (Int32 × Int32) → Option (Int32) :=
  fun (x1_2, x2_2) => (if (hoI 5) ≤ x2_2 then xq_loop (fX2_hasName_l30 N hoI ho_earNamesF ho_placeNamesF) N (x1_2, 0) else (xq_bd (xq_ald 7 ho_earNamesF x2_2) fun v_2 => (if v_2 = x1_2 then some 1 else k2 (x1_2, x2_2 + 1))))
def fX2_hasName (N : Nat) (hoI : Nat → Int32) (ho_earNamesF : Nat → Int32) (ho_placeNamesF : Nat → Int32)  (p1 : Int32) : Option (Int32) :=
  xq_loop (fX2_hasName_l2 N hoI ho_earNamesF ho_placeNamesF) N (p1, 0)
set_option maxHeartbeats 4000000 in
set_option maxRecDepth 100000 in
theorem kX2_hasName (l : Launch) (dC : Nat → ClassId) (dI : Nat → Nat → Nat) (cI cB cJ cZ cM : ClassId) (z : Nat) (ad : Nat → Nat) (N : Nat) (a_p0 : Nat) (hoI : Nat → Int32) (hoR : Nat → Nat) (ho_earNamesF : Nat → Int32) (ho_placeNamesF : Nat → Int32) (p1 : Int32) {r0 : Int32} (hf : fX2_hasName N hoI ho_earNamesF ho_placeNamesF p1 = some r0) : xq_Ct l yX2_hasName wsX2_hasName { frames := 0, cells := 0, slots := 0, locals := 0 } (dC, dI) vwCl (xq_tys cI cB cJ cZ cM) z ad [.ref a_p0, .int p1] [(a_p0, .inr (2, oX2 hoI hoR)), ((hoR 7), .inl (cI, 7, .inl ho_earNamesF)), ((hoR 10), .inl (cI, 6, .inl ho_placeNamesF))] [(a_p0, .inr (2, oX2 hoI hoR)), ((hoR 7), .inl (cI, 7, .inl ho_earNamesF)), ((hoR 10), .inl (cI, 6, .inl ho_placeNamesF))] (some (.int r0)) := by
  intro sz
  refine Met.ofW (cc := cX2_hasName) (maxL := 3) (ret := (some .boolean)) (by decide) rfl ?_
  intro p e s m args below meth c s₁ B hml hv
  obtain ⟨rfl, hsz, hP, hK, hD0, hE, hz⟩ := hv
  have hx := B.exec
  have hb := B.bytes
  have hr := B.returns
  have hts := atoms_spec (ws := wsX2_hasName) B.pre
  have hown : s.vm.findClass RX2 = some m.cls := findClass_of_methodNamed B.named
  have hlocks := B.notSynchronized
  subst hsz
  have hD := hD0.self (sz := s.heap.size)
  have hN := xq_Env.of hE hz hD0
  generalize hAe : va_A [(a_p0, .inr (2, oX2 hoI hoR)), ((hoR 7), .inl (cI, 7, .inl ho_earNamesF)), ((hoR 10), .inl (cI, 6, .inl ho_placeNamesF))] s.heap.size = A at hD hN ⊢
  have hA : ∀ q : Nat, s.heap.size ≤ q → A q := fun q h => by rw [← hAe]; exact Or.inr h
  clear hAe hD0
  have hS : va_S A s.heap s.heap [] := va_S.rf
  have hl := lv_entry ([.ref a_p0, .int p1]) (n := 3) (Nat.le_of_ble_eq_true rfl)
  rw [lg_entry_eq]
  generalize (lg_sl ([.ref a_p0, .int p1]) ++ List.replicate (3 - (lg_sl ([.ref a_p0, .int p1])).length) Slot.unset).toArray = ls at hl ⊢
  have hl : lv_has ls 3 [(0, .ref a_p0), (1, .int p1)] := hl
  have hw0 := hts (.fieldLink RX2 27 "DistantVoice$House" "ears" "I") (by decide +kernel)
  have hinX2 : ∀ w ∈ wsX20, w ∈ wsX2_hasName := fun w h => List.mem_cons_of_mem _ (List.mem_append_right _ h)
  have hw2 := hts (.fieldLink RX2 33 "DistantVoice$House" "earNames" "[I") (by decide +kernel)
  have hw3 := hts (.fieldLink RX2 30 "DistantVoice$House" "places" "I") (by decide +kernel)
  have hw4 := hts (.fieldLink RX2 43 "DistantVoice$House" "placeNames" "[I") (by decide +kernel)
  have l30 : ∀ n30 : Nat, ∀ (x1_30 : Int32) (x2_30 : Int32) (ls : Array Slot) (H : Heap) (locs : List Loc), xq_loop (fX2_hasName_l30 N hoI ho_earNamesF ho_placeNamesF) n30 (x1_30, x2_30) = some r0 → va_P (dC, dI) vwCl [(a_p0, .inr (2, oX2 hoI hoR)), ((hoR 7), .inl (cI, 7, .inl ho_earNamesF)), ((hoR 10), .inl (cI, 6, .inl ho_placeNamesF))] H → va_D A [(a_p0, .inr (2, oX2 hoI hoR)), ((hoR 7), .inl (cI, 7, .inl ho_earNamesF)), ((hoR 10), .inl (cI, 6, .inl ho_placeNamesF))] → va_S A s.heap H locs → lv_has ls 3 [(0, .ref a_p0), (1, .int x1_30), (2, .int x2_30)] → W p l e (headSpec wsX2_hasName { frames := 0, cells := 0, slots := 0, locals := 0 }).room s m [.ref a_p0, .int p1].toArray below meth c H locs 0 0 (MQ below (xq_Q (dC, dI) vwCl (xq_tys cI cB cJ cZ cM) A [(a_p0, .inr (2, oX2 hoI hoR)), ((hoR 7), .inl (cI, 7, .inl ho_earNamesF)), ((hoR 10), .inl (cI, 6, .inl ho_placeNamesF))] (some (.int r0))) [.ref a_p0, .int p1].toArray s 0 0 A) (F0 m 30 ls []) := by
    intro n30
    induction n30 with
    | zero => intro x1_30 x2_30 ls H locs hf; cases (show none = some r0 from hf)
    | succ n30 ih30 =>
      intro x1_30 x2_30 ls H locs hf hP hD hS hl
      have hf : fX2_hasName_l30 N hoI ho_earNamesF ho_placeNamesF (xq_loop (fX2_hasName_l30 N hoI ho_earNamesF ho_placeNamesF) n30) (x1_30, x2_30) = some r0 := hf
      unfold fX2_hasName_l30 at hf
      refine lv_iload_n hx hb dX2_hasName_30 rfl (lv_at hl 2 rfl) ?_
      refine lv_aload_n hx hb dX2_hasName_31 rfl (lv_at hl 0 rfl) ?_
      refine va_get (D := (dC, dI)) (ci := 2) (v := .int (hoI 6)) (C := RX2) (T := TX2) (N := 19) hx hb hts hinX2 hown hK hP 0 rfl rfl 6 (by decide) hw3 (fun _ h9 => h9) rfl dX2_hasName_32 ?_
      refine lv_icmp_ge (tgt := 56) hx hb dX2_hasName_35 (by decide) (fun c_ => ?_) (fun c_ => ?_)
      · have hf := xq_pos hf c_
        refine lv_iconst (v := 0) hx hb dX2_hasName_56 (by decide) ?_
        cases hf
        exact xq_zret hx hb hr (by decide +kernel) hlocks hK hP hD hS dX2_hasName_57
      · have hf := xq_neg hf c_
        refine lv_aload_n hx hb dX2_hasName_38 rfl (lv_at hl 0 rfl) ?_
        refine va_get (D := (dC, dI)) (ci := 2) (v := .ref ((hoR 10))) (C := RX2) (T := TX2) (N := 19) hx hb hts hinX2 hown hK hP 0 rfl rfl 10 (by decide) hw4 (fun _ h9 => h9) rfl dX2_hasName_39 ?_
        refine lv_iload_n hx hb dX2_hasName_42 rfl (lv_at hl 2 rfl) ?_
        refine xq_iald hx hb hK hP 2 0 rfl rfl hf dX2_hasName_43 (fun v_1 hf => ?_)
        refine lv_iload_n hx hb dX2_hasName_44 rfl (lv_at hl 1 rfl) ?_
        refine lv_icmp_ne (tgt := 50) hx hb dX2_hasName_45 (by decide) (fun c_ => ?_) (fun c_ => ?_)
        · have hf := xq_neg hf c_
          refine lv_iinc (v := x2_30 + 1) (lv' := [(2, .int (x2_30 + 1)), (0, .ref a_p0), (1, .int x1_30)]) hx hb dX2_hasName_50 hl (k := 2) rfl (congrArg (fun q9 => x2_30 + q9) (by decide : Int32.ofInt 1 = 1)) (by decide) rfl (fun ls hl => ?_)
          refine lv_goto (tgt := 30) hx hb dX2_hasName_53 (by decide) ?_
          exact ih30 x1_30 (x2_30 + 1) _ _ _ hf hP hD hS (lv_sub hl [1, 2, 0] rfl)
        · have hf := xq_pos hf c_
          refine lv_iconst (v := 1) hx hb dX2_hasName_48 (by decide) ?_
          cases hf
          exact xq_zret hx hb hr (by decide +kernel) hlocks hK hP hD hS dX2_hasName_49
  have l2 : ∀ n2 : Nat, ∀ (x1_2 : Int32) (x2_2 : Int32) (ls : Array Slot) (H : Heap) (locs : List Loc), xq_loop (fX2_hasName_l2 N hoI ho_earNamesF ho_placeNamesF) n2 (x1_2, x2_2) = some r0 → va_P (dC, dI) vwCl [(a_p0, .inr (2, oX2 hoI hoR)), ((hoR 7), .inl (cI, 7, .inl ho_earNamesF)), ((hoR 10), .inl (cI, 6, .inl ho_placeNamesF))] H → va_D A [(a_p0, .inr (2, oX2 hoI hoR)), ((hoR 7), .inl (cI, 7, .inl ho_earNamesF)), ((hoR 10), .inl (cI, 6, .inl ho_placeNamesF))] → va_S A s.heap H locs → lv_has ls 3 [(0, .ref a_p0), (1, .int x1_2), (2, .int x2_2)] → W p l e (headSpec wsX2_hasName { frames := 0, cells := 0, slots := 0, locals := 0 }).room s m [.ref a_p0, .int p1].toArray below meth c H locs 0 0 (MQ below (xq_Q (dC, dI) vwCl (xq_tys cI cB cJ cZ cM) A [(a_p0, .inr (2, oX2 hoI hoR)), ((hoR 7), .inl (cI, 7, .inl ho_earNamesF)), ((hoR 10), .inl (cI, 6, .inl ho_placeNamesF))] (some (.int r0))) [.ref a_p0, .int p1].toArray s 0 0 A) (F0 m 2 ls []) := by
    intro n2
    induction n2 with
    | zero => intro x1_2 x2_2 ls H locs hf; cases (show none = some r0 from hf)
    | succ n2 ih2 =>
      intro x1_2 x2_2 ls H locs hf hP hD hS hl
      have hf : fX2_hasName_l2 N hoI ho_earNamesF ho_placeNamesF (xq_loop (fX2_hasName_l2 N hoI ho_earNamesF ho_placeNamesF) n2) (x1_2, x2_2) = some r0 := hf
      unfold fX2_hasName_l2 at hf
      refine lv_iload_n hx hb dX2_hasName_2 rfl (lv_at hl 2 rfl) ?_
      refine lv_aload_n hx hb dX2_hasName_3 rfl (lv_at hl 0 rfl) ?_
      refine va_get (D := (dC, dI)) (ci := 2) (v := .int (hoI 5)) (C := RX2) (T := TX2) (N := 19) hx hb hts hinX2 hown hK hP 0 rfl rfl 5 (by decide) hw0 (fun _ h9 => h9) rfl dX2_hasName_4 ?_
      refine lv_icmp_ge (tgt := 28) hx hb dX2_hasName_7 (by decide) (fun c_ => ?_) (fun c_ => ?_)
      · have hf := xq_pos hf c_
        refine lv_iconst (v := 0) hx hb dX2_hasName_28 (by decide) ?_
        refine lv_istore_n (lv' := [(2, .int 0), (0, .ref a_p0), (1, .int x1_2)]) hx hb dX2_hasName_29 rfl hl (by decide) rfl (fun ls hl => ?_)
        exact l30 N x1_2 0 _ _ _ hf hP hD hS (lv_sub hl [1, 2, 0] rfl)
      · have hf := xq_neg hf c_
        refine lv_aload_n hx hb dX2_hasName_10 rfl (lv_at hl 0 rfl) ?_
        refine va_get (D := (dC, dI)) (ci := 2) (v := .ref ((hoR 7))) (C := RX2) (T := TX2) (N := 19) hx hb hts hinX2 hown hK hP 0 rfl rfl 7 (by decide) hw2 (fun _ h9 => h9) rfl dX2_hasName_11 ?_
        refine lv_iload_n hx hb dX2_hasName_14 rfl (lv_at hl 2 rfl) ?_
        refine xq_iald hx hb hK hP 1 0 rfl rfl hf dX2_hasName_15 (fun v_1 hf => ?_)
        refine lv_iload_n hx hb dX2_hasName_16 rfl (lv_at hl 1 rfl) ?_
        refine lv_icmp_ne (tgt := 22) hx hb dX2_hasName_17 (by decide) (fun c_ => ?_) (fun c_ => ?_)
        · have hf := xq_neg hf c_
          refine lv_iinc (v := x2_2 + 1) (lv' := [(2, .int (x2_2 + 1)), (0, .ref a_p0), (1, .int x1_2)]) hx hb dX2_hasName_22 hl (k := 2) rfl (congrArg (fun q9 => x2_2 + q9) (by decide : Int32.ofInt 1 = 1)) (by decide) rfl (fun ls hl => ?_)
          refine lv_goto (tgt := 2) hx hb dX2_hasName_25 (by decide) ?_
          exact ih2 x1_2 (x2_2 + 1) _ _ _ hf hP hD hS (lv_sub hl [1, 2, 0] rfl)
        · have hf := xq_pos hf c_
          refine lv_iconst (v := 1) hx hb dX2_hasName_20 (by decide) ?_
          cases hf
          exact xq_zret hx hb hr (by decide +kernel) hlocks hK hP hD hS dX2_hasName_21
  unfold fX2_hasName at hf
  refine lv_iconst (v := 0) hx hb dX2_hasName_0 (by decide) ?_
  refine lv_istore_n (lv' := [(2, .int 0), (0, .ref a_p0), (1, .int p1)]) hx hb dX2_hasName_1 rfl hl (by decide) rfl (fun ls hl => ?_)
  exact l2 N p1 0 _ _ _ hf hP hD hS (lv_sub hl [1, 2, 0] rfl)
def dsX2_hasPlaceAt_0 : List (Nat × Instr × Nat) := [(0, (.iconst 0, 1)), (1, (.istore_n 2, 1)), (2, (.iload_n 2, 1)), (3, (.aload_n 0, 1)), (4, (.getfield 30, 3)), (7, (.if_icmp .ge 21, 3)), (10, (.aload_n 0, 1)), (11, (.getfield 46, 3)), (14, (.iload_n 2, 1)), (15, (.iaload, 1)), (16, (.iload_n 1, 1)), (17, (.if_icmp .ne 5, 3)), (20, (.iconst 1, 1)), (21, (.ireturn, 1)), (22, (.iinc 2 1, 3)), (25, (.goto (-23), 3)), (28, (.iconst 0, 1)), (29, (.ireturn, 1))]
theorem dsX2_hasPlaceAt_0_ok : (dsX2_hasPlaceAt_0.all fun q => decide (decode cX2_hasPlaceAt q.1 = .ok q.2)) = true := by decide +kernel
theorem dX2_hasPlaceAt_0 : decode cX2_hasPlaceAt 0 = .ok (.iconst 0, 1) := of_decide_eq_true (List.all_eq_true.mp dsX2_hasPlaceAt_0_ok (0, (.iconst 0, 1)) (List.mem_of_getElem? (i := 0) rfl))
theorem dX2_hasPlaceAt_1 : decode cX2_hasPlaceAt 1 = .ok (.istore_n 2, 1) := of_decide_eq_true (List.all_eq_true.mp dsX2_hasPlaceAt_0_ok (1, (.istore_n 2, 1)) (List.mem_of_getElem? (i := 1) rfl))
theorem dX2_hasPlaceAt_2 : decode cX2_hasPlaceAt 2 = .ok (.iload_n 2, 1) := of_decide_eq_true (List.all_eq_true.mp dsX2_hasPlaceAt_0_ok (2, (.iload_n 2, 1)) (List.mem_of_getElem? (i := 2) rfl))
theorem dX2_hasPlaceAt_3 : decode cX2_hasPlaceAt 3 = .ok (.aload_n 0, 1) := of_decide_eq_true (List.all_eq_true.mp dsX2_hasPlaceAt_0_ok (3, (.aload_n 0, 1)) (List.mem_of_getElem? (i := 3) rfl))
theorem dX2_hasPlaceAt_4 : decode cX2_hasPlaceAt 4 = .ok (.getfield 30, 3) := of_decide_eq_true (List.all_eq_true.mp dsX2_hasPlaceAt_0_ok (4, (.getfield 30, 3)) (List.mem_of_getElem? (i := 4) rfl))
theorem dX2_hasPlaceAt_7 : decode cX2_hasPlaceAt 7 = .ok (.if_icmp .ge 21, 3) := of_decide_eq_true (List.all_eq_true.mp dsX2_hasPlaceAt_0_ok (7, (.if_icmp .ge 21, 3)) (List.mem_of_getElem? (i := 5) rfl))
theorem dX2_hasPlaceAt_10 : decode cX2_hasPlaceAt 10 = .ok (.aload_n 0, 1) := of_decide_eq_true (List.all_eq_true.mp dsX2_hasPlaceAt_0_ok (10, (.aload_n 0, 1)) (List.mem_of_getElem? (i := 6) rfl))
theorem dX2_hasPlaceAt_11 : decode cX2_hasPlaceAt 11 = .ok (.getfield 46, 3) := of_decide_eq_true (List.all_eq_true.mp dsX2_hasPlaceAt_0_ok (11, (.getfield 46, 3)) (List.mem_of_getElem? (i := 7) rfl))
theorem dX2_hasPlaceAt_14 : decode cX2_hasPlaceAt 14 = .ok (.iload_n 2, 1) := of_decide_eq_true (List.all_eq_true.mp dsX2_hasPlaceAt_0_ok (14, (.iload_n 2, 1)) (List.mem_of_getElem? (i := 8) rfl))
theorem dX2_hasPlaceAt_15 : decode cX2_hasPlaceAt 15 = .ok (.iaload, 1) := of_decide_eq_true (List.all_eq_true.mp dsX2_hasPlaceAt_0_ok (15, (.iaload, 1)) (List.mem_of_getElem? (i := 9) rfl))
theorem dX2_hasPlaceAt_16 : decode cX2_hasPlaceAt 16 = .ok (.iload_n 1, 1) := of_decide_eq_true (List.all_eq_true.mp dsX2_hasPlaceAt_0_ok (16, (.iload_n 1, 1)) (List.mem_of_getElem? (i := 10) rfl))
theorem dX2_hasPlaceAt_17 : decode cX2_hasPlaceAt 17 = .ok (.if_icmp .ne 5, 3) := of_decide_eq_true (List.all_eq_true.mp dsX2_hasPlaceAt_0_ok (17, (.if_icmp .ne 5, 3)) (List.mem_of_getElem? (i := 11) rfl))
theorem dX2_hasPlaceAt_20 : decode cX2_hasPlaceAt 20 = .ok (.iconst 1, 1) := of_decide_eq_true (List.all_eq_true.mp dsX2_hasPlaceAt_0_ok (20, (.iconst 1, 1)) (List.mem_of_getElem? (i := 12) rfl))
theorem dX2_hasPlaceAt_21 : decode cX2_hasPlaceAt 21 = .ok (.ireturn, 1) := of_decide_eq_true (List.all_eq_true.mp dsX2_hasPlaceAt_0_ok (21, (.ireturn, 1)) (List.mem_of_getElem? (i := 13) rfl))
theorem dX2_hasPlaceAt_22 : decode cX2_hasPlaceAt 22 = .ok (.iinc 2 1, 3) := of_decide_eq_true (List.all_eq_true.mp dsX2_hasPlaceAt_0_ok (22, (.iinc 2 1, 3)) (List.mem_of_getElem? (i := 14) rfl))
theorem dX2_hasPlaceAt_25 : decode cX2_hasPlaceAt 25 = .ok (.goto (-23), 3) := of_decide_eq_true (List.all_eq_true.mp dsX2_hasPlaceAt_0_ok (25, (.goto (-23), 3)) (List.mem_of_getElem? (i := 15) rfl))
theorem dX2_hasPlaceAt_28 : decode cX2_hasPlaceAt 28 = .ok (.iconst 0, 1) := of_decide_eq_true (List.all_eq_true.mp dsX2_hasPlaceAt_0_ok (28, (.iconst 0, 1)) (List.mem_of_getElem? (i := 16) rfl))
theorem dX2_hasPlaceAt_29 : decode cX2_hasPlaceAt 29 = .ok (.ireturn, 1) := of_decide_eq_true (List.all_eq_true.mp dsX2_hasPlaceAt_0_ok (29, (.ireturn, 1)) (List.mem_of_getElem? (i := 17) rfl))
def fX2_hasPlaceAt_l2 (N : Nat) (hoI : Nat → Int32) (ho_placeMilesF : Nat → Int32)  (k2 : (Int32 × Int32) → Option (Int32)) : (Int32 × Int32) → Option (Int32) :=
  fun (x1_2, x2_2) => (if (hoI 6) ≤ x2_2 then some 0 else (xq_bd (xq_ald 6 ho_placeMilesF x2_2) fun v_1 => (if v_1 = x1_2 then some 1 else k2 (x1_2, x2_2 + 1))))
def fX2_hasPlaceAt (N : Nat) (hoI : Nat → Int32) (ho_placeMilesF : Nat → Int32)  (p1 : Int32) : Option (Int32) :=
  xq_loop (fX2_hasPlaceAt_l2 N hoI ho_placeMilesF) N (p1, 0)
set_option maxHeartbeats 4000000 in
set_option maxRecDepth 100000 in
theorem kX2_hasPlaceAt (l : Launch) (dC : Nat → ClassId) (dI : Nat → Nat → Nat) (cI cB cJ cZ cM : ClassId) (z : Nat) (ad : Nat → Nat) (N : Nat) (a_p0 : Nat) (hoI : Nat → Int32) (hoR : Nat → Nat) (ho_placeMilesF : Nat → Int32) (p1 : Int32) {r0 : Int32} (hf : fX2_hasPlaceAt N hoI ho_placeMilesF p1 = some r0) : xq_Ct l yX2_hasPlaceAt wsX2_hasPlaceAt { frames := 0, cells := 0, slots := 0, locals := 0 } (dC, dI) vwCl (xq_tys cI cB cJ cZ cM) z ad [.ref a_p0, .int p1] [(a_p0, .inr (2, oX2 hoI hoR)), ((hoR 11), .inl (cI, 6, .inl ho_placeMilesF))] [(a_p0, .inr (2, oX2 hoI hoR)), ((hoR 11), .inl (cI, 6, .inl ho_placeMilesF))] (some (.int r0)) := by
  intro sz
  refine Met.ofW (cc := cX2_hasPlaceAt) (maxL := 3) (ret := (some .boolean)) (by decide) rfl ?_
  intro p e s m args below meth c s₁ B hml hv
  obtain ⟨rfl, hsz, hP, hK, hD0, hE, hz⟩ := hv
  have hx := B.exec
  have hb := B.bytes
  have hr := B.returns
  have hts := atoms_spec (ws := wsX2_hasPlaceAt) B.pre
  have hown : s.vm.findClass RX2 = some m.cls := findClass_of_methodNamed B.named
  have hlocks := B.notSynchronized
  subst hsz
  have hD := hD0.self (sz := s.heap.size)
  have hN := xq_Env.of hE hz hD0
  generalize hAe : va_A [(a_p0, .inr (2, oX2 hoI hoR)), ((hoR 11), .inl (cI, 6, .inl ho_placeMilesF))] s.heap.size = A at hD hN ⊢
  have hA : ∀ q : Nat, s.heap.size ≤ q → A q := fun q h => by rw [← hAe]; exact Or.inr h
  clear hAe hD0
  have hS : va_S A s.heap s.heap [] := va_S.rf
  have hl := lv_entry ([.ref a_p0, .int p1]) (n := 3) (Nat.le_of_ble_eq_true rfl)
  rw [lg_entry_eq]
  generalize (lg_sl ([.ref a_p0, .int p1]) ++ List.replicate (3 - (lg_sl ([.ref a_p0, .int p1])).length) Slot.unset).toArray = ls at hl ⊢
  have hl : lv_has ls 3 [(0, .ref a_p0), (1, .int p1)] := hl
  have hw0 := hts (.fieldLink RX2 30 "DistantVoice$House" "places" "I") (by decide +kernel)
  have hinX2 : ∀ w ∈ wsX20, w ∈ wsX2_hasPlaceAt := fun w h => List.mem_cons_of_mem _ (List.mem_append_right _ h)
  have hw2 := hts (.fieldLink RX2 46 "DistantVoice$House" "placeMiles" "[I") (by decide +kernel)
  have l2 : ∀ n2 : Nat, ∀ (x1_2 : Int32) (x2_2 : Int32) (ls : Array Slot) (H : Heap) (locs : List Loc), xq_loop (fX2_hasPlaceAt_l2 N hoI ho_placeMilesF) n2 (x1_2, x2_2) = some r0 → va_P (dC, dI) vwCl [(a_p0, .inr (2, oX2 hoI hoR)), ((hoR 11), .inl (cI, 6, .inl ho_placeMilesF))] H → va_D A [(a_p0, .inr (2, oX2 hoI hoR)), ((hoR 11), .inl (cI, 6, .inl ho_placeMilesF))] → va_S A s.heap H locs → lv_has ls 3 [(0, .ref a_p0), (1, .int x1_2), (2, .int x2_2)] → W p l e (headSpec wsX2_hasPlaceAt { frames := 0, cells := 0, slots := 0, locals := 0 }).room s m [.ref a_p0, .int p1].toArray below meth c H locs 0 0 (MQ below (xq_Q (dC, dI) vwCl (xq_tys cI cB cJ cZ cM) A [(a_p0, .inr (2, oX2 hoI hoR)), ((hoR 11), .inl (cI, 6, .inl ho_placeMilesF))] (some (.int r0))) [.ref a_p0, .int p1].toArray s 0 0 A) (F0 m 2 ls []) := by
    intro n2
    induction n2 with
    | zero => intro x1_2 x2_2 ls H locs hf; cases (show none = some r0 from hf)
    | succ n2 ih2 =>
      intro x1_2 x2_2 ls H locs hf hP hD hS hl
      have hf : fX2_hasPlaceAt_l2 N hoI ho_placeMilesF (xq_loop (fX2_hasPlaceAt_l2 N hoI ho_placeMilesF) n2) (x1_2, x2_2) = some r0 := hf
      unfold fX2_hasPlaceAt_l2 at hf
      refine lv_iload_n hx hb dX2_hasPlaceAt_2 rfl (lv_at hl 2 rfl) ?_
      refine lv_aload_n hx hb dX2_hasPlaceAt_3 rfl (lv_at hl 0 rfl) ?_
      refine va_get (D := (dC, dI)) (ci := 2) (v := .int (hoI 6)) (C := RX2) (T := TX2) (N := 19) hx hb hts hinX2 hown hK hP 0 rfl rfl 6 (by decide) hw0 (fun _ h9 => h9) rfl dX2_hasPlaceAt_4 ?_
      refine lv_icmp_ge (tgt := 28) hx hb dX2_hasPlaceAt_7 (by decide) (fun c_ => ?_) (fun c_ => ?_)
      · have hf := xq_pos hf c_
        refine lv_iconst (v := 0) hx hb dX2_hasPlaceAt_28 (by decide) ?_
        cases hf
        exact xq_zret hx hb hr (by decide +kernel) hlocks hK hP hD hS dX2_hasPlaceAt_29
      · have hf := xq_neg hf c_
        refine lv_aload_n hx hb dX2_hasPlaceAt_10 rfl (lv_at hl 0 rfl) ?_
        refine va_get (D := (dC, dI)) (ci := 2) (v := .ref ((hoR 11))) (C := RX2) (T := TX2) (N := 19) hx hb hts hinX2 hown hK hP 0 rfl rfl 11 (by decide) hw2 (fun _ h9 => h9) rfl dX2_hasPlaceAt_11 ?_
        refine lv_iload_n hx hb dX2_hasPlaceAt_14 rfl (lv_at hl 2 rfl) ?_
        refine xq_iald hx hb hK hP 1 0 rfl rfl hf dX2_hasPlaceAt_15 (fun v_1 hf => ?_)
        refine lv_iload_n hx hb dX2_hasPlaceAt_16 rfl (lv_at hl 1 rfl) ?_
        refine lv_icmp_ne (tgt := 22) hx hb dX2_hasPlaceAt_17 (by decide) (fun c_ => ?_) (fun c_ => ?_)
        · have hf := xq_neg hf c_
          refine lv_iinc (v := x2_2 + 1) (lv' := [(2, .int (x2_2 + 1)), (0, .ref a_p0), (1, .int x1_2)]) hx hb dX2_hasPlaceAt_22 hl (k := 2) rfl (congrArg (fun q9 => x2_2 + q9) (by decide : Int32.ofInt 1 = 1)) (by decide) rfl (fun ls hl => ?_)
          refine lv_goto (tgt := 2) hx hb dX2_hasPlaceAt_25 (by decide) ?_
          exact ih2 x1_2 (x2_2 + 1) _ _ _ hf hP hD hS (lv_sub hl [1, 2, 0] rfl)
        · have hf := xq_pos hf c_
          refine lv_iconst (v := 1) hx hb dX2_hasPlaceAt_20 (by decide) ?_
          cases hf
          exact xq_zret hx hb hr (by decide +kernel) hlocks hK hP hD hS dX2_hasPlaceAt_21
  unfold fX2_hasPlaceAt at hf
  refine lv_iconst (v := 0) hx hb dX2_hasPlaceAt_0 (by decide) ?_
  refine lv_istore_n (lv' := [(2, .int 0), (0, .ref a_p0), (1, .int p1)]) hx hb dX2_hasPlaceAt_1 rfl hl (by decide) rfl (fun ls hl => ?_)
  exact l2 N p1 0 _ _ _ hf hP hD hS (lv_sub hl [1, 2, 0] rfl)
def dsX2_farOf_0 : List (Nat × Instr × Nat) := [(0, (.iload_n 1, 1)), (1, (.aload_n 0, 1)), (2, (.getfield 15, 3)), (5, (.iload_n 1, 1)), (6, (.isub, 1)), (7, (.invokestatic 71, 3)), (10, (.ireturn, 1))]
theorem dsX2_farOf_0_ok : (dsX2_farOf_0.all fun q => decide (decode cX2_farOf q.1 = .ok q.2)) = true := by decide +kernel
theorem dX2_farOf_0 : decode cX2_farOf 0 = .ok (.iload_n 1, 1) := of_decide_eq_true (List.all_eq_true.mp dsX2_farOf_0_ok (0, (.iload_n 1, 1)) (List.mem_of_getElem? (i := 0) rfl))
theorem dX2_farOf_1 : decode cX2_farOf 1 = .ok (.aload_n 0, 1) := of_decide_eq_true (List.all_eq_true.mp dsX2_farOf_0_ok (1, (.aload_n 0, 1)) (List.mem_of_getElem? (i := 1) rfl))
theorem dX2_farOf_2 : decode cX2_farOf 2 = .ok (.getfield 15, 3) := of_decide_eq_true (List.all_eq_true.mp dsX2_farOf_0_ok (2, (.getfield 15, 3)) (List.mem_of_getElem? (i := 2) rfl))
theorem dX2_farOf_5 : decode cX2_farOf 5 = .ok (.iload_n 1, 1) := of_decide_eq_true (List.all_eq_true.mp dsX2_farOf_0_ok (5, (.iload_n 1, 1)) (List.mem_of_getElem? (i := 3) rfl))
theorem dX2_farOf_6 : decode cX2_farOf 6 = .ok (.isub, 1) := of_decide_eq_true (List.all_eq_true.mp dsX2_farOf_0_ok (6, (.isub, 1)) (List.mem_of_getElem? (i := 4) rfl))
theorem dX2_farOf_7 : decode cX2_farOf 7 = .ok (.invokestatic 71, 3) := of_decide_eq_true (List.all_eq_true.mp dsX2_farOf_0_ok (7, (.invokestatic 71, 3)) (List.mem_of_getElem? (i := 5) rfl))
theorem dX2_farOf_10 : decode cX2_farOf 10 = .ok (.ireturn, 1) := of_decide_eq_true (List.all_eq_true.mp dsX2_farOf_0_ok (10, (.ireturn, 1)) (List.mem_of_getElem? (i := 6) rfl))
def fX2_farOf (N : Nat) (hoI : Nat → Int32)  (p1 : Int32) : Option (Int32) :=
  some (xq_min p1 ((hoI 1) - p1))
set_option maxHeartbeats 4000000 in
set_option maxRecDepth 100000 in
theorem kX2_farOf (l : Launch) (dC : Nat → ClassId) (dI : Nat → Nat → Nat) (cI cB cJ cZ cM : ClassId) (z : Nat) (ad : Nat → Nat) (N : Nat) (a_p0 : Nat) (hoI : Nat → Int32) (hoR : Nat → Nat) (p1 : Int32) {r0 : Int32} (hf : fX2_farOf N hoI p1 = some r0) : xq_Ct l yX2_farOf wsX2_farOf { frames := 1, cells := 0, slots := 0, locals := 24 } (dC, dI) vwCl (xq_tys cI cB cJ cZ cM) z ad [.ref a_p0, .int p1] [(a_p0, .inr (2, oX2 hoI hoR))] [(a_p0, .inr (2, oX2 hoI hoR))] (some (.int r0)) := by
  intro sz
  refine Met.ofW (cc := cX2_farOf) (maxL := 2) (ret := (some .int)) (by decide) rfl ?_
  intro p e s m args below meth c s₁ B hml hv
  obtain ⟨rfl, hsz, hP, hK, hD0, hE, hz⟩ := hv
  have hx := B.exec
  have hb := B.bytes
  have hr := B.returns
  have hts := atoms_spec (ws := wsX2_farOf) B.pre
  have hown : s.vm.findClass RX2 = some m.cls := findClass_of_methodNamed B.named
  have hlocks := B.notSynchronized
  subst hsz
  have hD := hD0.self (sz := s.heap.size)
  have hN := xq_Env.of hE hz hD0
  generalize hAe : va_A [(a_p0, .inr (2, oX2 hoI hoR))] s.heap.size = A at hD hN ⊢
  have hA : ∀ q : Nat, s.heap.size ≤ q → A q := fun q h => by rw [← hAe]; exact Or.inr h
  clear hAe hD0
  have hS : va_S A s.heap s.heap [] := va_S.rf
  have hl := lv_entry ([.ref a_p0, .int p1]) (n := 2) (Nat.le_of_ble_eq_true rfl)
  rw [lg_entry_eq]
  generalize (lg_sl ([.ref a_p0, .int p1]) ++ List.replicate (2 - (lg_sl ([.ref a_p0, .int p1])).length) Slot.unset).toArray = ls at hl ⊢
  have hl : lv_has ls 2 [(0, .ref a_p0), (1, .int p1)] := hl
  have hw0 := hts (.fieldLink RX2 15 "DistantVoice$House" "roundMiles" "I") (by decide +kernel)
  have hinX2 : ∀ w ∈ wsX20, w ∈ wsX2_farOf := fun w h => List.mem_cons_of_mem _ (List.mem_append_right _ h)
  have hw2 := hts (.methodLink RX2 71 Lib.Math.min.name) (by decide +kernel)
  have hw3 := hts (.static Lib.Math.min.name) (by decide +kernel)
  have hw4 := hts (.initialized "java/lang/Math") (by decide +kernel)
  have hw5 := hts (.code Lib.Math.min.name Lib.Math.min.code 2 (some .int)) (by decide +kernel)
  unfold fX2_farOf at hf
  refine lv_iload_n hx hb dX2_farOf_0 rfl (lv_at hl 1 rfl) ?_
  refine lv_aload_n hx hb dX2_farOf_1 rfl (lv_at hl 0 rfl) ?_
  refine va_get (D := (dC, dI)) (ci := 2) (v := .int (hoI 1)) (C := RX2) (T := TX2) (N := 19) hx hb hts hinX2 hown hK hP 0 rfl rfl 1 (by decide) hw0 (fun _ h9 => h9) rfl dX2_farOf_2 ?_
  refine lv_iload_n hx hb dX2_farOf_5 rfl (lv_at hl 1 rfl) ?_
  refine lv_isub hx hb dX2_farOf_6 ?_
  refine va_mmin hx hb (hml.trans hl.1.symm) hown hw2 hw3 hw4 hw5 (Nat.le_of_ble_eq_true rfl) (Nat.le_of_ble_eq_true rfl) (Nat.zero_le _) (Nat.zero_le _) dX2_farOf_7 ?_
  refine W.eq (g2 := F0 m 10 ls [.int (xq_min p1 ((hoI 1) - p1))]) rfl ?_
  cases hf
  exact xq_iret hx hb hr hlocks hK hP hD hS dX2_farOf_10
def dsX4_add_0 : List (Nat × Instr × Nat) := [(0, (.aload_n 0, 1)), (1, (.getfield 15, 3)), (4, (.aload_n 0, 1)), (5, (.getfield 9, 3)), (8, (.arraylength, 1)), (9, (.if_icmp .ge 23, 3)), (12, (.aload_n 0, 1)), (13, (.getfield 9, 3)), (16, (.aload_n 0, 1)), (17, (.getfield 15, 3)), (20, (.iload_n 1, 1)), (21, (.iastore, 1)), (22, (.aload_n 0, 1)), (23, (.dup, 1)), (24, (.getfield 15, 3)), (27, (.iconst 1, 1)), (28, (.iadd, 1)), (29, (.putfield 15, 3)), (32, (.return_, 1))]
theorem dsX4_add_0_ok : (dsX4_add_0.all fun q => decide (decode cX4_add q.1 = .ok q.2)) = true := by decide +kernel
theorem dX4_add_0 : decode cX4_add 0 = .ok (.aload_n 0, 1) := of_decide_eq_true (List.all_eq_true.mp dsX4_add_0_ok (0, (.aload_n 0, 1)) (List.mem_of_getElem? (i := 0) rfl))
theorem dX4_add_1 : decode cX4_add 1 = .ok (.getfield 15, 3) := of_decide_eq_true (List.all_eq_true.mp dsX4_add_0_ok (1, (.getfield 15, 3)) (List.mem_of_getElem? (i := 1) rfl))
theorem dX4_add_4 : decode cX4_add 4 = .ok (.aload_n 0, 1) := of_decide_eq_true (List.all_eq_true.mp dsX4_add_0_ok (4, (.aload_n 0, 1)) (List.mem_of_getElem? (i := 2) rfl))
theorem dX4_add_5 : decode cX4_add 5 = .ok (.getfield 9, 3) := of_decide_eq_true (List.all_eq_true.mp dsX4_add_0_ok (5, (.getfield 9, 3)) (List.mem_of_getElem? (i := 3) rfl))
theorem dX4_add_8 : decode cX4_add 8 = .ok (.arraylength, 1) := of_decide_eq_true (List.all_eq_true.mp dsX4_add_0_ok (8, (.arraylength, 1)) (List.mem_of_getElem? (i := 4) rfl))
theorem dX4_add_9 : decode cX4_add 9 = .ok (.if_icmp .ge 23, 3) := of_decide_eq_true (List.all_eq_true.mp dsX4_add_0_ok (9, (.if_icmp .ge 23, 3)) (List.mem_of_getElem? (i := 5) rfl))
theorem dX4_add_12 : decode cX4_add 12 = .ok (.aload_n 0, 1) := of_decide_eq_true (List.all_eq_true.mp dsX4_add_0_ok (12, (.aload_n 0, 1)) (List.mem_of_getElem? (i := 6) rfl))
theorem dX4_add_13 : decode cX4_add 13 = .ok (.getfield 9, 3) := of_decide_eq_true (List.all_eq_true.mp dsX4_add_0_ok (13, (.getfield 9, 3)) (List.mem_of_getElem? (i := 7) rfl))
theorem dX4_add_16 : decode cX4_add 16 = .ok (.aload_n 0, 1) := of_decide_eq_true (List.all_eq_true.mp dsX4_add_0_ok (16, (.aload_n 0, 1)) (List.mem_of_getElem? (i := 8) rfl))
theorem dX4_add_17 : decode cX4_add 17 = .ok (.getfield 15, 3) := of_decide_eq_true (List.all_eq_true.mp dsX4_add_0_ok (17, (.getfield 15, 3)) (List.mem_of_getElem? (i := 9) rfl))
theorem dX4_add_20 : decode cX4_add 20 = .ok (.iload_n 1, 1) := of_decide_eq_true (List.all_eq_true.mp dsX4_add_0_ok (20, (.iload_n 1, 1)) (List.mem_of_getElem? (i := 10) rfl))
theorem dX4_add_21 : decode cX4_add 21 = .ok (.iastore, 1) := of_decide_eq_true (List.all_eq_true.mp dsX4_add_0_ok (21, (.iastore, 1)) (List.mem_of_getElem? (i := 11) rfl))
theorem dX4_add_22 : decode cX4_add 22 = .ok (.aload_n 0, 1) := of_decide_eq_true (List.all_eq_true.mp dsX4_add_0_ok (22, (.aload_n 0, 1)) (List.mem_of_getElem? (i := 12) rfl))
theorem dX4_add_23 : decode cX4_add 23 = .ok (.dup, 1) := of_decide_eq_true (List.all_eq_true.mp dsX4_add_0_ok (23, (.dup, 1)) (List.mem_of_getElem? (i := 13) rfl))
theorem dX4_add_24 : decode cX4_add 24 = .ok (.getfield 15, 3) := of_decide_eq_true (List.all_eq_true.mp dsX4_add_0_ok (24, (.getfield 15, 3)) (List.mem_of_getElem? (i := 14) rfl))
theorem dX4_add_27 : decode cX4_add 27 = .ok (.iconst 1, 1) := of_decide_eq_true (List.all_eq_true.mp dsX4_add_0_ok (27, (.iconst 1, 1)) (List.mem_of_getElem? (i := 15) rfl))
theorem dX4_add_28 : decode cX4_add 28 = .ok (.iadd, 1) := of_decide_eq_true (List.all_eq_true.mp dsX4_add_0_ok (28, (.iadd, 1)) (List.mem_of_getElem? (i := 16) rfl))
theorem dX4_add_29 : decode cX4_add 29 = .ok (.putfield 15, 3) := of_decide_eq_true (List.all_eq_true.mp dsX4_add_0_ok (29, (.putfield 15, 3)) (List.mem_of_getElem? (i := 17) rfl))
theorem dX4_add_32 : decode cX4_add 32 = .ok (.return_, 1) := of_decide_eq_true (List.all_eq_true.mp dsX4_add_0_ok (32, (.return_, 1)) (List.mem_of_getElem? (i := 18) rfl))
def fX4_add (N : Nat) (imI : Nat → Int32) (im_bytesF : Nat → Int32)  (p1 : Int32) : Option ((Nat → Int32) × (Nat → Int32)) :=
  (if 22 ≤ (imI 1) then some ((imI, im_bytesF)) else (xq_bd (xq_ast 22 im_bytesF (imI 1) p1) fun g_1 => some (((va_up imI 1 ((imI 1) + 1)), g_1))))
set_option maxHeartbeats 4000000 in
set_option maxRecDepth 100000 in
theorem kX4_add (l : Launch) (dC : Nat → ClassId) (dI : Nat → Nat → Nat) (cI cB cJ cZ cM : ClassId) (z : Nat) (ad : Nat → Nat) (N : Nat) (a_p0 : Nat) (imI : Nat → Int32) (imR : Nat → Nat) (im_bytesF : Nat → Int32) (p1 : Int32) {r0 : Nat → Int32} {r1 : Nat → Int32} (hf : fX4_add N imI im_bytesF p1 = some (r0, r1)) : xq_Ct l yX4_add wsX4_add { frames := 0, cells := 0, slots := 0, locals := 0 } (dC, dI) vwCl (xq_tys cI cB cJ cZ cM) z ad [.ref a_p0, .int p1] [(a_p0, .inr (4, oX4 imI imR)), ((imR 0), .inl (cI, 22, .inl im_bytesF))] [(a_p0, .inr (4, oX4 r0 imR)), ((imR 0), .inl (cI, 22, .inl r1))] none := by
  intro sz
  refine Met.ofW (cc := cX4_add) (maxL := 2) (ret := none) (by decide) rfl ?_
  intro p e s m args below meth c s₁ B hml hv
  obtain ⟨rfl, hsz, hP, hK, hD0, hE, hz⟩ := hv
  have hx := B.exec
  have hb := B.bytes
  have hr := B.returns
  have hts := atoms_spec (ws := wsX4_add) B.pre
  have hown : s.vm.findClass RX4 = some m.cls := findClass_of_methodNamed B.named
  have hlocks := B.notSynchronized
  subst hsz
  have hD := hD0.self (sz := s.heap.size)
  have hN := xq_Env.of hE hz hD0
  generalize hAe : va_A [(a_p0, .inr (4, oX4 imI imR)), ((imR 0), .inl (cI, 22, .inl im_bytesF))] s.heap.size = A at hD hN ⊢
  have hA : ∀ q : Nat, s.heap.size ≤ q → A q := fun q h => by rw [← hAe]; exact Or.inr h
  clear hAe hD0
  have hS : va_S A s.heap s.heap [] := va_S.rf
  have hl := lv_entry ([.ref a_p0, .int p1]) (n := 2) (Nat.le_of_ble_eq_true rfl)
  rw [lg_entry_eq]
  generalize (lg_sl ([.ref a_p0, .int p1]) ++ List.replicate (2 - (lg_sl ([.ref a_p0, .int p1])).length) Slot.unset).toArray = ls at hl ⊢
  have hl : lv_has ls 2 [(0, .ref a_p0), (1, .int p1)] := hl
  have hw0 := hts (.fieldLink RX4 15 "DistantVoice$Image" "length" "I") (by decide +kernel)
  have hinX4 : ∀ w ∈ wsX40, w ∈ wsX4_add := fun w h => List.mem_cons_of_mem _ (List.mem_append_right _ h)
  have hw2 := hts (.fieldLink RX4 9 "DistantVoice$Image" "bytes" "[I") (by decide +kernel)
  unfold fX4_add at hf
  refine lv_aload_n hx hb dX4_add_0 rfl (lv_at hl 0 rfl) ?_
  refine va_get (D := (dC, dI)) (ci := 4) (v := .int (imI 1)) (C := RX4) (T := TX4) (N := 2) hx hb hts hinX4 hown hK hP 0 rfl rfl 1 (by decide) hw0 (fun _ h9 => h9) rfl dX4_add_1 ?_
  refine lv_aload_n hx hb dX4_add_4 rfl (lv_at hl 0 rfl) ?_
  refine va_get (D := (dC, dI)) (ci := 4) (v := .ref ((imR 0))) (C := RX4) (T := TX4) (N := 2) hx hb hts hinX4 hown hK hP 0 rfl rfl 0 (by decide) hw2 (fun _ h9 => h9) rfl dX4_add_5 ?_
  refine va_alen hx hb hK hP 1 0 (v := 22) rfl rfl rfl dX4_add_8 ?_
  refine lv_icmp_ge (tgt := 32) hx hb dX4_add_9 (by decide) (fun c_ => ?_) (fun c_ => ?_)
  · have hf := xq_pos hf c_
    cases hf
    exact xq_vret hx hb hr hlocks hK hP hD hS dX4_add_32
  · have hf := xq_neg hf c_
    refine lv_aload_n hx hb dX4_add_12 rfl (lv_at hl 0 rfl) ?_
    refine va_get (D := (dC, dI)) (ci := 4) (v := .ref ((imR 0))) (C := RX4) (T := TX4) (N := 2) hx hb hts hinX4 hown hK hP 0 rfl rfl 0 (by decide) hw2 (fun _ h9 => h9) rfl dX4_add_13 ?_
    refine lv_aload_n hx hb dX4_add_16 rfl (lv_at hl 0 rfl) ?_
    refine va_get (D := (dC, dI)) (ci := 4) (v := .int (imI 1)) (C := RX4) (T := TX4) (N := 2) hx hb hts hinX4 hown hK hP 0 rfl rfl 1 (by decide) hw0 (fun _ h9 => h9) rfl dX4_add_17 ?_
    refine lv_iload_n hx hb dX4_add_20 rfl (lv_at hl 1 rfl) ?_
    refine xq_iast hx hb hK hP hD hS 1 0 rfl rfl hf dX4_add_21 (fun g_1 H locs hf hP hD hS => ?_)
    have hP : va_P (dC, dI) vwCl [(a_p0, .inr (4, oX4 imI imR)), ((imR 0), .inl (cI, 22, .inl g_1))] H := hP
    have hD : va_D A [(a_p0, .inr (4, oX4 imI imR)), ((imR 0), .inl (cI, 22, .inl g_1))] := hD
    refine lv_aload_n hx hb dX4_add_22 rfl (lv_at hl 0 rfl) ?_
    refine lv_dup hx hb dX4_add_23 rfl ?_
    refine va_get (D := (dC, dI)) (ci := 4) (v := .int (imI 1)) (C := RX4) (T := TX4) (N := 2) hx hb hts hinX4 hown hK hP 0 rfl rfl 1 (by decide) hw0 (fun _ h9 => h9) rfl dX4_add_24 ?_
    refine lv_iconst (v := 1) hx hb dX4_add_27 (by decide) ?_
    refine lv_iadd hx hb dX4_add_28 ?_
    refine va_put (D := (dC, dI)) (ci := 4) (v := .int ((imI 1) + 1)) (ty := .int) (C := RX4) (T := TX4) (N := 2) hx hb hts hinX4 tyX4 tyX4_ok nmX4 hown hK hP hD hS 0 rfl rfl 1 (by decide) hw0 (fun _ h9 => h9) rfl (by decide +kernel) rfl rfl (Nat.le_of_ble_eq_true rfl) dX4_add_29 (fun H locs hP hD hS => ?_)
    have hP : va_P (dC, dI) vwCl [(a_p0, .inr (4, oX4 (va_up imI 1 ((imI 1) + 1)) imR)), ((imR 0), .inl (cI, 22, .inl g_1))] H := hP
    have hD : va_D A [(a_p0, .inr (4, oX4 (va_up imI 1 ((imI 1) + 1)) imR)), ((imR 0), .inl (cI, 22, .inl g_1))] := hD
    cases hf
    exact xq_vret hx hb hr hlocks hK hP hD hS dX4_add_32
def dsX4_checkOn_0 : List (Nat × Instr × Nat) := [(0, (.iconst 5, 1)), (1, (.iload_n 0, 1)), (2, (.imul, 1)), (3, (.iload_n 1, 1)), (4, (.iadd, 1)), (5, (.sipush 251, 3)), (8, (.irem, 1)), (9, (.ireturn, 1))]
theorem dsX4_checkOn_0_ok : (dsX4_checkOn_0.all fun q => decide (decode cX4_checkOn q.1 = .ok q.2)) = true := by decide +kernel
theorem dX4_checkOn_0 : decode cX4_checkOn 0 = .ok (.iconst 5, 1) := of_decide_eq_true (List.all_eq_true.mp dsX4_checkOn_0_ok (0, (.iconst 5, 1)) (List.mem_of_getElem? (i := 0) rfl))
theorem dX4_checkOn_1 : decode cX4_checkOn 1 = .ok (.iload_n 0, 1) := of_decide_eq_true (List.all_eq_true.mp dsX4_checkOn_0_ok (1, (.iload_n 0, 1)) (List.mem_of_getElem? (i := 1) rfl))
theorem dX4_checkOn_2 : decode cX4_checkOn 2 = .ok (.imul, 1) := of_decide_eq_true (List.all_eq_true.mp dsX4_checkOn_0_ok (2, (.imul, 1)) (List.mem_of_getElem? (i := 2) rfl))
theorem dX4_checkOn_3 : decode cX4_checkOn 3 = .ok (.iload_n 1, 1) := of_decide_eq_true (List.all_eq_true.mp dsX4_checkOn_0_ok (3, (.iload_n 1, 1)) (List.mem_of_getElem? (i := 3) rfl))
theorem dX4_checkOn_4 : decode cX4_checkOn 4 = .ok (.iadd, 1) := of_decide_eq_true (List.all_eq_true.mp dsX4_checkOn_0_ok (4, (.iadd, 1)) (List.mem_of_getElem? (i := 4) rfl))
theorem dX4_checkOn_5 : decode cX4_checkOn 5 = .ok (.sipush 251, 3) := of_decide_eq_true (List.all_eq_true.mp dsX4_checkOn_0_ok (5, (.sipush 251, 3)) (List.mem_of_getElem? (i := 5) rfl))
theorem dX4_checkOn_8 : decode cX4_checkOn 8 = .ok (.irem, 1) := of_decide_eq_true (List.all_eq_true.mp dsX4_checkOn_0_ok (8, (.irem, 1)) (List.mem_of_getElem? (i := 6) rfl))
theorem dX4_checkOn_9 : decode cX4_checkOn 9 = .ok (.ireturn, 1) := of_decide_eq_true (List.all_eq_true.mp dsX4_checkOn_0_ok (9, (.ireturn, 1)) (List.mem_of_getElem? (i := 7) rfl))
def fX4_checkOn (N : Nat)   (p0 : Int32) (p1 : Int32) : Option (Int32) :=
  (xq_bd (xq_rm ((5 * p0) + p1) 251) fun v_1 => some v_1)
set_option maxHeartbeats 4000000 in
set_option maxRecDepth 100000 in
theorem kX4_checkOn (l : Launch) (dC : Nat → ClassId) (dI : Nat → Nat → Nat) (cI cB cJ cZ cM : ClassId) (z : Nat) (ad : Nat → Nat) (N : Nat) (p0 : Int32) (p1 : Int32) {r0 : Int32} (hf : fX4_checkOn N p0 p1 = some r0) : xq_Ct l yX4_checkOn wsX4_checkOn { frames := 0, cells := 0, slots := 0, locals := 0 } (dC, dI) vwCl (xq_tys cI cB cJ cZ cM) z ad [.int p0, .int p1] [] [] (some (.int r0)) := by
  intro sz
  refine Met.ofW (cc := cX4_checkOn) (maxL := 2) (ret := (some .int)) (by decide) rfl ?_
  intro p e s m args below meth c s₁ B hml hv
  obtain ⟨rfl, hsz, hP, hK, hD0, hE, hz⟩ := hv
  have hx := B.exec
  have hb := B.bytes
  have hr := B.returns
  have hts := atoms_spec (ws := wsX4_checkOn) B.pre
  have hown : s.vm.findClass RX4 = some m.cls := findClass_of_methodNamed B.named
  have hlocks := B.notSynchronized
  subst hsz
  have hD := hD0.self (sz := s.heap.size)
  have hN := xq_Env.of hE hz hD0
  generalize hAe : va_A [] s.heap.size = A at hD hN ⊢
  have hA : ∀ q : Nat, s.heap.size ≤ q → A q := fun q h => by rw [← hAe]; exact Or.inr h
  clear hAe hD0
  have hS : va_S A s.heap s.heap [] := va_S.rf
  have hl := lv_entry ([.int p0, .int p1]) (n := 2) (Nat.le_of_ble_eq_true rfl)
  rw [lg_entry_eq]
  generalize (lg_sl ([.int p0, .int p1]) ++ List.replicate (2 - (lg_sl ([.int p0, .int p1])).length) Slot.unset).toArray = ls at hl ⊢
  have hl : lv_has ls 2 [(0, .int p0), (1, .int p1)] := hl
  unfold fX4_checkOn at hf
  refine lv_iconst (v := 5) hx hb dX4_checkOn_0 (by decide) ?_
  refine lv_iload_n hx hb dX4_checkOn_1 rfl (lv_at hl 0 rfl) ?_
  refine lv_imul hx hb dX4_checkOn_2 ?_
  refine lv_iload_n hx hb dX4_checkOn_3 rfl (lv_at hl 1 rfl) ?_
  refine lv_iadd hx hb dX4_checkOn_4 ?_
  refine lv_sipush (v := 251) hx hb dX4_checkOn_5 (by decide) ?_
  refine xq_irem hx hb hf dX4_checkOn_8 (fun v_1 hf => ?_)
  cases hf
  exact xq_iret hx hb hr hlocks hK hP hD hS dX4_checkOn_9
set_option maxRecDepth 20000 in
theorem ggX4_addTwo_X4_add : GoodIn wsX4_addTwo wsX4_add := goodIn_r _ [5, 6, 7, 8, 9] rfl (by decide +kernel)
set_option maxRecDepth 20000 in
theorem gX4_addTwo_X4_add : GoodIn wsX4_addTwo (wsV RX4 37 RX4 yX4_add wsX4_add) := goodIn_app (goodIn_of _ (by decide +kernel)) ggX4_addTwo_X4_add
def dsX4_addTwo_0 : List (Nat × Instr × Nat) := [(0, (.aload_n 0, 1)), (1, (.iload_n 1, 1)), (2, (.bipush 8, 2)), (4, (.ishr, 1)), (5, (.invokevirtual 37, 3)), (8, (.aload_n 0, 1)), (9, (.iload_n 1, 1)), (10, (.sipush 255, 3)), (13, (.iand, 1)), (14, (.invokevirtual 37, 3)), (17, (.return_, 1))]
theorem dsX4_addTwo_0_ok : (dsX4_addTwo_0.all fun q => decide (decode cX4_addTwo q.1 = .ok q.2)) = true := by decide +kernel
theorem dX4_addTwo_0 : decode cX4_addTwo 0 = .ok (.aload_n 0, 1) := of_decide_eq_true (List.all_eq_true.mp dsX4_addTwo_0_ok (0, (.aload_n 0, 1)) (List.mem_of_getElem? (i := 0) rfl))
theorem dX4_addTwo_1 : decode cX4_addTwo 1 = .ok (.iload_n 1, 1) := of_decide_eq_true (List.all_eq_true.mp dsX4_addTwo_0_ok (1, (.iload_n 1, 1)) (List.mem_of_getElem? (i := 1) rfl))
theorem dX4_addTwo_2 : decode cX4_addTwo 2 = .ok (.bipush 8, 2) := of_decide_eq_true (List.all_eq_true.mp dsX4_addTwo_0_ok (2, (.bipush 8, 2)) (List.mem_of_getElem? (i := 2) rfl))
theorem dX4_addTwo_4 : decode cX4_addTwo 4 = .ok (.ishr, 1) := of_decide_eq_true (List.all_eq_true.mp dsX4_addTwo_0_ok (4, (.ishr, 1)) (List.mem_of_getElem? (i := 3) rfl))
theorem dX4_addTwo_5 : decode cX4_addTwo 5 = .ok (.invokevirtual 37, 3) := of_decide_eq_true (List.all_eq_true.mp dsX4_addTwo_0_ok (5, (.invokevirtual 37, 3)) (List.mem_of_getElem? (i := 4) rfl))
theorem dX4_addTwo_8 : decode cX4_addTwo 8 = .ok (.aload_n 0, 1) := of_decide_eq_true (List.all_eq_true.mp dsX4_addTwo_0_ok (8, (.aload_n 0, 1)) (List.mem_of_getElem? (i := 5) rfl))
theorem dX4_addTwo_9 : decode cX4_addTwo 9 = .ok (.iload_n 1, 1) := of_decide_eq_true (List.all_eq_true.mp dsX4_addTwo_0_ok (9, (.iload_n 1, 1)) (List.mem_of_getElem? (i := 6) rfl))
theorem dX4_addTwo_10 : decode cX4_addTwo 10 = .ok (.sipush 255, 3) := of_decide_eq_true (List.all_eq_true.mp dsX4_addTwo_0_ok (10, (.sipush 255, 3)) (List.mem_of_getElem? (i := 7) rfl))
theorem dX4_addTwo_13 : decode cX4_addTwo 13 = .ok (.iand, 1) := of_decide_eq_true (List.all_eq_true.mp dsX4_addTwo_0_ok (13, (.iand, 1)) (List.mem_of_getElem? (i := 8) rfl))
theorem dX4_addTwo_14 : decode cX4_addTwo 14 = .ok (.invokevirtual 37, 3) := of_decide_eq_true (List.all_eq_true.mp dsX4_addTwo_0_ok (14, (.invokevirtual 37, 3)) (List.mem_of_getElem? (i := 9) rfl))
theorem dX4_addTwo_17 : decode cX4_addTwo 17 = .ok (.return_, 1) := of_decide_eq_true (List.all_eq_true.mp dsX4_addTwo_0_ok (17, (.return_, 1)) (List.mem_of_getElem? (i := 10) rfl))
def fX4_addTwo (N : Nat) (imI : Nat → Int32) (im_bytesF : Nat → Int32)  (p1 : Int32) : Option ((Nat → Int32) × (Nat → Int32)) :=
  (xq_bd (fX4_add N imI im_bytesF (p1 >>> (8 &&& 31))) fun (r_1_0, r_1_1) => (xq_bd (fX4_add N r_1_0 r_1_1 (p1 &&& 255)) fun (r_3_0, r_3_1) => some ((r_3_0, r_3_1))))
set_option maxHeartbeats 4000000 in
set_option maxRecDepth 100000 in
theorem kX4_addTwo (l : Launch) (dC : Nat → ClassId) (dI : Nat → Nat → Nat) (cI cB cJ cZ cM : ClassId) (z : Nat) (ad : Nat → Nat) (N : Nat) (a_p0 : Nat) (imI : Nat → Int32) (imR : Nat → Nat) (im_bytesF : Nat → Int32) (p1 : Int32) {r0 : Nat → Int32} {r1 : Nat → Int32} (hf : fX4_addTwo N imI im_bytesF p1 = some (r0, r1)) : xq_Ct l yX4_addTwo wsX4_addTwo { frames := 1, cells := 0, slots := 0, locals := 21 } (dC, dI) vwCl (xq_tys cI cB cJ cZ cM) z ad [.ref a_p0, .int p1] [(a_p0, .inr (4, oX4 imI imR)), ((imR 0), .inl (cI, 22, .inl im_bytesF))] [(a_p0, .inr (4, oX4 r0 imR)), ((imR 0), .inl (cI, 22, .inl r1))] none := by
  intro sz
  refine Met.ofW (cc := cX4_addTwo) (maxL := 2) (ret := none) (by decide) rfl ?_
  intro p e s m args below meth c s₁ B hml hv
  obtain ⟨rfl, hsz, hP, hK, hD0, hE, hz⟩ := hv
  have hx := B.exec
  have hb := B.bytes
  have hr := B.returns
  have hts := atoms_spec (ws := wsX4_addTwo) B.pre
  have hown : s.vm.findClass RX4 = some m.cls := findClass_of_methodNamed B.named
  have hlocks := B.notSynchronized
  subst hsz
  have hD := hD0.self (sz := s.heap.size)
  have hN := xq_Env.of hE hz hD0
  generalize hAe : va_A [(a_p0, .inr (4, oX4 imI imR)), ((imR 0), .inl (cI, 22, .inl im_bytesF))] s.heap.size = A at hD hN ⊢
  have hA : ∀ q : Nat, s.heap.size ≤ q → A q := fun q h => by rw [← hAe]; exact Or.inr h
  clear hAe hD0
  have hS : va_S A s.heap s.heap [] := va_S.rf
  have hl := lv_entry ([.ref a_p0, .int p1]) (n := 2) (Nat.le_of_ble_eq_true rfl)
  rw [lg_entry_eq]
  generalize (lg_sl ([.ref a_p0, .int p1]) ++ List.replicate (2 - (lg_sl ([.ref a_p0, .int p1])).length) Slot.unset).toArray = ls at hl ⊢
  have hl : lv_has ls 2 [(0, .ref a_p0), (1, .int p1)] := hl
  unfold fX4_addTwo at hf
  refine lv_aload_n hx hb dX4_addTwo_0 rfl (lv_at hl 0 rfl) ?_
  refine lv_iload_n hx hb dX4_addTwo_1 rfl (lv_at hl 1 rfl) ?_
  refine lv_bipush (v := 8) hx hb dX4_addTwo_2 (by decide) ?_
  refine lv_ishr hx hb dX4_addTwo_4 ?_
  obtain ⟨⟨r_1_0, r_1_1⟩, h_2, hf⟩ := xq_bd_some hf
  refine xq_callV (As := [.int (p1 >>> (8 &&& 31))]) (rest := []) (ci := 4) (q0 := 0) ⟨hx, hb, hml, hown, hts⟩ (kX4_add l dC dI cI cB cJ cZ cM z ad N a_p0 imI imR im_bytesF (p1 >>> (8 &&& 31)) h_2) (cwV 1 hts gX4_addTwo_X4_add rfl rfl rfl (by decide +kernel) ⟨Nat.le_of_ble_eq_true rfl, Nat.le_of_ble_eq_true rfl⟩) hN hK hP hD hS hA [0, 1] (by decide) rfl rfl rfl rfl rfl rfl hl.1 rfl (Nat.le_of_ble_eq_true rfl) dX4_addTwo_5 ⟨Nat.zero_le _, Nat.zero_le _⟩ (fun H locs hP hD hS => ?_)
  have hP : va_P (dC, dI) vwCl [(a_p0, .inr (4, oX4 r_1_0 imR)), ((imR 0), .inl (cI, 22, .inl r_1_1))] H := hP
  have hD : va_D A [(a_p0, .inr (4, oX4 r_1_0 imR)), ((imR 0), .inl (cI, 22, .inl r_1_1))] := hD
  refine W.eq (g2 := F0 m 8 ls []) rfl ?_
  refine lv_aload_n hx hb dX4_addTwo_8 rfl (lv_at hl 0 rfl) ?_
  refine lv_iload_n hx hb dX4_addTwo_9 rfl (lv_at hl 1 rfl) ?_
  refine lv_sipush (v := 255) hx hb dX4_addTwo_10 (by decide) ?_
  refine lv_iand hx hb dX4_addTwo_13 ?_
  obtain ⟨⟨r_3_0, r_3_1⟩, h_4, hf⟩ := xq_bd_some hf
  refine xq_callV (As := [.int (p1 &&& 255)]) (rest := []) (ci := 4) (q0 := 0) ⟨hx, hb, hml, hown, hts⟩ (kX4_add l dC dI cI cB cJ cZ cM z ad N a_p0 r_1_0 imR r_1_1 (p1 &&& 255) h_4) (cwV 1 hts gX4_addTwo_X4_add rfl rfl rfl (by decide +kernel) ⟨Nat.le_of_ble_eq_true rfl, Nat.le_of_ble_eq_true rfl⟩) hN hK hP hD hS hA [0, 1] (by decide) rfl rfl rfl rfl rfl rfl hl.1 rfl (Nat.le_of_ble_eq_true rfl) dX4_addTwo_14 ⟨Nat.zero_le _, Nat.zero_le _⟩ (fun H locs hP hD hS => ?_)
  have hP : va_P (dC, dI) vwCl [(a_p0, .inr (4, oX4 r_3_0 imR)), ((imR 0), .inl (cI, 22, .inl r_3_1))] H := hP
  have hD : va_D A [(a_p0, .inr (4, oX4 r_3_0 imR)), ((imR 0), .inl (cI, 22, .inl r_3_1))] := hD
  refine W.eq (g2 := F0 m 17 ls []) rfl ?_
  cases hf
  exact xq_vret hx hb hr hlocks hK hP hD hS dX4_addTwo_17
set_option maxRecDepth 20000 in
theorem ggX4_twoAt_X9_at : GoodIn wsX4_twoAt wsX9_at := goodIn_r _ [5, 6, 7, 8, 9] rfl (by decide +kernel)
set_option maxRecDepth 20000 in
theorem gX4_twoAt_X9_at : GoodIn wsX4_twoAt (wsV RX4 64 RX9 yX9_at wsX9_at) := goodIn_app (goodIn_of _ (by decide +kernel)) ggX4_twoAt_X9_at
def dsX4_twoAt_0 : List (Nat × Instr × Nat) := [(0, (.aload_n 0, 1)), (1, (.iload_n 1, 1)), (2, (.invokevirtual 64, 3)), (5, (.bipush 8, 2)), (7, (.ishl, 1)), (8, (.aload_n 0, 1)), (9, (.iload_n 1, 1)), (10, (.iconst 1, 1)), (11, (.iadd, 1)), (12, (.invokevirtual 64, 3)), (15, (.ior, 1)), (16, (.ireturn, 1))]
theorem dsX4_twoAt_0_ok : (dsX4_twoAt_0.all fun q => decide (decode cX4_twoAt q.1 = .ok q.2)) = true := by decide +kernel
theorem dX4_twoAt_0 : decode cX4_twoAt 0 = .ok (.aload_n 0, 1) := of_decide_eq_true (List.all_eq_true.mp dsX4_twoAt_0_ok (0, (.aload_n 0, 1)) (List.mem_of_getElem? (i := 0) rfl))
theorem dX4_twoAt_1 : decode cX4_twoAt 1 = .ok (.iload_n 1, 1) := of_decide_eq_true (List.all_eq_true.mp dsX4_twoAt_0_ok (1, (.iload_n 1, 1)) (List.mem_of_getElem? (i := 1) rfl))
theorem dX4_twoAt_2 : decode cX4_twoAt 2 = .ok (.invokevirtual 64, 3) := of_decide_eq_true (List.all_eq_true.mp dsX4_twoAt_0_ok (2, (.invokevirtual 64, 3)) (List.mem_of_getElem? (i := 2) rfl))
theorem dX4_twoAt_5 : decode cX4_twoAt 5 = .ok (.bipush 8, 2) := of_decide_eq_true (List.all_eq_true.mp dsX4_twoAt_0_ok (5, (.bipush 8, 2)) (List.mem_of_getElem? (i := 3) rfl))
theorem dX4_twoAt_7 : decode cX4_twoAt 7 = .ok (.ishl, 1) := of_decide_eq_true (List.all_eq_true.mp dsX4_twoAt_0_ok (7, (.ishl, 1)) (List.mem_of_getElem? (i := 4) rfl))
theorem dX4_twoAt_8 : decode cX4_twoAt 8 = .ok (.aload_n 0, 1) := of_decide_eq_true (List.all_eq_true.mp dsX4_twoAt_0_ok (8, (.aload_n 0, 1)) (List.mem_of_getElem? (i := 5) rfl))
theorem dX4_twoAt_9 : decode cX4_twoAt 9 = .ok (.iload_n 1, 1) := of_decide_eq_true (List.all_eq_true.mp dsX4_twoAt_0_ok (9, (.iload_n 1, 1)) (List.mem_of_getElem? (i := 6) rfl))
theorem dX4_twoAt_10 : decode cX4_twoAt 10 = .ok (.iconst 1, 1) := of_decide_eq_true (List.all_eq_true.mp dsX4_twoAt_0_ok (10, (.iconst 1, 1)) (List.mem_of_getElem? (i := 7) rfl))
theorem dX4_twoAt_11 : decode cX4_twoAt 11 = .ok (.iadd, 1) := of_decide_eq_true (List.all_eq_true.mp dsX4_twoAt_0_ok (11, (.iadd, 1)) (List.mem_of_getElem? (i := 8) rfl))
theorem dX4_twoAt_12 : decode cX4_twoAt 12 = .ok (.invokevirtual 64, 3) := of_decide_eq_true (List.all_eq_true.mp dsX4_twoAt_0_ok (12, (.invokevirtual 64, 3)) (List.mem_of_getElem? (i := 9) rfl))
theorem dX4_twoAt_15 : decode cX4_twoAt 15 = .ok (.ior, 1) := of_decide_eq_true (List.all_eq_true.mp dsX4_twoAt_0_ok (15, (.ior, 1)) (List.mem_of_getElem? (i := 10) rfl))
theorem dX4_twoAt_16 : decode cX4_twoAt 16 = .ok (.ireturn, 1) := of_decide_eq_true (List.all_eq_true.mp dsX4_twoAt_0_ok (16, (.ireturn, 1)) (List.mem_of_getElem? (i := 11) rfl))
def fX4_twoAt (N : Nat) (taI : Nat → Int32) (ta_bytesF : Nat → Int32)  (p1 : Int32) : Option (Int32) :=
  (xq_bd (fX9_at N taI ta_bytesF p1) fun r_1 => (xq_bd (fX9_at N taI ta_bytesF (p1 + 1)) fun r_3 => some ((r_1 <<< (8 &&& 31)) ||| r_3)))
set_option maxHeartbeats 4000000 in
set_option maxRecDepth 100000 in
theorem kX4_twoAt (l : Launch) (dC : Nat → ClassId) (dI : Nat → Nat → Nat) (cI cB cJ cZ cM : ClassId) (z : Nat) (ad : Nat → Nat) (N : Nat) (a_p0 : Nat) (taI : Nat → Int32) (taR : Nat → Nat) (ta_bytesF : Nat → Int32) (p1 : Int32) {r0 : Int32} (hf : fX4_twoAt N taI ta_bytesF p1 = some r0) : xq_Ct l yX4_twoAt wsX4_twoAt { frames := 1, cells := 0, slots := 0, locals := 21 } (dC, dI) vwCl (xq_tys cI cB cJ cZ cM) z ad [.ref a_p0, .int p1] [(a_p0, .inr (9, oX9 taI taR)), ((taR 0), .inl (cB, 1600, .inl ta_bytesF))] [(a_p0, .inr (9, oX9 taI taR)), ((taR 0), .inl (cB, 1600, .inl ta_bytesF))] (some (.int r0)) := by
  intro sz
  refine Met.ofW (cc := cX4_twoAt) (maxL := 2) (ret := (some .int)) (by decide) rfl ?_
  intro p e s m args below meth c s₁ B hml hv
  obtain ⟨rfl, hsz, hP, hK, hD0, hE, hz⟩ := hv
  have hx := B.exec
  have hb := B.bytes
  have hr := B.returns
  have hts := atoms_spec (ws := wsX4_twoAt) B.pre
  have hown : s.vm.findClass RX4 = some m.cls := findClass_of_methodNamed B.named
  have hlocks := B.notSynchronized
  subst hsz
  have hD := hD0.self (sz := s.heap.size)
  have hN := xq_Env.of hE hz hD0
  generalize hAe : va_A [(a_p0, .inr (9, oX9 taI taR)), ((taR 0), .inl (cB, 1600, .inl ta_bytesF))] s.heap.size = A at hD hN ⊢
  have hA : ∀ q : Nat, s.heap.size ≤ q → A q := fun q h => by rw [← hAe]; exact Or.inr h
  clear hAe hD0
  have hS : va_S A s.heap s.heap [] := va_S.rf
  have hl := lv_entry ([.ref a_p0, .int p1]) (n := 2) (Nat.le_of_ble_eq_true rfl)
  rw [lg_entry_eq]
  generalize (lg_sl ([.ref a_p0, .int p1]) ++ List.replicate (2 - (lg_sl ([.ref a_p0, .int p1])).length) Slot.unset).toArray = ls at hl ⊢
  have hl : lv_has ls 2 [(0, .ref a_p0), (1, .int p1)] := hl
  unfold fX4_twoAt at hf
  refine lv_aload_n hx hb dX4_twoAt_0 rfl (lv_at hl 0 rfl) ?_
  refine lv_iload_n hx hb dX4_twoAt_1 rfl (lv_at hl 1 rfl) ?_
  obtain ⟨r_1, h_2, hf⟩ := xq_bd_some hf
  refine xq_callV (As := [.int p1]) (rest := []) (ci := 9) (q0 := 0) ⟨hx, hb, hml, hown, hts⟩ (kX9_at l dC dI cI cB cJ cZ cM z ad N a_p0 taI taR ta_bytesF p1 h_2) (cwV 1 hts gX4_twoAt_X9_at rfl rfl rfl (by decide +kernel) ⟨Nat.le_of_ble_eq_true rfl, Nat.le_of_ble_eq_true rfl⟩) hN hK hP hD hS hA [0, 1] (by decide) rfl rfl rfl rfl rfl rfl hl.1 rfl (Nat.le_of_ble_eq_true rfl) dX4_twoAt_2 ⟨Nat.zero_le _, Nat.zero_le _⟩ (fun H locs hP hD hS => ?_)
  have hP : va_P (dC, dI) vwCl [(a_p0, .inr (9, oX9 taI taR)), ((taR 0), .inl (cB, 1600, .inl ta_bytesF))] H := hP
  have hD : va_D A [(a_p0, .inr (9, oX9 taI taR)), ((taR 0), .inl (cB, 1600, .inl ta_bytesF))] := hD
  refine W.eq (g2 := F0 m 5 ls [.int r_1]) rfl ?_
  refine lv_bipush (v := 8) hx hb dX4_twoAt_5 (by decide) ?_
  refine lv_ishl hx hb dX4_twoAt_7 ?_
  refine lv_aload_n hx hb dX4_twoAt_8 rfl (lv_at hl 0 rfl) ?_
  refine lv_iload_n hx hb dX4_twoAt_9 rfl (lv_at hl 1 rfl) ?_
  refine lv_iconst (v := 1) hx hb dX4_twoAt_10 (by decide) ?_
  refine lv_iadd hx hb dX4_twoAt_11 ?_
  obtain ⟨r_3, h_4, hf⟩ := xq_bd_some hf
  refine xq_callV (As := [.int (p1 + 1)]) (rest := [.int (r_1 <<< (8 &&& 31))]) (ci := 9) (q0 := 0) ⟨hx, hb, hml, hown, hts⟩ (kX9_at l dC dI cI cB cJ cZ cM z ad N a_p0 taI taR ta_bytesF (p1 + 1) h_4) (cwV 1 hts gX4_twoAt_X9_at rfl rfl rfl (by decide +kernel) ⟨Nat.le_of_ble_eq_true rfl, Nat.le_of_ble_eq_true rfl⟩) hN hK hP hD hS hA [0, 1] (by decide) rfl rfl rfl rfl rfl rfl hl.1 rfl (Nat.le_of_ble_eq_true rfl) dX4_twoAt_12 ⟨Nat.zero_le _, Nat.zero_le _⟩ (fun H locs hP hD hS => ?_)
  have hP : va_P (dC, dI) vwCl [(a_p0, .inr (9, oX9 taI taR)), ((taR 0), .inl (cB, 1600, .inl ta_bytesF))] H := hP
  have hD : va_D A [(a_p0, .inr (9, oX9 taI taR)), ((taR 0), .inl (cB, 1600, .inl ta_bytesF))] := hD
  refine W.eq (g2 := F0 m 15 ls [.int r_3, .int (r_1 <<< (8 &&& 31))]) rfl ?_
  refine lv_ior hx hb dX4_twoAt_15 ?_
  cases hf
  exact xq_iret hx hb hr hlocks hK hP hD hS dX4_twoAt_16
def dsX5_nightsMarked_0 : List (Nat × Instr × Nat) := [(0, (.iconst 0, 1)), (1, (.istore_n 1, 1)), (2, (.iconst 0, 1)), (3, (.istore_n 2, 1)), (4, (.iload_n 2, 1)), (5, (.aload_n 0, 1)), (6, (.getfield 9, 3)), (9, (.if_icmp .ge 22, 3)), (12, (.iload_n 1, 1)), (13, (.aload_n 0, 1)), (14, (.getfield 15, 3)), (17, (.iload_n 2, 1)), (18, (.iaload, 1)), (19, (.iconst 1, 1)), (20, (.iadd, 1)), (21, (.invokestatic 40, 3)), (24, (.istore_n 1, 1)), (25, (.iinc 2 1, 3)), (28, (.goto (-24), 3)), (31, (.iload_n 1, 1)), (32, (.ireturn, 1))]
theorem dsX5_nightsMarked_0_ok : (dsX5_nightsMarked_0.all fun q => decide (decode cX5_nightsMarked q.1 = .ok q.2)) = true := by decide +kernel
theorem dX5_nightsMarked_0 : decode cX5_nightsMarked 0 = .ok (.iconst 0, 1) := of_decide_eq_true (List.all_eq_true.mp dsX5_nightsMarked_0_ok (0, (.iconst 0, 1)) (List.mem_of_getElem? (i := 0) rfl))
theorem dX5_nightsMarked_1 : decode cX5_nightsMarked 1 = .ok (.istore_n 1, 1) := of_decide_eq_true (List.all_eq_true.mp dsX5_nightsMarked_0_ok (1, (.istore_n 1, 1)) (List.mem_of_getElem? (i := 1) rfl))
theorem dX5_nightsMarked_2 : decode cX5_nightsMarked 2 = .ok (.iconst 0, 1) := of_decide_eq_true (List.all_eq_true.mp dsX5_nightsMarked_0_ok (2, (.iconst 0, 1)) (List.mem_of_getElem? (i := 2) rfl))
theorem dX5_nightsMarked_3 : decode cX5_nightsMarked 3 = .ok (.istore_n 2, 1) := of_decide_eq_true (List.all_eq_true.mp dsX5_nightsMarked_0_ok (3, (.istore_n 2, 1)) (List.mem_of_getElem? (i := 3) rfl))
theorem dX5_nightsMarked_4 : decode cX5_nightsMarked 4 = .ok (.iload_n 2, 1) := of_decide_eq_true (List.all_eq_true.mp dsX5_nightsMarked_0_ok (4, (.iload_n 2, 1)) (List.mem_of_getElem? (i := 4) rfl))
theorem dX5_nightsMarked_5 : decode cX5_nightsMarked 5 = .ok (.aload_n 0, 1) := of_decide_eq_true (List.all_eq_true.mp dsX5_nightsMarked_0_ok (5, (.aload_n 0, 1)) (List.mem_of_getElem? (i := 5) rfl))
theorem dX5_nightsMarked_6 : decode cX5_nightsMarked 6 = .ok (.getfield 9, 3) := of_decide_eq_true (List.all_eq_true.mp dsX5_nightsMarked_0_ok (6, (.getfield 9, 3)) (List.mem_of_getElem? (i := 6) rfl))
theorem dX5_nightsMarked_9 : decode cX5_nightsMarked 9 = .ok (.if_icmp .ge 22, 3) := of_decide_eq_true (List.all_eq_true.mp dsX5_nightsMarked_0_ok (9, (.if_icmp .ge 22, 3)) (List.mem_of_getElem? (i := 7) rfl))
theorem dX5_nightsMarked_12 : decode cX5_nightsMarked 12 = .ok (.iload_n 1, 1) := of_decide_eq_true (List.all_eq_true.mp dsX5_nightsMarked_0_ok (12, (.iload_n 1, 1)) (List.mem_of_getElem? (i := 8) rfl))
theorem dX5_nightsMarked_13 : decode cX5_nightsMarked 13 = .ok (.aload_n 0, 1) := of_decide_eq_true (List.all_eq_true.mp dsX5_nightsMarked_0_ok (13, (.aload_n 0, 1)) (List.mem_of_getElem? (i := 9) rfl))
theorem dX5_nightsMarked_14 : decode cX5_nightsMarked 14 = .ok (.getfield 15, 3) := of_decide_eq_true (List.all_eq_true.mp dsX5_nightsMarked_0_ok (14, (.getfield 15, 3)) (List.mem_of_getElem? (i := 10) rfl))
theorem dX5_nightsMarked_17 : decode cX5_nightsMarked 17 = .ok (.iload_n 2, 1) := of_decide_eq_true (List.all_eq_true.mp dsX5_nightsMarked_0_ok (17, (.iload_n 2, 1)) (List.mem_of_getElem? (i := 11) rfl))
theorem dX5_nightsMarked_18 : decode cX5_nightsMarked 18 = .ok (.iaload, 1) := of_decide_eq_true (List.all_eq_true.mp dsX5_nightsMarked_0_ok (18, (.iaload, 1)) (List.mem_of_getElem? (i := 12) rfl))
theorem dX5_nightsMarked_19 : decode cX5_nightsMarked 19 = .ok (.iconst 1, 1) := of_decide_eq_true (List.all_eq_true.mp dsX5_nightsMarked_0_ok (19, (.iconst 1, 1)) (List.mem_of_getElem? (i := 13) rfl))
theorem dX5_nightsMarked_20 : decode cX5_nightsMarked 20 = .ok (.iadd, 1) := of_decide_eq_true (List.all_eq_true.mp dsX5_nightsMarked_0_ok (20, (.iadd, 1)) (List.mem_of_getElem? (i := 14) rfl))
theorem dX5_nightsMarked_21 : decode cX5_nightsMarked 21 = .ok (.invokestatic 40, 3) := of_decide_eq_true (List.all_eq_true.mp dsX5_nightsMarked_0_ok (21, (.invokestatic 40, 3)) (List.mem_of_getElem? (i := 15) rfl))
theorem dX5_nightsMarked_24 : decode cX5_nightsMarked 24 = .ok (.istore_n 1, 1) := of_decide_eq_true (List.all_eq_true.mp dsX5_nightsMarked_0_ok (24, (.istore_n 1, 1)) (List.mem_of_getElem? (i := 16) rfl))
theorem dX5_nightsMarked_25 : decode cX5_nightsMarked 25 = .ok (.iinc 2 1, 3) := of_decide_eq_true (List.all_eq_true.mp dsX5_nightsMarked_0_ok (25, (.iinc 2 1, 3)) (List.mem_of_getElem? (i := 17) rfl))
theorem dX5_nightsMarked_28 : decode cX5_nightsMarked 28 = .ok (.goto (-24), 3) := of_decide_eq_true (List.all_eq_true.mp dsX5_nightsMarked_0_ok (28, (.goto (-24), 3)) (List.mem_of_getElem? (i := 18) rfl))
theorem dX5_nightsMarked_31 : decode cX5_nightsMarked 31 = .ok (.iload_n 1, 1) := of_decide_eq_true (List.all_eq_true.mp dsX5_nightsMarked_0_ok (31, (.iload_n 1, 1)) (List.mem_of_getElem? (i := 19) rfl))
theorem dX5_nightsMarked_32 : decode cX5_nightsMarked 32 = .ok (.ireturn, 1) := of_decide_eq_true (List.all_eq_true.mp dsX5_nightsMarked_0_ok (32, (.ireturn, 1)) (List.mem_of_getElem? (i := 20) rfl))
def fX5_nightsMarked_l4 (N : Nat) (mkI : Nat → Int32) (mk_nightsAheadF : Nat → Int32)  (k4 : (Int32 × Int32) → Option (Int32)) : (Int32 × Int32) → Option (Int32) :=
  fun (x1_4, x2_4) => (if (mkI 0) ≤ x2_4 then some x1_4 else (xq_bd (xq_ald 16 mk_nightsAheadF x2_4) fun v_1 => k4 (xq_max x1_4 (v_1 + 1), x2_4 + 1)))
def fX5_nightsMarked (N : Nat) (mkI : Nat → Int32) (mk_nightsAheadF : Nat → Int32)   : Option (Int32) :=
  xq_loop (fX5_nightsMarked_l4 N mkI mk_nightsAheadF) N (0, 0)
set_option maxHeartbeats 4000000 in
set_option maxRecDepth 100000 in
theorem kX5_nightsMarked (l : Launch) (dC : Nat → ClassId) (dI : Nat → Nat → Nat) (cI cB cJ cZ cM : ClassId) (z : Nat) (ad : Nat → Nat) (N : Nat) (a_p0 : Nat) (mkI : Nat → Int32) (mkR : Nat → Nat) (mk_nightsAheadF : Nat → Int32) {r0 : Int32} (hf : fX5_nightsMarked N mkI mk_nightsAheadF = some r0) : xq_Ct l yX5_nightsMarked wsX5_nightsMarked { frames := 1, cells := 0, slots := 0, locals := 24 } (dC, dI) vwCl (xq_tys cI cB cJ cZ cM) z ad [.ref a_p0] [(a_p0, .inr (5, oX5 mkI mkR)), ((mkR 1), .inl (cI, 16, .inl mk_nightsAheadF))] [(a_p0, .inr (5, oX5 mkI mkR)), ((mkR 1), .inl (cI, 16, .inl mk_nightsAheadF))] (some (.int r0)) := by
  intro sz
  refine Met.ofW (cc := cX5_nightsMarked) (maxL := 3) (ret := (some .int)) (by decide) rfl ?_
  intro p e s m args below meth c s₁ B hml hv
  obtain ⟨rfl, hsz, hP, hK, hD0, hE, hz⟩ := hv
  have hx := B.exec
  have hb := B.bytes
  have hr := B.returns
  have hts := atoms_spec (ws := wsX5_nightsMarked) B.pre
  have hown : s.vm.findClass RX5 = some m.cls := findClass_of_methodNamed B.named
  have hlocks := B.notSynchronized
  subst hsz
  have hD := hD0.self (sz := s.heap.size)
  have hN := xq_Env.of hE hz hD0
  generalize hAe : va_A [(a_p0, .inr (5, oX5 mkI mkR)), ((mkR 1), .inl (cI, 16, .inl mk_nightsAheadF))] s.heap.size = A at hD hN ⊢
  have hA : ∀ q : Nat, s.heap.size ≤ q → A q := fun q h => by rw [← hAe]; exact Or.inr h
  clear hAe hD0
  have hS : va_S A s.heap s.heap [] := va_S.rf
  have hl := lv_entry ([.ref a_p0]) (n := 3) (Nat.le_of_ble_eq_true rfl)
  rw [lg_entry_eq]
  generalize (lg_sl ([.ref a_p0]) ++ List.replicate (3 - (lg_sl ([.ref a_p0])).length) Slot.unset).toArray = ls at hl ⊢
  have hl : lv_has ls 3 [(0, .ref a_p0)] := hl
  have hw0 := hts (.fieldLink RX5 9 "DistantVoice$Marks" "count" "I") (by decide +kernel)
  have hinX5 : ∀ w ∈ wsX50, w ∈ wsX5_nightsMarked := fun w h => List.mem_cons_of_mem _ (List.mem_append_right _ h)
  have hw2 := hts (.fieldLink RX5 15 "DistantVoice$Marks" "nightsAhead" "[I") (by decide +kernel)
  have hw3 := hts (.methodLink RX5 40 Lib.Math.max.name) (by decide +kernel)
  have hw4 := hts (.static Lib.Math.max.name) (by decide +kernel)
  have hw5 := hts (.initialized "java/lang/Math") (by decide +kernel)
  have hw6 := hts (.code Lib.Math.max.name Lib.Math.max.code 2 (some .int)) (by decide +kernel)
  have l4 : ∀ n4 : Nat, ∀ (x1_4 : Int32) (x2_4 : Int32) (ls : Array Slot) (H : Heap) (locs : List Loc), xq_loop (fX5_nightsMarked_l4 N mkI mk_nightsAheadF) n4 (x1_4, x2_4) = some r0 → va_P (dC, dI) vwCl [(a_p0, .inr (5, oX5 mkI mkR)), ((mkR 1), .inl (cI, 16, .inl mk_nightsAheadF))] H → va_D A [(a_p0, .inr (5, oX5 mkI mkR)), ((mkR 1), .inl (cI, 16, .inl mk_nightsAheadF))] → va_S A s.heap H locs → lv_has ls 3 [(0, .ref a_p0), (1, .int x1_4), (2, .int x2_4)] → W p l e (headSpec wsX5_nightsMarked { frames := 1, cells := 0, slots := 0, locals := 24 }).room s m [.ref a_p0].toArray below meth c H locs 0 0 (MQ below (xq_Q (dC, dI) vwCl (xq_tys cI cB cJ cZ cM) A [(a_p0, .inr (5, oX5 mkI mkR)), ((mkR 1), .inl (cI, 16, .inl mk_nightsAheadF))] (some (.int r0))) [.ref a_p0].toArray s 0 0 A) (F0 m 4 ls []) := by
    intro n4
    induction n4 with
    | zero => intro x1_4 x2_4 ls H locs hf; cases (show none = some r0 from hf)
    | succ n4 ih4 =>
      intro x1_4 x2_4 ls H locs hf hP hD hS hl
      have hf : fX5_nightsMarked_l4 N mkI mk_nightsAheadF (xq_loop (fX5_nightsMarked_l4 N mkI mk_nightsAheadF) n4) (x1_4, x2_4) = some r0 := hf
      unfold fX5_nightsMarked_l4 at hf
      refine lv_iload_n hx hb dX5_nightsMarked_4 rfl (lv_at hl 2 rfl) ?_
      refine lv_aload_n hx hb dX5_nightsMarked_5 rfl (lv_at hl 0 rfl) ?_
      refine va_get (D := (dC, dI)) (ci := 5) (v := .int (mkI 0)) (C := RX5) (T := TX5) (N := 4) hx hb hts hinX5 hown hK hP 0 rfl rfl 0 (by decide) hw0 (fun _ h9 => h9) rfl dX5_nightsMarked_6 ?_
      refine lv_icmp_ge (tgt := 31) hx hb dX5_nightsMarked_9 (by decide) (fun c_ => ?_) (fun c_ => ?_)
      · have hf := xq_pos hf c_
        refine lv_iload_n hx hb dX5_nightsMarked_31 rfl (lv_at hl 1 rfl) ?_
        cases hf
        exact xq_iret hx hb hr hlocks hK hP hD hS dX5_nightsMarked_32
      · have hf := xq_neg hf c_
        refine lv_iload_n hx hb dX5_nightsMarked_12 rfl (lv_at hl 1 rfl) ?_
        refine lv_aload_n hx hb dX5_nightsMarked_13 rfl (lv_at hl 0 rfl) ?_
        refine va_get (D := (dC, dI)) (ci := 5) (v := .ref ((mkR 1))) (C := RX5) (T := TX5) (N := 4) hx hb hts hinX5 hown hK hP 0 rfl rfl 1 (by decide) hw2 (fun _ h9 => h9) rfl dX5_nightsMarked_14 ?_
        refine lv_iload_n hx hb dX5_nightsMarked_17 rfl (lv_at hl 2 rfl) ?_
        refine xq_iald hx hb hK hP 1 0 rfl rfl hf dX5_nightsMarked_18 (fun v_1 hf => ?_)
        refine lv_iconst (v := 1) hx hb dX5_nightsMarked_19 (by decide) ?_
        refine lv_iadd hx hb dX5_nightsMarked_20 ?_
        refine va_mmax hx hb (hml.trans hl.1.symm) hown hw3 hw4 hw5 hw6 (Nat.le_of_ble_eq_true rfl) (Nat.le_of_ble_eq_true rfl) (Nat.zero_le _) (Nat.zero_le _) dX5_nightsMarked_21 ?_
        refine W.eq (g2 := F0 m 24 ls [.int (xq_max x1_4 (v_1 + 1))]) rfl ?_
        refine lv_istore_n (lv' := [(1, .int (xq_max x1_4 (v_1 + 1))), (0, .ref a_p0), (2, .int x2_4)]) hx hb dX5_nightsMarked_24 rfl hl (by decide) rfl (fun ls hl => ?_)
        refine lv_iinc (v := x2_4 + 1) (lv' := [(2, .int (x2_4 + 1)), (1, .int (xq_max x1_4 (v_1 + 1))), (0, .ref a_p0)]) hx hb dX5_nightsMarked_25 hl (k := 2) rfl (congrArg (fun q9 => x2_4 + q9) (by decide : Int32.ofInt 1 = 1)) (by decide) rfl (fun ls hl => ?_)
        refine lv_goto (tgt := 4) hx hb dX5_nightsMarked_28 (by decide) ?_
        exact ih4 (xq_max x1_4 (v_1 + 1)) (x2_4 + 1) _ _ _ hf hP hD hS (lv_sub hl [2, 1, 0] rfl)
  unfold fX5_nightsMarked at hf
  refine lv_iconst (v := 0) hx hb dX5_nightsMarked_0 (by decide) ?_
  refine lv_istore_n (lv' := [(1, .int 0), (0, .ref a_p0)]) hx hb dX5_nightsMarked_1 rfl hl (by decide) rfl (fun ls hl => ?_)
  refine lv_iconst (v := 0) hx hb dX5_nightsMarked_2 (by decide) ?_
  refine lv_istore_n (lv' := [(2, .int 0), (1, .int 0), (0, .ref a_p0)]) hx hb dX5_nightsMarked_3 rfl hl (by decide) rfl (fun ls hl => ?_)
  exact l4 N 0 0 _ _ _ hf hP hD hS (lv_sub hl [2, 1, 0] rfl)
def dsX5_areSo_0 : List (Nat × Instr × Nat) := [(0, (.iconst 0, 1)), (1, (.istore_n 3, 1)), (2, (.iload_n 3, 1)), (3, (.aload_n 0, 1)), (4, (.getfield 9, 3)), (7, (.if_icmp .ge 54, 3)), (10, (.aload_n 0, 1)), (11, (.getfield 15, 3)), (14, (.iload_n 3, 1)), (15, (.iaload, 1)), (16, (.istore 4, 2)), (18, (.iload 4, 2)), (20, (.iload_n 2, 1)), (21, (.if_icmp .ge 32, 3)), (24, (.iload 4, 2)), (26, (.aload_n 1, 1)), (27, (.arraylength, 1)), (28, (.if_icmp .ge 25, 3)), (31, (.aload_n 1, 1)), (32, (.iload 4, 2)), (34, (.iaload, 1)), (35, (.aload_n 0, 1)), (36, (.getfield 19, 3)), (39, (.iload_n 3, 1)), (40, (.iaload, 1)), (41, (.ishr, 1)), (42, (.iconst 1, 1)), (43, (.iand, 1)), (44, (.aload_n 0, 1)), (45, (.getfield 22, 3)), (48, (.iload_n 3, 1)), (49, (.iaload, 1)), (50, (.if_icmp .eq 5, 3)), (53, (.iconst 0, 1)), (54, (.ireturn, 1)), (55, (.iinc 3 1, 3)), (58, (.goto (-56), 3)), (61, (.iconst 1, 1)), (62, (.ireturn, 1))]
theorem dsX5_areSo_0_ok : (dsX5_areSo_0.all fun q => decide (decode cX5_areSo q.1 = .ok q.2)) = true := by decide +kernel
theorem dX5_areSo_0 : decode cX5_areSo 0 = .ok (.iconst 0, 1) := of_decide_eq_true (List.all_eq_true.mp dsX5_areSo_0_ok (0, (.iconst 0, 1)) (List.mem_of_getElem? (i := 0) rfl))
theorem dX5_areSo_1 : decode cX5_areSo 1 = .ok (.istore_n 3, 1) := of_decide_eq_true (List.all_eq_true.mp dsX5_areSo_0_ok (1, (.istore_n 3, 1)) (List.mem_of_getElem? (i := 1) rfl))
theorem dX5_areSo_2 : decode cX5_areSo 2 = .ok (.iload_n 3, 1) := of_decide_eq_true (List.all_eq_true.mp dsX5_areSo_0_ok (2, (.iload_n 3, 1)) (List.mem_of_getElem? (i := 2) rfl))
theorem dX5_areSo_3 : decode cX5_areSo 3 = .ok (.aload_n 0, 1) := of_decide_eq_true (List.all_eq_true.mp dsX5_areSo_0_ok (3, (.aload_n 0, 1)) (List.mem_of_getElem? (i := 3) rfl))
theorem dX5_areSo_4 : decode cX5_areSo 4 = .ok (.getfield 9, 3) := of_decide_eq_true (List.all_eq_true.mp dsX5_areSo_0_ok (4, (.getfield 9, 3)) (List.mem_of_getElem? (i := 4) rfl))
theorem dX5_areSo_7 : decode cX5_areSo 7 = .ok (.if_icmp .ge 54, 3) := of_decide_eq_true (List.all_eq_true.mp dsX5_areSo_0_ok (7, (.if_icmp .ge 54, 3)) (List.mem_of_getElem? (i := 5) rfl))
theorem dX5_areSo_10 : decode cX5_areSo 10 = .ok (.aload_n 0, 1) := of_decide_eq_true (List.all_eq_true.mp dsX5_areSo_0_ok (10, (.aload_n 0, 1)) (List.mem_of_getElem? (i := 6) rfl))
theorem dX5_areSo_11 : decode cX5_areSo 11 = .ok (.getfield 15, 3) := of_decide_eq_true (List.all_eq_true.mp dsX5_areSo_0_ok (11, (.getfield 15, 3)) (List.mem_of_getElem? (i := 7) rfl))
theorem dX5_areSo_14 : decode cX5_areSo 14 = .ok (.iload_n 3, 1) := of_decide_eq_true (List.all_eq_true.mp dsX5_areSo_0_ok (14, (.iload_n 3, 1)) (List.mem_of_getElem? (i := 8) rfl))
theorem dX5_areSo_15 : decode cX5_areSo 15 = .ok (.iaload, 1) := of_decide_eq_true (List.all_eq_true.mp dsX5_areSo_0_ok (15, (.iaload, 1)) (List.mem_of_getElem? (i := 9) rfl))
theorem dX5_areSo_16 : decode cX5_areSo 16 = .ok (.istore 4, 2) := of_decide_eq_true (List.all_eq_true.mp dsX5_areSo_0_ok (16, (.istore 4, 2)) (List.mem_of_getElem? (i := 10) rfl))
theorem dX5_areSo_18 : decode cX5_areSo 18 = .ok (.iload 4, 2) := of_decide_eq_true (List.all_eq_true.mp dsX5_areSo_0_ok (18, (.iload 4, 2)) (List.mem_of_getElem? (i := 11) rfl))
theorem dX5_areSo_20 : decode cX5_areSo 20 = .ok (.iload_n 2, 1) := of_decide_eq_true (List.all_eq_true.mp dsX5_areSo_0_ok (20, (.iload_n 2, 1)) (List.mem_of_getElem? (i := 12) rfl))
theorem dX5_areSo_21 : decode cX5_areSo 21 = .ok (.if_icmp .ge 32, 3) := of_decide_eq_true (List.all_eq_true.mp dsX5_areSo_0_ok (21, (.if_icmp .ge 32, 3)) (List.mem_of_getElem? (i := 13) rfl))
theorem dX5_areSo_24 : decode cX5_areSo 24 = .ok (.iload 4, 2) := of_decide_eq_true (List.all_eq_true.mp dsX5_areSo_0_ok (24, (.iload 4, 2)) (List.mem_of_getElem? (i := 14) rfl))
theorem dX5_areSo_26 : decode cX5_areSo 26 = .ok (.aload_n 1, 1) := of_decide_eq_true (List.all_eq_true.mp dsX5_areSo_0_ok (26, (.aload_n 1, 1)) (List.mem_of_getElem? (i := 15) rfl))
theorem dX5_areSo_27 : decode cX5_areSo 27 = .ok (.arraylength, 1) := of_decide_eq_true (List.all_eq_true.mp dsX5_areSo_0_ok (27, (.arraylength, 1)) (List.mem_of_getElem? (i := 16) rfl))
theorem dX5_areSo_28 : decode cX5_areSo 28 = .ok (.if_icmp .ge 25, 3) := of_decide_eq_true (List.all_eq_true.mp dsX5_areSo_0_ok (28, (.if_icmp .ge 25, 3)) (List.mem_of_getElem? (i := 17) rfl))
theorem dX5_areSo_31 : decode cX5_areSo 31 = .ok (.aload_n 1, 1) := of_decide_eq_true (List.all_eq_true.mp dsX5_areSo_0_ok (31, (.aload_n 1, 1)) (List.mem_of_getElem? (i := 18) rfl))
theorem dX5_areSo_32 : decode cX5_areSo 32 = .ok (.iload 4, 2) := of_decide_eq_true (List.all_eq_true.mp dsX5_areSo_0_ok (32, (.iload 4, 2)) (List.mem_of_getElem? (i := 19) rfl))
theorem dX5_areSo_34 : decode cX5_areSo 34 = .ok (.iaload, 1) := of_decide_eq_true (List.all_eq_true.mp dsX5_areSo_0_ok (34, (.iaload, 1)) (List.mem_of_getElem? (i := 20) rfl))
theorem dX5_areSo_35 : decode cX5_areSo 35 = .ok (.aload_n 0, 1) := of_decide_eq_true (List.all_eq_true.mp dsX5_areSo_0_ok (35, (.aload_n 0, 1)) (List.mem_of_getElem? (i := 21) rfl))
theorem dX5_areSo_36 : decode cX5_areSo 36 = .ok (.getfield 19, 3) := of_decide_eq_true (List.all_eq_true.mp dsX5_areSo_0_ok (36, (.getfield 19, 3)) (List.mem_of_getElem? (i := 22) rfl))
theorem dX5_areSo_39 : decode cX5_areSo 39 = .ok (.iload_n 3, 1) := of_decide_eq_true (List.all_eq_true.mp dsX5_areSo_0_ok (39, (.iload_n 3, 1)) (List.mem_of_getElem? (i := 23) rfl))
theorem dX5_areSo_40 : decode cX5_areSo 40 = .ok (.iaload, 1) := of_decide_eq_true (List.all_eq_true.mp dsX5_areSo_0_ok (40, (.iaload, 1)) (List.mem_of_getElem? (i := 24) rfl))
theorem dX5_areSo_41 : decode cX5_areSo 41 = .ok (.ishr, 1) := of_decide_eq_true (List.all_eq_true.mp dsX5_areSo_0_ok (41, (.ishr, 1)) (List.mem_of_getElem? (i := 25) rfl))
theorem dX5_areSo_42 : decode cX5_areSo 42 = .ok (.iconst 1, 1) := of_decide_eq_true (List.all_eq_true.mp dsX5_areSo_0_ok (42, (.iconst 1, 1)) (List.mem_of_getElem? (i := 26) rfl))
theorem dX5_areSo_43 : decode cX5_areSo 43 = .ok (.iand, 1) := of_decide_eq_true (List.all_eq_true.mp dsX5_areSo_0_ok (43, (.iand, 1)) (List.mem_of_getElem? (i := 27) rfl))
theorem dX5_areSo_44 : decode cX5_areSo 44 = .ok (.aload_n 0, 1) := of_decide_eq_true (List.all_eq_true.mp dsX5_areSo_0_ok (44, (.aload_n 0, 1)) (List.mem_of_getElem? (i := 28) rfl))
theorem dX5_areSo_45 : decode cX5_areSo 45 = .ok (.getfield 22, 3) := of_decide_eq_true (List.all_eq_true.mp dsX5_areSo_0_ok (45, (.getfield 22, 3)) (List.mem_of_getElem? (i := 29) rfl))
theorem dX5_areSo_48 : decode cX5_areSo 48 = .ok (.iload_n 3, 1) := of_decide_eq_true (List.all_eq_true.mp dsX5_areSo_0_ok (48, (.iload_n 3, 1)) (List.mem_of_getElem? (i := 30) rfl))
theorem dX5_areSo_49 : decode cX5_areSo 49 = .ok (.iaload, 1) := of_decide_eq_true (List.all_eq_true.mp dsX5_areSo_0_ok (49, (.iaload, 1)) (List.mem_of_getElem? (i := 31) rfl))
theorem dX5_areSo_50 : decode cX5_areSo 50 = .ok (.if_icmp .eq 5, 3) := of_decide_eq_true (List.all_eq_true.mp dsX5_areSo_0_ok (50, (.if_icmp .eq 5, 3)) (List.mem_of_getElem? (i := 32) rfl))
theorem dX5_areSo_53 : decode cX5_areSo 53 = .ok (.iconst 0, 1) := of_decide_eq_true (List.all_eq_true.mp dsX5_areSo_0_ok (53, (.iconst 0, 1)) (List.mem_of_getElem? (i := 33) rfl))
theorem dX5_areSo_54 : decode cX5_areSo 54 = .ok (.ireturn, 1) := of_decide_eq_true (List.all_eq_true.mp dsX5_areSo_0_ok (54, (.ireturn, 1)) (List.mem_of_getElem? (i := 34) rfl))
theorem dX5_areSo_55 : decode cX5_areSo 55 = .ok (.iinc 3 1, 3) := of_decide_eq_true (List.all_eq_true.mp dsX5_areSo_0_ok (55, (.iinc 3 1, 3)) (List.mem_of_getElem? (i := 35) rfl))
theorem dX5_areSo_58 : decode cX5_areSo 58 = .ok (.goto (-56), 3) := of_decide_eq_true (List.all_eq_true.mp dsX5_areSo_0_ok (58, (.goto (-56), 3)) (List.mem_of_getElem? (i := 36) rfl))
theorem dX5_areSo_61 : decode cX5_areSo 61 = .ok (.iconst 1, 1) := of_decide_eq_true (List.all_eq_true.mp dsX5_areSo_0_ok (61, (.iconst 1, 1)) (List.mem_of_getElem? (i := 37) rfl))
theorem dX5_areSo_62 : decode cX5_areSo 62 = .ok (.ireturn, 1) := of_decide_eq_true (List.all_eq_true.mp dsX5_areSo_0_ok (62, (.ireturn, 1)) (List.mem_of_getElem? (i := 38) rfl))
def fX5_areSo_l2 (N : Nat) (mkI : Nat → Int32) (mk_nightsAheadF : Nat → Int32) (ar1F : Nat → Int32) (mk_earsF : Nat → Int32) (mk_hearingF : Nat → Int32) (ar1N : Nat) (k2 : (Int32 × Int32) → Option (Int32)) : (Int32 × Int32) → Option (Int32) :=
  fun (x2_2, x3_2) => (if (mkI 0) ≤ x3_2 then some 1 else (xq_bd (xq_ald 16 mk_nightsAheadF x3_2) fun v_1 => (if x2_2 ≤ v_1 then some 0 else (if (nI ar1N) ≤ v_1 then some 0 else (xq_bd (xq_ald ar1N ar1F v_1) fun v_2 => (xq_bd (xq_ald 16 mk_earsF x3_2) fun v_3 => (xq_bd (xq_ald 16 mk_hearingF x3_2) fun v_4 => (if ((v_2 >>> (v_3 &&& 31)) &&& 1) = v_4 then k2 (x2_2, x3_2 + 1) else some 0))))))))
def fX5_areSo (N : Nat) (mkI : Nat → Int32) (mk_nightsAheadF : Nat → Int32) (ar1F : Nat → Int32) (mk_earsF : Nat → Int32) (mk_hearingF : Nat → Int32) (ar1N : Nat) (p2 : Int32) : Option (Int32) :=
  xq_loop (fX5_areSo_l2 N mkI mk_nightsAheadF ar1F mk_earsF mk_hearingF ar1N) N (p2, 0)
set_option maxHeartbeats 4000000 in
set_option maxRecDepth 100000 in
theorem kX5_areSo (l : Launch) (dC : Nat → ClassId) (dI : Nat → Nat → Nat) (cI cB cJ cZ cM : ClassId) (z : Nat) (ad : Nat → Nat) (N : Nat) (a_p0 : Nat) (mkI : Nat → Int32) (mkR : Nat → Nat) (mk_nightsAheadF : Nat → Int32) (a_p1 : Nat) (ar1F : Nat → Int32) (ar1N : Nat) (mk_earsF : Nat → Int32) (mk_hearingF : Nat → Int32) (p2 : Int32) {r0 : Int32} (hf : fX5_areSo N mkI mk_nightsAheadF ar1F mk_earsF mk_hearingF ar1N p2 = some r0) : xq_Ct l yX5_areSo wsX5_areSo { frames := 0, cells := 0, slots := 0, locals := 0 } (dC, dI) vwCl (xq_tys cI cB cJ cZ cM) z ad [.ref a_p0, .ref a_p1, .int p2] [(a_p0, .inr (5, oX5 mkI mkR)), ((mkR 1), .inl (cI, 16, .inl mk_nightsAheadF)), (a_p1, .inl (cI, ar1N, .inl ar1F)), ((mkR 2), .inl (cI, 16, .inl mk_earsF)), ((mkR 3), .inl (cI, 16, .inl mk_hearingF))] [(a_p0, .inr (5, oX5 mkI mkR)), ((mkR 1), .inl (cI, 16, .inl mk_nightsAheadF)), (a_p1, .inl (cI, ar1N, .inl ar1F)), ((mkR 2), .inl (cI, 16, .inl mk_earsF)), ((mkR 3), .inl (cI, 16, .inl mk_hearingF))] (some (.int r0)) := by
  intro sz
  refine Met.ofW (cc := cX5_areSo) (maxL := 5) (ret := (some .boolean)) (by decide) rfl ?_
  intro p e s m args below meth c s₁ B hml hv
  obtain ⟨rfl, hsz, hP, hK, hD0, hE, hz⟩ := hv
  have hx := B.exec
  have hb := B.bytes
  have hr := B.returns
  have hts := atoms_spec (ws := wsX5_areSo) B.pre
  have hown : s.vm.findClass RX5 = some m.cls := findClass_of_methodNamed B.named
  have hlocks := B.notSynchronized
  subst hsz
  have hD := hD0.self (sz := s.heap.size)
  have hN := xq_Env.of hE hz hD0
  generalize hAe : va_A [(a_p0, .inr (5, oX5 mkI mkR)), ((mkR 1), .inl (cI, 16, .inl mk_nightsAheadF)), (a_p1, .inl (cI, ar1N, .inl ar1F)), ((mkR 2), .inl (cI, 16, .inl mk_earsF)), ((mkR 3), .inl (cI, 16, .inl mk_hearingF))] s.heap.size = A at hD hN ⊢
  have hA : ∀ q : Nat, s.heap.size ≤ q → A q := fun q h => by rw [← hAe]; exact Or.inr h
  clear hAe hD0
  have hS : va_S A s.heap s.heap [] := va_S.rf
  have hl := lv_entry ([.ref a_p0, .ref a_p1, .int p2]) (n := 5) (Nat.le_of_ble_eq_true rfl)
  rw [lg_entry_eq]
  generalize (lg_sl ([.ref a_p0, .ref a_p1, .int p2]) ++ List.replicate (5 - (lg_sl ([.ref a_p0, .ref a_p1, .int p2])).length) Slot.unset).toArray = ls at hl ⊢
  have hl : lv_has ls 5 [(0, .ref a_p0), (1, .ref a_p1), (2, .int p2)] := hl
  have hw0 := hts (.fieldLink RX5 9 "DistantVoice$Marks" "count" "I") (by decide +kernel)
  have hinX5 : ∀ w ∈ wsX50, w ∈ wsX5_areSo := fun w h => List.mem_cons_of_mem _ (List.mem_append_right _ h)
  have hw2 := hts (.fieldLink RX5 15 "DistantVoice$Marks" "nightsAhead" "[I") (by decide +kernel)
  have hw3 := hts (.fieldLink RX5 19 "DistantVoice$Marks" "ears" "[I") (by decide +kernel)
  have hw4 := hts (.fieldLink RX5 22 "DistantVoice$Marks" "hearing" "[I") (by decide +kernel)
  have l2 : ∀ n2 : Nat, ∀ (x2_2 : Int32) (x3_2 : Int32) (ls : Array Slot) (H : Heap) (locs : List Loc), xq_loop (fX5_areSo_l2 N mkI mk_nightsAheadF ar1F mk_earsF mk_hearingF ar1N) n2 (x2_2, x3_2) = some r0 → va_P (dC, dI) vwCl [(a_p0, .inr (5, oX5 mkI mkR)), ((mkR 1), .inl (cI, 16, .inl mk_nightsAheadF)), (a_p1, .inl (cI, ar1N, .inl ar1F)), ((mkR 2), .inl (cI, 16, .inl mk_earsF)), ((mkR 3), .inl (cI, 16, .inl mk_hearingF))] H → va_D A [(a_p0, .inr (5, oX5 mkI mkR)), ((mkR 1), .inl (cI, 16, .inl mk_nightsAheadF)), (a_p1, .inl (cI, ar1N, .inl ar1F)), ((mkR 2), .inl (cI, 16, .inl mk_earsF)), ((mkR 3), .inl (cI, 16, .inl mk_hearingF))] → va_S A s.heap H locs → lv_has ls 5 [(0, .ref a_p0), (1, .ref a_p1), (2, .int x2_2), (3, .int x3_2)] → W p l e (headSpec wsX5_areSo { frames := 0, cells := 0, slots := 0, locals := 0 }).room s m [.ref a_p0, .ref a_p1, .int p2].toArray below meth c H locs 0 0 (MQ below (xq_Q (dC, dI) vwCl (xq_tys cI cB cJ cZ cM) A [(a_p0, .inr (5, oX5 mkI mkR)), ((mkR 1), .inl (cI, 16, .inl mk_nightsAheadF)), (a_p1, .inl (cI, ar1N, .inl ar1F)), ((mkR 2), .inl (cI, 16, .inl mk_earsF)), ((mkR 3), .inl (cI, 16, .inl mk_hearingF))] (some (.int r0))) [.ref a_p0, .ref a_p1, .int p2].toArray s 0 0 A) (F0 m 2 ls []) := by
    intro n2
    induction n2 with
    | zero => intro x2_2 x3_2 ls H locs hf; cases (show none = some r0 from hf)
    | succ n2 ih2 =>
      intro x2_2 x3_2 ls H locs hf hP hD hS hl
      have hf : fX5_areSo_l2 N mkI mk_nightsAheadF ar1F mk_earsF mk_hearingF ar1N (xq_loop (fX5_areSo_l2 N mkI mk_nightsAheadF ar1F mk_earsF mk_hearingF ar1N) n2) (x2_2, x3_2) = some r0 := hf
      unfold fX5_areSo_l2 at hf
      refine lv_iload_n hx hb dX5_areSo_2 rfl (lv_at hl 3 rfl) ?_
      refine lv_aload_n hx hb dX5_areSo_3 rfl (lv_at hl 0 rfl) ?_
      refine va_get (D := (dC, dI)) (ci := 5) (v := .int (mkI 0)) (C := RX5) (T := TX5) (N := 4) hx hb hts hinX5 hown hK hP 0 rfl rfl 0 (by decide) hw0 (fun _ h9 => h9) rfl dX5_areSo_4 ?_
      refine lv_icmp_ge (tgt := 61) hx hb dX5_areSo_7 (by decide) (fun c_ => ?_) (fun c_ => ?_)
      · have hf := xq_pos hf c_
        refine lv_iconst (v := 1) hx hb dX5_areSo_61 (by decide) ?_
        cases hf
        exact xq_zret hx hb hr (by decide +kernel) hlocks hK hP hD hS dX5_areSo_62
      · have hf := xq_neg hf c_
        refine lv_aload_n hx hb dX5_areSo_10 rfl (lv_at hl 0 rfl) ?_
        refine va_get (D := (dC, dI)) (ci := 5) (v := .ref ((mkR 1))) (C := RX5) (T := TX5) (N := 4) hx hb hts hinX5 hown hK hP 0 rfl rfl 1 (by decide) hw2 (fun _ h9 => h9) rfl dX5_areSo_11 ?_
        refine lv_iload_n hx hb dX5_areSo_14 rfl (lv_at hl 3 rfl) ?_
        refine xq_iald hx hb hK hP 1 0 rfl rfl hf dX5_areSo_15 (fun v_1 hf => ?_)
        refine lv_istore (lv' := [(4, .int v_1), (0, .ref a_p0), (1, .ref a_p1), (2, .int x2_2), (3, .int x3_2)]) hx hb dX5_areSo_16 hl (by decide) rfl (fun ls hl => ?_)
        refine lv_iload hx hb dX5_areSo_18 (lv_at hl 0 rfl) ?_
        refine lv_iload_n hx hb dX5_areSo_20 rfl (lv_at hl 3 rfl) ?_
        refine lv_icmp_ge (tgt := 53) hx hb dX5_areSo_21 (by decide) (fun c_ => ?_) (fun c_ => ?_)
        · have hf := xq_pos hf c_
          refine lv_iconst (v := 0) hx hb dX5_areSo_53 (by decide) ?_
          cases hf
          exact xq_zret hx hb hr (by decide +kernel) hlocks hK hP hD hS dX5_areSo_54
        · have hf := xq_neg hf c_
          refine lv_iload hx hb dX5_areSo_24 (lv_at hl 0 rfl) ?_
          refine lv_aload_n hx hb dX5_areSo_26 rfl (lv_at hl 2 rfl) ?_
          refine va_alen hx hb hK hP 2 0 (v := nI ar1N) rfl rfl rfl dX5_areSo_27 ?_
          refine lv_icmp_ge (tgt := 53) hx hb dX5_areSo_28 (by decide) (fun c_ => ?_) (fun c_ => ?_)
          · have hf := xq_pos hf c_
            refine lv_iconst (v := 0) hx hb dX5_areSo_53 (by decide) ?_
            cases hf
            exact xq_zret hx hb hr (by decide +kernel) hlocks hK hP hD hS dX5_areSo_54
          · have hf := xq_neg hf c_
            refine lv_aload_n hx hb dX5_areSo_31 rfl (lv_at hl 2 rfl) ?_
            refine lv_iload hx hb dX5_areSo_32 (lv_at hl 0 rfl) ?_
            refine xq_iald hx hb hK hP 2 0 rfl rfl hf dX5_areSo_34 (fun v_2 hf => ?_)
            refine lv_aload_n hx hb dX5_areSo_35 rfl (lv_at hl 1 rfl) ?_
            refine va_get (D := (dC, dI)) (ci := 5) (v := .ref ((mkR 2))) (C := RX5) (T := TX5) (N := 4) hx hb hts hinX5 hown hK hP 0 rfl rfl 2 (by decide) hw3 (fun _ h9 => h9) rfl dX5_areSo_36 ?_
            refine lv_iload_n hx hb dX5_areSo_39 rfl (lv_at hl 4 rfl) ?_
            refine xq_iald hx hb hK hP 3 0 rfl rfl hf dX5_areSo_40 (fun v_3 hf => ?_)
            refine lv_ishr hx hb dX5_areSo_41 ?_
            refine lv_iconst (v := 1) hx hb dX5_areSo_42 (by decide) ?_
            refine lv_iand hx hb dX5_areSo_43 ?_
            refine lv_aload_n hx hb dX5_areSo_44 rfl (lv_at hl 1 rfl) ?_
            refine va_get (D := (dC, dI)) (ci := 5) (v := .ref ((mkR 3))) (C := RX5) (T := TX5) (N := 4) hx hb hts hinX5 hown hK hP 0 rfl rfl 3 (by decide) hw4 (fun _ h9 => h9) rfl dX5_areSo_45 ?_
            refine lv_iload_n hx hb dX5_areSo_48 rfl (lv_at hl 4 rfl) ?_
            refine xq_iald hx hb hK hP 4 0 rfl rfl hf dX5_areSo_49 (fun v_4 hf => ?_)
            refine lv_icmp_eq (tgt := 55) hx hb dX5_areSo_50 (by decide) (fun c_ => ?_) (fun c_ => ?_)
            · have hf := xq_pos hf c_
              refine lv_iinc (v := x3_2 + 1) (lv' := [(3, .int (x3_2 + 1)), (4, .int v_1), (0, .ref a_p0), (1, .ref a_p1), (2, .int x2_2)]) hx hb dX5_areSo_55 hl (k := 4) rfl (congrArg (fun q9 => x3_2 + q9) (by decide : Int32.ofInt 1 = 1)) (by decide) rfl (fun ls hl => ?_)
              refine lv_goto (tgt := 2) hx hb dX5_areSo_58 (by decide) ?_
              exact ih2 x2_2 (x3_2 + 1) _ _ _ hf hP hD hS (lv_sub hl [2, 3, 4, 0] rfl)
            · have hf := xq_neg hf c_
              refine lv_iconst (v := 0) hx hb dX5_areSo_53 (by decide) ?_
              cases hf
              exact xq_zret hx hb hr (by decide +kernel) hlocks hK hP hD hS dX5_areSo_54
  unfold fX5_areSo at hf
  refine lv_iconst (v := 0) hx hb dX5_areSo_0 (by decide) ?_
  refine lv_istore_n (lv' := [(3, .int 0), (0, .ref a_p0), (1, .ref a_p1), (2, .int p2)]) hx hb dX5_areSo_1 rfl hl (by decide) rfl (fun ls hl => ?_)
  exact l2 N p2 0 _ _ _ hf hP hD hS (lv_sub hl [1, 2, 3, 0] rfl)
set_option maxRecDepth 20000 in
theorem ggX5_tellsMarks_X9_at : GoodIn wsX5_tellsMarks wsX9_at := goodIn_r _ [5, 6, 7, 8, 9] rfl (by decide +kernel)
set_option maxRecDepth 20000 in
theorem gX5_tellsMarks_X9_at : GoodIn wsX5_tellsMarks (wsV RX5 30 RX9 yX9_at wsX9_at) := goodIn_app (goodIn_of _ (by decide +kernel)) ggX5_tellsMarks_X9_at
def dsX5_tellsMarks_0 : List (Nat × Instr × Nat) := [(0, (.aload_n 1, 1)), (1, (.getfield 25, 3)), (4, (.iconst 3, 1)), (5, (.idiv, 1)), (6, (.istore_n 3, 1)), (7, (.aload_n 1, 1)), (8, (.getfield 25, 3)), (11, (.iconst 3, 1)), (12, (.irem, 1)), (13, (.ifCond .ne 14, 3)), (16, (.iload_n 3, 1)), (17, (.iconst 1, 1)), (18, (.if_icmp .lt 9, 3)), (21, (.iload_n 3, 1)), (22, (.bipush 16, 2)), (24, (.if_icmp .le 5, 3)), (27, (.iconst 0, 1)), (28, (.ireturn, 1)), (29, (.iconst 0, 1)), (30, (.istore 4, 2)), (32, (.iload 4, 2)), (34, (.iload_n 3, 1)), (35, (.if_icmp .ge 52, 3)), (38, (.iload 4, 2)), (40, (.iconst 3, 1)), (41, (.imul, 1)), (42, (.istore 5, 2)), (44, (.aload_n 1, 1)), (45, (.iload 5, 2)), (47, (.invokevirtual 30, 3)), (50, (.bipush 31, 2)), (52, (.if_icmp .ge 27, 3)), (55, (.aload_n 1, 1)), (56, (.iload 5, 2)), (58, (.iconst 1, 1)), (59, (.iadd, 1)), (60, (.invokevirtual 30, 3)), (63, (.iload_n 2, 1)), (64, (.if_icmp .ge 15, 3)), (67, (.aload_n 1, 1)), (68, (.iload 5, 2)), (70, (.iconst 2, 1)), (71, (.iadd, 1)), (72, (.invokevirtual 30, 3)), (75, (.iconst 1, 1)), (76, (.if_icmp .le 5, 3)), (79, (.iconst 0, 1)), (80, (.ireturn, 1)), (81, (.iinc 4 1, 3)), (84, (.goto (-52), 3)), (87, (.iconst 1, 1)), (88, (.ireturn, 1))]
theorem dsX5_tellsMarks_0_ok : (dsX5_tellsMarks_0.all fun q => decide (decode cX5_tellsMarks q.1 = .ok q.2)) = true := by decide +kernel
theorem dX5_tellsMarks_0 : decode cX5_tellsMarks 0 = .ok (.aload_n 1, 1) := of_decide_eq_true (List.all_eq_true.mp dsX5_tellsMarks_0_ok (0, (.aload_n 1, 1)) (List.mem_of_getElem? (i := 0) rfl))
theorem dX5_tellsMarks_1 : decode cX5_tellsMarks 1 = .ok (.getfield 25, 3) := of_decide_eq_true (List.all_eq_true.mp dsX5_tellsMarks_0_ok (1, (.getfield 25, 3)) (List.mem_of_getElem? (i := 1) rfl))
theorem dX5_tellsMarks_4 : decode cX5_tellsMarks 4 = .ok (.iconst 3, 1) := of_decide_eq_true (List.all_eq_true.mp dsX5_tellsMarks_0_ok (4, (.iconst 3, 1)) (List.mem_of_getElem? (i := 2) rfl))
theorem dX5_tellsMarks_5 : decode cX5_tellsMarks 5 = .ok (.idiv, 1) := of_decide_eq_true (List.all_eq_true.mp dsX5_tellsMarks_0_ok (5, (.idiv, 1)) (List.mem_of_getElem? (i := 3) rfl))
theorem dX5_tellsMarks_6 : decode cX5_tellsMarks 6 = .ok (.istore_n 3, 1) := of_decide_eq_true (List.all_eq_true.mp dsX5_tellsMarks_0_ok (6, (.istore_n 3, 1)) (List.mem_of_getElem? (i := 4) rfl))
theorem dX5_tellsMarks_7 : decode cX5_tellsMarks 7 = .ok (.aload_n 1, 1) := of_decide_eq_true (List.all_eq_true.mp dsX5_tellsMarks_0_ok (7, (.aload_n 1, 1)) (List.mem_of_getElem? (i := 5) rfl))
theorem dX5_tellsMarks_8 : decode cX5_tellsMarks 8 = .ok (.getfield 25, 3) := of_decide_eq_true (List.all_eq_true.mp dsX5_tellsMarks_0_ok (8, (.getfield 25, 3)) (List.mem_of_getElem? (i := 6) rfl))
theorem dX5_tellsMarks_11 : decode cX5_tellsMarks 11 = .ok (.iconst 3, 1) := of_decide_eq_true (List.all_eq_true.mp dsX5_tellsMarks_0_ok (11, (.iconst 3, 1)) (List.mem_of_getElem? (i := 7) rfl))
theorem dX5_tellsMarks_12 : decode cX5_tellsMarks 12 = .ok (.irem, 1) := of_decide_eq_true (List.all_eq_true.mp dsX5_tellsMarks_0_ok (12, (.irem, 1)) (List.mem_of_getElem? (i := 8) rfl))
theorem dX5_tellsMarks_13 : decode cX5_tellsMarks 13 = .ok (.ifCond .ne 14, 3) := of_decide_eq_true (List.all_eq_true.mp dsX5_tellsMarks_0_ok (13, (.ifCond .ne 14, 3)) (List.mem_of_getElem? (i := 9) rfl))
theorem dX5_tellsMarks_16 : decode cX5_tellsMarks 16 = .ok (.iload_n 3, 1) := of_decide_eq_true (List.all_eq_true.mp dsX5_tellsMarks_0_ok (16, (.iload_n 3, 1)) (List.mem_of_getElem? (i := 10) rfl))
theorem dX5_tellsMarks_17 : decode cX5_tellsMarks 17 = .ok (.iconst 1, 1) := of_decide_eq_true (List.all_eq_true.mp dsX5_tellsMarks_0_ok (17, (.iconst 1, 1)) (List.mem_of_getElem? (i := 11) rfl))
theorem dX5_tellsMarks_18 : decode cX5_tellsMarks 18 = .ok (.if_icmp .lt 9, 3) := of_decide_eq_true (List.all_eq_true.mp dsX5_tellsMarks_0_ok (18, (.if_icmp .lt 9, 3)) (List.mem_of_getElem? (i := 12) rfl))
theorem dX5_tellsMarks_21 : decode cX5_tellsMarks 21 = .ok (.iload_n 3, 1) := of_decide_eq_true (List.all_eq_true.mp dsX5_tellsMarks_0_ok (21, (.iload_n 3, 1)) (List.mem_of_getElem? (i := 13) rfl))
theorem dX5_tellsMarks_22 : decode cX5_tellsMarks 22 = .ok (.bipush 16, 2) := of_decide_eq_true (List.all_eq_true.mp dsX5_tellsMarks_0_ok (22, (.bipush 16, 2)) (List.mem_of_getElem? (i := 14) rfl))
theorem dX5_tellsMarks_24 : decode cX5_tellsMarks 24 = .ok (.if_icmp .le 5, 3) := of_decide_eq_true (List.all_eq_true.mp dsX5_tellsMarks_0_ok (24, (.if_icmp .le 5, 3)) (List.mem_of_getElem? (i := 15) rfl))
theorem dX5_tellsMarks_27 : decode cX5_tellsMarks 27 = .ok (.iconst 0, 1) := of_decide_eq_true (List.all_eq_true.mp dsX5_tellsMarks_0_ok (27, (.iconst 0, 1)) (List.mem_of_getElem? (i := 16) rfl))
theorem dX5_tellsMarks_28 : decode cX5_tellsMarks 28 = .ok (.ireturn, 1) := of_decide_eq_true (List.all_eq_true.mp dsX5_tellsMarks_0_ok (28, (.ireturn, 1)) (List.mem_of_getElem? (i := 17) rfl))
theorem dX5_tellsMarks_29 : decode cX5_tellsMarks 29 = .ok (.iconst 0, 1) := of_decide_eq_true (List.all_eq_true.mp dsX5_tellsMarks_0_ok (29, (.iconst 0, 1)) (List.mem_of_getElem? (i := 18) rfl))
theorem dX5_tellsMarks_30 : decode cX5_tellsMarks 30 = .ok (.istore 4, 2) := of_decide_eq_true (List.all_eq_true.mp dsX5_tellsMarks_0_ok (30, (.istore 4, 2)) (List.mem_of_getElem? (i := 19) rfl))
theorem dX5_tellsMarks_32 : decode cX5_tellsMarks 32 = .ok (.iload 4, 2) := of_decide_eq_true (List.all_eq_true.mp dsX5_tellsMarks_0_ok (32, (.iload 4, 2)) (List.mem_of_getElem? (i := 20) rfl))
theorem dX5_tellsMarks_34 : decode cX5_tellsMarks 34 = .ok (.iload_n 3, 1) := of_decide_eq_true (List.all_eq_true.mp dsX5_tellsMarks_0_ok (34, (.iload_n 3, 1)) (List.mem_of_getElem? (i := 21) rfl))
theorem dX5_tellsMarks_35 : decode cX5_tellsMarks 35 = .ok (.if_icmp .ge 52, 3) := of_decide_eq_true (List.all_eq_true.mp dsX5_tellsMarks_0_ok (35, (.if_icmp .ge 52, 3)) (List.mem_of_getElem? (i := 22) rfl))
theorem dX5_tellsMarks_38 : decode cX5_tellsMarks 38 = .ok (.iload 4, 2) := of_decide_eq_true (List.all_eq_true.mp dsX5_tellsMarks_0_ok (38, (.iload 4, 2)) (List.mem_of_getElem? (i := 23) rfl))
theorem dX5_tellsMarks_40 : decode cX5_tellsMarks 40 = .ok (.iconst 3, 1) := of_decide_eq_true (List.all_eq_true.mp dsX5_tellsMarks_0_ok (40, (.iconst 3, 1)) (List.mem_of_getElem? (i := 24) rfl))
theorem dX5_tellsMarks_41 : decode cX5_tellsMarks 41 = .ok (.imul, 1) := of_decide_eq_true (List.all_eq_true.mp dsX5_tellsMarks_0_ok (41, (.imul, 1)) (List.mem_of_getElem? (i := 25) rfl))
theorem dX5_tellsMarks_42 : decode cX5_tellsMarks 42 = .ok (.istore 5, 2) := of_decide_eq_true (List.all_eq_true.mp dsX5_tellsMarks_0_ok (42, (.istore 5, 2)) (List.mem_of_getElem? (i := 26) rfl))
theorem dX5_tellsMarks_44 : decode cX5_tellsMarks 44 = .ok (.aload_n 1, 1) := of_decide_eq_true (List.all_eq_true.mp dsX5_tellsMarks_0_ok (44, (.aload_n 1, 1)) (List.mem_of_getElem? (i := 27) rfl))
theorem dX5_tellsMarks_45 : decode cX5_tellsMarks 45 = .ok (.iload 5, 2) := of_decide_eq_true (List.all_eq_true.mp dsX5_tellsMarks_0_ok (45, (.iload 5, 2)) (List.mem_of_getElem? (i := 28) rfl))
theorem dX5_tellsMarks_47 : decode cX5_tellsMarks 47 = .ok (.invokevirtual 30, 3) := of_decide_eq_true (List.all_eq_true.mp dsX5_tellsMarks_0_ok (47, (.invokevirtual 30, 3)) (List.mem_of_getElem? (i := 29) rfl))
theorem dX5_tellsMarks_50 : decode cX5_tellsMarks 50 = .ok (.bipush 31, 2) := of_decide_eq_true (List.all_eq_true.mp dsX5_tellsMarks_0_ok (50, (.bipush 31, 2)) (List.mem_of_getElem? (i := 30) rfl))
theorem dX5_tellsMarks_52 : decode cX5_tellsMarks 52 = .ok (.if_icmp .ge 27, 3) := of_decide_eq_true (List.all_eq_true.mp dsX5_tellsMarks_0_ok (52, (.if_icmp .ge 27, 3)) (List.mem_of_getElem? (i := 31) rfl))
theorem dX5_tellsMarks_55 : decode cX5_tellsMarks 55 = .ok (.aload_n 1, 1) := of_decide_eq_true (List.all_eq_true.mp dsX5_tellsMarks_0_ok (55, (.aload_n 1, 1)) (List.mem_of_getElem? (i := 32) rfl))
theorem dX5_tellsMarks_56 : decode cX5_tellsMarks 56 = .ok (.iload 5, 2) := of_decide_eq_true (List.all_eq_true.mp dsX5_tellsMarks_0_ok (56, (.iload 5, 2)) (List.mem_of_getElem? (i := 33) rfl))
theorem dX5_tellsMarks_58 : decode cX5_tellsMarks 58 = .ok (.iconst 1, 1) := of_decide_eq_true (List.all_eq_true.mp dsX5_tellsMarks_0_ok (58, (.iconst 1, 1)) (List.mem_of_getElem? (i := 34) rfl))
theorem dX5_tellsMarks_59 : decode cX5_tellsMarks 59 = .ok (.iadd, 1) := of_decide_eq_true (List.all_eq_true.mp dsX5_tellsMarks_0_ok (59, (.iadd, 1)) (List.mem_of_getElem? (i := 35) rfl))
theorem dX5_tellsMarks_60 : decode cX5_tellsMarks 60 = .ok (.invokevirtual 30, 3) := of_decide_eq_true (List.all_eq_true.mp dsX5_tellsMarks_0_ok (60, (.invokevirtual 30, 3)) (List.mem_of_getElem? (i := 36) rfl))
theorem dX5_tellsMarks_63 : decode cX5_tellsMarks 63 = .ok (.iload_n 2, 1) := of_decide_eq_true (List.all_eq_true.mp dsX5_tellsMarks_0_ok (63, (.iload_n 2, 1)) (List.mem_of_getElem? (i := 37) rfl))
theorem dX5_tellsMarks_64 : decode cX5_tellsMarks 64 = .ok (.if_icmp .ge 15, 3) := of_decide_eq_true (List.all_eq_true.mp dsX5_tellsMarks_0_ok (64, (.if_icmp .ge 15, 3)) (List.mem_of_getElem? (i := 38) rfl))
theorem dX5_tellsMarks_67 : decode cX5_tellsMarks 67 = .ok (.aload_n 1, 1) := of_decide_eq_true (List.all_eq_true.mp dsX5_tellsMarks_0_ok (67, (.aload_n 1, 1)) (List.mem_of_getElem? (i := 39) rfl))
theorem dX5_tellsMarks_68 : decode cX5_tellsMarks 68 = .ok (.iload 5, 2) := of_decide_eq_true (List.all_eq_true.mp dsX5_tellsMarks_0_ok (68, (.iload 5, 2)) (List.mem_of_getElem? (i := 40) rfl))
theorem dX5_tellsMarks_70 : decode cX5_tellsMarks 70 = .ok (.iconst 2, 1) := of_decide_eq_true (List.all_eq_true.mp dsX5_tellsMarks_0_ok (70, (.iconst 2, 1)) (List.mem_of_getElem? (i := 41) rfl))
theorem dX5_tellsMarks_71 : decode cX5_tellsMarks 71 = .ok (.iadd, 1) := of_decide_eq_true (List.all_eq_true.mp dsX5_tellsMarks_0_ok (71, (.iadd, 1)) (List.mem_of_getElem? (i := 42) rfl))
theorem dX5_tellsMarks_72 : decode cX5_tellsMarks 72 = .ok (.invokevirtual 30, 3) := of_decide_eq_true (List.all_eq_true.mp dsX5_tellsMarks_0_ok (72, (.invokevirtual 30, 3)) (List.mem_of_getElem? (i := 43) rfl))
theorem dX5_tellsMarks_75 : decode cX5_tellsMarks 75 = .ok (.iconst 1, 1) := of_decide_eq_true (List.all_eq_true.mp dsX5_tellsMarks_0_ok (75, (.iconst 1, 1)) (List.mem_of_getElem? (i := 44) rfl))
theorem dX5_tellsMarks_76 : decode cX5_tellsMarks 76 = .ok (.if_icmp .le 5, 3) := of_decide_eq_true (List.all_eq_true.mp dsX5_tellsMarks_0_ok (76, (.if_icmp .le 5, 3)) (List.mem_of_getElem? (i := 45) rfl))
theorem dX5_tellsMarks_79 : decode cX5_tellsMarks 79 = .ok (.iconst 0, 1) := of_decide_eq_true (List.all_eq_true.mp dsX5_tellsMarks_0_ok (79, (.iconst 0, 1)) (List.mem_of_getElem? (i := 46) rfl))
theorem dX5_tellsMarks_80 : decode cX5_tellsMarks 80 = .ok (.ireturn, 1) := of_decide_eq_true (List.all_eq_true.mp dsX5_tellsMarks_0_ok (80, (.ireturn, 1)) (List.mem_of_getElem? (i := 47) rfl))
theorem dX5_tellsMarks_81 : decode cX5_tellsMarks 81 = .ok (.iinc 4 1, 3) := of_decide_eq_true (List.all_eq_true.mp dsX5_tellsMarks_0_ok (81, (.iinc 4 1, 3)) (List.mem_of_getElem? (i := 48) rfl))
theorem dX5_tellsMarks_84 : decode cX5_tellsMarks 84 = .ok (.goto (-52), 3) := of_decide_eq_true (List.all_eq_true.mp dsX5_tellsMarks_0_ok (84, (.goto (-52), 3)) (List.mem_of_getElem? (i := 49) rfl))
theorem dX5_tellsMarks_87 : decode cX5_tellsMarks 87 = .ok (.iconst 1, 1) := of_decide_eq_true (List.all_eq_true.mp dsX5_tellsMarks_0_ok (87, (.iconst 1, 1)) (List.mem_of_getElem? (i := 50) rfl))
theorem dX5_tellsMarks_88 : decode cX5_tellsMarks 88 = .ok (.ireturn, 1) := of_decide_eq_true (List.all_eq_true.mp dsX5_tellsMarks_0_ok (88, (.ireturn, 1)) (List.mem_of_getElem? (i := 51) rfl))
def fX5_tellsMarks_l32 (N : Nat) (taI : Nat → Int32) (ta_bytesF : Nat → Int32)  (k32 : (Int32 × Int32 × Int32) → Option (Int32)) : (Int32 × Int32 × Int32) → Option (Int32) :=
  fun (x2_32, x3_32, x4_32) => (if x3_32 ≤ x4_32 then some 1 else (xq_bd (fX9_at N taI ta_bytesF (x4_32 * 3)) fun r_1 => (if 31 ≤ r_1 then some 0 else (xq_bd (fX9_at N taI ta_bytesF ((x4_32 * 3) + 1)) fun r_3 => (if x2_32 ≤ r_3 then some 0 else (xq_bd (fX9_at N taI ta_bytesF ((x4_32 * 3) + 2)) fun r_5 => (if r_5 ≤ 1 then k32 (x2_32, x3_32, x4_32 + 1) else some 0)))))))
def fX5_tellsMarks (N : Nat) (taI : Nat → Int32) (ta_bytesF : Nat → Int32)  (p2 : Int32) : Option (Int32) :=
  (xq_bd (xq_dv (taI 1) 3) fun v_1 => (xq_bd (xq_rm (taI 1) 3) fun v_2 => (if v_2 = 0 then (if v_1 < 1 then some 0 else (if v_1 ≤ 16 then xq_loop (fX5_tellsMarks_l32 N taI ta_bytesF) N (p2, v_1, 0) else some 0)) else some 0)))
set_option maxHeartbeats 4000000 in
set_option maxRecDepth 100000 in
theorem kX5_tellsMarks (l : Launch) (dC : Nat → ClassId) (dI : Nat → Nat → Nat) (cI cB cJ cZ cM : ClassId) (z : Nat) (ad : Nat → Nat) (N : Nat) (a_p1 : Nat) (taI : Nat → Int32) (taR : Nat → Nat) (ta_bytesF : Nat → Int32) (p2 : Int32) (a_p0 : Nat) {r0 : Int32} (hf : fX5_tellsMarks N taI ta_bytesF p2 = some r0) : xq_Ct l yX5_tellsMarks wsX5_tellsMarks { frames := 1, cells := 0, slots := 0, locals := 21 } (dC, dI) vwCl (xq_tys cI cB cJ cZ cM) z ad [.ref a_p0, .ref a_p1, .int p2] [(a_p1, .inr (9, oX9 taI taR)), ((taR 0), .inl (cB, 1600, .inl ta_bytesF))] [(a_p1, .inr (9, oX9 taI taR)), ((taR 0), .inl (cB, 1600, .inl ta_bytesF))] (some (.int r0)) := by
  intro sz
  refine Met.ofW (cc := cX5_tellsMarks) (maxL := 6) (ret := (some .boolean)) (by decide) rfl ?_
  intro p e s m args below meth c s₁ B hml hv
  obtain ⟨rfl, hsz, hP, hK, hD0, hE, hz⟩ := hv
  have hx := B.exec
  have hb := B.bytes
  have hr := B.returns
  have hts := atoms_spec (ws := wsX5_tellsMarks) B.pre
  have hown : s.vm.findClass RX5 = some m.cls := findClass_of_methodNamed B.named
  have hlocks := B.notSynchronized
  subst hsz
  have hD := hD0.self (sz := s.heap.size)
  have hN := xq_Env.of hE hz hD0
  generalize hAe : va_A [(a_p1, .inr (9, oX9 taI taR)), ((taR 0), .inl (cB, 1600, .inl ta_bytesF))] s.heap.size = A at hD hN ⊢
  have hA : ∀ q : Nat, s.heap.size ≤ q → A q := fun q h => by rw [← hAe]; exact Or.inr h
  clear hAe hD0
  have hS : va_S A s.heap s.heap [] := va_S.rf
  have hl := lv_entry ([.ref a_p0, .ref a_p1, .int p2]) (n := 6) (Nat.le_of_ble_eq_true rfl)
  rw [lg_entry_eq]
  generalize (lg_sl ([.ref a_p0, .ref a_p1, .int p2]) ++ List.replicate (6 - (lg_sl ([.ref a_p0, .ref a_p1, .int p2])).length) Slot.unset).toArray = ls at hl ⊢
  have hl : lv_has ls 6 [(0, .ref a_p0), (1, .ref a_p1), (2, .int p2)] := hl
  have hnf1 := va_Nw.use (A := [.ref a_p0, .ref a_p1, .int p2].toArray) rfl (hN.1.1.1 ("DistantVoice$Marks", 25, "DistantVoice$Tape", "length", "I", "DistantVoice") (List.mem_of_getElem? (i := 1) rfl))
  have hinX9 : ∀ w ∈ wsX90, w ∈ wsX5_tellsMarks := fun w h => List.mem_cons_of_mem _ (List.mem_append_right _ h)
  have l32 : ∀ n32 : Nat, ∀ (x2_32 : Int32) (x3_32 : Int32) (x4_32 : Int32) (ls : Array Slot) (H : Heap) (locs : List Loc), xq_loop (fX5_tellsMarks_l32 N taI ta_bytesF) n32 (x2_32, x3_32, x4_32) = some r0 → va_P (dC, dI) vwCl [(a_p1, .inr (9, oX9 taI taR)), ((taR 0), .inl (cB, 1600, .inl ta_bytesF))] H → va_D A [(a_p1, .inr (9, oX9 taI taR)), ((taR 0), .inl (cB, 1600, .inl ta_bytesF))] → va_S A s.heap H locs → lv_has ls 6 [(1, .ref a_p1), (2, .int x2_32), (3, .int x3_32), (4, .int x4_32)] → W p l e (headSpec wsX5_tellsMarks { frames := 1, cells := 0, slots := 0, locals := 21 }).room s m [.ref a_p0, .ref a_p1, .int p2].toArray below meth c H locs 0 0 (MQ below (xq_Q (dC, dI) vwCl (xq_tys cI cB cJ cZ cM) A [(a_p1, .inr (9, oX9 taI taR)), ((taR 0), .inl (cB, 1600, .inl ta_bytesF))] (some (.int r0))) [.ref a_p0, .ref a_p1, .int p2].toArray s 0 0 A) (F0 m 32 ls []) := by
    intro n32
    induction n32 with
    | zero => intro x2_32 x3_32 x4_32 ls H locs hf; cases (show none = some r0 from hf)
    | succ n32 ih32 =>
      intro x2_32 x3_32 x4_32 ls H locs hf hP hD hS hl
      have hf : fX5_tellsMarks_l32 N taI ta_bytesF (xq_loop (fX5_tellsMarks_l32 N taI ta_bytesF) n32) (x2_32, x3_32, x4_32) = some r0 := hf
      unfold fX5_tellsMarks_l32 at hf
      refine lv_iload hx hb dX5_tellsMarks_32 (lv_at hl 3 rfl) ?_
      refine lv_iload_n hx hb dX5_tellsMarks_34 rfl (lv_at hl 2 rfl) ?_
      refine lv_icmp_ge (tgt := 87) hx hb dX5_tellsMarks_35 (by decide) (fun c_ => ?_) (fun c_ => ?_)
      · have hf := xq_pos hf c_
        refine lv_iconst (v := 1) hx hb dX5_tellsMarks_87 (by decide) ?_
        cases hf
        exact xq_zret hx hb hr (by decide +kernel) hlocks hK hP hD hS dX5_tellsMarks_88
      · have hf := xq_neg hf c_
        refine lv_iload hx hb dX5_tellsMarks_38 (lv_at hl 3 rfl) ?_
        refine lv_iconst (v := 3) hx hb dX5_tellsMarks_40 (by decide) ?_
        refine lv_imul hx hb dX5_tellsMarks_41 ?_
        refine lv_istore (lv' := [(5, .int (x4_32 * 3)), (1, .ref a_p1), (2, .int x2_32), (3, .int x3_32), (4, .int x4_32)]) hx hb dX5_tellsMarks_42 hl (by decide) rfl (fun ls hl => ?_)
        refine lv_aload_n hx hb dX5_tellsMarks_44 rfl (lv_at hl 1 rfl) ?_
        refine lv_iload hx hb dX5_tellsMarks_45 (lv_at hl 0 rfl) ?_
        obtain ⟨r_1, h_2, hf⟩ := xq_bd_some hf
        refine xq_callV (As := [.int (x4_32 * 3)]) (rest := []) (ci := 9) (q0 := 0) ⟨hx, hb, hml, hown, hts⟩ (kX9_at l dC dI cI cB cJ cZ cM z ad N a_p1 taI taR ta_bytesF (x4_32 * 3) h_2) (cwV 1 hts gX5_tellsMarks_X9_at rfl rfl rfl (by decide +kernel) ⟨Nat.le_of_ble_eq_true rfl, Nat.le_of_ble_eq_true rfl⟩) hN hK hP hD hS hA [0, 1] (by decide) rfl rfl rfl rfl rfl rfl hl.1 rfl (Nat.le_of_ble_eq_true rfl) dX5_tellsMarks_47 ⟨Nat.zero_le _, Nat.zero_le _⟩ (fun H locs hP hD hS => ?_)
        have hP : va_P (dC, dI) vwCl [(a_p1, .inr (9, oX9 taI taR)), ((taR 0), .inl (cB, 1600, .inl ta_bytesF))] H := hP
        have hD : va_D A [(a_p1, .inr (9, oX9 taI taR)), ((taR 0), .inl (cB, 1600, .inl ta_bytesF))] := hD
        refine W.eq (g2 := F0 m 50 ls [.int r_1]) rfl ?_
        refine lv_bipush (v := 31) hx hb dX5_tellsMarks_50 (by decide) ?_
        refine lv_icmp_ge (tgt := 79) hx hb dX5_tellsMarks_52 (by decide) (fun c_ => ?_) (fun c_ => ?_)
        · have hf := xq_pos hf c_
          refine lv_iconst (v := 0) hx hb dX5_tellsMarks_79 (by decide) ?_
          cases hf
          exact xq_zret hx hb hr (by decide +kernel) hlocks hK hP hD hS dX5_tellsMarks_80
        · have hf := xq_neg hf c_
          refine lv_aload_n hx hb dX5_tellsMarks_55 rfl (lv_at hl 1 rfl) ?_
          refine lv_iload hx hb dX5_tellsMarks_56 (lv_at hl 0 rfl) ?_
          refine lv_iconst (v := 1) hx hb dX5_tellsMarks_58 (by decide) ?_
          refine lv_iadd hx hb dX5_tellsMarks_59 ?_
          obtain ⟨r_3, h_4, hf⟩ := xq_bd_some hf
          refine xq_callV (As := [.int ((x4_32 * 3) + 1)]) (rest := []) (ci := 9) (q0 := 0) ⟨hx, hb, hml, hown, hts⟩ (kX9_at l dC dI cI cB cJ cZ cM z ad N a_p1 taI taR ta_bytesF ((x4_32 * 3) + 1) h_4) (cwV 1 hts gX5_tellsMarks_X9_at rfl rfl rfl (by decide +kernel) ⟨Nat.le_of_ble_eq_true rfl, Nat.le_of_ble_eq_true rfl⟩) hN hK hP hD hS hA [0, 1] (by decide) rfl rfl rfl rfl rfl rfl hl.1 rfl (Nat.le_of_ble_eq_true rfl) dX5_tellsMarks_60 ⟨Nat.zero_le _, Nat.zero_le _⟩ (fun H locs hP hD hS => ?_)
          have hP : va_P (dC, dI) vwCl [(a_p1, .inr (9, oX9 taI taR)), ((taR 0), .inl (cB, 1600, .inl ta_bytesF))] H := hP
          have hD : va_D A [(a_p1, .inr (9, oX9 taI taR)), ((taR 0), .inl (cB, 1600, .inl ta_bytesF))] := hD
          refine W.eq (g2 := F0 m 63 ls [.int r_3]) rfl ?_
          refine lv_iload_n hx hb dX5_tellsMarks_63 rfl (lv_at hl 2 rfl) ?_
          refine lv_icmp_ge (tgt := 79) hx hb dX5_tellsMarks_64 (by decide) (fun c_ => ?_) (fun c_ => ?_)
          · have hf := xq_pos hf c_
            refine lv_iconst (v := 0) hx hb dX5_tellsMarks_79 (by decide) ?_
            cases hf
            exact xq_zret hx hb hr (by decide +kernel) hlocks hK hP hD hS dX5_tellsMarks_80
          · have hf := xq_neg hf c_
            refine lv_aload_n hx hb dX5_tellsMarks_67 rfl (lv_at hl 1 rfl) ?_
            refine lv_iload hx hb dX5_tellsMarks_68 (lv_at hl 0 rfl) ?_
            refine lv_iconst (v := 2) hx hb dX5_tellsMarks_70 (by decide) ?_
            refine lv_iadd hx hb dX5_tellsMarks_71 ?_
            obtain ⟨r_5, h_6, hf⟩ := xq_bd_some hf
            refine xq_callV (As := [.int ((x4_32 * 3) + 2)]) (rest := []) (ci := 9) (q0 := 0) ⟨hx, hb, hml, hown, hts⟩ (kX9_at l dC dI cI cB cJ cZ cM z ad N a_p1 taI taR ta_bytesF ((x4_32 * 3) + 2) h_6) (cwV 1 hts gX5_tellsMarks_X9_at rfl rfl rfl (by decide +kernel) ⟨Nat.le_of_ble_eq_true rfl, Nat.le_of_ble_eq_true rfl⟩) hN hK hP hD hS hA [0, 1] (by decide) rfl rfl rfl rfl rfl rfl hl.1 rfl (Nat.le_of_ble_eq_true rfl) dX5_tellsMarks_72 ⟨Nat.zero_le _, Nat.zero_le _⟩ (fun H locs hP hD hS => ?_)
            have hP : va_P (dC, dI) vwCl [(a_p1, .inr (9, oX9 taI taR)), ((taR 0), .inl (cB, 1600, .inl ta_bytesF))] H := hP
            have hD : va_D A [(a_p1, .inr (9, oX9 taI taR)), ((taR 0), .inl (cB, 1600, .inl ta_bytesF))] := hD
            refine W.eq (g2 := F0 m 75 ls [.int r_5]) rfl ?_
            refine lv_iconst (v := 1) hx hb dX5_tellsMarks_75 (by decide) ?_
            refine lv_icmp_le (tgt := 81) hx hb dX5_tellsMarks_76 (by decide) (fun c_ => ?_) (fun c_ => ?_)
            · have hf := xq_pos hf c_
              refine lv_iinc (v := x4_32 + 1) (lv' := [(4, .int (x4_32 + 1)), (5, .int (x4_32 * 3)), (1, .ref a_p1), (2, .int x2_32), (3, .int x3_32)]) hx hb dX5_tellsMarks_81 hl (k := 4) rfl (congrArg (fun q9 => x4_32 + q9) (by decide : Int32.ofInt 1 = 1)) (by decide) rfl (fun ls hl => ?_)
              refine lv_goto (tgt := 32) hx hb dX5_tellsMarks_84 (by decide) ?_
              exact ih32 x2_32 x3_32 (x4_32 + 1) _ _ _ hf hP hD hS (lv_sub hl [2, 3, 4, 0] rfl)
            · have hf := xq_neg hf c_
              refine lv_iconst (v := 0) hx hb dX5_tellsMarks_79 (by decide) ?_
              cases hf
              exact xq_zret hx hb hr (by decide +kernel) hlocks hK hP hD hS dX5_tellsMarks_80
  unfold fX5_tellsMarks at hf
  refine lv_aload_n hx hb dX5_tellsMarks_0 rfl (lv_at hl 1 rfl) ?_
  refine va_getN (D := (dC, dI)) (ci := 9) (v := .int (taI 1)) (C := RX9) (T := TX9) (N := 2) hx hb hts hinX9 hown hK hP 0 rfl rfl 1 (by decide) hnf1 (fun _ h9 => h9) rfl dX5_tellsMarks_1 ?_
  refine lv_iconst (v := 3) hx hb dX5_tellsMarks_4 (by decide) ?_
  refine xq_idiv hx hb hf dX5_tellsMarks_5 (fun v_1 hf => ?_)
  refine lv_istore_n (lv' := [(3, .int v_1), (0, .ref a_p0), (1, .ref a_p1), (2, .int p2)]) hx hb dX5_tellsMarks_6 rfl hl (by decide) rfl (fun ls hl => ?_)
  refine lv_aload_n hx hb dX5_tellsMarks_7 rfl (lv_at hl 2 rfl) ?_
  refine va_getN (D := (dC, dI)) (ci := 9) (v := .int (taI 1)) (C := RX9) (T := TX9) (N := 2) hx hb hts hinX9 hown hK hP 0 rfl rfl 1 (by decide) hnf1 (fun _ h9 => h9) rfl dX5_tellsMarks_8 ?_
  refine lv_iconst (v := 3) hx hb dX5_tellsMarks_11 (by decide) ?_
  refine xq_irem hx hb hf dX5_tellsMarks_12 (fun v_2 hf => ?_)
  refine lv_if_ne (tgt := 27) hx hb dX5_tellsMarks_13 (by decide) (fun c_ => ?_) (fun c_ => ?_)
  · have hf := xq_neg hf c_
    refine lv_iconst (v := 0) hx hb dX5_tellsMarks_27 (by decide) ?_
    cases hf
    exact xq_zret hx hb hr (by decide +kernel) hlocks hK hP hD hS dX5_tellsMarks_28
  · have hf := xq_pos hf c_
    refine lv_iload_n hx hb dX5_tellsMarks_16 rfl (lv_at hl 0 rfl) ?_
    refine lv_iconst (v := 1) hx hb dX5_tellsMarks_17 (by decide) ?_
    refine lv_icmp_lt (tgt := 27) hx hb dX5_tellsMarks_18 (by decide) (fun c_ => ?_) (fun c_ => ?_)
    · have hf := xq_pos hf c_
      refine lv_iconst (v := 0) hx hb dX5_tellsMarks_27 (by decide) ?_
      cases hf
      exact xq_zret hx hb hr (by decide +kernel) hlocks hK hP hD hS dX5_tellsMarks_28
    · have hf := xq_neg hf c_
      refine lv_iload_n hx hb dX5_tellsMarks_21 rfl (lv_at hl 0 rfl) ?_
      refine lv_bipush (v := 16) hx hb dX5_tellsMarks_22 (by decide) ?_
      refine lv_icmp_le (tgt := 29) hx hb dX5_tellsMarks_24 (by decide) (fun c_ => ?_) (fun c_ => ?_)
      · have hf := xq_pos hf c_
        refine lv_iconst (v := 0) hx hb dX5_tellsMarks_29 (by decide) ?_
        refine lv_istore (lv' := [(4, .int 0), (3, .int v_1), (0, .ref a_p0), (1, .ref a_p1), (2, .int p2)]) hx hb dX5_tellsMarks_30 hl (by decide) rfl (fun ls hl => ?_)
        exact l32 N p2 v_1 0 _ _ _ hf hP hD hS (lv_sub hl [3, 4, 1, 0] rfl)
      · have hf := xq_neg hf c_
        refine lv_iconst (v := 0) hx hb dX5_tellsMarks_27 (by decide) ?_
        cases hf
        exact xq_zret hx hb hr (by decide +kernel) hlocks hK hP hD hS dX5_tellsMarks_28
set_option maxRecDepth 20000 in
theorem ggX5_take_X9_at : GoodIn wsX5_take wsX9_at := goodIn_r _ [13, 14, 15, 16, 17] rfl (by decide +kernel)
set_option maxRecDepth 20000 in
theorem gX5_take_X9_at : GoodIn wsX5_take (wsV RX5 30 RX9 yX9_at wsX9_at) := goodIn_app (goodIn_of _ (by decide +kernel)) ggX5_take_X9_at
def dsX5_take_0 : List (Nat × Instr × Nat) := [(0, (.aload_n 0, 1)), (1, (.bipush 16, 2)), (3, (.aload_n 1, 1)), (4, (.getfield 25, 3)), (7, (.iconst 3, 1)), (8, (.idiv, 1)), (9, (.invokestatic 34, 3)), (12, (.putfield 9, 3)), (15, (.iconst 0, 1)), (16, (.istore_n 2, 1)), (17, (.iload_n 2, 1)), (18, (.aload_n 0, 1)), (19, (.getfield 9, 3)), (22, (.if_icmp .ge 52, 3)), (25, (.aload_n 0, 1)), (26, (.getfield 15, 3)), (29, (.iload_n 2, 1)), (30, (.aload_n 1, 1)), (31, (.iload_n 2, 1)), (32, (.iconst 3, 1)), (33, (.imul, 1)), (34, (.invokevirtual 30, 3)), (37, (.iastore, 1)), (38, (.aload_n 0, 1)), (39, (.getfield 19, 3)), (42, (.iload_n 2, 1)), (43, (.aload_n 1, 1)), (44, (.iload_n 2, 1)), (45, (.iconst 3, 1)), (46, (.imul, 1)), (47, (.iconst 1, 1)), (48, (.iadd, 1)), (49, (.invokevirtual 30, 3)), (52, (.iastore, 1)), (53, (.aload_n 0, 1)), (54, (.getfield 22, 3)), (57, (.iload_n 2, 1)), (58, (.aload_n 1, 1)), (59, (.iload_n 2, 1)), (60, (.iconst 3, 1)), (61, (.imul, 1)), (62, (.iconst 2, 1)), (63, (.iadd, 1)), (64, (.invokevirtual 30, 3)), (67, (.iastore, 1)), (68, (.iinc 2 1, 3)), (71, (.goto (-54), 3)), (74, (.return_, 1))]
theorem dsX5_take_0_ok : (dsX5_take_0.all fun q => decide (decode cX5_take q.1 = .ok q.2)) = true := by decide +kernel
theorem dX5_take_0 : decode cX5_take 0 = .ok (.aload_n 0, 1) := of_decide_eq_true (List.all_eq_true.mp dsX5_take_0_ok (0, (.aload_n 0, 1)) (List.mem_of_getElem? (i := 0) rfl))
theorem dX5_take_1 : decode cX5_take 1 = .ok (.bipush 16, 2) := of_decide_eq_true (List.all_eq_true.mp dsX5_take_0_ok (1, (.bipush 16, 2)) (List.mem_of_getElem? (i := 1) rfl))
theorem dX5_take_3 : decode cX5_take 3 = .ok (.aload_n 1, 1) := of_decide_eq_true (List.all_eq_true.mp dsX5_take_0_ok (3, (.aload_n 1, 1)) (List.mem_of_getElem? (i := 2) rfl))
theorem dX5_take_4 : decode cX5_take 4 = .ok (.getfield 25, 3) := of_decide_eq_true (List.all_eq_true.mp dsX5_take_0_ok (4, (.getfield 25, 3)) (List.mem_of_getElem? (i := 3) rfl))
theorem dX5_take_7 : decode cX5_take 7 = .ok (.iconst 3, 1) := of_decide_eq_true (List.all_eq_true.mp dsX5_take_0_ok (7, (.iconst 3, 1)) (List.mem_of_getElem? (i := 4) rfl))
theorem dX5_take_8 : decode cX5_take 8 = .ok (.idiv, 1) := of_decide_eq_true (List.all_eq_true.mp dsX5_take_0_ok (8, (.idiv, 1)) (List.mem_of_getElem? (i := 5) rfl))
theorem dX5_take_9 : decode cX5_take 9 = .ok (.invokestatic 34, 3) := of_decide_eq_true (List.all_eq_true.mp dsX5_take_0_ok (9, (.invokestatic 34, 3)) (List.mem_of_getElem? (i := 6) rfl))
theorem dX5_take_12 : decode cX5_take 12 = .ok (.putfield 9, 3) := of_decide_eq_true (List.all_eq_true.mp dsX5_take_0_ok (12, (.putfield 9, 3)) (List.mem_of_getElem? (i := 7) rfl))
theorem dX5_take_15 : decode cX5_take 15 = .ok (.iconst 0, 1) := of_decide_eq_true (List.all_eq_true.mp dsX5_take_0_ok (15, (.iconst 0, 1)) (List.mem_of_getElem? (i := 8) rfl))
theorem dX5_take_16 : decode cX5_take 16 = .ok (.istore_n 2, 1) := of_decide_eq_true (List.all_eq_true.mp dsX5_take_0_ok (16, (.istore_n 2, 1)) (List.mem_of_getElem? (i := 9) rfl))
theorem dX5_take_17 : decode cX5_take 17 = .ok (.iload_n 2, 1) := of_decide_eq_true (List.all_eq_true.mp dsX5_take_0_ok (17, (.iload_n 2, 1)) (List.mem_of_getElem? (i := 10) rfl))
theorem dX5_take_18 : decode cX5_take 18 = .ok (.aload_n 0, 1) := of_decide_eq_true (List.all_eq_true.mp dsX5_take_0_ok (18, (.aload_n 0, 1)) (List.mem_of_getElem? (i := 11) rfl))
theorem dX5_take_19 : decode cX5_take 19 = .ok (.getfield 9, 3) := of_decide_eq_true (List.all_eq_true.mp dsX5_take_0_ok (19, (.getfield 9, 3)) (List.mem_of_getElem? (i := 12) rfl))
theorem dX5_take_22 : decode cX5_take 22 = .ok (.if_icmp .ge 52, 3) := of_decide_eq_true (List.all_eq_true.mp dsX5_take_0_ok (22, (.if_icmp .ge 52, 3)) (List.mem_of_getElem? (i := 13) rfl))
theorem dX5_take_25 : decode cX5_take 25 = .ok (.aload_n 0, 1) := of_decide_eq_true (List.all_eq_true.mp dsX5_take_0_ok (25, (.aload_n 0, 1)) (List.mem_of_getElem? (i := 14) rfl))
theorem dX5_take_26 : decode cX5_take 26 = .ok (.getfield 15, 3) := of_decide_eq_true (List.all_eq_true.mp dsX5_take_0_ok (26, (.getfield 15, 3)) (List.mem_of_getElem? (i := 15) rfl))
theorem dX5_take_29 : decode cX5_take 29 = .ok (.iload_n 2, 1) := of_decide_eq_true (List.all_eq_true.mp dsX5_take_0_ok (29, (.iload_n 2, 1)) (List.mem_of_getElem? (i := 16) rfl))
theorem dX5_take_30 : decode cX5_take 30 = .ok (.aload_n 1, 1) := of_decide_eq_true (List.all_eq_true.mp dsX5_take_0_ok (30, (.aload_n 1, 1)) (List.mem_of_getElem? (i := 17) rfl))
theorem dX5_take_31 : decode cX5_take 31 = .ok (.iload_n 2, 1) := of_decide_eq_true (List.all_eq_true.mp dsX5_take_0_ok (31, (.iload_n 2, 1)) (List.mem_of_getElem? (i := 18) rfl))
theorem dX5_take_32 : decode cX5_take 32 = .ok (.iconst 3, 1) := of_decide_eq_true (List.all_eq_true.mp dsX5_take_0_ok (32, (.iconst 3, 1)) (List.mem_of_getElem? (i := 19) rfl))
theorem dX5_take_33 : decode cX5_take 33 = .ok (.imul, 1) := of_decide_eq_true (List.all_eq_true.mp dsX5_take_0_ok (33, (.imul, 1)) (List.mem_of_getElem? (i := 20) rfl))
theorem dX5_take_34 : decode cX5_take 34 = .ok (.invokevirtual 30, 3) := of_decide_eq_true (List.all_eq_true.mp dsX5_take_0_ok (34, (.invokevirtual 30, 3)) (List.mem_of_getElem? (i := 21) rfl))
theorem dX5_take_37 : decode cX5_take 37 = .ok (.iastore, 1) := of_decide_eq_true (List.all_eq_true.mp dsX5_take_0_ok (37, (.iastore, 1)) (List.mem_of_getElem? (i := 22) rfl))
theorem dX5_take_38 : decode cX5_take 38 = .ok (.aload_n 0, 1) := of_decide_eq_true (List.all_eq_true.mp dsX5_take_0_ok (38, (.aload_n 0, 1)) (List.mem_of_getElem? (i := 23) rfl))
theorem dX5_take_39 : decode cX5_take 39 = .ok (.getfield 19, 3) := of_decide_eq_true (List.all_eq_true.mp dsX5_take_0_ok (39, (.getfield 19, 3)) (List.mem_of_getElem? (i := 24) rfl))
theorem dX5_take_42 : decode cX5_take 42 = .ok (.iload_n 2, 1) := of_decide_eq_true (List.all_eq_true.mp dsX5_take_0_ok (42, (.iload_n 2, 1)) (List.mem_of_getElem? (i := 25) rfl))
theorem dX5_take_43 : decode cX5_take 43 = .ok (.aload_n 1, 1) := of_decide_eq_true (List.all_eq_true.mp dsX5_take_0_ok (43, (.aload_n 1, 1)) (List.mem_of_getElem? (i := 26) rfl))
theorem dX5_take_44 : decode cX5_take 44 = .ok (.iload_n 2, 1) := of_decide_eq_true (List.all_eq_true.mp dsX5_take_0_ok (44, (.iload_n 2, 1)) (List.mem_of_getElem? (i := 27) rfl))
theorem dX5_take_45 : decode cX5_take 45 = .ok (.iconst 3, 1) := of_decide_eq_true (List.all_eq_true.mp dsX5_take_0_ok (45, (.iconst 3, 1)) (List.mem_of_getElem? (i := 28) rfl))
theorem dX5_take_46 : decode cX5_take 46 = .ok (.imul, 1) := of_decide_eq_true (List.all_eq_true.mp dsX5_take_0_ok (46, (.imul, 1)) (List.mem_of_getElem? (i := 29) rfl))
theorem dX5_take_47 : decode cX5_take 47 = .ok (.iconst 1, 1) := of_decide_eq_true (List.all_eq_true.mp dsX5_take_0_ok (47, (.iconst 1, 1)) (List.mem_of_getElem? (i := 30) rfl))
theorem dX5_take_48 : decode cX5_take 48 = .ok (.iadd, 1) := of_decide_eq_true (List.all_eq_true.mp dsX5_take_0_ok (48, (.iadd, 1)) (List.mem_of_getElem? (i := 31) rfl))
theorem dX5_take_49 : decode cX5_take 49 = .ok (.invokevirtual 30, 3) := of_decide_eq_true (List.all_eq_true.mp dsX5_take_0_ok (49, (.invokevirtual 30, 3)) (List.mem_of_getElem? (i := 32) rfl))
theorem dX5_take_52 : decode cX5_take 52 = .ok (.iastore, 1) := of_decide_eq_true (List.all_eq_true.mp dsX5_take_0_ok (52, (.iastore, 1)) (List.mem_of_getElem? (i := 33) rfl))
theorem dX5_take_53 : decode cX5_take 53 = .ok (.aload_n 0, 1) := of_decide_eq_true (List.all_eq_true.mp dsX5_take_0_ok (53, (.aload_n 0, 1)) (List.mem_of_getElem? (i := 34) rfl))
theorem dX5_take_54 : decode cX5_take 54 = .ok (.getfield 22, 3) := of_decide_eq_true (List.all_eq_true.mp dsX5_take_0_ok (54, (.getfield 22, 3)) (List.mem_of_getElem? (i := 35) rfl))
theorem dX5_take_57 : decode cX5_take 57 = .ok (.iload_n 2, 1) := of_decide_eq_true (List.all_eq_true.mp dsX5_take_0_ok (57, (.iload_n 2, 1)) (List.mem_of_getElem? (i := 36) rfl))
theorem dX5_take_58 : decode cX5_take 58 = .ok (.aload_n 1, 1) := of_decide_eq_true (List.all_eq_true.mp dsX5_take_0_ok (58, (.aload_n 1, 1)) (List.mem_of_getElem? (i := 37) rfl))
theorem dX5_take_59 : decode cX5_take 59 = .ok (.iload_n 2, 1) := of_decide_eq_true (List.all_eq_true.mp dsX5_take_0_ok (59, (.iload_n 2, 1)) (List.mem_of_getElem? (i := 38) rfl))
theorem dX5_take_60 : decode cX5_take 60 = .ok (.iconst 3, 1) := of_decide_eq_true (List.all_eq_true.mp dsX5_take_0_ok (60, (.iconst 3, 1)) (List.mem_of_getElem? (i := 39) rfl))
theorem dX5_take_61 : decode cX5_take 61 = .ok (.imul, 1) := of_decide_eq_true (List.all_eq_true.mp dsX5_take_0_ok (61, (.imul, 1)) (List.mem_of_getElem? (i := 40) rfl))
theorem dX5_take_62 : decode cX5_take 62 = .ok (.iconst 2, 1) := of_decide_eq_true (List.all_eq_true.mp dsX5_take_0_ok (62, (.iconst 2, 1)) (List.mem_of_getElem? (i := 41) rfl))
theorem dX5_take_63 : decode cX5_take 63 = .ok (.iadd, 1) := of_decide_eq_true (List.all_eq_true.mp dsX5_take_0_ok (63, (.iadd, 1)) (List.mem_of_getElem? (i := 42) rfl))
theorem dX5_take_64 : decode cX5_take 64 = .ok (.invokevirtual 30, 3) := of_decide_eq_true (List.all_eq_true.mp dsX5_take_0_ok (64, (.invokevirtual 30, 3)) (List.mem_of_getElem? (i := 43) rfl))
theorem dX5_take_67 : decode cX5_take 67 = .ok (.iastore, 1) := of_decide_eq_true (List.all_eq_true.mp dsX5_take_0_ok (67, (.iastore, 1)) (List.mem_of_getElem? (i := 44) rfl))
theorem dX5_take_68 : decode cX5_take 68 = .ok (.iinc 2 1, 3) := of_decide_eq_true (List.all_eq_true.mp dsX5_take_0_ok (68, (.iinc 2 1, 3)) (List.mem_of_getElem? (i := 45) rfl))
theorem dX5_take_71 : decode cX5_take 71 = .ok (.goto (-54), 3) := of_decide_eq_true (List.all_eq_true.mp dsX5_take_0_ok (71, (.goto (-54), 3)) (List.mem_of_getElem? (i := 46) rfl))
theorem dX5_take_74 : decode cX5_take 74 = .ok (.return_, 1) := of_decide_eq_true (List.all_eq_true.mp dsX5_take_0_ok (74, (.return_, 1)) (List.mem_of_getElem? (i := 47) rfl))
def fX5_take_l17 (N : Nat) (taI : Nat → Int32) (ta_bytesF : Nat → Int32)  (k17 : ((Nat → Int32) × (Nat → Int32) × (Nat → Int32) × (Nat → Int32) × Int32) → Option ((Nat → Int32) × (Nat → Int32) × (Nat → Int32) × (Nat → Int32))) : ((Nat → Int32) × (Nat → Int32) × (Nat → Int32) × (Nat → Int32) × Int32) → Option ((Nat → Int32) × (Nat → Int32) × (Nat → Int32) × (Nat → Int32)) :=
  fun (mkI_17, mk_nightsAheadF_17, mk_earsF_17, mk_hearingF_17, x2_17) => (if (mkI_17 0) ≤ x2_17 then some ((mkI_17, mk_nightsAheadF_17, mk_earsF_17, mk_hearingF_17)) else (xq_bd (fX9_at N taI ta_bytesF (x2_17 * 3)) fun r_1 => (xq_bd (xq_ast 16 mk_nightsAheadF_17 x2_17 r_1) fun g_3 => (xq_bd (fX9_at N taI ta_bytesF ((x2_17 * 3) + 1)) fun r_4 => (xq_bd (xq_ast 16 mk_earsF_17 x2_17 r_4) fun g_6 => (xq_bd (fX9_at N taI ta_bytesF ((x2_17 * 3) + 2)) fun r_7 => (xq_bd (xq_ast 16 mk_hearingF_17 x2_17 r_7) fun g_9 => k17 (mkI_17, g_3, g_6, g_9, x2_17 + 1))))))))
def fX5_take (N : Nat) (taI : Nat → Int32) (mkI : Nat → Int32) (ta_bytesF : Nat → Int32) (mk_nightsAheadF : Nat → Int32) (mk_earsF : Nat → Int32) (mk_hearingF : Nat → Int32)   : Option ((Nat → Int32) × (Nat → Int32) × (Nat → Int32) × (Nat → Int32)) :=
  (xq_bd (xq_dv (taI 1) 3) fun v_1 => xq_loop (fX5_take_l17 N taI ta_bytesF) N ((va_up mkI 0 (xq_min 16 v_1)), mk_nightsAheadF, mk_earsF, mk_hearingF, 0))
set_option maxHeartbeats 4000000 in
set_option maxRecDepth 100000 in
theorem kX5_take (l : Launch) (dC : Nat → ClassId) (dI : Nat → Nat → Nat) (cI cB cJ cZ cM : ClassId) (z : Nat) (ad : Nat → Nat) (N : Nat) (a_p1 : Nat) (taI : Nat → Int32) (taR : Nat → Nat) (a_p0 : Nat) (mkI : Nat → Int32) (mkR : Nat → Nat) (ta_bytesF : Nat → Int32) (mk_nightsAheadF : Nat → Int32) (mk_earsF : Nat → Int32) (mk_hearingF : Nat → Int32) {r0 : Nat → Int32} {r1 : Nat → Int32} {r2 : Nat → Int32} {r3 : Nat → Int32} (hf : fX5_take N taI mkI ta_bytesF mk_nightsAheadF mk_earsF mk_hearingF = some (r0, r1, r2, r3)) : xq_Ct l yX5_take wsX5_take { frames := 1, cells := 0, slots := 0, locals := 24 } (dC, dI) vwCl (xq_tys cI cB cJ cZ cM) z ad [.ref a_p0, .ref a_p1] [(a_p1, .inr (9, oX9 taI taR)), (a_p0, .inr (5, oX5 mkI mkR)), ((taR 0), .inl (cB, 1600, .inl ta_bytesF)), ((mkR 1), .inl (cI, 16, .inl mk_nightsAheadF)), ((mkR 2), .inl (cI, 16, .inl mk_earsF)), ((mkR 3), .inl (cI, 16, .inl mk_hearingF))] [(a_p1, .inr (9, oX9 taI taR)), (a_p0, .inr (5, oX5 r0 mkR)), ((taR 0), .inl (cB, 1600, .inl ta_bytesF)), ((mkR 1), .inl (cI, 16, .inl r1)), ((mkR 2), .inl (cI, 16, .inl r2)), ((mkR 3), .inl (cI, 16, .inl r3))] none := by
  intro sz
  refine Met.ofW (cc := cX5_take) (maxL := 3) (ret := none) (by decide) rfl ?_
  intro p e s m args below meth c s₁ B hml hv
  obtain ⟨rfl, hsz, hP, hK, hD0, hE, hz⟩ := hv
  have hx := B.exec
  have hb := B.bytes
  have hr := B.returns
  have hts := atoms_spec (ws := wsX5_take) B.pre
  have hown : s.vm.findClass RX5 = some m.cls := findClass_of_methodNamed B.named
  have hlocks := B.notSynchronized
  subst hsz
  have hD := hD0.self (sz := s.heap.size)
  have hN := xq_Env.of hE hz hD0
  generalize hAe : va_A [(a_p1, .inr (9, oX9 taI taR)), (a_p0, .inr (5, oX5 mkI mkR)), ((taR 0), .inl (cB, 1600, .inl ta_bytesF)), ((mkR 1), .inl (cI, 16, .inl mk_nightsAheadF)), ((mkR 2), .inl (cI, 16, .inl mk_earsF)), ((mkR 3), .inl (cI, 16, .inl mk_hearingF))] s.heap.size = A at hD hN ⊢
  have hA : ∀ q : Nat, s.heap.size ≤ q → A q := fun q h => by rw [← hAe]; exact Or.inr h
  clear hAe hD0
  have hS : va_S A s.heap s.heap [] := va_S.rf
  have hl := lv_entry ([.ref a_p0, .ref a_p1]) (n := 3) (Nat.le_of_ble_eq_true rfl)
  rw [lg_entry_eq]
  generalize (lg_sl ([.ref a_p0, .ref a_p1]) ++ List.replicate (3 - (lg_sl ([.ref a_p0, .ref a_p1])).length) Slot.unset).toArray = ls at hl ⊢
  have hl : lv_has ls 3 [(0, .ref a_p0), (1, .ref a_p1)] := hl
  have hnf1 := va_Nw.use (A := [.ref a_p0, .ref a_p1].toArray) rfl (hN.1.1.1 ("DistantVoice$Marks", 25, "DistantVoice$Tape", "length", "I", "DistantVoice") (List.mem_of_getElem? (i := 1) rfl))
  have hinX9 : ∀ w ∈ wsX90, w ∈ wsX5_take := fun w h => List.mem_cons_of_mem _ (List.mem_append_left _ (List.mem_append_right _ h))
  have hw2 := hts (.methodLink RX5 34 Lib.Math.min.name) (by decide +kernel)
  have hw3 := hts (.static Lib.Math.min.name) (by decide +kernel)
  have hw4 := hts (.initialized "java/lang/Math") (by decide +kernel)
  have hw5 := hts (.code Lib.Math.min.name Lib.Math.min.code 2 (some .int)) (by decide +kernel)
  have hw6 := hts (.fieldLink RX5 9 "DistantVoice$Marks" "count" "I") (by decide +kernel)
  have hinX5 : ∀ w ∈ wsX50, w ∈ wsX5_take := fun w h => List.mem_cons_of_mem _ (List.mem_append_right _ h)
  have hw8 := hts (.fieldLink RX5 15 "DistantVoice$Marks" "nightsAhead" "[I") (by decide +kernel)
  have hw9 := hts (.fieldLink RX5 19 "DistantVoice$Marks" "ears" "[I") (by decide +kernel)
  have hw10 := hts (.fieldLink RX5 22 "DistantVoice$Marks" "hearing" "[I") (by decide +kernel)
  have l17 : ∀ n17 : Nat, ∀ (mkI_17 : Nat → Int32) (mk_nightsAheadF_17 : Nat → Int32) (mk_earsF_17 : Nat → Int32) (mk_hearingF_17 : Nat → Int32) (x2_17 : Int32) (ls : Array Slot) (H : Heap) (locs : List Loc), xq_loop (fX5_take_l17 N taI ta_bytesF) n17 (mkI_17, mk_nightsAheadF_17, mk_earsF_17, mk_hearingF_17, x2_17) = some (r0, r1, r2, r3) → va_P (dC, dI) vwCl [(a_p1, .inr (9, oX9 taI taR)), (a_p0, .inr (5, oX5 mkI_17 mkR)), ((taR 0), .inl (cB, 1600, .inl ta_bytesF)), ((mkR 1), .inl (cI, 16, .inl mk_nightsAheadF_17)), ((mkR 2), .inl (cI, 16, .inl mk_earsF_17)), ((mkR 3), .inl (cI, 16, .inl mk_hearingF_17))] H → va_D A [(a_p1, .inr (9, oX9 taI taR)), (a_p0, .inr (5, oX5 mkI_17 mkR)), ((taR 0), .inl (cB, 1600, .inl ta_bytesF)), ((mkR 1), .inl (cI, 16, .inl mk_nightsAheadF_17)), ((mkR 2), .inl (cI, 16, .inl mk_earsF_17)), ((mkR 3), .inl (cI, 16, .inl mk_hearingF_17))] → va_S A s.heap H locs → lv_has ls 3 [(0, .ref a_p0), (1, .ref a_p1), (2, .int x2_17)] → W p l e (headSpec wsX5_take { frames := 1, cells := 0, slots := 0, locals := 24 }).room s m [.ref a_p0, .ref a_p1].toArray below meth c H locs 0 0 (MQ below (xq_Q (dC, dI) vwCl (xq_tys cI cB cJ cZ cM) A [(a_p1, .inr (9, oX9 taI taR)), (a_p0, .inr (5, oX5 r0 mkR)), ((taR 0), .inl (cB, 1600, .inl ta_bytesF)), ((mkR 1), .inl (cI, 16, .inl r1)), ((mkR 2), .inl (cI, 16, .inl r2)), ((mkR 3), .inl (cI, 16, .inl r3))] none) [.ref a_p0, .ref a_p1].toArray s 0 0 A) (F0 m 17 ls []) := by
    intro n17
    induction n17 with
    | zero => intro mkI_17 mk_nightsAheadF_17 mk_earsF_17 mk_hearingF_17 x2_17 ls H locs hf; cases (show none = some (r0, r1, r2, r3) from hf)
    | succ n17 ih17 =>
      intro mkI_17 mk_nightsAheadF_17 mk_earsF_17 mk_hearingF_17 x2_17 ls H locs hf hP hD hS hl
      have hf : fX5_take_l17 N taI ta_bytesF (xq_loop (fX5_take_l17 N taI ta_bytesF) n17) (mkI_17, mk_nightsAheadF_17, mk_earsF_17, mk_hearingF_17, x2_17) = some (r0, r1, r2, r3) := hf
      unfold fX5_take_l17 at hf
      refine lv_iload_n hx hb dX5_take_17 rfl (lv_at hl 2 rfl) ?_
      refine lv_aload_n hx hb dX5_take_18 rfl (lv_at hl 0 rfl) ?_
      refine va_get (D := (dC, dI)) (ci := 5) (v := .int (mkI_17 0)) (C := RX5) (T := TX5) (N := 4) hx hb hts hinX5 hown hK hP 1 rfl rfl 0 (by decide) hw6 (fun _ h9 => h9) rfl dX5_take_19 ?_
      refine lv_icmp_ge (tgt := 74) hx hb dX5_take_22 (by decide) (fun c_ => ?_) (fun c_ => ?_)
      · have hf := xq_pos hf c_
        cases hf
        exact xq_vret hx hb hr hlocks hK hP hD hS dX5_take_74
      · have hf := xq_neg hf c_
        refine lv_aload_n hx hb dX5_take_25 rfl (lv_at hl 0 rfl) ?_
        refine va_get (D := (dC, dI)) (ci := 5) (v := .ref ((mkR 1))) (C := RX5) (T := TX5) (N := 4) hx hb hts hinX5 hown hK hP 1 rfl rfl 1 (by decide) hw8 (fun _ h9 => h9) rfl dX5_take_26 ?_
        refine lv_iload_n hx hb dX5_take_29 rfl (lv_at hl 2 rfl) ?_
        refine lv_aload_n hx hb dX5_take_30 rfl (lv_at hl 1 rfl) ?_
        refine lv_iload_n hx hb dX5_take_31 rfl (lv_at hl 2 rfl) ?_
        refine lv_iconst (v := 3) hx hb dX5_take_32 (by decide) ?_
        refine lv_imul hx hb dX5_take_33 ?_
        obtain ⟨r_1, h_2, hf⟩ := xq_bd_some hf
        refine xq_callV (As := [.int (x2_17 * 3)]) (rest := [.int x2_17, .ref ((mkR 1))]) (ci := 9) (q0 := 0) ⟨hx, hb, hml, hown, hts⟩ (kX9_at l dC dI cI cB cJ cZ cM z ad N a_p1 taI taR ta_bytesF (x2_17 * 3) h_2) (cwV 1 hts gX5_take_X9_at rfl rfl rfl (by decide +kernel) ⟨Nat.le_of_ble_eq_true rfl, Nat.le_of_ble_eq_true rfl⟩) hN hK hP hD hS hA [0, 2] (by decide) rfl rfl rfl rfl rfl rfl hl.1 rfl (Nat.le_of_ble_eq_true rfl) dX5_take_34 ⟨Nat.zero_le _, Nat.zero_le _⟩ (fun H locs hP hD hS => ?_)
        have hP : va_P (dC, dI) vwCl [(a_p1, .inr (9, oX9 taI taR)), (a_p0, .inr (5, oX5 mkI_17 mkR)), ((taR 0), .inl (cB, 1600, .inl ta_bytesF)), ((mkR 1), .inl (cI, 16, .inl mk_nightsAheadF_17)), ((mkR 2), .inl (cI, 16, .inl mk_earsF_17)), ((mkR 3), .inl (cI, 16, .inl mk_hearingF_17))] H := hP
        have hD : va_D A [(a_p1, .inr (9, oX9 taI taR)), (a_p0, .inr (5, oX5 mkI_17 mkR)), ((taR 0), .inl (cB, 1600, .inl ta_bytesF)), ((mkR 1), .inl (cI, 16, .inl mk_nightsAheadF_17)), ((mkR 2), .inl (cI, 16, .inl mk_earsF_17)), ((mkR 3), .inl (cI, 16, .inl mk_hearingF_17))] := hD
        refine W.eq (g2 := F0 m 37 ls [.int r_1, .int x2_17, .ref ((mkR 1))]) rfl ?_
        refine xq_iast hx hb hK hP hD hS 3 0 rfl rfl hf dX5_take_37 (fun g_3 H locs hf hP hD hS => ?_)
        have hP : va_P (dC, dI) vwCl [(a_p1, .inr (9, oX9 taI taR)), (a_p0, .inr (5, oX5 mkI_17 mkR)), ((taR 0), .inl (cB, 1600, .inl ta_bytesF)), ((mkR 1), .inl (cI, 16, .inl g_3)), ((mkR 2), .inl (cI, 16, .inl mk_earsF_17)), ((mkR 3), .inl (cI, 16, .inl mk_hearingF_17))] H := hP
        have hD : va_D A [(a_p1, .inr (9, oX9 taI taR)), (a_p0, .inr (5, oX5 mkI_17 mkR)), ((taR 0), .inl (cB, 1600, .inl ta_bytesF)), ((mkR 1), .inl (cI, 16, .inl g_3)), ((mkR 2), .inl (cI, 16, .inl mk_earsF_17)), ((mkR 3), .inl (cI, 16, .inl mk_hearingF_17))] := hD
        refine lv_aload_n hx hb dX5_take_38 rfl (lv_at hl 0 rfl) ?_
        refine va_get (D := (dC, dI)) (ci := 5) (v := .ref ((mkR 2))) (C := RX5) (T := TX5) (N := 4) hx hb hts hinX5 hown hK hP 1 rfl rfl 2 (by decide) hw9 (fun _ h9 => h9) rfl dX5_take_39 ?_
        refine lv_iload_n hx hb dX5_take_42 rfl (lv_at hl 2 rfl) ?_
        refine lv_aload_n hx hb dX5_take_43 rfl (lv_at hl 1 rfl) ?_
        refine lv_iload_n hx hb dX5_take_44 rfl (lv_at hl 2 rfl) ?_
        refine lv_iconst (v := 3) hx hb dX5_take_45 (by decide) ?_
        refine lv_imul hx hb dX5_take_46 ?_
        refine lv_iconst (v := 1) hx hb dX5_take_47 (by decide) ?_
        refine lv_iadd hx hb dX5_take_48 ?_
        obtain ⟨r_4, h_5, hf⟩ := xq_bd_some hf
        refine xq_callV (As := [.int ((x2_17 * 3) + 1)]) (rest := [.int x2_17, .ref ((mkR 2))]) (ci := 9) (q0 := 0) ⟨hx, hb, hml, hown, hts⟩ (kX9_at l dC dI cI cB cJ cZ cM z ad N a_p1 taI taR ta_bytesF ((x2_17 * 3) + 1) h_5) (cwV 1 hts gX5_take_X9_at rfl rfl rfl (by decide +kernel) ⟨Nat.le_of_ble_eq_true rfl, Nat.le_of_ble_eq_true rfl⟩) hN hK hP hD hS hA [0, 2] (by decide) rfl rfl rfl rfl rfl rfl hl.1 rfl (Nat.le_of_ble_eq_true rfl) dX5_take_49 ⟨Nat.zero_le _, Nat.zero_le _⟩ (fun H locs hP hD hS => ?_)
        have hP : va_P (dC, dI) vwCl [(a_p1, .inr (9, oX9 taI taR)), (a_p0, .inr (5, oX5 mkI_17 mkR)), ((taR 0), .inl (cB, 1600, .inl ta_bytesF)), ((mkR 1), .inl (cI, 16, .inl g_3)), ((mkR 2), .inl (cI, 16, .inl mk_earsF_17)), ((mkR 3), .inl (cI, 16, .inl mk_hearingF_17))] H := hP
        have hD : va_D A [(a_p1, .inr (9, oX9 taI taR)), (a_p0, .inr (5, oX5 mkI_17 mkR)), ((taR 0), .inl (cB, 1600, .inl ta_bytesF)), ((mkR 1), .inl (cI, 16, .inl g_3)), ((mkR 2), .inl (cI, 16, .inl mk_earsF_17)), ((mkR 3), .inl (cI, 16, .inl mk_hearingF_17))] := hD
        refine W.eq (g2 := F0 m 52 ls [.int r_4, .int x2_17, .ref ((mkR 2))]) rfl ?_
        refine xq_iast hx hb hK hP hD hS 4 0 rfl rfl hf dX5_take_52 (fun g_6 H locs hf hP hD hS => ?_)
        have hP : va_P (dC, dI) vwCl [(a_p1, .inr (9, oX9 taI taR)), (a_p0, .inr (5, oX5 mkI_17 mkR)), ((taR 0), .inl (cB, 1600, .inl ta_bytesF)), ((mkR 1), .inl (cI, 16, .inl g_3)), ((mkR 2), .inl (cI, 16, .inl g_6)), ((mkR 3), .inl (cI, 16, .inl mk_hearingF_17))] H := hP
        have hD : va_D A [(a_p1, .inr (9, oX9 taI taR)), (a_p0, .inr (5, oX5 mkI_17 mkR)), ((taR 0), .inl (cB, 1600, .inl ta_bytesF)), ((mkR 1), .inl (cI, 16, .inl g_3)), ((mkR 2), .inl (cI, 16, .inl g_6)), ((mkR 3), .inl (cI, 16, .inl mk_hearingF_17))] := hD
        refine lv_aload_n hx hb dX5_take_53 rfl (lv_at hl 0 rfl) ?_
        refine va_get (D := (dC, dI)) (ci := 5) (v := .ref ((mkR 3))) (C := RX5) (T := TX5) (N := 4) hx hb hts hinX5 hown hK hP 1 rfl rfl 3 (by decide) hw10 (fun _ h9 => h9) rfl dX5_take_54 ?_
        refine lv_iload_n hx hb dX5_take_57 rfl (lv_at hl 2 rfl) ?_
        refine lv_aload_n hx hb dX5_take_58 rfl (lv_at hl 1 rfl) ?_
        refine lv_iload_n hx hb dX5_take_59 rfl (lv_at hl 2 rfl) ?_
        refine lv_iconst (v := 3) hx hb dX5_take_60 (by decide) ?_
        refine lv_imul hx hb dX5_take_61 ?_
        refine lv_iconst (v := 2) hx hb dX5_take_62 (by decide) ?_
        refine lv_iadd hx hb dX5_take_63 ?_
        obtain ⟨r_7, h_8, hf⟩ := xq_bd_some hf
        refine xq_callV (As := [.int ((x2_17 * 3) + 2)]) (rest := [.int x2_17, .ref ((mkR 3))]) (ci := 9) (q0 := 0) ⟨hx, hb, hml, hown, hts⟩ (kX9_at l dC dI cI cB cJ cZ cM z ad N a_p1 taI taR ta_bytesF ((x2_17 * 3) + 2) h_8) (cwV 1 hts gX5_take_X9_at rfl rfl rfl (by decide +kernel) ⟨Nat.le_of_ble_eq_true rfl, Nat.le_of_ble_eq_true rfl⟩) hN hK hP hD hS hA [0, 2] (by decide) rfl rfl rfl rfl rfl rfl hl.1 rfl (Nat.le_of_ble_eq_true rfl) dX5_take_64 ⟨Nat.zero_le _, Nat.zero_le _⟩ (fun H locs hP hD hS => ?_)
        have hP : va_P (dC, dI) vwCl [(a_p1, .inr (9, oX9 taI taR)), (a_p0, .inr (5, oX5 mkI_17 mkR)), ((taR 0), .inl (cB, 1600, .inl ta_bytesF)), ((mkR 1), .inl (cI, 16, .inl g_3)), ((mkR 2), .inl (cI, 16, .inl g_6)), ((mkR 3), .inl (cI, 16, .inl mk_hearingF_17))] H := hP
        have hD : va_D A [(a_p1, .inr (9, oX9 taI taR)), (a_p0, .inr (5, oX5 mkI_17 mkR)), ((taR 0), .inl (cB, 1600, .inl ta_bytesF)), ((mkR 1), .inl (cI, 16, .inl g_3)), ((mkR 2), .inl (cI, 16, .inl g_6)), ((mkR 3), .inl (cI, 16, .inl mk_hearingF_17))] := hD
        refine W.eq (g2 := F0 m 67 ls [.int r_7, .int x2_17, .ref ((mkR 3))]) rfl ?_
        refine xq_iast hx hb hK hP hD hS 5 0 rfl rfl hf dX5_take_67 (fun g_9 H locs hf hP hD hS => ?_)
        have hP : va_P (dC, dI) vwCl [(a_p1, .inr (9, oX9 taI taR)), (a_p0, .inr (5, oX5 mkI_17 mkR)), ((taR 0), .inl (cB, 1600, .inl ta_bytesF)), ((mkR 1), .inl (cI, 16, .inl g_3)), ((mkR 2), .inl (cI, 16, .inl g_6)), ((mkR 3), .inl (cI, 16, .inl g_9))] H := hP
        have hD : va_D A [(a_p1, .inr (9, oX9 taI taR)), (a_p0, .inr (5, oX5 mkI_17 mkR)), ((taR 0), .inl (cB, 1600, .inl ta_bytesF)), ((mkR 1), .inl (cI, 16, .inl g_3)), ((mkR 2), .inl (cI, 16, .inl g_6)), ((mkR 3), .inl (cI, 16, .inl g_9))] := hD
        refine lv_iinc (v := x2_17 + 1) (lv' := [(2, .int (x2_17 + 1)), (0, .ref a_p0), (1, .ref a_p1)]) hx hb dX5_take_68 hl (k := 2) rfl (congrArg (fun q9 => x2_17 + q9) (by decide : Int32.ofInt 1 = 1)) (by decide) rfl (fun ls hl => ?_)
        refine lv_goto (tgt := 17) hx hb dX5_take_71 (by decide) ?_
        exact ih17 mkI_17 g_3 g_6 g_9 (x2_17 + 1) _ _ _ hf hP hD hS (lv_sub hl [1, 2, 0] rfl)
  unfold fX5_take at hf
  refine lv_aload_n hx hb dX5_take_0 rfl (lv_at hl 0 rfl) ?_
  refine lv_bipush (v := 16) hx hb dX5_take_1 (by decide) ?_
  refine lv_aload_n hx hb dX5_take_3 rfl (lv_at hl 1 rfl) ?_
  refine va_getN (D := (dC, dI)) (ci := 9) (v := .int (taI 1)) (C := RX9) (T := TX9) (N := 2) hx hb hts hinX9 hown hK hP 0 rfl rfl 1 (by decide) hnf1 (fun _ h9 => h9) rfl dX5_take_4 ?_
  refine lv_iconst (v := 3) hx hb dX5_take_7 (by decide) ?_
  refine xq_idiv hx hb hf dX5_take_8 (fun v_1 hf => ?_)
  refine va_mmin hx hb (hml.trans hl.1.symm) hown hw2 hw3 hw4 hw5 (Nat.le_of_ble_eq_true rfl) (Nat.le_of_ble_eq_true rfl) (Nat.zero_le _) (Nat.zero_le _) dX5_take_9 ?_
  refine W.eq (g2 := F0 m 12 ls [.int (xq_min 16 v_1), .ref a_p0]) rfl ?_
  refine va_put (D := (dC, dI)) (ci := 5) (v := .int (xq_min 16 v_1)) (ty := .int) (C := RX5) (T := TX5) (N := 4) hx hb hts hinX5 tyX5 tyX5_ok nmX5 hown hK hP hD hS 1 rfl rfl 0 (by decide) hw6 (fun _ h9 => h9) rfl (by decide +kernel) rfl rfl (Nat.le_of_ble_eq_true rfl) dX5_take_12 (fun H locs hP hD hS => ?_)
  have hP : va_P (dC, dI) vwCl [(a_p1, .inr (9, oX9 taI taR)), (a_p0, .inr (5, oX5 (va_up mkI 0 (xq_min 16 v_1)) mkR)), ((taR 0), .inl (cB, 1600, .inl ta_bytesF)), ((mkR 1), .inl (cI, 16, .inl mk_nightsAheadF)), ((mkR 2), .inl (cI, 16, .inl mk_earsF)), ((mkR 3), .inl (cI, 16, .inl mk_hearingF))] H := hP
  have hD : va_D A [(a_p1, .inr (9, oX9 taI taR)), (a_p0, .inr (5, oX5 (va_up mkI 0 (xq_min 16 v_1)) mkR)), ((taR 0), .inl (cB, 1600, .inl ta_bytesF)), ((mkR 1), .inl (cI, 16, .inl mk_nightsAheadF)), ((mkR 2), .inl (cI, 16, .inl mk_earsF)), ((mkR 3), .inl (cI, 16, .inl mk_hearingF))] := hD
  refine lv_iconst (v := 0) hx hb dX5_take_15 (by decide) ?_
  refine lv_istore_n (lv' := [(2, .int 0), (0, .ref a_p0), (1, .ref a_p1)]) hx hb dX5_take_16 rfl hl (by decide) rfl (fun ls hl => ?_)
  exact l17 N ((va_up mkI 0 (xq_min 16 v_1))) mk_nightsAheadF mk_earsF mk_hearingF 0 _ _ _ hf hP hD hS (lv_sub hl [1, 2, 0] rfl)
def dsX6_begin_0 : List (Nat × Instr × Nat) := [(0, (.aload_n 0, 1)), (1, (.iconst 0, 1)), (2, (.putfield 9, 3)), (5, (.aload_n 0, 1)), (6, (.aload_n 1, 1)), (7, (.getfield 37, 3)), (10, (.putfield 15, 3)), (13, (.aload_n 0, 1)), (14, (.iconst 0, 1)), (15, (.putfield 18, 3)), (18, (.aload_n 0, 1)), (19, (.iconst 0, 1)), (20, (.putfield 21, 3)), (23, (.aload_n 0, 1)), (24, (.aload_n 1, 1)), (25, (.getfield 42, 3)), (28, (.putfield 24, 3)), (31, (.aload_n 0, 1)), (32, (.iconst 0, 1)), (33, (.putfield 27, 3)), (36, (.aload_n 1, 1)), (37, (.getfield 45, 3)), (40, (.iconst 0, 1)), (41, (.aload_n 0, 1)), (42, (.getfield 30, 3)), (45, (.iconst 0, 1)), (46, (.bipush 7, 2)), (48, (.invokestatic 46, 3)), (51, (.aload_n 1, 1)), (52, (.getfield 52, 3)), (55, (.iconst 0, 1)), (56, (.aload_n 0, 1)), (57, (.getfield 34, 3)), (60, (.iconst 0, 1)), (61, (.bipush 6, 2)), (63, (.invokestatic 46, 3)), (66, (.return_, 1))]
theorem dsX6_begin_0_ok : (dsX6_begin_0.all fun q => decide (decode cX6_begin q.1 = .ok q.2)) = true := by decide +kernel
theorem dX6_begin_0 : decode cX6_begin 0 = .ok (.aload_n 0, 1) := of_decide_eq_true (List.all_eq_true.mp dsX6_begin_0_ok (0, (.aload_n 0, 1)) (List.mem_of_getElem? (i := 0) rfl))
theorem dX6_begin_1 : decode cX6_begin 1 = .ok (.iconst 0, 1) := of_decide_eq_true (List.all_eq_true.mp dsX6_begin_0_ok (1, (.iconst 0, 1)) (List.mem_of_getElem? (i := 1) rfl))
theorem dX6_begin_2 : decode cX6_begin 2 = .ok (.putfield 9, 3) := of_decide_eq_true (List.all_eq_true.mp dsX6_begin_0_ok (2, (.putfield 9, 3)) (List.mem_of_getElem? (i := 2) rfl))
theorem dX6_begin_5 : decode cX6_begin 5 = .ok (.aload_n 0, 1) := of_decide_eq_true (List.all_eq_true.mp dsX6_begin_0_ok (5, (.aload_n 0, 1)) (List.mem_of_getElem? (i := 3) rfl))
theorem dX6_begin_6 : decode cX6_begin 6 = .ok (.aload_n 1, 1) := of_decide_eq_true (List.all_eq_true.mp dsX6_begin_0_ok (6, (.aload_n 1, 1)) (List.mem_of_getElem? (i := 4) rfl))
theorem dX6_begin_7 : decode cX6_begin 7 = .ok (.getfield 37, 3) := of_decide_eq_true (List.all_eq_true.mp dsX6_begin_0_ok (7, (.getfield 37, 3)) (List.mem_of_getElem? (i := 5) rfl))
theorem dX6_begin_10 : decode cX6_begin 10 = .ok (.putfield 15, 3) := of_decide_eq_true (List.all_eq_true.mp dsX6_begin_0_ok (10, (.putfield 15, 3)) (List.mem_of_getElem? (i := 6) rfl))
theorem dX6_begin_13 : decode cX6_begin 13 = .ok (.aload_n 0, 1) := of_decide_eq_true (List.all_eq_true.mp dsX6_begin_0_ok (13, (.aload_n 0, 1)) (List.mem_of_getElem? (i := 7) rfl))
theorem dX6_begin_14 : decode cX6_begin 14 = .ok (.iconst 0, 1) := of_decide_eq_true (List.all_eq_true.mp dsX6_begin_0_ok (14, (.iconst 0, 1)) (List.mem_of_getElem? (i := 8) rfl))
theorem dX6_begin_15 : decode cX6_begin 15 = .ok (.putfield 18, 3) := of_decide_eq_true (List.all_eq_true.mp dsX6_begin_0_ok (15, (.putfield 18, 3)) (List.mem_of_getElem? (i := 9) rfl))
theorem dX6_begin_18 : decode cX6_begin 18 = .ok (.aload_n 0, 1) := of_decide_eq_true (List.all_eq_true.mp dsX6_begin_0_ok (18, (.aload_n 0, 1)) (List.mem_of_getElem? (i := 10) rfl))
theorem dX6_begin_19 : decode cX6_begin 19 = .ok (.iconst 0, 1) := of_decide_eq_true (List.all_eq_true.mp dsX6_begin_0_ok (19, (.iconst 0, 1)) (List.mem_of_getElem? (i := 11) rfl))
theorem dX6_begin_20 : decode cX6_begin 20 = .ok (.putfield 21, 3) := of_decide_eq_true (List.all_eq_true.mp dsX6_begin_0_ok (20, (.putfield 21, 3)) (List.mem_of_getElem? (i := 12) rfl))
theorem dX6_begin_23 : decode cX6_begin 23 = .ok (.aload_n 0, 1) := of_decide_eq_true (List.all_eq_true.mp dsX6_begin_0_ok (23, (.aload_n 0, 1)) (List.mem_of_getElem? (i := 13) rfl))
theorem dX6_begin_24 : decode cX6_begin 24 = .ok (.aload_n 1, 1) := of_decide_eq_true (List.all_eq_true.mp dsX6_begin_0_ok (24, (.aload_n 1, 1)) (List.mem_of_getElem? (i := 14) rfl))
theorem dX6_begin_25 : decode cX6_begin 25 = .ok (.getfield 42, 3) := of_decide_eq_true (List.all_eq_true.mp dsX6_begin_0_ok (25, (.getfield 42, 3)) (List.mem_of_getElem? (i := 15) rfl))
theorem dX6_begin_28 : decode cX6_begin 28 = .ok (.putfield 24, 3) := of_decide_eq_true (List.all_eq_true.mp dsX6_begin_0_ok (28, (.putfield 24, 3)) (List.mem_of_getElem? (i := 16) rfl))
theorem dX6_begin_31 : decode cX6_begin 31 = .ok (.aload_n 0, 1) := of_decide_eq_true (List.all_eq_true.mp dsX6_begin_0_ok (31, (.aload_n 0, 1)) (List.mem_of_getElem? (i := 17) rfl))
theorem dX6_begin_32 : decode cX6_begin 32 = .ok (.iconst 0, 1) := of_decide_eq_true (List.all_eq_true.mp dsX6_begin_0_ok (32, (.iconst 0, 1)) (List.mem_of_getElem? (i := 18) rfl))
theorem dX6_begin_33 : decode cX6_begin 33 = .ok (.putfield 27, 3) := of_decide_eq_true (List.all_eq_true.mp dsX6_begin_0_ok (33, (.putfield 27, 3)) (List.mem_of_getElem? (i := 19) rfl))
theorem dX6_begin_36 : decode cX6_begin 36 = .ok (.aload_n 1, 1) := of_decide_eq_true (List.all_eq_true.mp dsX6_begin_0_ok (36, (.aload_n 1, 1)) (List.mem_of_getElem? (i := 20) rfl))
theorem dX6_begin_37 : decode cX6_begin 37 = .ok (.getfield 45, 3) := of_decide_eq_true (List.all_eq_true.mp dsX6_begin_0_ok (37, (.getfield 45, 3)) (List.mem_of_getElem? (i := 21) rfl))
theorem dX6_begin_40 : decode cX6_begin 40 = .ok (.iconst 0, 1) := of_decide_eq_true (List.all_eq_true.mp dsX6_begin_0_ok (40, (.iconst 0, 1)) (List.mem_of_getElem? (i := 22) rfl))
theorem dX6_begin_41 : decode cX6_begin 41 = .ok (.aload_n 0, 1) := of_decide_eq_true (List.all_eq_true.mp dsX6_begin_0_ok (41, (.aload_n 0, 1)) (List.mem_of_getElem? (i := 23) rfl))
theorem dX6_begin_42 : decode cX6_begin 42 = .ok (.getfield 30, 3) := of_decide_eq_true (List.all_eq_true.mp dsX6_begin_0_ok (42, (.getfield 30, 3)) (List.mem_of_getElem? (i := 24) rfl))
theorem dX6_begin_45 : decode cX6_begin 45 = .ok (.iconst 0, 1) := of_decide_eq_true (List.all_eq_true.mp dsX6_begin_0_ok (45, (.iconst 0, 1)) (List.mem_of_getElem? (i := 25) rfl))
theorem dX6_begin_46 : decode cX6_begin 46 = .ok (.bipush 7, 2) := of_decide_eq_true (List.all_eq_true.mp dsX6_begin_0_ok (46, (.bipush 7, 2)) (List.mem_of_getElem? (i := 26) rfl))
theorem dX6_begin_48 : decode cX6_begin 48 = .ok (.invokestatic 46, 3) := of_decide_eq_true (List.all_eq_true.mp dsX6_begin_0_ok (48, (.invokestatic 46, 3)) (List.mem_of_getElem? (i := 27) rfl))
theorem dX6_begin_51 : decode cX6_begin 51 = .ok (.aload_n 1, 1) := of_decide_eq_true (List.all_eq_true.mp dsX6_begin_0_ok (51, (.aload_n 1, 1)) (List.mem_of_getElem? (i := 28) rfl))
theorem dX6_begin_52 : decode cX6_begin 52 = .ok (.getfield 52, 3) := of_decide_eq_true (List.all_eq_true.mp dsX6_begin_0_ok (52, (.getfield 52, 3)) (List.mem_of_getElem? (i := 29) rfl))
theorem dX6_begin_55 : decode cX6_begin 55 = .ok (.iconst 0, 1) := of_decide_eq_true (List.all_eq_true.mp dsX6_begin_0_ok (55, (.iconst 0, 1)) (List.mem_of_getElem? (i := 30) rfl))
theorem dX6_begin_56 : decode cX6_begin 56 = .ok (.aload_n 0, 1) := of_decide_eq_true (List.all_eq_true.mp dsX6_begin_0_ok (56, (.aload_n 0, 1)) (List.mem_of_getElem? (i := 31) rfl))
theorem dX6_begin_57 : decode cX6_begin 57 = .ok (.getfield 34, 3) := of_decide_eq_true (List.all_eq_true.mp dsX6_begin_0_ok (57, (.getfield 34, 3)) (List.mem_of_getElem? (i := 32) rfl))
theorem dX6_begin_60 : decode cX6_begin 60 = .ok (.iconst 0, 1) := of_decide_eq_true (List.all_eq_true.mp dsX6_begin_0_ok (60, (.iconst 0, 1)) (List.mem_of_getElem? (i := 33) rfl))
theorem dX6_begin_61 : decode cX6_begin 61 = .ok (.bipush 6, 2) := of_decide_eq_true (List.all_eq_true.mp dsX6_begin_0_ok (61, (.bipush 6, 2)) (List.mem_of_getElem? (i := 34) rfl))
theorem dX6_begin_63 : decode cX6_begin 63 = .ok (.invokestatic 46, 3) := of_decide_eq_true (List.all_eq_true.mp dsX6_begin_0_ok (63, (.invokestatic 46, 3)) (List.mem_of_getElem? (i := 35) rfl))
theorem dX6_begin_66 : decode cX6_begin 66 = .ok (.return_, 1) := of_decide_eq_true (List.all_eq_true.mp dsX6_begin_0_ok (66, (.return_, 1)) (List.mem_of_getElem? (i := 36) rfl))
def fX6_begin (N : Nat) (moI : Nat → Int32) (hoI : Nat → Int32) (ho_rowsF : Nat → Int32) (mo_rowsF : Nat → Int32) (ho_talksF : Nat → Int32) (mo_talksF : Nat → Int32)   : Option ((Nat → Int32) × (Nat → Int32) × (Nat → Int32)) :=
  (xq_bd (xq_cpy 7 7 ho_rowsF mo_rowsF 0 0 7) fun g_1 => (xq_bd (xq_cpy 6 6 ho_talksF mo_talksF 0 0 6) fun g_2 => some (((va_up (va_up (va_up (va_up (va_up (va_up moI 0 0) 1 (hoI 2)) 2 0) 3 0) 4 (hoI 3)) 5 0), (va_cpy ho_rowsF mo_rowsF (0 : Int32).toNatClampNeg (0 : Int32).toNatClampNeg (7 : Int32).toNatClampNeg), (va_cpy ho_talksF mo_talksF (0 : Int32).toNatClampNeg (0 : Int32).toNatClampNeg (6 : Int32).toNatClampNeg)))))
set_option maxHeartbeats 4000000 in
set_option maxRecDepth 100000 in
theorem kX6_begin (l : Launch) (dC : Nat → ClassId) (dI : Nat → Nat → Nat) (cI cB cJ cZ cM : ClassId) (z : Nat) (ad : Nat → Nat) (N : Nat) (a_p0 : Nat) (moI : Nat → Int32) (moR : Nat → Nat) (a_p1 : Nat) (hoI : Nat → Int32) (hoR : Nat → Nat) (ho_rowsF : Nat → Int32) (mo_rowsF : Nat → Int32) (ho_talksF : Nat → Int32) (mo_talksF : Nat → Int32) {r0 : Nat → Int32} {r1 : Nat → Int32} {r2 : Nat → Int32} (hf : fX6_begin N moI hoI ho_rowsF mo_rowsF ho_talksF mo_talksF = some (r0, r1, r2)) : xq_Ct l yX6_begin wsX6_begin { frames := 1, cells := 0, slots := 0, locals := 48 } (dC, dI) vwCl (xq_tys cI cB cJ cZ cM) z ad [.ref a_p0, .ref a_p1] [(a_p0, .inr (6, oX6 moI moR)), (a_p1, .inr (2, oX2 hoI hoR)), ((hoR 8), .inl (cI, 7, .inl ho_rowsF)), ((moR 6), .inl (cI, 7, .inl mo_rowsF)), ((hoR 12), .inl (cI, 6, .inl ho_talksF)), ((moR 7), .inl (cI, 6, .inl mo_talksF))] [(a_p0, .inr (6, oX6 r0 moR)), (a_p1, .inr (2, oX2 hoI hoR)), ((hoR 8), .inl (cI, 7, .inl ho_rowsF)), ((moR 6), .inl (cI, 7, .inl r1)), ((hoR 12), .inl (cI, 6, .inl ho_talksF)), ((moR 7), .inl (cI, 6, .inl r2))] none := by
  intro sz
  refine Met.ofW (cc := cX6_begin) (maxL := 2) (ret := none) (by decide) rfl ?_
  intro p e s m args below meth c s₁ B hml hv
  obtain ⟨rfl, hsz, hP, hK, hD0, hE, hz⟩ := hv
  have hx := B.exec
  have hb := B.bytes
  have hr := B.returns
  have hts := atoms_spec (ws := wsX6_begin) B.pre
  have hown : s.vm.findClass RX6 = some m.cls := findClass_of_methodNamed B.named
  have hlocks := B.notSynchronized
  subst hsz
  have hD := hD0.self (sz := s.heap.size)
  have hN := xq_Env.of hE hz hD0
  generalize hAe : va_A [(a_p0, .inr (6, oX6 moI moR)), (a_p1, .inr (2, oX2 hoI hoR)), ((hoR 8), .inl (cI, 7, .inl ho_rowsF)), ((moR 6), .inl (cI, 7, .inl mo_rowsF)), ((hoR 12), .inl (cI, 6, .inl ho_talksF)), ((moR 7), .inl (cI, 6, .inl mo_talksF))] s.heap.size = A at hD hN ⊢
  have hA : ∀ q : Nat, s.heap.size ≤ q → A q := fun q h => by rw [← hAe]; exact Or.inr h
  clear hAe hD0
  have hS : va_S A s.heap s.heap [] := va_S.rf
  have hl := lv_entry ([.ref a_p0, .ref a_p1]) (n := 2) (Nat.le_of_ble_eq_true rfl)
  rw [lg_entry_eq]
  generalize (lg_sl ([.ref a_p0, .ref a_p1]) ++ List.replicate (2 - (lg_sl ([.ref a_p0, .ref a_p1])).length) Slot.unset).toArray = ls at hl ⊢
  have hl : lv_has ls 2 [(0, .ref a_p0), (1, .ref a_p1)] := hl
  have hw0 := hts (.fieldLink RX6 9 "DistantVoice$Moment" "night" "I") (by decide +kernel)
  have hinX6 : ∀ w ∈ wsX60, w ∈ wsX6_begin := fun w h => List.mem_cons_of_mem _ (List.mem_append_left _ (List.mem_append_right _ h))
  have hnf39 := va_Nw.use (A := [.ref a_p0, .ref a_p1].toArray) rfl (hN.1.1.1 ("DistantVoice$Moment", 37, "DistantVoice$House", "firstMile", "I", "DistantVoice") (List.mem_of_getElem? (i := 39) rfl))
  have hinX2 : ∀ w ∈ wsX20, w ∈ wsX6_begin := fun w h => List.mem_cons_of_mem _ (List.mem_append_right _ h)
  have hw4 := hts (.fieldLink RX6 15 "DistantVoice$Moment" "mile" "I") (by decide +kernel)
  have hw5 := hts (.fieldLink RX6 18 "DistantVoice$Moment" "rounds" "I") (by decide +kernel)
  have hw6 := hts (.fieldLink RX6 21 "DistantVoice$Moment" "talking" "I") (by decide +kernel)
  have hnf41 := va_Nw.use (A := [.ref a_p0, .ref a_p1].toArray) rfl (hN.1.1.1 ("DistantVoice$Moment", 42, "DistantVoice$House", "firstHush", "I", "DistantVoice") (List.mem_of_getElem? (i := 41) rfl))
  have hw8 := hts (.fieldLink RX6 24 "DistantVoice$Moment" "hush" "I") (by decide +kernel)
  have hw9 := hts (.fieldLink RX6 27 "DistantVoice$Moment" "keptCount" "I") (by decide +kernel)
  have hnf55 := va_Nw.use (A := [.ref a_p0, .ref a_p1].toArray) rfl (hN.1.1.1 ("DistantVoice$Moment", 45, "DistantVoice$House", "rows", "[I", "DistantVoice") (List.mem_of_getElem? (i := 55) rfl))
  have hw11 := hts (.fieldLink RX6 30 "DistantVoice$Moment" "rows" "[I") (by decide +kernel)
  have hw12 := hts (.methodLink RX6 46 arraycopyName) (by decide +kernel)
  have hw13 := hts (.native arraycopyName) (by decide +kernel)
  have hw14 := hts (.static arraycopyName) (by decide +kernel)
  have hw15 := hts (.initialized "java/lang/System") (by decide +kernel)
  have hnf65 := va_Nw.use (A := [.ref a_p0, .ref a_p1].toArray) rfl (hN.1.1.1 ("DistantVoice$Moment", 52, "DistantVoice$House", "talks", "[I", "DistantVoice") (List.mem_of_getElem? (i := 65) rfl))
  have hw17 := hts (.fieldLink RX6 34 "DistantVoice$Moment" "talks" "[I") (by decide +kernel)
  unfold fX6_begin at hf
  refine lv_aload_n hx hb dX6_begin_0 rfl (lv_at hl 0 rfl) ?_
  refine lv_iconst (v := 0) hx hb dX6_begin_1 (by decide) ?_
  refine va_put (D := (dC, dI)) (ci := 6) (v := .int 0) (ty := .int) (C := RX6) (T := TX6) (N := 8) hx hb hts hinX6 tyX6 tyX6_ok nmX6 hown hK hP hD hS 0 rfl rfl 0 (by decide) hw0 (fun _ h9 => h9) rfl (by decide +kernel) rfl rfl (Nat.le_of_ble_eq_true rfl) dX6_begin_2 (fun H locs hP hD hS => ?_)
  have hP : va_P (dC, dI) vwCl [(a_p0, .inr (6, oX6 (va_up moI 0 0) moR)), (a_p1, .inr (2, oX2 hoI hoR)), ((hoR 8), .inl (cI, 7, .inl ho_rowsF)), ((moR 6), .inl (cI, 7, .inl mo_rowsF)), ((hoR 12), .inl (cI, 6, .inl ho_talksF)), ((moR 7), .inl (cI, 6, .inl mo_talksF))] H := hP
  have hD : va_D A [(a_p0, .inr (6, oX6 (va_up moI 0 0) moR)), (a_p1, .inr (2, oX2 hoI hoR)), ((hoR 8), .inl (cI, 7, .inl ho_rowsF)), ((moR 6), .inl (cI, 7, .inl mo_rowsF)), ((hoR 12), .inl (cI, 6, .inl ho_talksF)), ((moR 7), .inl (cI, 6, .inl mo_talksF))] := hD
  refine lv_aload_n hx hb dX6_begin_5 rfl (lv_at hl 0 rfl) ?_
  refine lv_aload_n hx hb dX6_begin_6 rfl (lv_at hl 1 rfl) ?_
  refine va_getN (D := (dC, dI)) (ci := 2) (v := .int (hoI 2)) (C := RX2) (T := TX2) (N := 19) hx hb hts hinX2 hown hK hP 1 rfl rfl 2 (by decide) hnf39 (fun _ h9 => h9) rfl dX6_begin_7 ?_
  refine va_put (D := (dC, dI)) (ci := 6) (v := .int (hoI 2)) (ty := .int) (C := RX6) (T := TX6) (N := 8) hx hb hts hinX6 tyX6 tyX6_ok nmX6 hown hK hP hD hS 0 rfl rfl 1 (by decide) hw4 (fun _ h9 => h9) rfl (by decide +kernel) rfl rfl (Nat.le_of_ble_eq_true rfl) dX6_begin_10 (fun H locs hP hD hS => ?_)
  have hP : va_P (dC, dI) vwCl [(a_p0, .inr (6, oX6 (va_up (va_up moI 0 0) 1 (hoI 2)) moR)), (a_p1, .inr (2, oX2 hoI hoR)), ((hoR 8), .inl (cI, 7, .inl ho_rowsF)), ((moR 6), .inl (cI, 7, .inl mo_rowsF)), ((hoR 12), .inl (cI, 6, .inl ho_talksF)), ((moR 7), .inl (cI, 6, .inl mo_talksF))] H := hP
  have hD : va_D A [(a_p0, .inr (6, oX6 (va_up (va_up moI 0 0) 1 (hoI 2)) moR)), (a_p1, .inr (2, oX2 hoI hoR)), ((hoR 8), .inl (cI, 7, .inl ho_rowsF)), ((moR 6), .inl (cI, 7, .inl mo_rowsF)), ((hoR 12), .inl (cI, 6, .inl ho_talksF)), ((moR 7), .inl (cI, 6, .inl mo_talksF))] := hD
  refine lv_aload_n hx hb dX6_begin_13 rfl (lv_at hl 0 rfl) ?_
  refine lv_iconst (v := 0) hx hb dX6_begin_14 (by decide) ?_
  refine va_put (D := (dC, dI)) (ci := 6) (v := .int 0) (ty := .int) (C := RX6) (T := TX6) (N := 8) hx hb hts hinX6 tyX6 tyX6_ok nmX6 hown hK hP hD hS 0 rfl rfl 2 (by decide) hw5 (fun _ h9 => h9) rfl (by decide +kernel) rfl rfl (Nat.le_of_ble_eq_true rfl) dX6_begin_15 (fun H locs hP hD hS => ?_)
  have hP : va_P (dC, dI) vwCl [(a_p0, .inr (6, oX6 (va_up (va_up (va_up moI 0 0) 1 (hoI 2)) 2 0) moR)), (a_p1, .inr (2, oX2 hoI hoR)), ((hoR 8), .inl (cI, 7, .inl ho_rowsF)), ((moR 6), .inl (cI, 7, .inl mo_rowsF)), ((hoR 12), .inl (cI, 6, .inl ho_talksF)), ((moR 7), .inl (cI, 6, .inl mo_talksF))] H := hP
  have hD : va_D A [(a_p0, .inr (6, oX6 (va_up (va_up (va_up moI 0 0) 1 (hoI 2)) 2 0) moR)), (a_p1, .inr (2, oX2 hoI hoR)), ((hoR 8), .inl (cI, 7, .inl ho_rowsF)), ((moR 6), .inl (cI, 7, .inl mo_rowsF)), ((hoR 12), .inl (cI, 6, .inl ho_talksF)), ((moR 7), .inl (cI, 6, .inl mo_talksF))] := hD
  refine lv_aload_n hx hb dX6_begin_18 rfl (lv_at hl 0 rfl) ?_
  refine lv_iconst (v := 0) hx hb dX6_begin_19 (by decide) ?_
  refine va_put (D := (dC, dI)) (ci := 6) (v := .int 0) (ty := .int) (C := RX6) (T := TX6) (N := 8) hx hb hts hinX6 tyX6 tyX6_ok nmX6 hown hK hP hD hS 0 rfl rfl 3 (by decide) hw6 (fun _ h9 => h9) rfl (by decide +kernel) rfl rfl (Nat.le_of_ble_eq_true rfl) dX6_begin_20 (fun H locs hP hD hS => ?_)
  have hP : va_P (dC, dI) vwCl [(a_p0, .inr (6, oX6 (va_up (va_up (va_up (va_up moI 0 0) 1 (hoI 2)) 2 0) 3 0) moR)), (a_p1, .inr (2, oX2 hoI hoR)), ((hoR 8), .inl (cI, 7, .inl ho_rowsF)), ((moR 6), .inl (cI, 7, .inl mo_rowsF)), ((hoR 12), .inl (cI, 6, .inl ho_talksF)), ((moR 7), .inl (cI, 6, .inl mo_talksF))] H := hP
  have hD : va_D A [(a_p0, .inr (6, oX6 (va_up (va_up (va_up (va_up moI 0 0) 1 (hoI 2)) 2 0) 3 0) moR)), (a_p1, .inr (2, oX2 hoI hoR)), ((hoR 8), .inl (cI, 7, .inl ho_rowsF)), ((moR 6), .inl (cI, 7, .inl mo_rowsF)), ((hoR 12), .inl (cI, 6, .inl ho_talksF)), ((moR 7), .inl (cI, 6, .inl mo_talksF))] := hD
  refine lv_aload_n hx hb dX6_begin_23 rfl (lv_at hl 0 rfl) ?_
  refine lv_aload_n hx hb dX6_begin_24 rfl (lv_at hl 1 rfl) ?_
  refine va_getN (D := (dC, dI)) (ci := 2) (v := .int (hoI 3)) (C := RX2) (T := TX2) (N := 19) hx hb hts hinX2 hown hK hP 1 rfl rfl 3 (by decide) hnf41 (fun _ h9 => h9) rfl dX6_begin_25 ?_
  refine va_put (D := (dC, dI)) (ci := 6) (v := .int (hoI 3)) (ty := .int) (C := RX6) (T := TX6) (N := 8) hx hb hts hinX6 tyX6 tyX6_ok nmX6 hown hK hP hD hS 0 rfl rfl 4 (by decide) hw8 (fun _ h9 => h9) rfl (by decide +kernel) rfl rfl (Nat.le_of_ble_eq_true rfl) dX6_begin_28 (fun H locs hP hD hS => ?_)
  have hP : va_P (dC, dI) vwCl [(a_p0, .inr (6, oX6 (va_up (va_up (va_up (va_up (va_up moI 0 0) 1 (hoI 2)) 2 0) 3 0) 4 (hoI 3)) moR)), (a_p1, .inr (2, oX2 hoI hoR)), ((hoR 8), .inl (cI, 7, .inl ho_rowsF)), ((moR 6), .inl (cI, 7, .inl mo_rowsF)), ((hoR 12), .inl (cI, 6, .inl ho_talksF)), ((moR 7), .inl (cI, 6, .inl mo_talksF))] H := hP
  have hD : va_D A [(a_p0, .inr (6, oX6 (va_up (va_up (va_up (va_up (va_up moI 0 0) 1 (hoI 2)) 2 0) 3 0) 4 (hoI 3)) moR)), (a_p1, .inr (2, oX2 hoI hoR)), ((hoR 8), .inl (cI, 7, .inl ho_rowsF)), ((moR 6), .inl (cI, 7, .inl mo_rowsF)), ((hoR 12), .inl (cI, 6, .inl ho_talksF)), ((moR 7), .inl (cI, 6, .inl mo_talksF))] := hD
  refine lv_aload_n hx hb dX6_begin_31 rfl (lv_at hl 0 rfl) ?_
  refine lv_iconst (v := 0) hx hb dX6_begin_32 (by decide) ?_
  refine va_put (D := (dC, dI)) (ci := 6) (v := .int 0) (ty := .int) (C := RX6) (T := TX6) (N := 8) hx hb hts hinX6 tyX6 tyX6_ok nmX6 hown hK hP hD hS 0 rfl rfl 5 (by decide) hw9 (fun _ h9 => h9) rfl (by decide +kernel) rfl rfl (Nat.le_of_ble_eq_true rfl) dX6_begin_33 (fun H locs hP hD hS => ?_)
  have hP : va_P (dC, dI) vwCl [(a_p0, .inr (6, oX6 (va_up (va_up (va_up (va_up (va_up (va_up moI 0 0) 1 (hoI 2)) 2 0) 3 0) 4 (hoI 3)) 5 0) moR)), (a_p1, .inr (2, oX2 hoI hoR)), ((hoR 8), .inl (cI, 7, .inl ho_rowsF)), ((moR 6), .inl (cI, 7, .inl mo_rowsF)), ((hoR 12), .inl (cI, 6, .inl ho_talksF)), ((moR 7), .inl (cI, 6, .inl mo_talksF))] H := hP
  have hD : va_D A [(a_p0, .inr (6, oX6 (va_up (va_up (va_up (va_up (va_up (va_up moI 0 0) 1 (hoI 2)) 2 0) 3 0) 4 (hoI 3)) 5 0) moR)), (a_p1, .inr (2, oX2 hoI hoR)), ((hoR 8), .inl (cI, 7, .inl ho_rowsF)), ((moR 6), .inl (cI, 7, .inl mo_rowsF)), ((hoR 12), .inl (cI, 6, .inl ho_talksF)), ((moR 7), .inl (cI, 6, .inl mo_talksF))] := hD
  refine lv_aload_n hx hb dX6_begin_36 rfl (lv_at hl 1 rfl) ?_
  refine va_getN (D := (dC, dI)) (ci := 2) (v := .ref ((hoR 8))) (C := RX2) (T := TX2) (N := 19) hx hb hts hinX2 hown hK hP 1 rfl rfl 8 (by decide) hnf55 (fun _ h9 => h9) rfl dX6_begin_37 ?_
  refine lv_iconst (v := 0) hx hb dX6_begin_40 (by decide) ?_
  refine lv_aload_n hx hb dX6_begin_41 rfl (lv_at hl 0 rfl) ?_
  refine va_get (D := (dC, dI)) (ci := 6) (v := .ref ((moR 6))) (C := RX6) (T := TX6) (N := 8) hx hb hts hinX6 hown hK hP 0 rfl rfl 6 (by decide) hw11 (fun _ h9 => h9) rfl dX6_begin_42 ?_
  refine lv_iconst (v := 0) hx hb dX6_begin_45 (by decide) ?_
  refine lv_bipush (v := 7) hx hb dX6_begin_46 (by decide) ?_
  obtain ⟨g_1, hz, hf⟩ := xq_bd_some hf
  obtain ⟨u1, u2, u3, u4, u5, rfl⟩ := xq_cpy_some hz
  refine va_copyi hx hb (hml.trans hl.1.symm) hown hw12 hw13 hw14 hw15 hK hP hD hS 2 3 0 0 rfl rfl rfl rfl rfl u1 u2 u3 u4 u5 (fun _ _ => rfl) (Nat.le_of_ble_eq_true rfl) (Nat.le_of_ble_eq_true rfl) dX6_begin_48 (fun H locs hP hD hS => ?_)
  have hP : va_P (dC, dI) vwCl [(a_p0, .inr (6, oX6 (va_up (va_up (va_up (va_up (va_up (va_up moI 0 0) 1 (hoI 2)) 2 0) 3 0) 4 (hoI 3)) 5 0) moR)), (a_p1, .inr (2, oX2 hoI hoR)), ((hoR 8), .inl (cI, 7, .inl ho_rowsF)), ((moR 6), .inl (cI, 7, .inl ((va_cpy ho_rowsF mo_rowsF (0 : Int32).toNatClampNeg (0 : Int32).toNatClampNeg (7 : Int32).toNatClampNeg)))), ((hoR 12), .inl (cI, 6, .inl ho_talksF)), ((moR 7), .inl (cI, 6, .inl mo_talksF))] H := hP
  have hD : va_D A [(a_p0, .inr (6, oX6 (va_up (va_up (va_up (va_up (va_up (va_up moI 0 0) 1 (hoI 2)) 2 0) 3 0) 4 (hoI 3)) 5 0) moR)), (a_p1, .inr (2, oX2 hoI hoR)), ((hoR 8), .inl (cI, 7, .inl ho_rowsF)), ((moR 6), .inl (cI, 7, .inl ((va_cpy ho_rowsF mo_rowsF (0 : Int32).toNatClampNeg (0 : Int32).toNatClampNeg (7 : Int32).toNatClampNeg)))), ((hoR 12), .inl (cI, 6, .inl ho_talksF)), ((moR 7), .inl (cI, 6, .inl mo_talksF))] := hD
  refine lv_aload_n hx hb dX6_begin_51 rfl (lv_at hl 1 rfl) ?_
  refine va_getN (D := (dC, dI)) (ci := 2) (v := .ref ((hoR 12))) (C := RX2) (T := TX2) (N := 19) hx hb hts hinX2 hown hK hP 1 rfl rfl 12 (by decide) hnf65 (fun _ h9 => h9) rfl dX6_begin_52 ?_
  refine lv_iconst (v := 0) hx hb dX6_begin_55 (by decide) ?_
  refine lv_aload_n hx hb dX6_begin_56 rfl (lv_at hl 0 rfl) ?_
  refine va_get (D := (dC, dI)) (ci := 6) (v := .ref ((moR 7))) (C := RX6) (T := TX6) (N := 8) hx hb hts hinX6 hown hK hP 0 rfl rfl 7 (by decide) hw17 (fun _ h9 => h9) rfl dX6_begin_57 ?_
  refine lv_iconst (v := 0) hx hb dX6_begin_60 (by decide) ?_
  refine lv_bipush (v := 6) hx hb dX6_begin_61 (by decide) ?_
  obtain ⟨g_2, hz, hf⟩ := xq_bd_some hf
  obtain ⟨u1, u2, u3, u4, u5, rfl⟩ := xq_cpy_some hz
  refine va_copyi hx hb (hml.trans hl.1.symm) hown hw12 hw13 hw14 hw15 hK hP hD hS 4 5 0 0 rfl rfl rfl rfl rfl u1 u2 u3 u4 u5 (fun _ _ => rfl) (Nat.le_of_ble_eq_true rfl) (Nat.le_of_ble_eq_true rfl) dX6_begin_63 (fun H locs hP hD hS => ?_)
  have hP : va_P (dC, dI) vwCl [(a_p0, .inr (6, oX6 (va_up (va_up (va_up (va_up (va_up (va_up moI 0 0) 1 (hoI 2)) 2 0) 3 0) 4 (hoI 3)) 5 0) moR)), (a_p1, .inr (2, oX2 hoI hoR)), ((hoR 8), .inl (cI, 7, .inl ho_rowsF)), ((moR 6), .inl (cI, 7, .inl ((va_cpy ho_rowsF mo_rowsF (0 : Int32).toNatClampNeg (0 : Int32).toNatClampNeg (7 : Int32).toNatClampNeg)))), ((hoR 12), .inl (cI, 6, .inl ho_talksF)), ((moR 7), .inl (cI, 6, .inl ((va_cpy ho_talksF mo_talksF (0 : Int32).toNatClampNeg (0 : Int32).toNatClampNeg (6 : Int32).toNatClampNeg))))] H := hP
  have hD : va_D A [(a_p0, .inr (6, oX6 (va_up (va_up (va_up (va_up (va_up (va_up moI 0 0) 1 (hoI 2)) 2 0) 3 0) 4 (hoI 3)) 5 0) moR)), (a_p1, .inr (2, oX2 hoI hoR)), ((hoR 8), .inl (cI, 7, .inl ho_rowsF)), ((moR 6), .inl (cI, 7, .inl ((va_cpy ho_rowsF mo_rowsF (0 : Int32).toNatClampNeg (0 : Int32).toNatClampNeg (7 : Int32).toNatClampNeg)))), ((hoR 12), .inl (cI, 6, .inl ho_talksF)), ((moR 7), .inl (cI, 6, .inl ((va_cpy ho_talksF mo_talksF (0 : Int32).toNatClampNeg (0 : Int32).toNatClampNeg (6 : Int32).toNatClampNeg))))] := hD
  cases hf
  exact xq_vret hx hb hr hlocks hK hP hD hS dX6_begin_66
def dsX6_copy_0 : List (Nat × Instr × Nat) := [(0, (.aload_n 0, 1)), (1, (.aload_n 1, 1)), (2, (.getfield 9, 3)), (5, (.putfield 9, 3)), (8, (.aload_n 0, 1)), (9, (.aload_n 1, 1)), (10, (.getfield 15, 3)), (13, (.putfield 15, 3)), (16, (.aload_n 0, 1)), (17, (.aload_n 1, 1)), (18, (.getfield 18, 3)), (21, (.putfield 18, 3)), (24, (.aload_n 0, 1)), (25, (.aload_n 1, 1)), (26, (.getfield 21, 3)), (29, (.putfield 21, 3)), (32, (.aload_n 0, 1)), (33, (.aload_n 1, 1)), (34, (.getfield 24, 3)), (37, (.putfield 24, 3)), (40, (.aload_n 0, 1)), (41, (.aload_n 1, 1)), (42, (.getfield 27, 3)), (45, (.putfield 27, 3)), (48, (.aload_n 1, 1)), (49, (.getfield 30, 3)), (52, (.iconst 0, 1)), (53, (.aload_n 0, 1)), (54, (.getfield 30, 3)), (57, (.iconst 0, 1)), (58, (.bipush 7, 2)), (60, (.invokestatic 46, 3)), (63, (.aload_n 1, 1)), (64, (.getfield 34, 3)), (67, (.iconst 0, 1)), (68, (.aload_n 0, 1)), (69, (.getfield 34, 3)), (72, (.iconst 0, 1)), (73, (.bipush 6, 2)), (75, (.invokestatic 46, 3)), (78, (.return_, 1))]
theorem dsX6_copy_0_ok : (dsX6_copy_0.all fun q => decide (decode cX6_copy q.1 = .ok q.2)) = true := by decide +kernel
theorem dX6_copy_0 : decode cX6_copy 0 = .ok (.aload_n 0, 1) := of_decide_eq_true (List.all_eq_true.mp dsX6_copy_0_ok (0, (.aload_n 0, 1)) (List.mem_of_getElem? (i := 0) rfl))
theorem dX6_copy_1 : decode cX6_copy 1 = .ok (.aload_n 1, 1) := of_decide_eq_true (List.all_eq_true.mp dsX6_copy_0_ok (1, (.aload_n 1, 1)) (List.mem_of_getElem? (i := 1) rfl))
theorem dX6_copy_2 : decode cX6_copy 2 = .ok (.getfield 9, 3) := of_decide_eq_true (List.all_eq_true.mp dsX6_copy_0_ok (2, (.getfield 9, 3)) (List.mem_of_getElem? (i := 2) rfl))
theorem dX6_copy_5 : decode cX6_copy 5 = .ok (.putfield 9, 3) := of_decide_eq_true (List.all_eq_true.mp dsX6_copy_0_ok (5, (.putfield 9, 3)) (List.mem_of_getElem? (i := 3) rfl))
theorem dX6_copy_8 : decode cX6_copy 8 = .ok (.aload_n 0, 1) := of_decide_eq_true (List.all_eq_true.mp dsX6_copy_0_ok (8, (.aload_n 0, 1)) (List.mem_of_getElem? (i := 4) rfl))
theorem dX6_copy_9 : decode cX6_copy 9 = .ok (.aload_n 1, 1) := of_decide_eq_true (List.all_eq_true.mp dsX6_copy_0_ok (9, (.aload_n 1, 1)) (List.mem_of_getElem? (i := 5) rfl))
theorem dX6_copy_10 : decode cX6_copy 10 = .ok (.getfield 15, 3) := of_decide_eq_true (List.all_eq_true.mp dsX6_copy_0_ok (10, (.getfield 15, 3)) (List.mem_of_getElem? (i := 6) rfl))
theorem dX6_copy_13 : decode cX6_copy 13 = .ok (.putfield 15, 3) := of_decide_eq_true (List.all_eq_true.mp dsX6_copy_0_ok (13, (.putfield 15, 3)) (List.mem_of_getElem? (i := 7) rfl))
theorem dX6_copy_16 : decode cX6_copy 16 = .ok (.aload_n 0, 1) := of_decide_eq_true (List.all_eq_true.mp dsX6_copy_0_ok (16, (.aload_n 0, 1)) (List.mem_of_getElem? (i := 8) rfl))
theorem dX6_copy_17 : decode cX6_copy 17 = .ok (.aload_n 1, 1) := of_decide_eq_true (List.all_eq_true.mp dsX6_copy_0_ok (17, (.aload_n 1, 1)) (List.mem_of_getElem? (i := 9) rfl))
theorem dX6_copy_18 : decode cX6_copy 18 = .ok (.getfield 18, 3) := of_decide_eq_true (List.all_eq_true.mp dsX6_copy_0_ok (18, (.getfield 18, 3)) (List.mem_of_getElem? (i := 10) rfl))
theorem dX6_copy_21 : decode cX6_copy 21 = .ok (.putfield 18, 3) := of_decide_eq_true (List.all_eq_true.mp dsX6_copy_0_ok (21, (.putfield 18, 3)) (List.mem_of_getElem? (i := 11) rfl))
theorem dX6_copy_24 : decode cX6_copy 24 = .ok (.aload_n 0, 1) := of_decide_eq_true (List.all_eq_true.mp dsX6_copy_0_ok (24, (.aload_n 0, 1)) (List.mem_of_getElem? (i := 12) rfl))
theorem dX6_copy_25 : decode cX6_copy 25 = .ok (.aload_n 1, 1) := of_decide_eq_true (List.all_eq_true.mp dsX6_copy_0_ok (25, (.aload_n 1, 1)) (List.mem_of_getElem? (i := 13) rfl))
theorem dX6_copy_26 : decode cX6_copy 26 = .ok (.getfield 21, 3) := of_decide_eq_true (List.all_eq_true.mp dsX6_copy_0_ok (26, (.getfield 21, 3)) (List.mem_of_getElem? (i := 14) rfl))
theorem dX6_copy_29 : decode cX6_copy 29 = .ok (.putfield 21, 3) := of_decide_eq_true (List.all_eq_true.mp dsX6_copy_0_ok (29, (.putfield 21, 3)) (List.mem_of_getElem? (i := 15) rfl))
theorem dX6_copy_32 : decode cX6_copy 32 = .ok (.aload_n 0, 1) := of_decide_eq_true (List.all_eq_true.mp dsX6_copy_0_ok (32, (.aload_n 0, 1)) (List.mem_of_getElem? (i := 16) rfl))
theorem dX6_copy_33 : decode cX6_copy 33 = .ok (.aload_n 1, 1) := of_decide_eq_true (List.all_eq_true.mp dsX6_copy_0_ok (33, (.aload_n 1, 1)) (List.mem_of_getElem? (i := 17) rfl))
theorem dX6_copy_34 : decode cX6_copy 34 = .ok (.getfield 24, 3) := of_decide_eq_true (List.all_eq_true.mp dsX6_copy_0_ok (34, (.getfield 24, 3)) (List.mem_of_getElem? (i := 18) rfl))
theorem dX6_copy_37 : decode cX6_copy 37 = .ok (.putfield 24, 3) := of_decide_eq_true (List.all_eq_true.mp dsX6_copy_0_ok (37, (.putfield 24, 3)) (List.mem_of_getElem? (i := 19) rfl))
theorem dX6_copy_40 : decode cX6_copy 40 = .ok (.aload_n 0, 1) := of_decide_eq_true (List.all_eq_true.mp dsX6_copy_0_ok (40, (.aload_n 0, 1)) (List.mem_of_getElem? (i := 20) rfl))
theorem dX6_copy_41 : decode cX6_copy 41 = .ok (.aload_n 1, 1) := of_decide_eq_true (List.all_eq_true.mp dsX6_copy_0_ok (41, (.aload_n 1, 1)) (List.mem_of_getElem? (i := 21) rfl))
theorem dX6_copy_42 : decode cX6_copy 42 = .ok (.getfield 27, 3) := of_decide_eq_true (List.all_eq_true.mp dsX6_copy_0_ok (42, (.getfield 27, 3)) (List.mem_of_getElem? (i := 22) rfl))
theorem dX6_copy_45 : decode cX6_copy 45 = .ok (.putfield 27, 3) := of_decide_eq_true (List.all_eq_true.mp dsX6_copy_0_ok (45, (.putfield 27, 3)) (List.mem_of_getElem? (i := 23) rfl))
theorem dX6_copy_48 : decode cX6_copy 48 = .ok (.aload_n 1, 1) := of_decide_eq_true (List.all_eq_true.mp dsX6_copy_0_ok (48, (.aload_n 1, 1)) (List.mem_of_getElem? (i := 24) rfl))
theorem dX6_copy_49 : decode cX6_copy 49 = .ok (.getfield 30, 3) := of_decide_eq_true (List.all_eq_true.mp dsX6_copy_0_ok (49, (.getfield 30, 3)) (List.mem_of_getElem? (i := 25) rfl))
theorem dX6_copy_52 : decode cX6_copy 52 = .ok (.iconst 0, 1) := of_decide_eq_true (List.all_eq_true.mp dsX6_copy_0_ok (52, (.iconst 0, 1)) (List.mem_of_getElem? (i := 26) rfl))
theorem dX6_copy_53 : decode cX6_copy 53 = .ok (.aload_n 0, 1) := of_decide_eq_true (List.all_eq_true.mp dsX6_copy_0_ok (53, (.aload_n 0, 1)) (List.mem_of_getElem? (i := 27) rfl))
theorem dX6_copy_54 : decode cX6_copy 54 = .ok (.getfield 30, 3) := of_decide_eq_true (List.all_eq_true.mp dsX6_copy_0_ok (54, (.getfield 30, 3)) (List.mem_of_getElem? (i := 28) rfl))
theorem dX6_copy_57 : decode cX6_copy 57 = .ok (.iconst 0, 1) := of_decide_eq_true (List.all_eq_true.mp dsX6_copy_0_ok (57, (.iconst 0, 1)) (List.mem_of_getElem? (i := 29) rfl))
theorem dX6_copy_58 : decode cX6_copy 58 = .ok (.bipush 7, 2) := of_decide_eq_true (List.all_eq_true.mp dsX6_copy_0_ok (58, (.bipush 7, 2)) (List.mem_of_getElem? (i := 30) rfl))
theorem dX6_copy_60 : decode cX6_copy 60 = .ok (.invokestatic 46, 3) := of_decide_eq_true (List.all_eq_true.mp dsX6_copy_0_ok (60, (.invokestatic 46, 3)) (List.mem_of_getElem? (i := 31) rfl))
theorem dX6_copy_63 : decode cX6_copy 63 = .ok (.aload_n 1, 1) := of_decide_eq_true (List.all_eq_true.mp dsX6_copy_0_ok (63, (.aload_n 1, 1)) (List.mem_of_getElem? (i := 32) rfl))
theorem dX6_copy_64 : decode cX6_copy 64 = .ok (.getfield 34, 3) := of_decide_eq_true (List.all_eq_true.mp dsX6_copy_0_ok (64, (.getfield 34, 3)) (List.mem_of_getElem? (i := 33) rfl))
theorem dX6_copy_67 : decode cX6_copy 67 = .ok (.iconst 0, 1) := of_decide_eq_true (List.all_eq_true.mp dsX6_copy_0_ok (67, (.iconst 0, 1)) (List.mem_of_getElem? (i := 34) rfl))
theorem dX6_copy_68 : decode cX6_copy 68 = .ok (.aload_n 0, 1) := of_decide_eq_true (List.all_eq_true.mp dsX6_copy_0_ok (68, (.aload_n 0, 1)) (List.mem_of_getElem? (i := 35) rfl))
theorem dX6_copy_69 : decode cX6_copy 69 = .ok (.getfield 34, 3) := of_decide_eq_true (List.all_eq_true.mp dsX6_copy_0_ok (69, (.getfield 34, 3)) (List.mem_of_getElem? (i := 36) rfl))
theorem dX6_copy_72 : decode cX6_copy 72 = .ok (.iconst 0, 1) := of_decide_eq_true (List.all_eq_true.mp dsX6_copy_0_ok (72, (.iconst 0, 1)) (List.mem_of_getElem? (i := 37) rfl))
theorem dX6_copy_73 : decode cX6_copy 73 = .ok (.bipush 6, 2) := of_decide_eq_true (List.all_eq_true.mp dsX6_copy_0_ok (73, (.bipush 6, 2)) (List.mem_of_getElem? (i := 38) rfl))
theorem dX6_copy_75 : decode cX6_copy 75 = .ok (.invokestatic 46, 3) := of_decide_eq_true (List.all_eq_true.mp dsX6_copy_0_ok (75, (.invokestatic 46, 3)) (List.mem_of_getElem? (i := 39) rfl))
theorem dX6_copy_78 : decode cX6_copy 78 = .ok (.return_, 1) := of_decide_eq_true (List.all_eq_true.mp dsX6_copy_0_ok (78, (.return_, 1)) (List.mem_of_getElem? (i := 40) rfl))
def fX6_copy (N : Nat) (moI : Nat → Int32) (mo2I : Nat → Int32) (mo_rowsF : Nat → Int32) (mo2_rowsF : Nat → Int32) (mo_talksF : Nat → Int32) (mo2_talksF : Nat → Int32)   : Option ((Nat → Int32) × (Nat → Int32) × (Nat → Int32)) :=
  (xq_bd (xq_cpy 7 7 mo_rowsF mo2_rowsF 0 0 7) fun g_1 => (xq_bd (xq_cpy 6 6 mo_talksF mo2_talksF 0 0 6) fun g_2 => some (((va_up (va_up (va_up (va_up (va_up (va_up mo2I 0 (moI 0)) 1 (moI 1)) 2 (moI 2)) 3 (moI 3)) 4 (moI 4)) 5 (moI 5)), (va_cpy mo_rowsF mo2_rowsF (0 : Int32).toNatClampNeg (0 : Int32).toNatClampNeg (7 : Int32).toNatClampNeg), (va_cpy mo_talksF mo2_talksF (0 : Int32).toNatClampNeg (0 : Int32).toNatClampNeg (6 : Int32).toNatClampNeg)))))
set_option maxHeartbeats 4000000 in
set_option maxRecDepth 100000 in
theorem kX6_copy (l : Launch) (dC : Nat → ClassId) (dI : Nat → Nat → Nat) (cI cB cJ cZ cM : ClassId) (z : Nat) (ad : Nat → Nat) (N : Nat) (a_p1 : Nat) (moI : Nat → Int32) (moR : Nat → Nat) (a_p0 : Nat) (mo2I : Nat → Int32) (mo2R : Nat → Nat) (mo_rowsF : Nat → Int32) (mo2_rowsF : Nat → Int32) (mo_talksF : Nat → Int32) (mo2_talksF : Nat → Int32) {r0 : Nat → Int32} {r1 : Nat → Int32} {r2 : Nat → Int32} (hf : fX6_copy N moI mo2I mo_rowsF mo2_rowsF mo_talksF mo2_talksF = some (r0, r1, r2)) : xq_Ct l yX6_copy wsX6_copy { frames := 1, cells := 0, slots := 0, locals := 48 } (dC, dI) vwCl (xq_tys cI cB cJ cZ cM) z ad [.ref a_p0, .ref a_p1] [(a_p1, .inr (6, oX6 moI moR)), (a_p0, .inr (6, oX6 mo2I mo2R)), ((moR 6), .inl (cI, 7, .inl mo_rowsF)), ((mo2R 6), .inl (cI, 7, .inl mo2_rowsF)), ((moR 7), .inl (cI, 6, .inl mo_talksF)), ((mo2R 7), .inl (cI, 6, .inl mo2_talksF))] [(a_p1, .inr (6, oX6 moI moR)), (a_p0, .inr (6, oX6 r0 mo2R)), ((moR 6), .inl (cI, 7, .inl mo_rowsF)), ((mo2R 6), .inl (cI, 7, .inl r1)), ((moR 7), .inl (cI, 6, .inl mo_talksF)), ((mo2R 7), .inl (cI, 6, .inl r2))] none := by
  intro sz
  refine Met.ofW (cc := cX6_copy) (maxL := 2) (ret := none) (by decide) rfl ?_
  intro p e s m args below meth c s₁ B hml hv
  obtain ⟨rfl, hsz, hP, hK, hD0, hE, hz⟩ := hv
  have hx := B.exec
  have hb := B.bytes
  have hr := B.returns
  have hts := atoms_spec (ws := wsX6_copy) B.pre
  have hown : s.vm.findClass RX6 = some m.cls := findClass_of_methodNamed B.named
  have hlocks := B.notSynchronized
  subst hsz
  have hD := hD0.self (sz := s.heap.size)
  have hN := xq_Env.of hE hz hD0
  generalize hAe : va_A [(a_p1, .inr (6, oX6 moI moR)), (a_p0, .inr (6, oX6 mo2I mo2R)), ((moR 6), .inl (cI, 7, .inl mo_rowsF)), ((mo2R 6), .inl (cI, 7, .inl mo2_rowsF)), ((moR 7), .inl (cI, 6, .inl mo_talksF)), ((mo2R 7), .inl (cI, 6, .inl mo2_talksF))] s.heap.size = A at hD hN ⊢
  have hA : ∀ q : Nat, s.heap.size ≤ q → A q := fun q h => by rw [← hAe]; exact Or.inr h
  clear hAe hD0
  have hS : va_S A s.heap s.heap [] := va_S.rf
  have hl := lv_entry ([.ref a_p0, .ref a_p1]) (n := 2) (Nat.le_of_ble_eq_true rfl)
  rw [lg_entry_eq]
  generalize (lg_sl ([.ref a_p0, .ref a_p1]) ++ List.replicate (2 - (lg_sl ([.ref a_p0, .ref a_p1])).length) Slot.unset).toArray = ls at hl ⊢
  have hl : lv_has ls 2 [(0, .ref a_p0), (1, .ref a_p1)] := hl
  have hw0 := hts (.fieldLink RX6 9 "DistantVoice$Moment" "night" "I") (by decide +kernel)
  have hinX6 : ∀ w ∈ wsX60, w ∈ wsX6_copy := fun w h => List.mem_cons_of_mem _ (List.mem_append_right _ h)
  have hw2 := hts (.fieldLink RX6 15 "DistantVoice$Moment" "mile" "I") (by decide +kernel)
  have hw3 := hts (.fieldLink RX6 18 "DistantVoice$Moment" "rounds" "I") (by decide +kernel)
  have hw4 := hts (.fieldLink RX6 21 "DistantVoice$Moment" "talking" "I") (by decide +kernel)
  have hw5 := hts (.fieldLink RX6 24 "DistantVoice$Moment" "hush" "I") (by decide +kernel)
  have hw6 := hts (.fieldLink RX6 27 "DistantVoice$Moment" "keptCount" "I") (by decide +kernel)
  have hw7 := hts (.fieldLink RX6 30 "DistantVoice$Moment" "rows" "[I") (by decide +kernel)
  have hw8 := hts (.methodLink RX6 46 arraycopyName) (by decide +kernel)
  have hw9 := hts (.native arraycopyName) (by decide +kernel)
  have hw10 := hts (.static arraycopyName) (by decide +kernel)
  have hw11 := hts (.initialized "java/lang/System") (by decide +kernel)
  have hw12 := hts (.fieldLink RX6 34 "DistantVoice$Moment" "talks" "[I") (by decide +kernel)
  unfold fX6_copy at hf
  refine lv_aload_n hx hb dX6_copy_0 rfl (lv_at hl 0 rfl) ?_
  refine lv_aload_n hx hb dX6_copy_1 rfl (lv_at hl 1 rfl) ?_
  refine va_get (D := (dC, dI)) (ci := 6) (v := .int (moI 0)) (C := RX6) (T := TX6) (N := 8) hx hb hts hinX6 hown hK hP 0 rfl rfl 0 (by decide) hw0 (fun _ h9 => h9) rfl dX6_copy_2 ?_
  refine va_put (D := (dC, dI)) (ci := 6) (v := .int (moI 0)) (ty := .int) (C := RX6) (T := TX6) (N := 8) hx hb hts hinX6 tyX6 tyX6_ok nmX6 hown hK hP hD hS 1 rfl rfl 0 (by decide) hw0 (fun _ h9 => h9) rfl (by decide +kernel) rfl rfl (Nat.le_of_ble_eq_true rfl) dX6_copy_5 (fun H locs hP hD hS => ?_)
  have hP : va_P (dC, dI) vwCl [(a_p1, .inr (6, oX6 moI moR)), (a_p0, .inr (6, oX6 (va_up mo2I 0 (moI 0)) mo2R)), ((moR 6), .inl (cI, 7, .inl mo_rowsF)), ((mo2R 6), .inl (cI, 7, .inl mo2_rowsF)), ((moR 7), .inl (cI, 6, .inl mo_talksF)), ((mo2R 7), .inl (cI, 6, .inl mo2_talksF))] H := hP
  have hD : va_D A [(a_p1, .inr (6, oX6 moI moR)), (a_p0, .inr (6, oX6 (va_up mo2I 0 (moI 0)) mo2R)), ((moR 6), .inl (cI, 7, .inl mo_rowsF)), ((mo2R 6), .inl (cI, 7, .inl mo2_rowsF)), ((moR 7), .inl (cI, 6, .inl mo_talksF)), ((mo2R 7), .inl (cI, 6, .inl mo2_talksF))] := hD
  refine lv_aload_n hx hb dX6_copy_8 rfl (lv_at hl 0 rfl) ?_
  refine lv_aload_n hx hb dX6_copy_9 rfl (lv_at hl 1 rfl) ?_
  refine va_get (D := (dC, dI)) (ci := 6) (v := .int (moI 1)) (C := RX6) (T := TX6) (N := 8) hx hb hts hinX6 hown hK hP 0 rfl rfl 1 (by decide) hw2 (fun _ h9 => h9) rfl dX6_copy_10 ?_
  refine va_put (D := (dC, dI)) (ci := 6) (v := .int (moI 1)) (ty := .int) (C := RX6) (T := TX6) (N := 8) hx hb hts hinX6 tyX6 tyX6_ok nmX6 hown hK hP hD hS 1 rfl rfl 1 (by decide) hw2 (fun _ h9 => h9) rfl (by decide +kernel) rfl rfl (Nat.le_of_ble_eq_true rfl) dX6_copy_13 (fun H locs hP hD hS => ?_)
  have hP : va_P (dC, dI) vwCl [(a_p1, .inr (6, oX6 moI moR)), (a_p0, .inr (6, oX6 (va_up (va_up mo2I 0 (moI 0)) 1 (moI 1)) mo2R)), ((moR 6), .inl (cI, 7, .inl mo_rowsF)), ((mo2R 6), .inl (cI, 7, .inl mo2_rowsF)), ((moR 7), .inl (cI, 6, .inl mo_talksF)), ((mo2R 7), .inl (cI, 6, .inl mo2_talksF))] H := hP
  have hD : va_D A [(a_p1, .inr (6, oX6 moI moR)), (a_p0, .inr (6, oX6 (va_up (va_up mo2I 0 (moI 0)) 1 (moI 1)) mo2R)), ((moR 6), .inl (cI, 7, .inl mo_rowsF)), ((mo2R 6), .inl (cI, 7, .inl mo2_rowsF)), ((moR 7), .inl (cI, 6, .inl mo_talksF)), ((mo2R 7), .inl (cI, 6, .inl mo2_talksF))] := hD
  refine lv_aload_n hx hb dX6_copy_16 rfl (lv_at hl 0 rfl) ?_
  refine lv_aload_n hx hb dX6_copy_17 rfl (lv_at hl 1 rfl) ?_
  refine va_get (D := (dC, dI)) (ci := 6) (v := .int (moI 2)) (C := RX6) (T := TX6) (N := 8) hx hb hts hinX6 hown hK hP 0 rfl rfl 2 (by decide) hw3 (fun _ h9 => h9) rfl dX6_copy_18 ?_
  refine va_put (D := (dC, dI)) (ci := 6) (v := .int (moI 2)) (ty := .int) (C := RX6) (T := TX6) (N := 8) hx hb hts hinX6 tyX6 tyX6_ok nmX6 hown hK hP hD hS 1 rfl rfl 2 (by decide) hw3 (fun _ h9 => h9) rfl (by decide +kernel) rfl rfl (Nat.le_of_ble_eq_true rfl) dX6_copy_21 (fun H locs hP hD hS => ?_)
  have hP : va_P (dC, dI) vwCl [(a_p1, .inr (6, oX6 moI moR)), (a_p0, .inr (6, oX6 (va_up (va_up (va_up mo2I 0 (moI 0)) 1 (moI 1)) 2 (moI 2)) mo2R)), ((moR 6), .inl (cI, 7, .inl mo_rowsF)), ((mo2R 6), .inl (cI, 7, .inl mo2_rowsF)), ((moR 7), .inl (cI, 6, .inl mo_talksF)), ((mo2R 7), .inl (cI, 6, .inl mo2_talksF))] H := hP
  have hD : va_D A [(a_p1, .inr (6, oX6 moI moR)), (a_p0, .inr (6, oX6 (va_up (va_up (va_up mo2I 0 (moI 0)) 1 (moI 1)) 2 (moI 2)) mo2R)), ((moR 6), .inl (cI, 7, .inl mo_rowsF)), ((mo2R 6), .inl (cI, 7, .inl mo2_rowsF)), ((moR 7), .inl (cI, 6, .inl mo_talksF)), ((mo2R 7), .inl (cI, 6, .inl mo2_talksF))] := hD
  refine lv_aload_n hx hb dX6_copy_24 rfl (lv_at hl 0 rfl) ?_
  refine lv_aload_n hx hb dX6_copy_25 rfl (lv_at hl 1 rfl) ?_
  refine va_get (D := (dC, dI)) (ci := 6) (v := .int (moI 3)) (C := RX6) (T := TX6) (N := 8) hx hb hts hinX6 hown hK hP 0 rfl rfl 3 (by decide) hw4 (fun _ h9 => h9) rfl dX6_copy_26 ?_
  refine va_put (D := (dC, dI)) (ci := 6) (v := .int (moI 3)) (ty := .int) (C := RX6) (T := TX6) (N := 8) hx hb hts hinX6 tyX6 tyX6_ok nmX6 hown hK hP hD hS 1 rfl rfl 3 (by decide) hw4 (fun _ h9 => h9) rfl (by decide +kernel) rfl rfl (Nat.le_of_ble_eq_true rfl) dX6_copy_29 (fun H locs hP hD hS => ?_)
  have hP : va_P (dC, dI) vwCl [(a_p1, .inr (6, oX6 moI moR)), (a_p0, .inr (6, oX6 (va_up (va_up (va_up (va_up mo2I 0 (moI 0)) 1 (moI 1)) 2 (moI 2)) 3 (moI 3)) mo2R)), ((moR 6), .inl (cI, 7, .inl mo_rowsF)), ((mo2R 6), .inl (cI, 7, .inl mo2_rowsF)), ((moR 7), .inl (cI, 6, .inl mo_talksF)), ((mo2R 7), .inl (cI, 6, .inl mo2_talksF))] H := hP
  have hD : va_D A [(a_p1, .inr (6, oX6 moI moR)), (a_p0, .inr (6, oX6 (va_up (va_up (va_up (va_up mo2I 0 (moI 0)) 1 (moI 1)) 2 (moI 2)) 3 (moI 3)) mo2R)), ((moR 6), .inl (cI, 7, .inl mo_rowsF)), ((mo2R 6), .inl (cI, 7, .inl mo2_rowsF)), ((moR 7), .inl (cI, 6, .inl mo_talksF)), ((mo2R 7), .inl (cI, 6, .inl mo2_talksF))] := hD
  refine lv_aload_n hx hb dX6_copy_32 rfl (lv_at hl 0 rfl) ?_
  refine lv_aload_n hx hb dX6_copy_33 rfl (lv_at hl 1 rfl) ?_
  refine va_get (D := (dC, dI)) (ci := 6) (v := .int (moI 4)) (C := RX6) (T := TX6) (N := 8) hx hb hts hinX6 hown hK hP 0 rfl rfl 4 (by decide) hw5 (fun _ h9 => h9) rfl dX6_copy_34 ?_
  refine va_put (D := (dC, dI)) (ci := 6) (v := .int (moI 4)) (ty := .int) (C := RX6) (T := TX6) (N := 8) hx hb hts hinX6 tyX6 tyX6_ok nmX6 hown hK hP hD hS 1 rfl rfl 4 (by decide) hw5 (fun _ h9 => h9) rfl (by decide +kernel) rfl rfl (Nat.le_of_ble_eq_true rfl) dX6_copy_37 (fun H locs hP hD hS => ?_)
  have hP : va_P (dC, dI) vwCl [(a_p1, .inr (6, oX6 moI moR)), (a_p0, .inr (6, oX6 (va_up (va_up (va_up (va_up (va_up mo2I 0 (moI 0)) 1 (moI 1)) 2 (moI 2)) 3 (moI 3)) 4 (moI 4)) mo2R)), ((moR 6), .inl (cI, 7, .inl mo_rowsF)), ((mo2R 6), .inl (cI, 7, .inl mo2_rowsF)), ((moR 7), .inl (cI, 6, .inl mo_talksF)), ((mo2R 7), .inl (cI, 6, .inl mo2_talksF))] H := hP
  have hD : va_D A [(a_p1, .inr (6, oX6 moI moR)), (a_p0, .inr (6, oX6 (va_up (va_up (va_up (va_up (va_up mo2I 0 (moI 0)) 1 (moI 1)) 2 (moI 2)) 3 (moI 3)) 4 (moI 4)) mo2R)), ((moR 6), .inl (cI, 7, .inl mo_rowsF)), ((mo2R 6), .inl (cI, 7, .inl mo2_rowsF)), ((moR 7), .inl (cI, 6, .inl mo_talksF)), ((mo2R 7), .inl (cI, 6, .inl mo2_talksF))] := hD
  refine lv_aload_n hx hb dX6_copy_40 rfl (lv_at hl 0 rfl) ?_
  refine lv_aload_n hx hb dX6_copy_41 rfl (lv_at hl 1 rfl) ?_
  refine va_get (D := (dC, dI)) (ci := 6) (v := .int (moI 5)) (C := RX6) (T := TX6) (N := 8) hx hb hts hinX6 hown hK hP 0 rfl rfl 5 (by decide) hw6 (fun _ h9 => h9) rfl dX6_copy_42 ?_
  refine va_put (D := (dC, dI)) (ci := 6) (v := .int (moI 5)) (ty := .int) (C := RX6) (T := TX6) (N := 8) hx hb hts hinX6 tyX6 tyX6_ok nmX6 hown hK hP hD hS 1 rfl rfl 5 (by decide) hw6 (fun _ h9 => h9) rfl (by decide +kernel) rfl rfl (Nat.le_of_ble_eq_true rfl) dX6_copy_45 (fun H locs hP hD hS => ?_)
  have hP : va_P (dC, dI) vwCl [(a_p1, .inr (6, oX6 moI moR)), (a_p0, .inr (6, oX6 (va_up (va_up (va_up (va_up (va_up (va_up mo2I 0 (moI 0)) 1 (moI 1)) 2 (moI 2)) 3 (moI 3)) 4 (moI 4)) 5 (moI 5)) mo2R)), ((moR 6), .inl (cI, 7, .inl mo_rowsF)), ((mo2R 6), .inl (cI, 7, .inl mo2_rowsF)), ((moR 7), .inl (cI, 6, .inl mo_talksF)), ((mo2R 7), .inl (cI, 6, .inl mo2_talksF))] H := hP
  have hD : va_D A [(a_p1, .inr (6, oX6 moI moR)), (a_p0, .inr (6, oX6 (va_up (va_up (va_up (va_up (va_up (va_up mo2I 0 (moI 0)) 1 (moI 1)) 2 (moI 2)) 3 (moI 3)) 4 (moI 4)) 5 (moI 5)) mo2R)), ((moR 6), .inl (cI, 7, .inl mo_rowsF)), ((mo2R 6), .inl (cI, 7, .inl mo2_rowsF)), ((moR 7), .inl (cI, 6, .inl mo_talksF)), ((mo2R 7), .inl (cI, 6, .inl mo2_talksF))] := hD
  refine lv_aload_n hx hb dX6_copy_48 rfl (lv_at hl 1 rfl) ?_
  refine va_get (D := (dC, dI)) (ci := 6) (v := .ref ((moR 6))) (C := RX6) (T := TX6) (N := 8) hx hb hts hinX6 hown hK hP 0 rfl rfl 6 (by decide) hw7 (fun _ h9 => h9) rfl dX6_copy_49 ?_
  refine lv_iconst (v := 0) hx hb dX6_copy_52 (by decide) ?_
  refine lv_aload_n hx hb dX6_copy_53 rfl (lv_at hl 0 rfl) ?_
  refine va_get (D := (dC, dI)) (ci := 6) (v := .ref ((mo2R 6))) (C := RX6) (T := TX6) (N := 8) hx hb hts hinX6 hown hK hP 1 rfl rfl 6 (by decide) hw7 (fun _ h9 => h9) rfl dX6_copy_54 ?_
  refine lv_iconst (v := 0) hx hb dX6_copy_57 (by decide) ?_
  refine lv_bipush (v := 7) hx hb dX6_copy_58 (by decide) ?_
  obtain ⟨g_1, hz, hf⟩ := xq_bd_some hf
  obtain ⟨u1, u2, u3, u4, u5, rfl⟩ := xq_cpy_some hz
  refine va_copyi hx hb (hml.trans hl.1.symm) hown hw8 hw9 hw10 hw11 hK hP hD hS 2 3 0 0 rfl rfl rfl rfl rfl u1 u2 u3 u4 u5 (fun _ _ => rfl) (Nat.le_of_ble_eq_true rfl) (Nat.le_of_ble_eq_true rfl) dX6_copy_60 (fun H locs hP hD hS => ?_)
  have hP : va_P (dC, dI) vwCl [(a_p1, .inr (6, oX6 moI moR)), (a_p0, .inr (6, oX6 (va_up (va_up (va_up (va_up (va_up (va_up mo2I 0 (moI 0)) 1 (moI 1)) 2 (moI 2)) 3 (moI 3)) 4 (moI 4)) 5 (moI 5)) mo2R)), ((moR 6), .inl (cI, 7, .inl mo_rowsF)), ((mo2R 6), .inl (cI, 7, .inl ((va_cpy mo_rowsF mo2_rowsF (0 : Int32).toNatClampNeg (0 : Int32).toNatClampNeg (7 : Int32).toNatClampNeg)))), ((moR 7), .inl (cI, 6, .inl mo_talksF)), ((mo2R 7), .inl (cI, 6, .inl mo2_talksF))] H := hP
  have hD : va_D A [(a_p1, .inr (6, oX6 moI moR)), (a_p0, .inr (6, oX6 (va_up (va_up (va_up (va_up (va_up (va_up mo2I 0 (moI 0)) 1 (moI 1)) 2 (moI 2)) 3 (moI 3)) 4 (moI 4)) 5 (moI 5)) mo2R)), ((moR 6), .inl (cI, 7, .inl mo_rowsF)), ((mo2R 6), .inl (cI, 7, .inl ((va_cpy mo_rowsF mo2_rowsF (0 : Int32).toNatClampNeg (0 : Int32).toNatClampNeg (7 : Int32).toNatClampNeg)))), ((moR 7), .inl (cI, 6, .inl mo_talksF)), ((mo2R 7), .inl (cI, 6, .inl mo2_talksF))] := hD
  refine lv_aload_n hx hb dX6_copy_63 rfl (lv_at hl 1 rfl) ?_
  refine va_get (D := (dC, dI)) (ci := 6) (v := .ref ((moR 7))) (C := RX6) (T := TX6) (N := 8) hx hb hts hinX6 hown hK hP 0 rfl rfl 7 (by decide) hw12 (fun _ h9 => h9) rfl dX6_copy_64 ?_
  refine lv_iconst (v := 0) hx hb dX6_copy_67 (by decide) ?_
  refine lv_aload_n hx hb dX6_copy_68 rfl (lv_at hl 0 rfl) ?_
  refine va_get (D := (dC, dI)) (ci := 6) (v := .ref ((mo2R 7))) (C := RX6) (T := TX6) (N := 8) hx hb hts hinX6 hown hK hP 1 rfl rfl 7 (by decide) hw12 (fun _ h9 => h9) rfl dX6_copy_69 ?_
  refine lv_iconst (v := 0) hx hb dX6_copy_72 (by decide) ?_
  refine lv_bipush (v := 6) hx hb dX6_copy_73 (by decide) ?_
  obtain ⟨g_2, hz, hf⟩ := xq_bd_some hf
  obtain ⟨u1, u2, u3, u4, u5, rfl⟩ := xq_cpy_some hz
  refine va_copyi hx hb (hml.trans hl.1.symm) hown hw8 hw9 hw10 hw11 hK hP hD hS 4 5 0 0 rfl rfl rfl rfl rfl u1 u2 u3 u4 u5 (fun _ _ => rfl) (Nat.le_of_ble_eq_true rfl) (Nat.le_of_ble_eq_true rfl) dX6_copy_75 (fun H locs hP hD hS => ?_)
  have hP : va_P (dC, dI) vwCl [(a_p1, .inr (6, oX6 moI moR)), (a_p0, .inr (6, oX6 (va_up (va_up (va_up (va_up (va_up (va_up mo2I 0 (moI 0)) 1 (moI 1)) 2 (moI 2)) 3 (moI 3)) 4 (moI 4)) 5 (moI 5)) mo2R)), ((moR 6), .inl (cI, 7, .inl mo_rowsF)), ((mo2R 6), .inl (cI, 7, .inl ((va_cpy mo_rowsF mo2_rowsF (0 : Int32).toNatClampNeg (0 : Int32).toNatClampNeg (7 : Int32).toNatClampNeg)))), ((moR 7), .inl (cI, 6, .inl mo_talksF)), ((mo2R 7), .inl (cI, 6, .inl ((va_cpy mo_talksF mo2_talksF (0 : Int32).toNatClampNeg (0 : Int32).toNatClampNeg (6 : Int32).toNatClampNeg))))] H := hP
  have hD : va_D A [(a_p1, .inr (6, oX6 moI moR)), (a_p0, .inr (6, oX6 (va_up (va_up (va_up (va_up (va_up (va_up mo2I 0 (moI 0)) 1 (moI 1)) 2 (moI 2)) 3 (moI 3)) 4 (moI 4)) 5 (moI 5)) mo2R)), ((moR 6), .inl (cI, 7, .inl mo_rowsF)), ((mo2R 6), .inl (cI, 7, .inl ((va_cpy mo_rowsF mo2_rowsF (0 : Int32).toNatClampNeg (0 : Int32).toNatClampNeg (7 : Int32).toNatClampNeg)))), ((moR 7), .inl (cI, 6, .inl mo_talksF)), ((mo2R 7), .inl (cI, 6, .inl ((va_cpy mo_talksF mo2_talksF (0 : Int32).toNatClampNeg (0 : Int32).toNatClampNeg (6 : Int32).toNatClampNeg))))] := hD
  cases hf
  exact xq_vret hx hb hr hlocks hK hP hD hS dX6_copy_78
def dsX6_nextNight_0 : List (Nat × Instr × Nat) := [(0, (.aload_n 0, 1)), (1, (.sipush 999, 3)), (4, (.aload_n 0, 1)), (5, (.getfield 9, 3)), (8, (.iconst 1, 1)), (9, (.iadd, 1)), (10, (.invokestatic 53, 3)), (13, (.putfield 9, 3)), (16, (.return_, 1))]
theorem dsX6_nextNight_0_ok : (dsX6_nextNight_0.all fun q => decide (decode cX6_nextNight q.1 = .ok q.2)) = true := by decide +kernel
theorem dX6_nextNight_0 : decode cX6_nextNight 0 = .ok (.aload_n 0, 1) := of_decide_eq_true (List.all_eq_true.mp dsX6_nextNight_0_ok (0, (.aload_n 0, 1)) (List.mem_of_getElem? (i := 0) rfl))
theorem dX6_nextNight_1 : decode cX6_nextNight 1 = .ok (.sipush 999, 3) := of_decide_eq_true (List.all_eq_true.mp dsX6_nextNight_0_ok (1, (.sipush 999, 3)) (List.mem_of_getElem? (i := 1) rfl))
theorem dX6_nextNight_4 : decode cX6_nextNight 4 = .ok (.aload_n 0, 1) := of_decide_eq_true (List.all_eq_true.mp dsX6_nextNight_0_ok (4, (.aload_n 0, 1)) (List.mem_of_getElem? (i := 2) rfl))
theorem dX6_nextNight_5 : decode cX6_nextNight 5 = .ok (.getfield 9, 3) := of_decide_eq_true (List.all_eq_true.mp dsX6_nextNight_0_ok (5, (.getfield 9, 3)) (List.mem_of_getElem? (i := 3) rfl))
theorem dX6_nextNight_8 : decode cX6_nextNight 8 = .ok (.iconst 1, 1) := of_decide_eq_true (List.all_eq_true.mp dsX6_nextNight_0_ok (8, (.iconst 1, 1)) (List.mem_of_getElem? (i := 4) rfl))
theorem dX6_nextNight_9 : decode cX6_nextNight 9 = .ok (.iadd, 1) := of_decide_eq_true (List.all_eq_true.mp dsX6_nextNight_0_ok (9, (.iadd, 1)) (List.mem_of_getElem? (i := 5) rfl))
theorem dX6_nextNight_10 : decode cX6_nextNight 10 = .ok (.invokestatic 53, 3) := of_decide_eq_true (List.all_eq_true.mp dsX6_nextNight_0_ok (10, (.invokestatic 53, 3)) (List.mem_of_getElem? (i := 6) rfl))
theorem dX6_nextNight_13 : decode cX6_nextNight 13 = .ok (.putfield 9, 3) := of_decide_eq_true (List.all_eq_true.mp dsX6_nextNight_0_ok (13, (.putfield 9, 3)) (List.mem_of_getElem? (i := 7) rfl))
theorem dX6_nextNight_16 : decode cX6_nextNight 16 = .ok (.return_, 1) := of_decide_eq_true (List.all_eq_true.mp dsX6_nextNight_0_ok (16, (.return_, 1)) (List.mem_of_getElem? (i := 8) rfl))
def fX6_nextNight (N : Nat) (moI : Nat → Int32)   : Option ((Nat → Int32)) :=
  some ((va_up moI 0 (xq_min 999 ((moI 0) + 1))))
set_option maxHeartbeats 4000000 in
set_option maxRecDepth 100000 in
theorem kX6_nextNight (l : Launch) (dC : Nat → ClassId) (dI : Nat → Nat → Nat) (cI cB cJ cZ cM : ClassId) (z : Nat) (ad : Nat → Nat) (N : Nat) (a_p0 : Nat) (moI : Nat → Int32) (moR : Nat → Nat) {r0 : Nat → Int32} (hf : fX6_nextNight N moI = some r0) : xq_Ct l yX6_nextNight wsX6_nextNight { frames := 1, cells := 0, slots := 0, locals := 24 } (dC, dI) vwCl (xq_tys cI cB cJ cZ cM) z ad [.ref a_p0] [(a_p0, .inr (6, oX6 moI moR))] [(a_p0, .inr (6, oX6 r0 moR))] none := by
  intro sz
  refine Met.ofW (cc := cX6_nextNight) (maxL := 1) (ret := none) (by decide) rfl ?_
  intro p e s m args below meth c s₁ B hml hv
  obtain ⟨rfl, hsz, hP, hK, hD0, hE, hz⟩ := hv
  have hx := B.exec
  have hb := B.bytes
  have hr := B.returns
  have hts := atoms_spec (ws := wsX6_nextNight) B.pre
  have hown : s.vm.findClass RX6 = some m.cls := findClass_of_methodNamed B.named
  have hlocks := B.notSynchronized
  subst hsz
  have hD := hD0.self (sz := s.heap.size)
  have hN := xq_Env.of hE hz hD0
  generalize hAe : va_A [(a_p0, .inr (6, oX6 moI moR))] s.heap.size = A at hD hN ⊢
  have hA : ∀ q : Nat, s.heap.size ≤ q → A q := fun q h => by rw [← hAe]; exact Or.inr h
  clear hAe hD0
  have hS : va_S A s.heap s.heap [] := va_S.rf
  have hl := lv_entry ([.ref a_p0]) (n := 1) (Nat.le_of_ble_eq_true rfl)
  rw [lg_entry_eq]
  generalize (lg_sl ([.ref a_p0]) ++ List.replicate (1 - (lg_sl ([.ref a_p0])).length) Slot.unset).toArray = ls at hl ⊢
  have hl : lv_has ls 1 [(0, .ref a_p0)] := hl
  have hw0 := hts (.fieldLink RX6 9 "DistantVoice$Moment" "night" "I") (by decide +kernel)
  have hinX6 : ∀ w ∈ wsX60, w ∈ wsX6_nextNight := fun w h => List.mem_cons_of_mem _ (List.mem_append_right _ h)
  have hw2 := hts (.methodLink RX6 53 Lib.Math.min.name) (by decide +kernel)
  have hw3 := hts (.static Lib.Math.min.name) (by decide +kernel)
  have hw4 := hts (.initialized "java/lang/Math") (by decide +kernel)
  have hw5 := hts (.code Lib.Math.min.name Lib.Math.min.code 2 (some .int)) (by decide +kernel)
  unfold fX6_nextNight at hf
  refine lv_aload_n hx hb dX6_nextNight_0 rfl (lv_at hl 0 rfl) ?_
  refine lv_sipush (v := 999) hx hb dX6_nextNight_1 (by decide) ?_
  refine lv_aload_n hx hb dX6_nextNight_4 rfl (lv_at hl 0 rfl) ?_
  refine va_get (D := (dC, dI)) (ci := 6) (v := .int (moI 0)) (C := RX6) (T := TX6) (N := 8) hx hb hts hinX6 hown hK hP 0 rfl rfl 0 (by decide) hw0 (fun _ h9 => h9) rfl dX6_nextNight_5 ?_
  refine lv_iconst (v := 1) hx hb dX6_nextNight_8 (by decide) ?_
  refine lv_iadd hx hb dX6_nextNight_9 ?_
  refine va_mmin hx hb (hml.trans hl.1.symm) hown hw2 hw3 hw4 hw5 (Nat.le_of_ble_eq_true rfl) (Nat.le_of_ble_eq_true rfl) (Nat.zero_le _) (Nat.zero_le _) dX6_nextNight_10 ?_
  refine W.eq (g2 := F0 m 13 ls [.int (xq_min 999 ((moI 0) + 1)), .ref a_p0]) rfl ?_
  refine va_put (D := (dC, dI)) (ci := 6) (v := .int (xq_min 999 ((moI 0) + 1))) (ty := .int) (C := RX6) (T := TX6) (N := 8) hx hb hts hinX6 tyX6 tyX6_ok nmX6 hown hK hP hD hS 0 rfl rfl 0 (by decide) hw0 (fun _ h9 => h9) rfl (by decide +kernel) rfl rfl (Nat.le_of_ble_eq_true rfl) dX6_nextNight_13 (fun H locs hP hD hS => ?_)
  have hP : va_P (dC, dI) vwCl [(a_p0, .inr (6, oX6 (va_up moI 0 (xq_min 999 ((moI 0) + 1))) moR))] H := hP
  have hD : va_D A [(a_p0, .inr (6, oX6 (va_up moI 0 (xq_min 999 ((moI 0) + 1))) moR))] := hD
  cases hf
  exact xq_vret hx hb hr hlocks hK hP hD hS dX6_nextNight_16
def dsX7_keep_0 : List (Nat × Instr × Nat) := [(0, (.iload_n 1, 1)), (1, (.ifCond .lt 30, 3)), (4, (.iload_n 1, 1)), (5, (.aload_n 0, 1)), (6, (.getfield 24, 3)), (9, (.arraylength, 1)), (10, (.if_icmp .ge 21, 3)), (13, (.aload_n 0, 1)), (14, (.getfield 24, 3)), (17, (.iload_n 1, 1)), (18, (.iload_n 2, 1)), (19, (.bipush 15, 2)), (21, (.ishl, 1)), (22, (.iload_n 3, 1)), (23, (.bipush 7, 2)), (25, (.ishl, 1)), (26, (.ior, 1)), (27, (.iload 4, 2)), (29, (.ior, 1)), (30, (.iastore, 1)), (31, (.return_, 1))]
theorem dsX7_keep_0_ok : (dsX7_keep_0.all fun q => decide (decode cX7_keep q.1 = .ok q.2)) = true := by decide +kernel
theorem dX7_keep_0 : decode cX7_keep 0 = .ok (.iload_n 1, 1) := of_decide_eq_true (List.all_eq_true.mp dsX7_keep_0_ok (0, (.iload_n 1, 1)) (List.mem_of_getElem? (i := 0) rfl))
theorem dX7_keep_1 : decode cX7_keep 1 = .ok (.ifCond .lt 30, 3) := of_decide_eq_true (List.all_eq_true.mp dsX7_keep_0_ok (1, (.ifCond .lt 30, 3)) (List.mem_of_getElem? (i := 1) rfl))
theorem dX7_keep_4 : decode cX7_keep 4 = .ok (.iload_n 1, 1) := of_decide_eq_true (List.all_eq_true.mp dsX7_keep_0_ok (4, (.iload_n 1, 1)) (List.mem_of_getElem? (i := 2) rfl))
theorem dX7_keep_5 : decode cX7_keep 5 = .ok (.aload_n 0, 1) := of_decide_eq_true (List.all_eq_true.mp dsX7_keep_0_ok (5, (.aload_n 0, 1)) (List.mem_of_getElem? (i := 3) rfl))
theorem dX7_keep_6 : decode cX7_keep 6 = .ok (.getfield 24, 3) := of_decide_eq_true (List.all_eq_true.mp dsX7_keep_0_ok (6, (.getfield 24, 3)) (List.mem_of_getElem? (i := 4) rfl))
theorem dX7_keep_9 : decode cX7_keep 9 = .ok (.arraylength, 1) := of_decide_eq_true (List.all_eq_true.mp dsX7_keep_0_ok (9, (.arraylength, 1)) (List.mem_of_getElem? (i := 5) rfl))
theorem dX7_keep_10 : decode cX7_keep 10 = .ok (.if_icmp .ge 21, 3) := of_decide_eq_true (List.all_eq_true.mp dsX7_keep_0_ok (10, (.if_icmp .ge 21, 3)) (List.mem_of_getElem? (i := 6) rfl))
theorem dX7_keep_13 : decode cX7_keep 13 = .ok (.aload_n 0, 1) := of_decide_eq_true (List.all_eq_true.mp dsX7_keep_0_ok (13, (.aload_n 0, 1)) (List.mem_of_getElem? (i := 7) rfl))
theorem dX7_keep_14 : decode cX7_keep 14 = .ok (.getfield 24, 3) := of_decide_eq_true (List.all_eq_true.mp dsX7_keep_0_ok (14, (.getfield 24, 3)) (List.mem_of_getElem? (i := 8) rfl))
theorem dX7_keep_17 : decode cX7_keep 17 = .ok (.iload_n 1, 1) := of_decide_eq_true (List.all_eq_true.mp dsX7_keep_0_ok (17, (.iload_n 1, 1)) (List.mem_of_getElem? (i := 9) rfl))
theorem dX7_keep_18 : decode cX7_keep 18 = .ok (.iload_n 2, 1) := of_decide_eq_true (List.all_eq_true.mp dsX7_keep_0_ok (18, (.iload_n 2, 1)) (List.mem_of_getElem? (i := 10) rfl))
theorem dX7_keep_19 : decode cX7_keep 19 = .ok (.bipush 15, 2) := of_decide_eq_true (List.all_eq_true.mp dsX7_keep_0_ok (19, (.bipush 15, 2)) (List.mem_of_getElem? (i := 11) rfl))
theorem dX7_keep_21 : decode cX7_keep 21 = .ok (.ishl, 1) := of_decide_eq_true (List.all_eq_true.mp dsX7_keep_0_ok (21, (.ishl, 1)) (List.mem_of_getElem? (i := 12) rfl))
theorem dX7_keep_22 : decode cX7_keep 22 = .ok (.iload_n 3, 1) := of_decide_eq_true (List.all_eq_true.mp dsX7_keep_0_ok (22, (.iload_n 3, 1)) (List.mem_of_getElem? (i := 13) rfl))
theorem dX7_keep_23 : decode cX7_keep 23 = .ok (.bipush 7, 2) := of_decide_eq_true (List.all_eq_true.mp dsX7_keep_0_ok (23, (.bipush 7, 2)) (List.mem_of_getElem? (i := 14) rfl))
theorem dX7_keep_25 : decode cX7_keep 25 = .ok (.ishl, 1) := of_decide_eq_true (List.all_eq_true.mp dsX7_keep_0_ok (25, (.ishl, 1)) (List.mem_of_getElem? (i := 15) rfl))
theorem dX7_keep_26 : decode cX7_keep 26 = .ok (.ior, 1) := of_decide_eq_true (List.all_eq_true.mp dsX7_keep_0_ok (26, (.ior, 1)) (List.mem_of_getElem? (i := 16) rfl))
theorem dX7_keep_27 : decode cX7_keep 27 = .ok (.iload 4, 2) := of_decide_eq_true (List.all_eq_true.mp dsX7_keep_0_ok (27, (.iload 4, 2)) (List.mem_of_getElem? (i := 17) rfl))
theorem dX7_keep_29 : decode cX7_keep 29 = .ok (.ior, 1) := of_decide_eq_true (List.all_eq_true.mp dsX7_keep_0_ok (29, (.ior, 1)) (List.mem_of_getElem? (i := 18) rfl))
theorem dX7_keep_30 : decode cX7_keep 30 = .ok (.iastore, 1) := of_decide_eq_true (List.all_eq_true.mp dsX7_keep_0_ok (30, (.iastore, 1)) (List.mem_of_getElem? (i := 19) rfl))
theorem dX7_keep_31 : decode cX7_keep 31 = .ok (.return_, 1) := of_decide_eq_true (List.all_eq_true.mp dsX7_keep_0_ok (31, (.return_, 1)) (List.mem_of_getElem? (i := 20) rfl))
def fX7_keep (N : Nat) (pa_keptRowsF : Nat → Int32)  (p1 : Int32) (p2 : Int32) (p3 : Int32) (p4 : Int32) : Option ((Nat → Int32)) :=
  (if p1 < 0 then some pa_keptRowsF else (if 999 ≤ p1 then some pa_keptRowsF else (xq_bd (xq_ast 999 pa_keptRowsF p1 (((p2 <<< (15 &&& 31)) ||| (p3 <<< (7 &&& 31))) ||| p4)) fun g_1 => some g_1)))
set_option maxHeartbeats 4000000 in
set_option maxRecDepth 100000 in
theorem kX7_keep (l : Launch) (dC : Nat → ClassId) (dI : Nat → Nat → Nat) (cI cB cJ cZ cM : ClassId) (z : Nat) (ad : Nat → Nat) (N : Nat) (a_p0 : Nat) (paI : Nat → Int32) (paR : Nat → Nat) (pa_keptRowsF : Nat → Int32) (p1 : Int32) (p2 : Int32) (p3 : Int32) (p4 : Int32) {r0 : Nat → Int32} (hf : fX7_keep N pa_keptRowsF p1 p2 p3 p4 = some r0) : xq_Ct l yX7_keep wsX7_keep { frames := 0, cells := 0, slots := 0, locals := 0 } (dC, dI) vwCl (xq_tys cI cB cJ cZ cM) z ad [.ref a_p0, .int p1, .int p2, .int p3, .int p4] [(a_p0, .inr (7, oX7 paI paR)), ((paR 3), .inl (cI, 999, .inl pa_keptRowsF))] [(a_p0, .inr (7, oX7 paI paR)), ((paR 3), .inl (cI, 999, .inl r0))] none := by
  intro sz
  refine Met.ofW (cc := cX7_keep) (maxL := 5) (ret := none) (by decide) rfl ?_
  intro p e s m args below meth c s₁ B hml hv
  obtain ⟨rfl, hsz, hP, hK, hD0, hE, hz⟩ := hv
  have hx := B.exec
  have hb := B.bytes
  have hr := B.returns
  have hts := atoms_spec (ws := wsX7_keep) B.pre
  have hown : s.vm.findClass RX7 = some m.cls := findClass_of_methodNamed B.named
  have hlocks := B.notSynchronized
  subst hsz
  have hD := hD0.self (sz := s.heap.size)
  have hN := xq_Env.of hE hz hD0
  generalize hAe : va_A [(a_p0, .inr (7, oX7 paI paR)), ((paR 3), .inl (cI, 999, .inl pa_keptRowsF))] s.heap.size = A at hD hN ⊢
  have hA : ∀ q : Nat, s.heap.size ≤ q → A q := fun q h => by rw [← hAe]; exact Or.inr h
  clear hAe hD0
  have hS : va_S A s.heap s.heap [] := va_S.rf
  have hl := lv_entry ([.ref a_p0, .int p1, .int p2, .int p3, .int p4]) (n := 5) (Nat.le_of_ble_eq_true rfl)
  rw [lg_entry_eq]
  generalize (lg_sl ([.ref a_p0, .int p1, .int p2, .int p3, .int p4]) ++ List.replicate (5 - (lg_sl ([.ref a_p0, .int p1, .int p2, .int p3, .int p4])).length) Slot.unset).toArray = ls at hl ⊢
  have hl : lv_has ls 5 [(0, .ref a_p0), (1, .int p1), (2, .int p2), (3, .int p3), (4, .int p4)] := hl
  have hw0 := hts (.fieldLink RX7 24 "DistantVoice$Past" "keptRows" "[I") (by decide +kernel)
  have hinX7 : ∀ w ∈ wsX70, w ∈ wsX7_keep := fun w h => List.mem_cons_of_mem _ (List.mem_append_right _ h)
  unfold fX7_keep at hf
  refine lv_iload_n hx hb dX7_keep_0 rfl (lv_at hl 1 rfl) ?_
  refine lv_if_lt (tgt := 31) hx hb dX7_keep_1 (by decide) (fun c_ => ?_) (fun c_ => ?_)
  · have hf := xq_pos hf c_
    cases hf
    exact xq_vret hx hb hr hlocks hK hP hD hS dX7_keep_31
  · have hf := xq_neg hf c_
    refine lv_iload_n hx hb dX7_keep_4 rfl (lv_at hl 1 rfl) ?_
    refine lv_aload_n hx hb dX7_keep_5 rfl (lv_at hl 0 rfl) ?_
    refine va_get (D := (dC, dI)) (ci := 7) (v := .ref ((paR 3))) (C := RX7) (T := TX7) (N := 4) hx hb hts hinX7 hown hK hP 0 rfl rfl 3 (by decide) hw0 (fun _ h9 => h9) rfl dX7_keep_6 ?_
    refine va_alen hx hb hK hP 1 0 (v := 999) rfl rfl rfl dX7_keep_9 ?_
    refine lv_icmp_ge (tgt := 31) hx hb dX7_keep_10 (by decide) (fun c_ => ?_) (fun c_ => ?_)
    · have hf := xq_pos hf c_
      cases hf
      exact xq_vret hx hb hr hlocks hK hP hD hS dX7_keep_31
    · have hf := xq_neg hf c_
      refine lv_aload_n hx hb dX7_keep_13 rfl (lv_at hl 0 rfl) ?_
      refine va_get (D := (dC, dI)) (ci := 7) (v := .ref ((paR 3))) (C := RX7) (T := TX7) (N := 4) hx hb hts hinX7 hown hK hP 0 rfl rfl 3 (by decide) hw0 (fun _ h9 => h9) rfl dX7_keep_14 ?_
      refine lv_iload_n hx hb dX7_keep_17 rfl (lv_at hl 1 rfl) ?_
      refine lv_iload_n hx hb dX7_keep_18 rfl (lv_at hl 2 rfl) ?_
      refine lv_bipush (v := 15) hx hb dX7_keep_19 (by decide) ?_
      refine lv_ishl hx hb dX7_keep_21 ?_
      refine lv_iload_n hx hb dX7_keep_22 rfl (lv_at hl 3 rfl) ?_
      refine lv_bipush (v := 7) hx hb dX7_keep_23 (by decide) ?_
      refine lv_ishl hx hb dX7_keep_25 ?_
      refine lv_ior hx hb dX7_keep_26 ?_
      refine lv_iload hx hb dX7_keep_27 (lv_at hl 4 rfl) ?_
      refine lv_ior hx hb dX7_keep_29 ?_
      refine xq_iast hx hb hK hP hD hS 1 0 rfl rfl hf dX7_keep_30 (fun g_1 H locs hf hP hD hS => ?_)
      have hP : va_P (dC, dI) vwCl [(a_p0, .inr (7, oX7 paI paR)), ((paR 3), .inl (cI, 999, .inl g_1))] H := hP
      have hD : va_D A [(a_p0, .inr (7, oX7 paI paR)), ((paR 3), .inl (cI, 999, .inl g_1))] := hD
      cases hf
      exact xq_vret hx hb hr hlocks hK hP hD hS dX7_keep_31
def dsX7_keptRow_0 : List (Nat × Instr × Nat) := [(0, (.iload_n 1, 1)), (1, (.ifCond .lt 12, 3)), (4, (.iload_n 1, 1)), (5, (.aload_n 0, 1)), (6, (.getfield 24, 3)), (9, (.arraylength, 1)), (10, (.if_icmp .lt 7, 3)), (13, (.iconst 0, 1)), (14, (.goto 9, 3)), (17, (.aload_n 0, 1)), (18, (.getfield 24, 3)), (21, (.iload_n 1, 1)), (22, (.iaload, 1)), (23, (.ireturn, 1))]
theorem dsX7_keptRow_0_ok : (dsX7_keptRow_0.all fun q => decide (decode cX7_keptRow q.1 = .ok q.2)) = true := by decide +kernel
theorem dX7_keptRow_0 : decode cX7_keptRow 0 = .ok (.iload_n 1, 1) := of_decide_eq_true (List.all_eq_true.mp dsX7_keptRow_0_ok (0, (.iload_n 1, 1)) (List.mem_of_getElem? (i := 0) rfl))
theorem dX7_keptRow_1 : decode cX7_keptRow 1 = .ok (.ifCond .lt 12, 3) := of_decide_eq_true (List.all_eq_true.mp dsX7_keptRow_0_ok (1, (.ifCond .lt 12, 3)) (List.mem_of_getElem? (i := 1) rfl))
theorem dX7_keptRow_4 : decode cX7_keptRow 4 = .ok (.iload_n 1, 1) := of_decide_eq_true (List.all_eq_true.mp dsX7_keptRow_0_ok (4, (.iload_n 1, 1)) (List.mem_of_getElem? (i := 2) rfl))
theorem dX7_keptRow_5 : decode cX7_keptRow 5 = .ok (.aload_n 0, 1) := of_decide_eq_true (List.all_eq_true.mp dsX7_keptRow_0_ok (5, (.aload_n 0, 1)) (List.mem_of_getElem? (i := 3) rfl))
theorem dX7_keptRow_6 : decode cX7_keptRow 6 = .ok (.getfield 24, 3) := of_decide_eq_true (List.all_eq_true.mp dsX7_keptRow_0_ok (6, (.getfield 24, 3)) (List.mem_of_getElem? (i := 4) rfl))
theorem dX7_keptRow_9 : decode cX7_keptRow 9 = .ok (.arraylength, 1) := of_decide_eq_true (List.all_eq_true.mp dsX7_keptRow_0_ok (9, (.arraylength, 1)) (List.mem_of_getElem? (i := 5) rfl))
theorem dX7_keptRow_10 : decode cX7_keptRow 10 = .ok (.if_icmp .lt 7, 3) := of_decide_eq_true (List.all_eq_true.mp dsX7_keptRow_0_ok (10, (.if_icmp .lt 7, 3)) (List.mem_of_getElem? (i := 6) rfl))
theorem dX7_keptRow_13 : decode cX7_keptRow 13 = .ok (.iconst 0, 1) := of_decide_eq_true (List.all_eq_true.mp dsX7_keptRow_0_ok (13, (.iconst 0, 1)) (List.mem_of_getElem? (i := 7) rfl))
theorem dX7_keptRow_14 : decode cX7_keptRow 14 = .ok (.goto 9, 3) := of_decide_eq_true (List.all_eq_true.mp dsX7_keptRow_0_ok (14, (.goto 9, 3)) (List.mem_of_getElem? (i := 8) rfl))
theorem dX7_keptRow_17 : decode cX7_keptRow 17 = .ok (.aload_n 0, 1) := of_decide_eq_true (List.all_eq_true.mp dsX7_keptRow_0_ok (17, (.aload_n 0, 1)) (List.mem_of_getElem? (i := 9) rfl))
theorem dX7_keptRow_18 : decode cX7_keptRow 18 = .ok (.getfield 24, 3) := of_decide_eq_true (List.all_eq_true.mp dsX7_keptRow_0_ok (18, (.getfield 24, 3)) (List.mem_of_getElem? (i := 10) rfl))
theorem dX7_keptRow_21 : decode cX7_keptRow 21 = .ok (.iload_n 1, 1) := of_decide_eq_true (List.all_eq_true.mp dsX7_keptRow_0_ok (21, (.iload_n 1, 1)) (List.mem_of_getElem? (i := 11) rfl))
theorem dX7_keptRow_22 : decode cX7_keptRow 22 = .ok (.iaload, 1) := of_decide_eq_true (List.all_eq_true.mp dsX7_keptRow_0_ok (22, (.iaload, 1)) (List.mem_of_getElem? (i := 12) rfl))
theorem dX7_keptRow_23 : decode cX7_keptRow 23 = .ok (.ireturn, 1) := of_decide_eq_true (List.all_eq_true.mp dsX7_keptRow_0_ok (23, (.ireturn, 1)) (List.mem_of_getElem? (i := 13) rfl))
def fX7_keptRow (N : Nat) (pa_keptRowsF : Nat → Int32)  (p1 : Int32) : Option (Int32) :=
  (if p1 < 0 then some 0 else (if p1 < 999 then (xq_bd (xq_ald 999 pa_keptRowsF p1) fun v_1 => some v_1) else some 0))
set_option maxHeartbeats 4000000 in
set_option maxRecDepth 100000 in
theorem kX7_keptRow (l : Launch) (dC : Nat → ClassId) (dI : Nat → Nat → Nat) (cI cB cJ cZ cM : ClassId) (z : Nat) (ad : Nat → Nat) (N : Nat) (a_p0 : Nat) (paI : Nat → Int32) (paR : Nat → Nat) (pa_keptRowsF : Nat → Int32) (p1 : Int32) {r0 : Int32} (hf : fX7_keptRow N pa_keptRowsF p1 = some r0) : xq_Ct l yX7_keptRow wsX7_keptRow { frames := 0, cells := 0, slots := 0, locals := 0 } (dC, dI) vwCl (xq_tys cI cB cJ cZ cM) z ad [.ref a_p0, .int p1] [(a_p0, .inr (7, oX7 paI paR)), ((paR 3), .inl (cI, 999, .inl pa_keptRowsF))] [(a_p0, .inr (7, oX7 paI paR)), ((paR 3), .inl (cI, 999, .inl pa_keptRowsF))] (some (.int r0)) := by
  intro sz
  refine Met.ofW (cc := cX7_keptRow) (maxL := 2) (ret := (some .int)) (by decide) rfl ?_
  intro p e s m args below meth c s₁ B hml hv
  obtain ⟨rfl, hsz, hP, hK, hD0, hE, hz⟩ := hv
  have hx := B.exec
  have hb := B.bytes
  have hr := B.returns
  have hts := atoms_spec (ws := wsX7_keptRow) B.pre
  have hown : s.vm.findClass RX7 = some m.cls := findClass_of_methodNamed B.named
  have hlocks := B.notSynchronized
  subst hsz
  have hD := hD0.self (sz := s.heap.size)
  have hN := xq_Env.of hE hz hD0
  generalize hAe : va_A [(a_p0, .inr (7, oX7 paI paR)), ((paR 3), .inl (cI, 999, .inl pa_keptRowsF))] s.heap.size = A at hD hN ⊢
  have hA : ∀ q : Nat, s.heap.size ≤ q → A q := fun q h => by rw [← hAe]; exact Or.inr h
  clear hAe hD0
  have hS : va_S A s.heap s.heap [] := va_S.rf
  have hl := lv_entry ([.ref a_p0, .int p1]) (n := 2) (Nat.le_of_ble_eq_true rfl)
  rw [lg_entry_eq]
  generalize (lg_sl ([.ref a_p0, .int p1]) ++ List.replicate (2 - (lg_sl ([.ref a_p0, .int p1])).length) Slot.unset).toArray = ls at hl ⊢
  have hl : lv_has ls 2 [(0, .ref a_p0), (1, .int p1)] := hl
  have hw0 := hts (.fieldLink RX7 24 "DistantVoice$Past" "keptRows" "[I") (by decide +kernel)
  have hinX7 : ∀ w ∈ wsX70, w ∈ wsX7_keptRow := fun w h => List.mem_cons_of_mem _ (List.mem_append_right _ h)
  unfold fX7_keptRow at hf
  refine lv_iload_n hx hb dX7_keptRow_0 rfl (lv_at hl 1 rfl) ?_
  refine lv_if_lt (tgt := 13) hx hb dX7_keptRow_1 (by decide) (fun c_ => ?_) (fun c_ => ?_)
  · have hf := xq_pos hf c_
    refine lv_iconst (v := 0) hx hb dX7_keptRow_13 (by decide) ?_
    refine lv_goto (tgt := 23) hx hb dX7_keptRow_14 (by decide) ?_
    cases hf
    exact xq_iret hx hb hr hlocks hK hP hD hS dX7_keptRow_23
  · have hf := xq_neg hf c_
    refine lv_iload_n hx hb dX7_keptRow_4 rfl (lv_at hl 1 rfl) ?_
    refine lv_aload_n hx hb dX7_keptRow_5 rfl (lv_at hl 0 rfl) ?_
    refine va_get (D := (dC, dI)) (ci := 7) (v := .ref ((paR 3))) (C := RX7) (T := TX7) (N := 4) hx hb hts hinX7 hown hK hP 0 rfl rfl 3 (by decide) hw0 (fun _ h9 => h9) rfl dX7_keptRow_6 ?_
    refine va_alen hx hb hK hP 1 0 (v := 999) rfl rfl rfl dX7_keptRow_9 ?_
    refine lv_icmp_lt (tgt := 17) hx hb dX7_keptRow_10 (by decide) (fun c_ => ?_) (fun c_ => ?_)
    · have hf := xq_pos hf c_
      refine lv_aload_n hx hb dX7_keptRow_17 rfl (lv_at hl 0 rfl) ?_
      refine va_get (D := (dC, dI)) (ci := 7) (v := .ref ((paR 3))) (C := RX7) (T := TX7) (N := 4) hx hb hts hinX7 hown hK hP 0 rfl rfl 3 (by decide) hw0 (fun _ h9 => h9) rfl dX7_keptRow_18 ?_
      refine lv_iload_n hx hb dX7_keptRow_21 rfl (lv_at hl 1 rfl) ?_
      refine xq_iald hx hb hK hP 1 0 rfl rfl hf dX7_keptRow_22 (fun v_1 hf => ?_)
      cases hf
      exact xq_iret hx hb hr hlocks hK hP hD hS dX7_keptRow_23
    · have hf := xq_neg hf c_
      refine lv_iconst (v := 0) hx hb dX7_keptRow_13 (by decide) ?_
      refine lv_goto (tgt := 23) hx hb dX7_keptRow_14 (by decide) ?_
      cases hf
      exact xq_iret hx hb hr hlocks hK hP hD hS dX7_keptRow_23
def dsX8_gainOf_0 : List (Nat × Instr × Nat) := [(0, (.aload_n 0, 1)), (1, (.getfield 9, 3)), (4, (.iload_n 1, 1)), (5, (.bipush 10, 2)), (7, (.imul, 1)), (8, (.iload_n 2, 1)), (9, (.iadd, 1)), (10, (.iaload, 1)), (11, (.aload_n 0, 1)), (12, (.getfield 15, 3)), (15, (.iload_n 3, 1)), (16, (.iconst 1, 1)), (17, (.iload_n 2, 1)), (18, (.ishl, 1)), (19, (.ior, 1)), (20, (.iaload, 1)), (21, (.iadd, 1)), (22, (.ireturn, 1))]
theorem dsX8_gainOf_0_ok : (dsX8_gainOf_0.all fun q => decide (decode cX8_gainOf q.1 = .ok q.2)) = true := by decide +kernel
theorem dX8_gainOf_0 : decode cX8_gainOf 0 = .ok (.aload_n 0, 1) := of_decide_eq_true (List.all_eq_true.mp dsX8_gainOf_0_ok (0, (.aload_n 0, 1)) (List.mem_of_getElem? (i := 0) rfl))
theorem dX8_gainOf_1 : decode cX8_gainOf 1 = .ok (.getfield 9, 3) := of_decide_eq_true (List.all_eq_true.mp dsX8_gainOf_0_ok (1, (.getfield 9, 3)) (List.mem_of_getElem? (i := 1) rfl))
theorem dX8_gainOf_4 : decode cX8_gainOf 4 = .ok (.iload_n 1, 1) := of_decide_eq_true (List.all_eq_true.mp dsX8_gainOf_0_ok (4, (.iload_n 1, 1)) (List.mem_of_getElem? (i := 2) rfl))
theorem dX8_gainOf_5 : decode cX8_gainOf 5 = .ok (.bipush 10, 2) := of_decide_eq_true (List.all_eq_true.mp dsX8_gainOf_0_ok (5, (.bipush 10, 2)) (List.mem_of_getElem? (i := 3) rfl))
theorem dX8_gainOf_7 : decode cX8_gainOf 7 = .ok (.imul, 1) := of_decide_eq_true (List.all_eq_true.mp dsX8_gainOf_0_ok (7, (.imul, 1)) (List.mem_of_getElem? (i := 4) rfl))
theorem dX8_gainOf_8 : decode cX8_gainOf 8 = .ok (.iload_n 2, 1) := of_decide_eq_true (List.all_eq_true.mp dsX8_gainOf_0_ok (8, (.iload_n 2, 1)) (List.mem_of_getElem? (i := 5) rfl))
theorem dX8_gainOf_9 : decode cX8_gainOf 9 = .ok (.iadd, 1) := of_decide_eq_true (List.all_eq_true.mp dsX8_gainOf_0_ok (9, (.iadd, 1)) (List.mem_of_getElem? (i := 6) rfl))
theorem dX8_gainOf_10 : decode cX8_gainOf 10 = .ok (.iaload, 1) := of_decide_eq_true (List.all_eq_true.mp dsX8_gainOf_0_ok (10, (.iaload, 1)) (List.mem_of_getElem? (i := 7) rfl))
theorem dX8_gainOf_11 : decode cX8_gainOf 11 = .ok (.aload_n 0, 1) := of_decide_eq_true (List.all_eq_true.mp dsX8_gainOf_0_ok (11, (.aload_n 0, 1)) (List.mem_of_getElem? (i := 8) rfl))
theorem dX8_gainOf_12 : decode cX8_gainOf 12 = .ok (.getfield 15, 3) := of_decide_eq_true (List.all_eq_true.mp dsX8_gainOf_0_ok (12, (.getfield 15, 3)) (List.mem_of_getElem? (i := 9) rfl))
theorem dX8_gainOf_15 : decode cX8_gainOf 15 = .ok (.iload_n 3, 1) := of_decide_eq_true (List.all_eq_true.mp dsX8_gainOf_0_ok (15, (.iload_n 3, 1)) (List.mem_of_getElem? (i := 10) rfl))
theorem dX8_gainOf_16 : decode cX8_gainOf 16 = .ok (.iconst 1, 1) := of_decide_eq_true (List.all_eq_true.mp dsX8_gainOf_0_ok (16, (.iconst 1, 1)) (List.mem_of_getElem? (i := 11) rfl))
theorem dX8_gainOf_17 : decode cX8_gainOf 17 = .ok (.iload_n 2, 1) := of_decide_eq_true (List.all_eq_true.mp dsX8_gainOf_0_ok (17, (.iload_n 2, 1)) (List.mem_of_getElem? (i := 12) rfl))
theorem dX8_gainOf_18 : decode cX8_gainOf 18 = .ok (.ishl, 1) := of_decide_eq_true (List.all_eq_true.mp dsX8_gainOf_0_ok (18, (.ishl, 1)) (List.mem_of_getElem? (i := 13) rfl))
theorem dX8_gainOf_19 : decode cX8_gainOf 19 = .ok (.ior, 1) := of_decide_eq_true (List.all_eq_true.mp dsX8_gainOf_0_ok (19, (.ior, 1)) (List.mem_of_getElem? (i := 14) rfl))
theorem dX8_gainOf_20 : decode cX8_gainOf 20 = .ok (.iaload, 1) := of_decide_eq_true (List.all_eq_true.mp dsX8_gainOf_0_ok (20, (.iaload, 1)) (List.mem_of_getElem? (i := 15) rfl))
theorem dX8_gainOf_21 : decode cX8_gainOf 21 = .ok (.iadd, 1) := of_decide_eq_true (List.all_eq_true.mp dsX8_gainOf_0_ok (21, (.iadd, 1)) (List.mem_of_getElem? (i := 16) rfl))
theorem dX8_gainOf_22 : decode cX8_gainOf 22 = .ok (.ireturn, 1) := of_decide_eq_true (List.all_eq_true.mp dsX8_gainOf_0_ok (22, (.ireturn, 1)) (List.mem_of_getElem? (i := 17) rfl))
def fX8_gainOf (N : Nat) (se_gainsF : Nat → Int32) (se_bestF : Nat → Int32)  (p1 : Int32) (p2 : Int32) (p3 : Int32) : Option (Int32) :=
  (xq_bd (xq_ald 70 se_gainsF ((p1 * 10) + p2)) fun v_1 => (xq_bd (xq_ald 1024 se_bestF (p3 ||| (1 <<< (p2 &&& 31)))) fun v_2 => some (v_1 + v_2)))
set_option maxHeartbeats 4000000 in
set_option maxRecDepth 100000 in
theorem kX8_gainOf (l : Launch) (dC : Nat → ClassId) (dI : Nat → Nat → Nat) (cI cB cJ cZ cM : ClassId) (z : Nat) (ad : Nat → Nat) (N : Nat) (a_p0 : Nat) (seI : Nat → Int32) (seR : Nat → Nat) (se_gainsF : Nat → Int32) (se_bestF : Nat → Int32) (p1 : Int32) (p2 : Int32) (p3 : Int32) {r0 : Int32} (hf : fX8_gainOf N se_gainsF se_bestF p1 p2 p3 = some r0) : xq_Ct l yX8_gainOf wsX8_gainOf { frames := 0, cells := 0, slots := 0, locals := 0 } (dC, dI) vwCl (xq_tys cI cB cJ cZ cM) z ad [.ref a_p0, .int p1, .int p2, .int p3] [(a_p0, .inr (8, oX8 seI seR)), ((seR 0), .inl (cI, 70, .inl se_gainsF)), ((seR 1), .inl (cI, 1024, .inl se_bestF))] [(a_p0, .inr (8, oX8 seI seR)), ((seR 0), .inl (cI, 70, .inl se_gainsF)), ((seR 1), .inl (cI, 1024, .inl se_bestF))] (some (.int r0)) := by
  intro sz
  refine Met.ofW (cc := cX8_gainOf) (maxL := 4) (ret := (some .int)) (by decide) rfl ?_
  intro p e s m args below meth c s₁ B hml hv
  obtain ⟨rfl, hsz, hP, hK, hD0, hE, hz⟩ := hv
  have hx := B.exec
  have hb := B.bytes
  have hr := B.returns
  have hts := atoms_spec (ws := wsX8_gainOf) B.pre
  have hown : s.vm.findClass RX8 = some m.cls := findClass_of_methodNamed B.named
  have hlocks := B.notSynchronized
  subst hsz
  have hD := hD0.self (sz := s.heap.size)
  have hN := xq_Env.of hE hz hD0
  generalize hAe : va_A [(a_p0, .inr (8, oX8 seI seR)), ((seR 0), .inl (cI, 70, .inl se_gainsF)), ((seR 1), .inl (cI, 1024, .inl se_bestF))] s.heap.size = A at hD hN ⊢
  have hA : ∀ q : Nat, s.heap.size ≤ q → A q := fun q h => by rw [← hAe]; exact Or.inr h
  clear hAe hD0
  have hS : va_S A s.heap s.heap [] := va_S.rf
  have hl := lv_entry ([.ref a_p0, .int p1, .int p2, .int p3]) (n := 4) (Nat.le_of_ble_eq_true rfl)
  rw [lg_entry_eq]
  generalize (lg_sl ([.ref a_p0, .int p1, .int p2, .int p3]) ++ List.replicate (4 - (lg_sl ([.ref a_p0, .int p1, .int p2, .int p3])).length) Slot.unset).toArray = ls at hl ⊢
  have hl : lv_has ls 4 [(0, .ref a_p0), (1, .int p1), (2, .int p2), (3, .int p3)] := hl
  have hw0 := hts (.fieldLink RX8 9 "DistantVoice$Seating" "gains" "[I") (by decide +kernel)
  have hinX8 : ∀ w ∈ wsX80, w ∈ wsX8_gainOf := fun w h => List.mem_cons_of_mem _ (List.mem_append_right _ h)
  have hw2 := hts (.fieldLink RX8 15 "DistantVoice$Seating" "best" "[I") (by decide +kernel)
  unfold fX8_gainOf at hf
  refine lv_aload_n hx hb dX8_gainOf_0 rfl (lv_at hl 0 rfl) ?_
  refine va_get (D := (dC, dI)) (ci := 8) (v := .ref ((seR 0))) (C := RX8) (T := TX8) (N := 3) hx hb hts hinX8 hown hK hP 0 rfl rfl 0 (by decide) hw0 (fun _ h9 => h9) rfl dX8_gainOf_1 ?_
  refine lv_iload_n hx hb dX8_gainOf_4 rfl (lv_at hl 1 rfl) ?_
  refine lv_bipush (v := 10) hx hb dX8_gainOf_5 (by decide) ?_
  refine lv_imul hx hb dX8_gainOf_7 ?_
  refine lv_iload_n hx hb dX8_gainOf_8 rfl (lv_at hl 2 rfl) ?_
  refine lv_iadd hx hb dX8_gainOf_9 ?_
  refine xq_iald hx hb hK hP 1 0 rfl rfl hf dX8_gainOf_10 (fun v_1 hf => ?_)
  refine lv_aload_n hx hb dX8_gainOf_11 rfl (lv_at hl 0 rfl) ?_
  refine va_get (D := (dC, dI)) (ci := 8) (v := .ref ((seR 1))) (C := RX8) (T := TX8) (N := 3) hx hb hts hinX8 hown hK hP 0 rfl rfl 1 (by decide) hw2 (fun _ h9 => h9) rfl dX8_gainOf_12 ?_
  refine lv_iload_n hx hb dX8_gainOf_15 rfl (lv_at hl 3 rfl) ?_
  refine lv_iconst (v := 1) hx hb dX8_gainOf_16 (by decide) ?_
  refine lv_iload_n hx hb dX8_gainOf_17 rfl (lv_at hl 2 rfl) ?_
  refine lv_ishl hx hb dX8_gainOf_18 ?_
  refine lv_ior hx hb dX8_gainOf_19 ?_
  refine xq_iald hx hb hK hP 2 0 rfl rfl hf dX8_gainOf_20 (fun v_2 hf => ?_)
  refine lv_iadd hx hb dX8_gainOf_21 ?_
  cases hf
  exact xq_iret hx hb hr hlocks hK hP hD hS dX8_gainOf_22
set_option maxRecDepth 20000 in
theorem ggX8_bestRow_X8_gainOf : GoodIn wsX8_bestRow wsX8_gainOf := goodIn_r _ [5, 6, 7, 8, 9, 10] rfl (by decide +kernel)
set_option maxRecDepth 20000 in
theorem gX8_bestRow_X8_gainOf : GoodIn wsX8_bestRow (wsV RX8 31 RX8 yX8_gainOf wsX8_gainOf) := goodIn_app (goodIn_of _ (by decide +kernel)) ggX8_bestRow_X8_gainOf
def dsX8_bestRow_0 : List (Nat × Instr × Nat) := [(0, (.iconst (-1), 1)), (1, (.istore_n 3, 1)), (2, (.iconst 0, 1)), (3, (.istore 4, 2)), (5, (.iload 4, 2)), (7, (.bipush 10, 2)), (9, (.if_icmp .ge 56, 3)), (12, (.iload_n 2, 1)), (13, (.iload 4, 2)), (15, (.ishr, 1)), (16, (.iconst 1, 1)), (17, (.iand, 1)), (18, (.ifCond .ne 7, 3)), (21, (.iconst 1, 1)), (22, (.goto 4, 3)), (25, (.iconst 0, 1)), (26, (.istore 5, 2)), (28, (.iload 5, 2)), (30, (.ifCond .eq 29, 3)), (33, (.iload_n 3, 1)), (34, (.iconst (-1), 1)), (35, (.if_icmp .eq 21, 3)), (38, (.aload_n 0, 1)), (39, (.iload_n 1, 1)), (40, (.iload 4, 2)), (42, (.iload_n 2, 1)), (43, (.invokevirtual 31, 3)), (46, (.aload_n 0, 1)), (47, (.iload_n 1, 1)), (48, (.iload_n 3, 1)), (49, (.iload_n 2, 1)), (50, (.invokevirtual 31, 3)), (53, (.if_icmp .le 6, 3)), (56, (.iload 4, 2)), (58, (.istore_n 3, 1)), (59, (.iinc 4 1, 3)), (62, (.goto (-57), 3)), (65, (.iload_n 3, 1)), (66, (.ireturn, 1))]
theorem dsX8_bestRow_0_ok : (dsX8_bestRow_0.all fun q => decide (decode cX8_bestRow q.1 = .ok q.2)) = true := by decide +kernel
theorem dX8_bestRow_0 : decode cX8_bestRow 0 = .ok (.iconst (-1), 1) := of_decide_eq_true (List.all_eq_true.mp dsX8_bestRow_0_ok (0, (.iconst (-1), 1)) (List.mem_of_getElem? (i := 0) rfl))
theorem dX8_bestRow_1 : decode cX8_bestRow 1 = .ok (.istore_n 3, 1) := of_decide_eq_true (List.all_eq_true.mp dsX8_bestRow_0_ok (1, (.istore_n 3, 1)) (List.mem_of_getElem? (i := 1) rfl))
theorem dX8_bestRow_2 : decode cX8_bestRow 2 = .ok (.iconst 0, 1) := of_decide_eq_true (List.all_eq_true.mp dsX8_bestRow_0_ok (2, (.iconst 0, 1)) (List.mem_of_getElem? (i := 2) rfl))
theorem dX8_bestRow_3 : decode cX8_bestRow 3 = .ok (.istore 4, 2) := of_decide_eq_true (List.all_eq_true.mp dsX8_bestRow_0_ok (3, (.istore 4, 2)) (List.mem_of_getElem? (i := 3) rfl))
theorem dX8_bestRow_5 : decode cX8_bestRow 5 = .ok (.iload 4, 2) := of_decide_eq_true (List.all_eq_true.mp dsX8_bestRow_0_ok (5, (.iload 4, 2)) (List.mem_of_getElem? (i := 4) rfl))
theorem dX8_bestRow_7 : decode cX8_bestRow 7 = .ok (.bipush 10, 2) := of_decide_eq_true (List.all_eq_true.mp dsX8_bestRow_0_ok (7, (.bipush 10, 2)) (List.mem_of_getElem? (i := 5) rfl))
theorem dX8_bestRow_9 : decode cX8_bestRow 9 = .ok (.if_icmp .ge 56, 3) := of_decide_eq_true (List.all_eq_true.mp dsX8_bestRow_0_ok (9, (.if_icmp .ge 56, 3)) (List.mem_of_getElem? (i := 6) rfl))
theorem dX8_bestRow_12 : decode cX8_bestRow 12 = .ok (.iload_n 2, 1) := of_decide_eq_true (List.all_eq_true.mp dsX8_bestRow_0_ok (12, (.iload_n 2, 1)) (List.mem_of_getElem? (i := 7) rfl))
theorem dX8_bestRow_13 : decode cX8_bestRow 13 = .ok (.iload 4, 2) := of_decide_eq_true (List.all_eq_true.mp dsX8_bestRow_0_ok (13, (.iload 4, 2)) (List.mem_of_getElem? (i := 8) rfl))
theorem dX8_bestRow_15 : decode cX8_bestRow 15 = .ok (.ishr, 1) := of_decide_eq_true (List.all_eq_true.mp dsX8_bestRow_0_ok (15, (.ishr, 1)) (List.mem_of_getElem? (i := 9) rfl))
theorem dX8_bestRow_16 : decode cX8_bestRow 16 = .ok (.iconst 1, 1) := of_decide_eq_true (List.all_eq_true.mp dsX8_bestRow_0_ok (16, (.iconst 1, 1)) (List.mem_of_getElem? (i := 10) rfl))
theorem dX8_bestRow_17 : decode cX8_bestRow 17 = .ok (.iand, 1) := of_decide_eq_true (List.all_eq_true.mp dsX8_bestRow_0_ok (17, (.iand, 1)) (List.mem_of_getElem? (i := 11) rfl))
theorem dX8_bestRow_18 : decode cX8_bestRow 18 = .ok (.ifCond .ne 7, 3) := of_decide_eq_true (List.all_eq_true.mp dsX8_bestRow_0_ok (18, (.ifCond .ne 7, 3)) (List.mem_of_getElem? (i := 12) rfl))
theorem dX8_bestRow_21 : decode cX8_bestRow 21 = .ok (.iconst 1, 1) := of_decide_eq_true (List.all_eq_true.mp dsX8_bestRow_0_ok (21, (.iconst 1, 1)) (List.mem_of_getElem? (i := 13) rfl))
theorem dX8_bestRow_22 : decode cX8_bestRow 22 = .ok (.goto 4, 3) := of_decide_eq_true (List.all_eq_true.mp dsX8_bestRow_0_ok (22, (.goto 4, 3)) (List.mem_of_getElem? (i := 14) rfl))
theorem dX8_bestRow_25 : decode cX8_bestRow 25 = .ok (.iconst 0, 1) := of_decide_eq_true (List.all_eq_true.mp dsX8_bestRow_0_ok (25, (.iconst 0, 1)) (List.mem_of_getElem? (i := 15) rfl))
theorem dX8_bestRow_26 : decode cX8_bestRow 26 = .ok (.istore 5, 2) := of_decide_eq_true (List.all_eq_true.mp dsX8_bestRow_0_ok (26, (.istore 5, 2)) (List.mem_of_getElem? (i := 16) rfl))
theorem dX8_bestRow_28 : decode cX8_bestRow 28 = .ok (.iload 5, 2) := of_decide_eq_true (List.all_eq_true.mp dsX8_bestRow_0_ok (28, (.iload 5, 2)) (List.mem_of_getElem? (i := 17) rfl))
theorem dX8_bestRow_30 : decode cX8_bestRow 30 = .ok (.ifCond .eq 29, 3) := of_decide_eq_true (List.all_eq_true.mp dsX8_bestRow_0_ok (30, (.ifCond .eq 29, 3)) (List.mem_of_getElem? (i := 18) rfl))
theorem dX8_bestRow_33 : decode cX8_bestRow 33 = .ok (.iload_n 3, 1) := of_decide_eq_true (List.all_eq_true.mp dsX8_bestRow_0_ok (33, (.iload_n 3, 1)) (List.mem_of_getElem? (i := 19) rfl))
theorem dX8_bestRow_34 : decode cX8_bestRow 34 = .ok (.iconst (-1), 1) := of_decide_eq_true (List.all_eq_true.mp dsX8_bestRow_0_ok (34, (.iconst (-1), 1)) (List.mem_of_getElem? (i := 20) rfl))
theorem dX8_bestRow_35 : decode cX8_bestRow 35 = .ok (.if_icmp .eq 21, 3) := of_decide_eq_true (List.all_eq_true.mp dsX8_bestRow_0_ok (35, (.if_icmp .eq 21, 3)) (List.mem_of_getElem? (i := 21) rfl))
theorem dX8_bestRow_38 : decode cX8_bestRow 38 = .ok (.aload_n 0, 1) := of_decide_eq_true (List.all_eq_true.mp dsX8_bestRow_0_ok (38, (.aload_n 0, 1)) (List.mem_of_getElem? (i := 22) rfl))
theorem dX8_bestRow_39 : decode cX8_bestRow 39 = .ok (.iload_n 1, 1) := of_decide_eq_true (List.all_eq_true.mp dsX8_bestRow_0_ok (39, (.iload_n 1, 1)) (List.mem_of_getElem? (i := 23) rfl))
theorem dX8_bestRow_40 : decode cX8_bestRow 40 = .ok (.iload 4, 2) := of_decide_eq_true (List.all_eq_true.mp dsX8_bestRow_0_ok (40, (.iload 4, 2)) (List.mem_of_getElem? (i := 24) rfl))
theorem dX8_bestRow_42 : decode cX8_bestRow 42 = .ok (.iload_n 2, 1) := of_decide_eq_true (List.all_eq_true.mp dsX8_bestRow_0_ok (42, (.iload_n 2, 1)) (List.mem_of_getElem? (i := 25) rfl))
theorem dX8_bestRow_43 : decode cX8_bestRow 43 = .ok (.invokevirtual 31, 3) := of_decide_eq_true (List.all_eq_true.mp dsX8_bestRow_0_ok (43, (.invokevirtual 31, 3)) (List.mem_of_getElem? (i := 26) rfl))
theorem dX8_bestRow_46 : decode cX8_bestRow 46 = .ok (.aload_n 0, 1) := of_decide_eq_true (List.all_eq_true.mp dsX8_bestRow_0_ok (46, (.aload_n 0, 1)) (List.mem_of_getElem? (i := 27) rfl))
theorem dX8_bestRow_47 : decode cX8_bestRow 47 = .ok (.iload_n 1, 1) := of_decide_eq_true (List.all_eq_true.mp dsX8_bestRow_0_ok (47, (.iload_n 1, 1)) (List.mem_of_getElem? (i := 28) rfl))
theorem dX8_bestRow_48 : decode cX8_bestRow 48 = .ok (.iload_n 3, 1) := of_decide_eq_true (List.all_eq_true.mp dsX8_bestRow_0_ok (48, (.iload_n 3, 1)) (List.mem_of_getElem? (i := 29) rfl))
theorem dX8_bestRow_49 : decode cX8_bestRow 49 = .ok (.iload_n 2, 1) := of_decide_eq_true (List.all_eq_true.mp dsX8_bestRow_0_ok (49, (.iload_n 2, 1)) (List.mem_of_getElem? (i := 30) rfl))
theorem dX8_bestRow_50 : decode cX8_bestRow 50 = .ok (.invokevirtual 31, 3) := of_decide_eq_true (List.all_eq_true.mp dsX8_bestRow_0_ok (50, (.invokevirtual 31, 3)) (List.mem_of_getElem? (i := 31) rfl))
theorem dX8_bestRow_53 : decode cX8_bestRow 53 = .ok (.if_icmp .le 6, 3) := of_decide_eq_true (List.all_eq_true.mp dsX8_bestRow_0_ok (53, (.if_icmp .le 6, 3)) (List.mem_of_getElem? (i := 32) rfl))
theorem dX8_bestRow_56 : decode cX8_bestRow 56 = .ok (.iload 4, 2) := of_decide_eq_true (List.all_eq_true.mp dsX8_bestRow_0_ok (56, (.iload 4, 2)) (List.mem_of_getElem? (i := 33) rfl))
theorem dX8_bestRow_58 : decode cX8_bestRow 58 = .ok (.istore_n 3, 1) := of_decide_eq_true (List.all_eq_true.mp dsX8_bestRow_0_ok (58, (.istore_n 3, 1)) (List.mem_of_getElem? (i := 34) rfl))
theorem dX8_bestRow_59 : decode cX8_bestRow 59 = .ok (.iinc 4 1, 3) := of_decide_eq_true (List.all_eq_true.mp dsX8_bestRow_0_ok (59, (.iinc 4 1, 3)) (List.mem_of_getElem? (i := 35) rfl))
theorem dX8_bestRow_62 : decode cX8_bestRow 62 = .ok (.goto (-57), 3) := of_decide_eq_true (List.all_eq_true.mp dsX8_bestRow_0_ok (62, (.goto (-57), 3)) (List.mem_of_getElem? (i := 36) rfl))
theorem dX8_bestRow_65 : decode cX8_bestRow 65 = .ok (.iload_n 3, 1) := of_decide_eq_true (List.all_eq_true.mp dsX8_bestRow_0_ok (65, (.iload_n 3, 1)) (List.mem_of_getElem? (i := 37) rfl))
theorem dX8_bestRow_66 : decode cX8_bestRow 66 = .ok (.ireturn, 1) := of_decide_eq_true (List.all_eq_true.mp dsX8_bestRow_0_ok (66, (.ireturn, 1)) (List.mem_of_getElem? (i := 38) rfl))
def fX8_bestRow_b59 (N : Nat) (se_gainsF : Nat → Int32) (se_bestF : Nat → Int32)  (k5 : (Int32 × Int32 × Int32 × Int32) → Option (Int32)) : (Int32 × Int32 × Int32 × Int32) → Option (Int32) :=
  fun (x1_59, x2_59, x3_59, x4_59) => k5 (x1_59, x2_59, x3_59, x4_59 + 1)
def fX8_bestRow_b56 (N : Nat) (se_gainsF : Nat → Int32) (se_bestF : Nat → Int32)  (k5 : (Int32 × Int32 × Int32 × Int32) → Option (Int32)) : (Int32 × Int32 × Int32) → Option (Int32) :=
  fun (x1_56, x2_56, x4_56) => fX8_bestRow_b59 N se_gainsF se_bestF k5 (x1_56, x2_56, x4_56, x4_56)
def fX8_bestRow_b26 (N : Nat) (se_gainsF : Nat → Int32) (se_bestF : Nat → Int32)  (k5 : (Int32 × Int32 × Int32 × Int32) → Option (Int32)) : (Int32 × Int32 × Int32 × Int32 × Int32) → Option (Int32) :=
  fun (x1_26, x2_26, x3_26, x4_26, y0_26) => (if y0_26 = 0 then fX8_bestRow_b59 N se_gainsF se_bestF k5 (x1_26, x2_26, x3_26, x4_26) else (if x3_26 = ((-1)) then fX8_bestRow_b56 N se_gainsF se_bestF k5 (x1_26, x2_26, x4_26) else (xq_bd (fX8_gainOf N se_gainsF se_bestF x1_26 x4_26 x2_26) fun r_1 => (xq_bd (fX8_gainOf N se_gainsF se_bestF x1_26 x3_26 x2_26) fun r_3 => (if r_1 ≤ r_3 then fX8_bestRow_b59 N se_gainsF se_bestF k5 (x1_26, x2_26, x3_26, x4_26) else fX8_bestRow_b56 N se_gainsF se_bestF k5 (x1_26, x2_26, x4_26))))))
def fX8_bestRow_l5 (N : Nat) (se_gainsF : Nat → Int32) (se_bestF : Nat → Int32)  (k5 : (Int32 × Int32 × Int32 × Int32) → Option (Int32)) : (Int32 × Int32 × Int32 × Int32) → Option (Int32) :=
  fun (x1_5, x2_5, x3_5, x4_5) => (if 10 ≤ x4_5 then some x3_5 else (if ((x2_5 >>> (x4_5 &&& 31)) &&& 1) = 0 then fX8_bestRow_b26 N se_gainsF se_bestF k5 (x1_5, x2_5, x3_5, x4_5, 1) else fX8_bestRow_b26 N se_gainsF se_bestF k5 (x1_5, x2_5, x3_5, x4_5, 0)))
def fX8_bestRow (N : Nat) (se_gainsF : Nat → Int32) (se_bestF : Nat → Int32)  (p1 : Int32) (p2 : Int32) : Option (Int32) :=
  xq_loop (fX8_bestRow_l5 N se_gainsF se_bestF) N (p1, p2, (-1), 0)
set_option maxHeartbeats 4000000 in
set_option maxRecDepth 100000 in
theorem kX8_bestRow (l : Launch) (dC : Nat → ClassId) (dI : Nat → Nat → Nat) (cI cB cJ cZ cM : ClassId) (z : Nat) (ad : Nat → Nat) (N : Nat) (a_p0 : Nat) (seI : Nat → Int32) (seR : Nat → Nat) (se_gainsF : Nat → Int32) (se_bestF : Nat → Int32) (p1 : Int32) (p2 : Int32) {r0 : Int32} (hf : fX8_bestRow N se_gainsF se_bestF p1 p2 = some r0) : xq_Ct l yX8_bestRow wsX8_bestRow { frames := 1, cells := 0, slots := 0, locals := 23 } (dC, dI) vwCl (xq_tys cI cB cJ cZ cM) z ad [.ref a_p0, .int p1, .int p2] [(a_p0, .inr (8, oX8 seI seR)), ((seR 0), .inl (cI, 70, .inl se_gainsF)), ((seR 1), .inl (cI, 1024, .inl se_bestF))] [(a_p0, .inr (8, oX8 seI seR)), ((seR 0), .inl (cI, 70, .inl se_gainsF)), ((seR 1), .inl (cI, 1024, .inl se_bestF))] (some (.int r0)) := by
  intro sz
  refine Met.ofW (cc := cX8_bestRow) (maxL := 6) (ret := (some .int)) (by decide) rfl ?_
  intro p e s m args below meth c s₁ B hml hv
  obtain ⟨rfl, hsz, hP, hK, hD0, hE, hz⟩ := hv
  have hx := B.exec
  have hb := B.bytes
  have hr := B.returns
  have hts := atoms_spec (ws := wsX8_bestRow) B.pre
  have hown : s.vm.findClass RX8 = some m.cls := findClass_of_methodNamed B.named
  have hlocks := B.notSynchronized
  subst hsz
  have hD := hD0.self (sz := s.heap.size)
  have hN := xq_Env.of hE hz hD0
  generalize hAe : va_A [(a_p0, .inr (8, oX8 seI seR)), ((seR 0), .inl (cI, 70, .inl se_gainsF)), ((seR 1), .inl (cI, 1024, .inl se_bestF))] s.heap.size = A at hD hN ⊢
  have hA : ∀ q : Nat, s.heap.size ≤ q → A q := fun q h => by rw [← hAe]; exact Or.inr h
  clear hAe hD0
  have hS : va_S A s.heap s.heap [] := va_S.rf
  have hl := lv_entry ([.ref a_p0, .int p1, .int p2]) (n := 6) (Nat.le_of_ble_eq_true rfl)
  rw [lg_entry_eq]
  generalize (lg_sl ([.ref a_p0, .int p1, .int p2]) ++ List.replicate (6 - (lg_sl ([.ref a_p0, .int p1, .int p2])).length) Slot.unset).toArray = ls at hl ⊢
  have hl : lv_has ls 6 [(0, .ref a_p0), (1, .int p1), (2, .int p2)] := hl
  have l5 : ∀ n5 : Nat, ∀ (x1_5 : Int32) (x2_5 : Int32) (x3_5 : Int32) (x4_5 : Int32) (ls : Array Slot) (H : Heap) (locs : List Loc), xq_loop (fX8_bestRow_l5 N se_gainsF se_bestF) n5 (x1_5, x2_5, x3_5, x4_5) = some r0 → va_P (dC, dI) vwCl [(a_p0, .inr (8, oX8 seI seR)), ((seR 0), .inl (cI, 70, .inl se_gainsF)), ((seR 1), .inl (cI, 1024, .inl se_bestF))] H → va_D A [(a_p0, .inr (8, oX8 seI seR)), ((seR 0), .inl (cI, 70, .inl se_gainsF)), ((seR 1), .inl (cI, 1024, .inl se_bestF))] → va_S A s.heap H locs → lv_has ls 6 [(0, .ref a_p0), (1, .int x1_5), (2, .int x2_5), (3, .int x3_5), (4, .int x4_5)] → W p l e (headSpec wsX8_bestRow { frames := 1, cells := 0, slots := 0, locals := 23 }).room s m [.ref a_p0, .int p1, .int p2].toArray below meth c H locs 0 0 (MQ below (xq_Q (dC, dI) vwCl (xq_tys cI cB cJ cZ cM) A [(a_p0, .inr (8, oX8 seI seR)), ((seR 0), .inl (cI, 70, .inl se_gainsF)), ((seR 1), .inl (cI, 1024, .inl se_bestF))] (some (.int r0))) [.ref a_p0, .int p1, .int p2].toArray s 0 0 A) (F0 m 5 ls []) := by
    intro n5
    induction n5 with
    | zero => intro x1_5 x2_5 x3_5 x4_5 ls H locs hf; cases (show none = some r0 from hf)
    | succ n5 ih5 =>
      have b59 : ∀ (x1_59 : Int32) (x2_59 : Int32) (x3_59 : Int32) (x4_59 : Int32) (ls : Array Slot) (H : Heap) (locs : List Loc), fX8_bestRow_b59 N se_gainsF se_bestF (xq_loop (fX8_bestRow_l5 N se_gainsF se_bestF) n5) (x1_59, x2_59, x3_59, x4_59) = some r0 → va_P (dC, dI) vwCl [(a_p0, .inr (8, oX8 seI seR)), ((seR 0), .inl (cI, 70, .inl se_gainsF)), ((seR 1), .inl (cI, 1024, .inl se_bestF))] H → va_D A [(a_p0, .inr (8, oX8 seI seR)), ((seR 0), .inl (cI, 70, .inl se_gainsF)), ((seR 1), .inl (cI, 1024, .inl se_bestF))] → va_S A s.heap H locs → lv_has ls 6 [(0, .ref a_p0), (1, .int x1_59), (2, .int x2_59), (3, .int x3_59), (4, .int x4_59)] → W p l e (headSpec wsX8_bestRow { frames := 1, cells := 0, slots := 0, locals := 23 }).room s m [.ref a_p0, .int p1, .int p2].toArray below meth c H locs 0 0 (MQ below (xq_Q (dC, dI) vwCl (xq_tys cI cB cJ cZ cM) A [(a_p0, .inr (8, oX8 seI seR)), ((seR 0), .inl (cI, 70, .inl se_gainsF)), ((seR 1), .inl (cI, 1024, .inl se_bestF))] (some (.int r0))) [.ref a_p0, .int p1, .int p2].toArray s 0 0 A) (F0 m 59 ls []) := by
        intro x1_59 x2_59 x3_59 x4_59 ls H locs hf hP hD hS hl
        unfold fX8_bestRow_b59 at hf
        refine lv_iinc (v := x4_59 + 1) (lv' := [(4, .int (x4_59 + 1)), (0, .ref a_p0), (1, .int x1_59), (2, .int x2_59), (3, .int x3_59)]) hx hb dX8_bestRow_59 hl (k := 4) rfl (congrArg (fun q9 => x4_59 + q9) (by decide : Int32.ofInt 1 = 1)) (by decide) rfl (fun ls hl => ?_)
        refine lv_goto (tgt := 5) hx hb dX8_bestRow_62 (by decide) ?_
        exact ih5 x1_59 x2_59 x3_59 (x4_59 + 1) _ _ _ hf hP hD hS (lv_sub hl [1, 2, 3, 4, 0] rfl)
      have b56 : ∀ (x1_56 : Int32) (x2_56 : Int32) (x4_56 : Int32) (ls : Array Slot) (H : Heap) (locs : List Loc), fX8_bestRow_b56 N se_gainsF se_bestF (xq_loop (fX8_bestRow_l5 N se_gainsF se_bestF) n5) (x1_56, x2_56, x4_56) = some r0 → va_P (dC, dI) vwCl [(a_p0, .inr (8, oX8 seI seR)), ((seR 0), .inl (cI, 70, .inl se_gainsF)), ((seR 1), .inl (cI, 1024, .inl se_bestF))] H → va_D A [(a_p0, .inr (8, oX8 seI seR)), ((seR 0), .inl (cI, 70, .inl se_gainsF)), ((seR 1), .inl (cI, 1024, .inl se_bestF))] → va_S A s.heap H locs → lv_has ls 6 [(0, .ref a_p0), (1, .int x1_56), (2, .int x2_56), (4, .int x4_56)] → W p l e (headSpec wsX8_bestRow { frames := 1, cells := 0, slots := 0, locals := 23 }).room s m [.ref a_p0, .int p1, .int p2].toArray below meth c H locs 0 0 (MQ below (xq_Q (dC, dI) vwCl (xq_tys cI cB cJ cZ cM) A [(a_p0, .inr (8, oX8 seI seR)), ((seR 0), .inl (cI, 70, .inl se_gainsF)), ((seR 1), .inl (cI, 1024, .inl se_bestF))] (some (.int r0))) [.ref a_p0, .int p1, .int p2].toArray s 0 0 A) (F0 m 56 ls []) := by
        intro x1_56 x2_56 x4_56 ls H locs hf hP hD hS hl
        unfold fX8_bestRow_b56 at hf
        refine lv_iload hx hb dX8_bestRow_56 (lv_at hl 3 rfl) ?_
        refine lv_istore_n (lv' := [(3, .int x4_56), (0, .ref a_p0), (1, .int x1_56), (2, .int x2_56), (4, .int x4_56)]) hx hb dX8_bestRow_58 rfl hl (by decide) rfl (fun ls hl => ?_)
        exact b59 x1_56 x2_56 x4_56 x4_56 _ _ _ hf hP hD hS (lv_sub hl [1, 2, 3, 0, 4] rfl)
      have b26 : ∀ (x1_26 : Int32) (x2_26 : Int32) (x3_26 : Int32) (x4_26 : Int32) (y0_26 : Int32) (ls : Array Slot) (H : Heap) (locs : List Loc), fX8_bestRow_b26 N se_gainsF se_bestF (xq_loop (fX8_bestRow_l5 N se_gainsF se_bestF) n5) (x1_26, x2_26, x3_26, x4_26, y0_26) = some r0 → va_P (dC, dI) vwCl [(a_p0, .inr (8, oX8 seI seR)), ((seR 0), .inl (cI, 70, .inl se_gainsF)), ((seR 1), .inl (cI, 1024, .inl se_bestF))] H → va_D A [(a_p0, .inr (8, oX8 seI seR)), ((seR 0), .inl (cI, 70, .inl se_gainsF)), ((seR 1), .inl (cI, 1024, .inl se_bestF))] → va_S A s.heap H locs → lv_has ls 6 [(0, .ref a_p0), (1, .int x1_26), (2, .int x2_26), (3, .int x3_26), (4, .int x4_26)] → W p l e (headSpec wsX8_bestRow { frames := 1, cells := 0, slots := 0, locals := 23 }).room s m [.ref a_p0, .int p1, .int p2].toArray below meth c H locs 0 0 (MQ below (xq_Q (dC, dI) vwCl (xq_tys cI cB cJ cZ cM) A [(a_p0, .inr (8, oX8 seI seR)), ((seR 0), .inl (cI, 70, .inl se_gainsF)), ((seR 1), .inl (cI, 1024, .inl se_bestF))] (some (.int r0))) [.ref a_p0, .int p1, .int p2].toArray s 0 0 A) (F0 m 26 ls [.int y0_26]) := by
        intro x1_26 x2_26 x3_26 x4_26 y0_26 ls H locs hf hP hD hS hl
        unfold fX8_bestRow_b26 at hf
        refine lv_istore (lv' := [(5, .int y0_26), (0, .ref a_p0), (1, .int x1_26), (2, .int x2_26), (3, .int x3_26), (4, .int x4_26)]) hx hb dX8_bestRow_26 hl (by decide) rfl (fun ls hl => ?_)
        refine lv_iload hx hb dX8_bestRow_28 (lv_at hl 0 rfl) ?_
        refine lv_if_eq (tgt := 59) hx hb dX8_bestRow_30 (by decide) (fun c_ => ?_) (fun c_ => ?_)
        · have hf := xq_pos hf c_
          exact b59 x1_26 x2_26 x3_26 x4_26 _ _ _ hf hP hD hS (lv_sub hl [1, 2, 3, 4, 5] rfl)
        · have hf := xq_neg hf c_
          refine lv_iload_n hx hb dX8_bestRow_33 rfl (lv_at hl 4 rfl) ?_
          refine lv_iconst (v := (-1)) hx hb dX8_bestRow_34 (by decide) ?_
          refine lv_icmp_eq (tgt := 56) hx hb dX8_bestRow_35 (by decide) (fun c_ => ?_) (fun c_ => ?_)
          · have hf := xq_pos hf c_
            exact b56 x1_26 x2_26 x4_26 _ _ _ hf hP hD hS (lv_sub hl [1, 2, 3, 5] rfl)
          · have hf := xq_neg hf c_
            refine lv_aload_n hx hb dX8_bestRow_38 rfl (lv_at hl 1 rfl) ?_
            refine lv_iload_n hx hb dX8_bestRow_39 rfl (lv_at hl 2 rfl) ?_
            refine lv_iload hx hb dX8_bestRow_40 (lv_at hl 5 rfl) ?_
            refine lv_iload_n hx hb dX8_bestRow_42 rfl (lv_at hl 3 rfl) ?_
            obtain ⟨r_1, h_2, hf⟩ := xq_bd_some hf
            refine xq_callV (As := [.int x1_26, .int x4_26, .int x2_26]) (rest := []) (ci := 8) (q0 := 0) ⟨hx, hb, hml, hown, hts⟩ (kX8_gainOf l dC dI cI cB cJ cZ cM z ad N a_p0 seI seR se_gainsF se_bestF x1_26 x4_26 x2_26 h_2) (cwV 3 hts gX8_bestRow_X8_gainOf rfl rfl rfl (by decide +kernel) ⟨Nat.le_of_ble_eq_true rfl, Nat.le_of_ble_eq_true rfl⟩) hN hK hP hD hS hA [0, 1, 2] (by decide) rfl rfl rfl rfl rfl rfl hl.1 rfl (Nat.le_of_ble_eq_true rfl) dX8_bestRow_43 ⟨Nat.zero_le _, Nat.zero_le _⟩ (fun H locs hP hD hS => ?_)
            have hP : va_P (dC, dI) vwCl [(a_p0, .inr (8, oX8 seI seR)), ((seR 0), .inl (cI, 70, .inl se_gainsF)), ((seR 1), .inl (cI, 1024, .inl se_bestF))] H := hP
            have hD : va_D A [(a_p0, .inr (8, oX8 seI seR)), ((seR 0), .inl (cI, 70, .inl se_gainsF)), ((seR 1), .inl (cI, 1024, .inl se_bestF))] := hD
            refine W.eq (g2 := F0 m 46 ls [.int r_1]) rfl ?_
            refine lv_aload_n hx hb dX8_bestRow_46 rfl (lv_at hl 1 rfl) ?_
            refine lv_iload_n hx hb dX8_bestRow_47 rfl (lv_at hl 2 rfl) ?_
            refine lv_iload_n hx hb dX8_bestRow_48 rfl (lv_at hl 4 rfl) ?_
            refine lv_iload_n hx hb dX8_bestRow_49 rfl (lv_at hl 3 rfl) ?_
            obtain ⟨r_3, h_4, hf⟩ := xq_bd_some hf
            refine xq_callV (As := [.int x1_26, .int x3_26, .int x2_26]) (rest := [.int r_1]) (ci := 8) (q0 := 0) ⟨hx, hb, hml, hown, hts⟩ (kX8_gainOf l dC dI cI cB cJ cZ cM z ad N a_p0 seI seR se_gainsF se_bestF x1_26 x3_26 x2_26 h_4) (cwV 3 hts gX8_bestRow_X8_gainOf rfl rfl rfl (by decide +kernel) ⟨Nat.le_of_ble_eq_true rfl, Nat.le_of_ble_eq_true rfl⟩) hN hK hP hD hS hA [0, 1, 2] (by decide) rfl rfl rfl rfl rfl rfl hl.1 rfl (Nat.le_of_ble_eq_true rfl) dX8_bestRow_50 ⟨Nat.zero_le _, Nat.zero_le _⟩ (fun H locs hP hD hS => ?_)
            have hP : va_P (dC, dI) vwCl [(a_p0, .inr (8, oX8 seI seR)), ((seR 0), .inl (cI, 70, .inl se_gainsF)), ((seR 1), .inl (cI, 1024, .inl se_bestF))] H := hP
            have hD : va_D A [(a_p0, .inr (8, oX8 seI seR)), ((seR 0), .inl (cI, 70, .inl se_gainsF)), ((seR 1), .inl (cI, 1024, .inl se_bestF))] := hD
            refine W.eq (g2 := F0 m 53 ls [.int r_3, .int r_1]) rfl ?_
            refine lv_icmp_le (tgt := 59) hx hb dX8_bestRow_53 (by decide) (fun c_ => ?_) (fun c_ => ?_)
            · have hf := xq_pos hf c_
              exact b59 x1_26 x2_26 x3_26 x4_26 _ _ _ hf hP hD hS (lv_sub hl [1, 2, 3, 4, 5] rfl)
            · have hf := xq_neg hf c_
              exact b56 x1_26 x2_26 x4_26 _ _ _ hf hP hD hS (lv_sub hl [1, 2, 3, 5] rfl)
      intro x1_5 x2_5 x3_5 x4_5 ls H locs hf hP hD hS hl
      have hf : fX8_bestRow_l5 N se_gainsF se_bestF (xq_loop (fX8_bestRow_l5 N se_gainsF se_bestF) n5) (x1_5, x2_5, x3_5, x4_5) = some r0 := hf
      unfold fX8_bestRow_l5 at hf
      refine lv_iload hx hb dX8_bestRow_5 (lv_at hl 4 rfl) ?_
      refine lv_bipush (v := 10) hx hb dX8_bestRow_7 (by decide) ?_
      refine lv_icmp_ge (tgt := 65) hx hb dX8_bestRow_9 (by decide) (fun c_ => ?_) (fun c_ => ?_)
      · have hf := xq_pos hf c_
        refine lv_iload_n hx hb dX8_bestRow_65 rfl (lv_at hl 3 rfl) ?_
        cases hf
        exact xq_iret hx hb hr hlocks hK hP hD hS dX8_bestRow_66
      · have hf := xq_neg hf c_
        refine lv_iload_n hx hb dX8_bestRow_12 rfl (lv_at hl 2 rfl) ?_
        refine lv_iload hx hb dX8_bestRow_13 (lv_at hl 4 rfl) ?_
        refine lv_ishr hx hb dX8_bestRow_15 ?_
        refine lv_iconst (v := 1) hx hb dX8_bestRow_16 (by decide) ?_
        refine lv_iand hx hb dX8_bestRow_17 ?_
        refine lv_if_ne (tgt := 25) hx hb dX8_bestRow_18 (by decide) (fun c_ => ?_) (fun c_ => ?_)
        · have hf := xq_neg hf c_
          refine lv_iconst (v := 0) hx hb dX8_bestRow_25 (by decide) ?_
          exact b26 x1_5 x2_5 x3_5 x4_5 0 _ _ _ hf hP hD hS (lv_sub hl [0, 1, 2, 3, 4] rfl)
        · have hf := xq_pos hf c_
          refine lv_iconst (v := 1) hx hb dX8_bestRow_21 (by decide) ?_
          refine lv_goto (tgt := 26) hx hb dX8_bestRow_22 (by decide) ?_
          exact b26 x1_5 x2_5 x3_5 x4_5 1 _ _ _ hf hP hD hS (lv_sub hl [0, 1, 2, 3, 4] rfl)
  unfold fX8_bestRow at hf
  refine lv_iconst (v := (-1)) hx hb dX8_bestRow_0 (by decide) ?_
  refine lv_istore_n (lv' := [(3, .int ((-1))), (0, .ref a_p0), (1, .int p1), (2, .int p2)]) hx hb dX8_bestRow_1 rfl hl (by decide) rfl (fun ls hl => ?_)
  refine lv_iconst (v := 0) hx hb dX8_bestRow_2 (by decide) ?_
  refine lv_istore (lv' := [(4, .int 0), (3, .int ((-1))), (0, .ref a_p0), (1, .int p1), (2, .int p2)]) hx hb dX8_bestRow_3 hl (by decide) rfl (fun ls hl => ?_)
  exact l5 N p1 p2 ((-1)) 0 _ _ _ hf hP hD hS (lv_sub hl [2, 3, 4, 1, 0] rfl)
set_option maxRecDepth 20000 in
theorem ggX8_settle_J6_bitCount_0f7a4 : GoodIn wsX8_settle wsJ6_bitCount_0f7a4 := goodIn_r _ [10, 11, 12, 13] rfl (by decide +kernel)
set_option maxRecDepth 20000 in
theorem gX8_settle_J6_bitCount_0f7a4 : GoodIn wsX8_settle (va_wsS RX8 21 yJ6_bitCount_0f7a4 wsJ6_bitCount_0f7a4) := goodIn_app (goodIn_of _ (by decide +kernel)) ggX8_settle_J6_bitCount_0f7a4
set_option maxRecDepth 20000 in
theorem ggX8_settle_X8_bestRow : GoodIn wsX8_settle wsX8_bestRow := goodIn_r _ [18, 19, 20, 21, 17, 22, 23, 1, 24, 25, 26] rfl (by decide +kernel)
set_option maxRecDepth 20000 in
theorem gX8_settle_X8_bestRow : GoodIn wsX8_settle (wsV RX8 27 RX8 yX8_bestRow wsX8_bestRow) := goodIn_app (goodIn_of _ (by decide +kernel)) ggX8_settle_X8_bestRow
set_option maxRecDepth 20000 in
theorem ggX8_settle_X8_gainOf : GoodIn wsX8_settle wsX8_gainOf := goodIn_r _ [22, 23, 1, 24, 25, 26] rfl (by decide +kernel)
set_option maxRecDepth 20000 in
theorem gX8_settle_X8_gainOf : GoodIn wsX8_settle (wsV RX8 31 RX8 yX8_gainOf wsX8_gainOf) := goodIn_app (goodIn_of _ (by decide +kernel)) ggX8_settle_X8_gainOf
def dsX8_settle_0 : List (Nat × Instr × Nat) := [(0, (.aload_n 0, 1)), (1, (.getfield 15, 3)), (4, (.arraylength, 1)), (5, (.iconst 1, 1)), (6, (.isub, 1)), (7, (.istore_n 2, 1)), (8, (.iload_n 2, 1)), (9, (.ifCond .lt 55, 3)), (12, (.iload_n 2, 1)), (13, (.invokestatic 21, 3)), (16, (.istore_n 3, 1)), (17, (.iload_n 3, 1)), (18, (.iload_n 1, 1)), (19, (.if_icmp .ge 12, 3)), (22, (.aload_n 0, 1)), (23, (.iload_n 3, 1)), (24, (.iload_n 2, 1)), (25, (.invokevirtual 27, 3)), (28, (.goto 4, 3)), (31, (.iconst (-1), 1)), (32, (.istore 4, 2)), (34, (.aload_n 0, 1)), (35, (.getfield 15, 3)), (38, (.iload_n 2, 1)), (39, (.iload 4, 2)), (41, (.iconst (-1), 1)), (42, (.if_icmp .ne 7, 3)), (45, (.iconst 0, 1)), (46, (.goto 11, 3)), (49, (.aload_n 0, 1)), (50, (.iload_n 3, 1)), (51, (.iload 4, 2)), (53, (.iload_n 2, 1)), (54, (.invokevirtual 31, 3)), (57, (.iastore, 1)), (58, (.iinc 2 (-1), 3)), (61, (.goto (-53), 3)), (64, (.iconst 0, 1)), (65, (.istore_n 2, 1)), (66, (.iconst 0, 1)), (67, (.istore_n 3, 1)), (68, (.iload_n 3, 1)), (69, (.iload_n 1, 1)), (70, (.if_icmp .ge 36, 3)), (73, (.aload_n 0, 1)), (74, (.getfield 18, 3)), (77, (.iload_n 3, 1)), (78, (.iconst 0, 1)), (79, (.aload_n 0, 1)), (80, (.iload_n 3, 1)), (81, (.iload_n 2, 1)), (82, (.invokevirtual 27, 3)), (85, (.invokestatic 35, 3)), (88, (.iastore, 1)), (89, (.iload_n 2, 1)), (90, (.iconst 1, 1)), (91, (.aload_n 0, 1)), (92, (.getfield 18, 3)), (95, (.iload_n 3, 1)), (96, (.iaload, 1))]
theorem dsX8_settle_0_ok : (dsX8_settle_0.all fun q => decide (decode cX8_settle q.1 = .ok q.2)) = true := by decide +kernel
theorem dX8_settle_0 : decode cX8_settle 0 = .ok (.aload_n 0, 1) := of_decide_eq_true (List.all_eq_true.mp dsX8_settle_0_ok (0, (.aload_n 0, 1)) (List.mem_of_getElem? (i := 0) rfl))
theorem dX8_settle_1 : decode cX8_settle 1 = .ok (.getfield 15, 3) := of_decide_eq_true (List.all_eq_true.mp dsX8_settle_0_ok (1, (.getfield 15, 3)) (List.mem_of_getElem? (i := 1) rfl))
theorem dX8_settle_4 : decode cX8_settle 4 = .ok (.arraylength, 1) := of_decide_eq_true (List.all_eq_true.mp dsX8_settle_0_ok (4, (.arraylength, 1)) (List.mem_of_getElem? (i := 2) rfl))
theorem dX8_settle_5 : decode cX8_settle 5 = .ok (.iconst 1, 1) := of_decide_eq_true (List.all_eq_true.mp dsX8_settle_0_ok (5, (.iconst 1, 1)) (List.mem_of_getElem? (i := 3) rfl))
theorem dX8_settle_6 : decode cX8_settle 6 = .ok (.isub, 1) := of_decide_eq_true (List.all_eq_true.mp dsX8_settle_0_ok (6, (.isub, 1)) (List.mem_of_getElem? (i := 4) rfl))
theorem dX8_settle_7 : decode cX8_settle 7 = .ok (.istore_n 2, 1) := of_decide_eq_true (List.all_eq_true.mp dsX8_settle_0_ok (7, (.istore_n 2, 1)) (List.mem_of_getElem? (i := 5) rfl))
theorem dX8_settle_8 : decode cX8_settle 8 = .ok (.iload_n 2, 1) := of_decide_eq_true (List.all_eq_true.mp dsX8_settle_0_ok (8, (.iload_n 2, 1)) (List.mem_of_getElem? (i := 6) rfl))
theorem dX8_settle_9 : decode cX8_settle 9 = .ok (.ifCond .lt 55, 3) := of_decide_eq_true (List.all_eq_true.mp dsX8_settle_0_ok (9, (.ifCond .lt 55, 3)) (List.mem_of_getElem? (i := 7) rfl))
theorem dX8_settle_12 : decode cX8_settle 12 = .ok (.iload_n 2, 1) := of_decide_eq_true (List.all_eq_true.mp dsX8_settle_0_ok (12, (.iload_n 2, 1)) (List.mem_of_getElem? (i := 8) rfl))
theorem dX8_settle_13 : decode cX8_settle 13 = .ok (.invokestatic 21, 3) := of_decide_eq_true (List.all_eq_true.mp dsX8_settle_0_ok (13, (.invokestatic 21, 3)) (List.mem_of_getElem? (i := 9) rfl))
theorem dX8_settle_16 : decode cX8_settle 16 = .ok (.istore_n 3, 1) := of_decide_eq_true (List.all_eq_true.mp dsX8_settle_0_ok (16, (.istore_n 3, 1)) (List.mem_of_getElem? (i := 10) rfl))
theorem dX8_settle_17 : decode cX8_settle 17 = .ok (.iload_n 3, 1) := of_decide_eq_true (List.all_eq_true.mp dsX8_settle_0_ok (17, (.iload_n 3, 1)) (List.mem_of_getElem? (i := 11) rfl))
theorem dX8_settle_18 : decode cX8_settle 18 = .ok (.iload_n 1, 1) := of_decide_eq_true (List.all_eq_true.mp dsX8_settle_0_ok (18, (.iload_n 1, 1)) (List.mem_of_getElem? (i := 12) rfl))
theorem dX8_settle_19 : decode cX8_settle 19 = .ok (.if_icmp .ge 12, 3) := of_decide_eq_true (List.all_eq_true.mp dsX8_settle_0_ok (19, (.if_icmp .ge 12, 3)) (List.mem_of_getElem? (i := 13) rfl))
theorem dX8_settle_22 : decode cX8_settle 22 = .ok (.aload_n 0, 1) := of_decide_eq_true (List.all_eq_true.mp dsX8_settle_0_ok (22, (.aload_n 0, 1)) (List.mem_of_getElem? (i := 14) rfl))
theorem dX8_settle_23 : decode cX8_settle 23 = .ok (.iload_n 3, 1) := of_decide_eq_true (List.all_eq_true.mp dsX8_settle_0_ok (23, (.iload_n 3, 1)) (List.mem_of_getElem? (i := 15) rfl))
theorem dX8_settle_24 : decode cX8_settle 24 = .ok (.iload_n 2, 1) := of_decide_eq_true (List.all_eq_true.mp dsX8_settle_0_ok (24, (.iload_n 2, 1)) (List.mem_of_getElem? (i := 16) rfl))
theorem dX8_settle_25 : decode cX8_settle 25 = .ok (.invokevirtual 27, 3) := of_decide_eq_true (List.all_eq_true.mp dsX8_settle_0_ok (25, (.invokevirtual 27, 3)) (List.mem_of_getElem? (i := 17) rfl))
theorem dX8_settle_28 : decode cX8_settle 28 = .ok (.goto 4, 3) := of_decide_eq_true (List.all_eq_true.mp dsX8_settle_0_ok (28, (.goto 4, 3)) (List.mem_of_getElem? (i := 18) rfl))
theorem dX8_settle_31 : decode cX8_settle 31 = .ok (.iconst (-1), 1) := of_decide_eq_true (List.all_eq_true.mp dsX8_settle_0_ok (31, (.iconst (-1), 1)) (List.mem_of_getElem? (i := 19) rfl))
theorem dX8_settle_32 : decode cX8_settle 32 = .ok (.istore 4, 2) := of_decide_eq_true (List.all_eq_true.mp dsX8_settle_0_ok (32, (.istore 4, 2)) (List.mem_of_getElem? (i := 20) rfl))
theorem dX8_settle_34 : decode cX8_settle 34 = .ok (.aload_n 0, 1) := of_decide_eq_true (List.all_eq_true.mp dsX8_settle_0_ok (34, (.aload_n 0, 1)) (List.mem_of_getElem? (i := 21) rfl))
theorem dX8_settle_35 : decode cX8_settle 35 = .ok (.getfield 15, 3) := of_decide_eq_true (List.all_eq_true.mp dsX8_settle_0_ok (35, (.getfield 15, 3)) (List.mem_of_getElem? (i := 22) rfl))
theorem dX8_settle_38 : decode cX8_settle 38 = .ok (.iload_n 2, 1) := of_decide_eq_true (List.all_eq_true.mp dsX8_settle_0_ok (38, (.iload_n 2, 1)) (List.mem_of_getElem? (i := 23) rfl))
theorem dX8_settle_39 : decode cX8_settle 39 = .ok (.iload 4, 2) := of_decide_eq_true (List.all_eq_true.mp dsX8_settle_0_ok (39, (.iload 4, 2)) (List.mem_of_getElem? (i := 24) rfl))
theorem dX8_settle_41 : decode cX8_settle 41 = .ok (.iconst (-1), 1) := of_decide_eq_true (List.all_eq_true.mp dsX8_settle_0_ok (41, (.iconst (-1), 1)) (List.mem_of_getElem? (i := 25) rfl))
theorem dX8_settle_42 : decode cX8_settle 42 = .ok (.if_icmp .ne 7, 3) := of_decide_eq_true (List.all_eq_true.mp dsX8_settle_0_ok (42, (.if_icmp .ne 7, 3)) (List.mem_of_getElem? (i := 26) rfl))
theorem dX8_settle_45 : decode cX8_settle 45 = .ok (.iconst 0, 1) := of_decide_eq_true (List.all_eq_true.mp dsX8_settle_0_ok (45, (.iconst 0, 1)) (List.mem_of_getElem? (i := 27) rfl))
theorem dX8_settle_46 : decode cX8_settle 46 = .ok (.goto 11, 3) := of_decide_eq_true (List.all_eq_true.mp dsX8_settle_0_ok (46, (.goto 11, 3)) (List.mem_of_getElem? (i := 28) rfl))
theorem dX8_settle_49 : decode cX8_settle 49 = .ok (.aload_n 0, 1) := of_decide_eq_true (List.all_eq_true.mp dsX8_settle_0_ok (49, (.aload_n 0, 1)) (List.mem_of_getElem? (i := 29) rfl))
theorem dX8_settle_50 : decode cX8_settle 50 = .ok (.iload_n 3, 1) := of_decide_eq_true (List.all_eq_true.mp dsX8_settle_0_ok (50, (.iload_n 3, 1)) (List.mem_of_getElem? (i := 30) rfl))
theorem dX8_settle_51 : decode cX8_settle 51 = .ok (.iload 4, 2) := of_decide_eq_true (List.all_eq_true.mp dsX8_settle_0_ok (51, (.iload 4, 2)) (List.mem_of_getElem? (i := 31) rfl))
theorem dX8_settle_53 : decode cX8_settle 53 = .ok (.iload_n 2, 1) := of_decide_eq_true (List.all_eq_true.mp dsX8_settle_0_ok (53, (.iload_n 2, 1)) (List.mem_of_getElem? (i := 32) rfl))
theorem dX8_settle_54 : decode cX8_settle 54 = .ok (.invokevirtual 31, 3) := of_decide_eq_true (List.all_eq_true.mp dsX8_settle_0_ok (54, (.invokevirtual 31, 3)) (List.mem_of_getElem? (i := 33) rfl))
theorem dX8_settle_57 : decode cX8_settle 57 = .ok (.iastore, 1) := of_decide_eq_true (List.all_eq_true.mp dsX8_settle_0_ok (57, (.iastore, 1)) (List.mem_of_getElem? (i := 34) rfl))
theorem dX8_settle_58 : decode cX8_settle 58 = .ok (.iinc 2 (-1), 3) := of_decide_eq_true (List.all_eq_true.mp dsX8_settle_0_ok (58, (.iinc 2 (-1), 3)) (List.mem_of_getElem? (i := 35) rfl))
theorem dX8_settle_61 : decode cX8_settle 61 = .ok (.goto (-53), 3) := of_decide_eq_true (List.all_eq_true.mp dsX8_settle_0_ok (61, (.goto (-53), 3)) (List.mem_of_getElem? (i := 36) rfl))
theorem dX8_settle_64 : decode cX8_settle 64 = .ok (.iconst 0, 1) := of_decide_eq_true (List.all_eq_true.mp dsX8_settle_0_ok (64, (.iconst 0, 1)) (List.mem_of_getElem? (i := 37) rfl))
theorem dX8_settle_65 : decode cX8_settle 65 = .ok (.istore_n 2, 1) := of_decide_eq_true (List.all_eq_true.mp dsX8_settle_0_ok (65, (.istore_n 2, 1)) (List.mem_of_getElem? (i := 38) rfl))
theorem dX8_settle_66 : decode cX8_settle 66 = .ok (.iconst 0, 1) := of_decide_eq_true (List.all_eq_true.mp dsX8_settle_0_ok (66, (.iconst 0, 1)) (List.mem_of_getElem? (i := 39) rfl))
theorem dX8_settle_67 : decode cX8_settle 67 = .ok (.istore_n 3, 1) := of_decide_eq_true (List.all_eq_true.mp dsX8_settle_0_ok (67, (.istore_n 3, 1)) (List.mem_of_getElem? (i := 40) rfl))
theorem dX8_settle_68 : decode cX8_settle 68 = .ok (.iload_n 3, 1) := of_decide_eq_true (List.all_eq_true.mp dsX8_settle_0_ok (68, (.iload_n 3, 1)) (List.mem_of_getElem? (i := 41) rfl))
theorem dX8_settle_69 : decode cX8_settle 69 = .ok (.iload_n 1, 1) := of_decide_eq_true (List.all_eq_true.mp dsX8_settle_0_ok (69, (.iload_n 1, 1)) (List.mem_of_getElem? (i := 42) rfl))
theorem dX8_settle_70 : decode cX8_settle 70 = .ok (.if_icmp .ge 36, 3) := of_decide_eq_true (List.all_eq_true.mp dsX8_settle_0_ok (70, (.if_icmp .ge 36, 3)) (List.mem_of_getElem? (i := 43) rfl))
theorem dX8_settle_73 : decode cX8_settle 73 = .ok (.aload_n 0, 1) := of_decide_eq_true (List.all_eq_true.mp dsX8_settle_0_ok (73, (.aload_n 0, 1)) (List.mem_of_getElem? (i := 44) rfl))
theorem dX8_settle_74 : decode cX8_settle 74 = .ok (.getfield 18, 3) := of_decide_eq_true (List.all_eq_true.mp dsX8_settle_0_ok (74, (.getfield 18, 3)) (List.mem_of_getElem? (i := 45) rfl))
theorem dX8_settle_77 : decode cX8_settle 77 = .ok (.iload_n 3, 1) := of_decide_eq_true (List.all_eq_true.mp dsX8_settle_0_ok (77, (.iload_n 3, 1)) (List.mem_of_getElem? (i := 46) rfl))
theorem dX8_settle_78 : decode cX8_settle 78 = .ok (.iconst 0, 1) := of_decide_eq_true (List.all_eq_true.mp dsX8_settle_0_ok (78, (.iconst 0, 1)) (List.mem_of_getElem? (i := 47) rfl))
theorem dX8_settle_79 : decode cX8_settle 79 = .ok (.aload_n 0, 1) := of_decide_eq_true (List.all_eq_true.mp dsX8_settle_0_ok (79, (.aload_n 0, 1)) (List.mem_of_getElem? (i := 48) rfl))
theorem dX8_settle_80 : decode cX8_settle 80 = .ok (.iload_n 3, 1) := of_decide_eq_true (List.all_eq_true.mp dsX8_settle_0_ok (80, (.iload_n 3, 1)) (List.mem_of_getElem? (i := 49) rfl))
theorem dX8_settle_81 : decode cX8_settle 81 = .ok (.iload_n 2, 1) := of_decide_eq_true (List.all_eq_true.mp dsX8_settle_0_ok (81, (.iload_n 2, 1)) (List.mem_of_getElem? (i := 50) rfl))
theorem dX8_settle_82 : decode cX8_settle 82 = .ok (.invokevirtual 27, 3) := of_decide_eq_true (List.all_eq_true.mp dsX8_settle_0_ok (82, (.invokevirtual 27, 3)) (List.mem_of_getElem? (i := 51) rfl))
theorem dX8_settle_85 : decode cX8_settle 85 = .ok (.invokestatic 35, 3) := of_decide_eq_true (List.all_eq_true.mp dsX8_settle_0_ok (85, (.invokestatic 35, 3)) (List.mem_of_getElem? (i := 52) rfl))
theorem dX8_settle_88 : decode cX8_settle 88 = .ok (.iastore, 1) := of_decide_eq_true (List.all_eq_true.mp dsX8_settle_0_ok (88, (.iastore, 1)) (List.mem_of_getElem? (i := 53) rfl))
theorem dX8_settle_89 : decode cX8_settle 89 = .ok (.iload_n 2, 1) := of_decide_eq_true (List.all_eq_true.mp dsX8_settle_0_ok (89, (.iload_n 2, 1)) (List.mem_of_getElem? (i := 54) rfl))
theorem dX8_settle_90 : decode cX8_settle 90 = .ok (.iconst 1, 1) := of_decide_eq_true (List.all_eq_true.mp dsX8_settle_0_ok (90, (.iconst 1, 1)) (List.mem_of_getElem? (i := 55) rfl))
theorem dX8_settle_91 : decode cX8_settle 91 = .ok (.aload_n 0, 1) := of_decide_eq_true (List.all_eq_true.mp dsX8_settle_0_ok (91, (.aload_n 0, 1)) (List.mem_of_getElem? (i := 56) rfl))
theorem dX8_settle_92 : decode cX8_settle 92 = .ok (.getfield 18, 3) := of_decide_eq_true (List.all_eq_true.mp dsX8_settle_0_ok (92, (.getfield 18, 3)) (List.mem_of_getElem? (i := 57) rfl))
theorem dX8_settle_95 : decode cX8_settle 95 = .ok (.iload_n 3, 1) := of_decide_eq_true (List.all_eq_true.mp dsX8_settle_0_ok (95, (.iload_n 3, 1)) (List.mem_of_getElem? (i := 58) rfl))
theorem dX8_settle_96 : decode cX8_settle 96 = .ok (.iaload, 1) := of_decide_eq_true (List.all_eq_true.mp dsX8_settle_0_ok (96, (.iaload, 1)) (List.mem_of_getElem? (i := 59) rfl))
def dsX8_settle_1 : List (Nat × Instr × Nat) := [(97, (.ishl, 1)), (98, (.ior, 1)), (99, (.istore_n 2, 1)), (100, (.iinc 3 1, 3)), (103, (.goto (-35), 3)), (106, (.return_, 1))]
theorem dsX8_settle_1_ok : (dsX8_settle_1.all fun q => decide (decode cX8_settle q.1 = .ok q.2)) = true := by decide +kernel
theorem dX8_settle_97 : decode cX8_settle 97 = .ok (.ishl, 1) := of_decide_eq_true (List.all_eq_true.mp dsX8_settle_1_ok (97, (.ishl, 1)) (List.mem_of_getElem? (i := 0) rfl))
theorem dX8_settle_98 : decode cX8_settle 98 = .ok (.ior, 1) := of_decide_eq_true (List.all_eq_true.mp dsX8_settle_1_ok (98, (.ior, 1)) (List.mem_of_getElem? (i := 1) rfl))
theorem dX8_settle_99 : decode cX8_settle 99 = .ok (.istore_n 2, 1) := of_decide_eq_true (List.all_eq_true.mp dsX8_settle_1_ok (99, (.istore_n 2, 1)) (List.mem_of_getElem? (i := 2) rfl))
theorem dX8_settle_100 : decode cX8_settle 100 = .ok (.iinc 3 1, 3) := of_decide_eq_true (List.all_eq_true.mp dsX8_settle_1_ok (100, (.iinc 3 1, 3)) (List.mem_of_getElem? (i := 3) rfl))
theorem dX8_settle_103 : decode cX8_settle 103 = .ok (.goto (-35), 3) := of_decide_eq_true (List.all_eq_true.mp dsX8_settle_1_ok (103, (.goto (-35), 3)) (List.mem_of_getElem? (i := 4) rfl))
theorem dX8_settle_106 : decode cX8_settle 106 = .ok (.return_, 1) := of_decide_eq_true (List.all_eq_true.mp dsX8_settle_1_ok (106, (.return_, 1)) (List.mem_of_getElem? (i := 5) rfl))
def fX8_settle_l68 (N : Nat) (se_gainsF : Nat → Int32)  (k68 : ((Nat → Int32) × (Nat → Int32) × Int32 × Int32 × Int32) → Option ((Nat → Int32) × (Nat → Int32))) : ((Nat → Int32) × (Nat → Int32) × Int32 × Int32 × Int32) → Option ((Nat → Int32) × (Nat → Int32)) :=
  fun (se_bestF_68, se_rowsF_68, x1_68, x2_68, x3_68) => (if x1_68 ≤ x3_68 then some ((se_bestF_68, se_rowsF_68)) else (xq_bd (fX8_bestRow N se_gainsF se_bestF_68 x3_68 x2_68) fun r_1 => (xq_bd (xq_ast 7 se_rowsF_68 x3_68 (xq_max 0 r_1)) fun g_3 => (xq_bd (xq_ald 7 g_3 x3_68) fun v_4 => k68 (se_bestF_68, g_3, x1_68, x2_68 ||| (1 <<< (v_4 &&& 31)), x3_68 + 1)))))
def fX8_settle_b57 (N : Nat) (se_gainsF : Nat → Int32)  (k8 : ((Nat → Int32) × (Nat → Int32) × Int32 × Int32) → Option ((Nat → Int32) × (Nat → Int32))) : ((Nat → Int32) × (Nat → Int32) × Int32 × Int32 × Int32 × Int32) → Option ((Nat → Int32) × (Nat → Int32)) :=
  fun (se_bestF_57, se_rowsF_57, x1_57, x2_57, y1_57, y2_57) => (xq_bd (xq_ast 1024 se_bestF_57 y1_57 y2_57) fun g_5 => k8 (g_5, se_rowsF_57, x1_57, x2_57 + (-1)))
def fX8_settle_b32 (N : Nat) (se_gainsF : Nat → Int32)  (k8 : ((Nat → Int32) × (Nat → Int32) × Int32 × Int32) → Option ((Nat → Int32) × (Nat → Int32))) : ((Nat → Int32) × (Nat → Int32) × Int32 × Int32 × Int32 × Int32) → Option ((Nat → Int32) × (Nat → Int32)) :=
  fun (se_bestF_32, se_rowsF_32, x1_32, x2_32, x3_32, y0_32) => (if y0_32 = ((-1)) then fX8_settle_b57 N se_gainsF k8 (se_bestF_32, se_rowsF_32, x1_32, x2_32, x2_32, 0) else (xq_bd (fX8_gainOf N se_gainsF se_bestF_32 x3_32 y0_32 x2_32) fun r_6 => fX8_settle_b57 N se_gainsF k8 (se_bestF_32, se_rowsF_32, x1_32, x2_32, x2_32, r_6)))
def fX8_settle_l8 (N : Nat) (se_gainsF : Nat → Int32)  (k8 : ((Nat → Int32) × (Nat → Int32) × Int32 × Int32) → Option ((Nat → Int32) × (Nat → Int32))) : ((Nat → Int32) × (Nat → Int32) × Int32 × Int32) → Option ((Nat → Int32) × (Nat → Int32)) :=
  fun (se_bestF_8, se_rowsF_8, x1_8, x2_8) => (if x2_8 < 0 then xq_loop (fX8_settle_l68 N se_gainsF) N (se_bestF_8, se_rowsF_8, x1_8, 0, 0) else (xq_bd (fJ6_bitCount_0f7a4 N x2_8) fun r_8 => (if x1_8 ≤ r_8 then fX8_settle_b32 N se_gainsF k8 (se_bestF_8, se_rowsF_8, x1_8, x2_8, r_8, (-1)) else (xq_bd (fX8_bestRow N se_gainsF se_bestF_8 r_8 x2_8) fun r_10 => fX8_settle_b32 N se_gainsF k8 (se_bestF_8, se_rowsF_8, x1_8, x2_8, r_8, r_10)))))
def fX8_settle (N : Nat) (se_bestF : Nat → Int32) (se_gainsF : Nat → Int32) (se_rowsF : Nat → Int32)  (p1 : Int32) : Option ((Nat → Int32) × (Nat → Int32)) :=
  xq_loop (fX8_settle_l8 N se_gainsF) N (se_bestF, se_rowsF, p1, 1024 - 1)
set_option maxHeartbeats 4000000 in
set_option maxRecDepth 100000 in
theorem kX8_settle (l : Launch) (dC : Nat → ClassId) (dI : Nat → Nat → Nat) (cI cB cJ cZ cM : ClassId) (z : Nat) (ad : Nat → Nat) (N : Nat) (a_p0 : Nat) (seI : Nat → Int32) (seR : Nat → Nat) (se_bestF : Nat → Int32) (se_gainsF : Nat → Int32) (se_rowsF : Nat → Int32) (p1 : Int32) {r0 : Nat → Int32} {r1 : Nat → Int32} (hf : fX8_settle N se_bestF se_gainsF se_rowsF p1 = some (r0, r1)) : xq_Ct l yX8_settle wsX8_settle { frames := 2, cells := 0, slots := 0, locals := 48 } (dC, dI) vwCl (xq_tys cI cB cJ cZ cM) z ad [.ref a_p0, .int p1] [(a_p0, .inr (8, oX8 seI seR)), ((seR 1), .inl (cI, 1024, .inl se_bestF)), ((seR 0), .inl (cI, 70, .inl se_gainsF)), ((seR 2), .inl (cI, 7, .inl se_rowsF))] [(a_p0, .inr (8, oX8 seI seR)), ((seR 1), .inl (cI, 1024, .inl r0)), ((seR 0), .inl (cI, 70, .inl se_gainsF)), ((seR 2), .inl (cI, 7, .inl r1))] none := by
  intro sz
  refine Met.ofW (cc := cX8_settle) (maxL := 5) (ret := none) (by decide) rfl ?_
  intro p e s m args below meth c s₁ B hml hv
  obtain ⟨rfl, hsz, hP, hK, hD0, hE, hz⟩ := hv
  have hx := B.exec
  have hb := B.bytes
  have hr := B.returns
  have hts := atoms_spec (ws := wsX8_settle) B.pre
  have hown : s.vm.findClass RX8 = some m.cls := findClass_of_methodNamed B.named
  have hlocks := B.notSynchronized
  subst hsz
  have hD := hD0.self (sz := s.heap.size)
  have hN := xq_Env.of hE hz hD0
  generalize hAe : va_A [(a_p0, .inr (8, oX8 seI seR)), ((seR 1), .inl (cI, 1024, .inl se_bestF)), ((seR 0), .inl (cI, 70, .inl se_gainsF)), ((seR 2), .inl (cI, 7, .inl se_rowsF))] s.heap.size = A at hD hN ⊢
  have hA : ∀ q : Nat, s.heap.size ≤ q → A q := fun q h => by rw [← hAe]; exact Or.inr h
  clear hAe hD0
  have hS : va_S A s.heap s.heap [] := va_S.rf
  have hl := lv_entry ([.ref a_p0, .int p1]) (n := 5) (Nat.le_of_ble_eq_true rfl)
  rw [lg_entry_eq]
  generalize (lg_sl ([.ref a_p0, .int p1]) ++ List.replicate (5 - (lg_sl ([.ref a_p0, .int p1])).length) Slot.unset).toArray = ls at hl ⊢
  have hl : lv_has ls 5 [(0, .ref a_p0), (1, .int p1)] := hl
  have hw0 := hts (.fieldLink RX8 15 "DistantVoice$Seating" "best" "[I") (by decide +kernel)
  have hinX8 : ∀ w ∈ wsX80, w ∈ wsX8_settle := fun w h => List.mem_cons_of_mem _ (List.mem_append_right _ h)
  have hw2 := hts (.fieldLink RX8 18 "DistantVoice$Seating" "rows" "[I") (by decide +kernel)
  have hw3 := hts (.methodLink RX8 35 Lib.Math.max.name) (by decide +kernel)
  have hw4 := hts (.static Lib.Math.max.name) (by decide +kernel)
  have hw5 := hts (.initialized "java/lang/Math") (by decide +kernel)
  have hw6 := hts (.code Lib.Math.max.name Lib.Math.max.code 2 (some .int)) (by decide +kernel)
  have l68 : ∀ n68 : Nat, ∀ (se_bestF_68 : Nat → Int32) (se_rowsF_68 : Nat → Int32) (x1_68 : Int32) (x2_68 : Int32) (x3_68 : Int32) (ls : Array Slot) (H : Heap) (locs : List Loc), xq_loop (fX8_settle_l68 N se_gainsF) n68 (se_bestF_68, se_rowsF_68, x1_68, x2_68, x3_68) = some (r0, r1) → va_P (dC, dI) vwCl [(a_p0, .inr (8, oX8 seI seR)), ((seR 1), .inl (cI, 1024, .inl se_bestF_68)), ((seR 0), .inl (cI, 70, .inl se_gainsF)), ((seR 2), .inl (cI, 7, .inl se_rowsF_68))] H → va_D A [(a_p0, .inr (8, oX8 seI seR)), ((seR 1), .inl (cI, 1024, .inl se_bestF_68)), ((seR 0), .inl (cI, 70, .inl se_gainsF)), ((seR 2), .inl (cI, 7, .inl se_rowsF_68))] → va_S A s.heap H locs → lv_has ls 5 [(0, .ref a_p0), (1, .int x1_68), (2, .int x2_68), (3, .int x3_68)] → W p l e (headSpec wsX8_settle { frames := 2, cells := 0, slots := 0, locals := 48 }).room s m [.ref a_p0, .int p1].toArray below meth c H locs 0 0 (MQ below (xq_Q (dC, dI) vwCl (xq_tys cI cB cJ cZ cM) A [(a_p0, .inr (8, oX8 seI seR)), ((seR 1), .inl (cI, 1024, .inl r0)), ((seR 0), .inl (cI, 70, .inl se_gainsF)), ((seR 2), .inl (cI, 7, .inl r1))] none) [.ref a_p0, .int p1].toArray s 0 0 A) (F0 m 68 ls []) := by
    intro n68
    induction n68 with
    | zero => intro se_bestF_68 se_rowsF_68 x1_68 x2_68 x3_68 ls H locs hf; cases (show none = some (r0, r1) from hf)
    | succ n68 ih68 =>
      intro se_bestF_68 se_rowsF_68 x1_68 x2_68 x3_68 ls H locs hf hP hD hS hl
      have hf : fX8_settle_l68 N se_gainsF (xq_loop (fX8_settle_l68 N se_gainsF) n68) (se_bestF_68, se_rowsF_68, x1_68, x2_68, x3_68) = some (r0, r1) := hf
      unfold fX8_settle_l68 at hf
      refine lv_iload_n hx hb dX8_settle_68 rfl (lv_at hl 3 rfl) ?_
      refine lv_iload_n hx hb dX8_settle_69 rfl (lv_at hl 1 rfl) ?_
      refine lv_icmp_ge (tgt := 106) hx hb dX8_settle_70 (by decide) (fun c_ => ?_) (fun c_ => ?_)
      · have hf := xq_pos hf c_
        cases hf
        exact xq_vret hx hb hr hlocks hK hP hD hS dX8_settle_106
      · have hf := xq_neg hf c_
        refine lv_aload_n hx hb dX8_settle_73 rfl (lv_at hl 0 rfl) ?_
        refine va_get (D := (dC, dI)) (ci := 8) (v := .ref ((seR 2))) (C := RX8) (T := TX8) (N := 3) hx hb hts hinX8 hown hK hP 0 rfl rfl 2 (by decide) hw2 (fun _ h9 => h9) rfl dX8_settle_74 ?_
        refine lv_iload_n hx hb dX8_settle_77 rfl (lv_at hl 3 rfl) ?_
        refine lv_iconst (v := 0) hx hb dX8_settle_78 (by decide) ?_
        refine lv_aload_n hx hb dX8_settle_79 rfl (lv_at hl 0 rfl) ?_
        refine lv_iload_n hx hb dX8_settle_80 rfl (lv_at hl 3 rfl) ?_
        refine lv_iload_n hx hb dX8_settle_81 rfl (lv_at hl 2 rfl) ?_
        obtain ⟨r_1, h_2, hf⟩ := xq_bd_some hf
        refine xq_callV (As := [.int x3_68, .int x2_68]) (rest := [.int 0, .int x3_68, .ref ((seR 2))]) (ci := 8) (q0 := 0) ⟨hx, hb, hml, hown, hts⟩ (kX8_bestRow l dC dI cI cB cJ cZ cM z ad N a_p0 seI seR se_gainsF se_bestF_68 x3_68 x2_68 h_2) (cwV 2 hts gX8_settle_X8_bestRow rfl rfl rfl (by decide +kernel) ⟨Nat.le_of_ble_eq_true rfl, Nat.le_of_ble_eq_true rfl⟩) hN hK hP hD hS hA [0, 2, 1] (by decide) rfl rfl rfl rfl rfl rfl hl.1 rfl (Nat.le_of_ble_eq_true rfl) dX8_settle_82 ⟨Nat.zero_le _, Nat.zero_le _⟩ (fun H locs hP hD hS => ?_)
        have hP : va_P (dC, dI) vwCl [(a_p0, .inr (8, oX8 seI seR)), ((seR 1), .inl (cI, 1024, .inl se_bestF_68)), ((seR 0), .inl (cI, 70, .inl se_gainsF)), ((seR 2), .inl (cI, 7, .inl se_rowsF_68))] H := hP
        have hD : va_D A [(a_p0, .inr (8, oX8 seI seR)), ((seR 1), .inl (cI, 1024, .inl se_bestF_68)), ((seR 0), .inl (cI, 70, .inl se_gainsF)), ((seR 2), .inl (cI, 7, .inl se_rowsF_68))] := hD
        refine W.eq (g2 := F0 m 85 ls [.int r_1, .int 0, .int x3_68, .ref ((seR 2))]) rfl ?_
        refine va_mmax hx hb (hml.trans hl.1.symm) hown hw3 hw4 hw5 hw6 (Nat.le_of_ble_eq_true rfl) (Nat.le_of_ble_eq_true rfl) (Nat.zero_le _) (Nat.zero_le _) dX8_settle_85 ?_
        refine W.eq (g2 := F0 m 88 ls [.int (xq_max 0 r_1), .int x3_68, .ref ((seR 2))]) rfl ?_
        refine xq_iast hx hb hK hP hD hS 3 0 rfl rfl hf dX8_settle_88 (fun g_3 H locs hf hP hD hS => ?_)
        have hP : va_P (dC, dI) vwCl [(a_p0, .inr (8, oX8 seI seR)), ((seR 1), .inl (cI, 1024, .inl se_bestF_68)), ((seR 0), .inl (cI, 70, .inl se_gainsF)), ((seR 2), .inl (cI, 7, .inl g_3))] H := hP
        have hD : va_D A [(a_p0, .inr (8, oX8 seI seR)), ((seR 1), .inl (cI, 1024, .inl se_bestF_68)), ((seR 0), .inl (cI, 70, .inl se_gainsF)), ((seR 2), .inl (cI, 7, .inl g_3))] := hD
        refine lv_iload_n hx hb dX8_settle_89 rfl (lv_at hl 2 rfl) ?_
        refine lv_iconst (v := 1) hx hb dX8_settle_90 (by decide) ?_
        refine lv_aload_n hx hb dX8_settle_91 rfl (lv_at hl 0 rfl) ?_
        refine va_get (D := (dC, dI)) (ci := 8) (v := .ref ((seR 2))) (C := RX8) (T := TX8) (N := 3) hx hb hts hinX8 hown hK hP 0 rfl rfl 2 (by decide) hw2 (fun _ h9 => h9) rfl dX8_settle_92 ?_
        refine lv_iload_n hx hb dX8_settle_95 rfl (lv_at hl 3 rfl) ?_
        refine xq_iald hx hb hK hP 3 0 rfl rfl hf dX8_settle_96 (fun v_4 hf => ?_)
        refine lv_ishl hx hb dX8_settle_97 ?_
        refine lv_ior hx hb dX8_settle_98 ?_
        refine lv_istore_n (lv' := [(2, .int (x2_68 ||| (1 <<< (v_4 &&& 31)))), (0, .ref a_p0), (1, .int x1_68), (3, .int x3_68)]) hx hb dX8_settle_99 rfl hl (by decide) rfl (fun ls hl => ?_)
        refine lv_iinc (v := x3_68 + 1) (lv' := [(3, .int (x3_68 + 1)), (2, .int (x2_68 ||| (1 <<< (v_4 &&& 31)))), (0, .ref a_p0), (1, .int x1_68)]) hx hb dX8_settle_100 hl (k := 3) rfl (congrArg (fun q9 => x3_68 + q9) (by decide : Int32.ofInt 1 = 1)) (by decide) rfl (fun ls hl => ?_)
        refine lv_goto (tgt := 68) hx hb dX8_settle_103 (by decide) ?_
        exact ih68 se_bestF_68 g_3 x1_68 (x2_68 ||| (1 <<< (v_4 &&& 31))) (x3_68 + 1) _ _ _ hf hP hD hS (lv_sub hl [2, 3, 1, 0] rfl)
  have l8 : ∀ n8 : Nat, ∀ (se_bestF_8 : Nat → Int32) (se_rowsF_8 : Nat → Int32) (x1_8 : Int32) (x2_8 : Int32) (ls : Array Slot) (H : Heap) (locs : List Loc), xq_loop (fX8_settle_l8 N se_gainsF) n8 (se_bestF_8, se_rowsF_8, x1_8, x2_8) = some (r0, r1) → va_P (dC, dI) vwCl [(a_p0, .inr (8, oX8 seI seR)), ((seR 1), .inl (cI, 1024, .inl se_bestF_8)), ((seR 0), .inl (cI, 70, .inl se_gainsF)), ((seR 2), .inl (cI, 7, .inl se_rowsF_8))] H → va_D A [(a_p0, .inr (8, oX8 seI seR)), ((seR 1), .inl (cI, 1024, .inl se_bestF_8)), ((seR 0), .inl (cI, 70, .inl se_gainsF)), ((seR 2), .inl (cI, 7, .inl se_rowsF_8))] → va_S A s.heap H locs → lv_has ls 5 [(0, .ref a_p0), (1, .int x1_8), (2, .int x2_8)] → W p l e (headSpec wsX8_settle { frames := 2, cells := 0, slots := 0, locals := 48 }).room s m [.ref a_p0, .int p1].toArray below meth c H locs 0 0 (MQ below (xq_Q (dC, dI) vwCl (xq_tys cI cB cJ cZ cM) A [(a_p0, .inr (8, oX8 seI seR)), ((seR 1), .inl (cI, 1024, .inl r0)), ((seR 0), .inl (cI, 70, .inl se_gainsF)), ((seR 2), .inl (cI, 7, .inl r1))] none) [.ref a_p0, .int p1].toArray s 0 0 A) (F0 m 8 ls []) := by
    intro n8
    induction n8 with
    | zero => intro se_bestF_8 se_rowsF_8 x1_8 x2_8 ls H locs hf; cases (show none = some (r0, r1) from hf)
    | succ n8 ih8 =>
      have b57 : ∀ (se_bestF_57 : Nat → Int32) (se_rowsF_57 : Nat → Int32) (x1_57 : Int32) (x2_57 : Int32) (y1_57 : Int32) (y2_57 : Int32) (ls : Array Slot) (H : Heap) (locs : List Loc), fX8_settle_b57 N se_gainsF (xq_loop (fX8_settle_l8 N se_gainsF) n8) (se_bestF_57, se_rowsF_57, x1_57, x2_57, y1_57, y2_57) = some (r0, r1) → va_P (dC, dI) vwCl [(a_p0, .inr (8, oX8 seI seR)), ((seR 1), .inl (cI, 1024, .inl se_bestF_57)), ((seR 0), .inl (cI, 70, .inl se_gainsF)), ((seR 2), .inl (cI, 7, .inl se_rowsF_57))] H → va_D A [(a_p0, .inr (8, oX8 seI seR)), ((seR 1), .inl (cI, 1024, .inl se_bestF_57)), ((seR 0), .inl (cI, 70, .inl se_gainsF)), ((seR 2), .inl (cI, 7, .inl se_rowsF_57))] → va_S A s.heap H locs → lv_has ls 5 [(0, .ref a_p0), (1, .int x1_57), (2, .int x2_57)] → W p l e (headSpec wsX8_settle { frames := 2, cells := 0, slots := 0, locals := 48 }).room s m [.ref a_p0, .int p1].toArray below meth c H locs 0 0 (MQ below (xq_Q (dC, dI) vwCl (xq_tys cI cB cJ cZ cM) A [(a_p0, .inr (8, oX8 seI seR)), ((seR 1), .inl (cI, 1024, .inl r0)), ((seR 0), .inl (cI, 70, .inl se_gainsF)), ((seR 2), .inl (cI, 7, .inl r1))] none) [.ref a_p0, .int p1].toArray s 0 0 A) (F0 m 57 ls [.int y2_57, .int y1_57, .ref ((seR 1))]) := by
        intro se_bestF_57 se_rowsF_57 x1_57 x2_57 y1_57 y2_57 ls H locs hf hP hD hS hl
        unfold fX8_settle_b57 at hf
        refine xq_iast hx hb hK hP hD hS 1 0 rfl rfl hf dX8_settle_57 (fun g_1 H locs hf hP hD hS => ?_)
        have hP : va_P (dC, dI) vwCl [(a_p0, .inr (8, oX8 seI seR)), ((seR 1), .inl (cI, 1024, .inl g_1)), ((seR 0), .inl (cI, 70, .inl se_gainsF)), ((seR 2), .inl (cI, 7, .inl se_rowsF_57))] H := hP
        have hD : va_D A [(a_p0, .inr (8, oX8 seI seR)), ((seR 1), .inl (cI, 1024, .inl g_1)), ((seR 0), .inl (cI, 70, .inl se_gainsF)), ((seR 2), .inl (cI, 7, .inl se_rowsF_57))] := hD
        refine lv_iinc (v := x2_57 + (-1)) (lv' := [(2, .int (x2_57 + (-1))), (0, .ref a_p0), (1, .int x1_57)]) hx hb dX8_settle_58 hl (k := 2) rfl (congrArg (fun q9 => x2_57 + q9) (by decide : Int32.ofInt (-1) = (-1))) (by decide) rfl (fun ls hl => ?_)
        refine lv_goto (tgt := 8) hx hb dX8_settle_61 (by decide) ?_
        exact ih8 g_1 se_rowsF_57 x1_57 (x2_57 + (-1)) _ _ _ hf hP hD hS (lv_sub hl [1, 2, 0] rfl)
      have b32 : ∀ (se_bestF_32 : Nat → Int32) (se_rowsF_32 : Nat → Int32) (x1_32 : Int32) (x2_32 : Int32) (x3_32 : Int32) (y0_32 : Int32) (ls : Array Slot) (H : Heap) (locs : List Loc), fX8_settle_b32 N se_gainsF (xq_loop (fX8_settle_l8 N se_gainsF) n8) (se_bestF_32, se_rowsF_32, x1_32, x2_32, x3_32, y0_32) = some (r0, r1) → va_P (dC, dI) vwCl [(a_p0, .inr (8, oX8 seI seR)), ((seR 1), .inl (cI, 1024, .inl se_bestF_32)), ((seR 0), .inl (cI, 70, .inl se_gainsF)), ((seR 2), .inl (cI, 7, .inl se_rowsF_32))] H → va_D A [(a_p0, .inr (8, oX8 seI seR)), ((seR 1), .inl (cI, 1024, .inl se_bestF_32)), ((seR 0), .inl (cI, 70, .inl se_gainsF)), ((seR 2), .inl (cI, 7, .inl se_rowsF_32))] → va_S A s.heap H locs → lv_has ls 5 [(0, .ref a_p0), (1, .int x1_32), (2, .int x2_32), (3, .int x3_32)] → W p l e (headSpec wsX8_settle { frames := 2, cells := 0, slots := 0, locals := 48 }).room s m [.ref a_p0, .int p1].toArray below meth c H locs 0 0 (MQ below (xq_Q (dC, dI) vwCl (xq_tys cI cB cJ cZ cM) A [(a_p0, .inr (8, oX8 seI seR)), ((seR 1), .inl (cI, 1024, .inl r0)), ((seR 0), .inl (cI, 70, .inl se_gainsF)), ((seR 2), .inl (cI, 7, .inl r1))] none) [.ref a_p0, .int p1].toArray s 0 0 A) (F0 m 32 ls [.int y0_32]) := by
        intro se_bestF_32 se_rowsF_32 x1_32 x2_32 x3_32 y0_32 ls H locs hf hP hD hS hl
        unfold fX8_settle_b32 at hf
        refine lv_istore (lv' := [(4, .int y0_32), (0, .ref a_p0), (1, .int x1_32), (2, .int x2_32), (3, .int x3_32)]) hx hb dX8_settle_32 hl (by decide) rfl (fun ls hl => ?_)
        refine lv_aload_n hx hb dX8_settle_34 rfl (lv_at hl 1 rfl) ?_
        refine va_get (D := (dC, dI)) (ci := 8) (v := .ref ((seR 1))) (C := RX8) (T := TX8) (N := 3) hx hb hts hinX8 hown hK hP 0 rfl rfl 1 (by decide) hw0 (fun _ h9 => h9) rfl dX8_settle_35 ?_
        refine lv_iload_n hx hb dX8_settle_38 rfl (lv_at hl 3 rfl) ?_
        refine lv_iload hx hb dX8_settle_39 (lv_at hl 0 rfl) ?_
        refine lv_iconst (v := (-1)) hx hb dX8_settle_41 (by decide) ?_
        refine lv_icmp_ne (tgt := 49) hx hb dX8_settle_42 (by decide) (fun c_ => ?_) (fun c_ => ?_)
        · have hf := xq_neg hf c_
          refine lv_aload_n hx hb dX8_settle_49 rfl (lv_at hl 1 rfl) ?_
          refine lv_iload_n hx hb dX8_settle_50 rfl (lv_at hl 4 rfl) ?_
          refine lv_iload hx hb dX8_settle_51 (lv_at hl 0 rfl) ?_
          refine lv_iload_n hx hb dX8_settle_53 rfl (lv_at hl 3 rfl) ?_
          obtain ⟨r_1, h_2, hf⟩ := xq_bd_some hf
          refine xq_callV (As := [.int x3_32, .int y0_32, .int x2_32]) (rest := [.int x2_32, .ref ((seR 1))]) (ci := 8) (q0 := 0) ⟨hx, hb, hml, hown, hts⟩ (kX8_gainOf l dC dI cI cB cJ cZ cM z ad N a_p0 seI seR se_gainsF se_bestF_32 x3_32 y0_32 x2_32 h_2) (cwV 3 hts gX8_settle_X8_gainOf rfl rfl rfl (by decide +kernel) ⟨Nat.le_of_ble_eq_true rfl, Nat.le_of_ble_eq_true rfl⟩) hN hK hP hD hS hA [0, 2, 1] (by decide) rfl rfl rfl rfl rfl rfl hl.1 rfl (Nat.le_of_ble_eq_true rfl) dX8_settle_54 ⟨Nat.zero_le _, Nat.zero_le _⟩ (fun H locs hP hD hS => ?_)
          have hP : va_P (dC, dI) vwCl [(a_p0, .inr (8, oX8 seI seR)), ((seR 1), .inl (cI, 1024, .inl se_bestF_32)), ((seR 0), .inl (cI, 70, .inl se_gainsF)), ((seR 2), .inl (cI, 7, .inl se_rowsF_32))] H := hP
          have hD : va_D A [(a_p0, .inr (8, oX8 seI seR)), ((seR 1), .inl (cI, 1024, .inl se_bestF_32)), ((seR 0), .inl (cI, 70, .inl se_gainsF)), ((seR 2), .inl (cI, 7, .inl se_rowsF_32))] := hD
          refine W.eq (g2 := F0 m 57 ls [.int r_1, .int x2_32, .ref ((seR 1))]) rfl ?_
          exact b57 se_bestF_32 se_rowsF_32 x1_32 x2_32 x2_32 r_1 _ _ _ hf hP hD hS (lv_sub hl [1, 2, 3] rfl)
        · have hf := xq_pos hf c_
          refine lv_iconst (v := 0) hx hb dX8_settle_45 (by decide) ?_
          refine lv_goto (tgt := 57) hx hb dX8_settle_46 (by decide) ?_
          exact b57 se_bestF_32 se_rowsF_32 x1_32 x2_32 x2_32 0 _ _ _ hf hP hD hS (lv_sub hl [1, 2, 3] rfl)
      intro se_bestF_8 se_rowsF_8 x1_8 x2_8 ls H locs hf hP hD hS hl
      have hf : fX8_settle_l8 N se_gainsF (xq_loop (fX8_settle_l8 N se_gainsF) n8) (se_bestF_8, se_rowsF_8, x1_8, x2_8) = some (r0, r1) := hf
      unfold fX8_settle_l8 at hf
      refine lv_iload_n hx hb dX8_settle_8 rfl (lv_at hl 2 rfl) ?_
      refine lv_if_lt (tgt := 64) hx hb dX8_settle_9 (by decide) (fun c_ => ?_) (fun c_ => ?_)
      · have hf := xq_pos hf c_
        refine lv_iconst (v := 0) hx hb dX8_settle_64 (by decide) ?_
        refine lv_istore_n (lv' := [(2, .int 0), (0, .ref a_p0), (1, .int x1_8)]) hx hb dX8_settle_65 rfl hl (by decide) rfl (fun ls hl => ?_)
        refine lv_iconst (v := 0) hx hb dX8_settle_66 (by decide) ?_
        refine lv_istore_n (lv' := [(3, .int 0), (2, .int 0), (0, .ref a_p0), (1, .int x1_8)]) hx hb dX8_settle_67 rfl hl (by decide) rfl (fun ls hl => ?_)
        exact l68 N se_bestF_8 se_rowsF_8 x1_8 0 0 _ _ _ hf hP hD hS (lv_sub hl [2, 3, 1, 0] rfl)
      · have hf := xq_neg hf c_
        refine lv_iload_n hx hb dX8_settle_12 rfl (lv_at hl 2 rfl) ?_
        obtain ⟨r_1, h_2, hf⟩ := xq_bd_some hf
        refine xq_callS (As := [.int x2_8]) (rest := []) ⟨hx, hb, hml, hown, hts⟩ (kJ6_bitCount_0f7a4 l dC dI cI cB cJ cZ cM z ad N x2_8 h_2) (va_cwS 1 hts gX8_settle_J6_bitCount_0f7a4 rfl rfl rfl (by decide +kernel) ⟨Nat.le_of_ble_eq_true rfl, Nat.le_of_ble_eq_true rfl⟩) hN hK hP hD hS hA [] (by decide) rfl rfl rfl hl.1 rfl (Nat.le_of_ble_eq_true rfl) dX8_settle_13 ⟨Nat.zero_le _, Nat.zero_le _⟩ (fun H locs hP hD hS => ?_)
        have hP : va_P (dC, dI) vwCl [(a_p0, .inr (8, oX8 seI seR)), ((seR 1), .inl (cI, 1024, .inl se_bestF_8)), ((seR 0), .inl (cI, 70, .inl se_gainsF)), ((seR 2), .inl (cI, 7, .inl se_rowsF_8))] H := hP
        have hD : va_D A [(a_p0, .inr (8, oX8 seI seR)), ((seR 1), .inl (cI, 1024, .inl se_bestF_8)), ((seR 0), .inl (cI, 70, .inl se_gainsF)), ((seR 2), .inl (cI, 7, .inl se_rowsF_8))] := hD
        refine W.eq (g2 := F0 m 16 ls [.int r_1]) rfl ?_
        refine lv_istore_n (lv' := [(3, .int r_1), (0, .ref a_p0), (1, .int x1_8), (2, .int x2_8)]) hx hb dX8_settle_16 rfl hl (by decide) rfl (fun ls hl => ?_)
        refine lv_iload_n hx hb dX8_settle_17 rfl (lv_at hl 0 rfl) ?_
        refine lv_iload_n hx hb dX8_settle_18 rfl (lv_at hl 2 rfl) ?_
        refine lv_icmp_ge (tgt := 31) hx hb dX8_settle_19 (by decide) (fun c_ => ?_) (fun c_ => ?_)
        · have hf := xq_pos hf c_
          refine lv_iconst (v := (-1)) hx hb dX8_settle_31 (by decide) ?_
          exact b32 se_bestF_8 se_rowsF_8 x1_8 x2_8 r_1 ((-1)) _ _ _ hf hP hD hS (lv_sub hl [1, 2, 3, 0] rfl)
        · have hf := xq_neg hf c_
          refine lv_aload_n hx hb dX8_settle_22 rfl (lv_at hl 1 rfl) ?_
          refine lv_iload_n hx hb dX8_settle_23 rfl (lv_at hl 0 rfl) ?_
          refine lv_iload_n hx hb dX8_settle_24 rfl (lv_at hl 3 rfl) ?_
          obtain ⟨r_3, h_4, hf⟩ := xq_bd_some hf
          refine xq_callV (As := [.int r_1, .int x2_8]) (rest := []) (ci := 8) (q0 := 0) ⟨hx, hb, hml, hown, hts⟩ (kX8_bestRow l dC dI cI cB cJ cZ cM z ad N a_p0 seI seR se_gainsF se_bestF_8 r_1 x2_8 h_4) (cwV 2 hts gX8_settle_X8_bestRow rfl rfl rfl (by decide +kernel) ⟨Nat.le_of_ble_eq_true rfl, Nat.le_of_ble_eq_true rfl⟩) hN hK hP hD hS hA [0, 2, 1] (by decide) rfl rfl rfl rfl rfl rfl hl.1 rfl (Nat.le_of_ble_eq_true rfl) dX8_settle_25 ⟨Nat.zero_le _, Nat.zero_le _⟩ (fun H locs hP hD hS => ?_)
          have hP : va_P (dC, dI) vwCl [(a_p0, .inr (8, oX8 seI seR)), ((seR 1), .inl (cI, 1024, .inl se_bestF_8)), ((seR 0), .inl (cI, 70, .inl se_gainsF)), ((seR 2), .inl (cI, 7, .inl se_rowsF_8))] H := hP
          have hD : va_D A [(a_p0, .inr (8, oX8 seI seR)), ((seR 1), .inl (cI, 1024, .inl se_bestF_8)), ((seR 0), .inl (cI, 70, .inl se_gainsF)), ((seR 2), .inl (cI, 7, .inl se_rowsF_8))] := hD
          refine W.eq (g2 := F0 m 28 ls [.int r_3]) rfl ?_
          refine lv_goto (tgt := 32) hx hb dX8_settle_28 (by decide) ?_
          exact b32 se_bestF_8 se_rowsF_8 x1_8 x2_8 r_1 r_3 _ _ _ hf hP hD hS (lv_sub hl [1, 2, 3, 0] rfl)
  unfold fX8_settle at hf
  refine lv_aload_n hx hb dX8_settle_0 rfl (lv_at hl 0 rfl) ?_
  refine va_get (D := (dC, dI)) (ci := 8) (v := .ref ((seR 1))) (C := RX8) (T := TX8) (N := 3) hx hb hts hinX8 hown hK hP 0 rfl rfl 1 (by decide) hw0 (fun _ h9 => h9) rfl dX8_settle_1 ?_
  refine va_alen hx hb hK hP 1 0 (v := 1024) rfl rfl rfl dX8_settle_4 ?_
  refine lv_iconst (v := 1) hx hb dX8_settle_5 (by decide) ?_
  refine lv_isub hx hb dX8_settle_6 ?_
  refine lv_istore_n (lv' := [(2, .int (1024 - 1)), (0, .ref a_p0), (1, .int p1)]) hx hb dX8_settle_7 rfl hl (by decide) rfl (fun ls hl => ?_)
  exact l8 N se_bestF se_rowsF p1 (1024 - 1) _ _ _ hf hP hD hS (lv_sub hl [1, 2, 0] rfl)
set_option maxRecDepth 20000 in
theorem ggX4_write_X4_addTwo : GoodIn wsX4_write wsX4_addTwo := goodIn_r _ [7, 8, 9, 10, 6, 11, 1, 2, 15, 16] rfl (by decide +kernel)
set_option maxRecDepth 20000 in
theorem gX4_write_X4_addTwo : GoodIn wsX4_write (wsV RX4 24 RX4 yX4_addTwo wsX4_addTwo) := goodIn_app (goodIn_of _ (by decide +kernel)) ggX4_write_X4_addTwo
set_option maxRecDepth 20000 in
theorem ggX4_write_X4_add : GoodIn wsX4_write wsX4_add := goodIn_r _ [11, 1, 2, 15, 16] rfl (by decide +kernel)
set_option maxRecDepth 20000 in
theorem gX4_write_X4_add : GoodIn wsX4_write (wsV RX4 37 RX4 yX4_add wsX4_add) := goodIn_app (goodIn_of _ (by decide +kernel)) ggX4_write_X4_add
set_option maxRecDepth 20000 in
theorem ggX4_write_X4_checkOn : GoodIn wsX4_write wsX4_checkOn := goodIn_r _ [14] rfl (by decide +kernel)
set_option maxRecDepth 20000 in
theorem gX4_write_X4_checkOn : GoodIn wsX4_write (va_wsS RX4 49 yX4_checkOn wsX4_checkOn) := goodIn_app (goodIn_of _ (by decide +kernel)) ggX4_write_X4_checkOn
def dsX4_write_0 : List (Nat × Instr × Nat) := [(0, (.aload_n 0, 1)), (1, (.iconst 0, 1)), (2, (.putfield 15, 3)), (5, (.aload_n 0, 1)), (6, (.aload_n 1, 1)), (7, (.getfield 19, 3)), (10, (.invokevirtual 24, 3)), (13, (.aload_n 0, 1)), (14, (.aload_n 1, 1)), (15, (.getfield 28, 3)), (18, (.invokevirtual 24, 3)), (21, (.aload_n 0, 1)), (22, (.aload_n 1, 1)), (23, (.getfield 31, 3)), (26, (.invokevirtual 24, 3)), (29, (.aload_n 0, 1)), (30, (.aload_n 1, 1)), (31, (.getfield 34, 3)), (34, (.invokevirtual 37, 3)), (37, (.aload_n 0, 1)), (38, (.aload_n 1, 1)), (39, (.getfield 40, 3)), (42, (.invokevirtual 37, 3)), (45, (.iconst 0, 1)), (46, (.istore 4, 2)), (48, (.iload 4, 2)), (50, (.iload_n 2, 1)), (51, (.if_icmp .ge 20, 3)), (54, (.aload_n 0, 1)), (55, (.aload_n 1, 1)), (56, (.getfield 43, 3)), (59, (.iload 4, 2)), (61, (.iaload, 1)), (62, (.invokevirtual 37, 3)), (65, (.iinc 4 1, 3)), (68, (.goto (-20), 3)), (71, (.iconst 0, 1)), (72, (.istore 4, 2)), (74, (.iload 4, 2)), (76, (.iload_n 3, 1)), (77, (.if_icmp .ge 20, 3)), (80, (.aload_n 0, 1)), (81, (.aload_n 1, 1)), (82, (.getfield 46, 3)), (85, (.iload 4, 2)), (87, (.iaload, 1)), (88, (.invokevirtual 37, 3)), (91, (.iinc 4 1, 3)), (94, (.goto (-20), 3)), (97, (.sipush 239, 3)), (100, (.istore 4, 2)), (102, (.iconst 0, 1)), (103, (.istore 5, 2)), (105, (.iload 5, 2)), (107, (.aload_n 0, 1)), (108, (.getfield 15, 3)), (111, (.if_icmp .ge 23, 3)), (114, (.iload 4, 2)), (116, (.aload_n 0, 1)), (117, (.getfield 9, 3))]
theorem dsX4_write_0_ok : (dsX4_write_0.all fun q => decide (decode cX4_write q.1 = .ok q.2)) = true := by decide +kernel
theorem dX4_write_0 : decode cX4_write 0 = .ok (.aload_n 0, 1) := of_decide_eq_true (List.all_eq_true.mp dsX4_write_0_ok (0, (.aload_n 0, 1)) (List.mem_of_getElem? (i := 0) rfl))
theorem dX4_write_1 : decode cX4_write 1 = .ok (.iconst 0, 1) := of_decide_eq_true (List.all_eq_true.mp dsX4_write_0_ok (1, (.iconst 0, 1)) (List.mem_of_getElem? (i := 1) rfl))
theorem dX4_write_2 : decode cX4_write 2 = .ok (.putfield 15, 3) := of_decide_eq_true (List.all_eq_true.mp dsX4_write_0_ok (2, (.putfield 15, 3)) (List.mem_of_getElem? (i := 2) rfl))
theorem dX4_write_5 : decode cX4_write 5 = .ok (.aload_n 0, 1) := of_decide_eq_true (List.all_eq_true.mp dsX4_write_0_ok (5, (.aload_n 0, 1)) (List.mem_of_getElem? (i := 3) rfl))
theorem dX4_write_6 : decode cX4_write 6 = .ok (.aload_n 1, 1) := of_decide_eq_true (List.all_eq_true.mp dsX4_write_0_ok (6, (.aload_n 1, 1)) (List.mem_of_getElem? (i := 4) rfl))
theorem dX4_write_7 : decode cX4_write 7 = .ok (.getfield 19, 3) := of_decide_eq_true (List.all_eq_true.mp dsX4_write_0_ok (7, (.getfield 19, 3)) (List.mem_of_getElem? (i := 5) rfl))
theorem dX4_write_10 : decode cX4_write 10 = .ok (.invokevirtual 24, 3) := of_decide_eq_true (List.all_eq_true.mp dsX4_write_0_ok (10, (.invokevirtual 24, 3)) (List.mem_of_getElem? (i := 6) rfl))
theorem dX4_write_13 : decode cX4_write 13 = .ok (.aload_n 0, 1) := of_decide_eq_true (List.all_eq_true.mp dsX4_write_0_ok (13, (.aload_n 0, 1)) (List.mem_of_getElem? (i := 7) rfl))
theorem dX4_write_14 : decode cX4_write 14 = .ok (.aload_n 1, 1) := of_decide_eq_true (List.all_eq_true.mp dsX4_write_0_ok (14, (.aload_n 1, 1)) (List.mem_of_getElem? (i := 8) rfl))
theorem dX4_write_15 : decode cX4_write 15 = .ok (.getfield 28, 3) := of_decide_eq_true (List.all_eq_true.mp dsX4_write_0_ok (15, (.getfield 28, 3)) (List.mem_of_getElem? (i := 9) rfl))
theorem dX4_write_18 : decode cX4_write 18 = .ok (.invokevirtual 24, 3) := of_decide_eq_true (List.all_eq_true.mp dsX4_write_0_ok (18, (.invokevirtual 24, 3)) (List.mem_of_getElem? (i := 10) rfl))
theorem dX4_write_21 : decode cX4_write 21 = .ok (.aload_n 0, 1) := of_decide_eq_true (List.all_eq_true.mp dsX4_write_0_ok (21, (.aload_n 0, 1)) (List.mem_of_getElem? (i := 11) rfl))
theorem dX4_write_22 : decode cX4_write 22 = .ok (.aload_n 1, 1) := of_decide_eq_true (List.all_eq_true.mp dsX4_write_0_ok (22, (.aload_n 1, 1)) (List.mem_of_getElem? (i := 12) rfl))
theorem dX4_write_23 : decode cX4_write 23 = .ok (.getfield 31, 3) := of_decide_eq_true (List.all_eq_true.mp dsX4_write_0_ok (23, (.getfield 31, 3)) (List.mem_of_getElem? (i := 13) rfl))
theorem dX4_write_26 : decode cX4_write 26 = .ok (.invokevirtual 24, 3) := of_decide_eq_true (List.all_eq_true.mp dsX4_write_0_ok (26, (.invokevirtual 24, 3)) (List.mem_of_getElem? (i := 14) rfl))
theorem dX4_write_29 : decode cX4_write 29 = .ok (.aload_n 0, 1) := of_decide_eq_true (List.all_eq_true.mp dsX4_write_0_ok (29, (.aload_n 0, 1)) (List.mem_of_getElem? (i := 15) rfl))
theorem dX4_write_30 : decode cX4_write 30 = .ok (.aload_n 1, 1) := of_decide_eq_true (List.all_eq_true.mp dsX4_write_0_ok (30, (.aload_n 1, 1)) (List.mem_of_getElem? (i := 16) rfl))
theorem dX4_write_31 : decode cX4_write 31 = .ok (.getfield 34, 3) := of_decide_eq_true (List.all_eq_true.mp dsX4_write_0_ok (31, (.getfield 34, 3)) (List.mem_of_getElem? (i := 17) rfl))
theorem dX4_write_34 : decode cX4_write 34 = .ok (.invokevirtual 37, 3) := of_decide_eq_true (List.all_eq_true.mp dsX4_write_0_ok (34, (.invokevirtual 37, 3)) (List.mem_of_getElem? (i := 18) rfl))
theorem dX4_write_37 : decode cX4_write 37 = .ok (.aload_n 0, 1) := of_decide_eq_true (List.all_eq_true.mp dsX4_write_0_ok (37, (.aload_n 0, 1)) (List.mem_of_getElem? (i := 19) rfl))
theorem dX4_write_38 : decode cX4_write 38 = .ok (.aload_n 1, 1) := of_decide_eq_true (List.all_eq_true.mp dsX4_write_0_ok (38, (.aload_n 1, 1)) (List.mem_of_getElem? (i := 20) rfl))
theorem dX4_write_39 : decode cX4_write 39 = .ok (.getfield 40, 3) := of_decide_eq_true (List.all_eq_true.mp dsX4_write_0_ok (39, (.getfield 40, 3)) (List.mem_of_getElem? (i := 21) rfl))
theorem dX4_write_42 : decode cX4_write 42 = .ok (.invokevirtual 37, 3) := of_decide_eq_true (List.all_eq_true.mp dsX4_write_0_ok (42, (.invokevirtual 37, 3)) (List.mem_of_getElem? (i := 22) rfl))
theorem dX4_write_45 : decode cX4_write 45 = .ok (.iconst 0, 1) := of_decide_eq_true (List.all_eq_true.mp dsX4_write_0_ok (45, (.iconst 0, 1)) (List.mem_of_getElem? (i := 23) rfl))
theorem dX4_write_46 : decode cX4_write 46 = .ok (.istore 4, 2) := of_decide_eq_true (List.all_eq_true.mp dsX4_write_0_ok (46, (.istore 4, 2)) (List.mem_of_getElem? (i := 24) rfl))
theorem dX4_write_48 : decode cX4_write 48 = .ok (.iload 4, 2) := of_decide_eq_true (List.all_eq_true.mp dsX4_write_0_ok (48, (.iload 4, 2)) (List.mem_of_getElem? (i := 25) rfl))
theorem dX4_write_50 : decode cX4_write 50 = .ok (.iload_n 2, 1) := of_decide_eq_true (List.all_eq_true.mp dsX4_write_0_ok (50, (.iload_n 2, 1)) (List.mem_of_getElem? (i := 26) rfl))
theorem dX4_write_51 : decode cX4_write 51 = .ok (.if_icmp .ge 20, 3) := of_decide_eq_true (List.all_eq_true.mp dsX4_write_0_ok (51, (.if_icmp .ge 20, 3)) (List.mem_of_getElem? (i := 27) rfl))
theorem dX4_write_54 : decode cX4_write 54 = .ok (.aload_n 0, 1) := of_decide_eq_true (List.all_eq_true.mp dsX4_write_0_ok (54, (.aload_n 0, 1)) (List.mem_of_getElem? (i := 28) rfl))
theorem dX4_write_55 : decode cX4_write 55 = .ok (.aload_n 1, 1) := of_decide_eq_true (List.all_eq_true.mp dsX4_write_0_ok (55, (.aload_n 1, 1)) (List.mem_of_getElem? (i := 29) rfl))
theorem dX4_write_56 : decode cX4_write 56 = .ok (.getfield 43, 3) := of_decide_eq_true (List.all_eq_true.mp dsX4_write_0_ok (56, (.getfield 43, 3)) (List.mem_of_getElem? (i := 30) rfl))
theorem dX4_write_59 : decode cX4_write 59 = .ok (.iload 4, 2) := of_decide_eq_true (List.all_eq_true.mp dsX4_write_0_ok (59, (.iload 4, 2)) (List.mem_of_getElem? (i := 31) rfl))
theorem dX4_write_61 : decode cX4_write 61 = .ok (.iaload, 1) := of_decide_eq_true (List.all_eq_true.mp dsX4_write_0_ok (61, (.iaload, 1)) (List.mem_of_getElem? (i := 32) rfl))
theorem dX4_write_62 : decode cX4_write 62 = .ok (.invokevirtual 37, 3) := of_decide_eq_true (List.all_eq_true.mp dsX4_write_0_ok (62, (.invokevirtual 37, 3)) (List.mem_of_getElem? (i := 33) rfl))
theorem dX4_write_65 : decode cX4_write 65 = .ok (.iinc 4 1, 3) := of_decide_eq_true (List.all_eq_true.mp dsX4_write_0_ok (65, (.iinc 4 1, 3)) (List.mem_of_getElem? (i := 34) rfl))
theorem dX4_write_68 : decode cX4_write 68 = .ok (.goto (-20), 3) := of_decide_eq_true (List.all_eq_true.mp dsX4_write_0_ok (68, (.goto (-20), 3)) (List.mem_of_getElem? (i := 35) rfl))
theorem dX4_write_71 : decode cX4_write 71 = .ok (.iconst 0, 1) := of_decide_eq_true (List.all_eq_true.mp dsX4_write_0_ok (71, (.iconst 0, 1)) (List.mem_of_getElem? (i := 36) rfl))
theorem dX4_write_72 : decode cX4_write 72 = .ok (.istore 4, 2) := of_decide_eq_true (List.all_eq_true.mp dsX4_write_0_ok (72, (.istore 4, 2)) (List.mem_of_getElem? (i := 37) rfl))
theorem dX4_write_74 : decode cX4_write 74 = .ok (.iload 4, 2) := of_decide_eq_true (List.all_eq_true.mp dsX4_write_0_ok (74, (.iload 4, 2)) (List.mem_of_getElem? (i := 38) rfl))
theorem dX4_write_76 : decode cX4_write 76 = .ok (.iload_n 3, 1) := of_decide_eq_true (List.all_eq_true.mp dsX4_write_0_ok (76, (.iload_n 3, 1)) (List.mem_of_getElem? (i := 39) rfl))
theorem dX4_write_77 : decode cX4_write 77 = .ok (.if_icmp .ge 20, 3) := of_decide_eq_true (List.all_eq_true.mp dsX4_write_0_ok (77, (.if_icmp .ge 20, 3)) (List.mem_of_getElem? (i := 40) rfl))
theorem dX4_write_80 : decode cX4_write 80 = .ok (.aload_n 0, 1) := of_decide_eq_true (List.all_eq_true.mp dsX4_write_0_ok (80, (.aload_n 0, 1)) (List.mem_of_getElem? (i := 41) rfl))
theorem dX4_write_81 : decode cX4_write 81 = .ok (.aload_n 1, 1) := of_decide_eq_true (List.all_eq_true.mp dsX4_write_0_ok (81, (.aload_n 1, 1)) (List.mem_of_getElem? (i := 42) rfl))
theorem dX4_write_82 : decode cX4_write 82 = .ok (.getfield 46, 3) := of_decide_eq_true (List.all_eq_true.mp dsX4_write_0_ok (82, (.getfield 46, 3)) (List.mem_of_getElem? (i := 43) rfl))
theorem dX4_write_85 : decode cX4_write 85 = .ok (.iload 4, 2) := of_decide_eq_true (List.all_eq_true.mp dsX4_write_0_ok (85, (.iload 4, 2)) (List.mem_of_getElem? (i := 44) rfl))
theorem dX4_write_87 : decode cX4_write 87 = .ok (.iaload, 1) := of_decide_eq_true (List.all_eq_true.mp dsX4_write_0_ok (87, (.iaload, 1)) (List.mem_of_getElem? (i := 45) rfl))
theorem dX4_write_88 : decode cX4_write 88 = .ok (.invokevirtual 37, 3) := of_decide_eq_true (List.all_eq_true.mp dsX4_write_0_ok (88, (.invokevirtual 37, 3)) (List.mem_of_getElem? (i := 46) rfl))
theorem dX4_write_91 : decode cX4_write 91 = .ok (.iinc 4 1, 3) := of_decide_eq_true (List.all_eq_true.mp dsX4_write_0_ok (91, (.iinc 4 1, 3)) (List.mem_of_getElem? (i := 47) rfl))
theorem dX4_write_94 : decode cX4_write 94 = .ok (.goto (-20), 3) := of_decide_eq_true (List.all_eq_true.mp dsX4_write_0_ok (94, (.goto (-20), 3)) (List.mem_of_getElem? (i := 48) rfl))
theorem dX4_write_97 : decode cX4_write 97 = .ok (.sipush 239, 3) := of_decide_eq_true (List.all_eq_true.mp dsX4_write_0_ok (97, (.sipush 239, 3)) (List.mem_of_getElem? (i := 49) rfl))
theorem dX4_write_100 : decode cX4_write 100 = .ok (.istore 4, 2) := of_decide_eq_true (List.all_eq_true.mp dsX4_write_0_ok (100, (.istore 4, 2)) (List.mem_of_getElem? (i := 50) rfl))
theorem dX4_write_102 : decode cX4_write 102 = .ok (.iconst 0, 1) := of_decide_eq_true (List.all_eq_true.mp dsX4_write_0_ok (102, (.iconst 0, 1)) (List.mem_of_getElem? (i := 51) rfl))
theorem dX4_write_103 : decode cX4_write 103 = .ok (.istore 5, 2) := of_decide_eq_true (List.all_eq_true.mp dsX4_write_0_ok (103, (.istore 5, 2)) (List.mem_of_getElem? (i := 52) rfl))
theorem dX4_write_105 : decode cX4_write 105 = .ok (.iload 5, 2) := of_decide_eq_true (List.all_eq_true.mp dsX4_write_0_ok (105, (.iload 5, 2)) (List.mem_of_getElem? (i := 53) rfl))
theorem dX4_write_107 : decode cX4_write 107 = .ok (.aload_n 0, 1) := of_decide_eq_true (List.all_eq_true.mp dsX4_write_0_ok (107, (.aload_n 0, 1)) (List.mem_of_getElem? (i := 54) rfl))
theorem dX4_write_108 : decode cX4_write 108 = .ok (.getfield 15, 3) := of_decide_eq_true (List.all_eq_true.mp dsX4_write_0_ok (108, (.getfield 15, 3)) (List.mem_of_getElem? (i := 55) rfl))
theorem dX4_write_111 : decode cX4_write 111 = .ok (.if_icmp .ge 23, 3) := of_decide_eq_true (List.all_eq_true.mp dsX4_write_0_ok (111, (.if_icmp .ge 23, 3)) (List.mem_of_getElem? (i := 56) rfl))
theorem dX4_write_114 : decode cX4_write 114 = .ok (.iload 4, 2) := of_decide_eq_true (List.all_eq_true.mp dsX4_write_0_ok (114, (.iload 4, 2)) (List.mem_of_getElem? (i := 57) rfl))
theorem dX4_write_116 : decode cX4_write 116 = .ok (.aload_n 0, 1) := of_decide_eq_true (List.all_eq_true.mp dsX4_write_0_ok (116, (.aload_n 0, 1)) (List.mem_of_getElem? (i := 58) rfl))
theorem dX4_write_117 : decode cX4_write 117 = .ok (.getfield 9, 3) := of_decide_eq_true (List.all_eq_true.mp dsX4_write_0_ok (117, (.getfield 9, 3)) (List.mem_of_getElem? (i := 59) rfl))
def dsX4_write_1 : List (Nat × Instr × Nat) := [(120, (.iload 5, 2)), (122, (.iaload, 1)), (123, (.invokestatic 49, 3)), (126, (.istore 4, 2)), (128, (.iinc 5 1, 3)), (131, (.goto (-26), 3)), (134, (.aload_n 0, 1)), (135, (.iload 4, 2)), (137, (.invokevirtual 37, 3)), (140, (.return_, 1))]
theorem dsX4_write_1_ok : (dsX4_write_1.all fun q => decide (decode cX4_write q.1 = .ok q.2)) = true := by decide +kernel
theorem dX4_write_120 : decode cX4_write 120 = .ok (.iload 5, 2) := of_decide_eq_true (List.all_eq_true.mp dsX4_write_1_ok (120, (.iload 5, 2)) (List.mem_of_getElem? (i := 0) rfl))
theorem dX4_write_122 : decode cX4_write 122 = .ok (.iaload, 1) := of_decide_eq_true (List.all_eq_true.mp dsX4_write_1_ok (122, (.iaload, 1)) (List.mem_of_getElem? (i := 1) rfl))
theorem dX4_write_123 : decode cX4_write 123 = .ok (.invokestatic 49, 3) := of_decide_eq_true (List.all_eq_true.mp dsX4_write_1_ok (123, (.invokestatic 49, 3)) (List.mem_of_getElem? (i := 2) rfl))
theorem dX4_write_126 : decode cX4_write 126 = .ok (.istore 4, 2) := of_decide_eq_true (List.all_eq_true.mp dsX4_write_1_ok (126, (.istore 4, 2)) (List.mem_of_getElem? (i := 3) rfl))
theorem dX4_write_128 : decode cX4_write 128 = .ok (.iinc 5 1, 3) := of_decide_eq_true (List.all_eq_true.mp dsX4_write_1_ok (128, (.iinc 5 1, 3)) (List.mem_of_getElem? (i := 4) rfl))
theorem dX4_write_131 : decode cX4_write 131 = .ok (.goto (-26), 3) := of_decide_eq_true (List.all_eq_true.mp dsX4_write_1_ok (131, (.goto (-26), 3)) (List.mem_of_getElem? (i := 5) rfl))
theorem dX4_write_134 : decode cX4_write 134 = .ok (.aload_n 0, 1) := of_decide_eq_true (List.all_eq_true.mp dsX4_write_1_ok (134, (.aload_n 0, 1)) (List.mem_of_getElem? (i := 6) rfl))
theorem dX4_write_135 : decode cX4_write 135 = .ok (.iload 4, 2) := of_decide_eq_true (List.all_eq_true.mp dsX4_write_1_ok (135, (.iload 4, 2)) (List.mem_of_getElem? (i := 7) rfl))
theorem dX4_write_137 : decode cX4_write 137 = .ok (.invokevirtual 37, 3) := of_decide_eq_true (List.all_eq_true.mp dsX4_write_1_ok (137, (.invokevirtual 37, 3)) (List.mem_of_getElem? (i := 8) rfl))
theorem dX4_write_140 : decode cX4_write 140 = .ok (.return_, 1) := of_decide_eq_true (List.all_eq_true.mp dsX4_write_1_ok (140, (.return_, 1)) (List.mem_of_getElem? (i := 9) rfl))
def fX4_write_l105 (N : Nat) (moI : Nat → Int32) (mo_rowsF : Nat → Int32) (mo_talksF : Nat → Int32)  (k105 : ((Nat → Int32) × (Nat → Int32) × Int32 × Int32) → Option ((Nat → Int32) × (Nat → Int32))) : ((Nat → Int32) × (Nat → Int32) × Int32 × Int32) → Option ((Nat → Int32) × (Nat → Int32)) :=
  fun (imI_105, im_bytesF_105, x4_105, x5_105) => (if (imI_105 1) ≤ x5_105 then (xq_bd (fX4_add N imI_105 im_bytesF_105 x4_105) fun (r_1_0, r_1_1) => some ((r_1_0, r_1_1))) else (xq_bd (xq_ald 22 im_bytesF_105 x5_105) fun v_3 => (xq_bd (fX4_checkOn N x4_105 v_3) fun r_4 => k105 (imI_105, im_bytesF_105, r_4, x5_105 + 1))))
def fX4_write_l74 (N : Nat) (moI : Nat → Int32) (mo_rowsF : Nat → Int32) (mo_talksF : Nat → Int32)  (k74 : ((Nat → Int32) × (Nat → Int32) × Int32 × Int32) → Option ((Nat → Int32) × (Nat → Int32))) : ((Nat → Int32) × (Nat → Int32) × Int32 × Int32) → Option ((Nat → Int32) × (Nat → Int32)) :=
  fun (imI_74, im_bytesF_74, x3_74, x4_74) => (if x3_74 ≤ x4_74 then xq_loop (fX4_write_l105 N moI mo_rowsF mo_talksF) N (imI_74, im_bytesF_74, 239, 0) else (xq_bd (xq_ald 6 mo_talksF x4_74) fun v_6 => (xq_bd (fX4_add N imI_74 im_bytesF_74 v_6) fun (r_7_0, r_7_1) => k74 (r_7_0, r_7_1, x3_74, x4_74 + 1))))
def fX4_write_l48 (N : Nat) (moI : Nat → Int32) (mo_rowsF : Nat → Int32) (mo_talksF : Nat → Int32)  (k48 : ((Nat → Int32) × (Nat → Int32) × Int32 × Int32 × Int32) → Option ((Nat → Int32) × (Nat → Int32))) : ((Nat → Int32) × (Nat → Int32) × Int32 × Int32 × Int32) → Option ((Nat → Int32) × (Nat → Int32)) :=
  fun (imI_48, im_bytesF_48, x2_48, x3_48, x4_48) => (if x2_48 ≤ x4_48 then xq_loop (fX4_write_l74 N moI mo_rowsF mo_talksF) N (imI_48, im_bytesF_48, x3_48, 0) else (xq_bd (xq_ald 7 mo_rowsF x4_48) fun v_9 => (xq_bd (fX4_add N imI_48 im_bytesF_48 v_9) fun (r_10_0, r_10_1) => k48 (r_10_0, r_10_1, x2_48, x3_48, x4_48 + 1))))
def fX4_write (N : Nat) (imI : Nat → Int32) (moI : Nat → Int32) (im_bytesF : Nat → Int32) (mo_rowsF : Nat → Int32) (mo_talksF : Nat → Int32)  (p2 : Int32) (p3 : Int32) : Option ((Nat → Int32) × (Nat → Int32)) :=
  (xq_bd (fX4_addTwo N ((va_up imI 1 0)) im_bytesF (moI 0)) fun (r_1_0, r_1_1) => (xq_bd (fX4_addTwo N r_1_0 r_1_1 (moI 1)) fun (r_3_0, r_3_1) => (xq_bd (fX4_addTwo N r_3_0 r_3_1 (moI 2)) fun (r_5_0, r_5_1) => (xq_bd (fX4_add N r_5_0 r_5_1 (moI 3)) fun (r_7_0, r_7_1) => (xq_bd (fX4_add N r_7_0 r_7_1 (moI 4)) fun (r_9_0, r_9_1) => xq_loop (fX4_write_l48 N moI mo_rowsF mo_talksF) N (r_9_0, r_9_1, p2, p3, 0))))))
set_option maxHeartbeats 4000000 in
set_option maxRecDepth 100000 in
theorem kX4_write (l : Launch) (dC : Nat → ClassId) (dI : Nat → Nat → Nat) (cI cB cJ cZ cM : ClassId) (z : Nat) (ad : Nat → Nat) (N : Nat) (a_p0 : Nat) (imI : Nat → Int32) (imR : Nat → Nat) (a_p1 : Nat) (moI : Nat → Int32) (moR : Nat → Nat) (im_bytesF : Nat → Int32) (mo_rowsF : Nat → Int32) (mo_talksF : Nat → Int32) (p2 : Int32) (p3 : Int32) {r0 : Nat → Int32} {r1 : Nat → Int32} (hf : fX4_write N imI moI im_bytesF mo_rowsF mo_talksF p2 p3 = some (r0, r1)) : xq_Ct l yX4_write wsX4_write { frames := 2, cells := 0, slots := 0, locals := 42 } (dC, dI) vwCl (xq_tys cI cB cJ cZ cM) z ad [.ref a_p0, .ref a_p1, .int p2, .int p3] [(a_p0, .inr (4, oX4 imI imR)), (a_p1, .inr (6, oX6 moI moR)), ((imR 0), .inl (cI, 22, .inl im_bytesF)), ((moR 6), .inl (cI, 7, .inl mo_rowsF)), ((moR 7), .inl (cI, 6, .inl mo_talksF))] [(a_p0, .inr (4, oX4 r0 imR)), (a_p1, .inr (6, oX6 moI moR)), ((imR 0), .inl (cI, 22, .inl r1)), ((moR 6), .inl (cI, 7, .inl mo_rowsF)), ((moR 7), .inl (cI, 6, .inl mo_talksF))] none := by
  intro sz
  refine Met.ofW (cc := cX4_write) (maxL := 6) (ret := none) (by decide) rfl ?_
  intro p e s m args below meth c s₁ B hml hv
  obtain ⟨rfl, hsz, hP, hK, hD0, hE, hz⟩ := hv
  have hx := B.exec
  have hb := B.bytes
  have hr := B.returns
  have hts := atoms_spec (ws := wsX4_write) B.pre
  have hown : s.vm.findClass RX4 = some m.cls := findClass_of_methodNamed B.named
  have hlocks := B.notSynchronized
  subst hsz
  have hD := hD0.self (sz := s.heap.size)
  have hN := xq_Env.of hE hz hD0
  generalize hAe : va_A [(a_p0, .inr (4, oX4 imI imR)), (a_p1, .inr (6, oX6 moI moR)), ((imR 0), .inl (cI, 22, .inl im_bytesF)), ((moR 6), .inl (cI, 7, .inl mo_rowsF)), ((moR 7), .inl (cI, 6, .inl mo_talksF))] s.heap.size = A at hD hN ⊢
  have hA : ∀ q : Nat, s.heap.size ≤ q → A q := fun q h => by rw [← hAe]; exact Or.inr h
  clear hAe hD0
  have hS : va_S A s.heap s.heap [] := va_S.rf
  have hl := lv_entry ([.ref a_p0, .ref a_p1, .int p2, .int p3]) (n := 6) (Nat.le_of_ble_eq_true rfl)
  rw [lg_entry_eq]
  generalize (lg_sl ([.ref a_p0, .ref a_p1, .int p2, .int p3]) ++ List.replicate (6 - (lg_sl ([.ref a_p0, .ref a_p1, .int p2, .int p3])).length) Slot.unset).toArray = ls at hl ⊢
  have hl : lv_has ls 6 [(0, .ref a_p0), (1, .ref a_p1), (2, .int p2), (3, .int p3)] := hl
  have hw0 := hts (.fieldLink RX4 15 "DistantVoice$Image" "length" "I") (by decide +kernel)
  have hinX4 : ∀ w ∈ wsX40, w ∈ wsX4_write := fun w h => List.mem_cons_of_mem _ (List.mem_append_left _ (List.mem_append_right _ h))
  have hnf4 := va_Nw.use (A := [.ref a_p0, .ref a_p1, .int p2, .int p3].toArray) rfl (hN.1.1.1 ("DistantVoice$Image", 19, "DistantVoice$Moment", "night", "I", "DistantVoice") (List.mem_of_getElem? (i := 4) rfl))
  have hinX6 : ∀ w ∈ wsX60, w ∈ wsX4_write := fun w h => List.mem_cons_of_mem _ (List.mem_append_right _ h)
  have hnf7 := va_Nw.use (A := [.ref a_p0, .ref a_p1, .int p2, .int p3].toArray) rfl (hN.1.1.1 ("DistantVoice$Image", 28, "DistantVoice$Moment", "mile", "I", "DistantVoice") (List.mem_of_getElem? (i := 7) rfl))
  have hnf10 := va_Nw.use (A := [.ref a_p0, .ref a_p1, .int p2, .int p3].toArray) rfl (hN.1.1.1 ("DistantVoice$Image", 31, "DistantVoice$Moment", "rounds", "I", "DistantVoice") (List.mem_of_getElem? (i := 10) rfl))
  have hnf13 := va_Nw.use (A := [.ref a_p0, .ref a_p1, .int p2, .int p3].toArray) rfl (hN.1.1.1 ("DistantVoice$Image", 34, "DistantVoice$Moment", "talking", "I", "DistantVoice") (List.mem_of_getElem? (i := 13) rfl))
  have hnf16 := va_Nw.use (A := [.ref a_p0, .ref a_p1, .int p2, .int p3].toArray) rfl (hN.1.1.1 ("DistantVoice$Image", 40, "DistantVoice$Moment", "hush", "I", "DistantVoice") (List.mem_of_getElem? (i := 16) rfl))
  have hnf20 := va_Nw.use (A := [.ref a_p0, .ref a_p1, .int p2, .int p3].toArray) rfl (hN.1.1.1 ("DistantVoice$Image", 43, "DistantVoice$Moment", "rows", "[I", "DistantVoice") (List.mem_of_getElem? (i := 20) rfl))
  have hnf23 := va_Nw.use (A := [.ref a_p0, .ref a_p1, .int p2, .int p3].toArray) rfl (hN.1.1.1 ("DistantVoice$Image", 46, "DistantVoice$Moment", "talks", "[I", "DistantVoice") (List.mem_of_getElem? (i := 23) rfl))
  have hw10 := hts (.fieldLink RX4 9 "DistantVoice$Image" "bytes" "[I") (by decide +kernel)
  have l105 : ∀ n105 : Nat, ∀ (imI_105 : Nat → Int32) (im_bytesF_105 : Nat → Int32) (x4_105 : Int32) (x5_105 : Int32) (ls : Array Slot) (H : Heap) (locs : List Loc), xq_loop (fX4_write_l105 N moI mo_rowsF mo_talksF) n105 (imI_105, im_bytesF_105, x4_105, x5_105) = some (r0, r1) → va_P (dC, dI) vwCl [(a_p0, .inr (4, oX4 imI_105 imR)), (a_p1, .inr (6, oX6 moI moR)), ((imR 0), .inl (cI, 22, .inl im_bytesF_105)), ((moR 6), .inl (cI, 7, .inl mo_rowsF)), ((moR 7), .inl (cI, 6, .inl mo_talksF))] H → va_D A [(a_p0, .inr (4, oX4 imI_105 imR)), (a_p1, .inr (6, oX6 moI moR)), ((imR 0), .inl (cI, 22, .inl im_bytesF_105)), ((moR 6), .inl (cI, 7, .inl mo_rowsF)), ((moR 7), .inl (cI, 6, .inl mo_talksF))] → va_S A s.heap H locs → lv_has ls 6 [(0, .ref a_p0), (4, .int x4_105), (5, .int x5_105)] → W p l e (headSpec wsX4_write { frames := 2, cells := 0, slots := 0, locals := 42 }).room s m [.ref a_p0, .ref a_p1, .int p2, .int p3].toArray below meth c H locs 0 0 (MQ below (xq_Q (dC, dI) vwCl (xq_tys cI cB cJ cZ cM) A [(a_p0, .inr (4, oX4 r0 imR)), (a_p1, .inr (6, oX6 moI moR)), ((imR 0), .inl (cI, 22, .inl r1)), ((moR 6), .inl (cI, 7, .inl mo_rowsF)), ((moR 7), .inl (cI, 6, .inl mo_talksF))] none) [.ref a_p0, .ref a_p1, .int p2, .int p3].toArray s 0 0 A) (F0 m 105 ls []) := by
    intro n105
    induction n105 with
    | zero => intro imI_105 im_bytesF_105 x4_105 x5_105 ls H locs hf; cases (show none = some (r0, r1) from hf)
    | succ n105 ih105 =>
      intro imI_105 im_bytesF_105 x4_105 x5_105 ls H locs hf hP hD hS hl
      have hf : fX4_write_l105 N moI mo_rowsF mo_talksF (xq_loop (fX4_write_l105 N moI mo_rowsF mo_talksF) n105) (imI_105, im_bytesF_105, x4_105, x5_105) = some (r0, r1) := hf
      unfold fX4_write_l105 at hf
      refine lv_iload hx hb dX4_write_105 (lv_at hl 2 rfl) ?_
      refine lv_aload_n hx hb dX4_write_107 rfl (lv_at hl 0 rfl) ?_
      refine va_get (D := (dC, dI)) (ci := 4) (v := .int (imI_105 1)) (C := RX4) (T := TX4) (N := 2) hx hb hts hinX4 hown hK hP 0 rfl rfl 1 (by decide) hw0 (fun _ h9 => h9) rfl dX4_write_108 ?_
      refine lv_icmp_ge (tgt := 134) hx hb dX4_write_111 (by decide) (fun c_ => ?_) (fun c_ => ?_)
      · have hf := xq_pos hf c_
        refine lv_aload_n hx hb dX4_write_134 rfl (lv_at hl 0 rfl) ?_
        refine lv_iload hx hb dX4_write_135 (lv_at hl 1 rfl) ?_
        obtain ⟨⟨r_1_0, r_1_1⟩, h_2, hf⟩ := xq_bd_some hf
        refine xq_callV (As := [.int x4_105]) (rest := []) (ci := 4) (q0 := 0) ⟨hx, hb, hml, hown, hts⟩ (kX4_add l dC dI cI cB cJ cZ cM z ad N a_p0 imI_105 imR im_bytesF_105 x4_105 h_2) (cwV 1 hts gX4_write_X4_add rfl rfl rfl (by decide +kernel) ⟨Nat.le_of_ble_eq_true rfl, Nat.le_of_ble_eq_true rfl⟩) hN hK hP hD hS hA [0, 2] (by decide) rfl rfl rfl rfl rfl rfl hl.1 rfl (Nat.le_of_ble_eq_true rfl) dX4_write_137 ⟨Nat.zero_le _, Nat.zero_le _⟩ (fun H locs hP hD hS => ?_)
        have hP : va_P (dC, dI) vwCl [(a_p0, .inr (4, oX4 r_1_0 imR)), (a_p1, .inr (6, oX6 moI moR)), ((imR 0), .inl (cI, 22, .inl r_1_1)), ((moR 6), .inl (cI, 7, .inl mo_rowsF)), ((moR 7), .inl (cI, 6, .inl mo_talksF))] H := hP
        have hD : va_D A [(a_p0, .inr (4, oX4 r_1_0 imR)), (a_p1, .inr (6, oX6 moI moR)), ((imR 0), .inl (cI, 22, .inl r_1_1)), ((moR 6), .inl (cI, 7, .inl mo_rowsF)), ((moR 7), .inl (cI, 6, .inl mo_talksF))] := hD
        refine W.eq (g2 := F0 m 140 ls []) rfl ?_
        cases hf
        exact xq_vret hx hb hr hlocks hK hP hD hS dX4_write_140
      · have hf := xq_neg hf c_
        refine lv_iload hx hb dX4_write_114 (lv_at hl 1 rfl) ?_
        refine lv_aload_n hx hb dX4_write_116 rfl (lv_at hl 0 rfl) ?_
        refine va_get (D := (dC, dI)) (ci := 4) (v := .ref ((imR 0))) (C := RX4) (T := TX4) (N := 2) hx hb hts hinX4 hown hK hP 0 rfl rfl 0 (by decide) hw10 (fun _ h9 => h9) rfl dX4_write_117 ?_
        refine lv_iload hx hb dX4_write_120 (lv_at hl 2 rfl) ?_
        refine xq_iald hx hb hK hP 2 0 rfl rfl hf dX4_write_122 (fun v_3 hf => ?_)
        obtain ⟨r_4, h_5, hf⟩ := xq_bd_some hf
        refine xq_callS (As := [.int x4_105, .int v_3]) (rest := []) ⟨hx, hb, hml, hown, hts⟩ (kX4_checkOn l dC dI cI cB cJ cZ cM z ad N x4_105 v_3 h_5) (va_cwS 2 hts gX4_write_X4_checkOn rfl rfl rfl (by decide +kernel) ⟨Nat.le_of_ble_eq_true rfl, Nat.le_of_ble_eq_true rfl⟩) hN hK hP hD hS hA [] (by decide) rfl rfl rfl hl.1 rfl (Nat.le_of_ble_eq_true rfl) dX4_write_123 ⟨Nat.zero_le _, Nat.zero_le _⟩ (fun H locs hP hD hS => ?_)
        have hP : va_P (dC, dI) vwCl [(a_p0, .inr (4, oX4 imI_105 imR)), (a_p1, .inr (6, oX6 moI moR)), ((imR 0), .inl (cI, 22, .inl im_bytesF_105)), ((moR 6), .inl (cI, 7, .inl mo_rowsF)), ((moR 7), .inl (cI, 6, .inl mo_talksF))] H := hP
        have hD : va_D A [(a_p0, .inr (4, oX4 imI_105 imR)), (a_p1, .inr (6, oX6 moI moR)), ((imR 0), .inl (cI, 22, .inl im_bytesF_105)), ((moR 6), .inl (cI, 7, .inl mo_rowsF)), ((moR 7), .inl (cI, 6, .inl mo_talksF))] := hD
        refine W.eq (g2 := F0 m 126 ls [.int r_4]) rfl ?_
        refine lv_istore (lv' := [(4, .int r_4), (0, .ref a_p0), (5, .int x5_105)]) hx hb dX4_write_126 hl (by decide) rfl (fun ls hl => ?_)
        refine lv_iinc (v := x5_105 + 1) (lv' := [(5, .int (x5_105 + 1)), (4, .int r_4), (0, .ref a_p0)]) hx hb dX4_write_128 hl (k := 2) rfl (congrArg (fun q9 => x5_105 + q9) (by decide : Int32.ofInt 1 = 1)) (by decide) rfl (fun ls hl => ?_)
        refine lv_goto (tgt := 105) hx hb dX4_write_131 (by decide) ?_
        exact ih105 imI_105 im_bytesF_105 r_4 (x5_105 + 1) _ _ _ hf hP hD hS (lv_sub hl [2, 1, 0] rfl)
  have l74 : ∀ n74 : Nat, ∀ (imI_74 : Nat → Int32) (im_bytesF_74 : Nat → Int32) (x3_74 : Int32) (x4_74 : Int32) (ls : Array Slot) (H : Heap) (locs : List Loc), xq_loop (fX4_write_l74 N moI mo_rowsF mo_talksF) n74 (imI_74, im_bytesF_74, x3_74, x4_74) = some (r0, r1) → va_P (dC, dI) vwCl [(a_p0, .inr (4, oX4 imI_74 imR)), (a_p1, .inr (6, oX6 moI moR)), ((imR 0), .inl (cI, 22, .inl im_bytesF_74)), ((moR 6), .inl (cI, 7, .inl mo_rowsF)), ((moR 7), .inl (cI, 6, .inl mo_talksF))] H → va_D A [(a_p0, .inr (4, oX4 imI_74 imR)), (a_p1, .inr (6, oX6 moI moR)), ((imR 0), .inl (cI, 22, .inl im_bytesF_74)), ((moR 6), .inl (cI, 7, .inl mo_rowsF)), ((moR 7), .inl (cI, 6, .inl mo_talksF))] → va_S A s.heap H locs → lv_has ls 6 [(0, .ref a_p0), (1, .ref a_p1), (3, .int x3_74), (4, .int x4_74)] → W p l e (headSpec wsX4_write { frames := 2, cells := 0, slots := 0, locals := 42 }).room s m [.ref a_p0, .ref a_p1, .int p2, .int p3].toArray below meth c H locs 0 0 (MQ below (xq_Q (dC, dI) vwCl (xq_tys cI cB cJ cZ cM) A [(a_p0, .inr (4, oX4 r0 imR)), (a_p1, .inr (6, oX6 moI moR)), ((imR 0), .inl (cI, 22, .inl r1)), ((moR 6), .inl (cI, 7, .inl mo_rowsF)), ((moR 7), .inl (cI, 6, .inl mo_talksF))] none) [.ref a_p0, .ref a_p1, .int p2, .int p3].toArray s 0 0 A) (F0 m 74 ls []) := by
    intro n74
    induction n74 with
    | zero => intro imI_74 im_bytesF_74 x3_74 x4_74 ls H locs hf; cases (show none = some (r0, r1) from hf)
    | succ n74 ih74 =>
      intro imI_74 im_bytesF_74 x3_74 x4_74 ls H locs hf hP hD hS hl
      have hf : fX4_write_l74 N moI mo_rowsF mo_talksF (xq_loop (fX4_write_l74 N moI mo_rowsF mo_talksF) n74) (imI_74, im_bytesF_74, x3_74, x4_74) = some (r0, r1) := hf
      unfold fX4_write_l74 at hf
      refine lv_iload hx hb dX4_write_74 (lv_at hl 3 rfl) ?_
      refine lv_iload_n hx hb dX4_write_76 rfl (lv_at hl 2 rfl) ?_
      refine lv_icmp_ge (tgt := 97) hx hb dX4_write_77 (by decide) (fun c_ => ?_) (fun c_ => ?_)
      · have hf := xq_pos hf c_
        refine lv_sipush (v := 239) hx hb dX4_write_97 (by decide) ?_
        refine lv_istore (lv' := [(4, .int 239), (0, .ref a_p0), (1, .ref a_p1), (3, .int x3_74)]) hx hb dX4_write_100 hl (by decide) rfl (fun ls hl => ?_)
        refine lv_iconst (v := 0) hx hb dX4_write_102 (by decide) ?_
        refine lv_istore (lv' := [(5, .int 0), (4, .int 239), (0, .ref a_p0), (1, .ref a_p1), (3, .int x3_74)]) hx hb dX4_write_103 hl (by decide) rfl (fun ls hl => ?_)
        exact l105 N imI_74 im_bytesF_74 239 0 _ _ _ hf hP hD hS (lv_sub hl [2, 1, 0] rfl)
      · have hf := xq_neg hf c_
        refine lv_aload_n hx hb dX4_write_80 rfl (lv_at hl 0 rfl) ?_
        refine lv_aload_n hx hb dX4_write_81 rfl (lv_at hl 1 rfl) ?_
        refine va_getN (D := (dC, dI)) (ci := 6) (v := .ref ((moR 7))) (C := RX6) (T := TX6) (N := 8) hx hb hts hinX6 hown hK hP 1 rfl rfl 7 (by decide) hnf23 (fun _ h9 => h9) rfl dX4_write_82 ?_
        refine lv_iload hx hb dX4_write_85 (lv_at hl 3 rfl) ?_
        refine xq_iald hx hb hK hP 4 0 rfl rfl hf dX4_write_87 (fun v_1 hf => ?_)
        obtain ⟨⟨r_2_0, r_2_1⟩, h_3, hf⟩ := xq_bd_some hf
        refine xq_callV (As := [.int v_1]) (rest := []) (ci := 4) (q0 := 0) ⟨hx, hb, hml, hown, hts⟩ (kX4_add l dC dI cI cB cJ cZ cM z ad N a_p0 imI_74 imR im_bytesF_74 v_1 h_3) (cwV 1 hts gX4_write_X4_add rfl rfl rfl (by decide +kernel) ⟨Nat.le_of_ble_eq_true rfl, Nat.le_of_ble_eq_true rfl⟩) hN hK hP hD hS hA [0, 2] (by decide) rfl rfl rfl rfl rfl rfl hl.1 rfl (Nat.le_of_ble_eq_true rfl) dX4_write_88 ⟨Nat.zero_le _, Nat.zero_le _⟩ (fun H locs hP hD hS => ?_)
        have hP : va_P (dC, dI) vwCl [(a_p0, .inr (4, oX4 r_2_0 imR)), (a_p1, .inr (6, oX6 moI moR)), ((imR 0), .inl (cI, 22, .inl r_2_1)), ((moR 6), .inl (cI, 7, .inl mo_rowsF)), ((moR 7), .inl (cI, 6, .inl mo_talksF))] H := hP
        have hD : va_D A [(a_p0, .inr (4, oX4 r_2_0 imR)), (a_p1, .inr (6, oX6 moI moR)), ((imR 0), .inl (cI, 22, .inl r_2_1)), ((moR 6), .inl (cI, 7, .inl mo_rowsF)), ((moR 7), .inl (cI, 6, .inl mo_talksF))] := hD
        refine W.eq (g2 := F0 m 91 ls []) rfl ?_
        refine lv_iinc (v := x4_74 + 1) (lv' := [(4, .int (x4_74 + 1)), (0, .ref a_p0), (1, .ref a_p1), (3, .int x3_74)]) hx hb dX4_write_91 hl (k := 3) rfl (congrArg (fun q9 => x4_74 + q9) (by decide : Int32.ofInt 1 = 1)) (by decide) rfl (fun ls hl => ?_)
        refine lv_goto (tgt := 74) hx hb dX4_write_94 (by decide) ?_
        exact ih74 r_2_0 r_2_1 x3_74 (x4_74 + 1) _ _ _ hf hP hD hS (lv_sub hl [1, 2, 3, 0] rfl)
  have l48 : ∀ n48 : Nat, ∀ (imI_48 : Nat → Int32) (im_bytesF_48 : Nat → Int32) (x2_48 : Int32) (x3_48 : Int32) (x4_48 : Int32) (ls : Array Slot) (H : Heap) (locs : List Loc), xq_loop (fX4_write_l48 N moI mo_rowsF mo_talksF) n48 (imI_48, im_bytesF_48, x2_48, x3_48, x4_48) = some (r0, r1) → va_P (dC, dI) vwCl [(a_p0, .inr (4, oX4 imI_48 imR)), (a_p1, .inr (6, oX6 moI moR)), ((imR 0), .inl (cI, 22, .inl im_bytesF_48)), ((moR 6), .inl (cI, 7, .inl mo_rowsF)), ((moR 7), .inl (cI, 6, .inl mo_talksF))] H → va_D A [(a_p0, .inr (4, oX4 imI_48 imR)), (a_p1, .inr (6, oX6 moI moR)), ((imR 0), .inl (cI, 22, .inl im_bytesF_48)), ((moR 6), .inl (cI, 7, .inl mo_rowsF)), ((moR 7), .inl (cI, 6, .inl mo_talksF))] → va_S A s.heap H locs → lv_has ls 6 [(0, .ref a_p0), (1, .ref a_p1), (2, .int x2_48), (3, .int x3_48), (4, .int x4_48)] → W p l e (headSpec wsX4_write { frames := 2, cells := 0, slots := 0, locals := 42 }).room s m [.ref a_p0, .ref a_p1, .int p2, .int p3].toArray below meth c H locs 0 0 (MQ below (xq_Q (dC, dI) vwCl (xq_tys cI cB cJ cZ cM) A [(a_p0, .inr (4, oX4 r0 imR)), (a_p1, .inr (6, oX6 moI moR)), ((imR 0), .inl (cI, 22, .inl r1)), ((moR 6), .inl (cI, 7, .inl mo_rowsF)), ((moR 7), .inl (cI, 6, .inl mo_talksF))] none) [.ref a_p0, .ref a_p1, .int p2, .int p3].toArray s 0 0 A) (F0 m 48 ls []) := by
    intro n48
    induction n48 with
    | zero => intro imI_48 im_bytesF_48 x2_48 x3_48 x4_48 ls H locs hf; cases (show none = some (r0, r1) from hf)
    | succ n48 ih48 =>
      intro imI_48 im_bytesF_48 x2_48 x3_48 x4_48 ls H locs hf hP hD hS hl
      have hf : fX4_write_l48 N moI mo_rowsF mo_talksF (xq_loop (fX4_write_l48 N moI mo_rowsF mo_talksF) n48) (imI_48, im_bytesF_48, x2_48, x3_48, x4_48) = some (r0, r1) := hf
      unfold fX4_write_l48 at hf
      refine lv_iload hx hb dX4_write_48 (lv_at hl 4 rfl) ?_
      refine lv_iload_n hx hb dX4_write_50 rfl (lv_at hl 2 rfl) ?_
      refine lv_icmp_ge (tgt := 71) hx hb dX4_write_51 (by decide) (fun c_ => ?_) (fun c_ => ?_)
      · have hf := xq_pos hf c_
        refine lv_iconst (v := 0) hx hb dX4_write_71 (by decide) ?_
        refine lv_istore (lv' := [(4, .int 0), (0, .ref a_p0), (1, .ref a_p1), (2, .int x2_48), (3, .int x3_48)]) hx hb dX4_write_72 hl (by decide) rfl (fun ls hl => ?_)
        exact l74 N imI_48 im_bytesF_48 x3_48 0 _ _ _ hf hP hD hS (lv_sub hl [1, 2, 4, 0] rfl)
      · have hf := xq_neg hf c_
        refine lv_aload_n hx hb dX4_write_54 rfl (lv_at hl 0 rfl) ?_
        refine lv_aload_n hx hb dX4_write_55 rfl (lv_at hl 1 rfl) ?_
        refine va_getN (D := (dC, dI)) (ci := 6) (v := .ref ((moR 6))) (C := RX6) (T := TX6) (N := 8) hx hb hts hinX6 hown hK hP 1 rfl rfl 6 (by decide) hnf20 (fun _ h9 => h9) rfl dX4_write_56 ?_
        refine lv_iload hx hb dX4_write_59 (lv_at hl 4 rfl) ?_
        refine xq_iald hx hb hK hP 3 0 rfl rfl hf dX4_write_61 (fun v_1 hf => ?_)
        obtain ⟨⟨r_2_0, r_2_1⟩, h_3, hf⟩ := xq_bd_some hf
        refine xq_callV (As := [.int v_1]) (rest := []) (ci := 4) (q0 := 0) ⟨hx, hb, hml, hown, hts⟩ (kX4_add l dC dI cI cB cJ cZ cM z ad N a_p0 imI_48 imR im_bytesF_48 v_1 h_3) (cwV 1 hts gX4_write_X4_add rfl rfl rfl (by decide +kernel) ⟨Nat.le_of_ble_eq_true rfl, Nat.le_of_ble_eq_true rfl⟩) hN hK hP hD hS hA [0, 2] (by decide) rfl rfl rfl rfl rfl rfl hl.1 rfl (Nat.le_of_ble_eq_true rfl) dX4_write_62 ⟨Nat.zero_le _, Nat.zero_le _⟩ (fun H locs hP hD hS => ?_)
        have hP : va_P (dC, dI) vwCl [(a_p0, .inr (4, oX4 r_2_0 imR)), (a_p1, .inr (6, oX6 moI moR)), ((imR 0), .inl (cI, 22, .inl r_2_1)), ((moR 6), .inl (cI, 7, .inl mo_rowsF)), ((moR 7), .inl (cI, 6, .inl mo_talksF))] H := hP
        have hD : va_D A [(a_p0, .inr (4, oX4 r_2_0 imR)), (a_p1, .inr (6, oX6 moI moR)), ((imR 0), .inl (cI, 22, .inl r_2_1)), ((moR 6), .inl (cI, 7, .inl mo_rowsF)), ((moR 7), .inl (cI, 6, .inl mo_talksF))] := hD
        refine W.eq (g2 := F0 m 65 ls []) rfl ?_
        refine lv_iinc (v := x4_48 + 1) (lv' := [(4, .int (x4_48 + 1)), (0, .ref a_p0), (1, .ref a_p1), (2, .int x2_48), (3, .int x3_48)]) hx hb dX4_write_65 hl (k := 4) rfl (congrArg (fun q9 => x4_48 + q9) (by decide : Int32.ofInt 1 = 1)) (by decide) rfl (fun ls hl => ?_)
        refine lv_goto (tgt := 48) hx hb dX4_write_68 (by decide) ?_
        exact ih48 r_2_0 r_2_1 x2_48 x3_48 (x4_48 + 1) _ _ _ hf hP hD hS (lv_sub hl [1, 2, 3, 4, 0] rfl)
  unfold fX4_write at hf
  refine lv_aload_n hx hb dX4_write_0 rfl (lv_at hl 0 rfl) ?_
  refine lv_iconst (v := 0) hx hb dX4_write_1 (by decide) ?_
  refine va_put (D := (dC, dI)) (ci := 4) (v := .int 0) (ty := .int) (C := RX4) (T := TX4) (N := 2) hx hb hts hinX4 tyX4 tyX4_ok nmX4 hown hK hP hD hS 0 rfl rfl 1 (by decide) hw0 (fun _ h9 => h9) rfl (by decide +kernel) rfl rfl (Nat.le_of_ble_eq_true rfl) dX4_write_2 (fun H locs hP hD hS => ?_)
  have hP : va_P (dC, dI) vwCl [(a_p0, .inr (4, oX4 (va_up imI 1 0) imR)), (a_p1, .inr (6, oX6 moI moR)), ((imR 0), .inl (cI, 22, .inl im_bytesF)), ((moR 6), .inl (cI, 7, .inl mo_rowsF)), ((moR 7), .inl (cI, 6, .inl mo_talksF))] H := hP
  have hD : va_D A [(a_p0, .inr (4, oX4 (va_up imI 1 0) imR)), (a_p1, .inr (6, oX6 moI moR)), ((imR 0), .inl (cI, 22, .inl im_bytesF)), ((moR 6), .inl (cI, 7, .inl mo_rowsF)), ((moR 7), .inl (cI, 6, .inl mo_talksF))] := hD
  refine lv_aload_n hx hb dX4_write_5 rfl (lv_at hl 0 rfl) ?_
  refine lv_aload_n hx hb dX4_write_6 rfl (lv_at hl 1 rfl) ?_
  refine va_getN (D := (dC, dI)) (ci := 6) (v := .int (moI 0)) (C := RX6) (T := TX6) (N := 8) hx hb hts hinX6 hown hK hP 1 rfl rfl 0 (by decide) hnf4 (fun _ h9 => h9) rfl dX4_write_7 ?_
  obtain ⟨⟨r_1_0, r_1_1⟩, h_2, hf⟩ := xq_bd_some hf
  refine xq_callV (As := [.int (moI 0)]) (rest := []) (ci := 4) (q0 := 0) ⟨hx, hb, hml, hown, hts⟩ (kX4_addTwo l dC dI cI cB cJ cZ cM z ad N a_p0 ((va_up imI 1 0)) imR im_bytesF (moI 0) h_2) (cwV 1 hts gX4_write_X4_addTwo rfl rfl rfl (by decide +kernel) ⟨Nat.le_of_ble_eq_true rfl, Nat.le_of_ble_eq_true rfl⟩) hN hK hP hD hS hA [0, 2] (by decide) rfl rfl rfl rfl rfl rfl hl.1 rfl (Nat.le_of_ble_eq_true rfl) dX4_write_10 ⟨Nat.zero_le _, Nat.zero_le _⟩ (fun H locs hP hD hS => ?_)
  have hP : va_P (dC, dI) vwCl [(a_p0, .inr (4, oX4 r_1_0 imR)), (a_p1, .inr (6, oX6 moI moR)), ((imR 0), .inl (cI, 22, .inl r_1_1)), ((moR 6), .inl (cI, 7, .inl mo_rowsF)), ((moR 7), .inl (cI, 6, .inl mo_talksF))] H := hP
  have hD : va_D A [(a_p0, .inr (4, oX4 r_1_0 imR)), (a_p1, .inr (6, oX6 moI moR)), ((imR 0), .inl (cI, 22, .inl r_1_1)), ((moR 6), .inl (cI, 7, .inl mo_rowsF)), ((moR 7), .inl (cI, 6, .inl mo_talksF))] := hD
  refine W.eq (g2 := F0 m 13 ls []) rfl ?_
  refine lv_aload_n hx hb dX4_write_13 rfl (lv_at hl 0 rfl) ?_
  refine lv_aload_n hx hb dX4_write_14 rfl (lv_at hl 1 rfl) ?_
  refine va_getN (D := (dC, dI)) (ci := 6) (v := .int (moI 1)) (C := RX6) (T := TX6) (N := 8) hx hb hts hinX6 hown hK hP 1 rfl rfl 1 (by decide) hnf7 (fun _ h9 => h9) rfl dX4_write_15 ?_
  obtain ⟨⟨r_3_0, r_3_1⟩, h_4, hf⟩ := xq_bd_some hf
  refine xq_callV (As := [.int (moI 1)]) (rest := []) (ci := 4) (q0 := 0) ⟨hx, hb, hml, hown, hts⟩ (kX4_addTwo l dC dI cI cB cJ cZ cM z ad N a_p0 r_1_0 imR r_1_1 (moI 1) h_4) (cwV 1 hts gX4_write_X4_addTwo rfl rfl rfl (by decide +kernel) ⟨Nat.le_of_ble_eq_true rfl, Nat.le_of_ble_eq_true rfl⟩) hN hK hP hD hS hA [0, 2] (by decide) rfl rfl rfl rfl rfl rfl hl.1 rfl (Nat.le_of_ble_eq_true rfl) dX4_write_18 ⟨Nat.zero_le _, Nat.zero_le _⟩ (fun H locs hP hD hS => ?_)
  have hP : va_P (dC, dI) vwCl [(a_p0, .inr (4, oX4 r_3_0 imR)), (a_p1, .inr (6, oX6 moI moR)), ((imR 0), .inl (cI, 22, .inl r_3_1)), ((moR 6), .inl (cI, 7, .inl mo_rowsF)), ((moR 7), .inl (cI, 6, .inl mo_talksF))] H := hP
  have hD : va_D A [(a_p0, .inr (4, oX4 r_3_0 imR)), (a_p1, .inr (6, oX6 moI moR)), ((imR 0), .inl (cI, 22, .inl r_3_1)), ((moR 6), .inl (cI, 7, .inl mo_rowsF)), ((moR 7), .inl (cI, 6, .inl mo_talksF))] := hD
  refine W.eq (g2 := F0 m 21 ls []) rfl ?_
  refine lv_aload_n hx hb dX4_write_21 rfl (lv_at hl 0 rfl) ?_
  refine lv_aload_n hx hb dX4_write_22 rfl (lv_at hl 1 rfl) ?_
  refine va_getN (D := (dC, dI)) (ci := 6) (v := .int (moI 2)) (C := RX6) (T := TX6) (N := 8) hx hb hts hinX6 hown hK hP 1 rfl rfl 2 (by decide) hnf10 (fun _ h9 => h9) rfl dX4_write_23 ?_
  obtain ⟨⟨r_5_0, r_5_1⟩, h_6, hf⟩ := xq_bd_some hf
  refine xq_callV (As := [.int (moI 2)]) (rest := []) (ci := 4) (q0 := 0) ⟨hx, hb, hml, hown, hts⟩ (kX4_addTwo l dC dI cI cB cJ cZ cM z ad N a_p0 r_3_0 imR r_3_1 (moI 2) h_6) (cwV 1 hts gX4_write_X4_addTwo rfl rfl rfl (by decide +kernel) ⟨Nat.le_of_ble_eq_true rfl, Nat.le_of_ble_eq_true rfl⟩) hN hK hP hD hS hA [0, 2] (by decide) rfl rfl rfl rfl rfl rfl hl.1 rfl (Nat.le_of_ble_eq_true rfl) dX4_write_26 ⟨Nat.zero_le _, Nat.zero_le _⟩ (fun H locs hP hD hS => ?_)
  have hP : va_P (dC, dI) vwCl [(a_p0, .inr (4, oX4 r_5_0 imR)), (a_p1, .inr (6, oX6 moI moR)), ((imR 0), .inl (cI, 22, .inl r_5_1)), ((moR 6), .inl (cI, 7, .inl mo_rowsF)), ((moR 7), .inl (cI, 6, .inl mo_talksF))] H := hP
  have hD : va_D A [(a_p0, .inr (4, oX4 r_5_0 imR)), (a_p1, .inr (6, oX6 moI moR)), ((imR 0), .inl (cI, 22, .inl r_5_1)), ((moR 6), .inl (cI, 7, .inl mo_rowsF)), ((moR 7), .inl (cI, 6, .inl mo_talksF))] := hD
  refine W.eq (g2 := F0 m 29 ls []) rfl ?_
  refine lv_aload_n hx hb dX4_write_29 rfl (lv_at hl 0 rfl) ?_
  refine lv_aload_n hx hb dX4_write_30 rfl (lv_at hl 1 rfl) ?_
  refine va_getN (D := (dC, dI)) (ci := 6) (v := .int (moI 3)) (C := RX6) (T := TX6) (N := 8) hx hb hts hinX6 hown hK hP 1 rfl rfl 3 (by decide) hnf13 (fun _ h9 => h9) rfl dX4_write_31 ?_
  obtain ⟨⟨r_7_0, r_7_1⟩, h_8, hf⟩ := xq_bd_some hf
  refine xq_callV (As := [.int (moI 3)]) (rest := []) (ci := 4) (q0 := 0) ⟨hx, hb, hml, hown, hts⟩ (kX4_add l dC dI cI cB cJ cZ cM z ad N a_p0 r_5_0 imR r_5_1 (moI 3) h_8) (cwV 1 hts gX4_write_X4_add rfl rfl rfl (by decide +kernel) ⟨Nat.le_of_ble_eq_true rfl, Nat.le_of_ble_eq_true rfl⟩) hN hK hP hD hS hA [0, 2] (by decide) rfl rfl rfl rfl rfl rfl hl.1 rfl (Nat.le_of_ble_eq_true rfl) dX4_write_34 ⟨Nat.zero_le _, Nat.zero_le _⟩ (fun H locs hP hD hS => ?_)
  have hP : va_P (dC, dI) vwCl [(a_p0, .inr (4, oX4 r_7_0 imR)), (a_p1, .inr (6, oX6 moI moR)), ((imR 0), .inl (cI, 22, .inl r_7_1)), ((moR 6), .inl (cI, 7, .inl mo_rowsF)), ((moR 7), .inl (cI, 6, .inl mo_talksF))] H := hP
  have hD : va_D A [(a_p0, .inr (4, oX4 r_7_0 imR)), (a_p1, .inr (6, oX6 moI moR)), ((imR 0), .inl (cI, 22, .inl r_7_1)), ((moR 6), .inl (cI, 7, .inl mo_rowsF)), ((moR 7), .inl (cI, 6, .inl mo_talksF))] := hD
  refine W.eq (g2 := F0 m 37 ls []) rfl ?_
  refine lv_aload_n hx hb dX4_write_37 rfl (lv_at hl 0 rfl) ?_
  refine lv_aload_n hx hb dX4_write_38 rfl (lv_at hl 1 rfl) ?_
  refine va_getN (D := (dC, dI)) (ci := 6) (v := .int (moI 4)) (C := RX6) (T := TX6) (N := 8) hx hb hts hinX6 hown hK hP 1 rfl rfl 4 (by decide) hnf16 (fun _ h9 => h9) rfl dX4_write_39 ?_
  obtain ⟨⟨r_9_0, r_9_1⟩, h_10, hf⟩ := xq_bd_some hf
  refine xq_callV (As := [.int (moI 4)]) (rest := []) (ci := 4) (q0 := 0) ⟨hx, hb, hml, hown, hts⟩ (kX4_add l dC dI cI cB cJ cZ cM z ad N a_p0 r_7_0 imR r_7_1 (moI 4) h_10) (cwV 1 hts gX4_write_X4_add rfl rfl rfl (by decide +kernel) ⟨Nat.le_of_ble_eq_true rfl, Nat.le_of_ble_eq_true rfl⟩) hN hK hP hD hS hA [0, 2] (by decide) rfl rfl rfl rfl rfl rfl hl.1 rfl (Nat.le_of_ble_eq_true rfl) dX4_write_42 ⟨Nat.zero_le _, Nat.zero_le _⟩ (fun H locs hP hD hS => ?_)
  have hP : va_P (dC, dI) vwCl [(a_p0, .inr (4, oX4 r_9_0 imR)), (a_p1, .inr (6, oX6 moI moR)), ((imR 0), .inl (cI, 22, .inl r_9_1)), ((moR 6), .inl (cI, 7, .inl mo_rowsF)), ((moR 7), .inl (cI, 6, .inl mo_talksF))] H := hP
  have hD : va_D A [(a_p0, .inr (4, oX4 r_9_0 imR)), (a_p1, .inr (6, oX6 moI moR)), ((imR 0), .inl (cI, 22, .inl r_9_1)), ((moR 6), .inl (cI, 7, .inl mo_rowsF)), ((moR 7), .inl (cI, 6, .inl mo_talksF))] := hD
  refine W.eq (g2 := F0 m 45 ls []) rfl ?_
  refine lv_iconst (v := 0) hx hb dX4_write_45 (by decide) ?_
  refine lv_istore (lv' := [(4, .int 0), (0, .ref a_p0), (1, .ref a_p1), (2, .int p2), (3, .int p3)]) hx hb dX4_write_46 hl (by decide) rfl (fun ls hl => ?_)
  exact l48 N r_9_0 r_9_1 p2 p3 0 _ _ _ hf hP hD hS (lv_sub hl [1, 2, 3, 4, 0] rfl)
