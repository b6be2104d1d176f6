def dsX11_fault_0 : List (Nat × Instr × Nat) := [(0, (.iload_n 1, 1)), (1, (.lookupswitch 37 #[(0, 27), (1, 32)], 27)), (28, (.aload_n 0, 1)), (29, (.getfield 84, 3)), (32, (.ireturn, 1)), (33, (.aload_n 0, 1)), (34, (.getfield 87, 3)), (37, (.ireturn, 1)), (38, (.iconst (-1), 1)), (39, (.ireturn, 1))]
theorem dsX11_fault_0_ok : (dsX11_fault_0.all fun q => decide (decode cX11_fault q.1 = .ok q.2)) = true := by decide +kernel
theorem dX11_fault_0 : decode cX11_fault 0 = .ok (.iload_n 1, 1) := of_decide_eq_true (List.all_eq_true.mp dsX11_fault_0_ok (0, (.iload_n 1, 1)) (List.mem_of_getElem? (i := 0) rfl))
theorem dX11_fault_1 : decode cX11_fault 1 = .ok (.lookupswitch 37 #[(0, 27), (1, 32)], 27) := of_decide_eq_true (List.all_eq_true.mp dsX11_fault_0_ok (1, (.lookupswitch 37 #[(0, 27), (1, 32)], 27)) (List.mem_of_getElem? (i := 1) rfl))
theorem dX11_fault_28 : decode cX11_fault 28 = .ok (.aload_n 0, 1) := of_decide_eq_true (List.all_eq_true.mp dsX11_fault_0_ok (28, (.aload_n 0, 1)) (List.mem_of_getElem? (i := 2) rfl))
theorem dX11_fault_29 : decode cX11_fault 29 = .ok (.getfield 84, 3) := of_decide_eq_true (List.all_eq_true.mp dsX11_fault_0_ok (29, (.getfield 84, 3)) (List.mem_of_getElem? (i := 3) rfl))
theorem dX11_fault_32 : decode cX11_fault 32 = .ok (.ireturn, 1) := of_decide_eq_true (List.all_eq_true.mp dsX11_fault_0_ok (32, (.ireturn, 1)) (List.mem_of_getElem? (i := 4) rfl))
theorem dX11_fault_33 : decode cX11_fault 33 = .ok (.aload_n 0, 1) := of_decide_eq_true (List.all_eq_true.mp dsX11_fault_0_ok (33, (.aload_n 0, 1)) (List.mem_of_getElem? (i := 5) rfl))
theorem dX11_fault_34 : decode cX11_fault 34 = .ok (.getfield 87, 3) := of_decide_eq_true (List.all_eq_true.mp dsX11_fault_0_ok (34, (.getfield 87, 3)) (List.mem_of_getElem? (i := 6) rfl))
theorem dX11_fault_37 : decode cX11_fault 37 = .ok (.ireturn, 1) := of_decide_eq_true (List.all_eq_true.mp dsX11_fault_0_ok (37, (.ireturn, 1)) (List.mem_of_getElem? (i := 7) rfl))
theorem dX11_fault_38 : decode cX11_fault 38 = .ok (.iconst (-1), 1) := of_decide_eq_true (List.all_eq_true.mp dsX11_fault_0_ok (38, (.iconst (-1), 1)) (List.mem_of_getElem? (i := 8) rfl))
theorem dX11_fault_39 : decode cX11_fault 39 = .ok (.ireturn, 1) := of_decide_eq_true (List.all_eq_true.mp dsX11_fault_0_ok (39, (.ireturn, 1)) (List.mem_of_getElem? (i := 9) rfl))
def fX11_fault (N : Nat) (dvI : Nat → Int32)  (p1 : Int32) : Option (Int32) :=
  (if p1 = 0 then some (dvI 13) else (if p1 = 1 then some (dvI 14) else some ((-1))))
set_option maxHeartbeats 4000000 in
set_option maxRecDepth 100000 in
theorem kX11_fault (l : Launch) (dC : Nat → ClassId) (dI : Nat → Nat → Nat) (cI cB cJ cZ cM : ClassId) (z : Nat) (ad : Nat → Nat) (N : Nat) (a_p0 : Nat) (dvI : Nat → Int32) (dvR : Nat → Nat) (p1 : Int32) {r0 : Int32} (hf : fX11_fault N dvI p1 = some r0) : xq_Ct l yX11_fault wsX11_fault { frames := 0, cells := 0, slots := 0, locals := 0 } (dC, dI) vwCl (xq_tys cI cB cJ cZ cM) z ad [.ref a_p0, .int p1] [(a_p0, .inr (11, oX11 dvI dvR))] [(a_p0, .inr (11, oX11 dvI dvR))] (some (.int r0)) := by
  intro sz
  refine Met.ofW (cc := cX11_fault) (maxL := 2) (ret := (some .int)) (by decide) rfl ?_
  intro p e s m args below meth c s₁ B hml hv
  obtain ⟨rfl, hsz, hP, hK, hD0, hE, hz⟩ := hv
  have hx := B.exec
  have hb := B.bytes
  have hr := B.returns
  have hts := atoms_spec (ws := wsX11_fault) B.pre
  have hown : s.vm.findClass RX11 = some m.cls := findClass_of_methodNamed B.named
  have hlocks := B.notSynchronized
  subst hsz
  have hD := hD0.self (sz := s.heap.size)
  have hN := xq_Env.of hE hz hD0
  generalize hAe : va_A [(a_p0, .inr (11, oX11 dvI dvR))] s.heap.size = A at hD hN ⊢
  have hA : ∀ q : Nat, s.heap.size ≤ q → A q := fun q h => by rw [← hAe]; exact Or.inr h
  clear hAe hD0
  have hS : va_S A s.heap s.heap [] := va_S.rf
  have hl := lv_entry ([.ref a_p0, .int p1]) (n := 2) (Nat.le_of_ble_eq_true rfl)
  rw [lg_entry_eq]
  generalize (lg_sl ([.ref a_p0, .int p1]) ++ List.replicate (2 - (lg_sl ([.ref a_p0, .int p1])).length) Slot.unset).toArray = ls at hl ⊢
  have hl : lv_has ls 2 [(0, .ref a_p0), (1, .int p1)] := hl
  have hw0 := hts (.fieldLink RX11 84 "DistantVoice" "faultKind" "I") (by decide +kernel)
  have hinX11 : ∀ w ∈ wsX110, w ∈ wsX11_fault := fun w h => List.mem_cons_of_mem _ (List.mem_append_right _ h)
  have hw2 := hts (.fieldLink RX11 87 "DistantVoice" "faultPlace" "I") (by decide +kernel)
  unfold fX11_fault at hf
  refine lv_iload_n hx hb dX11_fault_0 rfl (lv_at hl 1 rfl) ?_
  by_cases c0 : p1 = 0
  · have hf := xq_pos hf c0
    refine lv_lookup (tgt := 28) hx hb dX11_fault_1 (by decide) (off := 27) (by rw [c0]; decide) (by decide) ?_
    refine lv_aload_n hx hb dX11_fault_28 rfl (lv_at hl 0 rfl) ?_
    refine va_get (D := (dC, dI)) (ci := 11) (v := .int (dvI 13)) (C := RX11) (T := TX11) (N := 15) hx hb hts hinX11 hown hK hP 0 rfl rfl 13 (by decide) hw0 (fun _ h9 => h9) rfl dX11_fault_29 ?_
    cases hf
    exact xq_iret hx hb hr hlocks hK hP hD hS dX11_fault_32
  · have hf := xq_neg hf c0
    by_cases c1 : p1 = 1
    · have hf := xq_pos hf c1
      refine lv_lookup (tgt := 33) hx hb dX11_fault_1 (by decide) (off := 32) (by rw [c1]; decide) (by decide) ?_
      refine lv_aload_n hx hb dX11_fault_33 rfl (lv_at hl 0 rfl) ?_
      refine va_get (D := (dC, dI)) (ci := 11) (v := .int (dvI 14)) (C := RX11) (T := TX11) (N := 15) hx hb hts hinX11 hown hK hP 0 rfl rfl 14 (by decide) hw2 (fun _ h9 => h9) rfl dX11_fault_34 ?_
      cases hf
      exact xq_iret hx hb hr hlocks hK hP hD hS dX11_fault_37
    · have hf := xq_neg hf c1
      refine lv_lookup (tgt := 38) hx hb dX11_fault_1 (by decide) (off := 37) (by refine (lv_osw c0 (by decide)).trans ?_; refine (lv_osw c1 (by decide)).trans ?_; rfl) (by decide) ?_
      refine lv_iconst (v := (-1)) hx hb dX11_fault_38 (by decide) ?_
      cases hf
      exact xq_iret hx hb hr hlocks hK hP hD hS dX11_fault_39
set_option maxRecDepth 20000 in
theorem ggX11_has_X2_farOf : GoodIn wsX11_has wsX2_farOf := goodIn_r _ [14, 15, 16, 4, 5, 6, 32, 33, 34, 35, 36, 37, 38, 39, 40, 41, 42, 43, 44, 45, 46, 47, 48, 49, 50] rfl (by decide +kernel)
set_option maxRecDepth 20000 in
theorem gX11_has_X2_farOf : GoodIn wsX11_has (wsV RX11 165 RX2 yX2_farOf wsX2_farOf) := goodIn_app (goodIn_of _ (by decide +kernel)) ggX11_has_X2_farOf
def dsX11_has_0 : List (Nat × Instr × Nat) := [(0, (.iload_n 1, 1)), (1, (.tableswitch 180 0 12 #[67, 75, 83, 91, 99, 107, 115, 123, 131, 146, 159, 167, 175], 67)), (68, (.aload_n 0, 1)), (69, (.getfield 67, 3)), (72, (.getfield 141, 3)), (75, (.ireturn, 1)), (76, (.aload_n 0, 1)), (77, (.getfield 67, 3)), (80, (.getfield 144, 3)), (83, (.ireturn, 1)), (84, (.aload_n 0, 1)), (85, (.getfield 67, 3)), (88, (.getfield 147, 3)), (91, (.ireturn, 1)), (92, (.aload_n 0, 1)), (93, (.getfield 19, 3)), (96, (.getfield 150, 3)), (99, (.ireturn, 1)), (100, (.aload_n 0, 1)), (101, (.getfield 19, 3)), (104, (.getfield 153, 3)), (107, (.ireturn, 1)), (108, (.aload_n 0, 1)), (109, (.getfield 19, 3)), (112, (.getfield 156, 3)), (115, (.ireturn, 1)), (116, (.aload_n 0, 1)), (117, (.getfield 19, 3)), (120, (.getfield 159, 3)), (123, (.ireturn, 1)), (124, (.aload_n 0, 1)), (125, (.getfield 19, 3)), (128, (.getfield 162, 3)), (131, (.ireturn, 1)), (132, (.aload_n 0, 1)), (133, (.getfield 67, 3)), (136, (.aload_n 0, 1)), (137, (.getfield 19, 3)), (140, (.getfield 153, 3)), (143, (.invokevirtual 165, 3)), (146, (.ireturn, 1)), (147, (.bipush 40, 2)), (149, (.aload_n 0, 1)), (150, (.getfield 19, 3)), (153, (.getfield 168, 3)), (156, (.invokestatic 171, 3)), (159, (.ireturn, 1)), (160, (.aload_n 0, 1)), (161, (.getfield 36, 3)), (164, (.getfield 135, 3)), (167, (.ireturn, 1)), (168, (.aload_n 0, 1)), (169, (.getfield 29, 3)), (172, (.getfield 132, 3)), (175, (.ireturn, 1)), (176, (.aload_n 0, 1)), (177, (.getfield 80, 3)), (180, (.ireturn, 1)), (181, (.iconst (-1), 1)), (182, (.ireturn, 1))]
theorem dsX11_has_0_ok : (dsX11_has_0.all fun q => decide (decode cX11_has q.1 = .ok q.2)) = true := by decide +kernel
theorem dX11_has_0 : decode cX11_has 0 = .ok (.iload_n 1, 1) := of_decide_eq_true (List.all_eq_true.mp dsX11_has_0_ok (0, (.iload_n 1, 1)) (List.mem_of_getElem? (i := 0) rfl))
theorem dX11_has_1 : decode cX11_has 1 = .ok (.tableswitch 180 0 12 #[67, 75, 83, 91, 99, 107, 115, 123, 131, 146, 159, 167, 175], 67) := of_decide_eq_true (List.all_eq_true.mp dsX11_has_0_ok (1, (.tableswitch 180 0 12 #[67, 75, 83, 91, 99, 107, 115, 123, 131, 146, 159, 167, 175], 67)) (List.mem_of_getElem? (i := 1) rfl))
theorem dX11_has_68 : decode cX11_has 68 = .ok (.aload_n 0, 1) := of_decide_eq_true (List.all_eq_true.mp dsX11_has_0_ok (68, (.aload_n 0, 1)) (List.mem_of_getElem? (i := 2) rfl))
theorem dX11_has_69 : decode cX11_has 69 = .ok (.getfield 67, 3) := of_decide_eq_true (List.all_eq_true.mp dsX11_has_0_ok (69, (.getfield 67, 3)) (List.mem_of_getElem? (i := 3) rfl))
theorem dX11_has_72 : decode cX11_has 72 = .ok (.getfield 141, 3) := of_decide_eq_true (List.all_eq_true.mp dsX11_has_0_ok (72, (.getfield 141, 3)) (List.mem_of_getElem? (i := 4) rfl))
theorem dX11_has_75 : decode cX11_has 75 = .ok (.ireturn, 1) := of_decide_eq_true (List.all_eq_true.mp dsX11_has_0_ok (75, (.ireturn, 1)) (List.mem_of_getElem? (i := 5) rfl))
theorem dX11_has_76 : decode cX11_has 76 = .ok (.aload_n 0, 1) := of_decide_eq_true (List.all_eq_true.mp dsX11_has_0_ok (76, (.aload_n 0, 1)) (List.mem_of_getElem? (i := 6) rfl))
theorem dX11_has_77 : decode cX11_has 77 = .ok (.getfield 67, 3) := of_decide_eq_true (List.all_eq_true.mp dsX11_has_0_ok (77, (.getfield 67, 3)) (List.mem_of_getElem? (i := 7) rfl))
theorem dX11_has_80 : decode cX11_has 80 = .ok (.getfield 144, 3) := of_decide_eq_true (List.all_eq_true.mp dsX11_has_0_ok (80, (.getfield 144, 3)) (List.mem_of_getElem? (i := 8) rfl))
theorem dX11_has_83 : decode cX11_has 83 = .ok (.ireturn, 1) := of_decide_eq_true (List.all_eq_true.mp dsX11_has_0_ok (83, (.ireturn, 1)) (List.mem_of_getElem? (i := 9) rfl))
theorem dX11_has_84 : decode cX11_has 84 = .ok (.aload_n 0, 1) := of_decide_eq_true (List.all_eq_true.mp dsX11_has_0_ok (84, (.aload_n 0, 1)) (List.mem_of_getElem? (i := 10) rfl))
theorem dX11_has_85 : decode cX11_has 85 = .ok (.getfield 67, 3) := of_decide_eq_true (List.all_eq_true.mp dsX11_has_0_ok (85, (.getfield 67, 3)) (List.mem_of_getElem? (i := 11) rfl))
theorem dX11_has_88 : decode cX11_has 88 = .ok (.getfield 147, 3) := of_decide_eq_true (List.all_eq_true.mp dsX11_has_0_ok (88, (.getfield 147, 3)) (List.mem_of_getElem? (i := 12) rfl))
theorem dX11_has_91 : decode cX11_has 91 = .ok (.ireturn, 1) := of_decide_eq_true (List.all_eq_true.mp dsX11_has_0_ok (91, (.ireturn, 1)) (List.mem_of_getElem? (i := 13) rfl))
theorem dX11_has_92 : decode cX11_has 92 = .ok (.aload_n 0, 1) := of_decide_eq_true (List.all_eq_true.mp dsX11_has_0_ok (92, (.aload_n 0, 1)) (List.mem_of_getElem? (i := 14) rfl))
theorem dX11_has_93 : decode cX11_has 93 = .ok (.getfield 19, 3) := of_decide_eq_true (List.all_eq_true.mp dsX11_has_0_ok (93, (.getfield 19, 3)) (List.mem_of_getElem? (i := 15) rfl))
theorem dX11_has_96 : decode cX11_has 96 = .ok (.getfield 150, 3) := of_decide_eq_true (List.all_eq_true.mp dsX11_has_0_ok (96, (.getfield 150, 3)) (List.mem_of_getElem? (i := 16) rfl))
theorem dX11_has_99 : decode cX11_has 99 = .ok (.ireturn, 1) := of_decide_eq_true (List.all_eq_true.mp dsX11_has_0_ok (99, (.ireturn, 1)) (List.mem_of_getElem? (i := 17) rfl))
theorem dX11_has_100 : decode cX11_has 100 = .ok (.aload_n 0, 1) := of_decide_eq_true (List.all_eq_true.mp dsX11_has_0_ok (100, (.aload_n 0, 1)) (List.mem_of_getElem? (i := 18) rfl))
theorem dX11_has_101 : decode cX11_has 101 = .ok (.getfield 19, 3) := of_decide_eq_true (List.all_eq_true.mp dsX11_has_0_ok (101, (.getfield 19, 3)) (List.mem_of_getElem? (i := 19) rfl))
theorem dX11_has_104 : decode cX11_has 104 = .ok (.getfield 153, 3) := of_decide_eq_true (List.all_eq_true.mp dsX11_has_0_ok (104, (.getfield 153, 3)) (List.mem_of_getElem? (i := 20) rfl))
theorem dX11_has_107 : decode cX11_has 107 = .ok (.ireturn, 1) := of_decide_eq_true (List.all_eq_true.mp dsX11_has_0_ok (107, (.ireturn, 1)) (List.mem_of_getElem? (i := 21) rfl))
theorem dX11_has_108 : decode cX11_has 108 = .ok (.aload_n 0, 1) := of_decide_eq_true (List.all_eq_true.mp dsX11_has_0_ok (108, (.aload_n 0, 1)) (List.mem_of_getElem? (i := 22) rfl))
theorem dX11_has_109 : decode cX11_has 109 = .ok (.getfield 19, 3) := of_decide_eq_true (List.all_eq_true.mp dsX11_has_0_ok (109, (.getfield 19, 3)) (List.mem_of_getElem? (i := 23) rfl))
theorem dX11_has_112 : decode cX11_has 112 = .ok (.getfield 156, 3) := of_decide_eq_true (List.all_eq_true.mp dsX11_has_0_ok (112, (.getfield 156, 3)) (List.mem_of_getElem? (i := 24) rfl))
theorem dX11_has_115 : decode cX11_has 115 = .ok (.ireturn, 1) := of_decide_eq_true (List.all_eq_true.mp dsX11_has_0_ok (115, (.ireturn, 1)) (List.mem_of_getElem? (i := 25) rfl))
theorem dX11_has_116 : decode cX11_has 116 = .ok (.aload_n 0, 1) := of_decide_eq_true (List.all_eq_true.mp dsX11_has_0_ok (116, (.aload_n 0, 1)) (List.mem_of_getElem? (i := 26) rfl))
theorem dX11_has_117 : decode cX11_has 117 = .ok (.getfield 19, 3) := of_decide_eq_true (List.all_eq_true.mp dsX11_has_0_ok (117, (.getfield 19, 3)) (List.mem_of_getElem? (i := 27) rfl))
theorem dX11_has_120 : decode cX11_has 120 = .ok (.getfield 159, 3) := of_decide_eq_true (List.all_eq_true.mp dsX11_has_0_ok (120, (.getfield 159, 3)) (List.mem_of_getElem? (i := 28) rfl))
theorem dX11_has_123 : decode cX11_has 123 = .ok (.ireturn, 1) := of_decide_eq_true (List.all_eq_true.mp dsX11_has_0_ok (123, (.ireturn, 1)) (List.mem_of_getElem? (i := 29) rfl))
theorem dX11_has_124 : decode cX11_has 124 = .ok (.aload_n 0, 1) := of_decide_eq_true (List.all_eq_true.mp dsX11_has_0_ok (124, (.aload_n 0, 1)) (List.mem_of_getElem? (i := 30) rfl))
theorem dX11_has_125 : decode cX11_has 125 = .ok (.getfield 19, 3) := of_decide_eq_true (List.all_eq_true.mp dsX11_has_0_ok (125, (.getfield 19, 3)) (List.mem_of_getElem? (i := 31) rfl))
theorem dX11_has_128 : decode cX11_has 128 = .ok (.getfield 162, 3) := of_decide_eq_true (List.all_eq_true.mp dsX11_has_0_ok (128, (.getfield 162, 3)) (List.mem_of_getElem? (i := 32) rfl))
theorem dX11_has_131 : decode cX11_has 131 = .ok (.ireturn, 1) := of_decide_eq_true (List.all_eq_true.mp dsX11_has_0_ok (131, (.ireturn, 1)) (List.mem_of_getElem? (i := 33) rfl))
theorem dX11_has_132 : decode cX11_has 132 = .ok (.aload_n 0, 1) := of_decide_eq_true (List.all_eq_true.mp dsX11_has_0_ok (132, (.aload_n 0, 1)) (List.mem_of_getElem? (i := 34) rfl))
theorem dX11_has_133 : decode cX11_has 133 = .ok (.getfield 67, 3) := of_decide_eq_true (List.all_eq_true.mp dsX11_has_0_ok (133, (.getfield 67, 3)) (List.mem_of_getElem? (i := 35) rfl))
theorem dX11_has_136 : decode cX11_has 136 = .ok (.aload_n 0, 1) := of_decide_eq_true (List.all_eq_true.mp dsX11_has_0_ok (136, (.aload_n 0, 1)) (List.mem_of_getElem? (i := 36) rfl))
theorem dX11_has_137 : decode cX11_has 137 = .ok (.getfield 19, 3) := of_decide_eq_true (List.all_eq_true.mp dsX11_has_0_ok (137, (.getfield 19, 3)) (List.mem_of_getElem? (i := 37) rfl))
theorem dX11_has_140 : decode cX11_has 140 = .ok (.getfield 153, 3) := of_decide_eq_true (List.all_eq_true.mp dsX11_has_0_ok (140, (.getfield 153, 3)) (List.mem_of_getElem? (i := 38) rfl))
theorem dX11_has_143 : decode cX11_has 143 = .ok (.invokevirtual 165, 3) := of_decide_eq_true (List.all_eq_true.mp dsX11_has_0_ok (143, (.invokevirtual 165, 3)) (List.mem_of_getElem? (i := 39) rfl))
theorem dX11_has_146 : decode cX11_has 146 = .ok (.ireturn, 1) := of_decide_eq_true (List.all_eq_true.mp dsX11_has_0_ok (146, (.ireturn, 1)) (List.mem_of_getElem? (i := 40) rfl))
theorem dX11_has_147 : decode cX11_has 147 = .ok (.bipush 40, 2) := of_decide_eq_true (List.all_eq_true.mp dsX11_has_0_ok (147, (.bipush 40, 2)) (List.mem_of_getElem? (i := 41) rfl))
theorem dX11_has_149 : decode cX11_has 149 = .ok (.aload_n 0, 1) := of_decide_eq_true (List.all_eq_true.mp dsX11_has_0_ok (149, (.aload_n 0, 1)) (List.mem_of_getElem? (i := 42) rfl))
theorem dX11_has_150 : decode cX11_has 150 = .ok (.getfield 19, 3) := of_decide_eq_true (List.all_eq_true.mp dsX11_has_0_ok (150, (.getfield 19, 3)) (List.mem_of_getElem? (i := 43) rfl))
theorem dX11_has_153 : decode cX11_has 153 = .ok (.getfield 168, 3) := of_decide_eq_true (List.all_eq_true.mp dsX11_has_0_ok (153, (.getfield 168, 3)) (List.mem_of_getElem? (i := 44) rfl))
theorem dX11_has_156 : decode cX11_has 156 = .ok (.invokestatic 171, 3) := of_decide_eq_true (List.all_eq_true.mp dsX11_has_0_ok (156, (.invokestatic 171, 3)) (List.mem_of_getElem? (i := 45) rfl))
theorem dX11_has_159 : decode cX11_has 159 = .ok (.ireturn, 1) := of_decide_eq_true (List.all_eq_true.mp dsX11_has_0_ok (159, (.ireturn, 1)) (List.mem_of_getElem? (i := 46) rfl))
theorem dX11_has_160 : decode cX11_has 160 = .ok (.aload_n 0, 1) := of_decide_eq_true (List.all_eq_true.mp dsX11_has_0_ok (160, (.aload_n 0, 1)) (List.mem_of_getElem? (i := 47) rfl))
theorem dX11_has_161 : decode cX11_has 161 = .ok (.getfield 36, 3) := of_decide_eq_true (List.all_eq_true.mp dsX11_has_0_ok (161, (.getfield 36, 3)) (List.mem_of_getElem? (i := 48) rfl))
theorem dX11_has_164 : decode cX11_has 164 = .ok (.getfield 135, 3) := of_decide_eq_true (List.all_eq_true.mp dsX11_has_0_ok (164, (.getfield 135, 3)) (List.mem_of_getElem? (i := 49) rfl))
theorem dX11_has_167 : decode cX11_has 167 = .ok (.ireturn, 1) := of_decide_eq_true (List.all_eq_true.mp dsX11_has_0_ok (167, (.ireturn, 1)) (List.mem_of_getElem? (i := 50) rfl))
theorem dX11_has_168 : decode cX11_has 168 = .ok (.aload_n 0, 1) := of_decide_eq_true (List.all_eq_true.mp dsX11_has_0_ok (168, (.aload_n 0, 1)) (List.mem_of_getElem? (i := 51) rfl))
theorem dX11_has_169 : decode cX11_has 169 = .ok (.getfield 29, 3) := of_decide_eq_true (List.all_eq_true.mp dsX11_has_0_ok (169, (.getfield 29, 3)) (List.mem_of_getElem? (i := 52) rfl))
theorem dX11_has_172 : decode cX11_has 172 = .ok (.getfield 132, 3) := of_decide_eq_true (List.all_eq_true.mp dsX11_has_0_ok (172, (.getfield 132, 3)) (List.mem_of_getElem? (i := 53) rfl))
theorem dX11_has_175 : decode cX11_has 175 = .ok (.ireturn, 1) := of_decide_eq_true (List.all_eq_true.mp dsX11_has_0_ok (175, (.ireturn, 1)) (List.mem_of_getElem? (i := 54) rfl))
theorem dX11_has_176 : decode cX11_has 176 = .ok (.aload_n 0, 1) := of_decide_eq_true (List.all_eq_true.mp dsX11_has_0_ok (176, (.aload_n 0, 1)) (List.mem_of_getElem? (i := 55) rfl))
theorem dX11_has_177 : decode cX11_has 177 = .ok (.getfield 80, 3) := of_decide_eq_true (List.all_eq_true.mp dsX11_has_0_ok (177, (.getfield 80, 3)) (List.mem_of_getElem? (i := 56) rfl))
theorem dX11_has_180 : decode cX11_has 180 = .ok (.ireturn, 1) := of_decide_eq_true (List.all_eq_true.mp dsX11_has_0_ok (180, (.ireturn, 1)) (List.mem_of_getElem? (i := 57) rfl))
theorem dX11_has_181 : decode cX11_has 181 = .ok (.iconst (-1), 1) := of_decide_eq_true (List.all_eq_true.mp dsX11_has_0_ok (181, (.iconst (-1), 1)) (List.mem_of_getElem? (i := 58) rfl))
theorem dX11_has_182 : decode cX11_has 182 = .ok (.ireturn, 1) := of_decide_eq_true (List.all_eq_true.mp dsX11_has_0_ok (182, (.ireturn, 1)) (List.mem_of_getElem? (i := 59) rfl))
def fX11_has (N : Nat) (dvI : Nat → Int32) (homeI : Nat → Int32) (nowI : Nat → Int32) (marksI : Nat → Int32) (pastI : Nat → Int32)  (p1 : Int32) : Option (Int32) :=
  (if p1 = 0 then some (homeI 1) else (if p1 = 1 then some (homeI 5) else (if p1 = 2 then some (homeI 6) else (if p1 = 3 then some (nowI 0) else (if p1 = 4 then some (nowI 1) else (if p1 = 5 then some (nowI 2) else (if p1 = 6 then some (nowI 3) else (if p1 = 7 then some (nowI 4) else (if p1 = 8 then (xq_bd (fX2_farOf N homeI (nowI 1)) fun r_1 => some r_1) else (if p1 = 9 then some (xq_min 40 (nowI 5)) else (if p1 = 10 then some (marksI 0) else (if p1 = 11 then some (pastI 2) else (if p1 = 12 then some (dvI 12) else some ((-1)))))))))))))))
set_option maxHeartbeats 4000000 in
set_option maxRecDepth 100000 in
theorem kX11_has (l : Launch) (dC : Nat → ClassId) (dI : Nat → Nat → Nat) (cI cB cJ cZ cM : ClassId) (z : Nat) (ad : Nat → Nat) (N : Nat) (a_p0 : Nat) (dvI : Nat → Int32) (dvR : Nat → Nat) (homeI : Nat → Int32) (homeR : Nat → Nat) (nowI : Nat → Int32) (nowR : Nat → Nat) (marksI : Nat → Int32) (marksR : Nat → Nat) (pastI : Nat → Int32) (pastR : Nat → Nat) (p1 : Int32) {r0 : Int32} (hf : fX11_has N dvI homeI nowI marksI pastI p1 = some r0) : xq_Ct l yX11_has wsX11_has { frames := 2, cells := 0, slots := 0, locals := 45 } (dC, dI) vwCl (xq_tys cI cB cJ cZ cM) z ad [.ref a_p0, .int p1] [(a_p0, .inr (11, oX11 dvI dvR)), ((dvR 10), .inr (2, oX2 homeI homeR)), ((dvR 1), .inr (6, oX6 nowI nowR)), ((dvR 4), .inr (5, oX5 marksI marksR)), ((dvR 3), .inr (7, oX7 pastI pastR))] [(a_p0, .inr (11, oX11 dvI dvR)), ((dvR 10), .inr (2, oX2 homeI homeR)), ((dvR 1), .inr (6, oX6 nowI nowR)), ((dvR 4), .inr (5, oX5 marksI marksR)), ((dvR 3), .inr (7, oX7 pastI pastR))] (some (.int r0)) := by
  intro sz
  refine Met.ofW (cc := cX11_has) (maxL := 2) (ret := (some .int)) (by decide) rfl ?_
  intro p e s m args below meth c s₁ B hml hv
  obtain ⟨rfl, hsz, hP, hK, hD0, hE, hz⟩ := hv
  have hx := B.exec
  have hb := B.bytes
  have hr := B.returns
  have hts := atoms_spec (ws := wsX11_has) B.pre
  have hown : s.vm.findClass RX11 = some m.cls := findClass_of_methodNamed B.named
  have hlocks := B.notSynchronized
  subst hsz
  have hD := hD0.self (sz := s.heap.size)
  have hN := xq_Env.of hE hz hD0
  generalize hAe : va_A [(a_p0, .inr (11, oX11 dvI dvR)), ((dvR 10), .inr (2, oX2 homeI homeR)), ((dvR 1), .inr (6, oX6 nowI nowR)), ((dvR 4), .inr (5, oX5 marksI marksR)), ((dvR 3), .inr (7, oX7 pastI pastR))] s.heap.size = A at hD hN ⊢
  have hA : ∀ q : Nat, s.heap.size ≤ q → A q := fun q h => by rw [← hAe]; exact Or.inr h
  clear hAe hD0
  have hS : va_S A s.heap s.heap [] := va_S.rf
  have hl := lv_entry ([.ref a_p0, .int p1]) (n := 2) (Nat.le_of_ble_eq_true rfl)
  rw [lg_entry_eq]
  generalize (lg_sl ([.ref a_p0, .int p1]) ++ List.replicate (2 - (lg_sl ([.ref a_p0, .int p1])).length) Slot.unset).toArray = ls at hl ⊢
  have hl : lv_has ls 2 [(0, .ref a_p0), (1, .int p1)] := hl
  have hw0 := hts (.fieldLink RX11 67 "DistantVoice" "home" "LDistantVoice$House;") (by decide +kernel)
  have hinX11 : ∀ w ∈ wsX110, w ∈ wsX11_has := fun w h => List.mem_cons_of_mem _ (List.mem_append_left _ (List.mem_append_left _ (List.mem_append_left _ (List.mem_append_left _ (List.mem_append_right _ h)))))
  have hnf37 := va_Nw.use (A := [.ref a_p0, .int p1].toArray) rfl (hN.1.1.1 ("DistantVoice", 141, "DistantVoice$House", "roundMiles", "I", "DistantVoice") (List.mem_of_getElem? (i := 37) rfl))
  have hinX2 : ∀ w ∈ wsX20, w ∈ wsX11_has := fun w h => List.mem_cons_of_mem _ (List.mem_append_left _ (List.mem_append_left _ (List.mem_append_left _ (List.mem_append_right _ h))))
  have hnf48 := va_Nw.use (A := [.ref a_p0, .int p1].toArray) rfl (hN.1.1.1 ("DistantVoice", 144, "DistantVoice$House", "ears", "I", "DistantVoice") (List.mem_of_getElem? (i := 48) rfl))
  have hnf52 := va_Nw.use (A := [.ref a_p0, .int p1].toArray) rfl (hN.1.1.1 ("DistantVoice", 147, "DistantVoice$House", "places", "I", "DistantVoice") (List.mem_of_getElem? (i := 52) rfl))
  have hw6 := hts (.fieldLink RX11 19 "DistantVoice" "now" "LDistantVoice$Moment;") (by decide +kernel)
  have hnf5 := va_Nw.use (A := [.ref a_p0, .int p1].toArray) rfl (hN.1.1.1 ("DistantVoice", 150, "DistantVoice$Moment", "night", "I", "DistantVoice") (List.mem_of_getElem? (i := 5) rfl))
  have hinX6 : ∀ w ∈ wsX60, w ∈ wsX11_has := fun w h => List.mem_cons_of_mem _ (List.mem_append_left _ (List.mem_append_left _ (List.mem_append_right _ h)))
  have hnf9 := va_Nw.use (A := [.ref a_p0, .int p1].toArray) rfl (hN.1.1.1 ("DistantVoice", 153, "DistantVoice$Moment", "mile", "I", "DistantVoice") (List.mem_of_getElem? (i := 9) rfl))
  have hnf12 := va_Nw.use (A := [.ref a_p0, .int p1].toArray) rfl (hN.1.1.1 ("DistantVoice", 156, "DistantVoice$Moment", "rounds", "I", "DistantVoice") (List.mem_of_getElem? (i := 12) rfl))
  have hnf15 := va_Nw.use (A := [.ref a_p0, .int p1].toArray) rfl (hN.1.1.1 ("DistantVoice", 159, "DistantVoice$Moment", "talking", "I", "DistantVoice") (List.mem_of_getElem? (i := 15) rfl))
  have hnf17 := va_Nw.use (A := [.ref a_p0, .int p1].toArray) rfl (hN.1.1.1 ("DistantVoice", 162, "DistantVoice$Moment", "hush", "I", "DistantVoice") (List.mem_of_getElem? (i := 17) rfl))
  have hnf19 := va_Nw.use (A := [.ref a_p0, .int p1].toArray) rfl (hN.1.1.1 ("DistantVoice", 168, "DistantVoice$Moment", "keptCount", "I", "DistantVoice") (List.mem_of_getElem? (i := 19) rfl))
  have hw14 := hts (.methodLink RX11 171 Lib.Math.min.name) (by decide +kernel)
  have hw15 := hts (.static Lib.Math.min.name) (by decide +kernel)
  have hw16 := hts (.initialized "java/lang/Math") (by decide +kernel)
  have hw17 := hts (.code Lib.Math.min.name Lib.Math.min.code 2 (some .int)) (by decide +kernel)
  have hw18 := hts (.fieldLink RX11 36 "DistantVoice" "marks" "LDistantVoice$Marks;") (by decide +kernel)
  have hnf27 := va_Nw.use (A := [.ref a_p0, .int p1].toArray) rfl (hN.1.1.1 ("DistantVoice", 135, "DistantVoice$Marks", "count", "I", "DistantVoice") (List.mem_of_getElem? (i := 27) rfl))
  have hinX5 : ∀ w ∈ wsX50, w ∈ wsX11_has := fun w h => List.mem_cons_of_mem _ (List.mem_append_left _ (List.mem_append_right _ h))
  have hw21 := hts (.fieldLink RX11 29 "DistantVoice" "past" "LDistantVoice$Past;") (by decide +kernel)
  have hnf26 := va_Nw.use (A := [.ref a_p0, .int p1].toArray) rfl (hN.1.1.1 ("DistantVoice", 132, "DistantVoice$Past", "acts", "I", "DistantVoice") (List.mem_of_getElem? (i := 26) rfl))
  have hinX7 : ∀ w ∈ wsX70, w ∈ wsX11_has := fun w h => List.mem_cons_of_mem _ (List.mem_append_right _ h)
  have hw24 := hts (.fieldLink RX11 80 "DistantVoice" "drawn" "I") (by decide +kernel)
  unfold fX11_has at hf
  refine lv_iload_n hx hb dX11_has_0 rfl (lv_at hl 1 rfl) ?_
  by_cases c0 : p1 = 0
  · have hf := xq_pos hf c0
    refine lv_tableIn (tgt := 68) hx hb dX11_has_1 (by rw [c0]; decide) (by rw [c0]; decide) (off := 67) (by rw [c0]; decide) (by decide) ?_
    refine lv_aload_n hx hb dX11_has_68 rfl (lv_at hl 0 rfl) ?_
    refine va_get (D := (dC, dI)) (ci := 11) (v := .ref ((dvR 10))) (C := RX11) (T := TX11) (N := 15) hx hb hts hinX11 hown hK hP 0 rfl rfl 10 (by decide) hw0 (fun _ h9 => h9) rfl dX11_has_69 ?_
    refine va_getN (D := (dC, dI)) (ci := 2) (v := .int (homeI 1)) (C := RX2) (T := TX2) (N := 19) hx hb hts hinX2 hown hK hP 1 rfl rfl 1 (by decide) hnf37 (fun _ h9 => h9) rfl dX11_has_72 ?_
    cases hf
    exact xq_iret hx hb hr hlocks hK hP hD hS dX11_has_75
  · have hf := xq_neg hf c0
    by_cases c1 : p1 = 1
    · have hf := xq_pos hf c1
      refine lv_tableIn (tgt := 76) hx hb dX11_has_1 (by rw [c1]; decide) (by rw [c1]; decide) (off := 75) (by rw [c1]; decide) (by decide) ?_
      refine lv_aload_n hx hb dX11_has_76 rfl (lv_at hl 0 rfl) ?_
      refine va_get (D := (dC, dI)) (ci := 11) (v := .ref ((dvR 10))) (C := RX11) (T := TX11) (N := 15) hx hb hts hinX11 hown hK hP 0 rfl rfl 10 (by decide) hw0 (fun _ h9 => h9) rfl dX11_has_77 ?_
      refine va_getN (D := (dC, dI)) (ci := 2) (v := .int (homeI 5)) (C := RX2) (T := TX2) (N := 19) hx hb hts hinX2 hown hK hP 1 rfl rfl 5 (by decide) hnf48 (fun _ h9 => h9) rfl dX11_has_80 ?_
      cases hf
      exact xq_iret hx hb hr hlocks hK hP hD hS dX11_has_83
    · have hf := xq_neg hf c1
      by_cases c2 : p1 = 2
      · have hf := xq_pos hf c2
        refine lv_tableIn (tgt := 84) hx hb dX11_has_1 (by rw [c2]; decide) (by rw [c2]; decide) (off := 83) (by rw [c2]; decide) (by decide) ?_
        refine lv_aload_n hx hb dX11_has_84 rfl (lv_at hl 0 rfl) ?_
        refine va_get (D := (dC, dI)) (ci := 11) (v := .ref ((dvR 10))) (C := RX11) (T := TX11) (N := 15) hx hb hts hinX11 hown hK hP 0 rfl rfl 10 (by decide) hw0 (fun _ h9 => h9) rfl dX11_has_85 ?_
        refine va_getN (D := (dC, dI)) (ci := 2) (v := .int (homeI 6)) (C := RX2) (T := TX2) (N := 19) hx hb hts hinX2 hown hK hP 1 rfl rfl 6 (by decide) hnf52 (fun _ h9 => h9) rfl dX11_has_88 ?_
        cases hf
        exact xq_iret hx hb hr hlocks hK hP hD hS dX11_has_91
      · have hf := xq_neg hf c2
        by_cases c3 : p1 = 3
        · have hf := xq_pos hf c3
          refine lv_tableIn (tgt := 92) hx hb dX11_has_1 (by rw [c3]; decide) (by rw [c3]; decide) (off := 91) (by rw [c3]; decide) (by decide) ?_
          refine lv_aload_n hx hb dX11_has_92 rfl (lv_at hl 0 rfl) ?_
          refine va_get (D := (dC, dI)) (ci := 11) (v := .ref ((dvR 1))) (C := RX11) (T := TX11) (N := 15) hx hb hts hinX11 hown hK hP 0 rfl rfl 1 (by decide) hw6 (fun _ h9 => h9) rfl dX11_has_93 ?_
          refine va_getN (D := (dC, dI)) (ci := 6) (v := .int (nowI 0)) (C := RX6) (T := TX6) (N := 8) hx hb hts hinX6 hown hK hP 2 rfl rfl 0 (by decide) hnf5 (fun _ h9 => h9) rfl dX11_has_96 ?_
          cases hf
          exact xq_iret hx hb hr hlocks hK hP hD hS dX11_has_99
        · have hf := xq_neg hf c3
          by_cases c4 : p1 = 4
          · have hf := xq_pos hf c4
            refine lv_tableIn (tgt := 100) hx hb dX11_has_1 (by rw [c4]; decide) (by rw [c4]; decide) (off := 99) (by rw [c4]; decide) (by decide) ?_
            refine lv_aload_n hx hb dX11_has_100 rfl (lv_at hl 0 rfl) ?_
            refine va_get (D := (dC, dI)) (ci := 11) (v := .ref ((dvR 1))) (C := RX11) (T := TX11) (N := 15) hx hb hts hinX11 hown hK hP 0 rfl rfl 1 (by decide) hw6 (fun _ h9 => h9) rfl dX11_has_101 ?_
            refine va_getN (D := (dC, dI)) (ci := 6) (v := .int (nowI 1)) (C := RX6) (T := TX6) (N := 8) hx hb hts hinX6 hown hK hP 2 rfl rfl 1 (by decide) hnf9 (fun _ h9 => h9) rfl dX11_has_104 ?_
            cases hf
            exact xq_iret hx hb hr hlocks hK hP hD hS dX11_has_107
          · have hf := xq_neg hf c4
            by_cases c5 : p1 = 5
            · have hf := xq_pos hf c5
              refine lv_tableIn (tgt := 108) hx hb dX11_has_1 (by rw [c5]; decide) (by rw [c5]; decide) (off := 107) (by rw [c5]; decide) (by decide) ?_
              refine lv_aload_n hx hb dX11_has_108 rfl (lv_at hl 0 rfl) ?_
              refine va_get (D := (dC, dI)) (ci := 11) (v := .ref ((dvR 1))) (C := RX11) (T := TX11) (N := 15) hx hb hts hinX11 hown hK hP 0 rfl rfl 1 (by decide) hw6 (fun _ h9 => h9) rfl dX11_has_109 ?_
              refine va_getN (D := (dC, dI)) (ci := 6) (v := .int (nowI 2)) (C := RX6) (T := TX6) (N := 8) hx hb hts hinX6 hown hK hP 2 rfl rfl 2 (by decide) hnf12 (fun _ h9 => h9) rfl dX11_has_112 ?_
              cases hf
              exact xq_iret hx hb hr hlocks hK hP hD hS dX11_has_115
            · have hf := xq_neg hf c5
              by_cases c6 : p1 = 6
              · have hf := xq_pos hf c6
                refine lv_tableIn (tgt := 116) hx hb dX11_has_1 (by rw [c6]; decide) (by rw [c6]; decide) (off := 115) (by rw [c6]; decide) (by decide) ?_
                refine lv_aload_n hx hb dX11_has_116 rfl (lv_at hl 0 rfl) ?_
                refine va_get (D := (dC, dI)) (ci := 11) (v := .ref ((dvR 1))) (C := RX11) (T := TX11) (N := 15) hx hb hts hinX11 hown hK hP 0 rfl rfl 1 (by decide) hw6 (fun _ h9 => h9) rfl dX11_has_117 ?_
                refine va_getN (D := (dC, dI)) (ci := 6) (v := .int (nowI 3)) (C := RX6) (T := TX6) (N := 8) hx hb hts hinX6 hown hK hP 2 rfl rfl 3 (by decide) hnf15 (fun _ h9 => h9) rfl dX11_has_120 ?_
                cases hf
                exact xq_iret hx hb hr hlocks hK hP hD hS dX11_has_123
              · have hf := xq_neg hf c6
                by_cases c7 : p1 = 7
                · have hf := xq_pos hf c7
                  refine lv_tableIn (tgt := 124) hx hb dX11_has_1 (by rw [c7]; decide) (by rw [c7]; decide) (off := 123) (by rw [c7]; decide) (by decide) ?_
                  refine lv_aload_n hx hb dX11_has_124 rfl (lv_at hl 0 rfl) ?_
                  refine va_get (D := (dC, dI)) (ci := 11) (v := .ref ((dvR 1))) (C := RX11) (T := TX11) (N := 15) hx hb hts hinX11 hown hK hP 0 rfl rfl 1 (by decide) hw6 (fun _ h9 => h9) rfl dX11_has_125 ?_
                  refine va_getN (D := (dC, dI)) (ci := 6) (v := .int (nowI 4)) (C := RX6) (T := TX6) (N := 8) hx hb hts hinX6 hown hK hP 2 rfl rfl 4 (by decide) hnf17 (fun _ h9 => h9) rfl dX11_has_128 ?_
                  cases hf
                  exact xq_iret hx hb hr hlocks hK hP hD hS dX11_has_131
                · have hf := xq_neg hf c7
                  by_cases c8 : p1 = 8
                  · have hf := xq_pos hf c8
                    refine lv_tableIn (tgt := 132) hx hb dX11_has_1 (by rw [c8]; decide) (by rw [c8]; decide) (off := 131) (by rw [c8]; decide) (by decide) ?_
                    refine lv_aload_n hx hb dX11_has_132 rfl (lv_at hl 0 rfl) ?_
                    refine va_get (D := (dC, dI)) (ci := 11) (v := .ref ((dvR 10))) (C := RX11) (T := TX11) (N := 15) hx hb hts hinX11 hown hK hP 0 rfl rfl 10 (by decide) hw0 (fun _ h9 => h9) rfl dX11_has_133 ?_
                    refine lv_aload_n hx hb dX11_has_136 rfl (lv_at hl 0 rfl) ?_
                    refine va_get (D := (dC, dI)) (ci := 11) (v := .ref ((dvR 1))) (C := RX11) (T := TX11) (N := 15) hx hb hts hinX11 hown hK hP 0 rfl rfl 1 (by decide) hw6 (fun _ h9 => h9) rfl dX11_has_137 ?_
                    refine va_getN (D := (dC, dI)) (ci := 6) (v := .int (nowI 1)) (C := RX6) (T := TX6) (N := 8) hx hb hts hinX6 hown hK hP 2 rfl rfl 1 (by decide) hnf9 (fun _ h9 => h9) rfl dX11_has_140 ?_
                    obtain ⟨r_1, h_2, hf⟩ := xq_bd_some hf
                    refine xq_callV (As := [.int (nowI 1)]) (rest := []) (ci := 2) (q0 := 1) ⟨hx, hb, hml, hown, hts⟩ (kX2_farOf l dC dI cI cB cJ cZ cM z ad N ((dvR 10)) homeI homeR (nowI 1) h_2) (cwV 1 hts gX11_has_X2_farOf rfl rfl rfl (by decide +kernel) ⟨Nat.le_of_ble_eq_true rfl, Nat.le_of_ble_eq_true rfl⟩) hN hK hP hD hS hA [1] (by decide) rfl rfl rfl rfl rfl rfl hl.1 rfl (Nat.le_of_ble_eq_true rfl) dX11_has_143 ⟨Nat.zero_le _, Nat.zero_le _⟩ (fun H locs hP hD hS => ?_)
                    have hP : va_P (dC, dI) vwCl [(a_p0, .inr (11, oX11 dvI dvR)), ((dvR 10), .inr (2, oX2 homeI homeR)), ((dvR 1), .inr (6, oX6 nowI nowR)), ((dvR 4), .inr (5, oX5 marksI marksR)), ((dvR 3), .inr (7, oX7 pastI pastR))] H := hP
                    have hD : va_D A [(a_p0, .inr (11, oX11 dvI dvR)), ((dvR 10), .inr (2, oX2 homeI homeR)), ((dvR 1), .inr (6, oX6 nowI nowR)), ((dvR 4), .inr (5, oX5 marksI marksR)), ((dvR 3), .inr (7, oX7 pastI pastR))] := hD
                    refine W.eq (g2 := F0 m 146 ls [.int r_1]) rfl ?_
                    cases hf
                    exact xq_iret hx hb hr hlocks hK hP hD hS dX11_has_146
                  · have hf := xq_neg hf c8
                    by_cases c9 : p1 = 9
                    · have hf := xq_pos hf c9
                      refine lv_tableIn (tgt := 147) hx hb dX11_has_1 (by rw [c9]; decide) (by rw [c9]; decide) (off := 146) (by rw [c9]; decide) (by decide) ?_
                      refine lv_bipush (v := 40) hx hb dX11_has_147 (by decide) ?_
                      refine lv_aload_n hx hb dX11_has_149 rfl (lv_at hl 0 rfl) ?_
                      refine va_get (D := (dC, dI)) (ci := 11) (v := .ref ((dvR 1))) (C := RX11) (T := TX11) (N := 15) hx hb hts hinX11 hown hK hP 0 rfl rfl 1 (by decide) hw6 (fun _ h9 => h9) rfl dX11_has_150 ?_
                      refine va_getN (D := (dC, dI)) (ci := 6) (v := .int (nowI 5)) (C := RX6) (T := TX6) (N := 8) hx hb hts hinX6 hown hK hP 2 rfl rfl 5 (by decide) hnf19 (fun _ h9 => h9) rfl dX11_has_153 ?_
                      refine va_mmin hx hb (hml.trans hl.1.symm) hown hw14 hw15 hw16 hw17 (Nat.le_of_ble_eq_true rfl) (Nat.le_of_ble_eq_true rfl) (Nat.zero_le _) (Nat.zero_le _) dX11_has_156 ?_
                      refine W.eq (g2 := F0 m 159 ls [.int (xq_min 40 (nowI 5))]) rfl ?_
                      cases hf
                      exact xq_iret hx hb hr hlocks hK hP hD hS dX11_has_159
                    · have hf := xq_neg hf c9
                      by_cases c10 : p1 = 10
                      · have hf := xq_pos hf c10
                        refine lv_tableIn (tgt := 160) hx hb dX11_has_1 (by rw [c10]; decide) (by rw [c10]; decide) (off := 159) (by rw [c10]; decide) (by decide) ?_
                        refine lv_aload_n hx hb dX11_has_160 rfl (lv_at hl 0 rfl) ?_
                        refine va_get (D := (dC, dI)) (ci := 11) (v := .ref ((dvR 4))) (C := RX11) (T := TX11) (N := 15) hx hb hts hinX11 hown hK hP 0 rfl rfl 4 (by decide) hw18 (fun _ h9 => h9) rfl dX11_has_161 ?_
                        refine va_getN (D := (dC, dI)) (ci := 5) (v := .int (marksI 0)) (C := RX5) (T := TX5) (N := 4) hx hb hts hinX5 hown hK hP 3 rfl rfl 0 (by decide) hnf27 (fun _ h9 => h9) rfl dX11_has_164 ?_
                        cases hf
                        exact xq_iret hx hb hr hlocks hK hP hD hS dX11_has_167
                      · have hf := xq_neg hf c10
                        by_cases c11 : p1 = 11
                        · have hf := xq_pos hf c11
                          refine lv_tableIn (tgt := 168) hx hb dX11_has_1 (by rw [c11]; decide) (by rw [c11]; decide) (off := 167) (by rw [c11]; decide) (by decide) ?_
                          refine lv_aload_n hx hb dX11_has_168 rfl (lv_at hl 0 rfl) ?_
                          refine va_get (D := (dC, dI)) (ci := 11) (v := .ref ((dvR 3))) (C := RX11) (T := TX11) (N := 15) hx hb hts hinX11 hown hK hP 0 rfl rfl 3 (by decide) hw21 (fun _ h9 => h9) rfl dX11_has_169 ?_
                          refine va_getN (D := (dC, dI)) (ci := 7) (v := .int (pastI 2)) (C := RX7) (T := TX7) (N := 4) hx hb hts hinX7 hown hK hP 4 rfl rfl 2 (by decide) hnf26 (fun _ h9 => h9) rfl dX11_has_172 ?_
                          cases hf
                          exact xq_iret hx hb hr hlocks hK hP hD hS dX11_has_175
                        · have hf := xq_neg hf c11
                          by_cases c12 : p1 = 12
                          · have hf := xq_pos hf c12
                            refine lv_tableIn (tgt := 176) hx hb dX11_has_1 (by rw [c12]; decide) (by rw [c12]; decide) (off := 175) (by rw [c12]; decide) (by decide) ?_
                            refine lv_aload_n hx hb dX11_has_176 rfl (lv_at hl 0 rfl) ?_
                            refine va_get (D := (dC, dI)) (ci := 11) (v := .int (dvI 12)) (C := RX11) (T := TX11) (N := 15) hx hb hts hinX11 hown hK hP 0 rfl rfl 12 (by decide) hw24 (fun _ h9 => h9) rfl dX11_has_177 ?_
                            cases hf
                            exact xq_iret hx hb hr hlocks hK hP hD hS dX11_has_180
                          · have hf := xq_neg hf c12
                            have e0 := lv_neT c0 (a := 0) (by decide)
                            have e1 := lv_neT c1 (a := 1) (by decide)
                            have e2 := lv_neT c2 (a := 2) (by decide)
                            have e3 := lv_neT c3 (a := 3) (by decide)
                            have e4 := lv_neT c4 (a := 4) (by decide)
                            have e5 := lv_neT c5 (a := 5) (by decide)
                            have e6 := lv_neT c6 (a := 6) (by decide)
                            have e7 := lv_neT c7 (a := 7) (by decide)
                            have e8 := lv_neT c8 (a := 8) (by decide)
                            have e9 := lv_neT c9 (a := 9) (by decide)
                            have e10 := lv_neT c10 (a := 10) (by decide)
                            have e11 := lv_neT c11 (a := 11) (by decide)
                            have e12 := lv_neT c12 (a := 12) (by decide)
                            refine lv_tableOut (tgt := 181) hx hb dX11_has_1 (by omega) (by decide) ?_
                            refine lv_iconst (v := (-1)) hx hb dX11_has_181 (by decide) ?_
                            cases hf
                            exact xq_iret hx hb hr hlocks hK hP hD hS dX11_has_182
set_option maxRecDepth 20000 in
theorem ggX11_kept_X7_keptRow : GoodIn wsX11_kept wsX7_keptRow := goodIn_r _ [11, 12, 36, 37, 38, 39] rfl (by decide +kernel)
set_option maxRecDepth 20000 in
theorem gX11_kept_X7_keptRow : GoodIn wsX11_kept (wsV RX11 317 RX7 yX7_keptRow wsX7_keptRow) := goodIn_app (goodIn_of _ (by decide +kernel)) ggX11_kept_X7_keptRow
def dsX11_kept_0 : List (Nat × Instr × Nat) := [(0, (.bipush 40, 2)), (2, (.aload_n 0, 1)), (3, (.getfield 19, 3)), (6, (.getfield 168, 3)), (9, (.invokestatic 171, 3)), (12, (.istore_n 3, 1)), (13, (.iload_n 1, 1)), (14, (.ifCond .lt 8, 3)), (17, (.iload_n 1, 1)), (18, (.iload_n 3, 1)), (19, (.if_icmp .lt 5, 3)), (22, (.iconst (-1), 1)), (23, (.ireturn, 1)), (24, (.aload_n 0, 1)), (25, (.getfield 29, 3)), (28, (.aload_n 0, 1)), (29, (.getfield 19, 3)), (32, (.getfield 168, 3)), (35, (.iload_n 3, 1)), (36, (.isub, 1)), (37, (.iload_n 1, 1)), (38, (.iadd, 1)), (39, (.invokevirtual 317, 3)), (42, (.istore 4, 2)), (44, (.iload_n 2, 1)), (45, (.tableswitch 49 0 2 #[27, 33, 43], 27)), (72, (.iload 4, 2)), (74, (.bipush 15, 2)), (76, (.ishr, 1)), (77, (.ireturn, 1)), (78, (.iload 4, 2)), (80, (.bipush 7, 2)), (82, (.ishr, 1)), (83, (.sipush 255, 3)), (86, (.iand, 1)), (87, (.ireturn, 1)), (88, (.iload 4, 2)), (90, (.bipush 127, 2)), (92, (.iand, 1)), (93, (.ireturn, 1)), (94, (.iconst (-1), 1)), (95, (.ireturn, 1))]
theorem dsX11_kept_0_ok : (dsX11_kept_0.all fun q => decide (decode cX11_kept q.1 = .ok q.2)) = true := by decide +kernel
theorem dX11_kept_0 : decode cX11_kept 0 = .ok (.bipush 40, 2) := of_decide_eq_true (List.all_eq_true.mp dsX11_kept_0_ok (0, (.bipush 40, 2)) (List.mem_of_getElem? (i := 0) rfl))
theorem dX11_kept_2 : decode cX11_kept 2 = .ok (.aload_n 0, 1) := of_decide_eq_true (List.all_eq_true.mp dsX11_kept_0_ok (2, (.aload_n 0, 1)) (List.mem_of_getElem? (i := 1) rfl))
theorem dX11_kept_3 : decode cX11_kept 3 = .ok (.getfield 19, 3) := of_decide_eq_true (List.all_eq_true.mp dsX11_kept_0_ok (3, (.getfield 19, 3)) (List.mem_of_getElem? (i := 2) rfl))
theorem dX11_kept_6 : decode cX11_kept 6 = .ok (.getfield 168, 3) := of_decide_eq_true (List.all_eq_true.mp dsX11_kept_0_ok (6, (.getfield 168, 3)) (List.mem_of_getElem? (i := 3) rfl))
theorem dX11_kept_9 : decode cX11_kept 9 = .ok (.invokestatic 171, 3) := of_decide_eq_true (List.all_eq_true.mp dsX11_kept_0_ok (9, (.invokestatic 171, 3)) (List.mem_of_getElem? (i := 4) rfl))
theorem dX11_kept_12 : decode cX11_kept 12 = .ok (.istore_n 3, 1) := of_decide_eq_true (List.all_eq_true.mp dsX11_kept_0_ok (12, (.istore_n 3, 1)) (List.mem_of_getElem? (i := 5) rfl))
theorem dX11_kept_13 : decode cX11_kept 13 = .ok (.iload_n 1, 1) := of_decide_eq_true (List.all_eq_true.mp dsX11_kept_0_ok (13, (.iload_n 1, 1)) (List.mem_of_getElem? (i := 6) rfl))
theorem dX11_kept_14 : decode cX11_kept 14 = .ok (.ifCond .lt 8, 3) := of_decide_eq_true (List.all_eq_true.mp dsX11_kept_0_ok (14, (.ifCond .lt 8, 3)) (List.mem_of_getElem? (i := 7) rfl))
theorem dX11_kept_17 : decode cX11_kept 17 = .ok (.iload_n 1, 1) := of_decide_eq_true (List.all_eq_true.mp dsX11_kept_0_ok (17, (.iload_n 1, 1)) (List.mem_of_getElem? (i := 8) rfl))
theorem dX11_kept_18 : decode cX11_kept 18 = .ok (.iload_n 3, 1) := of_decide_eq_true (List.all_eq_true.mp dsX11_kept_0_ok (18, (.iload_n 3, 1)) (List.mem_of_getElem? (i := 9) rfl))
theorem dX11_kept_19 : decode cX11_kept 19 = .ok (.if_icmp .lt 5, 3) := of_decide_eq_true (List.all_eq_true.mp dsX11_kept_0_ok (19, (.if_icmp .lt 5, 3)) (List.mem_of_getElem? (i := 10) rfl))
theorem dX11_kept_22 : decode cX11_kept 22 = .ok (.iconst (-1), 1) := of_decide_eq_true (List.all_eq_true.mp dsX11_kept_0_ok (22, (.iconst (-1), 1)) (List.mem_of_getElem? (i := 11) rfl))
theorem dX11_kept_23 : decode cX11_kept 23 = .ok (.ireturn, 1) := of_decide_eq_true (List.all_eq_true.mp dsX11_kept_0_ok (23, (.ireturn, 1)) (List.mem_of_getElem? (i := 12) rfl))
theorem dX11_kept_24 : decode cX11_kept 24 = .ok (.aload_n 0, 1) := of_decide_eq_true (List.all_eq_true.mp dsX11_kept_0_ok (24, (.aload_n 0, 1)) (List.mem_of_getElem? (i := 13) rfl))
theorem dX11_kept_25 : decode cX11_kept 25 = .ok (.getfield 29, 3) := of_decide_eq_true (List.all_eq_true.mp dsX11_kept_0_ok (25, (.getfield 29, 3)) (List.mem_of_getElem? (i := 14) rfl))
theorem dX11_kept_28 : decode cX11_kept 28 = .ok (.aload_n 0, 1) := of_decide_eq_true (List.all_eq_true.mp dsX11_kept_0_ok (28, (.aload_n 0, 1)) (List.mem_of_getElem? (i := 15) rfl))
theorem dX11_kept_29 : decode cX11_kept 29 = .ok (.getfield 19, 3) := of_decide_eq_true (List.all_eq_true.mp dsX11_kept_0_ok (29, (.getfield 19, 3)) (List.mem_of_getElem? (i := 16) rfl))
theorem dX11_kept_32 : decode cX11_kept 32 = .ok (.getfield 168, 3) := of_decide_eq_true (List.all_eq_true.mp dsX11_kept_0_ok (32, (.getfield 168, 3)) (List.mem_of_getElem? (i := 17) rfl))
theorem dX11_kept_35 : decode cX11_kept 35 = .ok (.iload_n 3, 1) := of_decide_eq_true (List.all_eq_true.mp dsX11_kept_0_ok (35, (.iload_n 3, 1)) (List.mem_of_getElem? (i := 18) rfl))
theorem dX11_kept_36 : decode cX11_kept 36 = .ok (.isub, 1) := of_decide_eq_true (List.all_eq_true.mp dsX11_kept_0_ok (36, (.isub, 1)) (List.mem_of_getElem? (i := 19) rfl))
theorem dX11_kept_37 : decode cX11_kept 37 = .ok (.iload_n 1, 1) := of_decide_eq_true (List.all_eq_true.mp dsX11_kept_0_ok (37, (.iload_n 1, 1)) (List.mem_of_getElem? (i := 20) rfl))
theorem dX11_kept_38 : decode cX11_kept 38 = .ok (.iadd, 1) := of_decide_eq_true (List.all_eq_true.mp dsX11_kept_0_ok (38, (.iadd, 1)) (List.mem_of_getElem? (i := 21) rfl))
theorem dX11_kept_39 : decode cX11_kept 39 = .ok (.invokevirtual 317, 3) := of_decide_eq_true (List.all_eq_true.mp dsX11_kept_0_ok (39, (.invokevirtual 317, 3)) (List.mem_of_getElem? (i := 22) rfl))
theorem dX11_kept_42 : decode cX11_kept 42 = .ok (.istore 4, 2) := of_decide_eq_true (List.all_eq_true.mp dsX11_kept_0_ok (42, (.istore 4, 2)) (List.mem_of_getElem? (i := 23) rfl))
theorem dX11_kept_44 : decode cX11_kept 44 = .ok (.iload_n 2, 1) := of_decide_eq_true (List.all_eq_true.mp dsX11_kept_0_ok (44, (.iload_n 2, 1)) (List.mem_of_getElem? (i := 24) rfl))
theorem dX11_kept_45 : decode cX11_kept 45 = .ok (.tableswitch 49 0 2 #[27, 33, 43], 27) := of_decide_eq_true (List.all_eq_true.mp dsX11_kept_0_ok (45, (.tableswitch 49 0 2 #[27, 33, 43], 27)) (List.mem_of_getElem? (i := 25) rfl))
theorem dX11_kept_72 : decode cX11_kept 72 = .ok (.iload 4, 2) := of_decide_eq_true (List.all_eq_true.mp dsX11_kept_0_ok (72, (.iload 4, 2)) (List.mem_of_getElem? (i := 26) rfl))
theorem dX11_kept_74 : decode cX11_kept 74 = .ok (.bipush 15, 2) := of_decide_eq_true (List.all_eq_true.mp dsX11_kept_0_ok (74, (.bipush 15, 2)) (List.mem_of_getElem? (i := 27) rfl))
theorem dX11_kept_76 : decode cX11_kept 76 = .ok (.ishr, 1) := of_decide_eq_true (List.all_eq_true.mp dsX11_kept_0_ok (76, (.ishr, 1)) (List.mem_of_getElem? (i := 28) rfl))
theorem dX11_kept_77 : decode cX11_kept 77 = .ok (.ireturn, 1) := of_decide_eq_true (List.all_eq_true.mp dsX11_kept_0_ok (77, (.ireturn, 1)) (List.mem_of_getElem? (i := 29) rfl))
theorem dX11_kept_78 : decode cX11_kept 78 = .ok (.iload 4, 2) := of_decide_eq_true (List.all_eq_true.mp dsX11_kept_0_ok (78, (.iload 4, 2)) (List.mem_of_getElem? (i := 30) rfl))
theorem dX11_kept_80 : decode cX11_kept 80 = .ok (.bipush 7, 2) := of_decide_eq_true (List.all_eq_true.mp dsX11_kept_0_ok (80, (.bipush 7, 2)) (List.mem_of_getElem? (i := 31) rfl))
theorem dX11_kept_82 : decode cX11_kept 82 = .ok (.ishr, 1) := of_decide_eq_true (List.all_eq_true.mp dsX11_kept_0_ok (82, (.ishr, 1)) (List.mem_of_getElem? (i := 32) rfl))
theorem dX11_kept_83 : decode cX11_kept 83 = .ok (.sipush 255, 3) := of_decide_eq_true (List.all_eq_true.mp dsX11_kept_0_ok (83, (.sipush 255, 3)) (List.mem_of_getElem? (i := 33) rfl))
theorem dX11_kept_86 : decode cX11_kept 86 = .ok (.iand, 1) := of_decide_eq_true (List.all_eq_true.mp dsX11_kept_0_ok (86, (.iand, 1)) (List.mem_of_getElem? (i := 34) rfl))
theorem dX11_kept_87 : decode cX11_kept 87 = .ok (.ireturn, 1) := of_decide_eq_true (List.all_eq_true.mp dsX11_kept_0_ok (87, (.ireturn, 1)) (List.mem_of_getElem? (i := 35) rfl))
theorem dX11_kept_88 : decode cX11_kept 88 = .ok (.iload 4, 2) := of_decide_eq_true (List.all_eq_true.mp dsX11_kept_0_ok (88, (.iload 4, 2)) (List.mem_of_getElem? (i := 36) rfl))
theorem dX11_kept_90 : decode cX11_kept 90 = .ok (.bipush 127, 2) := of_decide_eq_true (List.all_eq_true.mp dsX11_kept_0_ok (90, (.bipush 127, 2)) (List.mem_of_getElem? (i := 37) rfl))
theorem dX11_kept_92 : decode cX11_kept 92 = .ok (.iand, 1) := of_decide_eq_true (List.all_eq_true.mp dsX11_kept_0_ok (92, (.iand, 1)) (List.mem_of_getElem? (i := 38) rfl))
theorem dX11_kept_93 : decode cX11_kept 93 = .ok (.ireturn, 1) := of_decide_eq_true (List.all_eq_true.mp dsX11_kept_0_ok (93, (.ireturn, 1)) (List.mem_of_getElem? (i := 39) rfl))
theorem dX11_kept_94 : decode cX11_kept 94 = .ok (.iconst (-1), 1) := of_decide_eq_true (List.all_eq_true.mp dsX11_kept_0_ok (94, (.iconst (-1), 1)) (List.mem_of_getElem? (i := 40) rfl))
theorem dX11_kept_95 : decode cX11_kept 95 = .ok (.ireturn, 1) := of_decide_eq_true (List.all_eq_true.mp dsX11_kept_0_ok (95, (.ireturn, 1)) (List.mem_of_getElem? (i := 41) rfl))
def fX11_kept (N : Nat) (nowI : Nat → Int32) (past_keptRowsF : Nat → Int32)  (p1 : Int32) (p2 : Int32) : Option (Int32) :=
  (if p1 < 0 then some ((-1)) else (if p1 < (xq_min 40 (nowI 5)) then (xq_bd (fX7_keptRow N past_keptRowsF (((nowI 5) - (xq_min 40 (nowI 5))) + p1)) fun r_1 => (if p2 = 0 then some (r_1 >>> (15 &&& 31)) else (if p2 = 1 then some ((r_1 >>> (7 &&& 31)) &&& 255) else (if p2 = 2 then some (r_1 &&& 127) else some ((-1)))))) else some ((-1))))
set_option maxHeartbeats 4000000 in
set_option maxRecDepth 100000 in
theorem kX11_kept (l : Launch) (dC : Nat → ClassId) (dI : Nat → Nat → Nat) (cI cB cJ cZ cM : ClassId) (z : Nat) (ad : Nat → Nat) (N : Nat) (a_p0 : Nat) (dvI : Nat → Int32) (dvR : Nat → Nat) (nowI : Nat → Int32) (nowR : Nat → Nat) (pastI : Nat → Int32) (pastR : Nat → Nat) (past_keptRowsF : Nat → Int32) (p1 : Int32) (p2 : Int32) {r0 : Int32} (hf : fX11_kept N nowI past_keptRowsF p1 p2 = some r0) : xq_Ct l yX11_kept wsX11_kept { frames := 1, cells := 0, slots := 0, locals := 24 } (dC, dI) vwCl (xq_tys cI cB cJ cZ cM) z ad [.ref a_p0, .int p1, .int p2] [(a_p0, .inr (11, oX11 dvI dvR)), ((dvR 1), .inr (6, oX6 nowI nowR)), ((dvR 3), .inr (7, oX7 pastI pastR)), ((pastR 3), .inl (cI, 999, .inl past_keptRowsF))] [(a_p0, .inr (11, oX11 dvI dvR)), ((dvR 1), .inr (6, oX6 nowI nowR)), ((dvR 3), .inr (7, oX7 pastI pastR)), ((pastR 3), .inl (cI, 999, .inl past_keptRowsF))] (some (.int r0)) := by
  intro sz
  refine Met.ofW (cc := cX11_kept) (maxL := 5) (ret := (some .int)) (by decide) rfl ?_
  intro p e s m args below meth c s₁ B hml hv
  obtain ⟨rfl, hsz, hP, hK, hD0, hE, hz⟩ := hv
  have hx := B.exec
  have hb := B.bytes
  have hr := B.returns
  have hts := atoms_spec (ws := wsX11_kept) B.pre
  have hown : s.vm.findClass RX11 = some m.cls := findClass_of_methodNamed B.named
  have hlocks := B.notSynchronized
  subst hsz
  have hD := hD0.self (sz := s.heap.size)
  have hN := xq_Env.of hE hz hD0
  generalize hAe : va_A [(a_p0, .inr (11, oX11 dvI dvR)), ((dvR 1), .inr (6, oX6 nowI nowR)), ((dvR 3), .inr (7, oX7 pastI pastR)), ((pastR 3), .inl (cI, 999, .inl past_keptRowsF))] s.heap.size = A at hD hN ⊢
  have hA : ∀ q : Nat, s.heap.size ≤ q → A q := fun q h => by rw [← hAe]; exact Or.inr h
  clear hAe hD0
  have hS : va_S A s.heap s.heap [] := va_S.rf
  have hl := lv_entry ([.ref a_p0, .int p1, .int p2]) (n := 5) (Nat.le_of_ble_eq_true rfl)
  rw [lg_entry_eq]
  generalize (lg_sl ([.ref a_p0, .int p1, .int p2]) ++ List.replicate (5 - (lg_sl ([.ref a_p0, .int p1, .int p2])).length) Slot.unset).toArray = ls at hl ⊢
  have hl : lv_has ls 5 [(0, .ref a_p0), (1, .int p1), (2, .int p2)] := hl
  have hw0 := hts (.fieldLink RX11 19 "DistantVoice" "now" "LDistantVoice$Moment;") (by decide +kernel)
  have hinX11 : ∀ w ∈ wsX110, w ∈ wsX11_kept := fun w h => List.mem_cons_of_mem _ (List.mem_append_left _ (List.mem_append_left _ (List.mem_append_right _ h)))
  have hnf19 := va_Nw.use (A := [.ref a_p0, .int p1, .int p2].toArray) rfl (hN.1.1.1 ("DistantVoice", 168, "DistantVoice$Moment", "keptCount", "I", "DistantVoice") (List.mem_of_getElem? (i := 19) rfl))
  have hinX6 : ∀ w ∈ wsX60, w ∈ wsX11_kept := fun w h => List.mem_cons_of_mem _ (List.mem_append_left _ (List.mem_append_right _ h))
  have hw4 := hts (.methodLink RX11 171 Lib.Math.min.name) (by decide +kernel)
  have hw5 := hts (.static Lib.Math.min.name) (by decide +kernel)
  have hw6 := hts (.initialized "java/lang/Math") (by decide +kernel)
  have hw7 := hts (.code Lib.Math.min.name Lib.Math.min.code 2 (some .int)) (by decide +kernel)
  have hw8 := hts (.fieldLink RX11 29 "DistantVoice" "past" "LDistantVoice$Past;") (by decide +kernel)
  unfold fX11_kept at hf
  refine lv_bipush (v := 40) hx hb dX11_kept_0 (by decide) ?_
  refine lv_aload_n hx hb dX11_kept_2 rfl (lv_at hl 0 rfl) ?_
  refine va_get (D := (dC, dI)) (ci := 11) (v := .ref ((dvR 1))) (C := RX11) (T := TX11) (N := 15) hx hb hts hinX11 hown hK hP 0 rfl rfl 1 (by decide) hw0 (fun _ h9 => h9) rfl dX11_kept_3 ?_
  refine va_getN (D := (dC, dI)) (ci := 6) (v := .int (nowI 5)) (C := RX6) (T := TX6) (N := 8) hx hb hts hinX6 hown hK hP 1 rfl rfl 5 (by decide) hnf19 (fun _ h9 => h9) rfl dX11_kept_6 ?_
  refine va_mmin hx hb (hml.trans hl.1.symm) hown hw4 hw5 hw6 hw7 (Nat.le_of_ble_eq_true rfl) (Nat.le_of_ble_eq_true rfl) (Nat.zero_le _) (Nat.zero_le _) dX11_kept_9 ?_
  refine W.eq (g2 := F0 m 12 ls [.int (xq_min 40 (nowI 5))]) rfl ?_
  refine lv_istore_n (lv' := [(3, .int (xq_min 40 (nowI 5))), (0, .ref a_p0), (1, .int p1), (2, .int p2)]) hx hb dX11_kept_12 rfl hl (by decide) rfl (fun ls hl => ?_)
  refine lv_iload_n hx hb dX11_kept_13 rfl (lv_at hl 2 rfl) ?_
  refine lv_if_lt (tgt := 22) hx hb dX11_kept_14 (by decide) (fun c_ => ?_) (fun c_ => ?_)
  · have hf := xq_pos hf c_
    refine lv_iconst (v := (-1)) hx hb dX11_kept_22 (by decide) ?_
    cases hf
    exact xq_iret hx hb hr hlocks hK hP hD hS dX11_kept_23
  · have hf := xq_neg hf c_
    refine lv_iload_n hx hb dX11_kept_17 rfl (lv_at hl 2 rfl) ?_
    refine lv_iload_n hx hb dX11_kept_18 rfl (lv_at hl 0 rfl) ?_
    refine lv_icmp_lt (tgt := 24) hx hb dX11_kept_19 (by decide) (fun c_ => ?_) (fun c_ => ?_)
    · have hf := xq_pos hf c_
      refine lv_aload_n hx hb dX11_kept_24 rfl (lv_at hl 1 rfl) ?_
      refine va_get (D := (dC, dI)) (ci := 11) (v := .ref ((dvR 3))) (C := RX11) (T := TX11) (N := 15) hx hb hts hinX11 hown hK hP 0 rfl rfl 3 (by decide) hw8 (fun _ h9 => h9) rfl dX11_kept_25 ?_
      refine lv_aload_n hx hb dX11_kept_28 rfl (lv_at hl 1 rfl) ?_
      refine va_get (D := (dC, dI)) (ci := 11) (v := .ref ((dvR 1))) (C := RX11) (T := TX11) (N := 15) hx hb hts hinX11 hown hK hP 0 rfl rfl 1 (by decide) hw0 (fun _ h9 => h9) rfl dX11_kept_29 ?_
      refine va_getN (D := (dC, dI)) (ci := 6) (v := .int (nowI 5)) (C := RX6) (T := TX6) (N := 8) hx hb hts hinX6 hown hK hP 1 rfl rfl 5 (by decide) hnf19 (fun _ h9 => h9) rfl dX11_kept_32 ?_
      refine lv_iload_n hx hb dX11_kept_35 rfl (lv_at hl 0 rfl) ?_
      refine lv_isub hx hb dX11_kept_36 ?_
      refine lv_iload_n hx hb dX11_kept_37 rfl (lv_at hl 2 rfl) ?_
      refine lv_iadd hx hb dX11_kept_38 ?_
      obtain ⟨r_1, h_2, hf⟩ := xq_bd_some hf
      refine xq_callV (As := [.int (((nowI 5) - (xq_min 40 (nowI 5))) + p1)]) (rest := []) (ci := 7) (q0 := 2) ⟨hx, hb, hml, hown, hts⟩ (kX7_keptRow l dC dI cI cB cJ cZ cM z ad N ((dvR 3)) pastI pastR past_keptRowsF (((nowI 5) - (xq_min 40 (nowI 5))) + p1) h_2) (cwV 1 hts gX11_kept_X7_keptRow rfl rfl rfl (by decide +kernel) ⟨Nat.le_of_ble_eq_true rfl, Nat.le_of_ble_eq_true rfl⟩) hN hK hP hD hS hA [2, 3] (by decide) rfl rfl rfl rfl rfl rfl hl.1 rfl (Nat.le_of_ble_eq_true rfl) dX11_kept_39 ⟨Nat.zero_le _, Nat.zero_le _⟩ (fun H locs hP hD hS => ?_)
      have hP : va_P (dC, dI) vwCl [(a_p0, .inr (11, oX11 dvI dvR)), ((dvR 1), .inr (6, oX6 nowI nowR)), ((dvR 3), .inr (7, oX7 pastI pastR)), ((pastR 3), .inl (cI, 999, .inl past_keptRowsF))] H := hP
      have hD : va_D A [(a_p0, .inr (11, oX11 dvI dvR)), ((dvR 1), .inr (6, oX6 nowI nowR)), ((dvR 3), .inr (7, oX7 pastI pastR)), ((pastR 3), .inl (cI, 999, .inl past_keptRowsF))] := hD
      refine W.eq (g2 := F0 m 42 ls [.int r_1]) rfl ?_
      refine lv_istore (lv' := [(4, .int r_1), (3, .int (xq_min 40 (nowI 5))), (0, .ref a_p0), (1, .int p1), (2, .int p2)]) hx hb dX11_kept_42 hl (by decide) rfl (fun ls hl => ?_)
      refine lv_iload_n hx hb dX11_kept_44 rfl (lv_at hl 4 rfl) ?_
      by_cases c0 : p2 = 0
      · have hf := xq_pos hf c0
        refine lv_tableIn (tgt := 72) hx hb dX11_kept_45 (by rw [c0]; decide) (by rw [c0]; decide) (off := 27) (by rw [c0]; decide) (by decide) ?_
        refine lv_iload hx hb dX11_kept_72 (lv_at hl 0 rfl) ?_
        refine lv_bipush (v := 15) hx hb dX11_kept_74 (by decide) ?_
        refine lv_ishr hx hb dX11_kept_76 ?_
        cases hf
        exact xq_iret hx hb hr hlocks hK hP hD hS dX11_kept_77
      · have hf := xq_neg hf c0
        by_cases c1 : p2 = 1
        · have hf := xq_pos hf c1
          refine lv_tableIn (tgt := 78) hx hb dX11_kept_45 (by rw [c1]; decide) (by rw [c1]; decide) (off := 33) (by rw [c1]; decide) (by decide) ?_
          refine lv_iload hx hb dX11_kept_78 (lv_at hl 0 rfl) ?_
          refine lv_bipush (v := 7) hx hb dX11_kept_80 (by decide) ?_
          refine lv_ishr hx hb dX11_kept_82 ?_
          refine lv_sipush (v := 255) hx hb dX11_kept_83 (by decide) ?_
          refine lv_iand hx hb dX11_kept_86 ?_
          cases hf
          exact xq_iret hx hb hr hlocks hK hP hD hS dX11_kept_87
        · have hf := xq_neg hf c1
          by_cases c2 : p2 = 2
          · have hf := xq_pos hf c2
            refine lv_tableIn (tgt := 88) hx hb dX11_kept_45 (by rw [c2]; decide) (by rw [c2]; decide) (off := 43) (by rw [c2]; decide) (by decide) ?_
            refine lv_iload hx hb dX11_kept_88 (lv_at hl 0 rfl) ?_
            refine lv_bipush (v := 127) hx hb dX11_kept_90 (by decide) ?_
            refine lv_iand hx hb dX11_kept_92 ?_
            cases hf
            exact xq_iret hx hb hr hlocks hK hP hD hS dX11_kept_93
          · have hf := xq_neg hf c2
            have e0 := lv_neT c0 (a := 0) (by decide)
            have e1 := lv_neT c1 (a := 1) (by decide)
            have e2 := lv_neT c2 (a := 2) (by decide)
            refine lv_tableOut (tgt := 94) hx hb dX11_kept_45 (by omega) (by decide) ?_
            refine lv_iconst (v := (-1)) hx hb dX11_kept_94 (by decide) ?_
            cases hf
            exact xq_iret hx hb hr hlocks hK hP hD hS dX11_kept_95
    · have hf := xq_neg hf c_
      refine lv_iconst (v := (-1)) hx hb dX11_kept_22 (by decide) ?_
      cases hf
      exact xq_iret hx hb hr hlocks hK hP hD hS dX11_kept_23
def dsX11_octet_0 : List (Nat × Instr × Nat) := [(0, (.iload_n 1, 1)), (1, (.ifCond .lt 14, 3)), (4, (.iload_n 1, 1)), (5, (.aload_n 0, 1)), (6, (.getfield 50, 3)), (9, (.getfield 324, 3)), (12, (.if_icmp .lt 7, 3)), (15, (.iconst (-1), 1)), (16, (.goto 12, 3)), (19, (.aload_n 0, 1)), (20, (.getfield 50, 3)), (23, (.getfield 325, 3)), (26, (.iload_n 1, 1)), (27, (.iaload, 1)), (28, (.ireturn, 1))]
theorem dsX11_octet_0_ok : (dsX11_octet_0.all fun q => decide (decode cX11_octet q.1 = .ok q.2)) = true := by decide +kernel
theorem dX11_octet_0 : decode cX11_octet 0 = .ok (.iload_n 1, 1) := of_decide_eq_true (List.all_eq_true.mp dsX11_octet_0_ok (0, (.iload_n 1, 1)) (List.mem_of_getElem? (i := 0) rfl))
theorem dX11_octet_1 : decode cX11_octet 1 = .ok (.ifCond .lt 14, 3) := of_decide_eq_true (List.all_eq_true.mp dsX11_octet_0_ok (1, (.ifCond .lt 14, 3)) (List.mem_of_getElem? (i := 1) rfl))
theorem dX11_octet_4 : decode cX11_octet 4 = .ok (.iload_n 1, 1) := of_decide_eq_true (List.all_eq_true.mp dsX11_octet_0_ok (4, (.iload_n 1, 1)) (List.mem_of_getElem? (i := 2) rfl))
theorem dX11_octet_5 : decode cX11_octet 5 = .ok (.aload_n 0, 1) := of_decide_eq_true (List.all_eq_true.mp dsX11_octet_0_ok (5, (.aload_n 0, 1)) (List.mem_of_getElem? (i := 3) rfl))
theorem dX11_octet_6 : decode cX11_octet 6 = .ok (.getfield 50, 3) := of_decide_eq_true (List.all_eq_true.mp dsX11_octet_0_ok (6, (.getfield 50, 3)) (List.mem_of_getElem? (i := 4) rfl))
theorem dX11_octet_9 : decode cX11_octet 9 = .ok (.getfield 324, 3) := of_decide_eq_true (List.all_eq_true.mp dsX11_octet_0_ok (9, (.getfield 324, 3)) (List.mem_of_getElem? (i := 5) rfl))
theorem dX11_octet_12 : decode cX11_octet 12 = .ok (.if_icmp .lt 7, 3) := of_decide_eq_true (List.all_eq_true.mp dsX11_octet_0_ok (12, (.if_icmp .lt 7, 3)) (List.mem_of_getElem? (i := 6) rfl))
theorem dX11_octet_15 : decode cX11_octet 15 = .ok (.iconst (-1), 1) := of_decide_eq_true (List.all_eq_true.mp dsX11_octet_0_ok (15, (.iconst (-1), 1)) (List.mem_of_getElem? (i := 7) rfl))
theorem dX11_octet_16 : decode cX11_octet 16 = .ok (.goto 12, 3) := of_decide_eq_true (List.all_eq_true.mp dsX11_octet_0_ok (16, (.goto 12, 3)) (List.mem_of_getElem? (i := 8) rfl))
theorem dX11_octet_19 : decode cX11_octet 19 = .ok (.aload_n 0, 1) := of_decide_eq_true (List.all_eq_true.mp dsX11_octet_0_ok (19, (.aload_n 0, 1)) (List.mem_of_getElem? (i := 9) rfl))
theorem dX11_octet_20 : decode cX11_octet 20 = .ok (.getfield 50, 3) := of_decide_eq_true (List.all_eq_true.mp dsX11_octet_0_ok (20, (.getfield 50, 3)) (List.mem_of_getElem? (i := 10) rfl))
theorem dX11_octet_23 : decode cX11_octet 23 = .ok (.getfield 325, 3) := of_decide_eq_true (List.all_eq_true.mp dsX11_octet_0_ok (23, (.getfield 325, 3)) (List.mem_of_getElem? (i := 11) rfl))
theorem dX11_octet_26 : decode cX11_octet 26 = .ok (.iload_n 1, 1) := of_decide_eq_true (List.all_eq_true.mp dsX11_octet_0_ok (26, (.iload_n 1, 1)) (List.mem_of_getElem? (i := 12) rfl))
theorem dX11_octet_27 : decode cX11_octet 27 = .ok (.iaload, 1) := of_decide_eq_true (List.all_eq_true.mp dsX11_octet_0_ok (27, (.iaload, 1)) (List.mem_of_getElem? (i := 13) rfl))
theorem dX11_octet_28 : decode cX11_octet 28 = .ok (.ireturn, 1) := of_decide_eq_true (List.all_eq_true.mp dsX11_octet_0_ok (28, (.ireturn, 1)) (List.mem_of_getElem? (i := 14) rfl))
def fX11_octet (N : Nat) (pictureI : Nat → Int32) (picture_bytesF : Nat → Int32)  (p1 : Int32) : Option (Int32) :=
  (if p1 < 0 then some ((-1)) else (if p1 < (pictureI 1) then (xq_bd (xq_ald 22 picture_bytesF p1) fun v_1 => some v_1) else some ((-1))))
set_option maxHeartbeats 4000000 in
set_option maxRecDepth 100000 in
theorem kX11_octet (l : Launch) (dC : Nat → ClassId) (dI : Nat → Nat → Nat) (cI cB cJ cZ cM : ClassId) (z : Nat) (ad : Nat → Nat) (N : Nat) (a_p0 : Nat) (dvI : Nat → Int32) (dvR : Nat → Nat) (pictureI : Nat → Int32) (pictureR : Nat → Nat) (picture_bytesF : Nat → Int32) (p1 : Int32) {r0 : Int32} (hf : fX11_octet N pictureI picture_bytesF p1 = some r0) : xq_Ct l yX11_octet wsX11_octet { frames := 0, cells := 0, slots := 0, locals := 0 } (dC, dI) vwCl (xq_tys cI cB cJ cZ cM) z ad [.ref a_p0, .int p1] [(a_p0, .inr (11, oX11 dvI dvR)), ((dvR 6), .inr (4, oX4 pictureI pictureR)), ((pictureR 0), .inl (cI, 22, .inl picture_bytesF))] [(a_p0, .inr (11, oX11 dvI dvR)), ((dvR 6), .inr (4, oX4 pictureI pictureR)), ((pictureR 0), .inl (cI, 22, .inl picture_bytesF))] (some (.int r0)) := by
  intro sz
  refine Met.ofW (cc := cX11_octet) (maxL := 2) (ret := (some .int)) (by decide) rfl ?_
  intro p e s m args below meth c s₁ B hml hv
  obtain ⟨rfl, hsz, hP, hK, hD0, hE, hz⟩ := hv
  have hx := B.exec
  have hb := B.bytes
  have hr := B.returns
  have hts := atoms_spec (ws := wsX11_octet) B.pre
  have hown : s.vm.findClass RX11 = some m.cls := findClass_of_methodNamed B.named
  have hlocks := B.notSynchronized
  subst hsz
  have hD := hD0.self (sz := s.heap.size)
  have hN := xq_Env.of hE hz hD0
  generalize hAe : va_A [(a_p0, .inr (11, oX11 dvI dvR)), ((dvR 6), .inr (4, oX4 pictureI pictureR)), ((pictureR 0), .inl (cI, 22, .inl picture_bytesF))] s.heap.size = A at hD hN ⊢
  have hA : ∀ q : Nat, s.heap.size ≤ q → A q := fun q h => by rw [← hAe]; exact Or.inr h
  clear hAe hD0
  have hS : va_S A s.heap s.heap [] := va_S.rf
  have hl := lv_entry ([.ref a_p0, .int p1]) (n := 2) (Nat.le_of_ble_eq_true rfl)
  rw [lg_entry_eq]
  generalize (lg_sl ([.ref a_p0, .int p1]) ++ List.replicate (2 - (lg_sl ([.ref a_p0, .int p1])).length) Slot.unset).toArray = ls at hl ⊢
  have hl : lv_has ls 2 [(0, .ref a_p0), (1, .int p1)] := hl
  have hw0 := hts (.fieldLink RX11 50 "DistantVoice" "picture" "LDistantVoice$Image;") (by decide +kernel)
  have hinX11 : ∀ w ∈ wsX110, w ∈ wsX11_octet := fun w h => List.mem_cons_of_mem _ (List.mem_append_left _ (List.mem_append_right _ h))
  have hnf32 := va_Nw.use (A := [.ref a_p0, .int p1].toArray) rfl (hN.1.1.1 ("DistantVoice", 324, "DistantVoice$Image", "length", "I", "DistantVoice") (List.mem_of_getElem? (i := 32) rfl))
  have hinX4 : ∀ w ∈ wsX40, w ∈ wsX11_octet := fun w h => List.mem_cons_of_mem _ (List.mem_append_right _ h)
  have hnf31 := va_Nw.use (A := [.ref a_p0, .int p1].toArray) rfl (hN.1.1.1 ("DistantVoice", 325, "DistantVoice$Image", "bytes", "[I", "DistantVoice") (List.mem_of_getElem? (i := 31) rfl))
  unfold fX11_octet at hf
  refine lv_iload_n hx hb dX11_octet_0 rfl (lv_at hl 1 rfl) ?_
  refine lv_if_lt (tgt := 15) hx hb dX11_octet_1 (by decide) (fun c_ => ?_) (fun c_ => ?_)
  · have hf := xq_pos hf c_
    refine lv_iconst (v := (-1)) hx hb dX11_octet_15 (by decide) ?_
    refine lv_goto (tgt := 28) hx hb dX11_octet_16 (by decide) ?_
    cases hf
    exact xq_iret hx hb hr hlocks hK hP hD hS dX11_octet_28
  · have hf := xq_neg hf c_
    refine lv_iload_n hx hb dX11_octet_4 rfl (lv_at hl 1 rfl) ?_
    refine lv_aload_n hx hb dX11_octet_5 rfl (lv_at hl 0 rfl) ?_
    refine va_get (D := (dC, dI)) (ci := 11) (v := .ref ((dvR 6))) (C := RX11) (T := TX11) (N := 15) hx hb hts hinX11 hown hK hP 0 rfl rfl 6 (by decide) hw0 (fun _ h9 => h9) rfl dX11_octet_6 ?_
    refine va_getN (D := (dC, dI)) (ci := 4) (v := .int (pictureI 1)) (C := RX4) (T := TX4) (N := 2) hx hb hts hinX4 hown hK hP 1 rfl rfl 1 (by decide) hnf32 (fun _ h9 => h9) rfl dX11_octet_9 ?_
    refine lv_icmp_lt (tgt := 19) hx hb dX11_octet_12 (by decide) (fun c_ => ?_) (fun c_ => ?_)
    · have hf := xq_pos hf c_
      refine lv_aload_n hx hb dX11_octet_19 rfl (lv_at hl 0 rfl) ?_
      refine va_get (D := (dC, dI)) (ci := 11) (v := .ref ((dvR 6))) (C := RX11) (T := TX11) (N := 15) hx hb hts hinX11 hown hK hP 0 rfl rfl 6 (by decide) hw0 (fun _ h9 => h9) rfl dX11_octet_20 ?_
      refine va_getN (D := (dC, dI)) (ci := 4) (v := .ref ((pictureR 0))) (C := RX4) (T := TX4) (N := 2) hx hb hts hinX4 hown hK hP 1 rfl rfl 0 (by decide) hnf31 (fun _ h9 => h9) rfl dX11_octet_23 ?_
      refine lv_iload_n hx hb dX11_octet_26 rfl (lv_at hl 1 rfl) ?_
      refine xq_iald hx hb hK hP 2 0 rfl rfl hf dX11_octet_27 (fun v_1 hf => ?_)
      cases hf
      exact xq_iret hx hb hr hlocks hK hP hD hS dX11_octet_28
    · have hf := xq_neg hf c_
      refine lv_iconst (v := (-1)) hx hb dX11_octet_15 (by decide) ?_
      refine lv_goto (tgt := 28) hx hb dX11_octet_16 (by decide) ?_
      cases hf
      exact xq_iret hx hb hr hlocks hK hP hD hS dX11_octet_28
def dsX11_status_0 : List (Nat × Instr × Nat) := [(0, (.iload_n 1, 1)), (1, (.ifCond .lt 9, 3)), (4, (.iload_n 1, 1)), (5, (.bipush 6, 2)), (7, (.if_icmp .lt 7, 3)), (10, (.iconst (-1), 1)), (11, (.goto 9, 3)), (14, (.aload_n 0, 1)), (15, (.getfield 61, 3)), (18, (.iload_n 1, 1)), (19, (.iaload, 1)), (20, (.ireturn, 1))]
theorem dsX11_status_0_ok : (dsX11_status_0.all fun q => decide (decode cX11_status q.1 = .ok q.2)) = true := by decide +kernel
theorem dX11_status_0 : decode cX11_status 0 = .ok (.iload_n 1, 1) := of_decide_eq_true (List.all_eq_true.mp dsX11_status_0_ok (0, (.iload_n 1, 1)) (List.mem_of_getElem? (i := 0) rfl))
theorem dX11_status_1 : decode cX11_status 1 = .ok (.ifCond .lt 9, 3) := of_decide_eq_true (List.all_eq_true.mp dsX11_status_0_ok (1, (.ifCond .lt 9, 3)) (List.mem_of_getElem? (i := 1) rfl))
theorem dX11_status_4 : decode cX11_status 4 = .ok (.iload_n 1, 1) := of_decide_eq_true (List.all_eq_true.mp dsX11_status_0_ok (4, (.iload_n 1, 1)) (List.mem_of_getElem? (i := 2) rfl))
theorem dX11_status_5 : decode cX11_status 5 = .ok (.bipush 6, 2) := of_decide_eq_true (List.all_eq_true.mp dsX11_status_0_ok (5, (.bipush 6, 2)) (List.mem_of_getElem? (i := 3) rfl))
theorem dX11_status_7 : decode cX11_status 7 = .ok (.if_icmp .lt 7, 3) := of_decide_eq_true (List.all_eq_true.mp dsX11_status_0_ok (7, (.if_icmp .lt 7, 3)) (List.mem_of_getElem? (i := 4) rfl))
theorem dX11_status_10 : decode cX11_status 10 = .ok (.iconst (-1), 1) := of_decide_eq_true (List.all_eq_true.mp dsX11_status_0_ok (10, (.iconst (-1), 1)) (List.mem_of_getElem? (i := 5) rfl))
theorem dX11_status_11 : decode cX11_status 11 = .ok (.goto 9, 3) := of_decide_eq_true (List.all_eq_true.mp dsX11_status_0_ok (11, (.goto 9, 3)) (List.mem_of_getElem? (i := 6) rfl))
theorem dX11_status_14 : decode cX11_status 14 = .ok (.aload_n 0, 1) := of_decide_eq_true (List.all_eq_true.mp dsX11_status_0_ok (14, (.aload_n 0, 1)) (List.mem_of_getElem? (i := 7) rfl))
theorem dX11_status_15 : decode cX11_status 15 = .ok (.getfield 61, 3) := of_decide_eq_true (List.all_eq_true.mp dsX11_status_0_ok (15, (.getfield 61, 3)) (List.mem_of_getElem? (i := 8) rfl))
theorem dX11_status_18 : decode cX11_status 18 = .ok (.iload_n 1, 1) := of_decide_eq_true (List.all_eq_true.mp dsX11_status_0_ok (18, (.iload_n 1, 1)) (List.mem_of_getElem? (i := 9) rfl))
theorem dX11_status_19 : decode cX11_status 19 = .ok (.iaload, 1) := of_decide_eq_true (List.all_eq_true.mp dsX11_status_0_ok (19, (.iaload, 1)) (List.mem_of_getElem? (i := 10) rfl))
theorem dX11_status_20 : decode cX11_status 20 = .ok (.ireturn, 1) := of_decide_eq_true (List.all_eq_true.mp dsX11_status_0_ok (20, (.ireturn, 1)) (List.mem_of_getElem? (i := 11) rfl))
def fX11_status (N : Nat) (dv_refusedF : Nat → Int32)  (p1 : Int32) : Option (Int32) :=
  (if p1 < 0 then some ((-1)) else (if p1 < 6 then (xq_bd (xq_ald 6 dv_refusedF p1) fun v_1 => some v_1) else some ((-1))))
set_option maxHeartbeats 4000000 in
set_option maxRecDepth 100000 in
theorem kX11_status (l : Launch) (dC : Nat → ClassId) (dI : Nat → Nat → Nat) (cI cB cJ cZ cM : ClassId) (z : Nat) (ad : Nat → Nat) (N : Nat) (a_p0 : Nat) (dvI : Nat → Int32) (dvR : Nat → Nat) (dv_refusedF : Nat → Int32) (p1 : Int32) {r0 : Int32} (hf : fX11_status N dv_refusedF p1 = some r0) : xq_Ct l yX11_status wsX11_status { frames := 0, cells := 0, slots := 0, locals := 0 } (dC, dI) vwCl (xq_tys cI cB cJ cZ cM) z ad [.ref a_p0, .int p1] [(a_p0, .inr (11, oX11 dvI dvR)), ((dvR 9), .inl (cI, 6, .inl dv_refusedF))] [(a_p0, .inr (11, oX11 dvI dvR)), ((dvR 9), .inl (cI, 6, .inl dv_refusedF))] (some (.int r0)) := by
  intro sz
  refine Met.ofW (cc := cX11_status) (maxL := 2) (ret := (some .int)) (by decide) rfl ?_
  intro p e s m args below meth c s₁ B hml hv
  obtain ⟨rfl, hsz, hP, hK, hD0, hE, hz⟩ := hv
  have hx := B.exec
  have hb := B.bytes
  have hr := B.returns
  have hts := atoms_spec (ws := wsX11_status) B.pre
  have hown : s.vm.findClass RX11 = some m.cls := findClass_of_methodNamed B.named
  have hlocks := B.notSynchronized
  subst hsz
  have hD := hD0.self (sz := s.heap.size)
  have hN := xq_Env.of hE hz hD0
  generalize hAe : va_A [(a_p0, .inr (11, oX11 dvI dvR)), ((dvR 9), .inl (cI, 6, .inl dv_refusedF))] s.heap.size = A at hD hN ⊢
  have hA : ∀ q : Nat, s.heap.size ≤ q → A q := fun q h => by rw [← hAe]; exact Or.inr h
  clear hAe hD0
  have hS : va_S A s.heap s.heap [] := va_S.rf
  have hl := lv_entry ([.ref a_p0, .int p1]) (n := 2) (Nat.le_of_ble_eq_true rfl)
  rw [lg_entry_eq]
  generalize (lg_sl ([.ref a_p0, .int p1]) ++ List.replicate (2 - (lg_sl ([.ref a_p0, .int p1])).length) Slot.unset).toArray = ls at hl ⊢
  have hl : lv_has ls 2 [(0, .ref a_p0), (1, .int p1)] := hl
  have hw0 := hts (.fieldLink RX11 61 "DistantVoice" "refused" "[I") (by decide +kernel)
  have hinX11 : ∀ w ∈ wsX110, w ∈ wsX11_status := fun w h => List.mem_cons_of_mem _ (List.mem_append_right _ h)
  unfold fX11_status at hf
  refine lv_iload_n hx hb dX11_status_0 rfl (lv_at hl 1 rfl) ?_
  refine lv_if_lt (tgt := 10) hx hb dX11_status_1 (by decide) (fun c_ => ?_) (fun c_ => ?_)
  · have hf := xq_pos hf c_
    refine lv_iconst (v := (-1)) hx hb dX11_status_10 (by decide) ?_
    refine lv_goto (tgt := 20) hx hb dX11_status_11 (by decide) ?_
    cases hf
    exact xq_iret hx hb hr hlocks hK hP hD hS dX11_status_20
  · have hf := xq_neg hf c_
    refine lv_iload_n hx hb dX11_status_4 rfl (lv_at hl 1 rfl) ?_
    refine lv_bipush (v := 6) hx hb dX11_status_5 (by decide) ?_
    refine lv_icmp_lt (tgt := 14) hx hb dX11_status_7 (by decide) (fun c_ => ?_) (fun c_ => ?_)
    · have hf := xq_pos hf c_
      refine lv_aload_n hx hb dX11_status_14 rfl (lv_at hl 0 rfl) ?_
      refine va_get (D := (dC, dI)) (ci := 11) (v := .ref ((dvR 9))) (C := RX11) (T := TX11) (N := 15) hx hb hts hinX11 hown hK hP 0 rfl rfl 9 (by decide) hw0 (fun _ h9 => h9) rfl dX11_status_15 ?_
      refine lv_iload_n hx hb dX11_status_18 rfl (lv_at hl 1 rfl) ?_
      refine xq_iald hx hb hK hP 1 0 rfl rfl hf dX11_status_19 (fun v_1 hf => ?_)
      cases hf
      exact xq_iret hx hb hr hlocks hK hP hD hS dX11_status_20
    · have hf := xq_neg hf c_
      refine lv_iconst (v := (-1)) hx hb dX11_status_10 (by decide) ?_
      refine lv_goto (tgt := 20) hx hb dX11_status_11 (by decide) ?_
      cases hf
      exact xq_iret hx hb hr hlocks hK hP hD hS dX11_status_20
def dsX11_refuse_0 : List (Nat × Instr × Nat) := [(0, (.aload_n 0, 1)), (1, (.getfield 61, 3)), (4, (.iload_n 1, 1)), (5, (.dup2, 1)), (6, (.iaload, 1)), (7, (.iconst 1, 1)), (8, (.iadd, 1)), (9, (.iastore, 1)), (10, (.iconst 0, 1)), (11, (.ireturn, 1))]
theorem dsX11_refuse_0_ok : (dsX11_refuse_0.all fun q => decide (decode cX11_refuse q.1 = .ok q.2)) = true := by decide +kernel
theorem dX11_refuse_0 : decode cX11_refuse 0 = .ok (.aload_n 0, 1) := of_decide_eq_true (List.all_eq_true.mp dsX11_refuse_0_ok (0, (.aload_n 0, 1)) (List.mem_of_getElem? (i := 0) rfl))
theorem dX11_refuse_1 : decode cX11_refuse 1 = .ok (.getfield 61, 3) := of_decide_eq_true (List.all_eq_true.mp dsX11_refuse_0_ok (1, (.getfield 61, 3)) (List.mem_of_getElem? (i := 1) rfl))
theorem dX11_refuse_4 : decode cX11_refuse 4 = .ok (.iload_n 1, 1) := of_decide_eq_true (List.all_eq_true.mp dsX11_refuse_0_ok (4, (.iload_n 1, 1)) (List.mem_of_getElem? (i := 2) rfl))
theorem dX11_refuse_5 : decode cX11_refuse 5 = .ok (.dup2, 1) := of_decide_eq_true (List.all_eq_true.mp dsX11_refuse_0_ok (5, (.dup2, 1)) (List.mem_of_getElem? (i := 3) rfl))
theorem dX11_refuse_6 : decode cX11_refuse 6 = .ok (.iaload, 1) := of_decide_eq_true (List.all_eq_true.mp dsX11_refuse_0_ok (6, (.iaload, 1)) (List.mem_of_getElem? (i := 4) rfl))
theorem dX11_refuse_7 : decode cX11_refuse 7 = .ok (.iconst 1, 1) := of_decide_eq_true (List.all_eq_true.mp dsX11_refuse_0_ok (7, (.iconst 1, 1)) (List.mem_of_getElem? (i := 5) rfl))
theorem dX11_refuse_8 : decode cX11_refuse 8 = .ok (.iadd, 1) := of_decide_eq_true (List.all_eq_true.mp dsX11_refuse_0_ok (8, (.iadd, 1)) (List.mem_of_getElem? (i := 6) rfl))
theorem dX11_refuse_9 : decode cX11_refuse 9 = .ok (.iastore, 1) := of_decide_eq_true (List.all_eq_true.mp dsX11_refuse_0_ok (9, (.iastore, 1)) (List.mem_of_getElem? (i := 7) rfl))
theorem dX11_refuse_10 : decode cX11_refuse 10 = .ok (.iconst 0, 1) := of_decide_eq_true (List.all_eq_true.mp dsX11_refuse_0_ok (10, (.iconst 0, 1)) (List.mem_of_getElem? (i := 8) rfl))
theorem dX11_refuse_11 : decode cX11_refuse 11 = .ok (.ireturn, 1) := of_decide_eq_true (List.all_eq_true.mp dsX11_refuse_0_ok (11, (.ireturn, 1)) (List.mem_of_getElem? (i := 9) rfl))
def fX11_refuse (N : Nat) (dv_refusedF : Nat → Int32)  (p1 : Int32) : Option (Int32 × (Nat → Int32)) :=
  (xq_bd (xq_ald 6 dv_refusedF p1) fun v_1 => (xq_bd (xq_ast 6 dv_refusedF p1 (v_1 + 1)) fun g_2 => some ((0, g_2))))
set_option maxHeartbeats 4000000 in
set_option maxRecDepth 100000 in
theorem kX11_refuse (l : Launch) (dC : Nat → ClassId) (dI : Nat → Nat → Nat) (cI cB cJ cZ cM : ClassId) (z : Nat) (ad : Nat → Nat) (N : Nat) (a_p0 : Nat) (dvI : Nat → Int32) (dvR : Nat → Nat) (dv_refusedF : Nat → Int32) (p1 : Int32) {r0 : Int32} {r1 : Nat → Int32} (hf : fX11_refuse N dv_refusedF p1 = some (r0, r1)) : xq_Ct l yX11_refuse wsX11_refuse { frames := 0, cells := 0, slots := 0, locals := 0 } (dC, dI) vwCl (xq_tys cI cB cJ cZ cM) z ad [.ref a_p0, .int p1] [(a_p0, .inr (11, oX11 dvI dvR)), ((dvR 9), .inl (cI, 6, .inl dv_refusedF))] [(a_p0, .inr (11, oX11 dvI dvR)), ((dvR 9), .inl (cI, 6, .inl r1))] (some (.int r0)) := by
  intro sz
  refine Met.ofW (cc := cX11_refuse) (maxL := 2) (ret := (some .boolean)) (by decide) rfl ?_
  intro p e s m args below meth c s₁ B hml hv
  obtain ⟨rfl, hsz, hP, hK, hD0, hE, hz⟩ := hv
  have hx := B.exec
  have hb := B.bytes
  have hr := B.returns
  have hts := atoms_spec (ws := wsX11_refuse) B.pre
  have hown : s.vm.findClass RX11 = some m.cls := findClass_of_methodNamed B.named
  have hlocks := B.notSynchronized
  subst hsz
  have hD := hD0.self (sz := s.heap.size)
  have hN := xq_Env.of hE hz hD0
  generalize hAe : va_A [(a_p0, .inr (11, oX11 dvI dvR)), ((dvR 9), .inl (cI, 6, .inl dv_refusedF))] s.heap.size = A at hD hN ⊢
  have hA : ∀ q : Nat, s.heap.size ≤ q → A q := fun q h => by rw [← hAe]; exact Or.inr h
  clear hAe hD0
  have hS : va_S A s.heap s.heap [] := va_S.rf
  have hl := lv_entry ([.ref a_p0, .int p1]) (n := 2) (Nat.le_of_ble_eq_true rfl)
  rw [lg_entry_eq]
  generalize (lg_sl ([.ref a_p0, .int p1]) ++ List.replicate (2 - (lg_sl ([.ref a_p0, .int p1])).length) Slot.unset).toArray = ls at hl ⊢
  have hl : lv_has ls 2 [(0, .ref a_p0), (1, .int p1)] := hl
  have hw0 := hts (.fieldLink RX11 61 "DistantVoice" "refused" "[I") (by decide +kernel)
  have hinX11 : ∀ w ∈ wsX110, w ∈ wsX11_refuse := fun w h => List.mem_cons_of_mem _ (List.mem_append_right _ h)
  unfold fX11_refuse at hf
  refine lv_aload_n hx hb dX11_refuse_0 rfl (lv_at hl 0 rfl) ?_
  refine va_get (D := (dC, dI)) (ci := 11) (v := .ref ((dvR 9))) (C := RX11) (T := TX11) (N := 15) hx hb hts hinX11 hown hK hP 0 rfl rfl 9 (by decide) hw0 (fun _ h9 => h9) rfl dX11_refuse_1 ?_
  refine lv_iload_n hx hb dX11_refuse_4 rfl (lv_at hl 1 rfl) ?_
  refine lv_dup2_11 hx hb dX11_refuse_5 rfl rfl ?_
  refine xq_iald hx hb hK hP 1 0 rfl rfl hf dX11_refuse_6 (fun v_1 hf => ?_)
  refine lv_iconst (v := 1) hx hb dX11_refuse_7 (by decide) ?_
  refine lv_iadd hx hb dX11_refuse_8 ?_
  refine xq_iast hx hb hK hP hD hS 1 0 rfl rfl hf dX11_refuse_9 (fun g_2 H locs hf hP hD hS => ?_)
  have hP : va_P (dC, dI) vwCl [(a_p0, .inr (11, oX11 dvI dvR)), ((dvR 9), .inl (cI, 6, .inl g_2))] H := hP
  have hD : va_D A [(a_p0, .inr (11, oX11 dvI dvR)), ((dvR 9), .inl (cI, 6, .inl g_2))] := hD
  refine lv_iconst (v := 0) hx hb dX11_refuse_10 (by decide) ?_
  cases hf
  exact xq_zret hx hb hr (by decide +kernel) hlocks hK hP hD hS dX11_refuse_11
def dsX11_refuseNumber_0 : List (Nat × Instr × Nat) := [(0, (.aload_n 0, 1)), (1, (.getfield 61, 3)), (4, (.iload_n 1, 1)), (5, (.dup2, 1)), (6, (.iaload, 1)), (7, (.iconst 1, 1)), (8, (.iadd, 1)), (9, (.iastore, 1)), (10, (.iconst (-1), 1)), (11, (.ireturn, 1))]
theorem dsX11_refuseNumber_0_ok : (dsX11_refuseNumber_0.all fun q => decide (decode cX11_refuseNumber q.1 = .ok q.2)) = true := by decide +kernel
theorem dX11_refuseNumber_0 : decode cX11_refuseNumber 0 = .ok (.aload_n 0, 1) := of_decide_eq_true (List.all_eq_true.mp dsX11_refuseNumber_0_ok (0, (.aload_n 0, 1)) (List.mem_of_getElem? (i := 0) rfl))
theorem dX11_refuseNumber_1 : decode cX11_refuseNumber 1 = .ok (.getfield 61, 3) := of_decide_eq_true (List.all_eq_true.mp dsX11_refuseNumber_0_ok (1, (.getfield 61, 3)) (List.mem_of_getElem? (i := 1) rfl))
theorem dX11_refuseNumber_4 : decode cX11_refuseNumber 4 = .ok (.iload_n 1, 1) := of_decide_eq_true (List.all_eq_true.mp dsX11_refuseNumber_0_ok (4, (.iload_n 1, 1)) (List.mem_of_getElem? (i := 2) rfl))
theorem dX11_refuseNumber_5 : decode cX11_refuseNumber 5 = .ok (.dup2, 1) := of_decide_eq_true (List.all_eq_true.mp dsX11_refuseNumber_0_ok (5, (.dup2, 1)) (List.mem_of_getElem? (i := 3) rfl))
theorem dX11_refuseNumber_6 : decode cX11_refuseNumber 6 = .ok (.iaload, 1) := of_decide_eq_true (List.all_eq_true.mp dsX11_refuseNumber_0_ok (6, (.iaload, 1)) (List.mem_of_getElem? (i := 4) rfl))
theorem dX11_refuseNumber_7 : decode cX11_refuseNumber 7 = .ok (.iconst 1, 1) := of_decide_eq_true (List.all_eq_true.mp dsX11_refuseNumber_0_ok (7, (.iconst 1, 1)) (List.mem_of_getElem? (i := 5) rfl))
theorem dX11_refuseNumber_8 : decode cX11_refuseNumber 8 = .ok (.iadd, 1) := of_decide_eq_true (List.all_eq_true.mp dsX11_refuseNumber_0_ok (8, (.iadd, 1)) (List.mem_of_getElem? (i := 6) rfl))
theorem dX11_refuseNumber_9 : decode cX11_refuseNumber 9 = .ok (.iastore, 1) := of_decide_eq_true (List.all_eq_true.mp dsX11_refuseNumber_0_ok (9, (.iastore, 1)) (List.mem_of_getElem? (i := 7) rfl))
theorem dX11_refuseNumber_10 : decode cX11_refuseNumber 10 = .ok (.iconst (-1), 1) := of_decide_eq_true (List.all_eq_true.mp dsX11_refuseNumber_0_ok (10, (.iconst (-1), 1)) (List.mem_of_getElem? (i := 8) rfl))
theorem dX11_refuseNumber_11 : decode cX11_refuseNumber 11 = .ok (.ireturn, 1) := of_decide_eq_true (List.all_eq_true.mp dsX11_refuseNumber_0_ok (11, (.ireturn, 1)) (List.mem_of_getElem? (i := 9) rfl))
def fX11_refuseNumber (N : Nat) (dv_refusedF : Nat → Int32)  (p1 : Int32) : Option (Int32 × (Nat → Int32)) :=
  (xq_bd (xq_ald 6 dv_refusedF p1) fun v_1 => (xq_bd (xq_ast 6 dv_refusedF p1 (v_1 + 1)) fun g_2 => some (((-1), g_2))))
set_option maxHeartbeats 4000000 in
set_option maxRecDepth 100000 in
theorem kX11_refuseNumber (l : Launch) (dC : Nat → ClassId) (dI : Nat → Nat → Nat) (cI cB cJ cZ cM : ClassId) (z : Nat) (ad : Nat → Nat) (N : Nat) (a_p0 : Nat) (dvI : Nat → Int32) (dvR : Nat → Nat) (dv_refusedF : Nat → Int32) (p1 : Int32) {r0 : Int32} {r1 : Nat → Int32} (hf : fX11_refuseNumber N dv_refusedF p1 = some (r0, r1)) : xq_Ct l yX11_refuseNumber wsX11_refuseNumber { frames := 0, cells := 0, slots := 0, locals := 0 } (dC, dI) vwCl (xq_tys cI cB cJ cZ cM) z ad [.ref a_p0, .int p1] [(a_p0, .inr (11, oX11 dvI dvR)), ((dvR 9), .inl (cI, 6, .inl dv_refusedF))] [(a_p0, .inr (11, oX11 dvI dvR)), ((dvR 9), .inl (cI, 6, .inl r1))] (some (.int r0)) := by
  intro sz
  refine Met.ofW (cc := cX11_refuseNumber) (maxL := 2) (ret := (some .int)) (by decide) rfl ?_
  intro p e s m args below meth c s₁ B hml hv
  obtain ⟨rfl, hsz, hP, hK, hD0, hE, hz⟩ := hv
  have hx := B.exec
  have hb := B.bytes
  have hr := B.returns
  have hts := atoms_spec (ws := wsX11_refuseNumber) B.pre
  have hown : s.vm.findClass RX11 = some m.cls := findClass_of_methodNamed B.named
  have hlocks := B.notSynchronized
  subst hsz
  have hD := hD0.self (sz := s.heap.size)
  have hN := xq_Env.of hE hz hD0
  generalize hAe : va_A [(a_p0, .inr (11, oX11 dvI dvR)), ((dvR 9), .inl (cI, 6, .inl dv_refusedF))] s.heap.size = A at hD hN ⊢
  have hA : ∀ q : Nat, s.heap.size ≤ q → A q := fun q h => by rw [← hAe]; exact Or.inr h
  clear hAe hD0
  have hS : va_S A s.heap s.heap [] := va_S.rf
  have hl := lv_entry ([.ref a_p0, .int p1]) (n := 2) (Nat.le_of_ble_eq_true rfl)
  rw [lg_entry_eq]
  generalize (lg_sl ([.ref a_p0, .int p1]) ++ List.replicate (2 - (lg_sl ([.ref a_p0, .int p1])).length) Slot.unset).toArray = ls at hl ⊢
  have hl : lv_has ls 2 [(0, .ref a_p0), (1, .int p1)] := hl
  have hw0 := hts (.fieldLink RX11 61 "DistantVoice" "refused" "[I") (by decide +kernel)
  have hinX11 : ∀ w ∈ wsX110, w ∈ wsX11_refuseNumber := fun w h => List.mem_cons_of_mem _ (List.mem_append_right _ h)
  unfold fX11_refuseNumber at hf
  refine lv_aload_n hx hb dX11_refuseNumber_0 rfl (lv_at hl 0 rfl) ?_
  refine va_get (D := (dC, dI)) (ci := 11) (v := .ref ((dvR 9))) (C := RX11) (T := TX11) (N := 15) hx hb hts hinX11 hown hK hP 0 rfl rfl 9 (by decide) hw0 (fun _ h9 => h9) rfl dX11_refuseNumber_1 ?_
  refine lv_iload_n hx hb dX11_refuseNumber_4 rfl (lv_at hl 1 rfl) ?_
  refine lv_dup2_11 hx hb dX11_refuseNumber_5 rfl rfl ?_
  refine xq_iald hx hb hK hP 1 0 rfl rfl hf dX11_refuseNumber_6 (fun v_1 hf => ?_)
  refine lv_iconst (v := 1) hx hb dX11_refuseNumber_7 (by decide) ?_
  refine lv_iadd hx hb dX11_refuseNumber_8 ?_
  refine xq_iast hx hb hK hP hD hS 1 0 rfl rfl hf dX11_refuseNumber_9 (fun g_2 H locs hf hP hD hS => ?_)
  have hP : va_P (dC, dI) vwCl [(a_p0, .inr (11, oX11 dvI dvR)), ((dvR 9), .inl (cI, 6, .inl g_2))] H := hP
  have hD : va_D A [(a_p0, .inr (11, oX11 dvI dvR)), ((dvR 9), .inl (cI, 6, .inl g_2))] := hD
  refine lv_iconst (v := (-1)) hx hb dX11_refuseNumber_10 (by decide) ?_
  cases hf
  exact xq_iret hx hb hr hlocks hK hP hD hS dX11_refuseNumber_11
def dsX11_hasHouse_0 : List (Nat × Instr × Nat) := [(0, (.aload_n 0, 1)), (1, (.getfield 67, 3)), (4, (.getfield 141, 3)), (7, (.ifCond .le 7, 3)), (10, (.iconst 1, 1)), (11, (.goto 4, 3)), (14, (.iconst 0, 1)), (15, (.ireturn, 1))]
theorem dsX11_hasHouse_0_ok : (dsX11_hasHouse_0.all fun q => decide (decode cX11_hasHouse q.1 = .ok q.2)) = true := by decide +kernel
theorem dX11_hasHouse_0 : decode cX11_hasHouse 0 = .ok (.aload_n 0, 1) := of_decide_eq_true (List.all_eq_true.mp dsX11_hasHouse_0_ok (0, (.aload_n 0, 1)) (List.mem_of_getElem? (i := 0) rfl))
theorem dX11_hasHouse_1 : decode cX11_hasHouse 1 = .ok (.getfield 67, 3) := of_decide_eq_true (List.all_eq_true.mp dsX11_hasHouse_0_ok (1, (.getfield 67, 3)) (List.mem_of_getElem? (i := 1) rfl))
theorem dX11_hasHouse_4 : decode cX11_hasHouse 4 = .ok (.getfield 141, 3) := of_decide_eq_true (List.all_eq_true.mp dsX11_hasHouse_0_ok (4, (.getfield 141, 3)) (List.mem_of_getElem? (i := 2) rfl))
theorem dX11_hasHouse_7 : decode cX11_hasHouse 7 = .ok (.ifCond .le 7, 3) := of_decide_eq_true (List.all_eq_true.mp dsX11_hasHouse_0_ok (7, (.ifCond .le 7, 3)) (List.mem_of_getElem? (i := 3) rfl))
theorem dX11_hasHouse_10 : decode cX11_hasHouse 10 = .ok (.iconst 1, 1) := of_decide_eq_true (List.all_eq_true.mp dsX11_hasHouse_0_ok (10, (.iconst 1, 1)) (List.mem_of_getElem? (i := 4) rfl))
theorem dX11_hasHouse_11 : decode cX11_hasHouse 11 = .ok (.goto 4, 3) := of_decide_eq_true (List.all_eq_true.mp dsX11_hasHouse_0_ok (11, (.goto 4, 3)) (List.mem_of_getElem? (i := 5) rfl))
theorem dX11_hasHouse_14 : decode cX11_hasHouse 14 = .ok (.iconst 0, 1) := of_decide_eq_true (List.all_eq_true.mp dsX11_hasHouse_0_ok (14, (.iconst 0, 1)) (List.mem_of_getElem? (i := 6) rfl))
theorem dX11_hasHouse_15 : decode cX11_hasHouse 15 = .ok (.ireturn, 1) := of_decide_eq_true (List.all_eq_true.mp dsX11_hasHouse_0_ok (15, (.ireturn, 1)) (List.mem_of_getElem? (i := 7) rfl))
def fX11_hasHouse (N : Nat) (homeI : Nat → Int32)   : Option (Int32) :=
  (if (homeI 1) ≤ 0 then some 0 else some 1)
set_option maxHeartbeats 4000000 in
set_option maxRecDepth 100000 in
theorem kX11_hasHouse (l : Launch) (dC : Nat → ClassId) (dI : Nat → Nat → Nat) (cI cB cJ cZ cM : ClassId) (z : Nat) (ad : Nat → Nat) (N : Nat) (a_p0 : Nat) (dvI : Nat → Int32) (dvR : Nat → Nat) (homeI : Nat → Int32) (homeR : Nat → Nat) {r0 : Int32} (hf : fX11_hasHouse N homeI = some r0) : xq_Ct l yX11_hasHouse wsX11_hasHouse { frames := 0, cells := 0, slots := 0, locals := 0 } (dC, dI) vwCl (xq_tys cI cB cJ cZ cM) z ad [.ref a_p0] [(a_p0, .inr (11, oX11 dvI dvR)), ((dvR 10), .inr (2, oX2 homeI homeR))] [(a_p0, .inr (11, oX11 dvI dvR)), ((dvR 10), .inr (2, oX2 homeI homeR))] (some (.int r0)) := by
  intro sz
  refine Met.ofW (cc := cX11_hasHouse) (maxL := 1) (ret := (some .boolean)) (by decide) rfl ?_
  intro p e s m args below meth c s₁ B hml hv
  obtain ⟨rfl, hsz, hP, hK, hD0, hE, hz⟩ := hv
  have hx := B.exec
  have hb := B.bytes
  have hr := B.returns
  have hts := atoms_spec (ws := wsX11_hasHouse) B.pre
  have hown : s.vm.findClass RX11 = some m.cls := findClass_of_methodNamed B.named
  have hlocks := B.notSynchronized
  subst hsz
  have hD := hD0.self (sz := s.heap.size)
  have hN := xq_Env.of hE hz hD0
  generalize hAe : va_A [(a_p0, .inr (11, oX11 dvI dvR)), ((dvR 10), .inr (2, oX2 homeI homeR))] s.heap.size = A at hD hN ⊢
  have hA : ∀ q : Nat, s.heap.size ≤ q → A q := fun q h => by rw [← hAe]; exact Or.inr h
  clear hAe hD0
  have hS : va_S A s.heap s.heap [] := va_S.rf
  have hl := lv_entry ([.ref a_p0]) (n := 1) (Nat.le_of_ble_eq_true rfl)
  rw [lg_entry_eq]
  generalize (lg_sl ([.ref a_p0]) ++ List.replicate (1 - (lg_sl ([.ref a_p0])).length) Slot.unset).toArray = ls at hl ⊢
  have hl : lv_has ls 1 [(0, .ref a_p0)] := hl
  have hw0 := hts (.fieldLink RX11 67 "DistantVoice" "home" "LDistantVoice$House;") (by decide +kernel)
  have hinX11 : ∀ w ∈ wsX110, w ∈ wsX11_hasHouse := fun w h => List.mem_cons_of_mem _ (List.mem_append_left _ (List.mem_append_right _ h))
  have hnf37 := va_Nw.use (A := [.ref a_p0].toArray) rfl (hN.1.1.1 ("DistantVoice", 141, "DistantVoice$House", "roundMiles", "I", "DistantVoice") (List.mem_of_getElem? (i := 37) rfl))
  have hinX2 : ∀ w ∈ wsX20, w ∈ wsX11_hasHouse := fun w h => List.mem_cons_of_mem _ (List.mem_append_right _ h)
  unfold fX11_hasHouse at hf
  refine lv_aload_n hx hb dX11_hasHouse_0 rfl (lv_at hl 0 rfl) ?_
  refine va_get (D := (dC, dI)) (ci := 11) (v := .ref ((dvR 10))) (C := RX11) (T := TX11) (N := 15) hx hb hts hinX11 hown hK hP 0 rfl rfl 10 (by decide) hw0 (fun _ h9 => h9) rfl dX11_hasHouse_1 ?_
  refine va_getN (D := (dC, dI)) (ci := 2) (v := .int (homeI 1)) (C := RX2) (T := TX2) (N := 19) hx hb hts hinX2 hown hK hP 1 rfl rfl 1 (by decide) hnf37 (fun _ h9 => h9) rfl dX11_hasHouse_4 ?_
  refine lv_if_le (tgt := 14) hx hb dX11_hasHouse_7 (by decide) (fun c_ => ?_) (fun c_ => ?_)
  · have hf := xq_pos hf c_
    refine lv_iconst (v := 0) hx hb dX11_hasHouse_14 (by decide) ?_
    cases hf
    exact xq_zret hx hb hr (by decide +kernel) hlocks hK hP hD hS dX11_hasHouse_15
  · have hf := xq_neg hf c_
    refine lv_iconst (v := 1) hx hb dX11_hasHouse_10 (by decide) ?_
    refine lv_goto (tgt := 15) hx hb dX11_hasHouse_11 (by decide) ?_
    cases hf
    exact xq_zret hx hb hr (by decide +kernel) hlocks hK hP hD hS dX11_hasHouse_15
def dsX11_isEar_0 : List (Nat × Instr × Nat) := [(0, (.iload_n 1, 1)), (1, (.ifCond .lt 18, 3)), (4, (.iload_n 1, 1)), (5, (.aload_n 0, 1)), (6, (.getfield 67, 3)), (9, (.getfield 144, 3)), (12, (.if_icmp .ge 7, 3)), (15, (.iconst 1, 1)), (16, (.goto 4, 3)), (19, (.iconst 0, 1)), (20, (.ireturn, 1))]
theorem dsX11_isEar_0_ok : (dsX11_isEar_0.all fun q => decide (decode cX11_isEar q.1 = .ok q.2)) = true := by decide +kernel
theorem dX11_isEar_0 : decode cX11_isEar 0 = .ok (.iload_n 1, 1) := of_decide_eq_true (List.all_eq_true.mp dsX11_isEar_0_ok (0, (.iload_n 1, 1)) (List.mem_of_getElem? (i := 0) rfl))
theorem dX11_isEar_1 : decode cX11_isEar 1 = .ok (.ifCond .lt 18, 3) := of_decide_eq_true (List.all_eq_true.mp dsX11_isEar_0_ok (1, (.ifCond .lt 18, 3)) (List.mem_of_getElem? (i := 1) rfl))
theorem dX11_isEar_4 : decode cX11_isEar 4 = .ok (.iload_n 1, 1) := of_decide_eq_true (List.all_eq_true.mp dsX11_isEar_0_ok (4, (.iload_n 1, 1)) (List.mem_of_getElem? (i := 2) rfl))
theorem dX11_isEar_5 : decode cX11_isEar 5 = .ok (.aload_n 0, 1) := of_decide_eq_true (List.all_eq_true.mp dsX11_isEar_0_ok (5, (.aload_n 0, 1)) (List.mem_of_getElem? (i := 3) rfl))
theorem dX11_isEar_6 : decode cX11_isEar 6 = .ok (.getfield 67, 3) := of_decide_eq_true (List.all_eq_true.mp dsX11_isEar_0_ok (6, (.getfield 67, 3)) (List.mem_of_getElem? (i := 4) rfl))
theorem dX11_isEar_9 : decode cX11_isEar 9 = .ok (.getfield 144, 3) := of_decide_eq_true (List.all_eq_true.mp dsX11_isEar_0_ok (9, (.getfield 144, 3)) (List.mem_of_getElem? (i := 5) rfl))
theorem dX11_isEar_12 : decode cX11_isEar 12 = .ok (.if_icmp .ge 7, 3) := of_decide_eq_true (List.all_eq_true.mp dsX11_isEar_0_ok (12, (.if_icmp .ge 7, 3)) (List.mem_of_getElem? (i := 6) rfl))
theorem dX11_isEar_15 : decode cX11_isEar 15 = .ok (.iconst 1, 1) := of_decide_eq_true (List.all_eq_true.mp dsX11_isEar_0_ok (15, (.iconst 1, 1)) (List.mem_of_getElem? (i := 7) rfl))
theorem dX11_isEar_16 : decode cX11_isEar 16 = .ok (.goto 4, 3) := of_decide_eq_true (List.all_eq_true.mp dsX11_isEar_0_ok (16, (.goto 4, 3)) (List.mem_of_getElem? (i := 8) rfl))
theorem dX11_isEar_19 : decode cX11_isEar 19 = .ok (.iconst 0, 1) := of_decide_eq_true (List.all_eq_true.mp dsX11_isEar_0_ok (19, (.iconst 0, 1)) (List.mem_of_getElem? (i := 9) rfl))
theorem dX11_isEar_20 : decode cX11_isEar 20 = .ok (.ireturn, 1) := of_decide_eq_true (List.all_eq_true.mp dsX11_isEar_0_ok (20, (.ireturn, 1)) (List.mem_of_getElem? (i := 10) rfl))
def fX11_isEar (N : Nat) (homeI : Nat → Int32)  (p1 : Int32) : Option (Int32) :=
  (if p1 < 0 then some 0 else (if (homeI 5) ≤ p1 then some 0 else some 1))
set_option maxHeartbeats 4000000 in
set_option maxRecDepth 100000 in
theorem kX11_isEar (l : Launch) (dC : Nat → ClassId) (dI : Nat → Nat → Nat) (cI cB cJ cZ cM : ClassId) (z : Nat) (ad : Nat → Nat) (N : Nat) (a_p0 : Nat) (dvI : Nat → Int32) (dvR : Nat → Nat) (homeI : Nat → Int32) (homeR : Nat → Nat) (p1 : Int32) {r0 : Int32} (hf : fX11_isEar N homeI p1 = some r0) : xq_Ct l yX11_isEar wsX11_isEar { frames := 0, cells := 0, slots := 0, locals := 0 } (dC, dI) vwCl (xq_tys cI cB cJ cZ cM) z ad [.ref a_p0, .int p1] [(a_p0, .inr (11, oX11 dvI dvR)), ((dvR 10), .inr (2, oX2 homeI homeR))] [(a_p0, .inr (11, oX11 dvI dvR)), ((dvR 10), .inr (2, oX2 homeI homeR))] (some (.int r0)) := by
  intro sz
  refine Met.ofW (cc := cX11_isEar) (maxL := 2) (ret := (some .boolean)) (by decide) rfl ?_
  intro p e s m args below meth c s₁ B hml hv
  obtain ⟨rfl, hsz, hP, hK, hD0, hE, hz⟩ := hv
  have hx := B.exec
  have hb := B.bytes
  have hr := B.returns
  have hts := atoms_spec (ws := wsX11_isEar) B.pre
  have hown : s.vm.findClass RX11 = some m.cls := findClass_of_methodNamed B.named
  have hlocks := B.notSynchronized
  subst hsz
  have hD := hD0.self (sz := s.heap.size)
  have hN := xq_Env.of hE hz hD0
  generalize hAe : va_A [(a_p0, .inr (11, oX11 dvI dvR)), ((dvR 10), .inr (2, oX2 homeI homeR))] s.heap.size = A at hD hN ⊢
  have hA : ∀ q : Nat, s.heap.size ≤ q → A q := fun q h => by rw [← hAe]; exact Or.inr h
  clear hAe hD0
  have hS : va_S A s.heap s.heap [] := va_S.rf
  have hl := lv_entry ([.ref a_p0, .int p1]) (n := 2) (Nat.le_of_ble_eq_true rfl)
  rw [lg_entry_eq]
  generalize (lg_sl ([.ref a_p0, .int p1]) ++ List.replicate (2 - (lg_sl ([.ref a_p0, .int p1])).length) Slot.unset).toArray = ls at hl ⊢
  have hl : lv_has ls 2 [(0, .ref a_p0), (1, .int p1)] := hl
  have hw0 := hts (.fieldLink RX11 67 "DistantVoice" "home" "LDistantVoice$House;") (by decide +kernel)
  have hinX11 : ∀ w ∈ wsX110, w ∈ wsX11_isEar := fun w h => List.mem_cons_of_mem _ (List.mem_append_left _ (List.mem_append_right _ h))
  have hnf48 := va_Nw.use (A := [.ref a_p0, .int p1].toArray) rfl (hN.1.1.1 ("DistantVoice", 144, "DistantVoice$House", "ears", "I", "DistantVoice") (List.mem_of_getElem? (i := 48) rfl))
  have hinX2 : ∀ w ∈ wsX20, w ∈ wsX11_isEar := fun w h => List.mem_cons_of_mem _ (List.mem_append_right _ h)
  unfold fX11_isEar at hf
  refine lv_iload_n hx hb dX11_isEar_0 rfl (lv_at hl 1 rfl) ?_
  refine lv_if_lt (tgt := 19) hx hb dX11_isEar_1 (by decide) (fun c_ => ?_) (fun c_ => ?_)
  · have hf := xq_pos hf c_
    refine lv_iconst (v := 0) hx hb dX11_isEar_19 (by decide) ?_
    cases hf
    exact xq_zret hx hb hr (by decide +kernel) hlocks hK hP hD hS dX11_isEar_20
  · have hf := xq_neg hf c_
    refine lv_iload_n hx hb dX11_isEar_4 rfl (lv_at hl 1 rfl) ?_
    refine lv_aload_n hx hb dX11_isEar_5 rfl (lv_at hl 0 rfl) ?_
    refine va_get (D := (dC, dI)) (ci := 11) (v := .ref ((dvR 10))) (C := RX11) (T := TX11) (N := 15) hx hb hts hinX11 hown hK hP 0 rfl rfl 10 (by decide) hw0 (fun _ h9 => h9) rfl dX11_isEar_6 ?_
    refine va_getN (D := (dC, dI)) (ci := 2) (v := .int (homeI 5)) (C := RX2) (T := TX2) (N := 19) hx hb hts hinX2 hown hK hP 1 rfl rfl 5 (by decide) hnf48 (fun _ h9 => h9) rfl dX11_isEar_9 ?_
    refine lv_icmp_ge (tgt := 19) hx hb dX11_isEar_12 (by decide) (fun c_ => ?_) (fun c_ => ?_)
    · have hf := xq_pos hf c_
      refine lv_iconst (v := 0) hx hb dX11_isEar_19 (by decide) ?_
      cases hf
      exact xq_zret hx hb hr (by decide +kernel) hlocks hK hP hD hS dX11_isEar_20
    · have hf := xq_neg hf c_
      refine lv_iconst (v := 1) hx hb dX11_isEar_15 (by decide) ?_
      refine lv_goto (tgt := 20) hx hb dX11_isEar_16 (by decide) ?_
      cases hf
      exact xq_zret hx hb hr (by decide +kernel) hlocks hK hP hD hS dX11_isEar_20
def dsX11_isPlace_0 : List (Nat × Instr × Nat) := [(0, (.iload_n 1, 1)), (1, (.ifCond .lt 18, 3)), (4, (.iload_n 1, 1)), (5, (.aload_n 0, 1)), (6, (.getfield 67, 3)), (9, (.getfield 147, 3)), (12, (.if_icmp .ge 7, 3)), (15, (.iconst 1, 1)), (16, (.goto 4, 3)), (19, (.iconst 0, 1)), (20, (.ireturn, 1))]
theorem dsX11_isPlace_0_ok : (dsX11_isPlace_0.all fun q => decide (decode cX11_isPlace q.1 = .ok q.2)) = true := by decide +kernel
theorem dX11_isPlace_0 : decode cX11_isPlace 0 = .ok (.iload_n 1, 1) := of_decide_eq_true (List.all_eq_true.mp dsX11_isPlace_0_ok (0, (.iload_n 1, 1)) (List.mem_of_getElem? (i := 0) rfl))
theorem dX11_isPlace_1 : decode cX11_isPlace 1 = .ok (.ifCond .lt 18, 3) := of_decide_eq_true (List.all_eq_true.mp dsX11_isPlace_0_ok (1, (.ifCond .lt 18, 3)) (List.mem_of_getElem? (i := 1) rfl))
theorem dX11_isPlace_4 : decode cX11_isPlace 4 = .ok (.iload_n 1, 1) := of_decide_eq_true (List.all_eq_true.mp dsX11_isPlace_0_ok (4, (.iload_n 1, 1)) (List.mem_of_getElem? (i := 2) rfl))
theorem dX11_isPlace_5 : decode cX11_isPlace 5 = .ok (.aload_n 0, 1) := of_decide_eq_true (List.all_eq_true.mp dsX11_isPlace_0_ok (5, (.aload_n 0, 1)) (List.mem_of_getElem? (i := 3) rfl))
theorem dX11_isPlace_6 : decode cX11_isPlace 6 = .ok (.getfield 67, 3) := of_decide_eq_true (List.all_eq_true.mp dsX11_isPlace_0_ok (6, (.getfield 67, 3)) (List.mem_of_getElem? (i := 4) rfl))
theorem dX11_isPlace_9 : decode cX11_isPlace 9 = .ok (.getfield 147, 3) := of_decide_eq_true (List.all_eq_true.mp dsX11_isPlace_0_ok (9, (.getfield 147, 3)) (List.mem_of_getElem? (i := 5) rfl))
theorem dX11_isPlace_12 : decode cX11_isPlace 12 = .ok (.if_icmp .ge 7, 3) := of_decide_eq_true (List.all_eq_true.mp dsX11_isPlace_0_ok (12, (.if_icmp .ge 7, 3)) (List.mem_of_getElem? (i := 6) rfl))
theorem dX11_isPlace_15 : decode cX11_isPlace 15 = .ok (.iconst 1, 1) := of_decide_eq_true (List.all_eq_true.mp dsX11_isPlace_0_ok (15, (.iconst 1, 1)) (List.mem_of_getElem? (i := 7) rfl))
theorem dX11_isPlace_16 : decode cX11_isPlace 16 = .ok (.goto 4, 3) := of_decide_eq_true (List.all_eq_true.mp dsX11_isPlace_0_ok (16, (.goto 4, 3)) (List.mem_of_getElem? (i := 8) rfl))
theorem dX11_isPlace_19 : decode cX11_isPlace 19 = .ok (.iconst 0, 1) := of_decide_eq_true (List.all_eq_true.mp dsX11_isPlace_0_ok (19, (.iconst 0, 1)) (List.mem_of_getElem? (i := 9) rfl))
theorem dX11_isPlace_20 : decode cX11_isPlace 20 = .ok (.ireturn, 1) := of_decide_eq_true (List.all_eq_true.mp dsX11_isPlace_0_ok (20, (.ireturn, 1)) (List.mem_of_getElem? (i := 10) rfl))
def fX11_isPlace (N : Nat) (homeI : Nat → Int32)  (p1 : Int32) : Option (Int32) :=
  (if p1 < 0 then some 0 else (if (homeI 6) ≤ p1 then some 0 else some 1))
set_option maxHeartbeats 4000000 in
set_option maxRecDepth 100000 in
theorem kX11_isPlace (l : Launch) (dC : Nat → ClassId) (dI : Nat → Nat → Nat) (cI cB cJ cZ cM : ClassId) (z : Nat) (ad : Nat → Nat) (N : Nat) (a_p0 : Nat) (dvI : Nat → Int32) (dvR : Nat → Nat) (homeI : Nat → Int32) (homeR : Nat → Nat) (p1 : Int32) {r0 : Int32} (hf : fX11_isPlace N homeI p1 = some r0) : xq_Ct l yX11_isPlace wsX11_isPlace { frames := 0, cells := 0, slots := 0, locals := 0 } (dC, dI) vwCl (xq_tys cI cB cJ cZ cM) z ad [.ref a_p0, .int p1] [(a_p0, .inr (11, oX11 dvI dvR)), ((dvR 10), .inr (2, oX2 homeI homeR))] [(a_p0, .inr (11, oX11 dvI dvR)), ((dvR 10), .inr (2, oX2 homeI homeR))] (some (.int r0)) := by
  intro sz
  refine Met.ofW (cc := cX11_isPlace) (maxL := 2) (ret := (some .boolean)) (by decide) rfl ?_
  intro p e s m args below meth c s₁ B hml hv
  obtain ⟨rfl, hsz, hP, hK, hD0, hE, hz⟩ := hv
  have hx := B.exec
  have hb := B.bytes
  have hr := B.returns
  have hts := atoms_spec (ws := wsX11_isPlace) B.pre
  have hown : s.vm.findClass RX11 = some m.cls := findClass_of_methodNamed B.named
  have hlocks := B.notSynchronized
  subst hsz
  have hD := hD0.self (sz := s.heap.size)
  have hN := xq_Env.of hE hz hD0
  generalize hAe : va_A [(a_p0, .inr (11, oX11 dvI dvR)), ((dvR 10), .inr (2, oX2 homeI homeR))] s.heap.size = A at hD hN ⊢
  have hA : ∀ q : Nat, s.heap.size ≤ q → A q := fun q h => by rw [← hAe]; exact Or.inr h
  clear hAe hD0
  have hS : va_S A s.heap s.heap [] := va_S.rf
  have hl := lv_entry ([.ref a_p0, .int p1]) (n := 2) (Nat.le_of_ble_eq_true rfl)
  rw [lg_entry_eq]
  generalize (lg_sl ([.ref a_p0, .int p1]) ++ List.replicate (2 - (lg_sl ([.ref a_p0, .int p1])).length) Slot.unset).toArray = ls at hl ⊢
  have hl : lv_has ls 2 [(0, .ref a_p0), (1, .int p1)] := hl
  have hw0 := hts (.fieldLink RX11 67 "DistantVoice" "home" "LDistantVoice$House;") (by decide +kernel)
  have hinX11 : ∀ w ∈ wsX110, w ∈ wsX11_isPlace := fun w h => List.mem_cons_of_mem _ (List.mem_append_left _ (List.mem_append_right _ h))
  have hnf52 := va_Nw.use (A := [.ref a_p0, .int p1].toArray) rfl (hN.1.1.1 ("DistantVoice", 147, "DistantVoice$House", "places", "I", "DistantVoice") (List.mem_of_getElem? (i := 52) rfl))
  have hinX2 : ∀ w ∈ wsX20, w ∈ wsX11_isPlace := fun w h => List.mem_cons_of_mem _ (List.mem_append_right _ h)
  unfold fX11_isPlace at hf
  refine lv_iload_n hx hb dX11_isPlace_0 rfl (lv_at hl 1 rfl) ?_
  refine lv_if_lt (tgt := 19) hx hb dX11_isPlace_1 (by decide) (fun c_ => ?_) (fun c_ => ?_)
  · have hf := xq_pos hf c_
    refine lv_iconst (v := 0) hx hb dX11_isPlace_19 (by decide) ?_
    cases hf
    exact xq_zret hx hb hr (by decide +kernel) hlocks hK hP hD hS dX11_isPlace_20
  · have hf := xq_neg hf c_
    refine lv_iload_n hx hb dX11_isPlace_4 rfl (lv_at hl 1 rfl) ?_
    refine lv_aload_n hx hb dX11_isPlace_5 rfl (lv_at hl 0 rfl) ?_
    refine va_get (D := (dC, dI)) (ci := 11) (v := .ref ((dvR 10))) (C := RX11) (T := TX11) (N := 15) hx hb hts hinX11 hown hK hP 0 rfl rfl 10 (by decide) hw0 (fun _ h9 => h9) rfl dX11_isPlace_6 ?_
    refine va_getN (D := (dC, dI)) (ci := 2) (v := .int (homeI 6)) (C := RX2) (T := TX2) (N := 19) hx hb hts hinX2 hown hK hP 1 rfl rfl 6 (by decide) hnf52 (fun _ h9 => h9) rfl dX11_isPlace_9 ?_
    refine lv_icmp_ge (tgt := 19) hx hb dX11_isPlace_12 (by decide) (fun c_ => ?_) (fun c_ => ?_)
    · have hf := xq_pos hf c_
      refine lv_iconst (v := 0) hx hb dX11_isPlace_19 (by decide) ?_
      cases hf
      exact xq_zret hx hb hr (by decide +kernel) hlocks hK hP hD hS dX11_isPlace_20
    · have hf := xq_neg hf c_
      refine lv_iconst (v := 1) hx hb dX11_isPlace_15 (by decide) ?_
      refine lv_goto (tgt := 20) hx hb dX11_isPlace_16 (by decide) ?_
      cases hf
      exact xq_zret hx hb hr (by decide +kernel) hlocks hK hP hD hS dX11_isPlace_20
def dsX11_isDigit_0 : List (Nat × Instr × Nat) := [(0, (.iload_n 0, 1)), (1, (.ifCond .lt 13, 3)), (4, (.iload_n 0, 1)), (5, (.bipush 9, 2)), (7, (.if_icmp .gt 7, 3)), (10, (.iconst 1, 1)), (11, (.goto 4, 3)), (14, (.iconst 0, 1)), (15, (.ireturn, 1))]
theorem dsX11_isDigit_0_ok : (dsX11_isDigit_0.all fun q => decide (decode cX11_isDigit q.1 = .ok q.2)) = true := by decide +kernel
theorem dX11_isDigit_0 : decode cX11_isDigit 0 = .ok (.iload_n 0, 1) := of_decide_eq_true (List.all_eq_true.mp dsX11_isDigit_0_ok (0, (.iload_n 0, 1)) (List.mem_of_getElem? (i := 0) rfl))
theorem dX11_isDigit_1 : decode cX11_isDigit 1 = .ok (.ifCond .lt 13, 3) := of_decide_eq_true (List.all_eq_true.mp dsX11_isDigit_0_ok (1, (.ifCond .lt 13, 3)) (List.mem_of_getElem? (i := 1) rfl))
theorem dX11_isDigit_4 : decode cX11_isDigit 4 = .ok (.iload_n 0, 1) := of_decide_eq_true (List.all_eq_true.mp dsX11_isDigit_0_ok (4, (.iload_n 0, 1)) (List.mem_of_getElem? (i := 2) rfl))
theorem dX11_isDigit_5 : decode cX11_isDigit 5 = .ok (.bipush 9, 2) := of_decide_eq_true (List.all_eq_true.mp dsX11_isDigit_0_ok (5, (.bipush 9, 2)) (List.mem_of_getElem? (i := 3) rfl))
theorem dX11_isDigit_7 : decode cX11_isDigit 7 = .ok (.if_icmp .gt 7, 3) := of_decide_eq_true (List.all_eq_true.mp dsX11_isDigit_0_ok (7, (.if_icmp .gt 7, 3)) (List.mem_of_getElem? (i := 4) rfl))
theorem dX11_isDigit_10 : decode cX11_isDigit 10 = .ok (.iconst 1, 1) := of_decide_eq_true (List.all_eq_true.mp dsX11_isDigit_0_ok (10, (.iconst 1, 1)) (List.mem_of_getElem? (i := 5) rfl))
theorem dX11_isDigit_11 : decode cX11_isDigit 11 = .ok (.goto 4, 3) := of_decide_eq_true (List.all_eq_true.mp dsX11_isDigit_0_ok (11, (.goto 4, 3)) (List.mem_of_getElem? (i := 6) rfl))
theorem dX11_isDigit_14 : decode cX11_isDigit 14 = .ok (.iconst 0, 1) := of_decide_eq_true (List.all_eq_true.mp dsX11_isDigit_0_ok (14, (.iconst 0, 1)) (List.mem_of_getElem? (i := 7) rfl))
theorem dX11_isDigit_15 : decode cX11_isDigit 15 = .ok (.ireturn, 1) := of_decide_eq_true (List.all_eq_true.mp dsX11_isDigit_0_ok (15, (.ireturn, 1)) (List.mem_of_getElem? (i := 8) rfl))
def fX11_isDigit (N : Nat)   (p0 : Int32) : Option (Int32) :=
  (if p0 < 0 then some 0 else (if 9 < p0 then some 0 else some 1))
set_option maxHeartbeats 4000000 in
set_option maxRecDepth 100000 in
theorem kX11_isDigit (l : Launch) (dC : Nat → ClassId) (dI : Nat → Nat → Nat) (cI cB cJ cZ cM : ClassId) (z : Nat) (ad : Nat → Nat) (N : Nat) (p0 : Int32) {r0 : Int32} (hf : fX11_isDigit N p0 = some r0) : xq_Ct l yX11_isDigit wsX11_isDigit { frames := 0, cells := 0, slots := 0, locals := 0 } (dC, dI) vwCl (xq_tys cI cB cJ cZ cM) z ad [.int p0] [] [] (some (.int r0)) := by
  intro sz
  refine Met.ofW (cc := cX11_isDigit) (maxL := 1) (ret := (some .boolean)) (by decide) rfl ?_
  intro p e s m args below meth c s₁ B hml hv
  obtain ⟨rfl, hsz, hP, hK, hD0, hE, hz⟩ := hv
  have hx := B.exec
  have hb := B.bytes
  have hr := B.returns
  have hts := atoms_spec (ws := wsX11_isDigit) B.pre
  have hown : s.vm.findClass RX11 = some m.cls := findClass_of_methodNamed B.named
  have hlocks := B.notSynchronized
  subst hsz
  have hD := hD0.self (sz := s.heap.size)
  have hN := xq_Env.of hE hz hD0
  generalize hAe : va_A [] s.heap.size = A at hD hN ⊢
  have hA : ∀ q : Nat, s.heap.size ≤ q → A q := fun q h => by rw [← hAe]; exact Or.inr h
  clear hAe hD0
  have hS : va_S A s.heap s.heap [] := va_S.rf
  have hl := lv_entry ([.int p0]) (n := 1) (Nat.le_of_ble_eq_true rfl)
  rw [lg_entry_eq]
  generalize (lg_sl ([.int p0]) ++ List.replicate (1 - (lg_sl ([.int p0])).length) Slot.unset).toArray = ls at hl ⊢
  have hl : lv_has ls 1 [(0, .int p0)] := hl
  unfold fX11_isDigit at hf
  refine lv_iload_n hx hb dX11_isDigit_0 rfl (lv_at hl 0 rfl) ?_
  refine lv_if_lt (tgt := 14) hx hb dX11_isDigit_1 (by decide) (fun c_ => ?_) (fun c_ => ?_)
  · have hf := xq_pos hf c_
    refine lv_iconst (v := 0) hx hb dX11_isDigit_14 (by decide) ?_
    cases hf
    exact xq_zret hx hb hr (by decide +kernel) hlocks hK hP hD hS dX11_isDigit_15
  · have hf := xq_neg hf c_
    refine lv_iload_n hx hb dX11_isDigit_4 rfl (lv_at hl 0 rfl) ?_
    refine lv_bipush (v := 9) hx hb dX11_isDigit_5 (by decide) ?_
    refine lv_icmp_gt (tgt := 14) hx hb dX11_isDigit_7 (by decide) (fun c_ => ?_) (fun c_ => ?_)
    · have hf := xq_pos hf c_
      refine lv_iconst (v := 0) hx hb dX11_isDigit_14 (by decide) ?_
      cases hf
      exact xq_zret hx hb hr (by decide +kernel) hlocks hK hP hD hS dX11_isDigit_15
    · have hf := xq_neg hf c_
      refine lv_iconst (v := 1) hx hb dX11_isDigit_10 (by decide) ?_
      refine lv_goto (tgt := 15) hx hb dX11_isDigit_11 (by decide) ?_
      cases hf
      exact xq_zret hx hb hr (by decide +kernel) hlocks hK hP hD hS dX11_isDigit_15
def dsX11_letterOf_0 : List (Nat × Instr × Nat) := [(0, (.iload_n 0, 1)), (1, (.istore_n 2, 1)), (2, (.iload_n 1, 1)), (3, (.iconst 1, 1)), (4, (.iadd, 1)), (5, (.istore_n 3, 1)), (6, (.iload_n 3, 1)), (7, (.bipush 6, 2)), (9, (.if_icmp .ge 14, 3)), (12, (.iload_n 2, 1)), (13, (.bipush 27, 2)), (15, (.idiv, 1)), (16, (.istore_n 2, 1)), (17, (.iinc 3 1, 3)), (20, (.goto (-14), 3)), (23, (.iload_n 2, 1)), (24, (.bipush 27, 2)), (26, (.irem, 1)), (27, (.ireturn, 1))]
theorem dsX11_letterOf_0_ok : (dsX11_letterOf_0.all fun q => decide (decode cX11_letterOf q.1 = .ok q.2)) = true := by decide +kernel
theorem dX11_letterOf_0 : decode cX11_letterOf 0 = .ok (.iload_n 0, 1) := of_decide_eq_true (List.all_eq_true.mp dsX11_letterOf_0_ok (0, (.iload_n 0, 1)) (List.mem_of_getElem? (i := 0) rfl))
theorem dX11_letterOf_1 : decode cX11_letterOf 1 = .ok (.istore_n 2, 1) := of_decide_eq_true (List.all_eq_true.mp dsX11_letterOf_0_ok (1, (.istore_n 2, 1)) (List.mem_of_getElem? (i := 1) rfl))
theorem dX11_letterOf_2 : decode cX11_letterOf 2 = .ok (.iload_n 1, 1) := of_decide_eq_true (List.all_eq_true.mp dsX11_letterOf_0_ok (2, (.iload_n 1, 1)) (List.mem_of_getElem? (i := 2) rfl))
theorem dX11_letterOf_3 : decode cX11_letterOf 3 = .ok (.iconst 1, 1) := of_decide_eq_true (List.all_eq_true.mp dsX11_letterOf_0_ok (3, (.iconst 1, 1)) (List.mem_of_getElem? (i := 3) rfl))
theorem dX11_letterOf_4 : decode cX11_letterOf 4 = .ok (.iadd, 1) := of_decide_eq_true (List.all_eq_true.mp dsX11_letterOf_0_ok (4, (.iadd, 1)) (List.mem_of_getElem? (i := 4) rfl))
theorem dX11_letterOf_5 : decode cX11_letterOf 5 = .ok (.istore_n 3, 1) := of_decide_eq_true (List.all_eq_true.mp dsX11_letterOf_0_ok (5, (.istore_n 3, 1)) (List.mem_of_getElem? (i := 5) rfl))
theorem dX11_letterOf_6 : decode cX11_letterOf 6 = .ok (.iload_n 3, 1) := of_decide_eq_true (List.all_eq_true.mp dsX11_letterOf_0_ok (6, (.iload_n 3, 1)) (List.mem_of_getElem? (i := 6) rfl))
theorem dX11_letterOf_7 : decode cX11_letterOf 7 = .ok (.bipush 6, 2) := of_decide_eq_true (List.all_eq_true.mp dsX11_letterOf_0_ok (7, (.bipush 6, 2)) (List.mem_of_getElem? (i := 7) rfl))
theorem dX11_letterOf_9 : decode cX11_letterOf 9 = .ok (.if_icmp .ge 14, 3) := of_decide_eq_true (List.all_eq_true.mp dsX11_letterOf_0_ok (9, (.if_icmp .ge 14, 3)) (List.mem_of_getElem? (i := 8) rfl))
theorem dX11_letterOf_12 : decode cX11_letterOf 12 = .ok (.iload_n 2, 1) := of_decide_eq_true (List.all_eq_true.mp dsX11_letterOf_0_ok (12, (.iload_n 2, 1)) (List.mem_of_getElem? (i := 9) rfl))
theorem dX11_letterOf_13 : decode cX11_letterOf 13 = .ok (.bipush 27, 2) := of_decide_eq_true (List.all_eq_true.mp dsX11_letterOf_0_ok (13, (.bipush 27, 2)) (List.mem_of_getElem? (i := 10) rfl))
theorem dX11_letterOf_15 : decode cX11_letterOf 15 = .ok (.idiv, 1) := of_decide_eq_true (List.all_eq_true.mp dsX11_letterOf_0_ok (15, (.idiv, 1)) (List.mem_of_getElem? (i := 11) rfl))
theorem dX11_letterOf_16 : decode cX11_letterOf 16 = .ok (.istore_n 2, 1) := of_decide_eq_true (List.all_eq_true.mp dsX11_letterOf_0_ok (16, (.istore_n 2, 1)) (List.mem_of_getElem? (i := 12) rfl))
theorem dX11_letterOf_17 : decode cX11_letterOf 17 = .ok (.iinc 3 1, 3) := of_decide_eq_true (List.all_eq_true.mp dsX11_letterOf_0_ok (17, (.iinc 3 1, 3)) (List.mem_of_getElem? (i := 13) rfl))
theorem dX11_letterOf_20 : decode cX11_letterOf 20 = .ok (.goto (-14), 3) := of_decide_eq_true (List.all_eq_true.mp dsX11_letterOf_0_ok (20, (.goto (-14), 3)) (List.mem_of_getElem? (i := 14) rfl))
theorem dX11_letterOf_23 : decode cX11_letterOf 23 = .ok (.iload_n 2, 1) := of_decide_eq_true (List.all_eq_true.mp dsX11_letterOf_0_ok (23, (.iload_n 2, 1)) (List.mem_of_getElem? (i := 15) rfl))
theorem dX11_letterOf_24 : decode cX11_letterOf 24 = .ok (.bipush 27, 2) := of_decide_eq_true (List.all_eq_true.mp dsX11_letterOf_0_ok (24, (.bipush 27, 2)) (List.mem_of_getElem? (i := 16) rfl))
theorem dX11_letterOf_26 : decode cX11_letterOf 26 = .ok (.irem, 1) := of_decide_eq_true (List.all_eq_true.mp dsX11_letterOf_0_ok (26, (.irem, 1)) (List.mem_of_getElem? (i := 17) rfl))
theorem dX11_letterOf_27 : decode cX11_letterOf 27 = .ok (.ireturn, 1) := of_decide_eq_true (List.all_eq_true.mp dsX11_letterOf_0_ok (27, (.ireturn, 1)) (List.mem_of_getElem? (i := 18) rfl))
def fX11_letterOf_l6 (N : Nat)   (k6 : (Int32 × Int32) → Option (Int32)) : (Int32 × Int32) → Option (Int32) :=
  fun (x2_6, x3_6) => (if 6 ≤ x3_6 then (xq_bd (xq_rm x2_6 27) fun v_1 => some v_1) else (xq_bd (xq_dv x2_6 27) fun v_2 => k6 (v_2, x3_6 + 1)))
def fX11_letterOf (N : Nat)   (p0 : Int32) (p1 : Int32) : Option (Int32) :=
  xq_loop (fX11_letterOf_l6 N) N (p0, p1 + 1)
set_option maxHeartbeats 4000000 in
set_option maxRecDepth 100000 in
theorem kX11_letterOf (l : Launch) (dC : Nat → ClassId) (dI : Nat → Nat → Nat) (cI cB cJ cZ cM : ClassId) (z : Nat) (ad : Nat → Nat) (N : Nat) (p0 : Int32) (p1 : Int32) {r0 : Int32} (hf : fX11_letterOf N p0 p1 = some r0) : xq_Ct l yX11_letterOf wsX11_letterOf { frames := 0, cells := 0, slots := 0, locals := 0 } (dC, dI) vwCl (xq_tys cI cB cJ cZ cM) z ad [.int p0, .int p1] [] [] (some (.int r0)) := by
  intro sz
  refine Met.ofW (cc := cX11_letterOf) (maxL := 4) (ret := (some .int)) (by decide) rfl ?_
  intro p e s m args below meth c s₁ B hml hv
  obtain ⟨rfl, hsz, hP, hK, hD0, hE, hz⟩ := hv
  have hx := B.exec
  have hb := B.bytes
  have hr := B.returns
  have hts := atoms_spec (ws := wsX11_letterOf) B.pre
  have hown : s.vm.findClass RX11 = some m.cls := findClass_of_methodNamed B.named
  have hlocks := B.notSynchronized
  subst hsz
  have hD := hD0.self (sz := s.heap.size)
  have hN := xq_Env.of hE hz hD0
  generalize hAe : va_A [] s.heap.size = A at hD hN ⊢
  have hA : ∀ q : Nat, s.heap.size ≤ q → A q := fun q h => by rw [← hAe]; exact Or.inr h
  clear hAe hD0
  have hS : va_S A s.heap s.heap [] := va_S.rf
  have hl := lv_entry ([.int p0, .int p1]) (n := 4) (Nat.le_of_ble_eq_true rfl)
  rw [lg_entry_eq]
  generalize (lg_sl ([.int p0, .int p1]) ++ List.replicate (4 - (lg_sl ([.int p0, .int p1])).length) Slot.unset).toArray = ls at hl ⊢
  have hl : lv_has ls 4 [(0, .int p0), (1, .int p1)] := hl
  have l6 : ∀ n6 : Nat, ∀ (x2_6 : Int32) (x3_6 : Int32) (ls : Array Slot) (H : Heap) (locs : List Loc), xq_loop (fX11_letterOf_l6 N) n6 (x2_6, x3_6) = some r0 → va_P (dC, dI) vwCl [] H → va_D A [] → va_S A s.heap H locs → lv_has ls 4 [(2, .int x2_6), (3, .int x3_6)] → W p l e (headSpec wsX11_letterOf { frames := 0, cells := 0, slots := 0, locals := 0 }).room s m [.int p0, .int p1].toArray below meth c H locs 0 0 (MQ below (xq_Q (dC, dI) vwCl (xq_tys cI cB cJ cZ cM) A [] (some (.int r0))) [.int p0, .int p1].toArray s 0 0 A) (F0 m 6 ls []) := by
    intro n6
    induction n6 with
    | zero => intro x2_6 x3_6 ls H locs hf; cases (show none = some r0 from hf)
    | succ n6 ih6 =>
      intro x2_6 x3_6 ls H locs hf hP hD hS hl
      have hf : fX11_letterOf_l6 N (xq_loop (fX11_letterOf_l6 N) n6) (x2_6, x3_6) = some r0 := hf
      unfold fX11_letterOf_l6 at hf
      refine lv_iload_n hx hb dX11_letterOf_6 rfl (lv_at hl 1 rfl) ?_
      refine lv_bipush (v := 6) hx hb dX11_letterOf_7 (by decide) ?_
      refine lv_icmp_ge (tgt := 23) hx hb dX11_letterOf_9 (by decide) (fun c_ => ?_) (fun c_ => ?_)
      · have hf := xq_pos hf c_
        refine lv_iload_n hx hb dX11_letterOf_23 rfl (lv_at hl 0 rfl) ?_
        refine lv_bipush (v := 27) hx hb dX11_letterOf_24 (by decide) ?_
        refine xq_irem hx hb hf dX11_letterOf_26 (fun v_1 hf => ?_)
        cases hf
        exact xq_iret hx hb hr hlocks hK hP hD hS dX11_letterOf_27
      · have hf := xq_neg hf c_
        refine lv_iload_n hx hb dX11_letterOf_12 rfl (lv_at hl 0 rfl) ?_
        refine lv_bipush (v := 27) hx hb dX11_letterOf_13 (by decide) ?_
        refine xq_idiv hx hb hf dX11_letterOf_15 (fun v_2 hf => ?_)
        refine lv_istore_n (lv' := [(2, .int v_2), (3, .int x3_6)]) hx hb dX11_letterOf_16 rfl hl (by decide) rfl (fun ls hl => ?_)
        refine lv_iinc (v := x3_6 + 1) (lv' := [(3, .int (x3_6 + 1)), (2, .int v_2)]) hx hb dX11_letterOf_17 hl (k := 1) rfl (congrArg (fun q9 => x3_6 + q9) (by decide : Int32.ofInt 1 = 1)) (by decide) rfl (fun ls hl => ?_)
        refine lv_goto (tgt := 6) hx hb dX11_letterOf_20 (by decide) ?_
        exact ih6 v_2 (x3_6 + 1) _ _ _ hf hP hD hS (lv_sub hl [1, 0] rfl)
  unfold fX11_letterOf at hf
  refine lv_iload_n hx hb dX11_letterOf_0 rfl (lv_at hl 0 rfl) ?_
  refine lv_istore_n (lv' := [(2, .int p0), (0, .int p0), (1, .int p1)]) hx hb dX11_letterOf_1 rfl hl (by decide) rfl (fun ls hl => ?_)
  refine lv_iload_n hx hb dX11_letterOf_2 rfl (lv_at hl 2 rfl) ?_
  refine lv_iconst (v := 1) hx hb dX11_letterOf_3 (by decide) ?_
  refine lv_iadd hx hb dX11_letterOf_4 ?_
  refine lv_istore_n (lv' := [(3, .int (p1 + 1)), (2, .int p0), (0, .int p0), (1, .int p1)]) hx hb dX11_letterOf_5 rfl hl (by decide) rfl (fun ls hl => ?_)
  exact l6 N p0 (p1 + 1) _ _ _ hf hP hD hS (lv_sub hl [1, 0] rfl)
set_option maxRecDepth 20000 in
theorem ggX11_comes_X11_hasHouse : GoodIn wsX11_comes wsX11_hasHouse := goodIn_r _ [6, 7, 8, 9, 10, 11, 12, 13, 14, 15, 16, 17, 18, 19, 20, 21, 22, 31, 32, 33, 34, 35, 36, 37, 38, 39, 40, 41, 42, 43, 44, 45, 46, 47, 48, 49] rfl (by decide +kernel)
set_option maxRecDepth 20000 in
theorem gX11_comes_X11_hasHouse : GoodIn wsX11_comes (wsV RX11 212 RX11 yX11_hasHouse wsX11_hasHouse) := goodIn_app (goodIn_of _ (by decide +kernel)) ggX11_comes_X11_hasHouse
def dsX11_comes_0 : List (Nat × Instr × Nat) := [(0, (.aload_n 0, 1)), (1, (.invokevirtual 212, 3)), (4, (.ifCond .eq 32, 3)), (7, (.iload_n 1, 1)), (8, (.iload_n 2, 1)), (9, (.if_icmp .lt 27, 3)), (12, (.iload_n 1, 1)), (13, (.iload_n 3, 1)), (14, (.if_icmp .gt 22, 3)), (17, (.iload_n 1, 1)), (18, (.sipush 999, 3)), (21, (.aload_n 0, 1)), (22, (.getfield 19, 3)), (25, (.getfield 150, 3)), (28, (.isub, 1)), (29, (.if_icmp .gt 7, 3)), (32, (.iconst 1, 1)), (33, (.goto 4, 3)), (36, (.iconst 0, 1)), (37, (.ireturn, 1))]
theorem dsX11_comes_0_ok : (dsX11_comes_0.all fun q => decide (decode cX11_comes q.1 = .ok q.2)) = true := by decide +kernel
theorem dX11_comes_0 : decode cX11_comes 0 = .ok (.aload_n 0, 1) := of_decide_eq_true (List.all_eq_true.mp dsX11_comes_0_ok (0, (.aload_n 0, 1)) (List.mem_of_getElem? (i := 0) rfl))
theorem dX11_comes_1 : decode cX11_comes 1 = .ok (.invokevirtual 212, 3) := of_decide_eq_true (List.all_eq_true.mp dsX11_comes_0_ok (1, (.invokevirtual 212, 3)) (List.mem_of_getElem? (i := 1) rfl))
theorem dX11_comes_4 : decode cX11_comes 4 = .ok (.ifCond .eq 32, 3) := of_decide_eq_true (List.all_eq_true.mp dsX11_comes_0_ok (4, (.ifCond .eq 32, 3)) (List.mem_of_getElem? (i := 2) rfl))
theorem dX11_comes_7 : decode cX11_comes 7 = .ok (.iload_n 1, 1) := of_decide_eq_true (List.all_eq_true.mp dsX11_comes_0_ok (7, (.iload_n 1, 1)) (List.mem_of_getElem? (i := 3) rfl))
theorem dX11_comes_8 : decode cX11_comes 8 = .ok (.iload_n 2, 1) := of_decide_eq_true (List.all_eq_true.mp dsX11_comes_0_ok (8, (.iload_n 2, 1)) (List.mem_of_getElem? (i := 4) rfl))
theorem dX11_comes_9 : decode cX11_comes 9 = .ok (.if_icmp .lt 27, 3) := of_decide_eq_true (List.all_eq_true.mp dsX11_comes_0_ok (9, (.if_icmp .lt 27, 3)) (List.mem_of_getElem? (i := 5) rfl))
theorem dX11_comes_12 : decode cX11_comes 12 = .ok (.iload_n 1, 1) := of_decide_eq_true (List.all_eq_true.mp dsX11_comes_0_ok (12, (.iload_n 1, 1)) (List.mem_of_getElem? (i := 6) rfl))
theorem dX11_comes_13 : decode cX11_comes 13 = .ok (.iload_n 3, 1) := of_decide_eq_true (List.all_eq_true.mp dsX11_comes_0_ok (13, (.iload_n 3, 1)) (List.mem_of_getElem? (i := 7) rfl))
theorem dX11_comes_14 : decode cX11_comes 14 = .ok (.if_icmp .gt 22, 3) := of_decide_eq_true (List.all_eq_true.mp dsX11_comes_0_ok (14, (.if_icmp .gt 22, 3)) (List.mem_of_getElem? (i := 8) rfl))
theorem dX11_comes_17 : decode cX11_comes 17 = .ok (.iload_n 1, 1) := of_decide_eq_true (List.all_eq_true.mp dsX11_comes_0_ok (17, (.iload_n 1, 1)) (List.mem_of_getElem? (i := 9) rfl))
theorem dX11_comes_18 : decode cX11_comes 18 = .ok (.sipush 999, 3) := of_decide_eq_true (List.all_eq_true.mp dsX11_comes_0_ok (18, (.sipush 999, 3)) (List.mem_of_getElem? (i := 10) rfl))
theorem dX11_comes_21 : decode cX11_comes 21 = .ok (.aload_n 0, 1) := of_decide_eq_true (List.all_eq_true.mp dsX11_comes_0_ok (21, (.aload_n 0, 1)) (List.mem_of_getElem? (i := 11) rfl))
theorem dX11_comes_22 : decode cX11_comes 22 = .ok (.getfield 19, 3) := of_decide_eq_true (List.all_eq_true.mp dsX11_comes_0_ok (22, (.getfield 19, 3)) (List.mem_of_getElem? (i := 12) rfl))
theorem dX11_comes_25 : decode cX11_comes 25 = .ok (.getfield 150, 3) := of_decide_eq_true (List.all_eq_true.mp dsX11_comes_0_ok (25, (.getfield 150, 3)) (List.mem_of_getElem? (i := 13) rfl))
theorem dX11_comes_28 : decode cX11_comes 28 = .ok (.isub, 1) := of_decide_eq_true (List.all_eq_true.mp dsX11_comes_0_ok (28, (.isub, 1)) (List.mem_of_getElem? (i := 14) rfl))
theorem dX11_comes_29 : decode cX11_comes 29 = .ok (.if_icmp .gt 7, 3) := of_decide_eq_true (List.all_eq_true.mp dsX11_comes_0_ok (29, (.if_icmp .gt 7, 3)) (List.mem_of_getElem? (i := 15) rfl))
theorem dX11_comes_32 : decode cX11_comes 32 = .ok (.iconst 1, 1) := of_decide_eq_true (List.all_eq_true.mp dsX11_comes_0_ok (32, (.iconst 1, 1)) (List.mem_of_getElem? (i := 16) rfl))
theorem dX11_comes_33 : decode cX11_comes 33 = .ok (.goto 4, 3) := of_decide_eq_true (List.all_eq_true.mp dsX11_comes_0_ok (33, (.goto 4, 3)) (List.mem_of_getElem? (i := 17) rfl))
theorem dX11_comes_36 : decode cX11_comes 36 = .ok (.iconst 0, 1) := of_decide_eq_true (List.all_eq_true.mp dsX11_comes_0_ok (36, (.iconst 0, 1)) (List.mem_of_getElem? (i := 18) rfl))
theorem dX11_comes_37 : decode cX11_comes 37 = .ok (.ireturn, 1) := of_decide_eq_true (List.all_eq_true.mp dsX11_comes_0_ok (37, (.ireturn, 1)) (List.mem_of_getElem? (i := 19) rfl))
def fX11_comes (N : Nat) (homeI : Nat → Int32) (nowI : Nat → Int32)  (p1 : Int32) (p2 : Int32) (p3 : Int32) : Option (Int32) :=
  (xq_bd (fX11_hasHouse N homeI) fun r_1 => (if r_1 = 0 then some 0 else (if p1 < p2 then some 0 else (if p3 < p1 then some 0 else (if (999 - (nowI 0)) < p1 then some 0 else some 1)))))
set_option maxHeartbeats 4000000 in
set_option maxRecDepth 100000 in
theorem kX11_comes (l : Launch) (dC : Nat → ClassId) (dI : Nat → Nat → Nat) (cI cB cJ cZ cM : ClassId) (z : Nat) (ad : Nat → Nat) (N : Nat) (a_p0 : Nat) (dvI : Nat → Int32) (dvR : Nat → Nat) (homeI : Nat → Int32) (homeR : Nat → Nat) (nowI : Nat → Int32) (nowR : Nat → Nat) (p1 : Int32) (p2 : Int32) (p3 : Int32) {r0 : Int32} (hf : fX11_comes N homeI nowI p1 p2 p3 = some r0) : xq_Ct l yX11_comes wsX11_comes { frames := 1, cells := 0, slots := 0, locals := 20 } (dC, dI) vwCl (xq_tys cI cB cJ cZ cM) z ad [.ref a_p0, .int p1, .int p2, .int p3] [(a_p0, .inr (11, oX11 dvI dvR)), ((dvR 10), .inr (2, oX2 homeI homeR)), ((dvR 1), .inr (6, oX6 nowI nowR))] [(a_p0, .inr (11, oX11 dvI dvR)), ((dvR 10), .inr (2, oX2 homeI homeR)), ((dvR 1), .inr (6, oX6 nowI nowR))] (some (.int r0)) := by
  intro sz
  refine Met.ofW (cc := cX11_comes) (maxL := 4) (ret := (some .boolean)) (by decide) rfl ?_
  intro p e s m args below meth c s₁ B hml hv
  obtain ⟨rfl, hsz, hP, hK, hD0, hE, hz⟩ := hv
  have hx := B.exec
  have hb := B.bytes
  have hr := B.returns
  have hts := atoms_spec (ws := wsX11_comes) B.pre
  have hown : s.vm.findClass RX11 = some m.cls := findClass_of_methodNamed B.named
  have hlocks := B.notSynchronized
  subst hsz
  have hD := hD0.self (sz := s.heap.size)
  have hN := xq_Env.of hE hz hD0
  generalize hAe : va_A [(a_p0, .inr (11, oX11 dvI dvR)), ((dvR 10), .inr (2, oX2 homeI homeR)), ((dvR 1), .inr (6, oX6 nowI nowR))] s.heap.size = A at hD hN ⊢
  have hA : ∀ q : Nat, s.heap.size ≤ q → A q := fun q h => by rw [← hAe]; exact Or.inr h
  clear hAe hD0
  have hS : va_S A s.heap s.heap [] := va_S.rf
  have hl := lv_entry ([.ref a_p0, .int p1, .int p2, .int p3]) (n := 4) (Nat.le_of_ble_eq_true rfl)
  rw [lg_entry_eq]
  generalize (lg_sl ([.ref a_p0, .int p1, .int p2, .int p3]) ++ List.replicate (4 - (lg_sl ([.ref a_p0, .int p1, .int p2, .int p3])).length) Slot.unset).toArray = ls at hl ⊢
  have hl : lv_has ls 4 [(0, .ref a_p0), (1, .int p1), (2, .int p2), (3, .int p3)] := hl
  have hw0 := hts (.fieldLink RX11 19 "DistantVoice" "now" "LDistantVoice$Moment;") (by decide +kernel)
  have hinX11 : ∀ w ∈ wsX110, w ∈ wsX11_comes := fun w h => List.mem_cons_of_mem _ (List.mem_append_left _ (List.mem_append_left _ (List.mem_append_right _ h)))
  have hnf5 := va_Nw.use (A := [.ref a_p0, .int p1, .int p2, .int p3].toArray) rfl (hN.1.1.1 ("DistantVoice", 150, "DistantVoice$Moment", "night", "I", "DistantVoice") (List.mem_of_getElem? (i := 5) rfl))
  have hinX6 : ∀ w ∈ wsX60, w ∈ wsX11_comes := fun w h => List.mem_cons_of_mem _ (List.mem_append_left _ (List.mem_append_right _ h))
  unfold fX11_comes at hf
  refine lv_aload_n hx hb dX11_comes_0 rfl (lv_at hl 0 rfl) ?_
  obtain ⟨r_1, h_2, hf⟩ := xq_bd_some hf
  refine xq_callV (As := []) (rest := []) (ci := 11) (q0 := 0) ⟨hx, hb, hml, hown, hts⟩ (kX11_hasHouse l dC dI cI cB cJ cZ cM z ad N a_p0 dvI dvR homeI homeR h_2) (cwV 0 hts gX11_comes_X11_hasHouse rfl rfl rfl (by decide +kernel) ⟨Nat.le_of_ble_eq_true rfl, Nat.le_of_ble_eq_true rfl⟩) hN hK hP hD hS hA [0, 1] (by decide) rfl rfl rfl rfl rfl rfl hl.1 rfl (Nat.le_of_ble_eq_true rfl) dX11_comes_1 ⟨Nat.zero_le _, Nat.zero_le _⟩ (fun H locs hP hD hS => ?_)
  have hP : va_P (dC, dI) vwCl [(a_p0, .inr (11, oX11 dvI dvR)), ((dvR 10), .inr (2, oX2 homeI homeR)), ((dvR 1), .inr (6, oX6 nowI nowR))] H := hP
  have hD : va_D A [(a_p0, .inr (11, oX11 dvI dvR)), ((dvR 10), .inr (2, oX2 homeI homeR)), ((dvR 1), .inr (6, oX6 nowI nowR))] := hD
  refine W.eq (g2 := F0 m 4 ls [.int r_1]) rfl ?_
  refine lv_if_eq (tgt := 36) hx hb dX11_comes_4 (by decide) (fun c_ => ?_) (fun c_ => ?_)
  · have hf := xq_pos hf c_
    refine lv_iconst (v := 0) hx hb dX11_comes_36 (by decide) ?_
    cases hf
    exact xq_zret hx hb hr (by decide +kernel) hlocks hK hP hD hS dX11_comes_37
  · have hf := xq_neg hf c_
    refine lv_iload_n hx hb dX11_comes_7 rfl (lv_at hl 1 rfl) ?_
    refine lv_iload_n hx hb dX11_comes_8 rfl (lv_at hl 2 rfl) ?_
    refine lv_icmp_lt (tgt := 36) hx hb dX11_comes_9 (by decide) (fun c_ => ?_) (fun c_ => ?_)
    · have hf := xq_pos hf c_
      refine lv_iconst (v := 0) hx hb dX11_comes_36 (by decide) ?_
      cases hf
      exact xq_zret hx hb hr (by decide +kernel) hlocks hK hP hD hS dX11_comes_37
    · have hf := xq_neg hf c_
      refine lv_iload_n hx hb dX11_comes_12 rfl (lv_at hl 1 rfl) ?_
      refine lv_iload_n hx hb dX11_comes_13 rfl (lv_at hl 3 rfl) ?_
      refine lv_icmp_gt (tgt := 36) hx hb dX11_comes_14 (by decide) (fun c_ => ?_) (fun c_ => ?_)
      · have hf := xq_pos hf c_
        refine lv_iconst (v := 0) hx hb dX11_comes_36 (by decide) ?_
        cases hf
        exact xq_zret hx hb hr (by decide +kernel) hlocks hK hP hD hS dX11_comes_37
      · have hf := xq_neg hf c_
        refine lv_iload_n hx hb dX11_comes_17 rfl (lv_at hl 1 rfl) ?_
        refine lv_sipush (v := 999) hx hb dX11_comes_18 (by decide) ?_
        refine lv_aload_n hx hb dX11_comes_21 rfl (lv_at hl 0 rfl) ?_
        refine va_get (D := (dC, dI)) (ci := 11) (v := .ref ((dvR 1))) (C := RX11) (T := TX11) (N := 15) hx hb hts hinX11 hown hK hP 0 rfl rfl 1 (by decide) hw0 (fun _ h9 => h9) rfl dX11_comes_22 ?_
        refine va_getN (D := (dC, dI)) (ci := 6) (v := .int (nowI 0)) (C := RX6) (T := TX6) (N := 8) hx hb hts hinX6 hown hK hP 2 rfl rfl 0 (by decide) hnf5 (fun _ h9 => h9) rfl dX11_comes_25 ?_
        refine lv_isub hx hb dX11_comes_28 ?_
        refine lv_icmp_gt (tgt := 36) hx hb dX11_comes_29 (by decide) (fun c_ => ?_) (fun c_ => ?_)
        · have hf := xq_pos hf c_
          refine lv_iconst (v := 0) hx hb dX11_comes_36 (by decide) ?_
          cases hf
          exact xq_zret hx hb hr (by decide +kernel) hlocks hK hP hD hS dX11_comes_37
        · have hf := xq_neg hf c_
          refine lv_iconst (v := 1) hx hb dX11_comes_32 (by decide) ?_
          refine lv_goto (tgt := 37) hx hb dX11_comes_33 (by decide) ?_
          cases hf
          exact xq_zret hx hb hr (by decide +kernel) hlocks hK hP hD hS dX11_comes_37
def dsX11_timesHeard_0 : List (Nat × Instr × Nat) := [(0, (.iconst 0, 1)), (1, (.istore_n 3, 1)), (2, (.iconst 0, 1)), (3, (.istore 4, 2)), (5, (.iload 4, 2)), (7, (.iload_n 2, 1)), (8, (.if_icmp .ge 33, 3)), (11, (.iload 4, 2)), (13, (.aload_n 0, 1)), (14, (.getfield 54, 3)), (17, (.arraylength, 1)), (18, (.if_icmp .ge 23, 3)), (21, (.iload_n 3, 1)), (22, (.aload_n 0, 1)), (23, (.getfield 54, 3)), (26, (.iload 4, 2)), (28, (.iaload, 1)), (29, (.iload_n 1, 1)), (30, (.ishr, 1)), (31, (.iconst 1, 1)), (32, (.iand, 1)), (33, (.iadd, 1)), (34, (.istore_n 3, 1)), (35, (.iinc 4 1, 3)), (38, (.goto (-33), 3)), (41, (.iload_n 3, 1)), (42, (.ireturn, 1))]
theorem dsX11_timesHeard_0_ok : (dsX11_timesHeard_0.all fun q => decide (decode cX11_timesHeard q.1 = .ok q.2)) = true := by decide +kernel
theorem dX11_timesHeard_0 : decode cX11_timesHeard 0 = .ok (.iconst 0, 1) := of_decide_eq_true (List.all_eq_true.mp dsX11_timesHeard_0_ok (0, (.iconst 0, 1)) (List.mem_of_getElem? (i := 0) rfl))
theorem dX11_timesHeard_1 : decode cX11_timesHeard 1 = .ok (.istore_n 3, 1) := of_decide_eq_true (List.all_eq_true.mp dsX11_timesHeard_0_ok (1, (.istore_n 3, 1)) (List.mem_of_getElem? (i := 1) rfl))
theorem dX11_timesHeard_2 : decode cX11_timesHeard 2 = .ok (.iconst 0, 1) := of_decide_eq_true (List.all_eq_true.mp dsX11_timesHeard_0_ok (2, (.iconst 0, 1)) (List.mem_of_getElem? (i := 2) rfl))
theorem dX11_timesHeard_3 : decode cX11_timesHeard 3 = .ok (.istore 4, 2) := of_decide_eq_true (List.all_eq_true.mp dsX11_timesHeard_0_ok (3, (.istore 4, 2)) (List.mem_of_getElem? (i := 3) rfl))
theorem dX11_timesHeard_5 : decode cX11_timesHeard 5 = .ok (.iload 4, 2) := of_decide_eq_true (List.all_eq_true.mp dsX11_timesHeard_0_ok (5, (.iload 4, 2)) (List.mem_of_getElem? (i := 4) rfl))
theorem dX11_timesHeard_7 : decode cX11_timesHeard 7 = .ok (.iload_n 2, 1) := of_decide_eq_true (List.all_eq_true.mp dsX11_timesHeard_0_ok (7, (.iload_n 2, 1)) (List.mem_of_getElem? (i := 5) rfl))
theorem dX11_timesHeard_8 : decode cX11_timesHeard 8 = .ok (.if_icmp .ge 33, 3) := of_decide_eq_true (List.all_eq_true.mp dsX11_timesHeard_0_ok (8, (.if_icmp .ge 33, 3)) (List.mem_of_getElem? (i := 6) rfl))
theorem dX11_timesHeard_11 : decode cX11_timesHeard 11 = .ok (.iload 4, 2) := of_decide_eq_true (List.all_eq_true.mp dsX11_timesHeard_0_ok (11, (.iload 4, 2)) (List.mem_of_getElem? (i := 7) rfl))
theorem dX11_timesHeard_13 : decode cX11_timesHeard 13 = .ok (.aload_n 0, 1) := of_decide_eq_true (List.all_eq_true.mp dsX11_timesHeard_0_ok (13, (.aload_n 0, 1)) (List.mem_of_getElem? (i := 8) rfl))
theorem dX11_timesHeard_14 : decode cX11_timesHeard 14 = .ok (.getfield 54, 3) := of_decide_eq_true (List.all_eq_true.mp dsX11_timesHeard_0_ok (14, (.getfield 54, 3)) (List.mem_of_getElem? (i := 9) rfl))
theorem dX11_timesHeard_17 : decode cX11_timesHeard 17 = .ok (.arraylength, 1) := of_decide_eq_true (List.all_eq_true.mp dsX11_timesHeard_0_ok (17, (.arraylength, 1)) (List.mem_of_getElem? (i := 10) rfl))
theorem dX11_timesHeard_18 : decode cX11_timesHeard 18 = .ok (.if_icmp .ge 23, 3) := of_decide_eq_true (List.all_eq_true.mp dsX11_timesHeard_0_ok (18, (.if_icmp .ge 23, 3)) (List.mem_of_getElem? (i := 11) rfl))
theorem dX11_timesHeard_21 : decode cX11_timesHeard 21 = .ok (.iload_n 3, 1) := of_decide_eq_true (List.all_eq_true.mp dsX11_timesHeard_0_ok (21, (.iload_n 3, 1)) (List.mem_of_getElem? (i := 12) rfl))
theorem dX11_timesHeard_22 : decode cX11_timesHeard 22 = .ok (.aload_n 0, 1) := of_decide_eq_true (List.all_eq_true.mp dsX11_timesHeard_0_ok (22, (.aload_n 0, 1)) (List.mem_of_getElem? (i := 13) rfl))
theorem dX11_timesHeard_23 : decode cX11_timesHeard 23 = .ok (.getfield 54, 3) := of_decide_eq_true (List.all_eq_true.mp dsX11_timesHeard_0_ok (23, (.getfield 54, 3)) (List.mem_of_getElem? (i := 14) rfl))
theorem dX11_timesHeard_26 : decode cX11_timesHeard 26 = .ok (.iload 4, 2) := of_decide_eq_true (List.all_eq_true.mp dsX11_timesHeard_0_ok (26, (.iload 4, 2)) (List.mem_of_getElem? (i := 15) rfl))
theorem dX11_timesHeard_28 : decode cX11_timesHeard 28 = .ok (.iaload, 1) := of_decide_eq_true (List.all_eq_true.mp dsX11_timesHeard_0_ok (28, (.iaload, 1)) (List.mem_of_getElem? (i := 16) rfl))
theorem dX11_timesHeard_29 : decode cX11_timesHeard 29 = .ok (.iload_n 1, 1) := of_decide_eq_true (List.all_eq_true.mp dsX11_timesHeard_0_ok (29, (.iload_n 1, 1)) (List.mem_of_getElem? (i := 17) rfl))
theorem dX11_timesHeard_30 : decode cX11_timesHeard 30 = .ok (.ishr, 1) := of_decide_eq_true (List.all_eq_true.mp dsX11_timesHeard_0_ok (30, (.ishr, 1)) (List.mem_of_getElem? (i := 18) rfl))
theorem dX11_timesHeard_31 : decode cX11_timesHeard 31 = .ok (.iconst 1, 1) := of_decide_eq_true (List.all_eq_true.mp dsX11_timesHeard_0_ok (31, (.iconst 1, 1)) (List.mem_of_getElem? (i := 19) rfl))
theorem dX11_timesHeard_32 : decode cX11_timesHeard 32 = .ok (.iand, 1) := of_decide_eq_true (List.all_eq_true.mp dsX11_timesHeard_0_ok (32, (.iand, 1)) (List.mem_of_getElem? (i := 20) rfl))
theorem dX11_timesHeard_33 : decode cX11_timesHeard 33 = .ok (.iadd, 1) := of_decide_eq_true (List.all_eq_true.mp dsX11_timesHeard_0_ok (33, (.iadd, 1)) (List.mem_of_getElem? (i := 21) rfl))
theorem dX11_timesHeard_34 : decode cX11_timesHeard 34 = .ok (.istore_n 3, 1) := of_decide_eq_true (List.all_eq_true.mp dsX11_timesHeard_0_ok (34, (.istore_n 3, 1)) (List.mem_of_getElem? (i := 22) rfl))
theorem dX11_timesHeard_35 : decode cX11_timesHeard 35 = .ok (.iinc 4 1, 3) := of_decide_eq_true (List.all_eq_true.mp dsX11_timesHeard_0_ok (35, (.iinc 4 1, 3)) (List.mem_of_getElem? (i := 23) rfl))
theorem dX11_timesHeard_38 : decode cX11_timesHeard 38 = .ok (.goto (-33), 3) := of_decide_eq_true (List.all_eq_true.mp dsX11_timesHeard_0_ok (38, (.goto (-33), 3)) (List.mem_of_getElem? (i := 24) rfl))
theorem dX11_timesHeard_41 : decode cX11_timesHeard 41 = .ok (.iload_n 3, 1) := of_decide_eq_true (List.all_eq_true.mp dsX11_timesHeard_0_ok (41, (.iload_n 3, 1)) (List.mem_of_getElem? (i := 25) rfl))
theorem dX11_timesHeard_42 : decode cX11_timesHeard 42 = .ok (.ireturn, 1) := of_decide_eq_true (List.all_eq_true.mp dsX11_timesHeard_0_ok (42, (.ireturn, 1)) (List.mem_of_getElem? (i := 26) rfl))
def fX11_timesHeard_l5 (N : Nat) (dv_heardAheadF : Nat → Int32)  (k5 : (Int32 × Int32 × Int32 × Int32) → Option (Int32)) : (Int32 × Int32 × Int32 × Int32) → Option (Int32) :=
  fun (x1_5, x2_5, x3_5, x4_5) => (if x2_5 ≤ x4_5 then some x3_5 else (if 60 ≤ x4_5 then some x3_5 else (xq_bd (xq_ald 60 dv_heardAheadF x4_5) fun v_1 => k5 (x1_5, x2_5, x3_5 + ((v_1 >>> (x1_5 &&& 31)) &&& 1), x4_5 + 1))))
def fX11_timesHeard (N : Nat) (dv_heardAheadF : Nat → Int32)  (p1 : Int32) (p2 : Int32) : Option (Int32) :=
  xq_loop (fX11_timesHeard_l5 N dv_heardAheadF) N (p1, p2, 0, 0)
set_option maxHeartbeats 4000000 in
set_option maxRecDepth 100000 in
theorem kX11_timesHeard (l : Launch) (dC : Nat → ClassId) (dI : Nat → Nat → Nat) (cI cB cJ cZ cM : ClassId) (z : Nat) (ad : Nat → Nat) (N : Nat) (a_p0 : Nat) (dvI : Nat → Int32) (dvR : Nat → Nat) (dv_heardAheadF : Nat → Int32) (p1 : Int32) (p2 : Int32) {r0 : Int32} (hf : fX11_timesHeard N dv_heardAheadF p1 p2 = some r0) : xq_Ct l yX11_timesHeard wsX11_timesHeard { frames := 0, cells := 0, slots := 0, locals := 0 } (dC, dI) vwCl (xq_tys cI cB cJ cZ cM) z ad [.ref a_p0, .int p1, .int p2] [(a_p0, .inr (11, oX11 dvI dvR)), ((dvR 7), .inl (cI, 60, .inl dv_heardAheadF))] [(a_p0, .inr (11, oX11 dvI dvR)), ((dvR 7), .inl (cI, 60, .inl dv_heardAheadF))] (some (.int r0)) := by
  intro sz
  refine Met.ofW (cc := cX11_timesHeard) (maxL := 5) (ret := (some .int)) (by decide) rfl ?_
  intro p e s m args below meth c s₁ B hml hv
  obtain ⟨rfl, hsz, hP, hK, hD0, hE, hz⟩ := hv
  have hx := B.exec
  have hb := B.bytes
  have hr := B.returns
  have hts := atoms_spec (ws := wsX11_timesHeard) B.pre
  have hown : s.vm.findClass RX11 = some m.cls := findClass_of_methodNamed B.named
  have hlocks := B.notSynchronized
  subst hsz
  have hD := hD0.self (sz := s.heap.size)
  have hN := xq_Env.of hE hz hD0
  generalize hAe : va_A [(a_p0, .inr (11, oX11 dvI dvR)), ((dvR 7), .inl (cI, 60, .inl dv_heardAheadF))] s.heap.size = A at hD hN ⊢
  have hA : ∀ q : Nat, s.heap.size ≤ q → A q := fun q h => by rw [← hAe]; exact Or.inr h
  clear hAe hD0
  have hS : va_S A s.heap s.heap [] := va_S.rf
  have hl := lv_entry ([.ref a_p0, .int p1, .int p2]) (n := 5) (Nat.le_of_ble_eq_true rfl)
  rw [lg_entry_eq]
  generalize (lg_sl ([.ref a_p0, .int p1, .int p2]) ++ List.replicate (5 - (lg_sl ([.ref a_p0, .int p1, .int p2])).length) Slot.unset).toArray = ls at hl ⊢
  have hl : lv_has ls 5 [(0, .ref a_p0), (1, .int p1), (2, .int p2)] := hl
  have hw0 := hts (.fieldLink RX11 54 "DistantVoice" "heardAhead" "[I") (by decide +kernel)
  have hinX11 : ∀ w ∈ wsX110, w ∈ wsX11_timesHeard := fun w h => List.mem_cons_of_mem _ (List.mem_append_right _ h)
  have l5 : ∀ n5 : Nat, ∀ (x1_5 : Int32) (x2_5 : Int32) (x3_5 : Int32) (x4_5 : Int32) (ls : Array Slot) (H : Heap) (locs : List Loc), xq_loop (fX11_timesHeard_l5 N dv_heardAheadF) n5 (x1_5, x2_5, x3_5, x4_5) = some r0 → va_P (dC, dI) vwCl [(a_p0, .inr (11, oX11 dvI dvR)), ((dvR 7), .inl (cI, 60, .inl dv_heardAheadF))] H → va_D A [(a_p0, .inr (11, oX11 dvI dvR)), ((dvR 7), .inl (cI, 60, .inl dv_heardAheadF))] → va_S A s.heap H locs → lv_has ls 5 [(0, .ref a_p0), (1, .int x1_5), (2, .int x2_5), (3, .int x3_5), (4, .int x4_5)] → W p l e (headSpec wsX11_timesHeard { frames := 0, cells := 0, slots := 0, locals := 0 }).room s m [.ref a_p0, .int p1, .int p2].toArray below meth c H locs 0 0 (MQ below (xq_Q (dC, dI) vwCl (xq_tys cI cB cJ cZ cM) A [(a_p0, .inr (11, oX11 dvI dvR)), ((dvR 7), .inl (cI, 60, .inl dv_heardAheadF))] (some (.int r0))) [.ref a_p0, .int p1, .int p2].toArray s 0 0 A) (F0 m 5 ls []) := by
    intro n5
    induction n5 with
    | zero => intro x1_5 x2_5 x3_5 x4_5 ls H locs hf; cases (show none = some r0 from hf)
    | succ n5 ih5 =>
      intro x1_5 x2_5 x3_5 x4_5 ls H locs hf hP hD hS hl
      have hf : fX11_timesHeard_l5 N dv_heardAheadF (xq_loop (fX11_timesHeard_l5 N dv_heardAheadF) n5) (x1_5, x2_5, x3_5, x4_5) = some r0 := hf
      unfold fX11_timesHeard_l5 at hf
      refine lv_iload hx hb dX11_timesHeard_5 (lv_at hl 4 rfl) ?_
      refine lv_iload_n hx hb dX11_timesHeard_7 rfl (lv_at hl 2 rfl) ?_
      refine lv_icmp_ge (tgt := 41) hx hb dX11_timesHeard_8 (by decide) (fun c_ => ?_) (fun c_ => ?_)
      · have hf := xq_pos hf c_
        refine lv_iload_n hx hb dX11_timesHeard_41 rfl (lv_at hl 3 rfl) ?_
        cases hf
        exact xq_iret hx hb hr hlocks hK hP hD hS dX11_timesHeard_42
      · have hf := xq_neg hf c_
        refine lv_iload hx hb dX11_timesHeard_11 (lv_at hl 4 rfl) ?_
        refine lv_aload_n hx hb dX11_timesHeard_13 rfl (lv_at hl 0 rfl) ?_
        refine va_get (D := (dC, dI)) (ci := 11) (v := .ref ((dvR 7))) (C := RX11) (T := TX11) (N := 15) hx hb hts hinX11 hown hK hP 0 rfl rfl 7 (by decide) hw0 (fun _ h9 => h9) rfl dX11_timesHeard_14 ?_
        refine va_alen hx hb hK hP 1 0 (v := 60) rfl rfl rfl dX11_timesHeard_17 ?_
        refine lv_icmp_ge (tgt := 41) hx hb dX11_timesHeard_18 (by decide) (fun c_ => ?_) (fun c_ => ?_)
        · have hf := xq_pos hf c_
          refine lv_iload_n hx hb dX11_timesHeard_41 rfl (lv_at hl 3 rfl) ?_
          cases hf
          exact xq_iret hx hb hr hlocks hK hP hD hS dX11_timesHeard_42
        · have hf := xq_neg hf c_
          refine lv_iload_n hx hb dX11_timesHeard_21 rfl (lv_at hl 3 rfl) ?_
          refine lv_aload_n hx hb dX11_timesHeard_22 rfl (lv_at hl 0 rfl) ?_
          refine va_get (D := (dC, dI)) (ci := 11) (v := .ref ((dvR 7))) (C := RX11) (T := TX11) (N := 15) hx hb hts hinX11 hown hK hP 0 rfl rfl 7 (by decide) hw0 (fun _ h9 => h9) rfl dX11_timesHeard_23 ?_
          refine lv_iload hx hb dX11_timesHeard_26 (lv_at hl 4 rfl) ?_
          refine xq_iald hx hb hK hP 1 0 rfl rfl hf dX11_timesHeard_28 (fun v_1 hf => ?_)
          refine lv_iload_n hx hb dX11_timesHeard_29 rfl (lv_at hl 1 rfl) ?_
          refine lv_ishr hx hb dX11_timesHeard_30 ?_
          refine lv_iconst (v := 1) hx hb dX11_timesHeard_31 (by decide) ?_
          refine lv_iand hx hb dX11_timesHeard_32 ?_
          refine lv_iadd hx hb dX11_timesHeard_33 ?_
          refine lv_istore_n (lv' := [(3, .int (x3_5 + ((v_1 >>> (x1_5 &&& 31)) &&& 1))), (0, .ref a_p0), (1, .int x1_5), (2, .int x2_5), (4, .int x4_5)]) hx hb dX11_timesHeard_34 rfl hl (by decide) rfl (fun ls hl => ?_)
          refine lv_iinc (v := x4_5 + 1) (lv' := [(4, .int (x4_5 + 1)), (3, .int (x3_5 + ((v_1 >>> (x1_5 &&& 31)) &&& 1))), (0, .ref a_p0), (1, .int x1_5), (2, .int x2_5)]) hx hb dX11_timesHeard_35 hl (k := 4) rfl (congrArg (fun q9 => x4_5 + q9) (by decide : Int32.ofInt 1 = 1)) (by decide) rfl (fun ls hl => ?_)
          refine lv_goto (tgt := 5) hx hb dX11_timesHeard_38 (by decide) ?_
          exact ih5 x1_5 x2_5 (x3_5 + ((v_1 >>> (x1_5 &&& 31)) &&& 1)) (x4_5 + 1) _ _ _ hf hP hD hS (lv_sub hl [2, 3, 4, 1, 0] rfl)
  unfold fX11_timesHeard at hf
  refine lv_iconst (v := 0) hx hb dX11_timesHeard_0 (by decide) ?_
  refine lv_istore_n (lv' := [(3, .int 0), (0, .ref a_p0), (1, .int p1), (2, .int p2)]) hx hb dX11_timesHeard_1 rfl hl (by decide) rfl (fun ls hl => ?_)
  refine lv_iconst (v := 0) hx hb dX11_timesHeard_2 (by decide) ?_
  refine lv_istore (lv' := [(4, .int 0), (3, .int 0), (0, .ref a_p0), (1, .int p1), (2, .int p2)]) hx hb dX11_timesHeard_3 hl (by decide) rfl (fun ls hl => ?_)
  exact l5 N p1 p2 0 0 _ _ _ hf hP hD hS (lv_sub hl [2, 3, 4, 1, 0] rfl)
def dsX11_hearAll_0 : List (Nat × Instr × Nat) := [(0, (.iconst 0, 1)), (1, (.istore_n 3, 1)), (2, (.iload_n 3, 1)), (3, (.iload_n 2, 1)), (4, (.if_icmp .ge 40, 3)), (7, (.iload_n 3, 1)), (8, (.aload_n 0, 1)), (9, (.getfield 54, 3)), (12, (.arraylength, 1)), (13, (.if_icmp .ge 31, 3)), (16, (.aload_n 0, 1)), (17, (.getfield 54, 3)), (20, (.iload_n 3, 1)), (21, (.iaload, 1)), (22, (.ifCond .eq 16, 3)), (25, (.aload_n 0, 1)), (26, (.getfield 54, 3)), (29, (.iload_n 3, 1)), (30, (.iaload, 1)), (31, (.iload_n 1, 1)), (32, (.iand, 1)), (33, (.ifCond .ne 5, 3)), (36, (.iconst 0, 1)), (37, (.ireturn, 1)), (38, (.iinc 3 1, 3)), (41, (.goto (-39), 3)), (44, (.iconst 1, 1)), (45, (.ireturn, 1))]
theorem dsX11_hearAll_0_ok : (dsX11_hearAll_0.all fun q => decide (decode cX11_hearAll q.1 = .ok q.2)) = true := by decide +kernel
theorem dX11_hearAll_0 : decode cX11_hearAll 0 = .ok (.iconst 0, 1) := of_decide_eq_true (List.all_eq_true.mp dsX11_hearAll_0_ok (0, (.iconst 0, 1)) (List.mem_of_getElem? (i := 0) rfl))
theorem dX11_hearAll_1 : decode cX11_hearAll 1 = .ok (.istore_n 3, 1) := of_decide_eq_true (List.all_eq_true.mp dsX11_hearAll_0_ok (1, (.istore_n 3, 1)) (List.mem_of_getElem? (i := 1) rfl))
theorem dX11_hearAll_2 : decode cX11_hearAll 2 = .ok (.iload_n 3, 1) := of_decide_eq_true (List.all_eq_true.mp dsX11_hearAll_0_ok (2, (.iload_n 3, 1)) (List.mem_of_getElem? (i := 2) rfl))
theorem dX11_hearAll_3 : decode cX11_hearAll 3 = .ok (.iload_n 2, 1) := of_decide_eq_true (List.all_eq_true.mp dsX11_hearAll_0_ok (3, (.iload_n 2, 1)) (List.mem_of_getElem? (i := 3) rfl))
theorem dX11_hearAll_4 : decode cX11_hearAll 4 = .ok (.if_icmp .ge 40, 3) := of_decide_eq_true (List.all_eq_true.mp dsX11_hearAll_0_ok (4, (.if_icmp .ge 40, 3)) (List.mem_of_getElem? (i := 4) rfl))
theorem dX11_hearAll_7 : decode cX11_hearAll 7 = .ok (.iload_n 3, 1) := of_decide_eq_true (List.all_eq_true.mp dsX11_hearAll_0_ok (7, (.iload_n 3, 1)) (List.mem_of_getElem? (i := 5) rfl))
theorem dX11_hearAll_8 : decode cX11_hearAll 8 = .ok (.aload_n 0, 1) := of_decide_eq_true (List.all_eq_true.mp dsX11_hearAll_0_ok (8, (.aload_n 0, 1)) (List.mem_of_getElem? (i := 6) rfl))
theorem dX11_hearAll_9 : decode cX11_hearAll 9 = .ok (.getfield 54, 3) := of_decide_eq_true (List.all_eq_true.mp dsX11_hearAll_0_ok (9, (.getfield 54, 3)) (List.mem_of_getElem? (i := 7) rfl))
theorem dX11_hearAll_12 : decode cX11_hearAll 12 = .ok (.arraylength, 1) := of_decide_eq_true (List.all_eq_true.mp dsX11_hearAll_0_ok (12, (.arraylength, 1)) (List.mem_of_getElem? (i := 8) rfl))
theorem dX11_hearAll_13 : decode cX11_hearAll 13 = .ok (.if_icmp .ge 31, 3) := of_decide_eq_true (List.all_eq_true.mp dsX11_hearAll_0_ok (13, (.if_icmp .ge 31, 3)) (List.mem_of_getElem? (i := 9) rfl))
theorem dX11_hearAll_16 : decode cX11_hearAll 16 = .ok (.aload_n 0, 1) := of_decide_eq_true (List.all_eq_true.mp dsX11_hearAll_0_ok (16, (.aload_n 0, 1)) (List.mem_of_getElem? (i := 10) rfl))
theorem dX11_hearAll_17 : decode cX11_hearAll 17 = .ok (.getfield 54, 3) := of_decide_eq_true (List.all_eq_true.mp dsX11_hearAll_0_ok (17, (.getfield 54, 3)) (List.mem_of_getElem? (i := 11) rfl))
theorem dX11_hearAll_20 : decode cX11_hearAll 20 = .ok (.iload_n 3, 1) := of_decide_eq_true (List.all_eq_true.mp dsX11_hearAll_0_ok (20, (.iload_n 3, 1)) (List.mem_of_getElem? (i := 12) rfl))
theorem dX11_hearAll_21 : decode cX11_hearAll 21 = .ok (.iaload, 1) := of_decide_eq_true (List.all_eq_true.mp dsX11_hearAll_0_ok (21, (.iaload, 1)) (List.mem_of_getElem? (i := 13) rfl))
theorem dX11_hearAll_22 : decode cX11_hearAll 22 = .ok (.ifCond .eq 16, 3) := of_decide_eq_true (List.all_eq_true.mp dsX11_hearAll_0_ok (22, (.ifCond .eq 16, 3)) (List.mem_of_getElem? (i := 14) rfl))
theorem dX11_hearAll_25 : decode cX11_hearAll 25 = .ok (.aload_n 0, 1) := of_decide_eq_true (List.all_eq_true.mp dsX11_hearAll_0_ok (25, (.aload_n 0, 1)) (List.mem_of_getElem? (i := 15) rfl))
theorem dX11_hearAll_26 : decode cX11_hearAll 26 = .ok (.getfield 54, 3) := of_decide_eq_true (List.all_eq_true.mp dsX11_hearAll_0_ok (26, (.getfield 54, 3)) (List.mem_of_getElem? (i := 16) rfl))
theorem dX11_hearAll_29 : decode cX11_hearAll 29 = .ok (.iload_n 3, 1) := of_decide_eq_true (List.all_eq_true.mp dsX11_hearAll_0_ok (29, (.iload_n 3, 1)) (List.mem_of_getElem? (i := 17) rfl))
theorem dX11_hearAll_30 : decode cX11_hearAll 30 = .ok (.iaload, 1) := of_decide_eq_true (List.all_eq_true.mp dsX11_hearAll_0_ok (30, (.iaload, 1)) (List.mem_of_getElem? (i := 18) rfl))
theorem dX11_hearAll_31 : decode cX11_hearAll 31 = .ok (.iload_n 1, 1) := of_decide_eq_true (List.all_eq_true.mp dsX11_hearAll_0_ok (31, (.iload_n 1, 1)) (List.mem_of_getElem? (i := 19) rfl))
theorem dX11_hearAll_32 : decode cX11_hearAll 32 = .ok (.iand, 1) := of_decide_eq_true (List.all_eq_true.mp dsX11_hearAll_0_ok (32, (.iand, 1)) (List.mem_of_getElem? (i := 20) rfl))
theorem dX11_hearAll_33 : decode cX11_hearAll 33 = .ok (.ifCond .ne 5, 3) := of_decide_eq_true (List.all_eq_true.mp dsX11_hearAll_0_ok (33, (.ifCond .ne 5, 3)) (List.mem_of_getElem? (i := 21) rfl))
theorem dX11_hearAll_36 : decode cX11_hearAll 36 = .ok (.iconst 0, 1) := of_decide_eq_true (List.all_eq_true.mp dsX11_hearAll_0_ok (36, (.iconst 0, 1)) (List.mem_of_getElem? (i := 22) rfl))
theorem dX11_hearAll_37 : decode cX11_hearAll 37 = .ok (.ireturn, 1) := of_decide_eq_true (List.all_eq_true.mp dsX11_hearAll_0_ok (37, (.ireturn, 1)) (List.mem_of_getElem? (i := 23) rfl))
theorem dX11_hearAll_38 : decode cX11_hearAll 38 = .ok (.iinc 3 1, 3) := of_decide_eq_true (List.all_eq_true.mp dsX11_hearAll_0_ok (38, (.iinc 3 1, 3)) (List.mem_of_getElem? (i := 24) rfl))
theorem dX11_hearAll_41 : decode cX11_hearAll 41 = .ok (.goto (-39), 3) := of_decide_eq_true (List.all_eq_true.mp dsX11_hearAll_0_ok (41, (.goto (-39), 3)) (List.mem_of_getElem? (i := 25) rfl))
theorem dX11_hearAll_44 : decode cX11_hearAll 44 = .ok (.iconst 1, 1) := of_decide_eq_true (List.all_eq_true.mp dsX11_hearAll_0_ok (44, (.iconst 1, 1)) (List.mem_of_getElem? (i := 26) rfl))
theorem dX11_hearAll_45 : decode cX11_hearAll 45 = .ok (.ireturn, 1) := of_decide_eq_true (List.all_eq_true.mp dsX11_hearAll_0_ok (45, (.ireturn, 1)) (List.mem_of_getElem? (i := 27) rfl))
def fX11_hearAll_b38 (N : Nat) (dv_heardAheadF : Nat → Int32)  (k2 : (Int32 × Int32 × Int32) → Option (Int32)) : (Int32 × Int32 × Int32) → Option (Int32) :=
  fun (x1_38, x2_38, x3_38) => k2 (x1_38, x2_38, x3_38 + 1)
def fX11_hearAll_l2 (N : Nat) (dv_heardAheadF : Nat → Int32)  (k2 : (Int32 × Int32 × Int32) → Option (Int32)) : (Int32 × Int32 × Int32) → Option (Int32) :=
  fun (x1_2, x2_2, x3_2) => (if x2_2 ≤ x3_2 then some 1 else (if 60 ≤ x3_2 then some 1 else (xq_bd (xq_ald 60 dv_heardAheadF x3_2) fun v_1 => (if v_1 = 0 then fX11_hearAll_b38 N dv_heardAheadF k2 (x1_2, x2_2, x3_2) else (xq_bd (xq_ald 60 dv_heardAheadF x3_2) fun v_2 => (if (v_2 &&& x1_2) = 0 then some 0 else fX11_hearAll_b38 N dv_heardAheadF k2 (x1_2, x2_2, x3_2)))))))
def fX11_hearAll (N : Nat) (dv_heardAheadF : Nat → Int32)  (p1 : Int32) (p2 : Int32) : Option (Int32) :=
  xq_loop (fX11_hearAll_l2 N dv_heardAheadF) N (p1, p2, 0)
set_option maxHeartbeats 4000000 in
set_option maxRecDepth 100000 in
theorem kX11_hearAll (l : Launch) (dC : Nat → ClassId) (dI : Nat → Nat → Nat) (cI cB cJ cZ cM : ClassId) (z : Nat) (ad : Nat → Nat) (N : Nat) (a_p0 : Nat) (dvI : Nat → Int32) (dvR : Nat → Nat) (dv_heardAheadF : Nat → Int32) (p1 : Int32) (p2 : Int32) {r0 : Int32} (hf : fX11_hearAll N dv_heardAheadF p1 p2 = some r0) : xq_Ct l yX11_hearAll wsX11_hearAll { frames := 0, cells := 0, slots := 0, locals := 0 } (dC, dI) vwCl (xq_tys cI cB cJ cZ cM) z ad [.ref a_p0, .int p1, .int p2] [(a_p0, .inr (11, oX11 dvI dvR)), ((dvR 7), .inl (cI, 60, .inl dv_heardAheadF))] [(a_p0, .inr (11, oX11 dvI dvR)), ((dvR 7), .inl (cI, 60, .inl dv_heardAheadF))] (some (.int r0)) := by
  intro sz
  refine Met.ofW (cc := cX11_hearAll) (maxL := 4) (ret := (some .boolean)) (by decide) rfl ?_
  intro p e s m args below meth c s₁ B hml hv
  obtain ⟨rfl, hsz, hP, hK, hD0, hE, hz⟩ := hv
  have hx := B.exec
  have hb := B.bytes
  have hr := B.returns
  have hts := atoms_spec (ws := wsX11_hearAll) B.pre
  have hown : s.vm.findClass RX11 = some m.cls := findClass_of_methodNamed B.named
  have hlocks := B.notSynchronized
  subst hsz
  have hD := hD0.self (sz := s.heap.size)
  have hN := xq_Env.of hE hz hD0
  generalize hAe : va_A [(a_p0, .inr (11, oX11 dvI dvR)), ((dvR 7), .inl (cI, 60, .inl dv_heardAheadF))] s.heap.size = A at hD hN ⊢
  have hA : ∀ q : Nat, s.heap.size ≤ q → A q := fun q h => by rw [← hAe]; exact Or.inr h
  clear hAe hD0
  have hS : va_S A s.heap s.heap [] := va_S.rf
  have hl := lv_entry ([.ref a_p0, .int p1, .int p2]) (n := 4) (Nat.le_of_ble_eq_true rfl)
  rw [lg_entry_eq]
  generalize (lg_sl ([.ref a_p0, .int p1, .int p2]) ++ List.replicate (4 - (lg_sl ([.ref a_p0, .int p1, .int p2])).length) Slot.unset).toArray = ls at hl ⊢
  have hl : lv_has ls 4 [(0, .ref a_p0), (1, .int p1), (2, .int p2)] := hl
  have hw0 := hts (.fieldLink RX11 54 "DistantVoice" "heardAhead" "[I") (by decide +kernel)
  have hinX11 : ∀ w ∈ wsX110, w ∈ wsX11_hearAll := fun w h => List.mem_cons_of_mem _ (List.mem_append_right _ h)
  have l2 : ∀ n2 : Nat, ∀ (x1_2 : Int32) (x2_2 : Int32) (x3_2 : Int32) (ls : Array Slot) (H : Heap) (locs : List Loc), xq_loop (fX11_hearAll_l2 N dv_heardAheadF) n2 (x1_2, x2_2, x3_2) = some r0 → va_P (dC, dI) vwCl [(a_p0, .inr (11, oX11 dvI dvR)), ((dvR 7), .inl (cI, 60, .inl dv_heardAheadF))] H → va_D A [(a_p0, .inr (11, oX11 dvI dvR)), ((dvR 7), .inl (cI, 60, .inl dv_heardAheadF))] → va_S A s.heap H locs → lv_has ls 4 [(0, .ref a_p0), (1, .int x1_2), (2, .int x2_2), (3, .int x3_2)] → W p l e (headSpec wsX11_hearAll { frames := 0, cells := 0, slots := 0, locals := 0 }).room s m [.ref a_p0, .int p1, .int p2].toArray below meth c H locs 0 0 (MQ below (xq_Q (dC, dI) vwCl (xq_tys cI cB cJ cZ cM) A [(a_p0, .inr (11, oX11 dvI dvR)), ((dvR 7), .inl (cI, 60, .inl dv_heardAheadF))] (some (.int r0))) [.ref a_p0, .int p1, .int p2].toArray s 0 0 A) (F0 m 2 ls []) := by
    intro n2
    induction n2 with
    | zero => intro x1_2 x2_2 x3_2 ls H locs hf; cases (show none = some r0 from hf)
    | succ n2 ih2 =>
      have b38 : ∀ (x1_38 : Int32) (x2_38 : Int32) (x3_38 : Int32) (ls : Array Slot) (H : Heap) (locs : List Loc), fX11_hearAll_b38 N dv_heardAheadF (xq_loop (fX11_hearAll_l2 N dv_heardAheadF) n2) (x1_38, x2_38, x3_38) = some r0 → va_P (dC, dI) vwCl [(a_p0, .inr (11, oX11 dvI dvR)), ((dvR 7), .inl (cI, 60, .inl dv_heardAheadF))] H → va_D A [(a_p0, .inr (11, oX11 dvI dvR)), ((dvR 7), .inl (cI, 60, .inl dv_heardAheadF))] → va_S A s.heap H locs → lv_has ls 4 [(0, .ref a_p0), (1, .int x1_38), (2, .int x2_38), (3, .int x3_38)] → W p l e (headSpec wsX11_hearAll { frames := 0, cells := 0, slots := 0, locals := 0 }).room s m [.ref a_p0, .int p1, .int p2].toArray below meth c H locs 0 0 (MQ below (xq_Q (dC, dI) vwCl (xq_tys cI cB cJ cZ cM) A [(a_p0, .inr (11, oX11 dvI dvR)), ((dvR 7), .inl (cI, 60, .inl dv_heardAheadF))] (some (.int r0))) [.ref a_p0, .int p1, .int p2].toArray s 0 0 A) (F0 m 38 ls []) := by
        intro x1_38 x2_38 x3_38 ls H locs hf hP hD hS hl
        unfold fX11_hearAll_b38 at hf
        refine lv_iinc (v := x3_38 + 1) (lv' := [(3, .int (x3_38 + 1)), (0, .ref a_p0), (1, .int x1_38), (2, .int x2_38)]) hx hb dX11_hearAll_38 hl (k := 3) rfl (congrArg (fun q9 => x3_38 + q9) (by decide : Int32.ofInt 1 = 1)) (by decide) rfl (fun ls hl => ?_)
        refine lv_goto (tgt := 2) hx hb dX11_hearAll_41 (by decide) ?_
        exact ih2 x1_38 x2_38 (x3_38 + 1) _ _ _ hf hP hD hS (lv_sub hl [1, 2, 3, 0] rfl)
      intro x1_2 x2_2 x3_2 ls H locs hf hP hD hS hl
      have hf : fX11_hearAll_l2 N dv_heardAheadF (xq_loop (fX11_hearAll_l2 N dv_heardAheadF) n2) (x1_2, x2_2, x3_2) = some r0 := hf
      unfold fX11_hearAll_l2 at hf
      refine lv_iload_n hx hb dX11_hearAll_2 rfl (lv_at hl 3 rfl) ?_
      refine lv_iload_n hx hb dX11_hearAll_3 rfl (lv_at hl 2 rfl) ?_
      refine lv_icmp_ge (tgt := 44) hx hb dX11_hearAll_4 (by decide) (fun c_ => ?_) (fun c_ => ?_)
      · have hf := xq_pos hf c_
        refine lv_iconst (v := 1) hx hb dX11_hearAll_44 (by decide) ?_
        cases hf
        exact xq_zret hx hb hr (by decide +kernel) hlocks hK hP hD hS dX11_hearAll_45
      · have hf := xq_neg hf c_
        refine lv_iload_n hx hb dX11_hearAll_7 rfl (lv_at hl 3 rfl) ?_
        refine lv_aload_n hx hb dX11_hearAll_8 rfl (lv_at hl 0 rfl) ?_
        refine va_get (D := (dC, dI)) (ci := 11) (v := .ref ((dvR 7))) (C := RX11) (T := TX11) (N := 15) hx hb hts hinX11 hown hK hP 0 rfl rfl 7 (by decide) hw0 (fun _ h9 => h9) rfl dX11_hearAll_9 ?_
        refine va_alen hx hb hK hP 1 0 (v := 60) rfl rfl rfl dX11_hearAll_12 ?_
        refine lv_icmp_ge (tgt := 44) hx hb dX11_hearAll_13 (by decide) (fun c_ => ?_) (fun c_ => ?_)
        · have hf := xq_pos hf c_
          refine lv_iconst (v := 1) hx hb dX11_hearAll_44 (by decide) ?_
          cases hf
          exact xq_zret hx hb hr (by decide +kernel) hlocks hK hP hD hS dX11_hearAll_45
        · have hf := xq_neg hf c_
          refine lv_aload_n hx hb dX11_hearAll_16 rfl (lv_at hl 0 rfl) ?_
          refine va_get (D := (dC, dI)) (ci := 11) (v := .ref ((dvR 7))) (C := RX11) (T := TX11) (N := 15) hx hb hts hinX11 hown hK hP 0 rfl rfl 7 (by decide) hw0 (fun _ h9 => h9) rfl dX11_hearAll_17 ?_
          refine lv_iload_n hx hb dX11_hearAll_20 rfl (lv_at hl 3 rfl) ?_
          refine xq_iald hx hb hK hP 1 0 rfl rfl hf dX11_hearAll_21 (fun v_1 hf => ?_)
          refine lv_if_eq (tgt := 38) hx hb dX11_hearAll_22 (by decide) (fun c_ => ?_) (fun c_ => ?_)
          · have hf := xq_pos hf c_
            exact b38 x1_2 x2_2 x3_2 _ _ _ hf hP hD hS (lv_sub hl [0, 1, 2, 3] rfl)
          · have hf := xq_neg hf c_
            refine lv_aload_n hx hb dX11_hearAll_25 rfl (lv_at hl 0 rfl) ?_
            refine va_get (D := (dC, dI)) (ci := 11) (v := .ref ((dvR 7))) (C := RX11) (T := TX11) (N := 15) hx hb hts hinX11 hown hK hP 0 rfl rfl 7 (by decide) hw0 (fun _ h9 => h9) rfl dX11_hearAll_26 ?_
            refine lv_iload_n hx hb dX11_hearAll_29 rfl (lv_at hl 3 rfl) ?_
            refine xq_iald hx hb hK hP 1 0 rfl rfl hf dX11_hearAll_30 (fun v_2 hf => ?_)
            refine lv_iload_n hx hb dX11_hearAll_31 rfl (lv_at hl 1 rfl) ?_
            refine lv_iand hx hb dX11_hearAll_32 ?_
            refine lv_if_ne (tgt := 38) hx hb dX11_hearAll_33 (by decide) (fun c_ => ?_) (fun c_ => ?_)
            · have hf := xq_neg hf c_
              exact b38 x1_2 x2_2 x3_2 _ _ _ hf hP hD hS (lv_sub hl [0, 1, 2, 3] rfl)
            · have hf := xq_pos hf c_
              refine lv_iconst (v := 0) hx hb dX11_hearAll_36 (by decide) ?_
              cases hf
              exact xq_zret hx hb hr (by decide +kernel) hlocks hK hP hD hS dX11_hearAll_37
  unfold fX11_hearAll at hf
  refine lv_iconst (v := 0) hx hb dX11_hearAll_0 (by decide) ?_
  refine lv_istore_n (lv' := [(3, .int 0), (0, .ref a_p0), (1, .int p1), (2, .int p2)]) hx hb dX11_hearAll_1 rfl hl (by decide) rfl (fun ls hl => ?_)
  exact l2 N p1 p2 0 _ _ _ hf hP hD hS (lv_sub hl [1, 2, 3, 0] rfl)
def dsX11_addToTally_0 : List (Nat × Instr × Nat) := [(0, (.iconst 0, 1)), (1, (.istore_n 2, 1)), (2, (.iload_n 2, 1)), (3, (.iload_n 1, 1)), (4, (.if_icmp .ge 58, 3)), (7, (.iload_n 2, 1)), (8, (.bipush 31, 2)), (10, (.if_icmp .ge 52, 3)), (13, (.iconst 0, 1)), (14, (.istore_n 3, 1)), (15, (.iload_n 3, 1)), (16, (.aload_n 0, 1)), (17, (.getfield 67, 3)), (20, (.getfield 144, 3)), (23, (.if_icmp .ge 33, 3)), (26, (.aload_n 0, 1)), (27, (.getfield 58, 3)), (30, (.iload_n 2, 1)), (31, (.bipush 7, 2)), (33, (.imul, 1)), (34, (.iload_n 3, 1)), (35, (.iadd, 1)), (36, (.dup2, 1)), (37, (.iaload, 1)), (38, (.aload_n 0, 1)), (39, (.getfield 54, 3)), (42, (.iload_n 2, 1)), (43, (.iaload, 1)), (44, (.iload_n 3, 1)), (45, (.ishr, 1)), (46, (.iconst 1, 1)), (47, (.iand, 1)), (48, (.iadd, 1)), (49, (.iastore, 1)), (50, (.iinc 3 1, 3)), (53, (.goto (-38), 3)), (56, (.iinc 2 1, 3)), (59, (.goto (-57), 3)), (62, (.return_, 1))]
theorem dsX11_addToTally_0_ok : (dsX11_addToTally_0.all fun q => decide (decode cX11_addToTally q.1 = .ok q.2)) = true := by decide +kernel
theorem dX11_addToTally_0 : decode cX11_addToTally 0 = .ok (.iconst 0, 1) := of_decide_eq_true (List.all_eq_true.mp dsX11_addToTally_0_ok (0, (.iconst 0, 1)) (List.mem_of_getElem? (i := 0) rfl))
theorem dX11_addToTally_1 : decode cX11_addToTally 1 = .ok (.istore_n 2, 1) := of_decide_eq_true (List.all_eq_true.mp dsX11_addToTally_0_ok (1, (.istore_n 2, 1)) (List.mem_of_getElem? (i := 1) rfl))
theorem dX11_addToTally_2 : decode cX11_addToTally 2 = .ok (.iload_n 2, 1) := of_decide_eq_true (List.all_eq_true.mp dsX11_addToTally_0_ok (2, (.iload_n 2, 1)) (List.mem_of_getElem? (i := 2) rfl))
theorem dX11_addToTally_3 : decode cX11_addToTally 3 = .ok (.iload_n 1, 1) := of_decide_eq_true (List.all_eq_true.mp dsX11_addToTally_0_ok (3, (.iload_n 1, 1)) (List.mem_of_getElem? (i := 3) rfl))
theorem dX11_addToTally_4 : decode cX11_addToTally 4 = .ok (.if_icmp .ge 58, 3) := of_decide_eq_true (List.all_eq_true.mp dsX11_addToTally_0_ok (4, (.if_icmp .ge 58, 3)) (List.mem_of_getElem? (i := 4) rfl))
theorem dX11_addToTally_7 : decode cX11_addToTally 7 = .ok (.iload_n 2, 1) := of_decide_eq_true (List.all_eq_true.mp dsX11_addToTally_0_ok (7, (.iload_n 2, 1)) (List.mem_of_getElem? (i := 5) rfl))
theorem dX11_addToTally_8 : decode cX11_addToTally 8 = .ok (.bipush 31, 2) := of_decide_eq_true (List.all_eq_true.mp dsX11_addToTally_0_ok (8, (.bipush 31, 2)) (List.mem_of_getElem? (i := 6) rfl))
theorem dX11_addToTally_10 : decode cX11_addToTally 10 = .ok (.if_icmp .ge 52, 3) := of_decide_eq_true (List.all_eq_true.mp dsX11_addToTally_0_ok (10, (.if_icmp .ge 52, 3)) (List.mem_of_getElem? (i := 7) rfl))
theorem dX11_addToTally_13 : decode cX11_addToTally 13 = .ok (.iconst 0, 1) := of_decide_eq_true (List.all_eq_true.mp dsX11_addToTally_0_ok (13, (.iconst 0, 1)) (List.mem_of_getElem? (i := 8) rfl))
theorem dX11_addToTally_14 : decode cX11_addToTally 14 = .ok (.istore_n 3, 1) := of_decide_eq_true (List.all_eq_true.mp dsX11_addToTally_0_ok (14, (.istore_n 3, 1)) (List.mem_of_getElem? (i := 9) rfl))
theorem dX11_addToTally_15 : decode cX11_addToTally 15 = .ok (.iload_n 3, 1) := of_decide_eq_true (List.all_eq_true.mp dsX11_addToTally_0_ok (15, (.iload_n 3, 1)) (List.mem_of_getElem? (i := 10) rfl))
theorem dX11_addToTally_16 : decode cX11_addToTally 16 = .ok (.aload_n 0, 1) := of_decide_eq_true (List.all_eq_true.mp dsX11_addToTally_0_ok (16, (.aload_n 0, 1)) (List.mem_of_getElem? (i := 11) rfl))
theorem dX11_addToTally_17 : decode cX11_addToTally 17 = .ok (.getfield 67, 3) := of_decide_eq_true (List.all_eq_true.mp dsX11_addToTally_0_ok (17, (.getfield 67, 3)) (List.mem_of_getElem? (i := 12) rfl))
theorem dX11_addToTally_20 : decode cX11_addToTally 20 = .ok (.getfield 144, 3) := of_decide_eq_true (List.all_eq_true.mp dsX11_addToTally_0_ok (20, (.getfield 144, 3)) (List.mem_of_getElem? (i := 13) rfl))
theorem dX11_addToTally_23 : decode cX11_addToTally 23 = .ok (.if_icmp .ge 33, 3) := of_decide_eq_true (List.all_eq_true.mp dsX11_addToTally_0_ok (23, (.if_icmp .ge 33, 3)) (List.mem_of_getElem? (i := 14) rfl))
theorem dX11_addToTally_26 : decode cX11_addToTally 26 = .ok (.aload_n 0, 1) := of_decide_eq_true (List.all_eq_true.mp dsX11_addToTally_0_ok (26, (.aload_n 0, 1)) (List.mem_of_getElem? (i := 15) rfl))
theorem dX11_addToTally_27 : decode cX11_addToTally 27 = .ok (.getfield 58, 3) := of_decide_eq_true (List.all_eq_true.mp dsX11_addToTally_0_ok (27, (.getfield 58, 3)) (List.mem_of_getElem? (i := 16) rfl))
theorem dX11_addToTally_30 : decode cX11_addToTally 30 = .ok (.iload_n 2, 1) := of_decide_eq_true (List.all_eq_true.mp dsX11_addToTally_0_ok (30, (.iload_n 2, 1)) (List.mem_of_getElem? (i := 17) rfl))
theorem dX11_addToTally_31 : decode cX11_addToTally 31 = .ok (.bipush 7, 2) := of_decide_eq_true (List.all_eq_true.mp dsX11_addToTally_0_ok (31, (.bipush 7, 2)) (List.mem_of_getElem? (i := 18) rfl))
theorem dX11_addToTally_33 : decode cX11_addToTally 33 = .ok (.imul, 1) := of_decide_eq_true (List.all_eq_true.mp dsX11_addToTally_0_ok (33, (.imul, 1)) (List.mem_of_getElem? (i := 19) rfl))
theorem dX11_addToTally_34 : decode cX11_addToTally 34 = .ok (.iload_n 3, 1) := of_decide_eq_true (List.all_eq_true.mp dsX11_addToTally_0_ok (34, (.iload_n 3, 1)) (List.mem_of_getElem? (i := 20) rfl))
theorem dX11_addToTally_35 : decode cX11_addToTally 35 = .ok (.iadd, 1) := of_decide_eq_true (List.all_eq_true.mp dsX11_addToTally_0_ok (35, (.iadd, 1)) (List.mem_of_getElem? (i := 21) rfl))
theorem dX11_addToTally_36 : decode cX11_addToTally 36 = .ok (.dup2, 1) := of_decide_eq_true (List.all_eq_true.mp dsX11_addToTally_0_ok (36, (.dup2, 1)) (List.mem_of_getElem? (i := 22) rfl))
theorem dX11_addToTally_37 : decode cX11_addToTally 37 = .ok (.iaload, 1) := of_decide_eq_true (List.all_eq_true.mp dsX11_addToTally_0_ok (37, (.iaload, 1)) (List.mem_of_getElem? (i := 23) rfl))
theorem dX11_addToTally_38 : decode cX11_addToTally 38 = .ok (.aload_n 0, 1) := of_decide_eq_true (List.all_eq_true.mp dsX11_addToTally_0_ok (38, (.aload_n 0, 1)) (List.mem_of_getElem? (i := 24) rfl))
theorem dX11_addToTally_39 : decode cX11_addToTally 39 = .ok (.getfield 54, 3) := of_decide_eq_true (List.all_eq_true.mp dsX11_addToTally_0_ok (39, (.getfield 54, 3)) (List.mem_of_getElem? (i := 25) rfl))
theorem dX11_addToTally_42 : decode cX11_addToTally 42 = .ok (.iload_n 2, 1) := of_decide_eq_true (List.all_eq_true.mp dsX11_addToTally_0_ok (42, (.iload_n 2, 1)) (List.mem_of_getElem? (i := 26) rfl))
theorem dX11_addToTally_43 : decode cX11_addToTally 43 = .ok (.iaload, 1) := of_decide_eq_true (List.all_eq_true.mp dsX11_addToTally_0_ok (43, (.iaload, 1)) (List.mem_of_getElem? (i := 27) rfl))
theorem dX11_addToTally_44 : decode cX11_addToTally 44 = .ok (.iload_n 3, 1) := of_decide_eq_true (List.all_eq_true.mp dsX11_addToTally_0_ok (44, (.iload_n 3, 1)) (List.mem_of_getElem? (i := 28) rfl))
theorem dX11_addToTally_45 : decode cX11_addToTally 45 = .ok (.ishr, 1) := of_decide_eq_true (List.all_eq_true.mp dsX11_addToTally_0_ok (45, (.ishr, 1)) (List.mem_of_getElem? (i := 29) rfl))
theorem dX11_addToTally_46 : decode cX11_addToTally 46 = .ok (.iconst 1, 1) := of_decide_eq_true (List.all_eq_true.mp dsX11_addToTally_0_ok (46, (.iconst 1, 1)) (List.mem_of_getElem? (i := 30) rfl))
theorem dX11_addToTally_47 : decode cX11_addToTally 47 = .ok (.iand, 1) := of_decide_eq_true (List.all_eq_true.mp dsX11_addToTally_0_ok (47, (.iand, 1)) (List.mem_of_getElem? (i := 31) rfl))
theorem dX11_addToTally_48 : decode cX11_addToTally 48 = .ok (.iadd, 1) := of_decide_eq_true (List.all_eq_true.mp dsX11_addToTally_0_ok (48, (.iadd, 1)) (List.mem_of_getElem? (i := 32) rfl))
theorem dX11_addToTally_49 : decode cX11_addToTally 49 = .ok (.iastore, 1) := of_decide_eq_true (List.all_eq_true.mp dsX11_addToTally_0_ok (49, (.iastore, 1)) (List.mem_of_getElem? (i := 33) rfl))
theorem dX11_addToTally_50 : decode cX11_addToTally 50 = .ok (.iinc 3 1, 3) := of_decide_eq_true (List.all_eq_true.mp dsX11_addToTally_0_ok (50, (.iinc 3 1, 3)) (List.mem_of_getElem? (i := 34) rfl))
theorem dX11_addToTally_53 : decode cX11_addToTally 53 = .ok (.goto (-38), 3) := of_decide_eq_true (List.all_eq_true.mp dsX11_addToTally_0_ok (53, (.goto (-38), 3)) (List.mem_of_getElem? (i := 35) rfl))
theorem dX11_addToTally_56 : decode cX11_addToTally 56 = .ok (.iinc 2 1, 3) := of_decide_eq_true (List.all_eq_true.mp dsX11_addToTally_0_ok (56, (.iinc 2 1, 3)) (List.mem_of_getElem? (i := 36) rfl))
theorem dX11_addToTally_59 : decode cX11_addToTally 59 = .ok (.goto (-57), 3) := of_decide_eq_true (List.all_eq_true.mp dsX11_addToTally_0_ok (59, (.goto (-57), 3)) (List.mem_of_getElem? (i := 37) rfl))
theorem dX11_addToTally_62 : decode cX11_addToTally 62 = .ok (.return_, 1) := of_decide_eq_true (List.all_eq_true.mp dsX11_addToTally_0_ok (62, (.return_, 1)) (List.mem_of_getElem? (i := 38) rfl))
def fX11_addToTally_l15 (N : Nat) (homeI : Nat → Int32) (dv_heardAheadF : Nat → Int32)  (k2 : ((Nat → Int32) × Int32 × Int32) → Option ((Nat → Int32))) (k15 : ((Nat → Int32) × Int32 × Int32 × Int32) → Option ((Nat → Int32))) : ((Nat → Int32) × Int32 × Int32 × Int32) → Option ((Nat → Int32)) :=
  fun (dv_tallyF_15, x1_15, x2_15, x3_15) => (if (homeI 5) ≤ x3_15 then k2 (dv_tallyF_15, x1_15, x2_15 + 1) else (xq_bd (xq_ald 217 dv_tallyF_15 ((x2_15 * 7) + x3_15)) fun v_1 => (xq_bd (xq_ald 60 dv_heardAheadF x2_15) fun v_2 => (xq_bd (xq_ast 217 dv_tallyF_15 ((x2_15 * 7) + x3_15) (v_1 + ((v_2 >>> (x3_15 &&& 31)) &&& 1))) fun g_3 => k15 (g_3, x1_15, x2_15, x3_15 + 1)))))
def fX11_addToTally_l2 (N : Nat) (homeI : Nat → Int32) (dv_heardAheadF : Nat → Int32)  (k2 : ((Nat → Int32) × Int32 × Int32) → Option ((Nat → Int32))) : ((Nat → Int32) × Int32 × Int32) → Option ((Nat → Int32)) :=
  fun (dv_tallyF_2, x1_2, x2_2) => (if x1_2 ≤ x2_2 then some dv_tallyF_2 else (if 31 ≤ x2_2 then some dv_tallyF_2 else xq_loop (fX11_addToTally_l15 N homeI dv_heardAheadF k2) N (dv_tallyF_2, x1_2, x2_2, 0)))
def fX11_addToTally (N : Nat) (homeI : Nat → Int32) (dv_tallyF : Nat → Int32) (dv_heardAheadF : Nat → Int32)  (p1 : Int32) : Option ((Nat → Int32)) :=
  xq_loop (fX11_addToTally_l2 N homeI dv_heardAheadF) N (dv_tallyF, p1, 0)
set_option maxHeartbeats 4000000 in
set_option maxRecDepth 100000 in
theorem kX11_addToTally (l : Launch) (dC : Nat → ClassId) (dI : Nat → Nat → Nat) (cI cB cJ cZ cM : ClassId) (z : Nat) (ad : Nat → Nat) (N : Nat) (a_p0 : Nat) (dvI : Nat → Int32) (dvR : Nat → Nat) (homeI : Nat → Int32) (homeR : Nat → Nat) (dv_tallyF : Nat → Int32) (dv_heardAheadF : Nat → Int32) (p1 : Int32) {r0 : Nat → Int32} (hf : fX11_addToTally N homeI dv_tallyF dv_heardAheadF p1 = some r0) : xq_Ct l yX11_addToTally wsX11_addToTally { frames := 0, cells := 0, slots := 0, locals := 0 } (dC, dI) vwCl (xq_tys cI cB cJ cZ cM) z ad [.ref a_p0, .int p1] [(a_p0, .inr (11, oX11 dvI dvR)), ((dvR 10), .inr (2, oX2 homeI homeR)), ((dvR 8), .inl (cI, 217, .inl dv_tallyF)), ((dvR 7), .inl (cI, 60, .inl dv_heardAheadF))] [(a_p0, .inr (11, oX11 dvI dvR)), ((dvR 10), .inr (2, oX2 homeI homeR)), ((dvR 8), .inl (cI, 217, .inl r0)), ((dvR 7), .inl (cI, 60, .inl dv_heardAheadF))] none := by
  intro sz
  refine Met.ofW (cc := cX11_addToTally) (maxL := 4) (ret := none) (by decide) rfl ?_
  intro p e s m args below meth c s₁ B hml hv
  obtain ⟨rfl, hsz, hP, hK, hD0, hE, hz⟩ := hv
  have hx := B.exec
  have hb := B.bytes
  have hr := B.returns
  have hts := atoms_spec (ws := wsX11_addToTally) B.pre
  have hown : s.vm.findClass RX11 = some m.cls := findClass_of_methodNamed B.named
  have hlocks := B.notSynchronized
  subst hsz
  have hD := hD0.self (sz := s.heap.size)
  have hN := xq_Env.of hE hz hD0
  generalize hAe : va_A [(a_p0, .inr (11, oX11 dvI dvR)), ((dvR 10), .inr (2, oX2 homeI homeR)), ((dvR 8), .inl (cI, 217, .inl dv_tallyF)), ((dvR 7), .inl (cI, 60, .inl dv_heardAheadF))] s.heap.size = A at hD hN ⊢
  have hA : ∀ q : Nat, s.heap.size ≤ q → A q := fun q h => by rw [← hAe]; exact Or.inr h
  clear hAe hD0
  have hS : va_S A s.heap s.heap [] := va_S.rf
  have hl := lv_entry ([.ref a_p0, .int p1]) (n := 4) (Nat.le_of_ble_eq_true rfl)
  rw [lg_entry_eq]
  generalize (lg_sl ([.ref a_p0, .int p1]) ++ List.replicate (4 - (lg_sl ([.ref a_p0, .int p1])).length) Slot.unset).toArray = ls at hl ⊢
  have hl : lv_has ls 4 [(0, .ref a_p0), (1, .int p1)] := hl
  have hw0 := hts (.fieldLink RX11 67 "DistantVoice" "home" "LDistantVoice$House;") (by decide +kernel)
  have hinX11 : ∀ w ∈ wsX110, w ∈ wsX11_addToTally := fun w h => List.mem_cons_of_mem _ (List.mem_append_left _ (List.mem_append_right _ h))
  have hnf48 := va_Nw.use (A := [.ref a_p0, .int p1].toArray) rfl (hN.1.1.1 ("DistantVoice", 144, "DistantVoice$House", "ears", "I", "DistantVoice") (List.mem_of_getElem? (i := 48) rfl))
  have hinX2 : ∀ w ∈ wsX20, w ∈ wsX11_addToTally := fun w h => List.mem_cons_of_mem _ (List.mem_append_right _ h)
  have hw4 := hts (.fieldLink RX11 58 "DistantVoice" "tally" "[I") (by decide +kernel)
  have hw5 := hts (.fieldLink RX11 54 "DistantVoice" "heardAhead" "[I") (by decide +kernel)
  have l2 : ∀ n2 : Nat, ∀ (dv_tallyF_2 : Nat → Int32) (x1_2 : Int32) (x2_2 : Int32) (ls : Array Slot) (H : Heap) (locs : List Loc), xq_loop (fX11_addToTally_l2 N homeI dv_heardAheadF) n2 (dv_tallyF_2, x1_2, x2_2) = some r0 → va_P (dC, dI) vwCl [(a_p0, .inr (11, oX11 dvI dvR)), ((dvR 10), .inr (2, oX2 homeI homeR)), ((dvR 8), .inl (cI, 217, .inl dv_tallyF_2)), ((dvR 7), .inl (cI, 60, .inl dv_heardAheadF))] H → va_D A [(a_p0, .inr (11, oX11 dvI dvR)), ((dvR 10), .inr (2, oX2 homeI homeR)), ((dvR 8), .inl (cI, 217, .inl dv_tallyF_2)), ((dvR 7), .inl (cI, 60, .inl dv_heardAheadF))] → va_S A s.heap H locs → lv_has ls 4 [(0, .ref a_p0), (1, .int x1_2), (2, .int x2_2)] → W p l e (headSpec wsX11_addToTally { frames := 0, cells := 0, slots := 0, locals := 0 }).room s m [.ref a_p0, .int p1].toArray below meth c H locs 0 0 (MQ below (xq_Q (dC, dI) vwCl (xq_tys cI cB cJ cZ cM) A [(a_p0, .inr (11, oX11 dvI dvR)), ((dvR 10), .inr (2, oX2 homeI homeR)), ((dvR 8), .inl (cI, 217, .inl r0)), ((dvR 7), .inl (cI, 60, .inl dv_heardAheadF))] none) [.ref a_p0, .int p1].toArray s 0 0 A) (F0 m 2 ls []) := by
    intro n2
    induction n2 with
    | zero => intro dv_tallyF_2 x1_2 x2_2 ls H locs hf; cases (show none = some r0 from hf)
    | succ n2 ih2 =>
      have l15 : ∀ n15 : Nat, ∀ (dv_tallyF_15 : Nat → Int32) (x1_15 : Int32) (x2_15 : Int32) (x3_15 : Int32) (ls : Array Slot) (H : Heap) (locs : List Loc), xq_loop (fX11_addToTally_l15 N homeI dv_heardAheadF (xq_loop (fX11_addToTally_l2 N homeI dv_heardAheadF) n2)) n15 (dv_tallyF_15, x1_15, x2_15, x3_15) = some r0 → va_P (dC, dI) vwCl [(a_p0, .inr (11, oX11 dvI dvR)), ((dvR 10), .inr (2, oX2 homeI homeR)), ((dvR 8), .inl (cI, 217, .inl dv_tallyF_15)), ((dvR 7), .inl (cI, 60, .inl dv_heardAheadF))] H → va_D A [(a_p0, .inr (11, oX11 dvI dvR)), ((dvR 10), .inr (2, oX2 homeI homeR)), ((dvR 8), .inl (cI, 217, .inl dv_tallyF_15)), ((dvR 7), .inl (cI, 60, .inl dv_heardAheadF))] → va_S A s.heap H locs → lv_has ls 4 [(0, .ref a_p0), (1, .int x1_15), (2, .int x2_15), (3, .int x3_15)] → W p l e (headSpec wsX11_addToTally { frames := 0, cells := 0, slots := 0, locals := 0 }).room s m [.ref a_p0, .int p1].toArray below meth c H locs 0 0 (MQ below (xq_Q (dC, dI) vwCl (xq_tys cI cB cJ cZ cM) A [(a_p0, .inr (11, oX11 dvI dvR)), ((dvR 10), .inr (2, oX2 homeI homeR)), ((dvR 8), .inl (cI, 217, .inl r0)), ((dvR 7), .inl (cI, 60, .inl dv_heardAheadF))] none) [.ref a_p0, .int p1].toArray s 0 0 A) (F0 m 15 ls []) := by
        intro n15
        induction n15 with
        | zero => intro dv_tallyF_15 x1_15 x2_15 x3_15 ls H locs hf; cases (show none = some r0 from hf)
        | succ n15 ih15 =>
          intro dv_tallyF_15 x1_15 x2_15 x3_15 ls H locs hf hP hD hS hl
          have hf : fX11_addToTally_l15 N homeI dv_heardAheadF (xq_loop (fX11_addToTally_l2 N homeI dv_heardAheadF) n2) (xq_loop (fX11_addToTally_l15 N homeI dv_heardAheadF (xq_loop (fX11_addToTally_l2 N homeI dv_heardAheadF) n2)) n15) (dv_tallyF_15, x1_15, x2_15, x3_15) = some r0 := hf
          unfold fX11_addToTally_l15 at hf
          refine lv_iload_n hx hb dX11_addToTally_15 rfl (lv_at hl 3 rfl) ?_
          refine lv_aload_n hx hb dX11_addToTally_16 rfl (lv_at hl 0 rfl) ?_
          refine va_get (D := (dC, dI)) (ci := 11) (v := .ref ((dvR 10))) (C := RX11) (T := TX11) (N := 15) hx hb hts hinX11 hown hK hP 0 rfl rfl 10 (by decide) hw0 (fun _ h9 => h9) rfl dX11_addToTally_17 ?_
          refine va_getN (D := (dC, dI)) (ci := 2) (v := .int (homeI 5)) (C := RX2) (T := TX2) (N := 19) hx hb hts hinX2 hown hK hP 1 rfl rfl 5 (by decide) hnf48 (fun _ h9 => h9) rfl dX11_addToTally_20 ?_
          refine lv_icmp_ge (tgt := 56) hx hb dX11_addToTally_23 (by decide) (fun c_ => ?_) (fun c_ => ?_)
          · have hf := xq_pos hf c_
            refine lv_iinc (v := x2_15 + 1) (lv' := [(2, .int (x2_15 + 1)), (0, .ref a_p0), (1, .int x1_15), (3, .int x3_15)]) hx hb dX11_addToTally_56 hl (k := 2) rfl (congrArg (fun q9 => x2_15 + q9) (by decide : Int32.ofInt 1 = 1)) (by decide) rfl (fun ls hl => ?_)
            refine lv_goto (tgt := 2) hx hb dX11_addToTally_59 (by decide) ?_
            exact ih2 dv_tallyF_15 x1_15 (x2_15 + 1) _ _ _ hf hP hD hS (lv_sub hl [1, 2, 0] rfl)
          · have hf := xq_neg hf c_
            refine lv_aload_n hx hb dX11_addToTally_26 rfl (lv_at hl 0 rfl) ?_
            refine va_get (D := (dC, dI)) (ci := 11) (v := .ref ((dvR 8))) (C := RX11) (T := TX11) (N := 15) hx hb hts hinX11 hown hK hP 0 rfl rfl 8 (by decide) hw4 (fun _ h9 => h9) rfl dX11_addToTally_27 ?_
            refine lv_iload_n hx hb dX11_addToTally_30 rfl (lv_at hl 2 rfl) ?_
            refine lv_bipush (v := 7) hx hb dX11_addToTally_31 (by decide) ?_
            refine lv_imul hx hb dX11_addToTally_33 ?_
            refine lv_iload_n hx hb dX11_addToTally_34 rfl (lv_at hl 3 rfl) ?_
            refine lv_iadd hx hb dX11_addToTally_35 ?_
            refine lv_dup2_11 hx hb dX11_addToTally_36 rfl rfl ?_
            refine xq_iald hx hb hK hP 2 0 rfl rfl hf dX11_addToTally_37 (fun v_1 hf => ?_)
            refine lv_aload_n hx hb dX11_addToTally_38 rfl (lv_at hl 0 rfl) ?_
            refine va_get (D := (dC, dI)) (ci := 11) (v := .ref ((dvR 7))) (C := RX11) (T := TX11) (N := 15) hx hb hts hinX11 hown hK hP 0 rfl rfl 7 (by decide) hw5 (fun _ h9 => h9) rfl dX11_addToTally_39 ?_
            refine lv_iload_n hx hb dX11_addToTally_42 rfl (lv_at hl 2 rfl) ?_
            refine xq_iald hx hb hK hP 3 0 rfl rfl hf dX11_addToTally_43 (fun v_2 hf => ?_)
            refine lv_iload_n hx hb dX11_addToTally_44 rfl (lv_at hl 3 rfl) ?_
            refine lv_ishr hx hb dX11_addToTally_45 ?_
            refine lv_iconst (v := 1) hx hb dX11_addToTally_46 (by decide) ?_
            refine lv_iand hx hb dX11_addToTally_47 ?_
            refine lv_iadd hx hb dX11_addToTally_48 ?_
            refine xq_iast hx hb hK hP hD hS 2 0 rfl rfl hf dX11_addToTally_49 (fun g_3 H locs hf hP hD hS => ?_)
            have hP : va_P (dC, dI) vwCl [(a_p0, .inr (11, oX11 dvI dvR)), ((dvR 10), .inr (2, oX2 homeI homeR)), ((dvR 8), .inl (cI, 217, .inl g_3)), ((dvR 7), .inl (cI, 60, .inl dv_heardAheadF))] H := hP
            have hD : va_D A [(a_p0, .inr (11, oX11 dvI dvR)), ((dvR 10), .inr (2, oX2 homeI homeR)), ((dvR 8), .inl (cI, 217, .inl g_3)), ((dvR 7), .inl (cI, 60, .inl dv_heardAheadF))] := hD
            refine lv_iinc (v := x3_15 + 1) (lv' := [(3, .int (x3_15 + 1)), (0, .ref a_p0), (1, .int x1_15), (2, .int x2_15)]) hx hb dX11_addToTally_50 hl (k := 3) rfl (congrArg (fun q9 => x3_15 + q9) (by decide : Int32.ofInt 1 = 1)) (by decide) rfl (fun ls hl => ?_)
            refine lv_goto (tgt := 15) hx hb dX11_addToTally_53 (by decide) ?_
            exact ih15 g_3 x1_15 x2_15 (x3_15 + 1) _ _ _ hf hP hD hS (lv_sub hl [1, 2, 3, 0] rfl)
      intro dv_tallyF_2 x1_2 x2_2 ls H locs hf hP hD hS hl
      have hf : fX11_addToTally_l2 N homeI dv_heardAheadF (xq_loop (fX11_addToTally_l2 N homeI dv_heardAheadF) n2) (dv_tallyF_2, x1_2, x2_2) = some r0 := hf
      unfold fX11_addToTally_l2 at hf
      refine lv_iload_n hx hb dX11_addToTally_2 rfl (lv_at hl 2 rfl) ?_
      refine lv_iload_n hx hb dX11_addToTally_3 rfl (lv_at hl 1 rfl) ?_
      refine lv_icmp_ge (tgt := 62) hx hb dX11_addToTally_4 (by decide) (fun c_ => ?_) (fun c_ => ?_)
      · have hf := xq_pos hf c_
        cases hf
        exact xq_vret hx hb hr hlocks hK hP hD hS dX11_addToTally_62
      · have hf := xq_neg hf c_
        refine lv_iload_n hx hb dX11_addToTally_7 rfl (lv_at hl 2 rfl) ?_
        refine lv_bipush (v := 31) hx hb dX11_addToTally_8 (by decide) ?_
        refine lv_icmp_ge (tgt := 62) hx hb dX11_addToTally_10 (by decide) (fun c_ => ?_) (fun c_ => ?_)
        · have hf := xq_pos hf c_
          cases hf
          exact xq_vret hx hb hr hlocks hK hP hD hS dX11_addToTally_62
        · have hf := xq_neg hf c_
          refine lv_iconst (v := 0) hx hb dX11_addToTally_13 (by decide) ?_
          refine lv_istore_n (lv' := [(3, .int 0), (0, .ref a_p0), (1, .int x1_2), (2, .int x2_2)]) hx hb dX11_addToTally_14 rfl hl (by decide) rfl (fun ls hl => ?_)
          exact l15 N dv_tallyF_2 x1_2 x2_2 0 _ _ _ hf hP hD hS (lv_sub hl [1, 2, 3, 0] rfl)
  unfold fX11_addToTally at hf
  refine lv_iconst (v := 0) hx hb dX11_addToTally_0 (by decide) ?_
  refine lv_istore_n (lv' := [(2, .int 0), (0, .ref a_p0), (1, .int p1)]) hx hb dX11_addToTally_1 rfl hl (by decide) rfl (fun ls hl => ?_)
  exact l2 N dv_tallyF p1 0 _ _ _ hf hP hD hS (lv_sub hl [1, 2, 0] rfl)
def dsX11_mostTelling_0 : List (Nat × Instr × Nat) := [(0, (.iconst 0, 1)), (1, (.istore_n 3, 1)), (2, (.iload_n 1, 1)), (3, (.iconst 1, 1)), (4, (.iadd, 1)), (5, (.istore 4, 2)), (7, (.iconst 0, 1)), (8, (.istore 5, 2)), (10, (.iload 5, 2)), (12, (.iload_n 2, 1)), (13, (.bipush 7, 2)), (15, (.imul, 1)), (16, (.if_icmp .ge 69, 3)), (19, (.iload 5, 2)), (21, (.aload_n 0, 1)), (22, (.getfield 58, 3)), (25, (.arraylength, 1)), (26, (.if_icmp .ge 59, 3)), (29, (.aload_n 0, 1)), (30, (.getfield 58, 3)), (33, (.iload 5, 2)), (35, (.iaload, 1)), (36, (.iload_n 1, 1)), (37, (.aload_n 0, 1)), (38, (.getfield 58, 3)), (41, (.iload 5, 2)), (43, (.iaload, 1)), (44, (.isub, 1)), (45, (.invokestatic 299, 3)), (48, (.istore 6, 2)), (50, (.iload 5, 2)), (52, (.bipush 7, 2)), (54, (.irem, 1)), (55, (.aload_n 0, 1)), (56, (.getfield 67, 3)), (59, (.getfield 144, 3)), (62, (.if_icmp .ge 17, 3)), (65, (.iload 6, 2)), (67, (.iload 4, 2)), (69, (.if_icmp .ge 10, 3)), (72, (.iload 6, 2)), (74, (.istore 4, 2)), (76, (.iload 5, 2)), (78, (.istore_n 3, 1)), (79, (.iinc 5 1, 3)), (82, (.goto (-72), 3)), (85, (.iload_n 3, 1)), (86, (.ireturn, 1))]
theorem dsX11_mostTelling_0_ok : (dsX11_mostTelling_0.all fun q => decide (decode cX11_mostTelling q.1 = .ok q.2)) = true := by decide +kernel
theorem dX11_mostTelling_0 : decode cX11_mostTelling 0 = .ok (.iconst 0, 1) := of_decide_eq_true (List.all_eq_true.mp dsX11_mostTelling_0_ok (0, (.iconst 0, 1)) (List.mem_of_getElem? (i := 0) rfl))
theorem dX11_mostTelling_1 : decode cX11_mostTelling 1 = .ok (.istore_n 3, 1) := of_decide_eq_true (List.all_eq_true.mp dsX11_mostTelling_0_ok (1, (.istore_n 3, 1)) (List.mem_of_getElem? (i := 1) rfl))
theorem dX11_mostTelling_2 : decode cX11_mostTelling 2 = .ok (.iload_n 1, 1) := of_decide_eq_true (List.all_eq_true.mp dsX11_mostTelling_0_ok (2, (.iload_n 1, 1)) (List.mem_of_getElem? (i := 2) rfl))
theorem dX11_mostTelling_3 : decode cX11_mostTelling 3 = .ok (.iconst 1, 1) := of_decide_eq_true (List.all_eq_true.mp dsX11_mostTelling_0_ok (3, (.iconst 1, 1)) (List.mem_of_getElem? (i := 3) rfl))
theorem dX11_mostTelling_4 : decode cX11_mostTelling 4 = .ok (.iadd, 1) := of_decide_eq_true (List.all_eq_true.mp dsX11_mostTelling_0_ok (4, (.iadd, 1)) (List.mem_of_getElem? (i := 4) rfl))
theorem dX11_mostTelling_5 : decode cX11_mostTelling 5 = .ok (.istore 4, 2) := of_decide_eq_true (List.all_eq_true.mp dsX11_mostTelling_0_ok (5, (.istore 4, 2)) (List.mem_of_getElem? (i := 5) rfl))
theorem dX11_mostTelling_7 : decode cX11_mostTelling 7 = .ok (.iconst 0, 1) := of_decide_eq_true (List.all_eq_true.mp dsX11_mostTelling_0_ok (7, (.iconst 0, 1)) (List.mem_of_getElem? (i := 6) rfl))
theorem dX11_mostTelling_8 : decode cX11_mostTelling 8 = .ok (.istore 5, 2) := of_decide_eq_true (List.all_eq_true.mp dsX11_mostTelling_0_ok (8, (.istore 5, 2)) (List.mem_of_getElem? (i := 7) rfl))
theorem dX11_mostTelling_10 : decode cX11_mostTelling 10 = .ok (.iload 5, 2) := of_decide_eq_true (List.all_eq_true.mp dsX11_mostTelling_0_ok (10, (.iload 5, 2)) (List.mem_of_getElem? (i := 8) rfl))
theorem dX11_mostTelling_12 : decode cX11_mostTelling 12 = .ok (.iload_n 2, 1) := of_decide_eq_true (List.all_eq_true.mp dsX11_mostTelling_0_ok (12, (.iload_n 2, 1)) (List.mem_of_getElem? (i := 9) rfl))
theorem dX11_mostTelling_13 : decode cX11_mostTelling 13 = .ok (.bipush 7, 2) := of_decide_eq_true (List.all_eq_true.mp dsX11_mostTelling_0_ok (13, (.bipush 7, 2)) (List.mem_of_getElem? (i := 10) rfl))
theorem dX11_mostTelling_15 : decode cX11_mostTelling 15 = .ok (.imul, 1) := of_decide_eq_true (List.all_eq_true.mp dsX11_mostTelling_0_ok (15, (.imul, 1)) (List.mem_of_getElem? (i := 11) rfl))
theorem dX11_mostTelling_16 : decode cX11_mostTelling 16 = .ok (.if_icmp .ge 69, 3) := of_decide_eq_true (List.all_eq_true.mp dsX11_mostTelling_0_ok (16, (.if_icmp .ge 69, 3)) (List.mem_of_getElem? (i := 12) rfl))
theorem dX11_mostTelling_19 : decode cX11_mostTelling 19 = .ok (.iload 5, 2) := of_decide_eq_true (List.all_eq_true.mp dsX11_mostTelling_0_ok (19, (.iload 5, 2)) (List.mem_of_getElem? (i := 13) rfl))
theorem dX11_mostTelling_21 : decode cX11_mostTelling 21 = .ok (.aload_n 0, 1) := of_decide_eq_true (List.all_eq_true.mp dsX11_mostTelling_0_ok (21, (.aload_n 0, 1)) (List.mem_of_getElem? (i := 14) rfl))
theorem dX11_mostTelling_22 : decode cX11_mostTelling 22 = .ok (.getfield 58, 3) := of_decide_eq_true (List.all_eq_true.mp dsX11_mostTelling_0_ok (22, (.getfield 58, 3)) (List.mem_of_getElem? (i := 15) rfl))
theorem dX11_mostTelling_25 : decode cX11_mostTelling 25 = .ok (.arraylength, 1) := of_decide_eq_true (List.all_eq_true.mp dsX11_mostTelling_0_ok (25, (.arraylength, 1)) (List.mem_of_getElem? (i := 16) rfl))
theorem dX11_mostTelling_26 : decode cX11_mostTelling 26 = .ok (.if_icmp .ge 59, 3) := of_decide_eq_true (List.all_eq_true.mp dsX11_mostTelling_0_ok (26, (.if_icmp .ge 59, 3)) (List.mem_of_getElem? (i := 17) rfl))
theorem dX11_mostTelling_29 : decode cX11_mostTelling 29 = .ok (.aload_n 0, 1) := of_decide_eq_true (List.all_eq_true.mp dsX11_mostTelling_0_ok (29, (.aload_n 0, 1)) (List.mem_of_getElem? (i := 18) rfl))
theorem dX11_mostTelling_30 : decode cX11_mostTelling 30 = .ok (.getfield 58, 3) := of_decide_eq_true (List.all_eq_true.mp dsX11_mostTelling_0_ok (30, (.getfield 58, 3)) (List.mem_of_getElem? (i := 19) rfl))
theorem dX11_mostTelling_33 : decode cX11_mostTelling 33 = .ok (.iload 5, 2) := of_decide_eq_true (List.all_eq_true.mp dsX11_mostTelling_0_ok (33, (.iload 5, 2)) (List.mem_of_getElem? (i := 20) rfl))
theorem dX11_mostTelling_35 : decode cX11_mostTelling 35 = .ok (.iaload, 1) := of_decide_eq_true (List.all_eq_true.mp dsX11_mostTelling_0_ok (35, (.iaload, 1)) (List.mem_of_getElem? (i := 21) rfl))
theorem dX11_mostTelling_36 : decode cX11_mostTelling 36 = .ok (.iload_n 1, 1) := of_decide_eq_true (List.all_eq_true.mp dsX11_mostTelling_0_ok (36, (.iload_n 1, 1)) (List.mem_of_getElem? (i := 22) rfl))
theorem dX11_mostTelling_37 : decode cX11_mostTelling 37 = .ok (.aload_n 0, 1) := of_decide_eq_true (List.all_eq_true.mp dsX11_mostTelling_0_ok (37, (.aload_n 0, 1)) (List.mem_of_getElem? (i := 23) rfl))
theorem dX11_mostTelling_38 : decode cX11_mostTelling 38 = .ok (.getfield 58, 3) := of_decide_eq_true (List.all_eq_true.mp dsX11_mostTelling_0_ok (38, (.getfield 58, 3)) (List.mem_of_getElem? (i := 24) rfl))
theorem dX11_mostTelling_41 : decode cX11_mostTelling 41 = .ok (.iload 5, 2) := of_decide_eq_true (List.all_eq_true.mp dsX11_mostTelling_0_ok (41, (.iload 5, 2)) (List.mem_of_getElem? (i := 25) rfl))
theorem dX11_mostTelling_43 : decode cX11_mostTelling 43 = .ok (.iaload, 1) := of_decide_eq_true (List.all_eq_true.mp dsX11_mostTelling_0_ok (43, (.iaload, 1)) (List.mem_of_getElem? (i := 26) rfl))
theorem dX11_mostTelling_44 : decode cX11_mostTelling 44 = .ok (.isub, 1) := of_decide_eq_true (List.all_eq_true.mp dsX11_mostTelling_0_ok (44, (.isub, 1)) (List.mem_of_getElem? (i := 27) rfl))
theorem dX11_mostTelling_45 : decode cX11_mostTelling 45 = .ok (.invokestatic 299, 3) := of_decide_eq_true (List.all_eq_true.mp dsX11_mostTelling_0_ok (45, (.invokestatic 299, 3)) (List.mem_of_getElem? (i := 28) rfl))
theorem dX11_mostTelling_48 : decode cX11_mostTelling 48 = .ok (.istore 6, 2) := of_decide_eq_true (List.all_eq_true.mp dsX11_mostTelling_0_ok (48, (.istore 6, 2)) (List.mem_of_getElem? (i := 29) rfl))
theorem dX11_mostTelling_50 : decode cX11_mostTelling 50 = .ok (.iload 5, 2) := of_decide_eq_true (List.all_eq_true.mp dsX11_mostTelling_0_ok (50, (.iload 5, 2)) (List.mem_of_getElem? (i := 30) rfl))
theorem dX11_mostTelling_52 : decode cX11_mostTelling 52 = .ok (.bipush 7, 2) := of_decide_eq_true (List.all_eq_true.mp dsX11_mostTelling_0_ok (52, (.bipush 7, 2)) (List.mem_of_getElem? (i := 31) rfl))
theorem dX11_mostTelling_54 : decode cX11_mostTelling 54 = .ok (.irem, 1) := of_decide_eq_true (List.all_eq_true.mp dsX11_mostTelling_0_ok (54, (.irem, 1)) (List.mem_of_getElem? (i := 32) rfl))
theorem dX11_mostTelling_55 : decode cX11_mostTelling 55 = .ok (.aload_n 0, 1) := of_decide_eq_true (List.all_eq_true.mp dsX11_mostTelling_0_ok (55, (.aload_n 0, 1)) (List.mem_of_getElem? (i := 33) rfl))
theorem dX11_mostTelling_56 : decode cX11_mostTelling 56 = .ok (.getfield 67, 3) := of_decide_eq_true (List.all_eq_true.mp dsX11_mostTelling_0_ok (56, (.getfield 67, 3)) (List.mem_of_getElem? (i := 34) rfl))
theorem dX11_mostTelling_59 : decode cX11_mostTelling 59 = .ok (.getfield 144, 3) := of_decide_eq_true (List.all_eq_true.mp dsX11_mostTelling_0_ok (59, (.getfield 144, 3)) (List.mem_of_getElem? (i := 35) rfl))
theorem dX11_mostTelling_62 : decode cX11_mostTelling 62 = .ok (.if_icmp .ge 17, 3) := of_decide_eq_true (List.all_eq_true.mp dsX11_mostTelling_0_ok (62, (.if_icmp .ge 17, 3)) (List.mem_of_getElem? (i := 36) rfl))
theorem dX11_mostTelling_65 : decode cX11_mostTelling 65 = .ok (.iload 6, 2) := of_decide_eq_true (List.all_eq_true.mp dsX11_mostTelling_0_ok (65, (.iload 6, 2)) (List.mem_of_getElem? (i := 37) rfl))
theorem dX11_mostTelling_67 : decode cX11_mostTelling 67 = .ok (.iload 4, 2) := of_decide_eq_true (List.all_eq_true.mp dsX11_mostTelling_0_ok (67, (.iload 4, 2)) (List.mem_of_getElem? (i := 38) rfl))
theorem dX11_mostTelling_69 : decode cX11_mostTelling 69 = .ok (.if_icmp .ge 10, 3) := of_decide_eq_true (List.all_eq_true.mp dsX11_mostTelling_0_ok (69, (.if_icmp .ge 10, 3)) (List.mem_of_getElem? (i := 39) rfl))
theorem dX11_mostTelling_72 : decode cX11_mostTelling 72 = .ok (.iload 6, 2) := of_decide_eq_true (List.all_eq_true.mp dsX11_mostTelling_0_ok (72, (.iload 6, 2)) (List.mem_of_getElem? (i := 40) rfl))
theorem dX11_mostTelling_74 : decode cX11_mostTelling 74 = .ok (.istore 4, 2) := of_decide_eq_true (List.all_eq_true.mp dsX11_mostTelling_0_ok (74, (.istore 4, 2)) (List.mem_of_getElem? (i := 41) rfl))
theorem dX11_mostTelling_76 : decode cX11_mostTelling 76 = .ok (.iload 5, 2) := of_decide_eq_true (List.all_eq_true.mp dsX11_mostTelling_0_ok (76, (.iload 5, 2)) (List.mem_of_getElem? (i := 42) rfl))
theorem dX11_mostTelling_78 : decode cX11_mostTelling 78 = .ok (.istore_n 3, 1) := of_decide_eq_true (List.all_eq_true.mp dsX11_mostTelling_0_ok (78, (.istore_n 3, 1)) (List.mem_of_getElem? (i := 43) rfl))
theorem dX11_mostTelling_79 : decode cX11_mostTelling 79 = .ok (.iinc 5 1, 3) := of_decide_eq_true (List.all_eq_true.mp dsX11_mostTelling_0_ok (79, (.iinc 5 1, 3)) (List.mem_of_getElem? (i := 44) rfl))
theorem dX11_mostTelling_82 : decode cX11_mostTelling 82 = .ok (.goto (-72), 3) := of_decide_eq_true (List.all_eq_true.mp dsX11_mostTelling_0_ok (82, (.goto (-72), 3)) (List.mem_of_getElem? (i := 45) rfl))
theorem dX11_mostTelling_85 : decode cX11_mostTelling 85 = .ok (.iload_n 3, 1) := of_decide_eq_true (List.all_eq_true.mp dsX11_mostTelling_0_ok (85, (.iload_n 3, 1)) (List.mem_of_getElem? (i := 46) rfl))
theorem dX11_mostTelling_86 : decode cX11_mostTelling 86 = .ok (.ireturn, 1) := of_decide_eq_true (List.all_eq_true.mp dsX11_mostTelling_0_ok (86, (.ireturn, 1)) (List.mem_of_getElem? (i := 47) rfl))
def fX11_mostTelling_b79 (N : Nat) (dv_tallyF : Nat → Int32) (homeI : Nat → Int32)  (k10 : (Int32 × Int32 × Int32 × Int32 × Int32) → Option (Int32)) : (Int32 × Int32 × Int32 × Int32 × Int32) → Option (Int32) :=
  fun (x1_79, x2_79, x3_79, x4_79, x5_79) => k10 (x1_79, x2_79, x3_79, x4_79, x5_79 + 1)
def fX11_mostTelling_l10 (N : Nat) (dv_tallyF : Nat → Int32) (homeI : Nat → Int32)  (k10 : (Int32 × Int32 × Int32 × Int32 × Int32) → Option (Int32)) : (Int32 × Int32 × Int32 × Int32 × Int32) → Option (Int32) :=
  fun (x1_10, x2_10, x3_10, x4_10, x5_10) => (if (x2_10 * 7) ≤ x5_10 then some x3_10 else (if 217 ≤ x5_10 then some x3_10 else (xq_bd (xq_ald 217 dv_tallyF x5_10) fun v_1 => (xq_bd (xq_ald 217 dv_tallyF x5_10) fun v_2 => (xq_bd (xq_rm x5_10 7) fun v_3 => (if (homeI 5) ≤ v_3 then fX11_mostTelling_b79 N dv_tallyF homeI k10 (x1_10, x2_10, x3_10, x4_10, x5_10) else (if x4_10 ≤ (xq_max v_1 (x1_10 - v_2)) then fX11_mostTelling_b79 N dv_tallyF homeI k10 (x1_10, x2_10, x3_10, x4_10, x5_10) else fX11_mostTelling_b79 N dv_tallyF homeI k10 (x1_10, x2_10, x5_10, xq_max v_1 (x1_10 - v_2), x5_10))))))))
def fX11_mostTelling (N : Nat) (dv_tallyF : Nat → Int32) (homeI : Nat → Int32)  (p1 : Int32) (p2 : Int32) : Option (Int32) :=
  xq_loop (fX11_mostTelling_l10 N dv_tallyF homeI) N (p1, p2, 0, p1 + 1, 0)
set_option maxHeartbeats 4000000 in
set_option maxRecDepth 100000 in
theorem kX11_mostTelling (l : Launch) (dC : Nat → ClassId) (dI : Nat → Nat → Nat) (cI cB cJ cZ cM : ClassId) (z : Nat) (ad : Nat → Nat) (N : Nat) (a_p0 : Nat) (dvI : Nat → Int32) (dvR : Nat → Nat) (dv_tallyF : Nat → Int32) (homeI : Nat → Int32) (homeR : Nat → Nat) (p1 : Int32) (p2 : Int32) {r0 : Int32} (hf : fX11_mostTelling N dv_tallyF homeI p1 p2 = some r0) : xq_Ct l yX11_mostTelling wsX11_mostTelling { frames := 1, cells := 0, slots := 0, locals := 24 } (dC, dI) vwCl (xq_tys cI cB cJ cZ cM) z ad [.ref a_p0, .int p1, .int p2] [(a_p0, .inr (11, oX11 dvI dvR)), ((dvR 8), .inl (cI, 217, .inl dv_tallyF)), ((dvR 10), .inr (2, oX2 homeI homeR))] [(a_p0, .inr (11, oX11 dvI dvR)), ((dvR 8), .inl (cI, 217, .inl dv_tallyF)), ((dvR 10), .inr (2, oX2 homeI homeR))] (some (.int r0)) := by
  intro sz
  refine Met.ofW (cc := cX11_mostTelling) (maxL := 7) (ret := (some .int)) (by decide) rfl ?_
  intro p e s m args below meth c s₁ B hml hv
  obtain ⟨rfl, hsz, hP, hK, hD0, hE, hz⟩ := hv
  have hx := B.exec
  have hb := B.bytes
  have hr := B.returns
  have hts := atoms_spec (ws := wsX11_mostTelling) B.pre
  have hown : s.vm.findClass RX11 = some m.cls := findClass_of_methodNamed B.named
  have hlocks := B.notSynchronized
  subst hsz
  have hD := hD0.self (sz := s.heap.size)
  have hN := xq_Env.of hE hz hD0
  generalize hAe : va_A [(a_p0, .inr (11, oX11 dvI dvR)), ((dvR 8), .inl (cI, 217, .inl dv_tallyF)), ((dvR 10), .inr (2, oX2 homeI homeR))] s.heap.size = A at hD hN ⊢
  have hA : ∀ q : Nat, s.heap.size ≤ q → A q := fun q h => by rw [← hAe]; exact Or.inr h
  clear hAe hD0
  have hS : va_S A s.heap s.heap [] := va_S.rf
  have hl := lv_entry ([.ref a_p0, .int p1, .int p2]) (n := 7) (Nat.le_of_ble_eq_true rfl)
  rw [lg_entry_eq]
  generalize (lg_sl ([.ref a_p0, .int p1, .int p2]) ++ List.replicate (7 - (lg_sl ([.ref a_p0, .int p1, .int p2])).length) Slot.unset).toArray = ls at hl ⊢
  have hl : lv_has ls 7 [(0, .ref a_p0), (1, .int p1), (2, .int p2)] := hl
  have hw0 := hts (.fieldLink RX11 58 "DistantVoice" "tally" "[I") (by decide +kernel)
  have hinX11 : ∀ w ∈ wsX110, w ∈ wsX11_mostTelling := fun w h => List.mem_cons_of_mem _ (List.mem_append_left _ (List.mem_append_right _ h))
  have hw2 := hts (.methodLink RX11 299 Lib.Math.max.name) (by decide +kernel)
  have hw3 := hts (.static Lib.Math.max.name) (by decide +kernel)
  have hw4 := hts (.initialized "java/lang/Math") (by decide +kernel)
  have hw5 := hts (.code Lib.Math.max.name Lib.Math.max.code 2 (some .int)) (by decide +kernel)
  have hw6 := hts (.fieldLink RX11 67 "DistantVoice" "home" "LDistantVoice$House;") (by decide +kernel)
  have hnf48 := va_Nw.use (A := [.ref a_p0, .int p1, .int p2].toArray) rfl (hN.1.1.1 ("DistantVoice", 144, "DistantVoice$House", "ears", "I", "DistantVoice") (List.mem_of_getElem? (i := 48) rfl))
  have hinX2 : ∀ w ∈ wsX20, w ∈ wsX11_mostTelling := fun w h => List.mem_cons_of_mem _ (List.mem_append_right _ h)
  have l10 : ∀ n10 : Nat, ∀ (x1_10 : Int32) (x2_10 : Int32) (x3_10 : Int32) (x4_10 : Int32) (x5_10 : Int32) (ls : Array Slot) (H : Heap) (locs : List Loc), xq_loop (fX11_mostTelling_l10 N dv_tallyF homeI) n10 (x1_10, x2_10, x3_10, x4_10, x5_10) = some r0 → va_P (dC, dI) vwCl [(a_p0, .inr (11, oX11 dvI dvR)), ((dvR 8), .inl (cI, 217, .inl dv_tallyF)), ((dvR 10), .inr (2, oX2 homeI homeR))] H → va_D A [(a_p0, .inr (11, oX11 dvI dvR)), ((dvR 8), .inl (cI, 217, .inl dv_tallyF)), ((dvR 10), .inr (2, oX2 homeI homeR))] → va_S A s.heap H locs → lv_has ls 7 [(0, .ref a_p0), (1, .int x1_10), (2, .int x2_10), (3, .int x3_10), (4, .int x4_10), (5, .int x5_10)] → W p l e (headSpec wsX11_mostTelling { frames := 1, cells := 0, slots := 0, locals := 24 }).room s m [.ref a_p0, .int p1, .int p2].toArray below meth c H locs 0 0 (MQ below (xq_Q (dC, dI) vwCl (xq_tys cI cB cJ cZ cM) A [(a_p0, .inr (11, oX11 dvI dvR)), ((dvR 8), .inl (cI, 217, .inl dv_tallyF)), ((dvR 10), .inr (2, oX2 homeI homeR))] (some (.int r0))) [.ref a_p0, .int p1, .int p2].toArray s 0 0 A) (F0 m 10 ls []) := by
    intro n10
    induction n10 with
    | zero => intro x1_10 x2_10 x3_10 x4_10 x5_10 ls H locs hf; cases (show none = some r0 from hf)
    | succ n10 ih10 =>
      have b79 : ∀ (x1_79 : Int32) (x2_79 : Int32) (x3_79 : Int32) (x4_79 : Int32) (x5_79 : Int32) (ls : Array Slot) (H : Heap) (locs : List Loc), fX11_mostTelling_b79 N dv_tallyF homeI (xq_loop (fX11_mostTelling_l10 N dv_tallyF homeI) n10) (x1_79, x2_79, x3_79, x4_79, x5_79) = some r0 → va_P (dC, dI) vwCl [(a_p0, .inr (11, oX11 dvI dvR)), ((dvR 8), .inl (cI, 217, .inl dv_tallyF)), ((dvR 10), .inr (2, oX2 homeI homeR))] H → va_D A [(a_p0, .inr (11, oX11 dvI dvR)), ((dvR 8), .inl (cI, 217, .inl dv_tallyF)), ((dvR 10), .inr (2, oX2 homeI homeR))] → va_S A s.heap H locs → lv_has ls 7 [(0, .ref a_p0), (1, .int x1_79), (2, .int x2_79), (3, .int x3_79), (4, .int x4_79), (5, .int x5_79)] → W p l e (headSpec wsX11_mostTelling { frames := 1, cells := 0, slots := 0, locals := 24 }).room s m [.ref a_p0, .int p1, .int p2].toArray below meth c H locs 0 0 (MQ below (xq_Q (dC, dI) vwCl (xq_tys cI cB cJ cZ cM) A [(a_p0, .inr (11, oX11 dvI dvR)), ((dvR 8), .inl (cI, 217, .inl dv_tallyF)), ((dvR 10), .inr (2, oX2 homeI homeR))] (some (.int r0))) [.ref a_p0, .int p1, .int p2].toArray s 0 0 A) (F0 m 79 ls []) := by
        intro x1_79 x2_79 x3_79 x4_79 x5_79 ls H locs hf hP hD hS hl
        unfold fX11_mostTelling_b79 at hf
        refine lv_iinc (v := x5_79 + 1) (lv' := [(5, .int (x5_79 + 1)), (0, .ref a_p0), (1, .int x1_79), (2, .int x2_79), (3, .int x3_79), (4, .int x4_79)]) hx hb dX11_mostTelling_79 hl (k := 5) rfl (congrArg (fun q9 => x5_79 + q9) (by decide : Int32.ofInt 1 = 1)) (by decide) rfl (fun ls hl => ?_)
        refine lv_goto (tgt := 10) hx hb dX11_mostTelling_82 (by decide) ?_
        exact ih10 x1_79 x2_79 x3_79 x4_79 (x5_79 + 1) _ _ _ hf hP hD hS (lv_sub hl [1, 2, 3, 4, 5, 0] rfl)
      intro x1_10 x2_10 x3_10 x4_10 x5_10 ls H locs hf hP hD hS hl
      have hf : fX11_mostTelling_l10 N dv_tallyF homeI (xq_loop (fX11_mostTelling_l10 N dv_tallyF homeI) n10) (x1_10, x2_10, x3_10, x4_10, x5_10) = some r0 := hf
      unfold fX11_mostTelling_l10 at hf
      refine lv_iload hx hb dX11_mostTelling_10 (lv_at hl 5 rfl) ?_
      refine lv_iload_n hx hb dX11_mostTelling_12 rfl (lv_at hl 2 rfl) ?_
      refine lv_bipush (v := 7) hx hb dX11_mostTelling_13 (by decide) ?_
      refine lv_imul hx hb dX11_mostTelling_15 ?_
      refine lv_icmp_ge (tgt := 85) hx hb dX11_mostTelling_16 (by decide) (fun c_ => ?_) (fun c_ => ?_)
      · have hf := xq_pos hf c_
        refine lv_iload_n hx hb dX11_mostTelling_85 rfl (lv_at hl 3 rfl) ?_
        cases hf
        exact xq_iret hx hb hr hlocks hK hP hD hS dX11_mostTelling_86
      · have hf := xq_neg hf c_
        refine lv_iload hx hb dX11_mostTelling_19 (lv_at hl 5 rfl) ?_
        refine lv_aload_n hx hb dX11_mostTelling_21 rfl (lv_at hl 0 rfl) ?_
        refine va_get (D := (dC, dI)) (ci := 11) (v := .ref ((dvR 8))) (C := RX11) (T := TX11) (N := 15) hx hb hts hinX11 hown hK hP 0 rfl rfl 8 (by decide) hw0 (fun _ h9 => h9) rfl dX11_mostTelling_22 ?_
        refine va_alen hx hb hK hP 1 0 (v := 217) rfl rfl rfl dX11_mostTelling_25 ?_
        refine lv_icmp_ge (tgt := 85) hx hb dX11_mostTelling_26 (by decide) (fun c_ => ?_) (fun c_ => ?_)
        · have hf := xq_pos hf c_
          refine lv_iload_n hx hb dX11_mostTelling_85 rfl (lv_at hl 3 rfl) ?_
          cases hf
          exact xq_iret hx hb hr hlocks hK hP hD hS dX11_mostTelling_86
        · have hf := xq_neg hf c_
          refine lv_aload_n hx hb dX11_mostTelling_29 rfl (lv_at hl 0 rfl) ?_
          refine va_get (D := (dC, dI)) (ci := 11) (v := .ref ((dvR 8))) (C := RX11) (T := TX11) (N := 15) hx hb hts hinX11 hown hK hP 0 rfl rfl 8 (by decide) hw0 (fun _ h9 => h9) rfl dX11_mostTelling_30 ?_
          refine lv_iload hx hb dX11_mostTelling_33 (lv_at hl 5 rfl) ?_
          refine xq_iald hx hb hK hP 1 0 rfl rfl hf dX11_mostTelling_35 (fun v_1 hf => ?_)
          refine lv_iload_n hx hb dX11_mostTelling_36 rfl (lv_at hl 1 rfl) ?_
          refine lv_aload_n hx hb dX11_mostTelling_37 rfl (lv_at hl 0 rfl) ?_
          refine va_get (D := (dC, dI)) (ci := 11) (v := .ref ((dvR 8))) (C := RX11) (T := TX11) (N := 15) hx hb hts hinX11 hown hK hP 0 rfl rfl 8 (by decide) hw0 (fun _ h9 => h9) rfl dX11_mostTelling_38 ?_
          refine lv_iload hx hb dX11_mostTelling_41 (lv_at hl 5 rfl) ?_
          refine xq_iald hx hb hK hP 1 0 rfl rfl hf dX11_mostTelling_43 (fun v_2 hf => ?_)
          refine lv_isub hx hb dX11_mostTelling_44 ?_
          refine va_mmax hx hb (hml.trans hl.1.symm) hown hw2 hw3 hw4 hw5 (Nat.le_of_ble_eq_true rfl) (Nat.le_of_ble_eq_true rfl) (Nat.zero_le _) (Nat.zero_le _) dX11_mostTelling_45 ?_
          refine W.eq (g2 := F0 m 48 ls [.int (xq_max v_1 (x1_10 - v_2))]) rfl ?_
          refine lv_istore (lv' := [(6, .int (xq_max v_1 (x1_10 - v_2))), (0, .ref a_p0), (1, .int x1_10), (2, .int x2_10), (3, .int x3_10), (4, .int x4_10), (5, .int x5_10)]) hx hb dX11_mostTelling_48 hl (by decide) rfl (fun ls hl => ?_)
          refine lv_iload hx hb dX11_mostTelling_50 (lv_at hl 6 rfl) ?_
          refine lv_bipush (v := 7) hx hb dX11_mostTelling_52 (by decide) ?_
          refine xq_irem hx hb hf dX11_mostTelling_54 (fun v_3 hf => ?_)
          refine lv_aload_n hx hb dX11_mostTelling_55 rfl (lv_at hl 1 rfl) ?_
          refine va_get (D := (dC, dI)) (ci := 11) (v := .ref ((dvR 10))) (C := RX11) (T := TX11) (N := 15) hx hb hts hinX11 hown hK hP 0 rfl rfl 10 (by decide) hw6 (fun _ h9 => h9) rfl dX11_mostTelling_56 ?_
          refine va_getN (D := (dC, dI)) (ci := 2) (v := .int (homeI 5)) (C := RX2) (T := TX2) (N := 19) hx hb hts hinX2 hown hK hP 2 rfl rfl 5 (by decide) hnf48 (fun _ h9 => h9) rfl dX11_mostTelling_59 ?_
          refine lv_icmp_ge (tgt := 79) hx hb dX11_mostTelling_62 (by decide) (fun c_ => ?_) (fun c_ => ?_)
          · have hf := xq_pos hf c_
            exact b79 x1_10 x2_10 x3_10 x4_10 x5_10 _ _ _ hf hP hD hS (lv_sub hl [1, 2, 3, 4, 5, 6] rfl)
          · have hf := xq_neg hf c_
            refine lv_iload hx hb dX11_mostTelling_65 (lv_at hl 0 rfl) ?_
            refine lv_iload hx hb dX11_mostTelling_67 (lv_at hl 5 rfl) ?_
            refine lv_icmp_ge (tgt := 79) hx hb dX11_mostTelling_69 (by decide) (fun c_ => ?_) (fun c_ => ?_)
            · have hf := xq_pos hf c_
              exact b79 x1_10 x2_10 x3_10 x4_10 x5_10 _ _ _ hf hP hD hS (lv_sub hl [1, 2, 3, 4, 5, 6] rfl)
            · have hf := xq_neg hf c_
              refine lv_iload hx hb dX11_mostTelling_72 (lv_at hl 0 rfl) ?_
              refine lv_istore (lv' := [(4, .int (xq_max v_1 (x1_10 - v_2))), (6, .int (xq_max v_1 (x1_10 - v_2))), (0, .ref a_p0), (1, .int x1_10), (2, .int x2_10), (3, .int x3_10), (5, .int x5_10)]) hx hb dX11_mostTelling_74 hl (by decide) rfl (fun ls hl => ?_)
              refine lv_iload hx hb dX11_mostTelling_76 (lv_at hl 6 rfl) ?_
              refine lv_istore_n (lv' := [(3, .int x5_10), (4, .int (xq_max v_1 (x1_10 - v_2))), (6, .int (xq_max v_1 (x1_10 - v_2))), (0, .ref a_p0), (1, .int x1_10), (2, .int x2_10), (5, .int x5_10)]) hx hb dX11_mostTelling_78 rfl hl (by decide) rfl (fun ls hl => ?_)
              exact b79 x1_10 x2_10 x5_10 (xq_max v_1 (x1_10 - v_2)) x5_10 _ _ _ hf hP hD hS (lv_sub hl [3, 4, 5, 0, 1, 6] rfl)
  unfold fX11_mostTelling at hf
  refine lv_iconst (v := 0) hx hb dX11_mostTelling_0 (by decide) ?_
  refine lv_istore_n (lv' := [(3, .int 0), (0, .ref a_p0), (1, .int p1), (2, .int p2)]) hx hb dX11_mostTelling_1 rfl hl (by decide) rfl (fun ls hl => ?_)
  refine lv_iload_n hx hb dX11_mostTelling_2 rfl (lv_at hl 2 rfl) ?_
  refine lv_iconst (v := 1) hx hb dX11_mostTelling_3 (by decide) ?_
  refine lv_iadd hx hb dX11_mostTelling_4 ?_
  refine lv_istore (lv' := [(4, .int (p1 + 1)), (3, .int 0), (0, .ref a_p0), (1, .int p1), (2, .int p2)]) hx hb dX11_mostTelling_5 hl (by decide) rfl (fun ls hl => ?_)
  refine lv_iconst (v := 0) hx hb dX11_mostTelling_7 (by decide) ?_
  refine lv_istore (lv' := [(5, .int 0), (4, .int (p1 + 1)), (3, .int 0), (0, .ref a_p0), (1, .int p1), (2, .int p2)]) hx hb dX11_mostTelling_8 hl (by decide) rfl (fun ls hl => ?_)
  exact l10 N p1 p2 0 (p1 + 1) 0 _ _ _ hf hP hD hS (lv_sub hl [3, 4, 5, 2, 1, 0] rfl)
def dsX11_draw_0 : List (Nat × Instr × Nat) := [(0, (.aload_n 0, 1)), (1, (.ldc2_w 340, 3)), (4, (.aload_n 0, 1)), (5, (.getfield 80, 3)), (8, (.i2l, 1)), (9, (.lmul, 1)), (10, (.ldc2_w 342, 3)), (13, (.ladd, 1)), (14, (.ldc2_w 344, 3)), (17, (.lrem, 1)), (18, (.l2i, 1)), (19, (.putfield 80, 3)), (22, (.iload_n 1, 1)), (23, (.iconst 1, 1)), (24, (.if_icmp .ge 7, 3)), (27, (.iconst 0, 1)), (28, (.goto 12, 3)), (31, (.aload_n 0, 1)), (32, (.getfield 80, 3)), (35, (.bipush 64, 2)), (37, (.idiv, 1)), (38, (.iload_n 1, 1)), (39, (.irem, 1)), (40, (.ireturn, 1))]
theorem dsX11_draw_0_ok : (dsX11_draw_0.all fun q => decide (decode cX11_draw q.1 = .ok q.2)) = true := by decide +kernel
theorem dX11_draw_0 : decode cX11_draw 0 = .ok (.aload_n 0, 1) := of_decide_eq_true (List.all_eq_true.mp dsX11_draw_0_ok (0, (.aload_n 0, 1)) (List.mem_of_getElem? (i := 0) rfl))
theorem dX11_draw_1 : decode cX11_draw 1 = .ok (.ldc2_w 340, 3) := of_decide_eq_true (List.all_eq_true.mp dsX11_draw_0_ok (1, (.ldc2_w 340, 3)) (List.mem_of_getElem? (i := 1) rfl))
theorem dX11_draw_4 : decode cX11_draw 4 = .ok (.aload_n 0, 1) := of_decide_eq_true (List.all_eq_true.mp dsX11_draw_0_ok (4, (.aload_n 0, 1)) (List.mem_of_getElem? (i := 2) rfl))
theorem dX11_draw_5 : decode cX11_draw 5 = .ok (.getfield 80, 3) := of_decide_eq_true (List.all_eq_true.mp dsX11_draw_0_ok (5, (.getfield 80, 3)) (List.mem_of_getElem? (i := 3) rfl))
theorem dX11_draw_8 : decode cX11_draw 8 = .ok (.i2l, 1) := of_decide_eq_true (List.all_eq_true.mp dsX11_draw_0_ok (8, (.i2l, 1)) (List.mem_of_getElem? (i := 4) rfl))
theorem dX11_draw_9 : decode cX11_draw 9 = .ok (.lmul, 1) := of_decide_eq_true (List.all_eq_true.mp dsX11_draw_0_ok (9, (.lmul, 1)) (List.mem_of_getElem? (i := 5) rfl))
theorem dX11_draw_10 : decode cX11_draw 10 = .ok (.ldc2_w 342, 3) := of_decide_eq_true (List.all_eq_true.mp dsX11_draw_0_ok (10, (.ldc2_w 342, 3)) (List.mem_of_getElem? (i := 6) rfl))
theorem dX11_draw_13 : decode cX11_draw 13 = .ok (.ladd, 1) := of_decide_eq_true (List.all_eq_true.mp dsX11_draw_0_ok (13, (.ladd, 1)) (List.mem_of_getElem? (i := 7) rfl))
theorem dX11_draw_14 : decode cX11_draw 14 = .ok (.ldc2_w 344, 3) := of_decide_eq_true (List.all_eq_true.mp dsX11_draw_0_ok (14, (.ldc2_w 344, 3)) (List.mem_of_getElem? (i := 8) rfl))
theorem dX11_draw_17 : decode cX11_draw 17 = .ok (.lrem, 1) := of_decide_eq_true (List.all_eq_true.mp dsX11_draw_0_ok (17, (.lrem, 1)) (List.mem_of_getElem? (i := 9) rfl))
theorem dX11_draw_18 : decode cX11_draw 18 = .ok (.l2i, 1) := of_decide_eq_true (List.all_eq_true.mp dsX11_draw_0_ok (18, (.l2i, 1)) (List.mem_of_getElem? (i := 10) rfl))
theorem dX11_draw_19 : decode cX11_draw 19 = .ok (.putfield 80, 3) := of_decide_eq_true (List.all_eq_true.mp dsX11_draw_0_ok (19, (.putfield 80, 3)) (List.mem_of_getElem? (i := 11) rfl))
theorem dX11_draw_22 : decode cX11_draw 22 = .ok (.iload_n 1, 1) := of_decide_eq_true (List.all_eq_true.mp dsX11_draw_0_ok (22, (.iload_n 1, 1)) (List.mem_of_getElem? (i := 12) rfl))
theorem dX11_draw_23 : decode cX11_draw 23 = .ok (.iconst 1, 1) := of_decide_eq_true (List.all_eq_true.mp dsX11_draw_0_ok (23, (.iconst 1, 1)) (List.mem_of_getElem? (i := 13) rfl))
theorem dX11_draw_24 : decode cX11_draw 24 = .ok (.if_icmp .ge 7, 3) := of_decide_eq_true (List.all_eq_true.mp dsX11_draw_0_ok (24, (.if_icmp .ge 7, 3)) (List.mem_of_getElem? (i := 14) rfl))
theorem dX11_draw_27 : decode cX11_draw 27 = .ok (.iconst 0, 1) := of_decide_eq_true (List.all_eq_true.mp dsX11_draw_0_ok (27, (.iconst 0, 1)) (List.mem_of_getElem? (i := 15) rfl))
theorem dX11_draw_28 : decode cX11_draw 28 = .ok (.goto 12, 3) := of_decide_eq_true (List.all_eq_true.mp dsX11_draw_0_ok (28, (.goto 12, 3)) (List.mem_of_getElem? (i := 16) rfl))
theorem dX11_draw_31 : decode cX11_draw 31 = .ok (.aload_n 0, 1) := of_decide_eq_true (List.all_eq_true.mp dsX11_draw_0_ok (31, (.aload_n 0, 1)) (List.mem_of_getElem? (i := 17) rfl))
theorem dX11_draw_32 : decode cX11_draw 32 = .ok (.getfield 80, 3) := of_decide_eq_true (List.all_eq_true.mp dsX11_draw_0_ok (32, (.getfield 80, 3)) (List.mem_of_getElem? (i := 18) rfl))
theorem dX11_draw_35 : decode cX11_draw 35 = .ok (.bipush 64, 2) := of_decide_eq_true (List.all_eq_true.mp dsX11_draw_0_ok (35, (.bipush 64, 2)) (List.mem_of_getElem? (i := 19) rfl))
theorem dX11_draw_37 : decode cX11_draw 37 = .ok (.idiv, 1) := of_decide_eq_true (List.all_eq_true.mp dsX11_draw_0_ok (37, (.idiv, 1)) (List.mem_of_getElem? (i := 20) rfl))
theorem dX11_draw_38 : decode cX11_draw 38 = .ok (.iload_n 1, 1) := of_decide_eq_true (List.all_eq_true.mp dsX11_draw_0_ok (38, (.iload_n 1, 1)) (List.mem_of_getElem? (i := 21) rfl))
theorem dX11_draw_39 : decode cX11_draw 39 = .ok (.irem, 1) := of_decide_eq_true (List.all_eq_true.mp dsX11_draw_0_ok (39, (.irem, 1)) (List.mem_of_getElem? (i := 22) rfl))
theorem dX11_draw_40 : decode cX11_draw 40 = .ok (.ireturn, 1) := of_decide_eq_true (List.all_eq_true.mp dsX11_draw_0_ok (40, (.ireturn, 1)) (List.mem_of_getElem? (i := 23) rfl))
def fX11_draw (N : Nat) (dvI : Nat → Int32)  (p1 : Int32) : Option (Int32 × (Nat → Int32)) :=
  (xq_bd (xq_rmL ((1103515245 * ((dvI 12).toInt64)) + 12345) 2147483648) fun v_1 => (if 1 ≤ p1 then (xq_bd (xq_dv v_1.toInt32 64) fun v_2 => (xq_bd (xq_rm v_2 p1) fun v_3 => some ((v_3, (va_up dvI 12 v_1.toInt32))))) else some ((0, (va_up dvI 12 v_1.toInt32)))))
set_option maxHeartbeats 4000000 in
set_option maxRecDepth 100000 in
theorem kX11_draw (l : Launch) (dC : Nat → ClassId) (dI : Nat → Nat → Nat) (cI cB cJ cZ cM : ClassId) (z : Nat) (ad : Nat → Nat) (N : Nat) (a_p0 : Nat) (dvI : Nat → Int32) (dvR : Nat → Nat) (p1 : Int32) {r0 : Int32} {r1 : Nat → Int32} (hf : fX11_draw N dvI p1 = some (r0, r1)) : xq_Ct l yX11_draw wsX11_draw { frames := 0, cells := 0, slots := 0, locals := 0 } (dC, dI) vwCl (xq_tys cI cB cJ cZ cM) z ad [.ref a_p0, .int p1] [(a_p0, .inr (11, oX11 dvI dvR))] [(a_p0, .inr (11, oX11 r1 dvR))] (some (.int r0)) := by
  intro sz
  refine Met.ofW (cc := cX11_draw) (maxL := 2) (ret := (some .int)) (by decide) rfl ?_
  intro p e s m args below meth c s₁ B hml hv
  obtain ⟨rfl, hsz, hP, hK, hD0, hE, hz⟩ := hv
  have hx := B.exec
  have hb := B.bytes
  have hr := B.returns
  have hts := atoms_spec (ws := wsX11_draw) B.pre
  have hown : s.vm.findClass RX11 = some m.cls := findClass_of_methodNamed B.named
  have hlocks := B.notSynchronized
  subst hsz
  have hD := hD0.self (sz := s.heap.size)
  have hN := xq_Env.of hE hz hD0
  generalize hAe : va_A [(a_p0, .inr (11, oX11 dvI dvR))] s.heap.size = A at hD hN ⊢
  have hA : ∀ q : Nat, s.heap.size ≤ q → A q := fun q h => by rw [← hAe]; exact Or.inr h
  clear hAe hD0
  have hS : va_S A s.heap s.heap [] := va_S.rf
  have hl := lv_entry ([.ref a_p0, .int p1]) (n := 2) (Nat.le_of_ble_eq_true rfl)
  rw [lg_entry_eq]
  generalize (lg_sl ([.ref a_p0, .int p1]) ++ List.replicate (2 - (lg_sl ([.ref a_p0, .int p1])).length) Slot.unset).toArray = ls at hl ⊢
  have hl : lv_has ls 2 [(0, .ref a_p0), (1, .int p1)] := hl
  have hw0 := hts (.constantLong RX11 340 (1103515245)) (by decide +kernel)
  have hw1 := hts (.fieldLink RX11 80 "DistantVoice" "drawn" "I") (by decide +kernel)
  have hinX11 : ∀ w ∈ wsX110, w ∈ wsX11_draw := fun w h => List.mem_cons_of_mem _ (List.mem_append_right _ h)
  have hw3 := hts (.constantLong RX11 342 (12345)) (by decide +kernel)
  have hw4 := hts (.constantLong RX11 344 (2147483648)) (by decide +kernel)
  unfold fX11_draw at hf
  refine lv_aload_n hx hb dX11_draw_0 rfl (lv_at hl 0 rfl) ?_
  refine lv_ldc2 (v := 1103515245) hx hb hown hw0 dX11_draw_1 ?_
  refine lv_aload_n hx hb dX11_draw_4 rfl (lv_at hl 0 rfl) ?_
  refine va_get (D := (dC, dI)) (ci := 11) (v := .int (dvI 12)) (C := RX11) (T := TX11) (N := 15) hx hb hts hinX11 hown hK hP 0 rfl rfl 12 (by decide) hw1 (fun _ h9 => h9) rfl dX11_draw_5 ?_
  refine lv_i2l (v := (dvI 12).toInt64) hx hb dX11_draw_8 rfl ?_
  refine lv_lmul hx hb dX11_draw_9 ?_
  refine lv_ldc2 (v := 12345) hx hb hown hw3 dX11_draw_10 ?_
  refine lv_ladd hx hb dX11_draw_13 ?_
  refine lv_ldc2 (v := 2147483648) hx hb hown hw4 dX11_draw_14 ?_
  refine xq_lrem hx hb hf dX11_draw_17 (fun v_1 hf => ?_)
  refine lv_l2i (v := v_1.toInt32) hx hb dX11_draw_18 rfl ?_
  refine va_put (D := (dC, dI)) (ci := 11) (v := .int v_1.toInt32) (ty := .int) (C := RX11) (T := TX11) (N := 15) hx hb hts hinX11 tyX11 tyX11_ok nmX11 hown hK hP hD hS 0 rfl rfl 12 (by decide) hw1 (fun _ h9 => h9) rfl (by decide +kernel) rfl rfl (Nat.le_of_ble_eq_true rfl) dX11_draw_19 (fun H locs hP hD hS => ?_)
  have hP : va_P (dC, dI) vwCl [(a_p0, .inr (11, oX11 (va_up dvI 12 v_1.toInt32) dvR))] H := hP
  have hD : va_D A [(a_p0, .inr (11, oX11 (va_up dvI 12 v_1.toInt32) dvR))] := hD
  refine lv_iload_n hx hb dX11_draw_22 rfl (lv_at hl 1 rfl) ?_
  refine lv_iconst (v := 1) hx hb dX11_draw_23 (by decide) ?_
  refine lv_icmp_ge (tgt := 31) hx hb dX11_draw_24 (by decide) (fun c_ => ?_) (fun c_ => ?_)
  · have hf := xq_pos hf c_
    refine lv_aload_n hx hb dX11_draw_31 rfl (lv_at hl 0 rfl) ?_
    refine va_get (D := (dC, dI)) (ci := 11) (v := .int v_1.toInt32) (C := RX11) (T := TX11) (N := 15) hx hb hts hinX11 hown hK hP 0 rfl rfl 12 (by decide) hw1 (fun _ h9 => h9) rfl dX11_draw_32 ?_
    refine lv_bipush (v := 64) hx hb dX11_draw_35 (by decide) ?_
    refine xq_idiv hx hb hf dX11_draw_37 (fun v_2 hf => ?_)
    refine lv_iload_n hx hb dX11_draw_38 rfl (lv_at hl 1 rfl) ?_
    refine xq_irem hx hb hf dX11_draw_39 (fun v_3 hf => ?_)
    cases hf
    exact xq_iret hx hb hr hlocks hK hP hD hS dX11_draw_40
  · have hf := xq_neg hf c_
    refine lv_iconst (v := 0) hx hb dX11_draw_27 (by decide) ?_
    refine lv_goto (tgt := 40) hx hb dX11_draw_28 (by decide) ?_
    cases hf
    exact xq_iret hx hb hr hlocks hK hP hD hS dX11_draw_40
set_option maxRecDepth 20000 in
theorem ggX11_feed_X11_refuseNumber : GoodIn wsX11_feed wsX11_refuseNumber := goodIn_r _ [6, 7, 15, 16, 17, 18, 19, 20, 21, 22, 23, 24, 25, 26, 27, 28, 29] rfl (by decide +kernel)
set_option maxRecDepth 20000 in
theorem gX11_feed_X11_refuseNumber : GoodIn wsX11_feed (wsV RX11 93 RX11 yX11_refuseNumber wsX11_refuseNumber) := goodIn_app (goodIn_of _ (by decide +kernel)) ggX11_feed_X11_refuseNumber
set_option maxRecDepth 20000 in
theorem ggX11_feed_X9_add : GoodIn wsX11_feed wsX9_add := goodIn_r _ [12, 13, 14, 30, 31] rfl (by decide +kernel)
set_option maxRecDepth 20000 in
theorem gX11_feed_X9_add : GoodIn wsX11_feed (wsV RX11 97 RX9 yX9_add wsX9_add) := goodIn_app (goodIn_of _ (by decide +kernel)) ggX11_feed_X9_add
def dsX11_feed_0 : List (Nat × Instr × Nat) := [(0, (.aload_n 0, 1)), (1, (.getfield 10, 3)), (4, (.getfield 90, 3)), (7, (.sipush 1580, 3)), (10, (.if_icmp .le 9, 3)), (13, (.aload_n 0, 1)), (14, (.iconst 0, 1)), (15, (.invokevirtual 93, 3)), (18, (.ireturn, 1)), (19, (.aload_n 0, 1)), (20, (.getfield 10, 3)), (23, (.iload_n 1, 1)), (24, (.invokevirtual 97, 3)), (27, (.aload_n 0, 1)), (28, (.getfield 10, 3)), (31, (.iload_n 2, 1)), (32, (.invokevirtual 97, 3)), (35, (.aload_n 0, 1)), (36, (.getfield 10, 3)), (39, (.iload_n 3, 1)), (40, (.invokevirtual 97, 3)), (43, (.aload_n 0, 1)), (44, (.getfield 10, 3)), (47, (.iload 4, 2)), (49, (.invokevirtual 97, 3)), (52, (.aload_n 0, 1)), (53, (.getfield 10, 3)), (56, (.iload 5, 2)), (58, (.invokevirtual 97, 3)), (61, (.aload_n 0, 1)), (62, (.getfield 10, 3)), (65, (.getfield 90, 3)), (68, (.ireturn, 1))]
theorem dsX11_feed_0_ok : (dsX11_feed_0.all fun q => decide (decode cX11_feed q.1 = .ok q.2)) = true := by decide +kernel
theorem dX11_feed_0 : decode cX11_feed 0 = .ok (.aload_n 0, 1) := of_decide_eq_true (List.all_eq_true.mp dsX11_feed_0_ok (0, (.aload_n 0, 1)) (List.mem_of_getElem? (i := 0) rfl))
theorem dX11_feed_1 : decode cX11_feed 1 = .ok (.getfield 10, 3) := of_decide_eq_true (List.all_eq_true.mp dsX11_feed_0_ok (1, (.getfield 10, 3)) (List.mem_of_getElem? (i := 1) rfl))
theorem dX11_feed_4 : decode cX11_feed 4 = .ok (.getfield 90, 3) := of_decide_eq_true (List.all_eq_true.mp dsX11_feed_0_ok (4, (.getfield 90, 3)) (List.mem_of_getElem? (i := 2) rfl))
theorem dX11_feed_7 : decode cX11_feed 7 = .ok (.sipush 1580, 3) := of_decide_eq_true (List.all_eq_true.mp dsX11_feed_0_ok (7, (.sipush 1580, 3)) (List.mem_of_getElem? (i := 3) rfl))
theorem dX11_feed_10 : decode cX11_feed 10 = .ok (.if_icmp .le 9, 3) := of_decide_eq_true (List.all_eq_true.mp dsX11_feed_0_ok (10, (.if_icmp .le 9, 3)) (List.mem_of_getElem? (i := 4) rfl))
theorem dX11_feed_13 : decode cX11_feed 13 = .ok (.aload_n 0, 1) := of_decide_eq_true (List.all_eq_true.mp dsX11_feed_0_ok (13, (.aload_n 0, 1)) (List.mem_of_getElem? (i := 5) rfl))
theorem dX11_feed_14 : decode cX11_feed 14 = .ok (.iconst 0, 1) := of_decide_eq_true (List.all_eq_true.mp dsX11_feed_0_ok (14, (.iconst 0, 1)) (List.mem_of_getElem? (i := 6) rfl))
theorem dX11_feed_15 : decode cX11_feed 15 = .ok (.invokevirtual 93, 3) := of_decide_eq_true (List.all_eq_true.mp dsX11_feed_0_ok (15, (.invokevirtual 93, 3)) (List.mem_of_getElem? (i := 7) rfl))
theorem dX11_feed_18 : decode cX11_feed 18 = .ok (.ireturn, 1) := of_decide_eq_true (List.all_eq_true.mp dsX11_feed_0_ok (18, (.ireturn, 1)) (List.mem_of_getElem? (i := 8) rfl))
theorem dX11_feed_19 : decode cX11_feed 19 = .ok (.aload_n 0, 1) := of_decide_eq_true (List.all_eq_true.mp dsX11_feed_0_ok (19, (.aload_n 0, 1)) (List.mem_of_getElem? (i := 9) rfl))
theorem dX11_feed_20 : decode cX11_feed 20 = .ok (.getfield 10, 3) := of_decide_eq_true (List.all_eq_true.mp dsX11_feed_0_ok (20, (.getfield 10, 3)) (List.mem_of_getElem? (i := 10) rfl))
theorem dX11_feed_23 : decode cX11_feed 23 = .ok (.iload_n 1, 1) := of_decide_eq_true (List.all_eq_true.mp dsX11_feed_0_ok (23, (.iload_n 1, 1)) (List.mem_of_getElem? (i := 11) rfl))
theorem dX11_feed_24 : decode cX11_feed 24 = .ok (.invokevirtual 97, 3) := of_decide_eq_true (List.all_eq_true.mp dsX11_feed_0_ok (24, (.invokevirtual 97, 3)) (List.mem_of_getElem? (i := 12) rfl))
theorem dX11_feed_27 : decode cX11_feed 27 = .ok (.aload_n 0, 1) := of_decide_eq_true (List.all_eq_true.mp dsX11_feed_0_ok (27, (.aload_n 0, 1)) (List.mem_of_getElem? (i := 13) rfl))
theorem dX11_feed_28 : decode cX11_feed 28 = .ok (.getfield 10, 3) := of_decide_eq_true (List.all_eq_true.mp dsX11_feed_0_ok (28, (.getfield 10, 3)) (List.mem_of_getElem? (i := 14) rfl))
theorem dX11_feed_31 : decode cX11_feed 31 = .ok (.iload_n 2, 1) := of_decide_eq_true (List.all_eq_true.mp dsX11_feed_0_ok (31, (.iload_n 2, 1)) (List.mem_of_getElem? (i := 15) rfl))
theorem dX11_feed_32 : decode cX11_feed 32 = .ok (.invokevirtual 97, 3) := of_decide_eq_true (List.all_eq_true.mp dsX11_feed_0_ok (32, (.invokevirtual 97, 3)) (List.mem_of_getElem? (i := 16) rfl))
theorem dX11_feed_35 : decode cX11_feed 35 = .ok (.aload_n 0, 1) := of_decide_eq_true (List.all_eq_true.mp dsX11_feed_0_ok (35, (.aload_n 0, 1)) (List.mem_of_getElem? (i := 17) rfl))
theorem dX11_feed_36 : decode cX11_feed 36 = .ok (.getfield 10, 3) := of_decide_eq_true (List.all_eq_true.mp dsX11_feed_0_ok (36, (.getfield 10, 3)) (List.mem_of_getElem? (i := 18) rfl))
theorem dX11_feed_39 : decode cX11_feed 39 = .ok (.iload_n 3, 1) := of_decide_eq_true (List.all_eq_true.mp dsX11_feed_0_ok (39, (.iload_n 3, 1)) (List.mem_of_getElem? (i := 19) rfl))
theorem dX11_feed_40 : decode cX11_feed 40 = .ok (.invokevirtual 97, 3) := of_decide_eq_true (List.all_eq_true.mp dsX11_feed_0_ok (40, (.invokevirtual 97, 3)) (List.mem_of_getElem? (i := 20) rfl))
theorem dX11_feed_43 : decode cX11_feed 43 = .ok (.aload_n 0, 1) := of_decide_eq_true (List.all_eq_true.mp dsX11_feed_0_ok (43, (.aload_n 0, 1)) (List.mem_of_getElem? (i := 21) rfl))
theorem dX11_feed_44 : decode cX11_feed 44 = .ok (.getfield 10, 3) := of_decide_eq_true (List.all_eq_true.mp dsX11_feed_0_ok (44, (.getfield 10, 3)) (List.mem_of_getElem? (i := 22) rfl))
theorem dX11_feed_47 : decode cX11_feed 47 = .ok (.iload 4, 2) := of_decide_eq_true (List.all_eq_true.mp dsX11_feed_0_ok (47, (.iload 4, 2)) (List.mem_of_getElem? (i := 23) rfl))
theorem dX11_feed_49 : decode cX11_feed 49 = .ok (.invokevirtual 97, 3) := of_decide_eq_true (List.all_eq_true.mp dsX11_feed_0_ok (49, (.invokevirtual 97, 3)) (List.mem_of_getElem? (i := 24) rfl))
theorem dX11_feed_52 : decode cX11_feed 52 = .ok (.aload_n 0, 1) := of_decide_eq_true (List.all_eq_true.mp dsX11_feed_0_ok (52, (.aload_n 0, 1)) (List.mem_of_getElem? (i := 25) rfl))
theorem dX11_feed_53 : decode cX11_feed 53 = .ok (.getfield 10, 3) := of_decide_eq_true (List.all_eq_true.mp dsX11_feed_0_ok (53, (.getfield 10, 3)) (List.mem_of_getElem? (i := 26) rfl))
theorem dX11_feed_56 : decode cX11_feed 56 = .ok (.iload 5, 2) := of_decide_eq_true (List.all_eq_true.mp dsX11_feed_0_ok (56, (.iload 5, 2)) (List.mem_of_getElem? (i := 27) rfl))
theorem dX11_feed_58 : decode cX11_feed 58 = .ok (.invokevirtual 97, 3) := of_decide_eq_true (List.all_eq_true.mp dsX11_feed_0_ok (58, (.invokevirtual 97, 3)) (List.mem_of_getElem? (i := 28) rfl))
theorem dX11_feed_61 : decode cX11_feed 61 = .ok (.aload_n 0, 1) := of_decide_eq_true (List.all_eq_true.mp dsX11_feed_0_ok (61, (.aload_n 0, 1)) (List.mem_of_getElem? (i := 29) rfl))
theorem dX11_feed_62 : decode cX11_feed 62 = .ok (.getfield 10, 3) := of_decide_eq_true (List.all_eq_true.mp dsX11_feed_0_ok (62, (.getfield 10, 3)) (List.mem_of_getElem? (i := 30) rfl))
theorem dX11_feed_65 : decode cX11_feed 65 = .ok (.getfield 90, 3) := of_decide_eq_true (List.all_eq_true.mp dsX11_feed_0_ok (65, (.getfield 90, 3)) (List.mem_of_getElem? (i := 31) rfl))
theorem dX11_feed_68 : decode cX11_feed 68 = .ok (.ireturn, 1) := of_decide_eq_true (List.all_eq_true.mp dsX11_feed_0_ok (68, (.ireturn, 1)) (List.mem_of_getElem? (i := 32) rfl))
def fX11_feed (N : Nat) (tapeI : Nat → Int32) (tape_bytesF : Nat → Int32) (dv_refusedF : Nat → Int32)  (p1 : Int32) (p2 : Int32) (p3 : Int32) (p4 : Int32) (p5 : Int32) : Option (Int32 × (Nat → Int32) × (Nat → Int32) × (Nat → Int32)) :=
  (if (tapeI 1) ≤ 1580 then (xq_bd (fX9_add N tapeI tape_bytesF p1) fun (r_1_0, r_1_1) => (xq_bd (fX9_add N r_1_0 r_1_1 p2) fun (r_3_0, r_3_1) => (xq_bd (fX9_add N r_3_0 r_3_1 p3) fun (r_5_0, r_5_1) => (xq_bd (fX9_add N r_5_0 r_5_1 p4) fun (r_7_0, r_7_1) => (xq_bd (fX9_add N r_7_0 r_7_1 p5) fun (r_9_0, r_9_1) => some ((r_9_0 1, r_9_0, r_9_1, dv_refusedF))))))) else (xq_bd (fX11_refuseNumber N dv_refusedF 0) fun (r_11_0, r_11_1) => some ((r_11_0, tapeI, tape_bytesF, r_11_1))))
set_option maxHeartbeats 4000000 in
set_option maxRecDepth 100000 in
theorem kX11_feed (l : Launch) (dC : Nat → ClassId) (dI : Nat → Nat → Nat) (cI cB cJ cZ cM : ClassId) (z : Nat) (ad : Nat → Nat) (N : Nat) (a_p0 : Nat) (dvI : Nat → Int32) (dvR : Nat → Nat) (tapeI : Nat → Int32) (tapeR : Nat → Nat) (tape_bytesF : Nat → Int32) (dv_refusedF : Nat → Int32) (p1 : Int32) (p2 : Int32) (p3 : Int32) (p4 : Int32) (p5 : Int32) {r0 : Int32} {r1 : Nat → Int32} {r2 : Nat → Int32} {r3 : Nat → Int32} (hf : fX11_feed N tapeI tape_bytesF dv_refusedF p1 p2 p3 p4 p5 = some (r0, r1, r2, r3)) : xq_Ct l yX11_feed wsX11_feed { frames := 1, cells := 0, slots := 0, locals := 22 } (dC, dI) vwCl (xq_tys cI cB cJ cZ cM) z ad [.ref a_p0, .int p1, .int p2, .int p3, .int p4, .int p5] [(a_p0, .inr (11, oX11 dvI dvR)), ((dvR 0), .inr (9, oX9 tapeI tapeR)), ((tapeR 0), .inl (cB, 1600, .inl tape_bytesF)), ((dvR 9), .inl (cI, 6, .inl dv_refusedF))] [(a_p0, .inr (11, oX11 dvI dvR)), ((dvR 0), .inr (9, oX9 r1 tapeR)), ((tapeR 0), .inl (cB, 1600, .inl r2)), ((dvR 9), .inl (cI, 6, .inl r3))] (some (.int r0)) := by
  intro sz
  refine Met.ofW (cc := cX11_feed) (maxL := 6) (ret := (some .int)) (by decide) rfl ?_
  intro p e s m args below meth c s₁ B hml hv
  obtain ⟨rfl, hsz, hP, hK, hD0, hE, hz⟩ := hv
  have hx := B.exec
  have hb := B.bytes
  have hr := B.returns
  have hts := atoms_spec (ws := wsX11_feed) B.pre
  have hown : s.vm.findClass RX11 = some m.cls := findClass_of_methodNamed B.named
  have hlocks := B.notSynchronized
  subst hsz
  have hD := hD0.self (sz := s.heap.size)
  have hN := xq_Env.of hE hz hD0
  generalize hAe : va_A [(a_p0, .inr (11, oX11 dvI dvR)), ((dvR 0), .inr (9, oX9 tapeI tapeR)), ((tapeR 0), .inl (cB, 1600, .inl tape_bytesF)), ((dvR 9), .inl (cI, 6, .inl dv_refusedF))] s.heap.size = A at hD hN ⊢
  have hA : ∀ q : Nat, s.heap.size ≤ q → A q := fun q h => by rw [← hAe]; exact Or.inr h
  clear hAe hD0
  have hS : va_S A s.heap s.heap [] := va_S.rf
  have hl := lv_entry ([.ref a_p0, .int p1, .int p2, .int p3, .int p4, .int p5]) (n := 6) (Nat.le_of_ble_eq_true rfl)
  rw [lg_entry_eq]
  generalize (lg_sl ([.ref a_p0, .int p1, .int p2, .int p3, .int p4, .int p5]) ++ List.replicate (6 - (lg_sl ([.ref a_p0, .int p1, .int p2, .int p3, .int p4, .int p5])).length) Slot.unset).toArray = ls at hl ⊢
  have hl : lv_has ls 6 [(0, .ref a_p0), (1, .int p1), (2, .int p2), (3, .int p3), (4, .int p4), (5, .int p5)] := hl
  have hw0 := hts (.fieldLink RX11 10 "DistantVoice" "tape" "LDistantVoice$Tape;") (by decide +kernel)
  have hinX11 : ∀ w ∈ wsX110, w ∈ wsX11_feed := fun w h => List.mem_cons_of_mem _ (List.mem_append_left _ (List.mem_append_right _ h))
  have hnf2 := va_Nw.use (A := [.ref a_p0, .int p1, .int p2, .int p3, .int p4, .int p5].toArray) rfl (hN.1.1.1 ("DistantVoice", 90, "DistantVoice$Tape", "length", "I", "DistantVoice") (List.mem_of_getElem? (i := 2) rfl))
  have hinX9 : ∀ w ∈ wsX90, w ∈ wsX11_feed := fun w h => List.mem_cons_of_mem _ (List.mem_append_right _ h)
  unfold fX11_feed at hf
  refine lv_aload_n hx hb dX11_feed_0 rfl (lv_at hl 0 rfl) ?_
  refine va_get (D := (dC, dI)) (ci := 11) (v := .ref ((dvR 0))) (C := RX11) (T := TX11) (N := 15) hx hb hts hinX11 hown hK hP 0 rfl rfl 0 (by decide) hw0 (fun _ h9 => h9) rfl dX11_feed_1 ?_
  refine va_getN (D := (dC, dI)) (ci := 9) (v := .int (tapeI 1)) (C := RX9) (T := TX9) (N := 2) hx hb hts hinX9 hown hK hP 1 rfl rfl 1 (by decide) hnf2 (fun _ h9 => h9) rfl dX11_feed_4 ?_
  refine lv_sipush (v := 1580) hx hb dX11_feed_7 (by decide) ?_
  refine lv_icmp_le (tgt := 19) hx hb dX11_feed_10 (by decide) (fun c_ => ?_) (fun c_ => ?_)
  · have hf := xq_pos hf c_
    refine lv_aload_n hx hb dX11_feed_19 rfl (lv_at hl 0 rfl) ?_
    refine va_get (D := (dC, dI)) (ci := 11) (v := .ref ((dvR 0))) (C := RX11) (T := TX11) (N := 15) hx hb hts hinX11 hown hK hP 0 rfl rfl 0 (by decide) hw0 (fun _ h9 => h9) rfl dX11_feed_20 ?_
    refine lv_iload_n hx hb dX11_feed_23 rfl (lv_at hl 1 rfl) ?_
    obtain ⟨⟨r_1_0, r_1_1⟩, h_2, hf⟩ := xq_bd_some hf
    refine xq_callV (As := [.int p1]) (rest := []) (ci := 9) (q0 := 1) ⟨hx, hb, hml, hown, hts⟩ (kX9_add l dC dI cI cB cJ cZ cM z ad N ((dvR 0)) tapeI tapeR tape_bytesF p1 h_2) (cwV 1 hts gX11_feed_X9_add rfl rfl rfl (by decide +kernel) ⟨Nat.le_of_ble_eq_true rfl, Nat.le_of_ble_eq_true rfl⟩) hN hK hP hD hS hA [1, 2] (by decide) rfl rfl rfl rfl rfl rfl hl.1 rfl (Nat.le_of_ble_eq_true rfl) dX11_feed_24 ⟨Nat.zero_le _, Nat.zero_le _⟩ (fun H locs hP hD hS => ?_)
    have hP : va_P (dC, dI) vwCl [(a_p0, .inr (11, oX11 dvI dvR)), ((dvR 0), .inr (9, oX9 r_1_0 tapeR)), ((tapeR 0), .inl (cB, 1600, .inl r_1_1)), ((dvR 9), .inl (cI, 6, .inl dv_refusedF))] H := hP
    have hD : va_D A [(a_p0, .inr (11, oX11 dvI dvR)), ((dvR 0), .inr (9, oX9 r_1_0 tapeR)), ((tapeR 0), .inl (cB, 1600, .inl r_1_1)), ((dvR 9), .inl (cI, 6, .inl dv_refusedF))] := hD
    refine W.eq (g2 := F0 m 27 ls []) rfl ?_
    refine lv_aload_n hx hb dX11_feed_27 rfl (lv_at hl 0 rfl) ?_
    refine va_get (D := (dC, dI)) (ci := 11) (v := .ref ((dvR 0))) (C := RX11) (T := TX11) (N := 15) hx hb hts hinX11 hown hK hP 0 rfl rfl 0 (by decide) hw0 (fun _ h9 => h9) rfl dX11_feed_28 ?_
    refine lv_iload_n hx hb dX11_feed_31 rfl (lv_at hl 2 rfl) ?_
    obtain ⟨⟨r_3_0, r_3_1⟩, h_4, hf⟩ := xq_bd_some hf
    refine xq_callV (As := [.int p2]) (rest := []) (ci := 9) (q0 := 1) ⟨hx, hb, hml, hown, hts⟩ (kX9_add l dC dI cI cB cJ cZ cM z ad N ((dvR 0)) r_1_0 tapeR r_1_1 p2 h_4) (cwV 1 hts gX11_feed_X9_add rfl rfl rfl (by decide +kernel) ⟨Nat.le_of_ble_eq_true rfl, Nat.le_of_ble_eq_true rfl⟩) hN hK hP hD hS hA [1, 2] (by decide) rfl rfl rfl rfl rfl rfl hl.1 rfl (Nat.le_of_ble_eq_true rfl) dX11_feed_32 ⟨Nat.zero_le _, Nat.zero_le _⟩ (fun H locs hP hD hS => ?_)
    have hP : va_P (dC, dI) vwCl [(a_p0, .inr (11, oX11 dvI dvR)), ((dvR 0), .inr (9, oX9 r_3_0 tapeR)), ((tapeR 0), .inl (cB, 1600, .inl r_3_1)), ((dvR 9), .inl (cI, 6, .inl dv_refusedF))] H := hP
    have hD : va_D A [(a_p0, .inr (11, oX11 dvI dvR)), ((dvR 0), .inr (9, oX9 r_3_0 tapeR)), ((tapeR 0), .inl (cB, 1600, .inl r_3_1)), ((dvR 9), .inl (cI, 6, .inl dv_refusedF))] := hD
    refine W.eq (g2 := F0 m 35 ls []) rfl ?_
    refine lv_aload_n hx hb dX11_feed_35 rfl (lv_at hl 0 rfl) ?_
    refine va_get (D := (dC, dI)) (ci := 11) (v := .ref ((dvR 0))) (C := RX11) (T := TX11) (N := 15) hx hb hts hinX11 hown hK hP 0 rfl rfl 0 (by decide) hw0 (fun _ h9 => h9) rfl dX11_feed_36 ?_
    refine lv_iload_n hx hb dX11_feed_39 rfl (lv_at hl 3 rfl) ?_
    obtain ⟨⟨r_5_0, r_5_1⟩, h_6, hf⟩ := xq_bd_some hf
    refine xq_callV (As := [.int p3]) (rest := []) (ci := 9) (q0 := 1) ⟨hx, hb, hml, hown, hts⟩ (kX9_add l dC dI cI cB cJ cZ cM z ad N ((dvR 0)) r_3_0 tapeR r_3_1 p3 h_6) (cwV 1 hts gX11_feed_X9_add rfl rfl rfl (by decide +kernel) ⟨Nat.le_of_ble_eq_true rfl, Nat.le_of_ble_eq_true rfl⟩) hN hK hP hD hS hA [1, 2] (by decide) rfl rfl rfl rfl rfl rfl hl.1 rfl (Nat.le_of_ble_eq_true rfl) dX11_feed_40 ⟨Nat.zero_le _, Nat.zero_le _⟩ (fun H locs hP hD hS => ?_)
    have hP : va_P (dC, dI) vwCl [(a_p0, .inr (11, oX11 dvI dvR)), ((dvR 0), .inr (9, oX9 r_5_0 tapeR)), ((tapeR 0), .inl (cB, 1600, .inl r_5_1)), ((dvR 9), .inl (cI, 6, .inl dv_refusedF))] H := hP
    have hD : va_D A [(a_p0, .inr (11, oX11 dvI dvR)), ((dvR 0), .inr (9, oX9 r_5_0 tapeR)), ((tapeR 0), .inl (cB, 1600, .inl r_5_1)), ((dvR 9), .inl (cI, 6, .inl dv_refusedF))] := hD
    refine W.eq (g2 := F0 m 43 ls []) rfl ?_
    refine lv_aload_n hx hb dX11_feed_43 rfl (lv_at hl 0 rfl) ?_
    refine va_get (D := (dC, dI)) (ci := 11) (v := .ref ((dvR 0))) (C := RX11) (T := TX11) (N := 15) hx hb hts hinX11 hown hK hP 0 rfl rfl 0 (by decide) hw0 (fun _ h9 => h9) rfl dX11_feed_44 ?_
    refine lv_iload hx hb dX11_feed_47 (lv_at hl 4 rfl) ?_
    obtain ⟨⟨r_7_0, r_7_1⟩, h_8, hf⟩ := xq_bd_some hf
    refine xq_callV (As := [.int p4]) (rest := []) (ci := 9) (q0 := 1) ⟨hx, hb, hml, hown, hts⟩ (kX9_add l dC dI cI cB cJ cZ cM z ad N ((dvR 0)) r_5_0 tapeR r_5_1 p4 h_8) (cwV 1 hts gX11_feed_X9_add rfl rfl rfl (by decide +kernel) ⟨Nat.le_of_ble_eq_true rfl, Nat.le_of_ble_eq_true rfl⟩) hN hK hP hD hS hA [1, 2] (by decide) rfl rfl rfl rfl rfl rfl hl.1 rfl (Nat.le_of_ble_eq_true rfl) dX11_feed_49 ⟨Nat.zero_le _, Nat.zero_le _⟩ (fun H locs hP hD hS => ?_)
    have hP : va_P (dC, dI) vwCl [(a_p0, .inr (11, oX11 dvI dvR)), ((dvR 0), .inr (9, oX9 r_7_0 tapeR)), ((tapeR 0), .inl (cB, 1600, .inl r_7_1)), ((dvR 9), .inl (cI, 6, .inl dv_refusedF))] H := hP
    have hD : va_D A [(a_p0, .inr (11, oX11 dvI dvR)), ((dvR 0), .inr (9, oX9 r_7_0 tapeR)), ((tapeR 0), .inl (cB, 1600, .inl r_7_1)), ((dvR 9), .inl (cI, 6, .inl dv_refusedF))] := hD
    refine W.eq (g2 := F0 m 52 ls []) rfl ?_
    refine lv_aload_n hx hb dX11_feed_52 rfl (lv_at hl 0 rfl) ?_
    refine va_get (D := (dC, dI)) (ci := 11) (v := .ref ((dvR 0))) (C := RX11) (T := TX11) (N := 15) hx hb hts hinX11 hown hK hP 0 rfl rfl 0 (by decide) hw0 (fun _ h9 => h9) rfl dX11_feed_53 ?_
    refine lv_iload hx hb dX11_feed_56 (lv_at hl 5 rfl) ?_
    obtain ⟨⟨r_9_0, r_9_1⟩, h_10, hf⟩ := xq_bd_some hf
    refine xq_callV (As := [.int p5]) (rest := []) (ci := 9) (q0 := 1) ⟨hx, hb, hml, hown, hts⟩ (kX9_add l dC dI cI cB cJ cZ cM z ad N ((dvR 0)) r_7_0 tapeR r_7_1 p5 h_10) (cwV 1 hts gX11_feed_X9_add rfl rfl rfl (by decide +kernel) ⟨Nat.le_of_ble_eq_true rfl, Nat.le_of_ble_eq_true rfl⟩) hN hK hP hD hS hA [1, 2] (by decide) rfl rfl rfl rfl rfl rfl hl.1 rfl (Nat.le_of_ble_eq_true rfl) dX11_feed_58 ⟨Nat.zero_le _, Nat.zero_le _⟩ (fun H locs hP hD hS => ?_)
    have hP : va_P (dC, dI) vwCl [(a_p0, .inr (11, oX11 dvI dvR)), ((dvR 0), .inr (9, oX9 r_9_0 tapeR)), ((tapeR 0), .inl (cB, 1600, .inl r_9_1)), ((dvR 9), .inl (cI, 6, .inl dv_refusedF))] H := hP
    have hD : va_D A [(a_p0, .inr (11, oX11 dvI dvR)), ((dvR 0), .inr (9, oX9 r_9_0 tapeR)), ((tapeR 0), .inl (cB, 1600, .inl r_9_1)), ((dvR 9), .inl (cI, 6, .inl dv_refusedF))] := hD
    refine W.eq (g2 := F0 m 61 ls []) rfl ?_
    refine lv_aload_n hx hb dX11_feed_61 rfl (lv_at hl 0 rfl) ?_
    refine va_get (D := (dC, dI)) (ci := 11) (v := .ref ((dvR 0))) (C := RX11) (T := TX11) (N := 15) hx hb hts hinX11 hown hK hP 0 rfl rfl 0 (by decide) hw0 (fun _ h9 => h9) rfl dX11_feed_62 ?_
    refine va_getN (D := (dC, dI)) (ci := 9) (v := .int (r_9_0 1)) (C := RX9) (T := TX9) (N := 2) hx hb hts hinX9 hown hK hP 1 rfl rfl 1 (by decide) hnf2 (fun _ h9 => h9) rfl dX11_feed_65 ?_
    cases hf
    exact xq_iret hx hb hr hlocks hK hP hD hS dX11_feed_68
  · have hf := xq_neg hf c_
    refine lv_aload_n hx hb dX11_feed_13 rfl (lv_at hl 0 rfl) ?_
    refine lv_iconst (v := 0) hx hb dX11_feed_14 (by decide) ?_
    obtain ⟨⟨r_11_0, r_11_1⟩, h_12, hf⟩ := xq_bd_some hf
    refine xq_callV (As := [.int 0]) (rest := []) (ci := 11) (q0 := 0) ⟨hx, hb, hml, hown, hts⟩ (kX11_refuseNumber l dC dI cI cB cJ cZ cM z ad N a_p0 dvI dvR dv_refusedF 0 h_12) (cwV 1 hts gX11_feed_X11_refuseNumber rfl rfl rfl (by decide +kernel) ⟨Nat.le_of_ble_eq_true rfl, Nat.le_of_ble_eq_true rfl⟩) hN hK hP hD hS hA [0, 3] (by decide) rfl rfl rfl rfl rfl rfl hl.1 rfl (Nat.le_of_ble_eq_true rfl) dX11_feed_15 ⟨Nat.zero_le _, Nat.zero_le _⟩ (fun H locs hP hD hS => ?_)
    have hP : va_P (dC, dI) vwCl [(a_p0, .inr (11, oX11 dvI dvR)), ((dvR 0), .inr (9, oX9 tapeI tapeR)), ((tapeR 0), .inl (cB, 1600, .inl tape_bytesF)), ((dvR 9), .inl (cI, 6, .inl r_11_1))] H := hP
    have hD : va_D A [(a_p0, .inr (11, oX11 dvI dvR)), ((dvR 0), .inr (9, oX9 tapeI tapeR)), ((tapeR 0), .inl (cB, 1600, .inl tape_bytesF)), ((dvR 9), .inl (cI, 6, .inl r_11_1))] := hD
    refine W.eq (g2 := F0 m 18 ls [.int r_11_0]) rfl ?_
    cases hf
    exact xq_iret hx hb hr hlocks hK hP hD hS dX11_feed_18
set_option maxRecDepth 20000 in
theorem ggX11_end_X11_refuse : GoodIn wsX11_end wsX11_refuse := goodIn_r _ [6, 7, 8, 9, 10, 11, 12, 13, 14, 15, 16, 17, 18, 19, 20, 21, 22] rfl (by decide +kernel)
set_option maxRecDepth 20000 in
theorem gX11_end_X11_refuse : GoodIn wsX11_end (wsV RX11 101 RX11 yX11_refuse wsX11_refuse) := goodIn_app (goodIn_of _ (by decide +kernel)) ggX11_end_X11_refuse
def dsX11_end_0 : List (Nat × Instr × Nat) := [(0, (.iload_n 1, 1)), (1, (.ifCond .lt 14, 3)), (4, (.iload_n 1, 1)), (5, (.aload_n 0, 1)), (6, (.getfield 10, 3)), (9, (.getfield 90, 3)), (12, (.if_icmp .le 9, 3)), (15, (.aload_n 0, 1)), (16, (.iconst 0, 1)), (17, (.invokevirtual 101, 3)), (20, (.ireturn, 1)), (21, (.aload_n 0, 1)), (22, (.getfield 10, 3)), (25, (.iload_n 1, 1)), (26, (.putfield 90, 3)), (29, (.iconst 1, 1)), (30, (.ireturn, 1))]
theorem dsX11_end_0_ok : (dsX11_end_0.all fun q => decide (decode cX11_end q.1 = .ok q.2)) = true := by decide +kernel
theorem dX11_end_0 : decode cX11_end 0 = .ok (.iload_n 1, 1) := of_decide_eq_true (List.all_eq_true.mp dsX11_end_0_ok (0, (.iload_n 1, 1)) (List.mem_of_getElem? (i := 0) rfl))
theorem dX11_end_1 : decode cX11_end 1 = .ok (.ifCond .lt 14, 3) := of_decide_eq_true (List.all_eq_true.mp dsX11_end_0_ok (1, (.ifCond .lt 14, 3)) (List.mem_of_getElem? (i := 1) rfl))
theorem dX11_end_4 : decode cX11_end 4 = .ok (.iload_n 1, 1) := of_decide_eq_true (List.all_eq_true.mp dsX11_end_0_ok (4, (.iload_n 1, 1)) (List.mem_of_getElem? (i := 2) rfl))
theorem dX11_end_5 : decode cX11_end 5 = .ok (.aload_n 0, 1) := of_decide_eq_true (List.all_eq_true.mp dsX11_end_0_ok (5, (.aload_n 0, 1)) (List.mem_of_getElem? (i := 3) rfl))
theorem dX11_end_6 : decode cX11_end 6 = .ok (.getfield 10, 3) := of_decide_eq_true (List.all_eq_true.mp dsX11_end_0_ok (6, (.getfield 10, 3)) (List.mem_of_getElem? (i := 4) rfl))
theorem dX11_end_9 : decode cX11_end 9 = .ok (.getfield 90, 3) := of_decide_eq_true (List.all_eq_true.mp dsX11_end_0_ok (9, (.getfield 90, 3)) (List.mem_of_getElem? (i := 5) rfl))
theorem dX11_end_12 : decode cX11_end 12 = .ok (.if_icmp .le 9, 3) := of_decide_eq_true (List.all_eq_true.mp dsX11_end_0_ok (12, (.if_icmp .le 9, 3)) (List.mem_of_getElem? (i := 6) rfl))
theorem dX11_end_15 : decode cX11_end 15 = .ok (.aload_n 0, 1) := of_decide_eq_true (List.all_eq_true.mp dsX11_end_0_ok (15, (.aload_n 0, 1)) (List.mem_of_getElem? (i := 7) rfl))
theorem dX11_end_16 : decode cX11_end 16 = .ok (.iconst 0, 1) := of_decide_eq_true (List.all_eq_true.mp dsX11_end_0_ok (16, (.iconst 0, 1)) (List.mem_of_getElem? (i := 8) rfl))
theorem dX11_end_17 : decode cX11_end 17 = .ok (.invokevirtual 101, 3) := of_decide_eq_true (List.all_eq_true.mp dsX11_end_0_ok (17, (.invokevirtual 101, 3)) (List.mem_of_getElem? (i := 9) rfl))
theorem dX11_end_20 : decode cX11_end 20 = .ok (.ireturn, 1) := of_decide_eq_true (List.all_eq_true.mp dsX11_end_0_ok (20, (.ireturn, 1)) (List.mem_of_getElem? (i := 10) rfl))
theorem dX11_end_21 : decode cX11_end 21 = .ok (.aload_n 0, 1) := of_decide_eq_true (List.all_eq_true.mp dsX11_end_0_ok (21, (.aload_n 0, 1)) (List.mem_of_getElem? (i := 11) rfl))
theorem dX11_end_22 : decode cX11_end 22 = .ok (.getfield 10, 3) := of_decide_eq_true (List.all_eq_true.mp dsX11_end_0_ok (22, (.getfield 10, 3)) (List.mem_of_getElem? (i := 12) rfl))
theorem dX11_end_25 : decode cX11_end 25 = .ok (.iload_n 1, 1) := of_decide_eq_true (List.all_eq_true.mp dsX11_end_0_ok (25, (.iload_n 1, 1)) (List.mem_of_getElem? (i := 13) rfl))
theorem dX11_end_26 : decode cX11_end 26 = .ok (.putfield 90, 3) := of_decide_eq_true (List.all_eq_true.mp dsX11_end_0_ok (26, (.putfield 90, 3)) (List.mem_of_getElem? (i := 14) rfl))
theorem dX11_end_29 : decode cX11_end 29 = .ok (.iconst 1, 1) := of_decide_eq_true (List.all_eq_true.mp dsX11_end_0_ok (29, (.iconst 1, 1)) (List.mem_of_getElem? (i := 15) rfl))
theorem dX11_end_30 : decode cX11_end 30 = .ok (.ireturn, 1) := of_decide_eq_true (List.all_eq_true.mp dsX11_end_0_ok (30, (.ireturn, 1)) (List.mem_of_getElem? (i := 16) rfl))
def fX11_end_b15 (N : Nat)    : ((Nat → Int32) × (Nat → Int32)) → Option (Int32 × (Nat → Int32) × (Nat → Int32)) :=
  fun (tapeI_15, dv_refusedF_15) => (xq_bd (fX11_refuse N dv_refusedF_15 0) fun (r_1_0, r_1_1) => (xq_bd (xq_zb r_1_0) fun v_3 => some ((r_1_0, tapeI_15, r_1_1))))
def fX11_end (N : Nat) (tapeI : Nat → Int32) (dv_refusedF : Nat → Int32)  (p1 : Int32) : Option (Int32 × (Nat → Int32) × (Nat → Int32)) :=
  (if p1 < 0 then fX11_end_b15 N (tapeI, dv_refusedF) else (if p1 ≤ (tapeI 1) then some ((1, (va_up tapeI 1 p1), dv_refusedF)) else fX11_end_b15 N (tapeI, dv_refusedF)))
set_option maxHeartbeats 4000000 in
set_option maxRecDepth 100000 in
theorem kX11_end (l : Launch) (dC : Nat → ClassId) (dI : Nat → Nat → Nat) (cI cB cJ cZ cM : ClassId) (z : Nat) (ad : Nat → Nat) (N : Nat) (a_p0 : Nat) (dvI : Nat → Int32) (dvR : Nat → Nat) (tapeI : Nat → Int32) (tapeR : Nat → Nat) (dv_refusedF : Nat → Int32) (p1 : Int32) {r0 : Int32} {r1 : Nat → Int32} {r2 : Nat → Int32} (hf : fX11_end N tapeI dv_refusedF p1 = some (r0, r1, r2)) : xq_Ct l yX11_end wsX11_end { frames := 1, cells := 0, slots := 0, locals := 21 } (dC, dI) vwCl (xq_tys cI cB cJ cZ cM) z ad [.ref a_p0, .int p1] [(a_p0, .inr (11, oX11 dvI dvR)), ((dvR 0), .inr (9, oX9 tapeI tapeR)), ((dvR 9), .inl (cI, 6, .inl dv_refusedF))] [(a_p0, .inr (11, oX11 dvI dvR)), ((dvR 0), .inr (9, oX9 r1 tapeR)), ((dvR 9), .inl (cI, 6, .inl r2))] (some (.int r0)) := by
  intro sz
  refine Met.ofW (cc := cX11_end) (maxL := 2) (ret := (some .boolean)) (by decide) rfl ?_
  intro p e s m args below meth c s₁ B hml hv
  obtain ⟨rfl, hsz, hP, hK, hD0, hE, hz⟩ := hv
  have hx := B.exec
  have hb := B.bytes
  have hr := B.returns
  have hts := atoms_spec (ws := wsX11_end) B.pre
  have hown : s.vm.findClass RX11 = some m.cls := findClass_of_methodNamed B.named
  have hlocks := B.notSynchronized
  subst hsz
  have hD := hD0.self (sz := s.heap.size)
  have hN := xq_Env.of hE hz hD0
  generalize hAe : va_A [(a_p0, .inr (11, oX11 dvI dvR)), ((dvR 0), .inr (9, oX9 tapeI tapeR)), ((dvR 9), .inl (cI, 6, .inl dv_refusedF))] s.heap.size = A at hD hN ⊢
  have hA : ∀ q : Nat, s.heap.size ≤ q → A q := fun q h => by rw [← hAe]; exact Or.inr h
  clear hAe hD0
  have hS : va_S A s.heap s.heap [] := va_S.rf
  have hl := lv_entry ([.ref a_p0, .int p1]) (n := 2) (Nat.le_of_ble_eq_true rfl)
  rw [lg_entry_eq]
  generalize (lg_sl ([.ref a_p0, .int p1]) ++ List.replicate (2 - (lg_sl ([.ref a_p0, .int p1])).length) Slot.unset).toArray = ls at hl ⊢
  have hl : lv_has ls 2 [(0, .ref a_p0), (1, .int p1)] := hl
  have hw0 := hts (.fieldLink RX11 10 "DistantVoice" "tape" "LDistantVoice$Tape;") (by decide +kernel)
  have hinX11 : ∀ w ∈ wsX110, w ∈ wsX11_end := fun w h => List.mem_cons_of_mem _ (List.mem_append_left _ (List.mem_append_right _ h))
  have hnf2 := va_Nw.use (A := [.ref a_p0, .int p1].toArray) rfl (hN.1.1.1 ("DistantVoice", 90, "DistantVoice$Tape", "length", "I", "DistantVoice") (List.mem_of_getElem? (i := 2) rfl))
  have hinX9 : ∀ w ∈ wsX90, w ∈ wsX11_end := fun w h => List.mem_cons_of_mem _ (List.mem_append_right _ h)
  have b15 : ∀ (tapeI_15 : Nat → Int32) (dv_refusedF_15 : Nat → Int32) (ls : Array Slot) (H : Heap) (locs : List Loc), fX11_end_b15 N (tapeI_15, dv_refusedF_15) = some (r0, r1, r2) → va_P (dC, dI) vwCl [(a_p0, .inr (11, oX11 dvI dvR)), ((dvR 0), .inr (9, oX9 tapeI_15 tapeR)), ((dvR 9), .inl (cI, 6, .inl dv_refusedF_15))] H → va_D A [(a_p0, .inr (11, oX11 dvI dvR)), ((dvR 0), .inr (9, oX9 tapeI_15 tapeR)), ((dvR 9), .inl (cI, 6, .inl dv_refusedF_15))] → va_S A s.heap H locs → lv_has ls 2 [(0, .ref a_p0)] → W p l e (headSpec wsX11_end { frames := 1, cells := 0, slots := 0, locals := 21 }).room s m [.ref a_p0, .int p1].toArray below meth c H locs 0 0 (MQ below (xq_Q (dC, dI) vwCl (xq_tys cI cB cJ cZ cM) A [(a_p0, .inr (11, oX11 dvI dvR)), ((dvR 0), .inr (9, oX9 r1 tapeR)), ((dvR 9), .inl (cI, 6, .inl r2))] (some (.int r0))) [.ref a_p0, .int p1].toArray s 0 0 A) (F0 m 15 ls []) := by
    intro tapeI_15 dv_refusedF_15 ls H locs hf hP hD hS hl
    unfold fX11_end_b15 at hf
    refine lv_aload_n hx hb dX11_end_15 rfl (lv_at hl 0 rfl) ?_
    refine lv_iconst (v := 0) hx hb dX11_end_16 (by decide) ?_
    obtain ⟨⟨r_1_0, r_1_1⟩, h_2, hf⟩ := xq_bd_some hf
    refine xq_callV (As := [.int 0]) (rest := []) (ci := 11) (q0 := 0) ⟨hx, hb, hml, hown, hts⟩ (kX11_refuse l dC dI cI cB cJ cZ cM z ad N a_p0 dvI dvR dv_refusedF_15 0 h_2) (cwV 1 hts gX11_end_X11_refuse rfl rfl rfl (by decide +kernel) ⟨Nat.le_of_ble_eq_true rfl, Nat.le_of_ble_eq_true rfl⟩) hN hK hP hD hS hA [0, 2] (by decide) rfl rfl rfl rfl rfl rfl hl.1 rfl (Nat.le_of_ble_eq_true rfl) dX11_end_17 ⟨Nat.zero_le _, Nat.zero_le _⟩ (fun H locs hP hD hS => ?_)
    have hP : va_P (dC, dI) vwCl [(a_p0, .inr (11, oX11 dvI dvR)), ((dvR 0), .inr (9, oX9 tapeI_15 tapeR)), ((dvR 9), .inl (cI, 6, .inl r_1_1))] H := hP
    have hD : va_D A [(a_p0, .inr (11, oX11 dvI dvR)), ((dvR 0), .inr (9, oX9 tapeI_15 tapeR)), ((dvR 9), .inl (cI, 6, .inl r_1_1))] := hD
    refine W.eq (g2 := F0 m 20 ls [.int r_1_0]) rfl ?_
    obtain ⟨v_3, hz, hf⟩ := xq_bd_some hf
    obtain ⟨hn9, hf9⟩ := xq_zb_n hz
    obtain rfl := (xq_zb_some hz).2
    cases hf
    exact xq_zret hx hb hr hn9 hlocks hK hP hD hS dX11_end_20
  unfold fX11_end at hf
  refine lv_iload_n hx hb dX11_end_0 rfl (lv_at hl 1 rfl) ?_
  refine lv_if_lt (tgt := 15) hx hb dX11_end_1 (by decide) (fun c_ => ?_) (fun c_ => ?_)
  · have hf := xq_pos hf c_
    exact b15 tapeI dv_refusedF _ _ _ hf hP hD hS (lv_sub hl [0] rfl)
  · have hf := xq_neg hf c_
    refine lv_iload_n hx hb dX11_end_4 rfl (lv_at hl 1 rfl) ?_
    refine lv_aload_n hx hb dX11_end_5 rfl (lv_at hl 0 rfl) ?_
    refine va_get (D := (dC, dI)) (ci := 11) (v := .ref ((dvR 0))) (C := RX11) (T := TX11) (N := 15) hx hb hts hinX11 hown hK hP 0 rfl rfl 0 (by decide) hw0 (fun _ h9 => h9) rfl dX11_end_6 ?_
    refine va_getN (D := (dC, dI)) (ci := 9) (v := .int (tapeI 1)) (C := RX9) (T := TX9) (N := 2) hx hb hts hinX9 hown hK hP 1 rfl rfl 1 (by decide) hnf2 (fun _ h9 => h9) rfl dX11_end_9 ?_
    refine lv_icmp_le (tgt := 21) hx hb dX11_end_12 (by decide) (fun c_ => ?_) (fun c_ => ?_)
    · have hf := xq_pos hf c_
      refine lv_aload_n hx hb dX11_end_21 rfl (lv_at hl 0 rfl) ?_
      refine va_get (D := (dC, dI)) (ci := 11) (v := .ref ((dvR 0))) (C := RX11) (T := TX11) (N := 15) hx hb hts hinX11 hown hK hP 0 rfl rfl 0 (by decide) hw0 (fun _ h9 => h9) rfl dX11_end_22 ?_
      refine lv_iload_n hx hb dX11_end_25 rfl (lv_at hl 1 rfl) ?_
      refine va_putN (D := (dC, dI)) (ci := 9) (v := .int p1) (ty := .int) (C := RX9) (T := TX9) (N := 2) hx hb hts hinX9 tyX9 tyX9_ok nmX9 hown hK hP hD hS 1 rfl rfl 1 (by decide) hnf2 (fun _ h9 => h9) rfl (by decide +kernel) rfl rfl (Nat.le_of_ble_eq_true rfl) dX11_end_26 (fun H locs hP hD hS => ?_)
      have hP : va_P (dC, dI) vwCl [(a_p0, .inr (11, oX11 dvI dvR)), ((dvR 0), .inr (9, oX9 (va_up tapeI 1 p1) tapeR)), ((dvR 9), .inl (cI, 6, .inl dv_refusedF))] H := hP
      have hD : va_D A [(a_p0, .inr (11, oX11 dvI dvR)), ((dvR 0), .inr (9, oX9 (va_up tapeI 1 p1) tapeR)), ((dvR 9), .inl (cI, 6, .inl dv_refusedF))] := hD
      refine lv_iconst (v := 1) hx hb dX11_end_29 (by decide) ?_
      cases hf
      exact xq_zret hx hb hr (by decide +kernel) hlocks hK hP hD hS dX11_end_30
    · have hf := xq_neg hf c_
      exact b15 tapeI dv_refusedF _ _ _ hf hP hD hS (lv_sub hl [0] rfl)
set_option maxRecDepth 20000 in
theorem ggX11_letter_X11_isEar : GoodIn wsX11_letter wsX11_isEar := goodIn_r _ [6, 1, 14, 15, 16, 17, 18, 19, 20, 21, 22, 23, 24, 25, 26, 27, 28, 29, 30, 31, 32, 33, 34, 35, 36, 37, 38, 39, 40, 41, 42, 43, 44, 45, 46, 47] rfl (by decide +kernel)
set_option maxRecDepth 20000 in
theorem gX11_letter_X11_isEar : GoodIn wsX11_letter (wsV RX11 177 RX11 yX11_isEar wsX11_isEar) := goodIn_app (goodIn_of _ (by decide +kernel)) ggX11_letter_X11_isEar
set_option maxRecDepth 20000 in
theorem ggX11_letter_X11_letterOf : GoodIn wsX11_letter wsX11_letterOf := goodIn_r _ [9] rfl (by decide +kernel)
set_option maxRecDepth 20000 in
theorem gX11_letter_X11_letterOf : GoodIn wsX11_letter (va_wsS RX11 183 yX11_letterOf wsX11_letterOf) := goodIn_app (goodIn_of _ (by decide +kernel)) ggX11_letter_X11_letterOf
set_option maxRecDepth 20000 in
theorem ggX11_letter_X11_isPlace : GoodIn wsX11_letter wsX11_isPlace := goodIn_r _ [13, 1, 14, 15, 16, 17, 18, 19, 20, 21, 22, 23, 24, 25, 26, 27, 28, 29, 30, 31, 32, 33, 34, 35, 36, 37, 38, 39, 40, 41, 42, 43, 44, 45, 46, 47] rfl (by decide +kernel)
set_option maxRecDepth 20000 in
theorem gX11_letter_X11_isPlace : GoodIn wsX11_letter (wsV RX11 186 RX11 yX11_isPlace wsX11_isPlace) := goodIn_app (goodIn_of _ (by decide +kernel)) ggX11_letter_X11_isPlace
def dsX11_letter_0 : List (Nat × Instr × Nat) := [(0, (.iload_n 3, 1)), (1, (.ifCond .lt 9, 3)), (4, (.iload_n 3, 1)), (5, (.bipush 6, 2)), (7, (.if_icmp .lt 5, 3)), (10, (.iconst (-1), 1)), (11, (.ireturn, 1)), (12, (.iload_n 1, 1)), (13, (.ifCond .ne 25, 3)), (16, (.aload_n 0, 1)), (17, (.iload_n 2, 1)), (18, (.invokevirtual 177, 3)), (21, (.ifCond .eq 17, 3)), (24, (.aload_n 0, 1)), (25, (.getfield 67, 3)), (28, (.getfield 180, 3)), (31, (.iload_n 2, 1)), (32, (.iaload, 1)), (33, (.iload_n 3, 1)), (34, (.invokestatic 183, 3)), (37, (.ireturn, 1)), (38, (.iload_n 1, 1)), (39, (.iconst 1, 1)), (40, (.if_icmp .ne 25, 3)), (43, (.aload_n 0, 1)), (44, (.iload_n 2, 1)), (45, (.invokevirtual 186, 3)), (48, (.ifCond .eq 17, 3)), (51, (.aload_n 0, 1)), (52, (.getfield 67, 3)), (55, (.getfield 189, 3)), (58, (.iload_n 2, 1)), (59, (.iaload, 1)), (60, (.iload_n 3, 1)), (61, (.invokestatic 183, 3)), (64, (.ireturn, 1)), (65, (.iconst (-1), 1)), (66, (.ireturn, 1))]
theorem dsX11_letter_0_ok : (dsX11_letter_0.all fun q => decide (decode cX11_letter q.1 = .ok q.2)) = true := by decide +kernel
theorem dX11_letter_0 : decode cX11_letter 0 = .ok (.iload_n 3, 1) := of_decide_eq_true (List.all_eq_true.mp dsX11_letter_0_ok (0, (.iload_n 3, 1)) (List.mem_of_getElem? (i := 0) rfl))
theorem dX11_letter_1 : decode cX11_letter 1 = .ok (.ifCond .lt 9, 3) := of_decide_eq_true (List.all_eq_true.mp dsX11_letter_0_ok (1, (.ifCond .lt 9, 3)) (List.mem_of_getElem? (i := 1) rfl))
theorem dX11_letter_4 : decode cX11_letter 4 = .ok (.iload_n 3, 1) := of_decide_eq_true (List.all_eq_true.mp dsX11_letter_0_ok (4, (.iload_n 3, 1)) (List.mem_of_getElem? (i := 2) rfl))
theorem dX11_letter_5 : decode cX11_letter 5 = .ok (.bipush 6, 2) := of_decide_eq_true (List.all_eq_true.mp dsX11_letter_0_ok (5, (.bipush 6, 2)) (List.mem_of_getElem? (i := 3) rfl))
theorem dX11_letter_7 : decode cX11_letter 7 = .ok (.if_icmp .lt 5, 3) := of_decide_eq_true (List.all_eq_true.mp dsX11_letter_0_ok (7, (.if_icmp .lt 5, 3)) (List.mem_of_getElem? (i := 4) rfl))
theorem dX11_letter_10 : decode cX11_letter 10 = .ok (.iconst (-1), 1) := of_decide_eq_true (List.all_eq_true.mp dsX11_letter_0_ok (10, (.iconst (-1), 1)) (List.mem_of_getElem? (i := 5) rfl))
theorem dX11_letter_11 : decode cX11_letter 11 = .ok (.ireturn, 1) := of_decide_eq_true (List.all_eq_true.mp dsX11_letter_0_ok (11, (.ireturn, 1)) (List.mem_of_getElem? (i := 6) rfl))
theorem dX11_letter_12 : decode cX11_letter 12 = .ok (.iload_n 1, 1) := of_decide_eq_true (List.all_eq_true.mp dsX11_letter_0_ok (12, (.iload_n 1, 1)) (List.mem_of_getElem? (i := 7) rfl))
theorem dX11_letter_13 : decode cX11_letter 13 = .ok (.ifCond .ne 25, 3) := of_decide_eq_true (List.all_eq_true.mp dsX11_letter_0_ok (13, (.ifCond .ne 25, 3)) (List.mem_of_getElem? (i := 8) rfl))
theorem dX11_letter_16 : decode cX11_letter 16 = .ok (.aload_n 0, 1) := of_decide_eq_true (List.all_eq_true.mp dsX11_letter_0_ok (16, (.aload_n 0, 1)) (List.mem_of_getElem? (i := 9) rfl))
theorem dX11_letter_17 : decode cX11_letter 17 = .ok (.iload_n 2, 1) := of_decide_eq_true (List.all_eq_true.mp dsX11_letter_0_ok (17, (.iload_n 2, 1)) (List.mem_of_getElem? (i := 10) rfl))
theorem dX11_letter_18 : decode cX11_letter 18 = .ok (.invokevirtual 177, 3) := of_decide_eq_true (List.all_eq_true.mp dsX11_letter_0_ok (18, (.invokevirtual 177, 3)) (List.mem_of_getElem? (i := 11) rfl))
theorem dX11_letter_21 : decode cX11_letter 21 = .ok (.ifCond .eq 17, 3) := of_decide_eq_true (List.all_eq_true.mp dsX11_letter_0_ok (21, (.ifCond .eq 17, 3)) (List.mem_of_getElem? (i := 12) rfl))
theorem dX11_letter_24 : decode cX11_letter 24 = .ok (.aload_n 0, 1) := of_decide_eq_true (List.all_eq_true.mp dsX11_letter_0_ok (24, (.aload_n 0, 1)) (List.mem_of_getElem? (i := 13) rfl))
theorem dX11_letter_25 : decode cX11_letter 25 = .ok (.getfield 67, 3) := of_decide_eq_true (List.all_eq_true.mp dsX11_letter_0_ok (25, (.getfield 67, 3)) (List.mem_of_getElem? (i := 14) rfl))
theorem dX11_letter_28 : decode cX11_letter 28 = .ok (.getfield 180, 3) := of_decide_eq_true (List.all_eq_true.mp dsX11_letter_0_ok (28, (.getfield 180, 3)) (List.mem_of_getElem? (i := 15) rfl))
theorem dX11_letter_31 : decode cX11_letter 31 = .ok (.iload_n 2, 1) := of_decide_eq_true (List.all_eq_true.mp dsX11_letter_0_ok (31, (.iload_n 2, 1)) (List.mem_of_getElem? (i := 16) rfl))
theorem dX11_letter_32 : decode cX11_letter 32 = .ok (.iaload, 1) := of_decide_eq_true (List.all_eq_true.mp dsX11_letter_0_ok (32, (.iaload, 1)) (List.mem_of_getElem? (i := 17) rfl))
theorem dX11_letter_33 : decode cX11_letter 33 = .ok (.iload_n 3, 1) := of_decide_eq_true (List.all_eq_true.mp dsX11_letter_0_ok (33, (.iload_n 3, 1)) (List.mem_of_getElem? (i := 18) rfl))
theorem dX11_letter_34 : decode cX11_letter 34 = .ok (.invokestatic 183, 3) := of_decide_eq_true (List.all_eq_true.mp dsX11_letter_0_ok (34, (.invokestatic 183, 3)) (List.mem_of_getElem? (i := 19) rfl))
theorem dX11_letter_37 : decode cX11_letter 37 = .ok (.ireturn, 1) := of_decide_eq_true (List.all_eq_true.mp dsX11_letter_0_ok (37, (.ireturn, 1)) (List.mem_of_getElem? (i := 20) rfl))
theorem dX11_letter_38 : decode cX11_letter 38 = .ok (.iload_n 1, 1) := of_decide_eq_true (List.all_eq_true.mp dsX11_letter_0_ok (38, (.iload_n 1, 1)) (List.mem_of_getElem? (i := 21) rfl))
theorem dX11_letter_39 : decode cX11_letter 39 = .ok (.iconst 1, 1) := of_decide_eq_true (List.all_eq_true.mp dsX11_letter_0_ok (39, (.iconst 1, 1)) (List.mem_of_getElem? (i := 22) rfl))
theorem dX11_letter_40 : decode cX11_letter 40 = .ok (.if_icmp .ne 25, 3) := of_decide_eq_true (List.all_eq_true.mp dsX11_letter_0_ok (40, (.if_icmp .ne 25, 3)) (List.mem_of_getElem? (i := 23) rfl))
theorem dX11_letter_43 : decode cX11_letter 43 = .ok (.aload_n 0, 1) := of_decide_eq_true (List.all_eq_true.mp dsX11_letter_0_ok (43, (.aload_n 0, 1)) (List.mem_of_getElem? (i := 24) rfl))
theorem dX11_letter_44 : decode cX11_letter 44 = .ok (.iload_n 2, 1) := of_decide_eq_true (List.all_eq_true.mp dsX11_letter_0_ok (44, (.iload_n 2, 1)) (List.mem_of_getElem? (i := 25) rfl))
theorem dX11_letter_45 : decode cX11_letter 45 = .ok (.invokevirtual 186, 3) := of_decide_eq_true (List.all_eq_true.mp dsX11_letter_0_ok (45, (.invokevirtual 186, 3)) (List.mem_of_getElem? (i := 26) rfl))
theorem dX11_letter_48 : decode cX11_letter 48 = .ok (.ifCond .eq 17, 3) := of_decide_eq_true (List.all_eq_true.mp dsX11_letter_0_ok (48, (.ifCond .eq 17, 3)) (List.mem_of_getElem? (i := 27) rfl))
theorem dX11_letter_51 : decode cX11_letter 51 = .ok (.aload_n 0, 1) := of_decide_eq_true (List.all_eq_true.mp dsX11_letter_0_ok (51, (.aload_n 0, 1)) (List.mem_of_getElem? (i := 28) rfl))
theorem dX11_letter_52 : decode cX11_letter 52 = .ok (.getfield 67, 3) := of_decide_eq_true (List.all_eq_true.mp dsX11_letter_0_ok (52, (.getfield 67, 3)) (List.mem_of_getElem? (i := 29) rfl))
theorem dX11_letter_55 : decode cX11_letter 55 = .ok (.getfield 189, 3) := of_decide_eq_true (List.all_eq_true.mp dsX11_letter_0_ok (55, (.getfield 189, 3)) (List.mem_of_getElem? (i := 30) rfl))
theorem dX11_letter_58 : decode cX11_letter 58 = .ok (.iload_n 2, 1) := of_decide_eq_true (List.all_eq_true.mp dsX11_letter_0_ok (58, (.iload_n 2, 1)) (List.mem_of_getElem? (i := 31) rfl))
theorem dX11_letter_59 : decode cX11_letter 59 = .ok (.iaload, 1) := of_decide_eq_true (List.all_eq_true.mp dsX11_letter_0_ok (59, (.iaload, 1)) (List.mem_of_getElem? (i := 32) rfl))
theorem dX11_letter_60 : decode cX11_letter 60 = .ok (.iload_n 3, 1) := of_decide_eq_true (List.all_eq_true.mp dsX11_letter_0_ok (60, (.iload_n 3, 1)) (List.mem_of_getElem? (i := 33) rfl))
theorem dX11_letter_61 : decode cX11_letter 61 = .ok (.invokestatic 183, 3) := of_decide_eq_true (List.all_eq_true.mp dsX11_letter_0_ok (61, (.invokestatic 183, 3)) (List.mem_of_getElem? (i := 34) rfl))
theorem dX11_letter_64 : decode cX11_letter 64 = .ok (.ireturn, 1) := of_decide_eq_true (List.all_eq_true.mp dsX11_letter_0_ok (64, (.ireturn, 1)) (List.mem_of_getElem? (i := 35) rfl))
theorem dX11_letter_65 : decode cX11_letter 65 = .ok (.iconst (-1), 1) := of_decide_eq_true (List.all_eq_true.mp dsX11_letter_0_ok (65, (.iconst (-1), 1)) (List.mem_of_getElem? (i := 36) rfl))
theorem dX11_letter_66 : decode cX11_letter 66 = .ok (.ireturn, 1) := of_decide_eq_true (List.all_eq_true.mp dsX11_letter_0_ok (66, (.ireturn, 1)) (List.mem_of_getElem? (i := 37) rfl))
def fX11_letter_b38 (N : Nat) (homeI : Nat → Int32) (home_earNamesF : Nat → Int32) (home_placeNamesF : Nat → Int32)   : (Int32 × Int32 × Int32) → Option (Int32) :=
  fun (x1_38, x2_38, x3_38) => (if x1_38 = 1 then (xq_bd (fX11_isPlace N homeI x2_38) fun r_1 => (if r_1 = 0 then some ((-1)) else (xq_bd (xq_ald 6 home_placeNamesF x2_38) fun v_3 => (xq_bd (fX11_letterOf N v_3 x3_38) fun r_4 => some r_4)))) else some ((-1)))
def fX11_letter (N : Nat) (homeI : Nat → Int32) (home_earNamesF : Nat → Int32) (home_placeNamesF : Nat → Int32)  (p1 : Int32) (p2 : Int32) (p3 : Int32) : Option (Int32) :=
  (if p3 < 0 then some ((-1)) else (if p3 < 6 then (if p1 = 0 then (xq_bd (fX11_isEar N homeI p2) fun r_1 => (if r_1 = 0 then fX11_letter_b38 N homeI home_earNamesF home_placeNamesF (p1, p2, p3) else (xq_bd (xq_ald 7 home_earNamesF p2) fun v_3 => (xq_bd (fX11_letterOf N v_3 p3) fun r_4 => some r_4)))) else fX11_letter_b38 N homeI home_earNamesF home_placeNamesF (p1, p2, p3)) else some ((-1))))
set_option maxHeartbeats 4000000 in
set_option maxRecDepth 100000 in
theorem kX11_letter (l : Launch) (dC : Nat → ClassId) (dI : Nat → Nat → Nat) (cI cB cJ cZ cM : ClassId) (z : Nat) (ad : Nat → Nat) (N : Nat) (a_p0 : Nat) (dvI : Nat → Int32) (dvR : Nat → Nat) (homeI : Nat → Int32) (homeR : Nat → Nat) (home_earNamesF : Nat → Int32) (home_placeNamesF : Nat → Int32) (p1 : Int32) (p2 : Int32) (p3 : Int32) {r0 : Int32} (hf : fX11_letter N homeI home_earNamesF home_placeNamesF p1 p2 p3 = some r0) : xq_Ct l yX11_letter wsX11_letter { frames := 1, cells := 0, slots := 0, locals := 23 } (dC, dI) vwCl (xq_tys cI cB cJ cZ cM) z ad [.ref a_p0, .int p1, .int p2, .int p3] [(a_p0, .inr (11, oX11 dvI dvR)), ((dvR 10), .inr (2, oX2 homeI homeR)), ((homeR 7), .inl (cI, 7, .inl home_earNamesF)), ((homeR 10), .inl (cI, 6, .inl home_placeNamesF))] [(a_p0, .inr (11, oX11 dvI dvR)), ((dvR 10), .inr (2, oX2 homeI homeR)), ((homeR 7), .inl (cI, 7, .inl home_earNamesF)), ((homeR 10), .inl (cI, 6, .inl home_placeNamesF))] (some (.int r0)) := by
  intro sz
  refine Met.ofW (cc := cX11_letter) (maxL := 4) (ret := (some .int)) (by decide) rfl ?_
  intro p e s m args below meth c s₁ B hml hv
  obtain ⟨rfl, hsz, hP, hK, hD0, hE, hz⟩ := hv
  have hx := B.exec
  have hb := B.bytes
  have hr := B.returns
  have hts := atoms_spec (ws := wsX11_letter) B.pre
  have hown : s.vm.findClass RX11 = some m.cls := findClass_of_methodNamed B.named
  have hlocks := B.notSynchronized
  subst hsz
  have hD := hD0.self (sz := s.heap.size)
  have hN := xq_Env.of hE hz hD0
  generalize hAe : va_A [(a_p0, .inr (11, oX11 dvI dvR)), ((dvR 10), .inr (2, oX2 homeI homeR)), ((homeR 7), .inl (cI, 7, .inl home_earNamesF)), ((homeR 10), .inl (cI, 6, .inl home_placeNamesF))] s.heap.size = A at hD hN ⊢
  have hA : ∀ q : Nat, s.heap.size ≤ q → A q := fun q h => by rw [← hAe]; exact Or.inr h
  clear hAe hD0
  have hS : va_S A s.heap s.heap [] := va_S.rf
  have hl := lv_entry ([.ref a_p0, .int p1, .int p2, .int p3]) (n := 4) (Nat.le_of_ble_eq_true rfl)
  rw [lg_entry_eq]
  generalize (lg_sl ([.ref a_p0, .int p1, .int p2, .int p3]) ++ List.replicate (4 - (lg_sl ([.ref a_p0, .int p1, .int p2, .int p3])).length) Slot.unset).toArray = ls at hl ⊢
  have hl : lv_has ls 4 [(0, .ref a_p0), (1, .int p1), (2, .int p2), (3, .int p3)] := hl
  have hw0 := hts (.fieldLink RX11 67 "DistantVoice" "home" "LDistantVoice$House;") (by decide +kernel)
  have hinX11 : ∀ w ∈ wsX110, w ∈ wsX11_letter := fun w h => List.mem_cons_of_mem _ (List.mem_append_left _ (List.mem_append_right _ h))
  have hnf54 := va_Nw.use (A := [.ref a_p0, .int p1, .int p2, .int p3].toArray) rfl (hN.1.1.1 ("DistantVoice", 180, "DistantVoice$House", "earNames", "[I", "DistantVoice") (List.mem_of_getElem? (i := 54) rfl))
  have hinX2 : ∀ w ∈ wsX20, w ∈ wsX11_letter := fun w h => List.mem_cons_of_mem _ (List.mem_append_right _ h)
  have hnf61 := va_Nw.use (A := [.ref a_p0, .int p1, .int p2, .int p3].toArray) rfl (hN.1.1.1 ("DistantVoice", 189, "DistantVoice$House", "placeNames", "[I", "DistantVoice") (List.mem_of_getElem? (i := 61) rfl))
  have b38 : ∀ (x1_38 : Int32) (x2_38 : Int32) (x3_38 : Int32) (ls : Array Slot) (H : Heap) (locs : List Loc), fX11_letter_b38 N homeI home_earNamesF home_placeNamesF (x1_38, x2_38, x3_38) = some r0 → va_P (dC, dI) vwCl [(a_p0, .inr (11, oX11 dvI dvR)), ((dvR 10), .inr (2, oX2 homeI homeR)), ((homeR 7), .inl (cI, 7, .inl home_earNamesF)), ((homeR 10), .inl (cI, 6, .inl home_placeNamesF))] H → va_D A [(a_p0, .inr (11, oX11 dvI dvR)), ((dvR 10), .inr (2, oX2 homeI homeR)), ((homeR 7), .inl (cI, 7, .inl home_earNamesF)), ((homeR 10), .inl (cI, 6, .inl home_placeNamesF))] → va_S A s.heap H locs → lv_has ls 4 [(0, .ref a_p0), (1, .int x1_38), (2, .int x2_38), (3, .int x3_38)] → W p l e (headSpec wsX11_letter { frames := 1, cells := 0, slots := 0, locals := 23 }).room s m [.ref a_p0, .int p1, .int p2, .int p3].toArray below meth c H locs 0 0 (MQ below (xq_Q (dC, dI) vwCl (xq_tys cI cB cJ cZ cM) A [(a_p0, .inr (11, oX11 dvI dvR)), ((dvR 10), .inr (2, oX2 homeI homeR)), ((homeR 7), .inl (cI, 7, .inl home_earNamesF)), ((homeR 10), .inl (cI, 6, .inl home_placeNamesF))] (some (.int r0))) [.ref a_p0, .int p1, .int p2, .int p3].toArray s 0 0 A) (F0 m 38 ls []) := by
    intro x1_38 x2_38 x3_38 ls H locs hf hP hD hS hl
    unfold fX11_letter_b38 at hf
    refine lv_iload_n hx hb dX11_letter_38 rfl (lv_at hl 1 rfl) ?_
    refine lv_iconst (v := 1) hx hb dX11_letter_39 (by decide) ?_
    refine lv_icmp_ne (tgt := 65) hx hb dX11_letter_40 (by decide) (fun c_ => ?_) (fun c_ => ?_)
    · have hf := xq_neg hf c_
      refine lv_iconst (v := (-1)) hx hb dX11_letter_65 (by decide) ?_
      cases hf
      exact xq_iret hx hb hr hlocks hK hP hD hS dX11_letter_66
    · have hf := xq_pos hf c_
      refine lv_aload_n hx hb dX11_letter_43 rfl (lv_at hl 0 rfl) ?_
      refine lv_iload_n hx hb dX11_letter_44 rfl (lv_at hl 2 rfl) ?_
      obtain ⟨r_1, h_2, hf⟩ := xq_bd_some hf
      refine xq_callV (As := [.int x2_38]) (rest := []) (ci := 11) (q0 := 0) ⟨hx, hb, hml, hown, hts⟩ (kX11_isPlace l dC dI cI cB cJ cZ cM z ad N a_p0 dvI dvR homeI homeR x2_38 h_2) (cwV 1 hts gX11_letter_X11_isPlace rfl rfl rfl (by decide +kernel) ⟨Nat.le_of_ble_eq_true rfl, Nat.le_of_ble_eq_true rfl⟩) hN hK hP hD hS hA [0, 1] (by decide) rfl rfl rfl rfl rfl rfl hl.1 rfl (Nat.le_of_ble_eq_true rfl) dX11_letter_45 ⟨Nat.zero_le _, Nat.zero_le _⟩ (fun H locs hP hD hS => ?_)
      have hP : va_P (dC, dI) vwCl [(a_p0, .inr (11, oX11 dvI dvR)), ((dvR 10), .inr (2, oX2 homeI homeR)), ((homeR 7), .inl (cI, 7, .inl home_earNamesF)), ((homeR 10), .inl (cI, 6, .inl home_placeNamesF))] H := hP
      have hD : va_D A [(a_p0, .inr (11, oX11 dvI dvR)), ((dvR 10), .inr (2, oX2 homeI homeR)), ((homeR 7), .inl (cI, 7, .inl home_earNamesF)), ((homeR 10), .inl (cI, 6, .inl home_placeNamesF))] := hD
      refine W.eq (g2 := F0 m 48 ls [.int r_1]) rfl ?_
      refine lv_if_eq (tgt := 65) hx hb dX11_letter_48 (by decide) (fun c_ => ?_) (fun c_ => ?_)
      · have hf := xq_pos hf c_
        refine lv_iconst (v := (-1)) hx hb dX11_letter_65 (by decide) ?_
        cases hf
        exact xq_iret hx hb hr hlocks hK hP hD hS dX11_letter_66
      · have hf := xq_neg hf c_
        refine lv_aload_n hx hb dX11_letter_51 rfl (lv_at hl 0 rfl) ?_
        refine va_get (D := (dC, dI)) (ci := 11) (v := .ref ((dvR 10))) (C := RX11) (T := TX11) (N := 15) hx hb hts hinX11 hown hK hP 0 rfl rfl 10 (by decide) hw0 (fun _ h9 => h9) rfl dX11_letter_52 ?_
        refine va_getN (D := (dC, dI)) (ci := 2) (v := .ref ((homeR 10))) (C := RX2) (T := TX2) (N := 19) hx hb hts hinX2 hown hK hP 1 rfl rfl 10 (by decide) hnf61 (fun _ h9 => h9) rfl dX11_letter_55 ?_
        refine lv_iload_n hx hb dX11_letter_58 rfl (lv_at hl 2 rfl) ?_
        refine xq_iald hx hb hK hP 3 0 rfl rfl hf dX11_letter_59 (fun v_3 hf => ?_)
        refine lv_iload_n hx hb dX11_letter_60 rfl (lv_at hl 3 rfl) ?_
        obtain ⟨r_4, h_5, hf⟩ := xq_bd_some hf
        refine xq_callS (As := [.int v_3, .int x3_38]) (rest := []) ⟨hx, hb, hml, hown, hts⟩ (kX11_letterOf l dC dI cI cB cJ cZ cM z ad N v_3 x3_38 h_5) (va_cwS 2 hts gX11_letter_X11_letterOf rfl rfl rfl (by decide +kernel) ⟨Nat.le_of_ble_eq_true rfl, Nat.le_of_ble_eq_true rfl⟩) hN hK hP hD hS hA [] (by decide) rfl rfl rfl hl.1 rfl (Nat.le_of_ble_eq_true rfl) dX11_letter_61 ⟨Nat.zero_le _, Nat.zero_le _⟩ (fun H locs hP hD hS => ?_)
        have hP : va_P (dC, dI) vwCl [(a_p0, .inr (11, oX11 dvI dvR)), ((dvR 10), .inr (2, oX2 homeI homeR)), ((homeR 7), .inl (cI, 7, .inl home_earNamesF)), ((homeR 10), .inl (cI, 6, .inl home_placeNamesF))] H := hP
        have hD : va_D A [(a_p0, .inr (11, oX11 dvI dvR)), ((dvR 10), .inr (2, oX2 homeI homeR)), ((homeR 7), .inl (cI, 7, .inl home_earNamesF)), ((homeR 10), .inl (cI, 6, .inl home_placeNamesF))] := hD
        refine W.eq (g2 := F0 m 64 ls [.int r_4]) rfl ?_
        cases hf
        exact xq_iret hx hb hr hlocks hK hP hD hS dX11_letter_64
  unfold fX11_letter at hf
  refine lv_iload_n hx hb dX11_letter_0 rfl (lv_at hl 3 rfl) ?_
  refine lv_if_lt (tgt := 10) hx hb dX11_letter_1 (by decide) (fun c_ => ?_) (fun c_ => ?_)
  · have hf := xq_pos hf c_
    refine lv_iconst (v := (-1)) hx hb dX11_letter_10 (by decide) ?_
    cases hf
    exact xq_iret hx hb hr hlocks hK hP hD hS dX11_letter_11
  · have hf := xq_neg hf c_
    refine lv_iload_n hx hb dX11_letter_4 rfl (lv_at hl 3 rfl) ?_
    refine lv_bipush (v := 6) hx hb dX11_letter_5 (by decide) ?_
    refine lv_icmp_lt (tgt := 12) hx hb dX11_letter_7 (by decide) (fun c_ => ?_) (fun c_ => ?_)
    · have hf := xq_pos hf c_
      refine lv_iload_n hx hb dX11_letter_12 rfl (lv_at hl 1 rfl) ?_
      refine lv_if_ne (tgt := 38) hx hb dX11_letter_13 (by decide) (fun c_ => ?_) (fun c_ => ?_)
      · have hf := xq_neg hf c_
        exact b38 p1 p2 p3 _ _ _ hf hP hD hS (lv_sub hl [0, 1, 2, 3] rfl)
      · have hf := xq_pos hf c_
        refine lv_aload_n hx hb dX11_letter_16 rfl (lv_at hl 0 rfl) ?_
        refine lv_iload_n hx hb dX11_letter_17 rfl (lv_at hl 2 rfl) ?_
        obtain ⟨r_1, h_2, hf⟩ := xq_bd_some hf
        refine xq_callV (As := [.int p2]) (rest := []) (ci := 11) (q0 := 0) ⟨hx, hb, hml, hown, hts⟩ (kX11_isEar l dC dI cI cB cJ cZ cM z ad N a_p0 dvI dvR homeI homeR p2 h_2) (cwV 1 hts gX11_letter_X11_isEar rfl rfl rfl (by decide +kernel) ⟨Nat.le_of_ble_eq_true rfl, Nat.le_of_ble_eq_true rfl⟩) hN hK hP hD hS hA [0, 1] (by decide) rfl rfl rfl rfl rfl rfl hl.1 rfl (Nat.le_of_ble_eq_true rfl) dX11_letter_18 ⟨Nat.zero_le _, Nat.zero_le _⟩ (fun H locs hP hD hS => ?_)
        have hP : va_P (dC, dI) vwCl [(a_p0, .inr (11, oX11 dvI dvR)), ((dvR 10), .inr (2, oX2 homeI homeR)), ((homeR 7), .inl (cI, 7, .inl home_earNamesF)), ((homeR 10), .inl (cI, 6, .inl home_placeNamesF))] H := hP
        have hD : va_D A [(a_p0, .inr (11, oX11 dvI dvR)), ((dvR 10), .inr (2, oX2 homeI homeR)), ((homeR 7), .inl (cI, 7, .inl home_earNamesF)), ((homeR 10), .inl (cI, 6, .inl home_placeNamesF))] := hD
        refine W.eq (g2 := F0 m 21 ls [.int r_1]) rfl ?_
        refine lv_if_eq (tgt := 38) hx hb dX11_letter_21 (by decide) (fun c_ => ?_) (fun c_ => ?_)
        · have hf := xq_pos hf c_
          exact b38 p1 p2 p3 _ _ _ hf hP hD hS (lv_sub hl [0, 1, 2, 3] rfl)
        · have hf := xq_neg hf c_
          refine lv_aload_n hx hb dX11_letter_24 rfl (lv_at hl 0 rfl) ?_
          refine va_get (D := (dC, dI)) (ci := 11) (v := .ref ((dvR 10))) (C := RX11) (T := TX11) (N := 15) hx hb hts hinX11 hown hK hP 0 rfl rfl 10 (by decide) hw0 (fun _ h9 => h9) rfl dX11_letter_25 ?_
          refine va_getN (D := (dC, dI)) (ci := 2) (v := .ref ((homeR 7))) (C := RX2) (T := TX2) (N := 19) hx hb hts hinX2 hown hK hP 1 rfl rfl 7 (by decide) hnf54 (fun _ h9 => h9) rfl dX11_letter_28 ?_
          refine lv_iload_n hx hb dX11_letter_31 rfl (lv_at hl 2 rfl) ?_
          refine xq_iald hx hb hK hP 2 0 rfl rfl hf dX11_letter_32 (fun v_3 hf => ?_)
          refine lv_iload_n hx hb dX11_letter_33 rfl (lv_at hl 3 rfl) ?_
          obtain ⟨r_4, h_5, hf⟩ := xq_bd_some hf
          refine xq_callS (As := [.int v_3, .int p3]) (rest := []) ⟨hx, hb, hml, hown, hts⟩ (kX11_letterOf l dC dI cI cB cJ cZ cM z ad N v_3 p3 h_5) (va_cwS 2 hts gX11_letter_X11_letterOf rfl rfl rfl (by decide +kernel) ⟨Nat.le_of_ble_eq_true rfl, Nat.le_of_ble_eq_true rfl⟩) hN hK hP hD hS hA [] (by decide) rfl rfl rfl hl.1 rfl (Nat.le_of_ble_eq_true rfl) dX11_letter_34 ⟨Nat.zero_le _, Nat.zero_le _⟩ (fun H locs hP hD hS => ?_)
          have hP : va_P (dC, dI) vwCl [(a_p0, .inr (11, oX11 dvI dvR)), ((dvR 10), .inr (2, oX2 homeI homeR)), ((homeR 7), .inl (cI, 7, .inl home_earNamesF)), ((homeR 10), .inl (cI, 6, .inl home_placeNamesF))] H := hP
          have hD : va_D A [(a_p0, .inr (11, oX11 dvI dvR)), ((dvR 10), .inr (2, oX2 homeI homeR)), ((homeR 7), .inl (cI, 7, .inl home_earNamesF)), ((homeR 10), .inl (cI, 6, .inl home_placeNamesF))] := hD
          refine W.eq (g2 := F0 m 37 ls [.int r_4]) rfl ?_
          cases hf
          exact xq_iret hx hb hr hlocks hK hP hD hS dX11_letter_37
    · have hf := xq_neg hf c_
      refine lv_iconst (v := (-1)) hx hb dX11_letter_10 (by decide) ?_
      cases hf
      exact xq_iret hx hb hr hlocks hK hP hD hS dX11_letter_11
set_option maxRecDepth 20000 in
theorem ggX11_mark_X5_tellsMarks : GoodIn wsX11_mark wsX5_tellsMarks := goodIn_r _ [8, 9, 10, 11, 12, 13, 14, 15, 68, 69] rfl (by decide +kernel)
set_option maxRecDepth 20000 in
theorem gX11_mark_X5_tellsMarks : GoodIn wsX11_mark (wsV RX11 279 RX5 yX5_tellsMarks wsX5_tellsMarks) := goodIn_app (goodIn_of _ (by decide +kernel)) ggX11_mark_X5_tellsMarks
set_option maxRecDepth 20000 in
theorem ggX11_mark_X5_take : GoodIn wsX11_mark wsX5_take := goodIn_r _ [19, 20, 21, 22, 23, 24, 25, 26, 27, 9, 10, 11, 12, 13, 14, 15, 68, 69, 70, 71, 72, 73] rfl (by decide +kernel)
set_option maxRecDepth 20000 in
theorem gX11_mark_X5_take : GoodIn wsX11_mark (wsV RX11 283 RX5 yX5_take wsX5_take) := goodIn_app (goodIn_of _ (by decide +kernel)) ggX11_mark_X5_take
set_option maxRecDepth 20000 in
theorem ggX11_mark_X11_refuseNumber : GoodIn wsX11_mark wsX11_refuseNumber := goodIn_r _ [32, 33, 34, 35, 36, 37, 38, 39, 40, 41, 42, 43, 44, 45, 46, 47, 48] rfl (by decide +kernel)
set_option maxRecDepth 20000 in
theorem gX11_mark_X11_refuseNumber : GoodIn wsX11_mark (wsV RX11 93 RX11 yX11_refuseNumber wsX11_refuseNumber) := goodIn_app (goodIn_of _ (by decide +kernel)) ggX11_mark_X11_refuseNumber
def dsX11_mark_0 : List (Nat × Instr × Nat) := [(0, (.aload_n 0, 1)), (1, (.getfield 36, 3)), (4, (.aload_n 0, 1)), (5, (.getfield 10, 3)), (8, (.aload_n 0, 1)), (9, (.getfield 67, 3)), (12, (.getfield 144, 3)), (15, (.invokevirtual 279, 3)), (18, (.istore_n 1, 1)), (19, (.iload_n 1, 1)), (20, (.ifCond .eq 14, 3)), (23, (.aload_n 0, 1)), (24, (.getfield 36, 3)), (27, (.aload_n 0, 1)), (28, (.getfield 10, 3)), (31, (.invokevirtual 283, 3)), (34, (.aload_n 0, 1)), (35, (.getfield 10, 3)), (38, (.iconst 0, 1)), (39, (.putfield 90, 3)), (42, (.iload_n 1, 1)), (43, (.ifCond .eq 13, 3)), (46, (.aload_n 0, 1)), (47, (.getfield 36, 3)), (50, (.getfield 135, 3)), (53, (.goto 8, 3)), (56, (.aload_n 0, 1)), (57, (.iconst 5, 1)), (58, (.invokevirtual 93, 3)), (61, (.ireturn, 1))]
theorem dsX11_mark_0_ok : (dsX11_mark_0.all fun q => decide (decode cX11_mark q.1 = .ok q.2)) = true := by decide +kernel
theorem dX11_mark_0 : decode cX11_mark 0 = .ok (.aload_n 0, 1) := of_decide_eq_true (List.all_eq_true.mp dsX11_mark_0_ok (0, (.aload_n 0, 1)) (List.mem_of_getElem? (i := 0) rfl))
theorem dX11_mark_1 : decode cX11_mark 1 = .ok (.getfield 36, 3) := of_decide_eq_true (List.all_eq_true.mp dsX11_mark_0_ok (1, (.getfield 36, 3)) (List.mem_of_getElem? (i := 1) rfl))
theorem dX11_mark_4 : decode cX11_mark 4 = .ok (.aload_n 0, 1) := of_decide_eq_true (List.all_eq_true.mp dsX11_mark_0_ok (4, (.aload_n 0, 1)) (List.mem_of_getElem? (i := 2) rfl))
theorem dX11_mark_5 : decode cX11_mark 5 = .ok (.getfield 10, 3) := of_decide_eq_true (List.all_eq_true.mp dsX11_mark_0_ok (5, (.getfield 10, 3)) (List.mem_of_getElem? (i := 3) rfl))
theorem dX11_mark_8 : decode cX11_mark 8 = .ok (.aload_n 0, 1) := of_decide_eq_true (List.all_eq_true.mp dsX11_mark_0_ok (8, (.aload_n 0, 1)) (List.mem_of_getElem? (i := 4) rfl))
theorem dX11_mark_9 : decode cX11_mark 9 = .ok (.getfield 67, 3) := of_decide_eq_true (List.all_eq_true.mp dsX11_mark_0_ok (9, (.getfield 67, 3)) (List.mem_of_getElem? (i := 5) rfl))
theorem dX11_mark_12 : decode cX11_mark 12 = .ok (.getfield 144, 3) := of_decide_eq_true (List.all_eq_true.mp dsX11_mark_0_ok (12, (.getfield 144, 3)) (List.mem_of_getElem? (i := 6) rfl))
theorem dX11_mark_15 : decode cX11_mark 15 = .ok (.invokevirtual 279, 3) := of_decide_eq_true (List.all_eq_true.mp dsX11_mark_0_ok (15, (.invokevirtual 279, 3)) (List.mem_of_getElem? (i := 7) rfl))
theorem dX11_mark_18 : decode cX11_mark 18 = .ok (.istore_n 1, 1) := of_decide_eq_true (List.all_eq_true.mp dsX11_mark_0_ok (18, (.istore_n 1, 1)) (List.mem_of_getElem? (i := 8) rfl))
theorem dX11_mark_19 : decode cX11_mark 19 = .ok (.iload_n 1, 1) := of_decide_eq_true (List.all_eq_true.mp dsX11_mark_0_ok (19, (.iload_n 1, 1)) (List.mem_of_getElem? (i := 9) rfl))
theorem dX11_mark_20 : decode cX11_mark 20 = .ok (.ifCond .eq 14, 3) := of_decide_eq_true (List.all_eq_true.mp dsX11_mark_0_ok (20, (.ifCond .eq 14, 3)) (List.mem_of_getElem? (i := 10) rfl))
theorem dX11_mark_23 : decode cX11_mark 23 = .ok (.aload_n 0, 1) := of_decide_eq_true (List.all_eq_true.mp dsX11_mark_0_ok (23, (.aload_n 0, 1)) (List.mem_of_getElem? (i := 11) rfl))
theorem dX11_mark_24 : decode cX11_mark 24 = .ok (.getfield 36, 3) := of_decide_eq_true (List.all_eq_true.mp dsX11_mark_0_ok (24, (.getfield 36, 3)) (List.mem_of_getElem? (i := 12) rfl))
theorem dX11_mark_27 : decode cX11_mark 27 = .ok (.aload_n 0, 1) := of_decide_eq_true (List.all_eq_true.mp dsX11_mark_0_ok (27, (.aload_n 0, 1)) (List.mem_of_getElem? (i := 13) rfl))
theorem dX11_mark_28 : decode cX11_mark 28 = .ok (.getfield 10, 3) := of_decide_eq_true (List.all_eq_true.mp dsX11_mark_0_ok (28, (.getfield 10, 3)) (List.mem_of_getElem? (i := 14) rfl))
theorem dX11_mark_31 : decode cX11_mark 31 = .ok (.invokevirtual 283, 3) := of_decide_eq_true (List.all_eq_true.mp dsX11_mark_0_ok (31, (.invokevirtual 283, 3)) (List.mem_of_getElem? (i := 15) rfl))
theorem dX11_mark_34 : decode cX11_mark 34 = .ok (.aload_n 0, 1) := of_decide_eq_true (List.all_eq_true.mp dsX11_mark_0_ok (34, (.aload_n 0, 1)) (List.mem_of_getElem? (i := 16) rfl))
theorem dX11_mark_35 : decode cX11_mark 35 = .ok (.getfield 10, 3) := of_decide_eq_true (List.all_eq_true.mp dsX11_mark_0_ok (35, (.getfield 10, 3)) (List.mem_of_getElem? (i := 17) rfl))
theorem dX11_mark_38 : decode cX11_mark 38 = .ok (.iconst 0, 1) := of_decide_eq_true (List.all_eq_true.mp dsX11_mark_0_ok (38, (.iconst 0, 1)) (List.mem_of_getElem? (i := 18) rfl))
theorem dX11_mark_39 : decode cX11_mark 39 = .ok (.putfield 90, 3) := of_decide_eq_true (List.all_eq_true.mp dsX11_mark_0_ok (39, (.putfield 90, 3)) (List.mem_of_getElem? (i := 19) rfl))
theorem dX11_mark_42 : decode cX11_mark 42 = .ok (.iload_n 1, 1) := of_decide_eq_true (List.all_eq_true.mp dsX11_mark_0_ok (42, (.iload_n 1, 1)) (List.mem_of_getElem? (i := 20) rfl))
theorem dX11_mark_43 : decode cX11_mark 43 = .ok (.ifCond .eq 13, 3) := of_decide_eq_true (List.all_eq_true.mp dsX11_mark_0_ok (43, (.ifCond .eq 13, 3)) (List.mem_of_getElem? (i := 21) rfl))
theorem dX11_mark_46 : decode cX11_mark 46 = .ok (.aload_n 0, 1) := of_decide_eq_true (List.all_eq_true.mp dsX11_mark_0_ok (46, (.aload_n 0, 1)) (List.mem_of_getElem? (i := 22) rfl))
theorem dX11_mark_47 : decode cX11_mark 47 = .ok (.getfield 36, 3) := of_decide_eq_true (List.all_eq_true.mp dsX11_mark_0_ok (47, (.getfield 36, 3)) (List.mem_of_getElem? (i := 23) rfl))
theorem dX11_mark_50 : decode cX11_mark 50 = .ok (.getfield 135, 3) := of_decide_eq_true (List.all_eq_true.mp dsX11_mark_0_ok (50, (.getfield 135, 3)) (List.mem_of_getElem? (i := 24) rfl))
theorem dX11_mark_53 : decode cX11_mark 53 = .ok (.goto 8, 3) := of_decide_eq_true (List.all_eq_true.mp dsX11_mark_0_ok (53, (.goto 8, 3)) (List.mem_of_getElem? (i := 25) rfl))
theorem dX11_mark_56 : decode cX11_mark 56 = .ok (.aload_n 0, 1) := of_decide_eq_true (List.all_eq_true.mp dsX11_mark_0_ok (56, (.aload_n 0, 1)) (List.mem_of_getElem? (i := 26) rfl))
theorem dX11_mark_57 : decode cX11_mark 57 = .ok (.iconst 5, 1) := of_decide_eq_true (List.all_eq_true.mp dsX11_mark_0_ok (57, (.iconst 5, 1)) (List.mem_of_getElem? (i := 27) rfl))
theorem dX11_mark_58 : decode cX11_mark 58 = .ok (.invokevirtual 93, 3) := of_decide_eq_true (List.all_eq_true.mp dsX11_mark_0_ok (58, (.invokevirtual 93, 3)) (List.mem_of_getElem? (i := 28) rfl))
theorem dX11_mark_61 : decode cX11_mark 61 = .ok (.ireturn, 1) := of_decide_eq_true (List.all_eq_true.mp dsX11_mark_0_ok (61, (.ireturn, 1)) (List.mem_of_getElem? (i := 29) rfl))
def fX11_mark_b34 (N : Nat) (homeI : Nat → Int32) (tape_bytesF : Nat → Int32)   : ((Nat → Int32) × (Nat → Int32) × (Nat → Int32) × (Nat → Int32) × (Nat → Int32) × (Nat → Int32) × Int32) → Option (Int32 × (Nat → Int32) × (Nat → Int32) × (Nat → Int32) × (Nat → Int32) × (Nat → Int32) × (Nat → Int32)) :=
  fun (tapeI_34, marksI_34, marks_nightsAheadF_34, marks_earsF_34, marks_hearingF_34, dv_refusedF_34, x1_34) => (if x1_34 = 0 then (xq_bd (fX11_refuseNumber N dv_refusedF_34 5) fun (r_1_0, r_1_1) => some ((r_1_0, (va_up tapeI_34 1 0), marksI_34, marks_nightsAheadF_34, marks_earsF_34, marks_hearingF_34, r_1_1))) else some ((marksI_34 0, (va_up tapeI_34 1 0), marksI_34, marks_nightsAheadF_34, marks_earsF_34, marks_hearingF_34, dv_refusedF_34)))
def fX11_mark (N : Nat) (homeI : Nat → Int32) (tapeI : Nat → Int32) (tape_bytesF : Nat → Int32) (marksI : Nat → Int32) (marks_nightsAheadF : Nat → Int32) (marks_earsF : Nat → Int32) (marks_hearingF : Nat → Int32) (dv_refusedF : Nat → Int32)   : Option (Int32 × (Nat → Int32) × (Nat → Int32) × (Nat → Int32) × (Nat → Int32) × (Nat → Int32) × (Nat → Int32)) :=
  (xq_bd (fX5_tellsMarks N tapeI tape_bytesF (homeI 5)) fun r_1 => (if r_1 = 0 then fX11_mark_b34 N homeI tape_bytesF (tapeI, marksI, marks_nightsAheadF, marks_earsF, marks_hearingF, dv_refusedF, r_1) else (xq_bd (fX5_take N tapeI marksI tape_bytesF marks_nightsAheadF marks_earsF marks_hearingF) fun (r_3_0, r_3_1, r_3_2, r_3_3) => fX11_mark_b34 N homeI tape_bytesF (tapeI, r_3_0, r_3_1, r_3_2, r_3_3, dv_refusedF, r_1))))
set_option maxHeartbeats 4000000 in
set_option maxRecDepth 100000 in
theorem kX11_mark (l : Launch) (dC : Nat → ClassId) (dI : Nat → Nat → Nat) (cI cB cJ cZ cM : ClassId) (z : Nat) (ad : Nat → Nat) (N : Nat) (a_p0 : Nat) (dvI : Nat → Int32) (dvR : Nat → Nat) (homeI : Nat → Int32) (homeR : Nat → Nat) (tapeI : Nat → Int32) (tapeR : Nat → Nat) (tape_bytesF : Nat → Int32) (marksI : Nat → Int32) (marksR : Nat → Nat) (marks_nightsAheadF : Nat → Int32) (marks_earsF : Nat → Int32) (marks_hearingF : Nat → Int32) (dv_refusedF : Nat → Int32) {r0 : Int32} {r1 : Nat → Int32} {r2 : Nat → Int32} {r3 : Nat → Int32} {r4 : Nat → Int32} {r5 : Nat → Int32} {r6 : Nat → Int32} (hf : fX11_mark N homeI tapeI tape_bytesF marksI marks_nightsAheadF marks_earsF marks_hearingF dv_refusedF = some (r0, r1, r2, r3, r4, r5, r6)) : xq_Ct l yX11_mark wsX11_mark { frames := 2, cells := 0, slots := 0, locals := 46 } (dC, dI) vwCl (xq_tys cI cB cJ cZ cM) z ad [.ref a_p0] [(a_p0, .inr (11, oX11 dvI dvR)), ((dvR 10), .inr (2, oX2 homeI homeR)), ((dvR 0), .inr (9, oX9 tapeI tapeR)), ((tapeR 0), .inl (cB, 1600, .inl tape_bytesF)), ((dvR 4), .inr (5, oX5 marksI marksR)), ((marksR 1), .inl (cI, 16, .inl marks_nightsAheadF)), ((marksR 2), .inl (cI, 16, .inl marks_earsF)), ((marksR 3), .inl (cI, 16, .inl marks_hearingF)), ((dvR 9), .inl (cI, 6, .inl dv_refusedF))] [(a_p0, .inr (11, oX11 dvI dvR)), ((dvR 10), .inr (2, oX2 homeI homeR)), ((dvR 0), .inr (9, oX9 r1 tapeR)), ((tapeR 0), .inl (cB, 1600, .inl tape_bytesF)), ((dvR 4), .inr (5, oX5 r2 marksR)), ((marksR 1), .inl (cI, 16, .inl r3)), ((marksR 2), .inl (cI, 16, .inl r4)), ((marksR 3), .inl (cI, 16, .inl r5)), ((dvR 9), .inl (cI, 6, .inl r6))] (some (.int r0)) := by
  intro sz
  refine Met.ofW (cc := cX11_mark) (maxL := 2) (ret := (some .int)) (by decide) rfl ?_
  intro p e s m args below meth c s₁ B hml hv
  obtain ⟨rfl, hsz, hP, hK, hD0, hE, hz⟩ := hv
  have hx := B.exec
  have hb := B.bytes
  have hr := B.returns
  have hts := atoms_spec (ws := wsX11_mark) B.pre
  have hown : s.vm.findClass RX11 = some m.cls := findClass_of_methodNamed B.named
  have hlocks := B.notSynchronized
  subst hsz
  have hD := hD0.self (sz := s.heap.size)
  have hN := xq_Env.of hE hz hD0
  generalize hAe : va_A [(a_p0, .inr (11, oX11 dvI dvR)), ((dvR 10), .inr (2, oX2 homeI homeR)), ((dvR 0), .inr (9, oX9 tapeI tapeR)), ((tapeR 0), .inl (cB, 1600, .inl tape_bytesF)), ((dvR 4), .inr (5, oX5 marksI marksR)), ((marksR 1), .inl (cI, 16, .inl marks_nightsAheadF)), ((marksR 2), .inl (cI, 16, .inl marks_earsF)), ((marksR 3), .inl (cI, 16, .inl marks_hearingF)), ((dvR 9), .inl (cI, 6, .inl dv_refusedF))] s.heap.size = A at hD hN ⊢
  have hA : ∀ q : Nat, s.heap.size ≤ q → A q := fun q h => by rw [← hAe]; exact Or.inr h
  clear hAe hD0
  have hS : va_S A s.heap s.heap [] := va_S.rf
  have hl := lv_entry ([.ref a_p0]) (n := 2) (Nat.le_of_ble_eq_true rfl)
  rw [lg_entry_eq]
  generalize (lg_sl ([.ref a_p0]) ++ List.replicate (2 - (lg_sl ([.ref a_p0])).length) Slot.unset).toArray = ls at hl ⊢
  have hl : lv_has ls 2 [(0, .ref a_p0)] := hl
  have hw0 := hts (.fieldLink RX11 36 "DistantVoice" "marks" "LDistantVoice$Marks;") (by decide +kernel)
  have hinX11 : ∀ w ∈ wsX110, w ∈ wsX11_mark := fun w h => List.mem_cons_of_mem _ (List.mem_append_left _ (List.mem_append_left _ (List.mem_append_left _ (List.mem_append_right _ h))))
  have hw2 := hts (.fieldLink RX11 10 "DistantVoice" "tape" "LDistantVoice$Tape;") (by decide +kernel)
  have hw3 := hts (.fieldLink RX11 67 "DistantVoice" "home" "LDistantVoice$House;") (by decide +kernel)
  have hnf48 := va_Nw.use (A := [.ref a_p0].toArray) rfl (hN.1.1.1 ("DistantVoice", 144, "DistantVoice$House", "ears", "I", "DistantVoice") (List.mem_of_getElem? (i := 48) rfl))
  have hinX2 : ∀ w ∈ wsX20, w ∈ wsX11_mark := fun w h => List.mem_cons_of_mem _ (List.mem_append_left _ (List.mem_append_left _ (List.mem_append_right _ h)))
  have hnf2 := va_Nw.use (A := [.ref a_p0].toArray) rfl (hN.1.1.1 ("DistantVoice", 90, "DistantVoice$Tape", "length", "I", "DistantVoice") (List.mem_of_getElem? (i := 2) rfl))
  have hinX9 : ∀ w ∈ wsX90, w ∈ wsX11_mark := fun w h => List.mem_cons_of_mem _ (List.mem_append_left _ (List.mem_append_right _ h))
  have hnf27 := va_Nw.use (A := [.ref a_p0].toArray) rfl (hN.1.1.1 ("DistantVoice", 135, "DistantVoice$Marks", "count", "I", "DistantVoice") (List.mem_of_getElem? (i := 27) rfl))
  have hinX5 : ∀ w ∈ wsX50, w ∈ wsX11_mark := fun w h => List.mem_cons_of_mem _ (List.mem_append_right _ h)
  have b34 : ∀ (tapeI_34 : Nat → Int32) (marksI_34 : Nat → Int32) (marks_nightsAheadF_34 : Nat → Int32) (marks_earsF_34 : Nat → Int32) (marks_hearingF_34 : Nat → Int32) (dv_refusedF_34 : Nat → Int32) (x1_34 : Int32) (ls : Array Slot) (H : Heap) (locs : List Loc), fX11_mark_b34 N homeI tape_bytesF (tapeI_34, marksI_34, marks_nightsAheadF_34, marks_earsF_34, marks_hearingF_34, dv_refusedF_34, x1_34) = some (r0, r1, r2, r3, r4, r5, r6) → va_P (dC, dI) vwCl [(a_p0, .inr (11, oX11 dvI dvR)), ((dvR 10), .inr (2, oX2 homeI homeR)), ((dvR 0), .inr (9, oX9 tapeI_34 tapeR)), ((tapeR 0), .inl (cB, 1600, .inl tape_bytesF)), ((dvR 4), .inr (5, oX5 marksI_34 marksR)), ((marksR 1), .inl (cI, 16, .inl marks_nightsAheadF_34)), ((marksR 2), .inl (cI, 16, .inl marks_earsF_34)), ((marksR 3), .inl (cI, 16, .inl marks_hearingF_34)), ((dvR 9), .inl (cI, 6, .inl dv_refusedF_34))] H → va_D A [(a_p0, .inr (11, oX11 dvI dvR)), ((dvR 10), .inr (2, oX2 homeI homeR)), ((dvR 0), .inr (9, oX9 tapeI_34 tapeR)), ((tapeR 0), .inl (cB, 1600, .inl tape_bytesF)), ((dvR 4), .inr (5, oX5 marksI_34 marksR)), ((marksR 1), .inl (cI, 16, .inl marks_nightsAheadF_34)), ((marksR 2), .inl (cI, 16, .inl marks_earsF_34)), ((marksR 3), .inl (cI, 16, .inl marks_hearingF_34)), ((dvR 9), .inl (cI, 6, .inl dv_refusedF_34))] → va_S A s.heap H locs → lv_has ls 2 [(0, .ref a_p0), (1, .int x1_34)] → W p l e (headSpec wsX11_mark { frames := 2, cells := 0, slots := 0, locals := 46 }).room s m [.ref a_p0].toArray below meth c H locs 0 0 (MQ below (xq_Q (dC, dI) vwCl (xq_tys cI cB cJ cZ cM) A [(a_p0, .inr (11, oX11 dvI dvR)), ((dvR 10), .inr (2, oX2 homeI homeR)), ((dvR 0), .inr (9, oX9 r1 tapeR)), ((tapeR 0), .inl (cB, 1600, .inl tape_bytesF)), ((dvR 4), .inr (5, oX5 r2 marksR)), ((marksR 1), .inl (cI, 16, .inl r3)), ((marksR 2), .inl (cI, 16, .inl r4)), ((marksR 3), .inl (cI, 16, .inl r5)), ((dvR 9), .inl (cI, 6, .inl r6))] (some (.int r0))) [.ref a_p0].toArray s 0 0 A) (F0 m 34 ls []) := by
    intro tapeI_34 marksI_34 marks_nightsAheadF_34 marks_earsF_34 marks_hearingF_34 dv_refusedF_34 x1_34 ls H locs hf hP hD hS hl
    unfold fX11_mark_b34 at hf
    refine lv_aload_n hx hb dX11_mark_34 rfl (lv_at hl 0 rfl) ?_
    refine va_get (D := (dC, dI)) (ci := 11) (v := .ref ((dvR 0))) (C := RX11) (T := TX11) (N := 15) hx hb hts hinX11 hown hK hP 0 rfl rfl 0 (by decide) hw2 (fun _ h9 => h9) rfl dX11_mark_35 ?_
    refine lv_iconst (v := 0) hx hb dX11_mark_38 (by decide) ?_
    refine va_putN (D := (dC, dI)) (ci := 9) (v := .int 0) (ty := .int) (C := RX9) (T := TX9) (N := 2) hx hb hts hinX9 tyX9 tyX9_ok nmX9 hown hK hP hD hS 2 rfl rfl 1 (by decide) hnf2 (fun _ h9 => h9) rfl (by decide +kernel) rfl rfl (Nat.le_of_ble_eq_true rfl) dX11_mark_39 (fun H locs hP hD hS => ?_)
    have hP : va_P (dC, dI) vwCl [(a_p0, .inr (11, oX11 dvI dvR)), ((dvR 10), .inr (2, oX2 homeI homeR)), ((dvR 0), .inr (9, oX9 (va_up tapeI_34 1 0) tapeR)), ((tapeR 0), .inl (cB, 1600, .inl tape_bytesF)), ((dvR 4), .inr (5, oX5 marksI_34 marksR)), ((marksR 1), .inl (cI, 16, .inl marks_nightsAheadF_34)), ((marksR 2), .inl (cI, 16, .inl marks_earsF_34)), ((marksR 3), .inl (cI, 16, .inl marks_hearingF_34)), ((dvR 9), .inl (cI, 6, .inl dv_refusedF_34))] H := hP
    have hD : va_D A [(a_p0, .inr (11, oX11 dvI dvR)), ((dvR 10), .inr (2, oX2 homeI homeR)), ((dvR 0), .inr (9, oX9 (va_up tapeI_34 1 0) tapeR)), ((tapeR 0), .inl (cB, 1600, .inl tape_bytesF)), ((dvR 4), .inr (5, oX5 marksI_34 marksR)), ((marksR 1), .inl (cI, 16, .inl marks_nightsAheadF_34)), ((marksR 2), .inl (cI, 16, .inl marks_earsF_34)), ((marksR 3), .inl (cI, 16, .inl marks_hearingF_34)), ((dvR 9), .inl (cI, 6, .inl dv_refusedF_34))] := hD
    refine lv_iload_n hx hb dX11_mark_42 rfl (lv_at hl 1 rfl) ?_
    refine lv_if_eq (tgt := 56) hx hb dX11_mark_43 (by decide) (fun c_ => ?_) (fun c_ => ?_)
    · have hf := xq_pos hf c_
      refine lv_aload_n hx hb dX11_mark_56 rfl (lv_at hl 0 rfl) ?_
      refine lv_iconst (v := 5) hx hb dX11_mark_57 (by decide) ?_
      obtain ⟨⟨r_1_0, r_1_1⟩, h_2, hf⟩ := xq_bd_some hf
      refine xq_callV (As := [.int 5]) (rest := []) (ci := 11) (q0 := 0) ⟨hx, hb, hml, hown, hts⟩ (kX11_refuseNumber l dC dI cI cB cJ cZ cM z ad N a_p0 dvI dvR dv_refusedF_34 5 h_2) (cwV 1 hts gX11_mark_X11_refuseNumber rfl rfl rfl (by decide +kernel) ⟨Nat.le_of_ble_eq_true rfl, Nat.le_of_ble_eq_true rfl⟩) hN hK hP hD hS hA [0, 8] (by decide) rfl rfl rfl rfl rfl rfl hl.1 rfl (Nat.le_of_ble_eq_true rfl) dX11_mark_58 ⟨Nat.zero_le _, Nat.zero_le _⟩ (fun H locs hP hD hS => ?_)
      have hP : va_P (dC, dI) vwCl [(a_p0, .inr (11, oX11 dvI dvR)), ((dvR 10), .inr (2, oX2 homeI homeR)), ((dvR 0), .inr (9, oX9 (va_up tapeI_34 1 0) tapeR)), ((tapeR 0), .inl (cB, 1600, .inl tape_bytesF)), ((dvR 4), .inr (5, oX5 marksI_34 marksR)), ((marksR 1), .inl (cI, 16, .inl marks_nightsAheadF_34)), ((marksR 2), .inl (cI, 16, .inl marks_earsF_34)), ((marksR 3), .inl (cI, 16, .inl marks_hearingF_34)), ((dvR 9), .inl (cI, 6, .inl r_1_1))] H := hP
      have hD : va_D A [(a_p0, .inr (11, oX11 dvI dvR)), ((dvR 10), .inr (2, oX2 homeI homeR)), ((dvR 0), .inr (9, oX9 (va_up tapeI_34 1 0) tapeR)), ((tapeR 0), .inl (cB, 1600, .inl tape_bytesF)), ((dvR 4), .inr (5, oX5 marksI_34 marksR)), ((marksR 1), .inl (cI, 16, .inl marks_nightsAheadF_34)), ((marksR 2), .inl (cI, 16, .inl marks_earsF_34)), ((marksR 3), .inl (cI, 16, .inl marks_hearingF_34)), ((dvR 9), .inl (cI, 6, .inl r_1_1))] := hD
      refine W.eq (g2 := F0 m 61 ls [.int r_1_0]) rfl ?_
      cases hf
      exact xq_iret hx hb hr hlocks hK hP hD hS dX11_mark_61
    · have hf := xq_neg hf c_
      refine lv_aload_n hx hb dX11_mark_46 rfl (lv_at hl 0 rfl) ?_
      refine va_get (D := (dC, dI)) (ci := 11) (v := .ref ((dvR 4))) (C := RX11) (T := TX11) (N := 15) hx hb hts hinX11 hown hK hP 0 rfl rfl 4 (by decide) hw0 (fun _ h9 => h9) rfl dX11_mark_47 ?_
      refine va_getN (D := (dC, dI)) (ci := 5) (v := .int (marksI_34 0)) (C := RX5) (T := TX5) (N := 4) hx hb hts hinX5 hown hK hP 4 rfl rfl 0 (by decide) hnf27 (fun _ h9 => h9) rfl dX11_mark_50 ?_
      refine lv_goto (tgt := 61) hx hb dX11_mark_53 (by decide) ?_
      cases hf
      exact xq_iret hx hb hr hlocks hK hP hD hS dX11_mark_61
  unfold fX11_mark at hf
  refine lv_aload_n hx hb dX11_mark_0 rfl (lv_at hl 0 rfl) ?_
  refine va_get (D := (dC, dI)) (ci := 11) (v := .ref ((dvR 4))) (C := RX11) (T := TX11) (N := 15) hx hb hts hinX11 hown hK hP 0 rfl rfl 4 (by decide) hw0 (fun _ h9 => h9) rfl dX11_mark_1 ?_
  refine lv_aload_n hx hb dX11_mark_4 rfl (lv_at hl 0 rfl) ?_
  refine va_get (D := (dC, dI)) (ci := 11) (v := .ref ((dvR 0))) (C := RX11) (T := TX11) (N := 15) hx hb hts hinX11 hown hK hP 0 rfl rfl 0 (by decide) hw2 (fun _ h9 => h9) rfl dX11_mark_5 ?_
  refine lv_aload_n hx hb dX11_mark_8 rfl (lv_at hl 0 rfl) ?_
  refine va_get (D := (dC, dI)) (ci := 11) (v := .ref ((dvR 10))) (C := RX11) (T := TX11) (N := 15) hx hb hts hinX11 hown hK hP 0 rfl rfl 10 (by decide) hw3 (fun _ h9 => h9) rfl dX11_mark_9 ?_
  refine va_getN (D := (dC, dI)) (ci := 2) (v := .int (homeI 5)) (C := RX2) (T := TX2) (N := 19) hx hb hts hinX2 hown hK hP 1 rfl rfl 5 (by decide) hnf48 (fun _ h9 => h9) rfl dX11_mark_12 ?_
  obtain ⟨r_1, h_2, hf⟩ := xq_bd_some hf
  refine xq_callV (As := [.ref ((dvR 0)), .int (homeI 5)]) (rest := []) (ci := 5) (q0 := 4) ⟨hx, hb, hml, hown, hts⟩ (kX5_tellsMarks l dC dI cI cB cJ cZ cM z ad N ((dvR 0)) tapeI tapeR tape_bytesF (homeI 5) ((dvR 4)) h_2) (cwV 2 hts gX11_mark_X5_tellsMarks rfl rfl rfl (by decide +kernel) ⟨Nat.le_of_ble_eq_true rfl, Nat.le_of_ble_eq_true rfl⟩) hN hK hP hD hS hA [2, 3] (by decide) rfl rfl rfl rfl rfl rfl hl.1 rfl (Nat.le_of_ble_eq_true rfl) dX11_mark_15 ⟨Nat.zero_le _, Nat.zero_le _⟩ (fun H locs hP hD hS => ?_)
  have hP : va_P (dC, dI) vwCl [(a_p0, .inr (11, oX11 dvI dvR)), ((dvR 10), .inr (2, oX2 homeI homeR)), ((dvR 0), .inr (9, oX9 tapeI tapeR)), ((tapeR 0), .inl (cB, 1600, .inl tape_bytesF)), ((dvR 4), .inr (5, oX5 marksI marksR)), ((marksR 1), .inl (cI, 16, .inl marks_nightsAheadF)), ((marksR 2), .inl (cI, 16, .inl marks_earsF)), ((marksR 3), .inl (cI, 16, .inl marks_hearingF)), ((dvR 9), .inl (cI, 6, .inl dv_refusedF))] H := hP
  have hD : va_D A [(a_p0, .inr (11, oX11 dvI dvR)), ((dvR 10), .inr (2, oX2 homeI homeR)), ((dvR 0), .inr (9, oX9 tapeI tapeR)), ((tapeR 0), .inl (cB, 1600, .inl tape_bytesF)), ((dvR 4), .inr (5, oX5 marksI marksR)), ((marksR 1), .inl (cI, 16, .inl marks_nightsAheadF)), ((marksR 2), .inl (cI, 16, .inl marks_earsF)), ((marksR 3), .inl (cI, 16, .inl marks_hearingF)), ((dvR 9), .inl (cI, 6, .inl dv_refusedF))] := hD
  refine W.eq (g2 := F0 m 18 ls [.int r_1]) rfl ?_
  refine lv_istore_n (lv' := [(1, .int r_1), (0, .ref a_p0)]) hx hb dX11_mark_18 rfl hl (by decide) rfl (fun ls hl => ?_)
  refine lv_iload_n hx hb dX11_mark_19 rfl (lv_at hl 0 rfl) ?_
  refine lv_if_eq (tgt := 34) hx hb dX11_mark_20 (by decide) (fun c_ => ?_) (fun c_ => ?_)
  · have hf := xq_pos hf c_
    exact b34 tapeI marksI marks_nightsAheadF marks_earsF marks_hearingF dv_refusedF r_1 _ _ _ hf hP hD hS (lv_sub hl [1, 0] rfl)
  · have hf := xq_neg hf c_
    refine lv_aload_n hx hb dX11_mark_23 rfl (lv_at hl 1 rfl) ?_
    refine va_get (D := (dC, dI)) (ci := 11) (v := .ref ((dvR 4))) (C := RX11) (T := TX11) (N := 15) hx hb hts hinX11 hown hK hP 0 rfl rfl 4 (by decide) hw0 (fun _ h9 => h9) rfl dX11_mark_24 ?_
    refine lv_aload_n hx hb dX11_mark_27 rfl (lv_at hl 1 rfl) ?_
    refine va_get (D := (dC, dI)) (ci := 11) (v := .ref ((dvR 0))) (C := RX11) (T := TX11) (N := 15) hx hb hts hinX11 hown hK hP 0 rfl rfl 0 (by decide) hw2 (fun _ h9 => h9) rfl dX11_mark_28 ?_
    obtain ⟨⟨r_3_0, r_3_1, r_3_2, r_3_3⟩, h_4, hf⟩ := xq_bd_some hf
    refine xq_callV (As := [.ref ((dvR 0))]) (rest := []) (ci := 5) (q0 := 4) ⟨hx, hb, hml, hown, hts⟩ (kX5_take l dC dI cI cB cJ cZ cM z ad N ((dvR 0)) tapeI tapeR ((dvR 4)) marksI marksR tape_bytesF marks_nightsAheadF marks_earsF marks_hearingF h_4) (cwV 1 hts gX11_mark_X5_take rfl rfl rfl (by decide +kernel) ⟨Nat.le_of_ble_eq_true rfl, Nat.le_of_ble_eq_true rfl⟩) hN hK hP hD hS hA [2, 4, 3, 5, 6, 7] (by decide) rfl rfl rfl rfl rfl rfl hl.1 rfl (Nat.le_of_ble_eq_true rfl) dX11_mark_31 ⟨Nat.zero_le _, Nat.zero_le _⟩ (fun H locs hP hD hS => ?_)
    have hP : va_P (dC, dI) vwCl [(a_p0, .inr (11, oX11 dvI dvR)), ((dvR 10), .inr (2, oX2 homeI homeR)), ((dvR 0), .inr (9, oX9 tapeI tapeR)), ((tapeR 0), .inl (cB, 1600, .inl tape_bytesF)), ((dvR 4), .inr (5, oX5 r_3_0 marksR)), ((marksR 1), .inl (cI, 16, .inl r_3_1)), ((marksR 2), .inl (cI, 16, .inl r_3_2)), ((marksR 3), .inl (cI, 16, .inl r_3_3)), ((dvR 9), .inl (cI, 6, .inl dv_refusedF))] H := hP
    have hD : va_D A [(a_p0, .inr (11, oX11 dvI dvR)), ((dvR 10), .inr (2, oX2 homeI homeR)), ((dvR 0), .inr (9, oX9 tapeI tapeR)), ((tapeR 0), .inl (cB, 1600, .inl tape_bytesF)), ((dvR 4), .inr (5, oX5 r_3_0 marksR)), ((marksR 1), .inl (cI, 16, .inl r_3_1)), ((marksR 2), .inl (cI, 16, .inl r_3_2)), ((marksR 3), .inl (cI, 16, .inl r_3_3)), ((dvR 9), .inl (cI, 6, .inl dv_refusedF))] := hD
    refine W.eq (g2 := F0 m 34 ls []) rfl ?_
    exact b34 tapeI r_3_0 r_3_1 r_3_2 r_3_3 dv_refusedF r_1 _ _ _ hf hP hD hS (lv_sub hl [1, 0] rfl)
set_option maxRecDepth 20000 in
theorem ggX11_seed_X11_refuse : GoodIn wsX11_seed wsX11_refuse := goodIn_r _ [6, 7, 8, 9, 10, 11, 12, 13, 14, 15, 16, 17, 18, 19, 20, 21, 22] rfl (by decide +kernel)
set_option maxRecDepth 20000 in
theorem gX11_seed_X11_refuse : GoodIn wsX11_seed (wsV RX11 101 RX11 yX11_refuse wsX11_refuse) := goodIn_app (goodIn_of _ (by decide +kernel)) ggX11_seed_X11_refuse
def dsX11_seed_0 : List (Nat × Instr × Nat) := [(0, (.iload_n 1, 1)), (1, (.ifCond .ge 9, 3)), (4, (.aload_n 0, 1)), (5, (.iconst 5, 1)), (6, (.invokevirtual 101, 3)), (9, (.ireturn, 1)), (10, (.aload_n 0, 1)), (11, (.iload_n 1, 1)), (12, (.putfield 80, 3)), (15, (.iconst 1, 1)), (16, (.ireturn, 1))]
theorem dsX11_seed_0_ok : (dsX11_seed_0.all fun q => decide (decode cX11_seed q.1 = .ok q.2)) = true := by decide +kernel
theorem dX11_seed_0 : decode cX11_seed 0 = .ok (.iload_n 1, 1) := of_decide_eq_true (List.all_eq_true.mp dsX11_seed_0_ok (0, (.iload_n 1, 1)) (List.mem_of_getElem? (i := 0) rfl))
theorem dX11_seed_1 : decode cX11_seed 1 = .ok (.ifCond .ge 9, 3) := of_decide_eq_true (List.all_eq_true.mp dsX11_seed_0_ok (1, (.ifCond .ge 9, 3)) (List.mem_of_getElem? (i := 1) rfl))
theorem dX11_seed_4 : decode cX11_seed 4 = .ok (.aload_n 0, 1) := of_decide_eq_true (List.all_eq_true.mp dsX11_seed_0_ok (4, (.aload_n 0, 1)) (List.mem_of_getElem? (i := 2) rfl))
theorem dX11_seed_5 : decode cX11_seed 5 = .ok (.iconst 5, 1) := of_decide_eq_true (List.all_eq_true.mp dsX11_seed_0_ok (5, (.iconst 5, 1)) (List.mem_of_getElem? (i := 3) rfl))
theorem dX11_seed_6 : decode cX11_seed 6 = .ok (.invokevirtual 101, 3) := of_decide_eq_true (List.all_eq_true.mp dsX11_seed_0_ok (6, (.invokevirtual 101, 3)) (List.mem_of_getElem? (i := 4) rfl))
theorem dX11_seed_9 : decode cX11_seed 9 = .ok (.ireturn, 1) := of_decide_eq_true (List.all_eq_true.mp dsX11_seed_0_ok (9, (.ireturn, 1)) (List.mem_of_getElem? (i := 5) rfl))
theorem dX11_seed_10 : decode cX11_seed 10 = .ok (.aload_n 0, 1) := of_decide_eq_true (List.all_eq_true.mp dsX11_seed_0_ok (10, (.aload_n 0, 1)) (List.mem_of_getElem? (i := 6) rfl))
theorem dX11_seed_11 : decode cX11_seed 11 = .ok (.iload_n 1, 1) := of_decide_eq_true (List.all_eq_true.mp dsX11_seed_0_ok (11, (.iload_n 1, 1)) (List.mem_of_getElem? (i := 7) rfl))
theorem dX11_seed_12 : decode cX11_seed 12 = .ok (.putfield 80, 3) := of_decide_eq_true (List.all_eq_true.mp dsX11_seed_0_ok (12, (.putfield 80, 3)) (List.mem_of_getElem? (i := 8) rfl))
theorem dX11_seed_15 : decode cX11_seed 15 = .ok (.iconst 1, 1) := of_decide_eq_true (List.all_eq_true.mp dsX11_seed_0_ok (15, (.iconst 1, 1)) (List.mem_of_getElem? (i := 9) rfl))
theorem dX11_seed_16 : decode cX11_seed 16 = .ok (.ireturn, 1) := of_decide_eq_true (List.all_eq_true.mp dsX11_seed_0_ok (16, (.ireturn, 1)) (List.mem_of_getElem? (i := 10) rfl))
def fX11_seed (N : Nat) (dvI : Nat → Int32) (dv_refusedF : Nat → Int32)  (p1 : Int32) : Option (Int32 × (Nat → Int32) × (Nat → Int32)) :=
  (if 0 ≤ p1 then some ((1, (va_up dvI 12 p1), dv_refusedF)) else (xq_bd (fX11_refuse N dv_refusedF 5) fun (r_1_0, r_1_1) => (xq_bd (xq_zb r_1_0) fun v_3 => some ((r_1_0, dvI, r_1_1)))))
set_option maxHeartbeats 4000000 in
set_option maxRecDepth 100000 in
theorem kX11_seed (l : Launch) (dC : Nat → ClassId) (dI : Nat → Nat → Nat) (cI cB cJ cZ cM : ClassId) (z : Nat) (ad : Nat → Nat) (N : Nat) (a_p0 : Nat) (dvI : Nat → Int32) (dvR : Nat → Nat) (dv_refusedF : Nat → Int32) (p1 : Int32) {r0 : Int32} {r1 : Nat → Int32} {r2 : Nat → Int32} (hf : fX11_seed N dvI dv_refusedF p1 = some (r0, r1, r2)) : xq_Ct l yX11_seed wsX11_seed { frames := 1, cells := 0, slots := 0, locals := 21 } (dC, dI) vwCl (xq_tys cI cB cJ cZ cM) z ad [.ref a_p0, .int p1] [(a_p0, .inr (11, oX11 dvI dvR)), ((dvR 9), .inl (cI, 6, .inl dv_refusedF))] [(a_p0, .inr (11, oX11 r1 dvR)), ((dvR 9), .inl (cI, 6, .inl r2))] (some (.int r0)) := by
  intro sz
  refine Met.ofW (cc := cX11_seed) (maxL := 2) (ret := (some .boolean)) (by decide) rfl ?_
  intro p e s m args below meth c s₁ B hml hv
  obtain ⟨rfl, hsz, hP, hK, hD0, hE, hz⟩ := hv
  have hx := B.exec
  have hb := B.bytes
  have hr := B.returns
  have hts := atoms_spec (ws := wsX11_seed) B.pre
  have hown : s.vm.findClass RX11 = some m.cls := findClass_of_methodNamed B.named
  have hlocks := B.notSynchronized
  subst hsz
  have hD := hD0.self (sz := s.heap.size)
  have hN := xq_Env.of hE hz hD0
  generalize hAe : va_A [(a_p0, .inr (11, oX11 dvI dvR)), ((dvR 9), .inl (cI, 6, .inl dv_refusedF))] s.heap.size = A at hD hN ⊢
  have hA : ∀ q : Nat, s.heap.size ≤ q → A q := fun q h => by rw [← hAe]; exact Or.inr h
  clear hAe hD0
  have hS : va_S A s.heap s.heap [] := va_S.rf
  have hl := lv_entry ([.ref a_p0, .int p1]) (n := 2) (Nat.le_of_ble_eq_true rfl)
  rw [lg_entry_eq]
  generalize (lg_sl ([.ref a_p0, .int p1]) ++ List.replicate (2 - (lg_sl ([.ref a_p0, .int p1])).length) Slot.unset).toArray = ls at hl ⊢
  have hl : lv_has ls 2 [(0, .ref a_p0), (1, .int p1)] := hl
  have hw0 := hts (.fieldLink RX11 80 "DistantVoice" "drawn" "I") (by decide +kernel)
  have hinX11 : ∀ w ∈ wsX110, w ∈ wsX11_seed := fun w h => List.mem_cons_of_mem _ (List.mem_append_right _ h)
  unfold fX11_seed at hf
  refine lv_iload_n hx hb dX11_seed_0 rfl (lv_at hl 1 rfl) ?_
  refine lv_if_ge (tgt := 10) hx hb dX11_seed_1 (by decide) (fun c_ => ?_) (fun c_ => ?_)
  · have hf := xq_pos hf c_
    refine lv_aload_n hx hb dX11_seed_10 rfl (lv_at hl 0 rfl) ?_
    refine lv_iload_n hx hb dX11_seed_11 rfl (lv_at hl 1 rfl) ?_
    refine va_put (D := (dC, dI)) (ci := 11) (v := .int p1) (ty := .int) (C := RX11) (T := TX11) (N := 15) hx hb hts hinX11 tyX11 tyX11_ok nmX11 hown hK hP hD hS 0 rfl rfl 12 (by decide) hw0 (fun _ h9 => h9) rfl (by decide +kernel) rfl rfl (Nat.le_of_ble_eq_true rfl) dX11_seed_12 (fun H locs hP hD hS => ?_)
    have hP : va_P (dC, dI) vwCl [(a_p0, .inr (11, oX11 (va_up dvI 12 p1) dvR)), ((dvR 9), .inl (cI, 6, .inl dv_refusedF))] H := hP
    have hD : va_D A [(a_p0, .inr (11, oX11 (va_up dvI 12 p1) dvR)), ((dvR 9), .inl (cI, 6, .inl dv_refusedF))] := hD
    refine lv_iconst (v := 1) hx hb dX11_seed_15 (by decide) ?_
    cases hf
    exact xq_zret hx hb hr (by decide +kernel) hlocks hK hP hD hS dX11_seed_16
  · have hf := xq_neg hf c_
    refine lv_aload_n hx hb dX11_seed_4 rfl (lv_at hl 0 rfl) ?_
    refine lv_iconst (v := 5) hx hb dX11_seed_5 (by decide) ?_
    obtain ⟨⟨r_1_0, r_1_1⟩, h_2, hf⟩ := xq_bd_some hf
    refine xq_callV (As := [.int 5]) (rest := []) (ci := 11) (q0 := 0) ⟨hx, hb, hml, hown, hts⟩ (kX11_refuse l dC dI cI cB cJ cZ cM z ad N a_p0 dvI dvR dv_refusedF 5 h_2) (cwV 1 hts gX11_seed_X11_refuse rfl rfl rfl (by decide +kernel) ⟨Nat.le_of_ble_eq_true rfl, Nat.le_of_ble_eq_true rfl⟩) hN hK hP hD hS hA [0, 1] (by decide) rfl rfl rfl rfl rfl rfl hl.1 rfl (Nat.le_of_ble_eq_true rfl) dX11_seed_6 ⟨Nat.zero_le _, Nat.zero_le _⟩ (fun H locs hP hD hS => ?_)
    have hP : va_P (dC, dI) vwCl [(a_p0, .inr (11, oX11 dvI dvR)), ((dvR 9), .inl (cI, 6, .inl r_1_1))] H := hP
    have hD : va_D A [(a_p0, .inr (11, oX11 dvI dvR)), ((dvR 9), .inl (cI, 6, .inl r_1_1))] := hD
    refine W.eq (g2 := F0 m 9 ls [.int r_1_0]) rfl ?_
    obtain ⟨v_3, hz, hf⟩ := xq_bd_some hf
    obtain ⟨hn9, hf9⟩ := xq_zb_n hz
    obtain rfl := (xq_zb_some hz).2
    cases hf
    exact xq_zret hx hb hr hn9 hlocks hK hP hD hS dX11_seed_9
set_option maxRecDepth 20000 in
theorem ggX11_image_X4_write : GoodIn wsX11_image wsX4_write := goodIn_r _ [8, 9, 10, 11, 12, 13, 7, 14, 15, 16, 17, 18, 19, 20, 21, 56, 57, 58, 59, 60, 61, 62, 63, 64, 65] rfl (by decide +kernel)
set_option maxRecDepth 20000 in
theorem gX11_image_X4_write : GoodIn wsX11_image (wsV RX11 320 RX4 yX4_write wsX4_write) := goodIn_app (goodIn_of _ (by decide +kernel)) ggX11_image_X4_write
def dsX11_image_0 : List (Nat × Instr × Nat) := [(0, (.aload_n 0, 1)), (1, (.getfield 50, 3)), (4, (.aload_n 0, 1)), (5, (.getfield 19, 3)), (8, (.aload_n 0, 1)), (9, (.getfield 67, 3)), (12, (.getfield 144, 3)), (15, (.aload_n 0, 1)), (16, (.getfield 67, 3)), (19, (.getfield 147, 3)), (22, (.invokevirtual 320, 3)), (25, (.aload_n 0, 1)), (26, (.getfield 50, 3)), (29, (.getfield 324, 3)), (32, (.ireturn, 1))]
theorem dsX11_image_0_ok : (dsX11_image_0.all fun q => decide (decode cX11_image q.1 = .ok q.2)) = true := by decide +kernel
theorem dX11_image_0 : decode cX11_image 0 = .ok (.aload_n 0, 1) := of_decide_eq_true (List.all_eq_true.mp dsX11_image_0_ok (0, (.aload_n 0, 1)) (List.mem_of_getElem? (i := 0) rfl))
theorem dX11_image_1 : decode cX11_image 1 = .ok (.getfield 50, 3) := of_decide_eq_true (List.all_eq_true.mp dsX11_image_0_ok (1, (.getfield 50, 3)) (List.mem_of_getElem? (i := 1) rfl))
theorem dX11_image_4 : decode cX11_image 4 = .ok (.aload_n 0, 1) := of_decide_eq_true (List.all_eq_true.mp dsX11_image_0_ok (4, (.aload_n 0, 1)) (List.mem_of_getElem? (i := 2) rfl))
theorem dX11_image_5 : decode cX11_image 5 = .ok (.getfield 19, 3) := of_decide_eq_true (List.all_eq_true.mp dsX11_image_0_ok (5, (.getfield 19, 3)) (List.mem_of_getElem? (i := 3) rfl))
theorem dX11_image_8 : decode cX11_image 8 = .ok (.aload_n 0, 1) := of_decide_eq_true (List.all_eq_true.mp dsX11_image_0_ok (8, (.aload_n 0, 1)) (List.mem_of_getElem? (i := 4) rfl))
theorem dX11_image_9 : decode cX11_image 9 = .ok (.getfield 67, 3) := of_decide_eq_true (List.all_eq_true.mp dsX11_image_0_ok (9, (.getfield 67, 3)) (List.mem_of_getElem? (i := 5) rfl))
theorem dX11_image_12 : decode cX11_image 12 = .ok (.getfield 144, 3) := of_decide_eq_true (List.all_eq_true.mp dsX11_image_0_ok (12, (.getfield 144, 3)) (List.mem_of_getElem? (i := 6) rfl))
theorem dX11_image_15 : decode cX11_image 15 = .ok (.aload_n 0, 1) := of_decide_eq_true (List.all_eq_true.mp dsX11_image_0_ok (15, (.aload_n 0, 1)) (List.mem_of_getElem? (i := 7) rfl))
theorem dX11_image_16 : decode cX11_image 16 = .ok (.getfield 67, 3) := of_decide_eq_true (List.all_eq_true.mp dsX11_image_0_ok (16, (.getfield 67, 3)) (List.mem_of_getElem? (i := 8) rfl))
theorem dX11_image_19 : decode cX11_image 19 = .ok (.getfield 147, 3) := of_decide_eq_true (List.all_eq_true.mp dsX11_image_0_ok (19, (.getfield 147, 3)) (List.mem_of_getElem? (i := 9) rfl))
theorem dX11_image_22 : decode cX11_image 22 = .ok (.invokevirtual 320, 3) := of_decide_eq_true (List.all_eq_true.mp dsX11_image_0_ok (22, (.invokevirtual 320, 3)) (List.mem_of_getElem? (i := 10) rfl))
theorem dX11_image_25 : decode cX11_image 25 = .ok (.aload_n 0, 1) := of_decide_eq_true (List.all_eq_true.mp dsX11_image_0_ok (25, (.aload_n 0, 1)) (List.mem_of_getElem? (i := 11) rfl))
theorem dX11_image_26 : decode cX11_image 26 = .ok (.getfield 50, 3) := of_decide_eq_true (List.all_eq_true.mp dsX11_image_0_ok (26, (.getfield 50, 3)) (List.mem_of_getElem? (i := 12) rfl))
theorem dX11_image_29 : decode cX11_image 29 = .ok (.getfield 324, 3) := of_decide_eq_true (List.all_eq_true.mp dsX11_image_0_ok (29, (.getfield 324, 3)) (List.mem_of_getElem? (i := 13) rfl))
theorem dX11_image_32 : decode cX11_image 32 = .ok (.ireturn, 1) := of_decide_eq_true (List.all_eq_true.mp dsX11_image_0_ok (32, (.ireturn, 1)) (List.mem_of_getElem? (i := 14) rfl))
def fX11_image (N : Nat) (homeI : Nat → Int32) (pictureI : Nat → Int32) (nowI : Nat → Int32) (picture_bytesF : Nat → Int32) (now_rowsF : Nat → Int32) (now_talksF : Nat → Int32)   : Option (Int32 × (Nat → Int32) × (Nat → Int32)) :=
  (xq_bd (fX4_write N pictureI nowI picture_bytesF now_rowsF now_talksF (homeI 5) (homeI 6)) fun (r_1_0, r_1_1) => some ((r_1_0 1, r_1_0, r_1_1)))
set_option maxHeartbeats 4000000 in
set_option maxRecDepth 100000 in
theorem kX11_image (l : Launch) (dC : Nat → ClassId) (dI : Nat → Nat → Nat) (cI cB cJ cZ cM : ClassId) (z : Nat) (ad : Nat → Nat) (N : Nat) (a_p0 : Nat) (dvI : Nat → Int32) (dvR : Nat → Nat) (homeI : Nat → Int32) (homeR : Nat → Nat) (pictureI : Nat → Int32) (pictureR : Nat → Nat) (nowI : Nat → Int32) (nowR : Nat → Nat) (picture_bytesF : Nat → Int32) (now_rowsF : Nat → Int32) (now_talksF : Nat → Int32) {r0 : Int32} {r1 : Nat → Int32} {r2 : Nat → Int32} (hf : fX11_image N homeI pictureI nowI picture_bytesF now_rowsF now_talksF = some (r0, r1, r2)) : xq_Ct l yX11_image wsX11_image { frames := 3, cells := 0, slots := 0, locals := 67 } (dC, dI) vwCl (xq_tys cI cB cJ cZ cM) z ad [.ref a_p0] [(a_p0, .inr (11, oX11 dvI dvR)), ((dvR 10), .inr (2, oX2 homeI homeR)), ((dvR 6), .inr (4, oX4 pictureI pictureR)), ((dvR 1), .inr (6, oX6 nowI nowR)), ((pictureR 0), .inl (cI, 22, .inl picture_bytesF)), ((nowR 6), .inl (cI, 7, .inl now_rowsF)), ((nowR 7), .inl (cI, 6, .inl now_talksF))] [(a_p0, .inr (11, oX11 dvI dvR)), ((dvR 10), .inr (2, oX2 homeI homeR)), ((dvR 6), .inr (4, oX4 r1 pictureR)), ((dvR 1), .inr (6, oX6 nowI nowR)), ((pictureR 0), .inl (cI, 22, .inl r2)), ((nowR 6), .inl (cI, 7, .inl now_rowsF)), ((nowR 7), .inl (cI, 6, .inl now_talksF))] (some (.int r0)) := by
  intro sz
  refine Met.ofW (cc := cX11_image) (maxL := 1) (ret := (some .int)) (by decide) rfl ?_
  intro p e s m args below meth c s₁ B hml hv
  obtain ⟨rfl, hsz, hP, hK, hD0, hE, hz⟩ := hv
  have hx := B.exec
  have hb := B.bytes
  have hr := B.returns
  have hts := atoms_spec (ws := wsX11_image) B.pre
  have hown : s.vm.findClass RX11 = some m.cls := findClass_of_methodNamed B.named
  have hlocks := B.notSynchronized
  subst hsz
  have hD := hD0.self (sz := s.heap.size)
  have hN := xq_Env.of hE hz hD0
  generalize hAe : va_A [(a_p0, .inr (11, oX11 dvI dvR)), ((dvR 10), .inr (2, oX2 homeI homeR)), ((dvR 6), .inr (4, oX4 pictureI pictureR)), ((dvR 1), .inr (6, oX6 nowI nowR)), ((pictureR 0), .inl (cI, 22, .inl picture_bytesF)), ((nowR 6), .inl (cI, 7, .inl now_rowsF)), ((nowR 7), .inl (cI, 6, .inl now_talksF))] s.heap.size = A at hD hN ⊢
  have hA : ∀ q : Nat, s.heap.size ≤ q → A q := fun q h => by rw [← hAe]; exact Or.inr h
  clear hAe hD0
  have hS : va_S A s.heap s.heap [] := va_S.rf
  have hl := lv_entry ([.ref a_p0]) (n := 1) (Nat.le_of_ble_eq_true rfl)
  rw [lg_entry_eq]
  generalize (lg_sl ([.ref a_p0]) ++ List.replicate (1 - (lg_sl ([.ref a_p0])).length) Slot.unset).toArray = ls at hl ⊢
  have hl : lv_has ls 1 [(0, .ref a_p0)] := hl
  have hw0 := hts (.fieldLink RX11 50 "DistantVoice" "picture" "LDistantVoice$Image;") (by decide +kernel)
  have hinX11 : ∀ w ∈ wsX110, w ∈ wsX11_image := fun w h => List.mem_cons_of_mem _ (List.mem_append_left _ (List.mem_append_left _ (List.mem_append_left _ (List.mem_append_right _ h))))
  have hw2 := hts (.fieldLink RX11 19 "DistantVoice" "now" "LDistantVoice$Moment;") (by decide +kernel)
  have hw3 := hts (.fieldLink RX11 67 "DistantVoice" "home" "LDistantVoice$House;") (by decide +kernel)
  have hnf48 := va_Nw.use (A := [.ref a_p0].toArray) rfl (hN.1.1.1 ("DistantVoice", 144, "DistantVoice$House", "ears", "I", "DistantVoice") (List.mem_of_getElem? (i := 48) rfl))
  have hinX2 : ∀ w ∈ wsX20, w ∈ wsX11_image := fun w h => List.mem_cons_of_mem _ (List.mem_append_left _ (List.mem_append_left _ (List.mem_append_right _ h)))
  have hnf52 := va_Nw.use (A := [.ref a_p0].toArray) rfl (hN.1.1.1 ("DistantVoice", 147, "DistantVoice$House", "places", "I", "DistantVoice") (List.mem_of_getElem? (i := 52) rfl))
  have hnf32 := va_Nw.use (A := [.ref a_p0].toArray) rfl (hN.1.1.1 ("DistantVoice", 324, "DistantVoice$Image", "length", "I", "DistantVoice") (List.mem_of_getElem? (i := 32) rfl))
  have hinX4 : ∀ w ∈ wsX40, w ∈ wsX11_image := fun w h => List.mem_cons_of_mem _ (List.mem_append_left _ (List.mem_append_right _ h))
  unfold fX11_image at hf
  refine lv_aload_n hx hb dX11_image_0 rfl (lv_at hl 0 rfl) ?_
  refine va_get (D := (dC, dI)) (ci := 11) (v := .ref ((dvR 6))) (C := RX11) (T := TX11) (N := 15) hx hb hts hinX11 hown hK hP 0 rfl rfl 6 (by decide) hw0 (fun _ h9 => h9) rfl dX11_image_1 ?_
  refine lv_aload_n hx hb dX11_image_4 rfl (lv_at hl 0 rfl) ?_
  refine va_get (D := (dC, dI)) (ci := 11) (v := .ref ((dvR 1))) (C := RX11) (T := TX11) (N := 15) hx hb hts hinX11 hown hK hP 0 rfl rfl 1 (by decide) hw2 (fun _ h9 => h9) rfl dX11_image_5 ?_
  refine lv_aload_n hx hb dX11_image_8 rfl (lv_at hl 0 rfl) ?_
  refine va_get (D := (dC, dI)) (ci := 11) (v := .ref ((dvR 10))) (C := RX11) (T := TX11) (N := 15) hx hb hts hinX11 hown hK hP 0 rfl rfl 10 (by decide) hw3 (fun _ h9 => h9) rfl dX11_image_9 ?_
  refine va_getN (D := (dC, dI)) (ci := 2) (v := .int (homeI 5)) (C := RX2) (T := TX2) (N := 19) hx hb hts hinX2 hown hK hP 1 rfl rfl 5 (by decide) hnf48 (fun _ h9 => h9) rfl dX11_image_12 ?_
  refine lv_aload_n hx hb dX11_image_15 rfl (lv_at hl 0 rfl) ?_
  refine va_get (D := (dC, dI)) (ci := 11) (v := .ref ((dvR 10))) (C := RX11) (T := TX11) (N := 15) hx hb hts hinX11 hown hK hP 0 rfl rfl 10 (by decide) hw3 (fun _ h9 => h9) rfl dX11_image_16 ?_
  refine va_getN (D := (dC, dI)) (ci := 2) (v := .int (homeI 6)) (C := RX2) (T := TX2) (N := 19) hx hb hts hinX2 hown hK hP 1 rfl rfl 6 (by decide) hnf52 (fun _ h9 => h9) rfl dX11_image_19 ?_
  obtain ⟨⟨r_1_0, r_1_1⟩, h_2, hf⟩ := xq_bd_some hf
  refine xq_callV (As := [.ref ((dvR 1)), .int (homeI 5), .int (homeI 6)]) (rest := []) (ci := 4) (q0 := 2) ⟨hx, hb, hml, hown, hts⟩ (kX4_write l dC dI cI cB cJ cZ cM z ad N ((dvR 6)) pictureI pictureR ((dvR 1)) nowI nowR picture_bytesF now_rowsF now_talksF (homeI 5) (homeI 6) h_2) (cwV 3 hts gX11_image_X4_write rfl rfl rfl (by decide +kernel) ⟨Nat.le_of_ble_eq_true rfl, Nat.le_of_ble_eq_true rfl⟩) hN hK hP hD hS hA [2, 3, 4, 5, 6] (by decide) rfl rfl rfl rfl rfl rfl hl.1 rfl (Nat.le_of_ble_eq_true rfl) dX11_image_22 ⟨Nat.zero_le _, Nat.zero_le _⟩ (fun H locs hP hD hS => ?_)
  have hP : va_P (dC, dI) vwCl [(a_p0, .inr (11, oX11 dvI dvR)), ((dvR 10), .inr (2, oX2 homeI homeR)), ((dvR 6), .inr (4, oX4 r_1_0 pictureR)), ((dvR 1), .inr (6, oX6 nowI nowR)), ((pictureR 0), .inl (cI, 22, .inl r_1_1)), ((nowR 6), .inl (cI, 7, .inl now_rowsF)), ((nowR 7), .inl (cI, 6, .inl now_talksF))] H := hP
  have hD : va_D A [(a_p0, .inr (11, oX11 dvI dvR)), ((dvR 10), .inr (2, oX2 homeI homeR)), ((dvR 6), .inr (4, oX4 r_1_0 pictureR)), ((dvR 1), .inr (6, oX6 nowI nowR)), ((pictureR 0), .inl (cI, 22, .inl r_1_1)), ((nowR 6), .inl (cI, 7, .inl now_rowsF)), ((nowR 7), .inl (cI, 6, .inl now_talksF))] := hD
  refine W.eq (g2 := F0 m 25 ls []) rfl ?_
  refine lv_aload_n hx hb dX11_image_25 rfl (lv_at hl 0 rfl) ?_
  refine va_get (D := (dC, dI)) (ci := 11) (v := .ref ((dvR 6))) (C := RX11) (T := TX11) (N := 15) hx hb hts hinX11 hown hK hP 0 rfl rfl 6 (by decide) hw0 (fun _ h9 => h9) rfl dX11_image_26 ?_
  refine va_getN (D := (dC, dI)) (ci := 4) (v := .int (r_1_0 1)) (C := RX4) (T := TX4) (N := 2) hx hb hts hinX4 hown hK hP 2 rfl rfl 1 (by decide) hnf32 (fun _ h9 => h9) rfl dX11_image_29 ?_
  cases hf
  exact xq_iret hx hb hr hlocks hK hP hD hS dX11_image_32
set_option maxRecDepth 20000 in
theorem ggX11_ear_X11_isEar : GoodIn wsX11_ear wsX11_isEar := goodIn_r _ [8, 2, 57, 58, 59, 60, 61, 62, 63, 64, 65, 66, 67, 68, 69, 70, 71, 80, 81, 82, 83, 84, 85, 86, 87, 88, 89, 90, 91, 92, 93, 94, 95, 96, 97, 98] rfl (by decide +kernel)
set_option maxRecDepth 20000 in
theorem gX11_ear_X11_isEar : GoodIn wsX11_ear (wsV RX11 177 RX11 yX11_isEar wsX11_isEar) := goodIn_app (goodIn_of _ (by decide +kernel)) ggX11_ear_X11_isEar
set_option maxRecDepth 20000 in
theorem ggX11_ear_X0_hearsIn : GoodIn wsX11_ear wsX0_hearsIn := goodIn_r _ [13, 14, 15, 16, 17, 12, 18, 19, 20, 21, 22, 23, 24, 25, 26, 27, 28, 29, 30, 31, 32, 33, 34, 35, 36, 37, 38, 39, 40, 41, 42, 43, 44, 45, 46, 47, 48, 49, 50, 51, 52, 53, 54, 55, 56, 72, 73, 74, 75, 76, 77, 78, 79, 99, 100, 101, 80, 81, 82, 83, 84, 85, 86, 87, 88, 89, 90, 91, 92, 93, 94, 95, 96, 97, 98] rfl (by decide +kernel)
set_option maxRecDepth 20000 in
theorem gX11_ear_X0_hearsIn : GoodIn wsX11_ear (wsV RX11 198 RX0 yX0_hearsIn wsX0_hearsIn) := goodIn_app (goodIn_of _ (by decide +kernel)) ggX11_ear_X0_hearsIn
def dsX11_ear_0 : List (Nat × Instr × Nat) := [(0, (.aload_n 0, 1)), (1, (.iload_n 1, 1)), (2, (.invokevirtual 177, 3)), (5, (.ifCond .ne 5, 3)), (8, (.iconst (-1), 1)), (9, (.ireturn, 1)), (10, (.iload_n 2, 1)), (11, (.tableswitch 82 0 2 #[25, 35, 45], 25)), (36, (.aload_n 0, 1)), (37, (.getfield 19, 3)), (40, (.getfield 192, 3)), (43, (.iload_n 1, 1)), (44, (.iaload, 1)), (45, (.ireturn, 1)), (46, (.aload_n 0, 1)), (47, (.getfield 67, 3)), (50, (.getfield 195, 3)), (53, (.iload_n 1, 1)), (54, (.iaload, 1)), (55, (.ireturn, 1)), (56, (.aload_n 0, 1)), (57, (.getfield 76, 3)), (60, (.aload_n 0, 1)), (61, (.getfield 19, 3)), (64, (.iload_n 1, 1)), (65, (.aload_n 0, 1)), (66, (.getfield 19, 3)), (69, (.getfield 192, 3)), (72, (.iload_n 1, 1)), (73, (.iaload, 1)), (74, (.aload_n 0, 1)), (75, (.getfield 19, 3)), (78, (.getfield 162, 3)), (81, (.invokevirtual 198, 3)), (84, (.ifCond .eq 7, 3)), (87, (.iconst 1, 1)), (88, (.goto 4, 3)), (91, (.iconst 0, 1)), (92, (.ireturn, 1)), (93, (.iconst (-1), 1)), (94, (.ireturn, 1))]
theorem dsX11_ear_0_ok : (dsX11_ear_0.all fun q => decide (decode cX11_ear q.1 = .ok q.2)) = true := by decide +kernel
theorem dX11_ear_0 : decode cX11_ear 0 = .ok (.aload_n 0, 1) := of_decide_eq_true (List.all_eq_true.mp dsX11_ear_0_ok (0, (.aload_n 0, 1)) (List.mem_of_getElem? (i := 0) rfl))
theorem dX11_ear_1 : decode cX11_ear 1 = .ok (.iload_n 1, 1) := of_decide_eq_true (List.all_eq_true.mp dsX11_ear_0_ok (1, (.iload_n 1, 1)) (List.mem_of_getElem? (i := 1) rfl))
theorem dX11_ear_2 : decode cX11_ear 2 = .ok (.invokevirtual 177, 3) := of_decide_eq_true (List.all_eq_true.mp dsX11_ear_0_ok (2, (.invokevirtual 177, 3)) (List.mem_of_getElem? (i := 2) rfl))
theorem dX11_ear_5 : decode cX11_ear 5 = .ok (.ifCond .ne 5, 3) := of_decide_eq_true (List.all_eq_true.mp dsX11_ear_0_ok (5, (.ifCond .ne 5, 3)) (List.mem_of_getElem? (i := 3) rfl))
theorem dX11_ear_8 : decode cX11_ear 8 = .ok (.iconst (-1), 1) := of_decide_eq_true (List.all_eq_true.mp dsX11_ear_0_ok (8, (.iconst (-1), 1)) (List.mem_of_getElem? (i := 4) rfl))
theorem dX11_ear_9 : decode cX11_ear 9 = .ok (.ireturn, 1) := of_decide_eq_true (List.all_eq_true.mp dsX11_ear_0_ok (9, (.ireturn, 1)) (List.mem_of_getElem? (i := 5) rfl))
theorem dX11_ear_10 : decode cX11_ear 10 = .ok (.iload_n 2, 1) := of_decide_eq_true (List.all_eq_true.mp dsX11_ear_0_ok (10, (.iload_n 2, 1)) (List.mem_of_getElem? (i := 6) rfl))
theorem dX11_ear_11 : decode cX11_ear 11 = .ok (.tableswitch 82 0 2 #[25, 35, 45], 25) := of_decide_eq_true (List.all_eq_true.mp dsX11_ear_0_ok (11, (.tableswitch 82 0 2 #[25, 35, 45], 25)) (List.mem_of_getElem? (i := 7) rfl))
theorem dX11_ear_36 : decode cX11_ear 36 = .ok (.aload_n 0, 1) := of_decide_eq_true (List.all_eq_true.mp dsX11_ear_0_ok (36, (.aload_n 0, 1)) (List.mem_of_getElem? (i := 8) rfl))
theorem dX11_ear_37 : decode cX11_ear 37 = .ok (.getfield 19, 3) := of_decide_eq_true (List.all_eq_true.mp dsX11_ear_0_ok (37, (.getfield 19, 3)) (List.mem_of_getElem? (i := 9) rfl))
theorem dX11_ear_40 : decode cX11_ear 40 = .ok (.getfield 192, 3) := of_decide_eq_true (List.all_eq_true.mp dsX11_ear_0_ok (40, (.getfield 192, 3)) (List.mem_of_getElem? (i := 10) rfl))
theorem dX11_ear_43 : decode cX11_ear 43 = .ok (.iload_n 1, 1) := of_decide_eq_true (List.all_eq_true.mp dsX11_ear_0_ok (43, (.iload_n 1, 1)) (List.mem_of_getElem? (i := 11) rfl))
theorem dX11_ear_44 : decode cX11_ear 44 = .ok (.iaload, 1) := of_decide_eq_true (List.all_eq_true.mp dsX11_ear_0_ok (44, (.iaload, 1)) (List.mem_of_getElem? (i := 12) rfl))
theorem dX11_ear_45 : decode cX11_ear 45 = .ok (.ireturn, 1) := of_decide_eq_true (List.all_eq_true.mp dsX11_ear_0_ok (45, (.ireturn, 1)) (List.mem_of_getElem? (i := 13) rfl))
theorem dX11_ear_46 : decode cX11_ear 46 = .ok (.aload_n 0, 1) := of_decide_eq_true (List.all_eq_true.mp dsX11_ear_0_ok (46, (.aload_n 0, 1)) (List.mem_of_getElem? (i := 14) rfl))
theorem dX11_ear_47 : decode cX11_ear 47 = .ok (.getfield 67, 3) := of_decide_eq_true (List.all_eq_true.mp dsX11_ear_0_ok (47, (.getfield 67, 3)) (List.mem_of_getElem? (i := 15) rfl))
theorem dX11_ear_50 : decode cX11_ear 50 = .ok (.getfield 195, 3) := of_decide_eq_true (List.all_eq_true.mp dsX11_ear_0_ok (50, (.getfield 195, 3)) (List.mem_of_getElem? (i := 16) rfl))
theorem dX11_ear_53 : decode cX11_ear 53 = .ok (.iload_n 1, 1) := of_decide_eq_true (List.all_eq_true.mp dsX11_ear_0_ok (53, (.iload_n 1, 1)) (List.mem_of_getElem? (i := 17) rfl))
theorem dX11_ear_54 : decode cX11_ear 54 = .ok (.iaload, 1) := of_decide_eq_true (List.all_eq_true.mp dsX11_ear_0_ok (54, (.iaload, 1)) (List.mem_of_getElem? (i := 18) rfl))
theorem dX11_ear_55 : decode cX11_ear 55 = .ok (.ireturn, 1) := of_decide_eq_true (List.all_eq_true.mp dsX11_ear_0_ok (55, (.ireturn, 1)) (List.mem_of_getElem? (i := 19) rfl))
theorem dX11_ear_56 : decode cX11_ear 56 = .ok (.aload_n 0, 1) := of_decide_eq_true (List.all_eq_true.mp dsX11_ear_0_ok (56, (.aload_n 0, 1)) (List.mem_of_getElem? (i := 20) rfl))
theorem dX11_ear_57 : decode cX11_ear 57 = .ok (.getfield 76, 3) := of_decide_eq_true (List.all_eq_true.mp dsX11_ear_0_ok (57, (.getfield 76, 3)) (List.mem_of_getElem? (i := 21) rfl))
theorem dX11_ear_60 : decode cX11_ear 60 = .ok (.aload_n 0, 1) := of_decide_eq_true (List.all_eq_true.mp dsX11_ear_0_ok (60, (.aload_n 0, 1)) (List.mem_of_getElem? (i := 22) rfl))
theorem dX11_ear_61 : decode cX11_ear 61 = .ok (.getfield 19, 3) := of_decide_eq_true (List.all_eq_true.mp dsX11_ear_0_ok (61, (.getfield 19, 3)) (List.mem_of_getElem? (i := 23) rfl))
theorem dX11_ear_64 : decode cX11_ear 64 = .ok (.iload_n 1, 1) := of_decide_eq_true (List.all_eq_true.mp dsX11_ear_0_ok (64, (.iload_n 1, 1)) (List.mem_of_getElem? (i := 24) rfl))
theorem dX11_ear_65 : decode cX11_ear 65 = .ok (.aload_n 0, 1) := of_decide_eq_true (List.all_eq_true.mp dsX11_ear_0_ok (65, (.aload_n 0, 1)) (List.mem_of_getElem? (i := 25) rfl))
theorem dX11_ear_66 : decode cX11_ear 66 = .ok (.getfield 19, 3) := of_decide_eq_true (List.all_eq_true.mp dsX11_ear_0_ok (66, (.getfield 19, 3)) (List.mem_of_getElem? (i := 26) rfl))
theorem dX11_ear_69 : decode cX11_ear 69 = .ok (.getfield 192, 3) := of_decide_eq_true (List.all_eq_true.mp dsX11_ear_0_ok (69, (.getfield 192, 3)) (List.mem_of_getElem? (i := 27) rfl))
theorem dX11_ear_72 : decode cX11_ear 72 = .ok (.iload_n 1, 1) := of_decide_eq_true (List.all_eq_true.mp dsX11_ear_0_ok (72, (.iload_n 1, 1)) (List.mem_of_getElem? (i := 28) rfl))
theorem dX11_ear_73 : decode cX11_ear 73 = .ok (.iaload, 1) := of_decide_eq_true (List.all_eq_true.mp dsX11_ear_0_ok (73, (.iaload, 1)) (List.mem_of_getElem? (i := 29) rfl))
theorem dX11_ear_74 : decode cX11_ear 74 = .ok (.aload_n 0, 1) := of_decide_eq_true (List.all_eq_true.mp dsX11_ear_0_ok (74, (.aload_n 0, 1)) (List.mem_of_getElem? (i := 30) rfl))
theorem dX11_ear_75 : decode cX11_ear 75 = .ok (.getfield 19, 3) := of_decide_eq_true (List.all_eq_true.mp dsX11_ear_0_ok (75, (.getfield 19, 3)) (List.mem_of_getElem? (i := 31) rfl))
theorem dX11_ear_78 : decode cX11_ear 78 = .ok (.getfield 162, 3) := of_decide_eq_true (List.all_eq_true.mp dsX11_ear_0_ok (78, (.getfield 162, 3)) (List.mem_of_getElem? (i := 32) rfl))
theorem dX11_ear_81 : decode cX11_ear 81 = .ok (.invokevirtual 198, 3) := of_decide_eq_true (List.all_eq_true.mp dsX11_ear_0_ok (81, (.invokevirtual 198, 3)) (List.mem_of_getElem? (i := 33) rfl))
theorem dX11_ear_84 : decode cX11_ear 84 = .ok (.ifCond .eq 7, 3) := of_decide_eq_true (List.all_eq_true.mp dsX11_ear_0_ok (84, (.ifCond .eq 7, 3)) (List.mem_of_getElem? (i := 34) rfl))
theorem dX11_ear_87 : decode cX11_ear 87 = .ok (.iconst 1, 1) := of_decide_eq_true (List.all_eq_true.mp dsX11_ear_0_ok (87, (.iconst 1, 1)) (List.mem_of_getElem? (i := 35) rfl))
theorem dX11_ear_88 : decode cX11_ear 88 = .ok (.goto 4, 3) := of_decide_eq_true (List.all_eq_true.mp dsX11_ear_0_ok (88, (.goto 4, 3)) (List.mem_of_getElem? (i := 36) rfl))
theorem dX11_ear_91 : decode cX11_ear 91 = .ok (.iconst 0, 1) := of_decide_eq_true (List.all_eq_true.mp dsX11_ear_0_ok (91, (.iconst 0, 1)) (List.mem_of_getElem? (i := 37) rfl))
theorem dX11_ear_92 : decode cX11_ear 92 = .ok (.ireturn, 1) := of_decide_eq_true (List.all_eq_true.mp dsX11_ear_0_ok (92, (.ireturn, 1)) (List.mem_of_getElem? (i := 38) rfl))
theorem dX11_ear_93 : decode cX11_ear 93 = .ok (.iconst (-1), 1) := of_decide_eq_true (List.all_eq_true.mp dsX11_ear_0_ok (93, (.iconst (-1), 1)) (List.mem_of_getElem? (i := 39) rfl))
theorem dX11_ear_94 : decode cX11_ear 94 = .ok (.ireturn, 1) := of_decide_eq_true (List.all_eq_true.mp dsX11_ear_0_ok (94, (.ireturn, 1)) (List.mem_of_getElem? (i := 40) rfl))
def fX11_ear (N : Nat) (homeI : Nat → Int32) (nowI : Nat → Int32) (now_rowsF : Nat → Int32) (home_sharpsF : Nat → Int32) (course_valuesF : Nat → Int32) (home_hearsF : Nat → Int32) (course_stackF : Nat → Int32) (home_hearsN : Nat) (p1 : Int32) (p2 : Int32) : Option (Int32 × (Nat → Int32) × (Nat → Int32)) :=
  (xq_bd (fX11_isEar N homeI p1) fun r_1 => (if r_1 = 0 then some (((-1), course_valuesF, course_stackF)) else (if p2 = 0 then (xq_bd (xq_ald 7 now_rowsF p1) fun v_3 => some ((v_3, course_valuesF, course_stackF))) else (if p2 = 1 then (xq_bd (xq_ald 7 home_sharpsF p1) fun v_4 => some ((v_4, course_valuesF, course_stackF))) else (if p2 = 2 then (xq_bd (xq_ald 7 now_rowsF p1) fun v_5 => (xq_bd (fX0_hearsIn N nowI course_valuesF homeI home_sharpsF home_hearsF course_stackF home_hearsN p1 v_5 (nowI 4)) fun (r_6_0, r_6_1, r_6_2) => (if r_6_0 = 0 then some ((0, r_6_1, r_6_2)) else some ((1, r_6_1, r_6_2))))) else some (((-1), course_valuesF, course_stackF)))))))
set_option maxHeartbeats 4000000 in
set_option maxRecDepth 100000 in
theorem kX11_ear (l : Launch) (dC : Nat → ClassId) (dI : Nat → Nat → Nat) (cI cB cJ cZ cM : ClassId) (z : Nat) (ad : Nat → Nat) (N : Nat) (a_p0 : Nat) (dvI : Nat → Int32) (dvR : Nat → Nat) (homeI : Nat → Int32) (homeR : Nat → Nat) (nowI : Nat → Int32) (nowR : Nat → Nat) (now_rowsF : Nat → Int32) (home_sharpsF : Nat → Int32) (courseI : Nat → Int32) (courseR : Nat → Nat) (course_valuesF : Nat → Int32) (home_hearsF : Nat → Int32) (home_hearsN : Nat) (course_stackF : Nat → Int32) (p1 : Int32) (p2 : Int32) {r0 : Int32} {r1 : Nat → Int32} {r2 : Nat → Int32} (hf : fX11_ear N homeI nowI now_rowsF home_sharpsF course_valuesF home_hearsF course_stackF home_hearsN p1 p2 = some (r0, r1, r2)) : xq_Ct l yX11_ear wsX11_ear { frames := 4, cells := 0, slots := 0, locals := 99 } (dC, dI) vwCl (xq_tys cI cB cJ cZ cM) z ad [.ref a_p0, .int p1, .int p2] [(a_p0, .inr (11, oX11 dvI dvR)), ((dvR 10), .inr (2, oX2 homeI homeR)), ((dvR 1), .inr (6, oX6 nowI nowR)), ((nowR 6), .inl (cI, 7, .inl now_rowsF)), ((homeR 9), .inl (cI, 7, .inl home_sharpsF)), ((dvR 11), .inr (0, oX0 courseI (va_up courseR 0 (dvR 10)))), ((courseR 1), .inl (cI, 24, .inl course_valuesF)), ((homeR 14), .inl (cI, home_hearsN, .inl home_hearsF)), ((courseR 2), .inl (cI, 64, .inl course_stackF))] [(a_p0, .inr (11, oX11 dvI dvR)), ((dvR 10), .inr (2, oX2 homeI homeR)), ((dvR 1), .inr (6, oX6 nowI nowR)), ((nowR 6), .inl (cI, 7, .inl now_rowsF)), ((homeR 9), .inl (cI, 7, .inl home_sharpsF)), ((dvR 11), .inr (0, oX0 courseI (va_up courseR 0 (dvR 10)))), ((courseR 1), .inl (cI, 24, .inl r1)), ((homeR 14), .inl (cI, home_hearsN, .inl home_hearsF)), ((courseR 2), .inl (cI, 64, .inl r2))] (some (.int r0)) := by
  intro sz
  refine Met.ofW (cc := cX11_ear) (maxL := 3) (ret := (some .int)) (by decide) rfl ?_
  intro p e s m args below meth c s₁ B hml hv
  obtain ⟨rfl, hsz, hP, hK, hD0, hE, hz⟩ := hv
  have hx := B.exec
  have hb := B.bytes
  have hr := B.returns
  have hts := atoms_spec (ws := wsX11_ear) B.pre
  have hown : s.vm.findClass RX11 = some m.cls := findClass_of_methodNamed B.named
  have hlocks := B.notSynchronized
  subst hsz
  have hD := hD0.self (sz := s.heap.size)
  have hN := xq_Env.of hE hz hD0
  generalize hAe : va_A [(a_p0, .inr (11, oX11 dvI dvR)), ((dvR 10), .inr (2, oX2 homeI homeR)), ((dvR 1), .inr (6, oX6 nowI nowR)), ((nowR 6), .inl (cI, 7, .inl now_rowsF)), ((homeR 9), .inl (cI, 7, .inl home_sharpsF)), ((dvR 11), .inr (0, oX0 courseI (va_up courseR 0 (dvR 10)))), ((courseR 1), .inl (cI, 24, .inl course_valuesF)), ((homeR 14), .inl (cI, home_hearsN, .inl home_hearsF)), ((courseR 2), .inl (cI, 64, .inl course_stackF))] s.heap.size = A at hD hN ⊢
  have hA : ∀ q : Nat, s.heap.size ≤ q → A q := fun q h => by rw [← hAe]; exact Or.inr h
  clear hAe hD0
  have hS : va_S A s.heap s.heap [] := va_S.rf
  have hl := lv_entry ([.ref a_p0, .int p1, .int p2]) (n := 3) (Nat.le_of_ble_eq_true rfl)
  rw [lg_entry_eq]
  generalize (lg_sl ([.ref a_p0, .int p1, .int p2]) ++ List.replicate (3 - (lg_sl ([.ref a_p0, .int p1, .int p2])).length) Slot.unset).toArray = ls at hl ⊢
  have hl : lv_has ls 3 [(0, .ref a_p0), (1, .int p1), (2, .int p2)] := hl
  have hw0 := hts (.fieldLink RX11 19 "DistantVoice" "now" "LDistantVoice$Moment;") (by decide +kernel)
  have hinX11 : ∀ w ∈ wsX110, w ∈ wsX11_ear := fun w h => List.mem_cons_of_mem _ (List.mem_append_left _ (List.mem_append_left _ (List.mem_append_left _ (List.mem_append_right _ h))))
  have hnf22 := va_Nw.use (A := [.ref a_p0, .int p1, .int p2].toArray) rfl (hN.1.1.1 ("DistantVoice", 192, "DistantVoice$Moment", "rows", "[I", "DistantVoice") (List.mem_of_getElem? (i := 22) rfl))
  have hinX6 : ∀ w ∈ wsX60, w ∈ wsX11_ear := fun w h => List.mem_cons_of_mem _ (List.mem_append_left _ (List.mem_append_left _ (List.mem_append_right _ h)))
  have hw4 := hts (.fieldLink RX11 67 "DistantVoice" "home" "LDistantVoice$House;") (by decide +kernel)
  have hnf58 := va_Nw.use (A := [.ref a_p0, .int p1, .int p2].toArray) rfl (hN.1.1.1 ("DistantVoice", 195, "DistantVoice$House", "sharps", "[I", "DistantVoice") (List.mem_of_getElem? (i := 58) rfl))
  have hinX2 : ∀ w ∈ wsX20, w ∈ wsX11_ear := fun w h => List.mem_cons_of_mem _ (List.mem_append_left _ (List.mem_append_right _ h))
  have hw7 := hts (.fieldLink RX11 76 "DistantVoice" "course" "LDistantVoice$Course;") (by decide +kernel)
  have hnf17 := va_Nw.use (A := [.ref a_p0, .int p1, .int p2].toArray) rfl (hN.1.1.1 ("DistantVoice", 162, "DistantVoice$Moment", "hush", "I", "DistantVoice") (List.mem_of_getElem? (i := 17) rfl))
  unfold fX11_ear at hf
  refine lv_aload_n hx hb dX11_ear_0 rfl (lv_at hl 0 rfl) ?_
  refine lv_iload_n hx hb dX11_ear_1 rfl (lv_at hl 1 rfl) ?_
  obtain ⟨r_1, h_2, hf⟩ := xq_bd_some hf
  refine xq_callV (As := [.int p1]) (rest := []) (ci := 11) (q0 := 0) ⟨hx, hb, hml, hown, hts⟩ (kX11_isEar l dC dI cI cB cJ cZ cM z ad N a_p0 dvI dvR homeI homeR p1 h_2) (cwV 1 hts gX11_ear_X11_isEar rfl rfl rfl (by decide +kernel) ⟨Nat.le_of_ble_eq_true rfl, Nat.le_of_ble_eq_true rfl⟩) hN hK hP hD hS hA [0, 1] (by decide) rfl rfl rfl rfl rfl rfl hl.1 rfl (Nat.le_of_ble_eq_true rfl) dX11_ear_2 ⟨Nat.zero_le _, Nat.zero_le _⟩ (fun H locs hP hD hS => ?_)
  have hP : va_P (dC, dI) vwCl [(a_p0, .inr (11, oX11 dvI dvR)), ((dvR 10), .inr (2, oX2 homeI homeR)), ((dvR 1), .inr (6, oX6 nowI nowR)), ((nowR 6), .inl (cI, 7, .inl now_rowsF)), ((homeR 9), .inl (cI, 7, .inl home_sharpsF)), ((dvR 11), .inr (0, oX0 courseI (va_up courseR 0 (dvR 10)))), ((courseR 1), .inl (cI, 24, .inl course_valuesF)), ((homeR 14), .inl (cI, home_hearsN, .inl home_hearsF)), ((courseR 2), .inl (cI, 64, .inl course_stackF))] H := hP
  have hD : va_D A [(a_p0, .inr (11, oX11 dvI dvR)), ((dvR 10), .inr (2, oX2 homeI homeR)), ((dvR 1), .inr (6, oX6 nowI nowR)), ((nowR 6), .inl (cI, 7, .inl now_rowsF)), ((homeR 9), .inl (cI, 7, .inl home_sharpsF)), ((dvR 11), .inr (0, oX0 courseI (va_up courseR 0 (dvR 10)))), ((courseR 1), .inl (cI, 24, .inl course_valuesF)), ((homeR 14), .inl (cI, home_hearsN, .inl home_hearsF)), ((courseR 2), .inl (cI, 64, .inl course_stackF))] := hD
  refine W.eq (g2 := F0 m 5 ls [.int r_1]) rfl ?_
  refine lv_if_ne (tgt := 10) hx hb dX11_ear_5 (by decide) (fun c_ => ?_) (fun c_ => ?_)
  · have hf := xq_neg hf c_
    refine lv_iload_n hx hb dX11_ear_10 rfl (lv_at hl 2 rfl) ?_
    by_cases c0 : p2 = 0
    · have hf := xq_pos hf c0
      refine lv_tableIn (tgt := 36) hx hb dX11_ear_11 (by rw [c0]; decide) (by rw [c0]; decide) (off := 25) (by rw [c0]; decide) (by decide) ?_
      refine lv_aload_n hx hb dX11_ear_36 rfl (lv_at hl 0 rfl) ?_
      refine va_get (D := (dC, dI)) (ci := 11) (v := .ref ((dvR 1))) (C := RX11) (T := TX11) (N := 15) hx hb hts hinX11 hown hK hP 0 rfl rfl 1 (by decide) hw0 (fun _ h9 => h9) rfl dX11_ear_37 ?_
      refine va_getN (D := (dC, dI)) (ci := 6) (v := .ref ((nowR 6))) (C := RX6) (T := TX6) (N := 8) hx hb hts hinX6 hown hK hP 2 rfl rfl 6 (by decide) hnf22 (fun _ h9 => h9) rfl dX11_ear_40 ?_
      refine lv_iload_n hx hb dX11_ear_43 rfl (lv_at hl 1 rfl) ?_
      refine xq_iald hx hb hK hP 3 0 rfl rfl hf dX11_ear_44 (fun v_3 hf => ?_)
      cases hf
      exact xq_iret hx hb hr hlocks hK hP hD hS dX11_ear_45
    · have hf := xq_neg hf c0
      by_cases c1 : p2 = 1
      · have hf := xq_pos hf c1
        refine lv_tableIn (tgt := 46) hx hb dX11_ear_11 (by rw [c1]; decide) (by rw [c1]; decide) (off := 35) (by rw [c1]; decide) (by decide) ?_
        refine lv_aload_n hx hb dX11_ear_46 rfl (lv_at hl 0 rfl) ?_
        refine va_get (D := (dC, dI)) (ci := 11) (v := .ref ((dvR 10))) (C := RX11) (T := TX11) (N := 15) hx hb hts hinX11 hown hK hP 0 rfl rfl 10 (by decide) hw4 (fun _ h9 => h9) rfl dX11_ear_47 ?_
        refine va_getN (D := (dC, dI)) (ci := 2) (v := .ref ((homeR 9))) (C := RX2) (T := TX2) (N := 19) hx hb hts hinX2 hown hK hP 1 rfl rfl 9 (by decide) hnf58 (fun _ h9 => h9) rfl dX11_ear_50 ?_
        refine lv_iload_n hx hb dX11_ear_53 rfl (lv_at hl 1 rfl) ?_
        refine xq_iald hx hb hK hP 4 0 rfl rfl hf dX11_ear_54 (fun v_4 hf => ?_)
        cases hf
        exact xq_iret hx hb hr hlocks hK hP hD hS dX11_ear_55
      · have hf := xq_neg hf c1
        by_cases c2 : p2 = 2
        · have hf := xq_pos hf c2
          refine lv_tableIn (tgt := 56) hx hb dX11_ear_11 (by rw [c2]; decide) (by rw [c2]; decide) (off := 45) (by rw [c2]; decide) (by decide) ?_
          refine lv_aload_n hx hb dX11_ear_56 rfl (lv_at hl 0 rfl) ?_
          refine va_get (D := (dC, dI)) (ci := 11) (v := .ref ((dvR 11))) (C := RX11) (T := TX11) (N := 15) hx hb hts hinX11 hown hK hP 0 rfl rfl 11 (by decide) hw7 (fun _ h9 => h9) rfl dX11_ear_57 ?_
          refine lv_aload_n hx hb dX11_ear_60 rfl (lv_at hl 0 rfl) ?_
          refine va_get (D := (dC, dI)) (ci := 11) (v := .ref ((dvR 1))) (C := RX11) (T := TX11) (N := 15) hx hb hts hinX11 hown hK hP 0 rfl rfl 1 (by decide) hw0 (fun _ h9 => h9) rfl dX11_ear_61 ?_
          refine lv_iload_n hx hb dX11_ear_64 rfl (lv_at hl 1 rfl) ?_
          refine lv_aload_n hx hb dX11_ear_65 rfl (lv_at hl 0 rfl) ?_
          refine va_get (D := (dC, dI)) (ci := 11) (v := .ref ((dvR 1))) (C := RX11) (T := TX11) (N := 15) hx hb hts hinX11 hown hK hP 0 rfl rfl 1 (by decide) hw0 (fun _ h9 => h9) rfl dX11_ear_66 ?_
          refine va_getN (D := (dC, dI)) (ci := 6) (v := .ref ((nowR 6))) (C := RX6) (T := TX6) (N := 8) hx hb hts hinX6 hown hK hP 2 rfl rfl 6 (by decide) hnf22 (fun _ h9 => h9) rfl dX11_ear_69 ?_
          refine lv_iload_n hx hb dX11_ear_72 rfl (lv_at hl 1 rfl) ?_
          refine xq_iald hx hb hK hP 3 0 rfl rfl hf dX11_ear_73 (fun v_5 hf => ?_)
          refine lv_aload_n hx hb dX11_ear_74 rfl (lv_at hl 0 rfl) ?_
          refine va_get (D := (dC, dI)) (ci := 11) (v := .ref ((dvR 1))) (C := RX11) (T := TX11) (N := 15) hx hb hts hinX11 hown hK hP 0 rfl rfl 1 (by decide) hw0 (fun _ h9 => h9) rfl dX11_ear_75 ?_
          refine va_getN (D := (dC, dI)) (ci := 6) (v := .int (nowI 4)) (C := RX6) (T := TX6) (N := 8) hx hb hts hinX6 hown hK hP 2 rfl rfl 4 (by decide) hnf17 (fun _ h9 => h9) rfl dX11_ear_78 ?_
          obtain ⟨⟨r_6_0, r_6_1, r_6_2⟩, h_7, hf⟩ := xq_bd_some hf
          refine xq_callV (As := [.ref ((dvR 1)), .int p1, .int v_5, .int (nowI 4)]) (rest := []) (ci := 0) (q0 := 5) ⟨hx, hb, hml, hown, hts⟩ (kX0_hearsIn l dC dI cI cB cJ cZ cM z ad N ((dvR 1)) nowI nowR ((dvR 11)) courseI ((va_up courseR 0 (dvR 10))) course_valuesF homeI homeR home_sharpsF home_hearsF home_hearsN course_stackF p1 v_5 (nowI 4) h_7) (cwV 4 hts gX11_ear_X0_hearsIn rfl rfl rfl (by decide +kernel) ⟨Nat.le_of_ble_eq_true rfl, Nat.le_of_ble_eq_true rfl⟩) hN hK hP hD hS hA [2, 5, 6, 1, 4, 7, 8] (by decide) rfl rfl rfl rfl rfl rfl hl.1 rfl (Nat.le_of_ble_eq_true rfl) dX11_ear_81 ⟨Nat.zero_le _, Nat.zero_le _⟩ (fun H locs hP hD hS => ?_)
          have hP : va_P (dC, dI) vwCl [(a_p0, .inr (11, oX11 dvI dvR)), ((dvR 10), .inr (2, oX2 homeI homeR)), ((dvR 1), .inr (6, oX6 nowI nowR)), ((nowR 6), .inl (cI, 7, .inl now_rowsF)), ((homeR 9), .inl (cI, 7, .inl home_sharpsF)), ((dvR 11), .inr (0, oX0 courseI (va_up courseR 0 (dvR 10)))), ((courseR 1), .inl (cI, 24, .inl r_6_1)), ((homeR 14), .inl (cI, home_hearsN, .inl home_hearsF)), ((courseR 2), .inl (cI, 64, .inl r_6_2))] H := hP
          have hD : va_D A [(a_p0, .inr (11, oX11 dvI dvR)), ((dvR 10), .inr (2, oX2 homeI homeR)), ((dvR 1), .inr (6, oX6 nowI nowR)), ((nowR 6), .inl (cI, 7, .inl now_rowsF)), ((homeR 9), .inl (cI, 7, .inl home_sharpsF)), ((dvR 11), .inr (0, oX0 courseI (va_up courseR 0 (dvR 10)))), ((courseR 1), .inl (cI, 24, .inl r_6_1)), ((homeR 14), .inl (cI, home_hearsN, .inl home_hearsF)), ((courseR 2), .inl (cI, 64, .inl r_6_2))] := hD
          refine W.eq (g2 := F0 m 84 ls [.int r_6_0]) rfl ?_
          refine lv_if_eq (tgt := 91) hx hb dX11_ear_84 (by decide) (fun c_ => ?_) (fun c_ => ?_)
          · have hf := xq_pos hf c_
            refine lv_iconst (v := 0) hx hb dX11_ear_91 (by decide) ?_
            cases hf
            exact xq_iret hx hb hr hlocks hK hP hD hS dX11_ear_92
          · have hf := xq_neg hf c_
            refine lv_iconst (v := 1) hx hb dX11_ear_87 (by decide) ?_
            refine lv_goto (tgt := 92) hx hb dX11_ear_88 (by decide) ?_
            cases hf
            exact xq_iret hx hb hr hlocks hK hP hD hS dX11_ear_92
        · have hf := xq_neg hf c2
          have e0 := lv_neT c0 (a := 0) (by decide)
          have e1 := lv_neT c1 (a := 1) (by decide)
          have e2 := lv_neT c2 (a := 2) (by decide)
          refine lv_tableOut (tgt := 93) hx hb dX11_ear_11 (by omega) (by decide) ?_
          refine lv_iconst (v := (-1)) hx hb dX11_ear_93 (by decide) ?_
          cases hf
          exact xq_iret hx hb hr hlocks hK hP hD hS dX11_ear_94
  · have hf := xq_pos hf c_
    refine lv_iconst (v := (-1)) hx hb dX11_ear_8 (by decide) ?_
    cases hf
    exact xq_iret hx hb hr hlocks hK hP hD hS dX11_ear_9
set_option maxRecDepth 20000 in
theorem ggX11_place_X11_isPlace : GoodIn wsX11_place wsX11_isPlace := goodIn_r _ [8, 1, 54, 55, 56, 57, 58, 59, 60, 61, 62, 63, 64, 65, 66, 67, 68, 69, 70, 71, 72, 73, 74, 75, 76, 77, 78, 79, 80, 81, 82, 83, 84, 85, 86, 87] rfl (by decide +kernel)
set_option maxRecDepth 20000 in
theorem gX11_place_X11_isPlace : GoodIn wsX11_place (wsV RX11 186 RX11 yX11_isPlace wsX11_isPlace) := goodIn_app (goodIn_of _ (by decide +kernel)) ggX11_place_X11_isPlace
set_option maxRecDepth 20000 in
theorem ggX11_place_X0_talkingAt : GoodIn wsX11_place wsX0_talkingAt := goodIn_r _ [13, 14, 15, 16, 17, 18, 19, 20, 21, 22, 23, 24, 12, 25, 26, 27, 28, 29, 30, 31, 32, 33, 34, 35, 36, 37, 38, 39, 40, 41, 42, 43, 44, 45, 46, 47, 48, 49, 50, 51, 52, 53, 88, 89, 90, 91, 92, 93, 94, 95, 96, 97, 98, 69, 70, 71, 72, 73, 74, 75, 76, 77, 78, 79, 80, 81, 82, 83, 84, 85, 86, 87] rfl (by decide +kernel)
set_option maxRecDepth 20000 in
theorem gX11_place_X0_talkingAt : GoodIn wsX11_place (wsV RX11 208 RX0 yX0_talkingAt wsX0_talkingAt) := goodIn_app (goodIn_of _ (by decide +kernel)) ggX11_place_X0_talkingAt
def dsX11_place_0 : List (Nat × Instr × Nat) := [(0, (.aload_n 0, 1)), (1, (.iload_n 1, 1)), (2, (.invokevirtual 186, 3)), (5, (.ifCond .ne 5, 3)), (8, (.iconst (-1), 1)), (9, (.ireturn, 1)), (10, (.iload_n 2, 1)), (11, (.tableswitch 65 0 2 #[25, 35, 45], 25)), (36, (.aload_n 0, 1)), (37, (.getfield 67, 3)), (40, (.getfield 202, 3)), (43, (.iload_n 1, 1)), (44, (.iaload, 1)), (45, (.ireturn, 1)), (46, (.aload_n 0, 1)), (47, (.getfield 19, 3)), (50, (.getfield 205, 3)), (53, (.iload_n 1, 1)), (54, (.iaload, 1)), (55, (.ireturn, 1)), (56, (.aload_n 0, 1)), (57, (.getfield 76, 3)), (60, (.aload_n 0, 1)), (61, (.getfield 19, 3)), (64, (.iload_n 1, 1)), (65, (.aload_n 0, 1)), (66, (.getfield 19, 3)), (69, (.getfield 162, 3)), (72, (.invokevirtual 208, 3)), (75, (.ireturn, 1)), (76, (.iconst (-1), 1)), (77, (.ireturn, 1))]
theorem dsX11_place_0_ok : (dsX11_place_0.all fun q => decide (decode cX11_place q.1 = .ok q.2)) = true := by decide +kernel
theorem dX11_place_0 : decode cX11_place 0 = .ok (.aload_n 0, 1) := of_decide_eq_true (List.all_eq_true.mp dsX11_place_0_ok (0, (.aload_n 0, 1)) (List.mem_of_getElem? (i := 0) rfl))
theorem dX11_place_1 : decode cX11_place 1 = .ok (.iload_n 1, 1) := of_decide_eq_true (List.all_eq_true.mp dsX11_place_0_ok (1, (.iload_n 1, 1)) (List.mem_of_getElem? (i := 1) rfl))
theorem dX11_place_2 : decode cX11_place 2 = .ok (.invokevirtual 186, 3) := of_decide_eq_true (List.all_eq_true.mp dsX11_place_0_ok (2, (.invokevirtual 186, 3)) (List.mem_of_getElem? (i := 2) rfl))
theorem dX11_place_5 : decode cX11_place 5 = .ok (.ifCond .ne 5, 3) := of_decide_eq_true (List.all_eq_true.mp dsX11_place_0_ok (5, (.ifCond .ne 5, 3)) (List.mem_of_getElem? (i := 3) rfl))
theorem dX11_place_8 : decode cX11_place 8 = .ok (.iconst (-1), 1) := of_decide_eq_true (List.all_eq_true.mp dsX11_place_0_ok (8, (.iconst (-1), 1)) (List.mem_of_getElem? (i := 4) rfl))
theorem dX11_place_9 : decode cX11_place 9 = .ok (.ireturn, 1) := of_decide_eq_true (List.all_eq_true.mp dsX11_place_0_ok (9, (.ireturn, 1)) (List.mem_of_getElem? (i := 5) rfl))
theorem dX11_place_10 : decode cX11_place 10 = .ok (.iload_n 2, 1) := of_decide_eq_true (List.all_eq_true.mp dsX11_place_0_ok (10, (.iload_n 2, 1)) (List.mem_of_getElem? (i := 6) rfl))
theorem dX11_place_11 : decode cX11_place 11 = .ok (.tableswitch 65 0 2 #[25, 35, 45], 25) := of_decide_eq_true (List.all_eq_true.mp dsX11_place_0_ok (11, (.tableswitch 65 0 2 #[25, 35, 45], 25)) (List.mem_of_getElem? (i := 7) rfl))
theorem dX11_place_36 : decode cX11_place 36 = .ok (.aload_n 0, 1) := of_decide_eq_true (List.all_eq_true.mp dsX11_place_0_ok (36, (.aload_n 0, 1)) (List.mem_of_getElem? (i := 8) rfl))
theorem dX11_place_37 : decode cX11_place 37 = .ok (.getfield 67, 3) := of_decide_eq_true (List.all_eq_true.mp dsX11_place_0_ok (37, (.getfield 67, 3)) (List.mem_of_getElem? (i := 9) rfl))
theorem dX11_place_40 : decode cX11_place 40 = .ok (.getfield 202, 3) := of_decide_eq_true (List.all_eq_true.mp dsX11_place_0_ok (40, (.getfield 202, 3)) (List.mem_of_getElem? (i := 10) rfl))
theorem dX11_place_43 : decode cX11_place 43 = .ok (.iload_n 1, 1) := of_decide_eq_true (List.all_eq_true.mp dsX11_place_0_ok (43, (.iload_n 1, 1)) (List.mem_of_getElem? (i := 11) rfl))
theorem dX11_place_44 : decode cX11_place 44 = .ok (.iaload, 1) := of_decide_eq_true (List.all_eq_true.mp dsX11_place_0_ok (44, (.iaload, 1)) (List.mem_of_getElem? (i := 12) rfl))
theorem dX11_place_45 : decode cX11_place 45 = .ok (.ireturn, 1) := of_decide_eq_true (List.all_eq_true.mp dsX11_place_0_ok (45, (.ireturn, 1)) (List.mem_of_getElem? (i := 13) rfl))
theorem dX11_place_46 : decode cX11_place 46 = .ok (.aload_n 0, 1) := of_decide_eq_true (List.all_eq_true.mp dsX11_place_0_ok (46, (.aload_n 0, 1)) (List.mem_of_getElem? (i := 14) rfl))
theorem dX11_place_47 : decode cX11_place 47 = .ok (.getfield 19, 3) := of_decide_eq_true (List.all_eq_true.mp dsX11_place_0_ok (47, (.getfield 19, 3)) (List.mem_of_getElem? (i := 15) rfl))
theorem dX11_place_50 : decode cX11_place 50 = .ok (.getfield 205, 3) := of_decide_eq_true (List.all_eq_true.mp dsX11_place_0_ok (50, (.getfield 205, 3)) (List.mem_of_getElem? (i := 16) rfl))
theorem dX11_place_53 : decode cX11_place 53 = .ok (.iload_n 1, 1) := of_decide_eq_true (List.all_eq_true.mp dsX11_place_0_ok (53, (.iload_n 1, 1)) (List.mem_of_getElem? (i := 17) rfl))
theorem dX11_place_54 : decode cX11_place 54 = .ok (.iaload, 1) := of_decide_eq_true (List.all_eq_true.mp dsX11_place_0_ok (54, (.iaload, 1)) (List.mem_of_getElem? (i := 18) rfl))
theorem dX11_place_55 : decode cX11_place 55 = .ok (.ireturn, 1) := of_decide_eq_true (List.all_eq_true.mp dsX11_place_0_ok (55, (.ireturn, 1)) (List.mem_of_getElem? (i := 19) rfl))
theorem dX11_place_56 : decode cX11_place 56 = .ok (.aload_n 0, 1) := of_decide_eq_true (List.all_eq_true.mp dsX11_place_0_ok (56, (.aload_n 0, 1)) (List.mem_of_getElem? (i := 20) rfl))
theorem dX11_place_57 : decode cX11_place 57 = .ok (.getfield 76, 3) := of_decide_eq_true (List.all_eq_true.mp dsX11_place_0_ok (57, (.getfield 76, 3)) (List.mem_of_getElem? (i := 21) rfl))
theorem dX11_place_60 : decode cX11_place 60 = .ok (.aload_n 0, 1) := of_decide_eq_true (List.all_eq_true.mp dsX11_place_0_ok (60, (.aload_n 0, 1)) (List.mem_of_getElem? (i := 22) rfl))
theorem dX11_place_61 : decode cX11_place 61 = .ok (.getfield 19, 3) := of_decide_eq_true (List.all_eq_true.mp dsX11_place_0_ok (61, (.getfield 19, 3)) (List.mem_of_getElem? (i := 23) rfl))
theorem dX11_place_64 : decode cX11_place 64 = .ok (.iload_n 1, 1) := of_decide_eq_true (List.all_eq_true.mp dsX11_place_0_ok (64, (.iload_n 1, 1)) (List.mem_of_getElem? (i := 24) rfl))
theorem dX11_place_65 : decode cX11_place 65 = .ok (.aload_n 0, 1) := of_decide_eq_true (List.all_eq_true.mp dsX11_place_0_ok (65, (.aload_n 0, 1)) (List.mem_of_getElem? (i := 25) rfl))
theorem dX11_place_66 : decode cX11_place 66 = .ok (.getfield 19, 3) := of_decide_eq_true (List.all_eq_true.mp dsX11_place_0_ok (66, (.getfield 19, 3)) (List.mem_of_getElem? (i := 26) rfl))
theorem dX11_place_69 : decode cX11_place 69 = .ok (.getfield 162, 3) := of_decide_eq_true (List.all_eq_true.mp dsX11_place_0_ok (69, (.getfield 162, 3)) (List.mem_of_getElem? (i := 27) rfl))
theorem dX11_place_72 : decode cX11_place 72 = .ok (.invokevirtual 208, 3) := of_decide_eq_true (List.all_eq_true.mp dsX11_place_0_ok (72, (.invokevirtual 208, 3)) (List.mem_of_getElem? (i := 28) rfl))
theorem dX11_place_75 : decode cX11_place 75 = .ok (.ireturn, 1) := of_decide_eq_true (List.all_eq_true.mp dsX11_place_0_ok (75, (.ireturn, 1)) (List.mem_of_getElem? (i := 29) rfl))
theorem dX11_place_76 : decode cX11_place 76 = .ok (.iconst (-1), 1) := of_decide_eq_true (List.all_eq_true.mp dsX11_place_0_ok (76, (.iconst (-1), 1)) (List.mem_of_getElem? (i := 30) rfl))
theorem dX11_place_77 : decode cX11_place 77 = .ok (.ireturn, 1) := of_decide_eq_true (List.all_eq_true.mp dsX11_place_0_ok (77, (.ireturn, 1)) (List.mem_of_getElem? (i := 31) rfl))
def fX11_place (N : Nat) (homeI : Nat → Int32) (home_placeMilesF : Nat → Int32) (nowI : Nat → Int32) (now_talksF : Nat → Int32) (course_valuesF : Nat → Int32) (home_talkForF : Nat → Int32) (course_stackF : Nat → Int32) (home_talkForN : Nat) (p1 : Int32) (p2 : Int32) : Option (Int32 × (Nat → Int32) × (Nat → Int32)) :=
  (xq_bd (fX11_isPlace N homeI p1) fun r_1 => (if r_1 = 0 then some (((-1), course_valuesF, course_stackF)) else (if p2 = 0 then (xq_bd (xq_ald 6 home_placeMilesF p1) fun v_3 => some ((v_3, course_valuesF, course_stackF))) else (if p2 = 1 then (xq_bd (xq_ald 6 now_talksF p1) fun v_4 => some ((v_4, course_valuesF, course_stackF))) else (if p2 = 2 then (xq_bd (fX0_talkingAt N nowI course_valuesF now_talksF home_talkForF course_stackF home_talkForN p1 (nowI 4)) fun (r_5_0, r_5_1, r_5_2) => some ((r_5_0, r_5_1, r_5_2))) else some (((-1), course_valuesF, course_stackF)))))))
set_option maxHeartbeats 4000000 in
set_option maxRecDepth 100000 in
theorem kX11_place (l : Launch) (dC : Nat → ClassId) (dI : Nat → Nat → Nat) (cI cB cJ cZ cM : ClassId) (z : Nat) (ad : Nat → Nat) (N : Nat) (a_p0 : Nat) (dvI : Nat → Int32) (dvR : Nat → Nat) (homeI : Nat → Int32) (homeR : Nat → Nat) (home_placeMilesF : Nat → Int32) (nowI : Nat → Int32) (nowR : Nat → Nat) (now_talksF : Nat → Int32) (courseI : Nat → Int32) (courseR : Nat → Nat) (course_valuesF : Nat → Int32) (home_talkForF : Nat → Int32) (home_talkForN : Nat) (course_stackF : Nat → Int32) (p1 : Int32) (p2 : Int32) {r0 : Int32} {r1 : Nat → Int32} {r2 : Nat → Int32} (hf : fX11_place N homeI home_placeMilesF nowI now_talksF course_valuesF home_talkForF course_stackF home_talkForN p1 p2 = some (r0, r1, r2)) : xq_Ct l yX11_place wsX11_place { frames := 4, cells := 0, slots := 0, locals := 98 } (dC, dI) vwCl (xq_tys cI cB cJ cZ cM) z ad [.ref a_p0, .int p1, .int p2] [(a_p0, .inr (11, oX11 dvI dvR)), ((dvR 10), .inr (2, oX2 homeI homeR)), ((homeR 11), .inl (cI, 6, .inl home_placeMilesF)), ((dvR 1), .inr (6, oX6 nowI nowR)), ((nowR 7), .inl (cI, 6, .inl now_talksF)), ((dvR 11), .inr (0, oX0 courseI (va_up courseR 0 (dvR 10)))), ((courseR 1), .inl (cI, 24, .inl course_valuesF)), ((homeR 15), .inl (cI, home_talkForN, .inl home_talkForF)), ((courseR 2), .inl (cI, 64, .inl course_stackF))] [(a_p0, .inr (11, oX11 dvI dvR)), ((dvR 10), .inr (2, oX2 homeI homeR)), ((homeR 11), .inl (cI, 6, .inl home_placeMilesF)), ((dvR 1), .inr (6, oX6 nowI nowR)), ((nowR 7), .inl (cI, 6, .inl now_talksF)), ((dvR 11), .inr (0, oX0 courseI (va_up courseR 0 (dvR 10)))), ((courseR 1), .inl (cI, 24, .inl r1)), ((homeR 15), .inl (cI, home_talkForN, .inl home_talkForF)), ((courseR 2), .inl (cI, 64, .inl r2))] (some (.int r0)) := by
  intro sz
  refine Met.ofW (cc := cX11_place) (maxL := 3) (ret := (some .int)) (by decide) rfl ?_
  intro p e s m args below meth c s₁ B hml hv
  obtain ⟨rfl, hsz, hP, hK, hD0, hE, hz⟩ := hv
  have hx := B.exec
  have hb := B.bytes
  have hr := B.returns
  have hts := atoms_spec (ws := wsX11_place) B.pre
  have hown : s.vm.findClass RX11 = some m.cls := findClass_of_methodNamed B.named
  have hlocks := B.notSynchronized
  subst hsz
  have hD := hD0.self (sz := s.heap.size)
  have hN := xq_Env.of hE hz hD0
  generalize hAe : va_A [(a_p0, .inr (11, oX11 dvI dvR)), ((dvR 10), .inr (2, oX2 homeI homeR)), ((homeR 11), .inl (cI, 6, .inl home_placeMilesF)), ((dvR 1), .inr (6, oX6 nowI nowR)), ((nowR 7), .inl (cI, 6, .inl now_talksF)), ((dvR 11), .inr (0, oX0 courseI (va_up courseR 0 (dvR 10)))), ((courseR 1), .inl (cI, 24, .inl course_valuesF)), ((homeR 15), .inl (cI, home_talkForN, .inl home_talkForF)), ((courseR 2), .inl (cI, 64, .inl course_stackF))] s.heap.size = A at hD hN ⊢
  have hA : ∀ q : Nat, s.heap.size ≤ q → A q := fun q h => by rw [← hAe]; exact Or.inr h
  clear hAe hD0
  have hS : va_S A s.heap s.heap [] := va_S.rf
  have hl := lv_entry ([.ref a_p0, .int p1, .int p2]) (n := 3) (Nat.le_of_ble_eq_true rfl)
  rw [lg_entry_eq]
  generalize (lg_sl ([.ref a_p0, .int p1, .int p2]) ++ List.replicate (3 - (lg_sl ([.ref a_p0, .int p1, .int p2])).length) Slot.unset).toArray = ls at hl ⊢
  have hl : lv_has ls 3 [(0, .ref a_p0), (1, .int p1), (2, .int p2)] := hl
  have hw0 := hts (.fieldLink RX11 67 "DistantVoice" "home" "LDistantVoice$House;") (by decide +kernel)
  have hinX11 : ∀ w ∈ wsX110, w ∈ wsX11_place := fun w h => List.mem_cons_of_mem _ (List.mem_append_left _ (List.mem_append_left _ (List.mem_append_left _ (List.mem_append_right _ h))))
  have hnf64 := va_Nw.use (A := [.ref a_p0, .int p1, .int p2].toArray) rfl (hN.1.1.1 ("DistantVoice", 202, "DistantVoice$House", "placeMiles", "[I", "DistantVoice") (List.mem_of_getElem? (i := 64) rfl))
  have hinX2 : ∀ w ∈ wsX20, w ∈ wsX11_place := fun w h => List.mem_cons_of_mem _ (List.mem_append_left _ (List.mem_append_left _ (List.mem_append_right _ h)))
  have hw4 := hts (.fieldLink RX11 19 "DistantVoice" "now" "LDistantVoice$Moment;") (by decide +kernel)
  have hnf25 := va_Nw.use (A := [.ref a_p0, .int p1, .int p2].toArray) rfl (hN.1.1.1 ("DistantVoice", 205, "DistantVoice$Moment", "talks", "[I", "DistantVoice") (List.mem_of_getElem? (i := 25) rfl))
  have hinX6 : ∀ w ∈ wsX60, w ∈ wsX11_place := fun w h => List.mem_cons_of_mem _ (List.mem_append_left _ (List.mem_append_right _ h))
  have hw7 := hts (.fieldLink RX11 76 "DistantVoice" "course" "LDistantVoice$Course;") (by decide +kernel)
  have hnf17 := va_Nw.use (A := [.ref a_p0, .int p1, .int p2].toArray) rfl (hN.1.1.1 ("DistantVoice", 162, "DistantVoice$Moment", "hush", "I", "DistantVoice") (List.mem_of_getElem? (i := 17) rfl))
  unfold fX11_place at hf
  refine lv_aload_n hx hb dX11_place_0 rfl (lv_at hl 0 rfl) ?_
  refine lv_iload_n hx hb dX11_place_1 rfl (lv_at hl 1 rfl) ?_
  obtain ⟨r_1, h_2, hf⟩ := xq_bd_some hf
  refine xq_callV (As := [.int p1]) (rest := []) (ci := 11) (q0 := 0) ⟨hx, hb, hml, hown, hts⟩ (kX11_isPlace l dC dI cI cB cJ cZ cM z ad N a_p0 dvI dvR homeI homeR p1 h_2) (cwV 1 hts gX11_place_X11_isPlace rfl rfl rfl (by decide +kernel) ⟨Nat.le_of_ble_eq_true rfl, Nat.le_of_ble_eq_true rfl⟩) hN hK hP hD hS hA [0, 1] (by decide) rfl rfl rfl rfl rfl rfl hl.1 rfl (Nat.le_of_ble_eq_true rfl) dX11_place_2 ⟨Nat.zero_le _, Nat.zero_le _⟩ (fun H locs hP hD hS => ?_)
  have hP : va_P (dC, dI) vwCl [(a_p0, .inr (11, oX11 dvI dvR)), ((dvR 10), .inr (2, oX2 homeI homeR)), ((homeR 11), .inl (cI, 6, .inl home_placeMilesF)), ((dvR 1), .inr (6, oX6 nowI nowR)), ((nowR 7), .inl (cI, 6, .inl now_talksF)), ((dvR 11), .inr (0, oX0 courseI (va_up courseR 0 (dvR 10)))), ((courseR 1), .inl (cI, 24, .inl course_valuesF)), ((homeR 15), .inl (cI, home_talkForN, .inl home_talkForF)), ((courseR 2), .inl (cI, 64, .inl course_stackF))] H := hP
  have hD : va_D A [(a_p0, .inr (11, oX11 dvI dvR)), ((dvR 10), .inr (2, oX2 homeI homeR)), ((homeR 11), .inl (cI, 6, .inl home_placeMilesF)), ((dvR 1), .inr (6, oX6 nowI nowR)), ((nowR 7), .inl (cI, 6, .inl now_talksF)), ((dvR 11), .inr (0, oX0 courseI (va_up courseR 0 (dvR 10)))), ((courseR 1), .inl (cI, 24, .inl course_valuesF)), ((homeR 15), .inl (cI, home_talkForN, .inl home_talkForF)), ((courseR 2), .inl (cI, 64, .inl course_stackF))] := hD
  refine W.eq (g2 := F0 m 5 ls [.int r_1]) rfl ?_
  refine lv_if_ne (tgt := 10) hx hb dX11_place_5 (by decide) (fun c_ => ?_) (fun c_ => ?_)
  · have hf := xq_neg hf c_
    refine lv_iload_n hx hb dX11_place_10 rfl (lv_at hl 2 rfl) ?_
    by_cases c0 : p2 = 0
    · have hf := xq_pos hf c0
      refine lv_tableIn (tgt := 36) hx hb dX11_place_11 (by rw [c0]; decide) (by rw [c0]; decide) (off := 25) (by rw [c0]; decide) (by decide) ?_
      refine lv_aload_n hx hb dX11_place_36 rfl (lv_at hl 0 rfl) ?_
      refine va_get (D := (dC, dI)) (ci := 11) (v := .ref ((dvR 10))) (C := RX11) (T := TX11) (N := 15) hx hb hts hinX11 hown hK hP 0 rfl rfl 10 (by decide) hw0 (fun _ h9 => h9) rfl dX11_place_37 ?_
      refine va_getN (D := (dC, dI)) (ci := 2) (v := .ref ((homeR 11))) (C := RX2) (T := TX2) (N := 19) hx hb hts hinX2 hown hK hP 1 rfl rfl 11 (by decide) hnf64 (fun _ h9 => h9) rfl dX11_place_40 ?_
      refine lv_iload_n hx hb dX11_place_43 rfl (lv_at hl 1 rfl) ?_
      refine xq_iald hx hb hK hP 2 0 rfl rfl hf dX11_place_44 (fun v_3 hf => ?_)
      cases hf
      exact xq_iret hx hb hr hlocks hK hP hD hS dX11_place_45
    · have hf := xq_neg hf c0
      by_cases c1 : p2 = 1
      · have hf := xq_pos hf c1
        refine lv_tableIn (tgt := 46) hx hb dX11_place_11 (by rw [c1]; decide) (by rw [c1]; decide) (off := 35) (by rw [c1]; decide) (by decide) ?_
        refine lv_aload_n hx hb dX11_place_46 rfl (lv_at hl 0 rfl) ?_
        refine va_get (D := (dC, dI)) (ci := 11) (v := .ref ((dvR 1))) (C := RX11) (T := TX11) (N := 15) hx hb hts hinX11 hown hK hP 0 rfl rfl 1 (by decide) hw4 (fun _ h9 => h9) rfl dX11_place_47 ?_
        refine va_getN (D := (dC, dI)) (ci := 6) (v := .ref ((nowR 7))) (C := RX6) (T := TX6) (N := 8) hx hb hts hinX6 hown hK hP 3 rfl rfl 7 (by decide) hnf25 (fun _ h9 => h9) rfl dX11_place_50 ?_
        refine lv_iload_n hx hb dX11_place_53 rfl (lv_at hl 1 rfl) ?_
        refine xq_iald hx hb hK hP 4 0 rfl rfl hf dX11_place_54 (fun v_4 hf => ?_)
        cases hf
        exact xq_iret hx hb hr hlocks hK hP hD hS dX11_place_55
      · have hf := xq_neg hf c1
        by_cases c2 : p2 = 2
        · have hf := xq_pos hf c2
          refine lv_tableIn (tgt := 56) hx hb dX11_place_11 (by rw [c2]; decide) (by rw [c2]; decide) (off := 45) (by rw [c2]; decide) (by decide) ?_
          refine lv_aload_n hx hb dX11_place_56 rfl (lv_at hl 0 rfl) ?_
          refine va_get (D := (dC, dI)) (ci := 11) (v := .ref ((dvR 11))) (C := RX11) (T := TX11) (N := 15) hx hb hts hinX11 hown hK hP 0 rfl rfl 11 (by decide) hw7 (fun _ h9 => h9) rfl dX11_place_57 ?_
          refine lv_aload_n hx hb dX11_place_60 rfl (lv_at hl 0 rfl) ?_
          refine va_get (D := (dC, dI)) (ci := 11) (v := .ref ((dvR 1))) (C := RX11) (T := TX11) (N := 15) hx hb hts hinX11 hown hK hP 0 rfl rfl 1 (by decide) hw4 (fun _ h9 => h9) rfl dX11_place_61 ?_
          refine lv_iload_n hx hb dX11_place_64 rfl (lv_at hl 1 rfl) ?_
          refine lv_aload_n hx hb dX11_place_65 rfl (lv_at hl 0 rfl) ?_
          refine va_get (D := (dC, dI)) (ci := 11) (v := .ref ((dvR 1))) (C := RX11) (T := TX11) (N := 15) hx hb hts hinX11 hown hK hP 0 rfl rfl 1 (by decide) hw4 (fun _ h9 => h9) rfl dX11_place_66 ?_
          refine va_getN (D := (dC, dI)) (ci := 6) (v := .int (nowI 4)) (C := RX6) (T := TX6) (N := 8) hx hb hts hinX6 hown hK hP 3 rfl rfl 4 (by decide) hnf17 (fun _ h9 => h9) rfl dX11_place_69 ?_
          obtain ⟨⟨r_5_0, r_5_1, r_5_2⟩, h_6, hf⟩ := xq_bd_some hf
          refine xq_callV (As := [.ref ((dvR 1)), .int p1, .int (nowI 4)]) (rest := []) (ci := 0) (q0 := 5) ⟨hx, hb, hml, hown, hts⟩ (kX0_talkingAt l dC dI cI cB cJ cZ cM z ad N ((dvR 1)) nowI nowR ((dvR 11)) courseI ((va_up courseR 0 (dvR 10))) course_valuesF now_talksF homeI homeR home_talkForF home_talkForN course_stackF p1 (nowI 4) h_6) (cwV 3 hts gX11_place_X0_talkingAt rfl rfl rfl (by decide +kernel) ⟨Nat.le_of_ble_eq_true rfl, Nat.le_of_ble_eq_true rfl⟩) hN hK hP hD hS hA [3, 5, 6, 4, 1, 7, 8] (by decide) rfl rfl rfl rfl rfl rfl hl.1 rfl (Nat.le_of_ble_eq_true rfl) dX11_place_72 ⟨Nat.zero_le _, Nat.zero_le _⟩ (fun H locs hP hD hS => ?_)
          have hP : va_P (dC, dI) vwCl [(a_p0, .inr (11, oX11 dvI dvR)), ((dvR 10), .inr (2, oX2 homeI homeR)), ((homeR 11), .inl (cI, 6, .inl home_placeMilesF)), ((dvR 1), .inr (6, oX6 nowI nowR)), ((nowR 7), .inl (cI, 6, .inl now_talksF)), ((dvR 11), .inr (0, oX0 courseI (va_up courseR 0 (dvR 10)))), ((courseR 1), .inl (cI, 24, .inl r_5_1)), ((homeR 15), .inl (cI, home_talkForN, .inl home_talkForF)), ((courseR 2), .inl (cI, 64, .inl r_5_2))] H := hP
          have hD : va_D A [(a_p0, .inr (11, oX11 dvI dvR)), ((dvR 10), .inr (2, oX2 homeI homeR)), ((homeR 11), .inl (cI, 6, .inl home_placeMilesF)), ((dvR 1), .inr (6, oX6 nowI nowR)), ((nowR 7), .inl (cI, 6, .inl now_talksF)), ((dvR 11), .inr (0, oX0 courseI (va_up courseR 0 (dvR 10)))), ((courseR 1), .inl (cI, 24, .inl r_5_1)), ((homeR 15), .inl (cI, home_talkForN, .inl home_talkForF)), ((courseR 2), .inl (cI, 64, .inl r_5_2))] := hD
          refine W.eq (g2 := F0 m 75 ls [.int r_5_0]) rfl ?_
          cases hf
          exact xq_iret hx hb hr hlocks hK hP hD hS dX11_place_75
        · have hf := xq_neg hf c2
          have e0 := lv_neT c0 (a := 0) (by decide)
          have e1 := lv_neT c1 (a := 1) (by decide)
          have e2 := lv_neT c2 (a := 2) (by decide)
          refine lv_tableOut (tgt := 76) hx hb dX11_place_11 (by omega) (by decide) ?_
          refine lv_iconst (v := (-1)) hx hb dX11_place_76 (by decide) ?_
          cases hf
          exact xq_iret hx hb hr hlocks hK hP hD hS dX11_place_77
  · have hf := xq_pos hf c_
    refine lv_iconst (v := (-1)) hx hb dX11_place_8 (by decide) ?_
    cases hf
    exact xq_iret hx hb hr hlocks hK hP hD hS dX11_place_9
set_option maxRecDepth 20000 in
theorem ggX11_stride_X11_hasHouse : GoodIn wsX11_stride wsX11_hasHouse := goodIn_r _ [7, 8, 54, 55, 56, 57, 58, 59, 60, 61, 62, 63, 64, 65, 66, 67, 68, 77, 78, 79, 80, 81, 82, 83, 84, 85, 86, 87, 88, 89, 90, 91, 92, 93, 94, 95] rfl (by decide +kernel)
set_option maxRecDepth 20000 in
theorem gX11_stride_X11_hasHouse : GoodIn wsX11_stride (wsV RX11 212 RX11 yX11_hasHouse wsX11_hasHouse) := goodIn_app (goodIn_of _ (by decide +kernel)) ggX11_stride_X11_hasHouse
set_option maxRecDepth 20000 in
theorem ggX11_stride_X0_paceOf : GoodIn wsX11_stride wsX0_paceOf := goodIn_r _ [13, 14, 15, 16, 17, 18, 19, 20, 21, 22, 23, 24, 12, 25, 26, 27, 28, 29, 30, 31, 32, 33, 34, 35, 36, 37, 38, 39, 40, 41, 42, 43, 44, 45, 46, 47, 48, 49, 50, 51, 52, 53, 69, 70, 71, 72, 73, 74, 75, 76, 96, 97, 98, 77, 78, 79, 80, 81, 82, 83, 84, 85, 86, 87, 88, 89, 90, 91, 92, 93, 94, 95] rfl (by decide +kernel)
set_option maxRecDepth 20000 in
theorem gX11_stride_X0_paceOf : GoodIn wsX11_stride (wsV RX11 216 RX0 yX0_paceOf wsX0_paceOf) := goodIn_app (goodIn_of _ (by decide +kernel)) ggX11_stride_X0_paceOf
def dsX11_stride_0 : List (Nat × Instr × Nat) := [(0, (.aload_n 0, 1)), (1, (.invokevirtual 212, 3)), (4, (.ifCond .eq 24, 3)), (7, (.aload_n 0, 1)), (8, (.getfield 76, 3)), (11, (.aload_n 0, 1)), (12, (.getfield 19, 3)), (15, (.aload_n 0, 1)), (16, (.getfield 19, 3)), (19, (.getfield 162, 3)), (22, (.invokevirtual 216, 3)), (25, (.goto 4, 3)), (28, (.iconst (-1), 1)), (29, (.ireturn, 1))]
theorem dsX11_stride_0_ok : (dsX11_stride_0.all fun q => decide (decode cX11_stride q.1 = .ok q.2)) = true := by decide +kernel
theorem dX11_stride_0 : decode cX11_stride 0 = .ok (.aload_n 0, 1) := of_decide_eq_true (List.all_eq_true.mp dsX11_stride_0_ok (0, (.aload_n 0, 1)) (List.mem_of_getElem? (i := 0) rfl))
theorem dX11_stride_1 : decode cX11_stride 1 = .ok (.invokevirtual 212, 3) := of_decide_eq_true (List.all_eq_true.mp dsX11_stride_0_ok (1, (.invokevirtual 212, 3)) (List.mem_of_getElem? (i := 1) rfl))
theorem dX11_stride_4 : decode cX11_stride 4 = .ok (.ifCond .eq 24, 3) := of_decide_eq_true (List.all_eq_true.mp dsX11_stride_0_ok (4, (.ifCond .eq 24, 3)) (List.mem_of_getElem? (i := 2) rfl))
theorem dX11_stride_7 : decode cX11_stride 7 = .ok (.aload_n 0, 1) := of_decide_eq_true (List.all_eq_true.mp dsX11_stride_0_ok (7, (.aload_n 0, 1)) (List.mem_of_getElem? (i := 3) rfl))
theorem dX11_stride_8 : decode cX11_stride 8 = .ok (.getfield 76, 3) := of_decide_eq_true (List.all_eq_true.mp dsX11_stride_0_ok (8, (.getfield 76, 3)) (List.mem_of_getElem? (i := 4) rfl))
theorem dX11_stride_11 : decode cX11_stride 11 = .ok (.aload_n 0, 1) := of_decide_eq_true (List.all_eq_true.mp dsX11_stride_0_ok (11, (.aload_n 0, 1)) (List.mem_of_getElem? (i := 5) rfl))
theorem dX11_stride_12 : decode cX11_stride 12 = .ok (.getfield 19, 3) := of_decide_eq_true (List.all_eq_true.mp dsX11_stride_0_ok (12, (.getfield 19, 3)) (List.mem_of_getElem? (i := 6) rfl))
theorem dX11_stride_15 : decode cX11_stride 15 = .ok (.aload_n 0, 1) := of_decide_eq_true (List.all_eq_true.mp dsX11_stride_0_ok (15, (.aload_n 0, 1)) (List.mem_of_getElem? (i := 7) rfl))
theorem dX11_stride_16 : decode cX11_stride 16 = .ok (.getfield 19, 3) := of_decide_eq_true (List.all_eq_true.mp dsX11_stride_0_ok (16, (.getfield 19, 3)) (List.mem_of_getElem? (i := 8) rfl))
theorem dX11_stride_19 : decode cX11_stride 19 = .ok (.getfield 162, 3) := of_decide_eq_true (List.all_eq_true.mp dsX11_stride_0_ok (19, (.getfield 162, 3)) (List.mem_of_getElem? (i := 9) rfl))
theorem dX11_stride_22 : decode cX11_stride 22 = .ok (.invokevirtual 216, 3) := of_decide_eq_true (List.all_eq_true.mp dsX11_stride_0_ok (22, (.invokevirtual 216, 3)) (List.mem_of_getElem? (i := 10) rfl))
theorem dX11_stride_25 : decode cX11_stride 25 = .ok (.goto 4, 3) := of_decide_eq_true (List.all_eq_true.mp dsX11_stride_0_ok (25, (.goto 4, 3)) (List.mem_of_getElem? (i := 11) rfl))
theorem dX11_stride_28 : decode cX11_stride 28 = .ok (.iconst (-1), 1) := of_decide_eq_true (List.all_eq_true.mp dsX11_stride_0_ok (28, (.iconst (-1), 1)) (List.mem_of_getElem? (i := 12) rfl))
theorem dX11_stride_29 : decode cX11_stride 29 = .ok (.ireturn, 1) := of_decide_eq_true (List.all_eq_true.mp dsX11_stride_0_ok (29, (.ireturn, 1)) (List.mem_of_getElem? (i := 13) rfl))
def fX11_stride (N : Nat) (homeI : Nat → Int32) (nowI : Nat → Int32) (course_valuesF : Nat → Int32) (home_goesF : Nat → Int32) (course_stackF : Nat → Int32) (home_goesN : Nat)  : Option (Int32 × (Nat → Int32) × (Nat → Int32)) :=
  (xq_bd (fX11_hasHouse N homeI) fun r_1 => (if r_1 = 0 then some (((-1), course_valuesF, course_stackF)) else (xq_bd (fX0_paceOf N nowI course_valuesF home_goesF course_stackF home_goesN (nowI 4)) fun (r_3_0, r_3_1, r_3_2) => some ((r_3_0, r_3_1, r_3_2)))))
set_option maxHeartbeats 4000000 in
set_option maxRecDepth 100000 in
theorem kX11_stride (l : Launch) (dC : Nat → ClassId) (dI : Nat → Nat → Nat) (cI cB cJ cZ cM : ClassId) (z : Nat) (ad : Nat → Nat) (N : Nat) (a_p0 : Nat) (dvI : Nat → Int32) (dvR : Nat → Nat) (homeI : Nat → Int32) (homeR : Nat → Nat) (nowI : Nat → Int32) (nowR : Nat → Nat) (courseI : Nat → Int32) (courseR : Nat → Nat) (course_valuesF : Nat → Int32) (home_goesF : Nat → Int32) (home_goesN : Nat) (course_stackF : Nat → Int32) {r0 : Int32} {r1 : Nat → Int32} {r2 : Nat → Int32} (hf : fX11_stride N homeI nowI course_valuesF home_goesF course_stackF home_goesN = some (r0, r1, r2)) : xq_Ct l yX11_stride wsX11_stride { frames := 4, cells := 0, slots := 0, locals := 97 } (dC, dI) vwCl (xq_tys cI cB cJ cZ cM) z ad [.ref a_p0] [(a_p0, .inr (11, oX11 dvI dvR)), ((dvR 10), .inr (2, oX2 homeI homeR)), ((dvR 1), .inr (6, oX6 nowI nowR)), ((dvR 11), .inr (0, oX0 courseI (va_up courseR 0 (dvR 10)))), ((courseR 1), .inl (cI, 24, .inl course_valuesF)), ((homeR 13), .inl (cI, home_goesN, .inl home_goesF)), ((courseR 2), .inl (cI, 64, .inl course_stackF))] [(a_p0, .inr (11, oX11 dvI dvR)), ((dvR 10), .inr (2, oX2 homeI homeR)), ((dvR 1), .inr (6, oX6 nowI nowR)), ((dvR 11), .inr (0, oX0 courseI (va_up courseR 0 (dvR 10)))), ((courseR 1), .inl (cI, 24, .inl r1)), ((homeR 13), .inl (cI, home_goesN, .inl home_goesF)), ((courseR 2), .inl (cI, 64, .inl r2))] (some (.int r0)) := by
  intro sz
  refine Met.ofW (cc := cX11_stride) (maxL := 1) (ret := (some .int)) (by decide) rfl ?_
  intro p e s m args below meth c s₁ B hml hv
  obtain ⟨rfl, hsz, hP, hK, hD0, hE, hz⟩ := hv
  have hx := B.exec
  have hb := B.bytes
  have hr := B.returns
  have hts := atoms_spec (ws := wsX11_stride) B.pre
  have hown : s.vm.findClass RX11 = some m.cls := findClass_of_methodNamed B.named
  have hlocks := B.notSynchronized
  subst hsz
  have hD := hD0.self (sz := s.heap.size)
  have hN := xq_Env.of hE hz hD0
  generalize hAe : va_A [(a_p0, .inr (11, oX11 dvI dvR)), ((dvR 10), .inr (2, oX2 homeI homeR)), ((dvR 1), .inr (6, oX6 nowI nowR)), ((dvR 11), .inr (0, oX0 courseI (va_up courseR 0 (dvR 10)))), ((courseR 1), .inl (cI, 24, .inl course_valuesF)), ((homeR 13), .inl (cI, home_goesN, .inl home_goesF)), ((courseR 2), .inl (cI, 64, .inl course_stackF))] s.heap.size = A at hD hN ⊢
  have hA : ∀ q : Nat, s.heap.size ≤ q → A q := fun q h => by rw [← hAe]; exact Or.inr h
  clear hAe hD0
  have hS : va_S A s.heap s.heap [] := va_S.rf
  have hl := lv_entry ([.ref a_p0]) (n := 1) (Nat.le_of_ble_eq_true rfl)
  rw [lg_entry_eq]
  generalize (lg_sl ([.ref a_p0]) ++ List.replicate (1 - (lg_sl ([.ref a_p0])).length) Slot.unset).toArray = ls at hl ⊢
  have hl : lv_has ls 1 [(0, .ref a_p0)] := hl
  have hw0 := hts (.fieldLink RX11 76 "DistantVoice" "course" "LDistantVoice$Course;") (by decide +kernel)
  have hinX11 : ∀ w ∈ wsX110, w ∈ wsX11_stride := fun w h => List.mem_cons_of_mem _ (List.mem_append_left _ (List.mem_append_left _ (List.mem_append_left _ (List.mem_append_right _ h))))
  have hw2 := hts (.fieldLink RX11 19 "DistantVoice" "now" "LDistantVoice$Moment;") (by decide +kernel)
  have hnf17 := va_Nw.use (A := [.ref a_p0].toArray) rfl (hN.1.1.1 ("DistantVoice", 162, "DistantVoice$Moment", "hush", "I", "DistantVoice") (List.mem_of_getElem? (i := 17) rfl))
  have hinX6 : ∀ w ∈ wsX60, w ∈ wsX11_stride := fun w h => List.mem_cons_of_mem _ (List.mem_append_left _ (List.mem_append_left _ (List.mem_append_right _ h)))
  unfold fX11_stride at hf
  refine lv_aload_n hx hb dX11_stride_0 rfl (lv_at hl 0 rfl) ?_
  obtain ⟨r_1, h_2, hf⟩ := xq_bd_some hf
  refine xq_callV (As := []) (rest := []) (ci := 11) (q0 := 0) ⟨hx, hb, hml, hown, hts⟩ (kX11_hasHouse l dC dI cI cB cJ cZ cM z ad N a_p0 dvI dvR homeI homeR h_2) (cwV 0 hts gX11_stride_X11_hasHouse rfl rfl rfl (by decide +kernel) ⟨Nat.le_of_ble_eq_true rfl, Nat.le_of_ble_eq_true rfl⟩) hN hK hP hD hS hA [0, 1] (by decide) rfl rfl rfl rfl rfl rfl hl.1 rfl (Nat.le_of_ble_eq_true rfl) dX11_stride_1 ⟨Nat.zero_le _, Nat.zero_le _⟩ (fun H locs hP hD hS => ?_)
  have hP : va_P (dC, dI) vwCl [(a_p0, .inr (11, oX11 dvI dvR)), ((dvR 10), .inr (2, oX2 homeI homeR)), ((dvR 1), .inr (6, oX6 nowI nowR)), ((dvR 11), .inr (0, oX0 courseI (va_up courseR 0 (dvR 10)))), ((courseR 1), .inl (cI, 24, .inl course_valuesF)), ((homeR 13), .inl (cI, home_goesN, .inl home_goesF)), ((courseR 2), .inl (cI, 64, .inl course_stackF))] H := hP
  have hD : va_D A [(a_p0, .inr (11, oX11 dvI dvR)), ((dvR 10), .inr (2, oX2 homeI homeR)), ((dvR 1), .inr (6, oX6 nowI nowR)), ((dvR 11), .inr (0, oX0 courseI (va_up courseR 0 (dvR 10)))), ((courseR 1), .inl (cI, 24, .inl course_valuesF)), ((homeR 13), .inl (cI, home_goesN, .inl home_goesF)), ((courseR 2), .inl (cI, 64, .inl course_stackF))] := hD
  refine W.eq (g2 := F0 m 4 ls [.int r_1]) rfl ?_
  refine lv_if_eq (tgt := 28) hx hb dX11_stride_4 (by decide) (fun c_ => ?_) (fun c_ => ?_)
  · have hf := xq_pos hf c_
    refine lv_iconst (v := (-1)) hx hb dX11_stride_28 (by decide) ?_
    cases hf
    exact xq_iret hx hb hr hlocks hK hP hD hS dX11_stride_29
  · have hf := xq_neg hf c_
    refine lv_aload_n hx hb dX11_stride_7 rfl (lv_at hl 0 rfl) ?_
    refine va_get (D := (dC, dI)) (ci := 11) (v := .ref ((dvR 11))) (C := RX11) (T := TX11) (N := 15) hx hb hts hinX11 hown hK hP 0 rfl rfl 11 (by decide) hw0 (fun _ h9 => h9) rfl dX11_stride_8 ?_
    refine lv_aload_n hx hb dX11_stride_11 rfl (lv_at hl 0 rfl) ?_
    refine va_get (D := (dC, dI)) (ci := 11) (v := .ref ((dvR 1))) (C := RX11) (T := TX11) (N := 15) hx hb hts hinX11 hown hK hP 0 rfl rfl 1 (by decide) hw2 (fun _ h9 => h9) rfl dX11_stride_12 ?_
    refine lv_aload_n hx hb dX11_stride_15 rfl (lv_at hl 0 rfl) ?_
    refine va_get (D := (dC, dI)) (ci := 11) (v := .ref ((dvR 1))) (C := RX11) (T := TX11) (N := 15) hx hb hts hinX11 hown hK hP 0 rfl rfl 1 (by decide) hw2 (fun _ h9 => h9) rfl dX11_stride_16 ?_
    refine va_getN (D := (dC, dI)) (ci := 6) (v := .int (nowI 4)) (C := RX6) (T := TX6) (N := 8) hx hb hts hinX6 hown hK hP 2 rfl rfl 4 (by decide) hnf17 (fun _ h9 => h9) rfl dX11_stride_19 ?_
    obtain ⟨⟨r_3_0, r_3_1, r_3_2⟩, h_4, hf⟩ := xq_bd_some hf
    refine xq_callV (As := [.ref ((dvR 1)), .int (nowI 4)]) (rest := []) (ci := 0) (q0 := 3) ⟨hx, hb, hml, hown, hts⟩ (kX0_paceOf l dC dI cI cB cJ cZ cM z ad N ((dvR 1)) nowI nowR ((dvR 11)) courseI ((va_up courseR 0 (dvR 10))) course_valuesF homeI homeR home_goesF home_goesN course_stackF (nowI 4) h_4) (cwV 2 hts gX11_stride_X0_paceOf rfl rfl rfl (by decide +kernel) ⟨Nat.le_of_ble_eq_true rfl, Nat.le_of_ble_eq_true rfl⟩) hN hK hP hD hS hA [2, 3, 4, 1, 5, 6] (by decide) rfl rfl rfl rfl rfl rfl hl.1 rfl (Nat.le_of_ble_eq_true rfl) dX11_stride_22 ⟨Nat.zero_le _, Nat.zero_le _⟩ (fun H locs hP hD hS => ?_)
    have hP : va_P (dC, dI) vwCl [(a_p0, .inr (11, oX11 dvI dvR)), ((dvR 10), .inr (2, oX2 homeI homeR)), ((dvR 1), .inr (6, oX6 nowI nowR)), ((dvR 11), .inr (0, oX0 courseI (va_up courseR 0 (dvR 10)))), ((courseR 1), .inl (cI, 24, .inl r_3_1)), ((homeR 13), .inl (cI, home_goesN, .inl home_goesF)), ((courseR 2), .inl (cI, 64, .inl r_3_2))] H := hP
    have hD : va_D A [(a_p0, .inr (11, oX11 dvI dvR)), ((dvR 10), .inr (2, oX2 homeI homeR)), ((dvR 1), .inr (6, oX6 nowI nowR)), ((dvR 11), .inr (0, oX0 courseI (va_up courseR 0 (dvR 10)))), ((courseR 1), .inl (cI, 24, .inl r_3_1)), ((homeR 13), .inl (cI, home_goesN, .inl home_goesF)), ((courseR 2), .inl (cI, 64, .inl r_3_2))] := hD
    refine W.eq (g2 := F0 m 25 ls [.int r_3_0]) rfl ?_
    refine lv_goto (tgt := 29) hx hb dX11_stride_25 (by decide) ?_
    cases hf
    exact xq_iret hx hb hr hlocks hK hP hD hS dX11_stride_29
set_option maxRecDepth 20000 in
theorem ggX11_countGains_X0_hearsIn : GoodIn wsX11_countGains wsX0_hearsIn := goodIn_r _ [9, 10, 11, 12, 13, 8, 14, 15, 16, 17, 18, 19, 20, 21, 22, 23, 24, 25, 26, 27, 28, 29, 30, 31, 32, 33, 34, 35, 36, 37, 38, 39, 40, 41, 42, 43, 44, 45, 46, 47, 48, 49, 50, 51, 52, 87, 88, 89, 90, 91, 92, 93, 94, 98, 99, 100, 68, 69, 70, 71, 72, 73, 74, 75, 76, 77, 78, 79, 80, 81, 82, 83, 84, 85, 86] rfl (by decide +kernel)
set_option maxRecDepth 20000 in
theorem gX11_countGains_X0_hearsIn : GoodIn wsX11_countGains (wsV RX11 198 RX0 yX0_hearsIn wsX0_hearsIn) := goodIn_app (goodIn_of _ (by decide +kernel)) ggX11_countGains_X0_hearsIn
def dsX11_countGains_0 : List (Nat × Instr × Nat) := [(0, (.iconst 0, 1)), (1, (.istore_n 1, 1)), (2, (.iload_n 1, 1)), (3, (.aload_n 0, 1)), (4, (.getfield 67, 3)), (7, (.getfield 144, 3)), (10, (.if_icmp .ge 64, 3)), (13, (.iconst 0, 1)), (14, (.istore_n 2, 1)), (15, (.iload_n 2, 1)), (16, (.bipush 10, 2)), (18, (.if_icmp .ge 50, 3)), (21, (.aload_n 0, 1)), (22, (.getfield 76, 3)), (25, (.aload_n 0, 1)), (26, (.getfield 23, 3)), (29, (.iload_n 1, 1)), (30, (.iload_n 2, 1)), (31, (.aload_n 0, 1)), (32, (.getfield 23, 3)), (35, (.getfield 162, 3)), (38, (.invokevirtual 198, 3)), (41, (.ifCond .eq 21, 3)), (44, (.aload_n 0, 1)), (45, (.getfield 43, 3)), (48, (.getfield 235, 3)), (51, (.iload_n 1, 1)), (52, (.bipush 10, 2)), (54, (.imul, 1)), (55, (.iload_n 2, 1)), (56, (.iadd, 1)), (57, (.dup2, 1)), (58, (.iaload, 1)), (59, (.iconst 1, 1)), (60, (.iadd, 1)), (61, (.iastore, 1)), (62, (.iinc 2 1, 3)), (65, (.goto (-50), 3)), (68, (.iinc 1 1, 3)), (71, (.goto (-69), 3)), (74, (.return_, 1))]
theorem dsX11_countGains_0_ok : (dsX11_countGains_0.all fun q => decide (decode cX11_countGains q.1 = .ok q.2)) = true := by decide +kernel
theorem dX11_countGains_0 : decode cX11_countGains 0 = .ok (.iconst 0, 1) := of_decide_eq_true (List.all_eq_true.mp dsX11_countGains_0_ok (0, (.iconst 0, 1)) (List.mem_of_getElem? (i := 0) rfl))
theorem dX11_countGains_1 : decode cX11_countGains 1 = .ok (.istore_n 1, 1) := of_decide_eq_true (List.all_eq_true.mp dsX11_countGains_0_ok (1, (.istore_n 1, 1)) (List.mem_of_getElem? (i := 1) rfl))
theorem dX11_countGains_2 : decode cX11_countGains 2 = .ok (.iload_n 1, 1) := of_decide_eq_true (List.all_eq_true.mp dsX11_countGains_0_ok (2, (.iload_n 1, 1)) (List.mem_of_getElem? (i := 2) rfl))
theorem dX11_countGains_3 : decode cX11_countGains 3 = .ok (.aload_n 0, 1) := of_decide_eq_true (List.all_eq_true.mp dsX11_countGains_0_ok (3, (.aload_n 0, 1)) (List.mem_of_getElem? (i := 3) rfl))
theorem dX11_countGains_4 : decode cX11_countGains 4 = .ok (.getfield 67, 3) := of_decide_eq_true (List.all_eq_true.mp dsX11_countGains_0_ok (4, (.getfield 67, 3)) (List.mem_of_getElem? (i := 4) rfl))
theorem dX11_countGains_7 : decode cX11_countGains 7 = .ok (.getfield 144, 3) := of_decide_eq_true (List.all_eq_true.mp dsX11_countGains_0_ok (7, (.getfield 144, 3)) (List.mem_of_getElem? (i := 5) rfl))
theorem dX11_countGains_10 : decode cX11_countGains 10 = .ok (.if_icmp .ge 64, 3) := of_decide_eq_true (List.all_eq_true.mp dsX11_countGains_0_ok (10, (.if_icmp .ge 64, 3)) (List.mem_of_getElem? (i := 6) rfl))
theorem dX11_countGains_13 : decode cX11_countGains 13 = .ok (.iconst 0, 1) := of_decide_eq_true (List.all_eq_true.mp dsX11_countGains_0_ok (13, (.iconst 0, 1)) (List.mem_of_getElem? (i := 7) rfl))
theorem dX11_countGains_14 : decode cX11_countGains 14 = .ok (.istore_n 2, 1) := of_decide_eq_true (List.all_eq_true.mp dsX11_countGains_0_ok (14, (.istore_n 2, 1)) (List.mem_of_getElem? (i := 8) rfl))
theorem dX11_countGains_15 : decode cX11_countGains 15 = .ok (.iload_n 2, 1) := of_decide_eq_true (List.all_eq_true.mp dsX11_countGains_0_ok (15, (.iload_n 2, 1)) (List.mem_of_getElem? (i := 9) rfl))
theorem dX11_countGains_16 : decode cX11_countGains 16 = .ok (.bipush 10, 2) := of_decide_eq_true (List.all_eq_true.mp dsX11_countGains_0_ok (16, (.bipush 10, 2)) (List.mem_of_getElem? (i := 10) rfl))
theorem dX11_countGains_18 : decode cX11_countGains 18 = .ok (.if_icmp .ge 50, 3) := of_decide_eq_true (List.all_eq_true.mp dsX11_countGains_0_ok (18, (.if_icmp .ge 50, 3)) (List.mem_of_getElem? (i := 11) rfl))
theorem dX11_countGains_21 : decode cX11_countGains 21 = .ok (.aload_n 0, 1) := of_decide_eq_true (List.all_eq_true.mp dsX11_countGains_0_ok (21, (.aload_n 0, 1)) (List.mem_of_getElem? (i := 12) rfl))
theorem dX11_countGains_22 : decode cX11_countGains 22 = .ok (.getfield 76, 3) := of_decide_eq_true (List.all_eq_true.mp dsX11_countGains_0_ok (22, (.getfield 76, 3)) (List.mem_of_getElem? (i := 13) rfl))
theorem dX11_countGains_25 : decode cX11_countGains 25 = .ok (.aload_n 0, 1) := of_decide_eq_true (List.all_eq_true.mp dsX11_countGains_0_ok (25, (.aload_n 0, 1)) (List.mem_of_getElem? (i := 14) rfl))
theorem dX11_countGains_26 : decode cX11_countGains 26 = .ok (.getfield 23, 3) := of_decide_eq_true (List.all_eq_true.mp dsX11_countGains_0_ok (26, (.getfield 23, 3)) (List.mem_of_getElem? (i := 15) rfl))
theorem dX11_countGains_29 : decode cX11_countGains 29 = .ok (.iload_n 1, 1) := of_decide_eq_true (List.all_eq_true.mp dsX11_countGains_0_ok (29, (.iload_n 1, 1)) (List.mem_of_getElem? (i := 16) rfl))
theorem dX11_countGains_30 : decode cX11_countGains 30 = .ok (.iload_n 2, 1) := of_decide_eq_true (List.all_eq_true.mp dsX11_countGains_0_ok (30, (.iload_n 2, 1)) (List.mem_of_getElem? (i := 17) rfl))
theorem dX11_countGains_31 : decode cX11_countGains 31 = .ok (.aload_n 0, 1) := of_decide_eq_true (List.all_eq_true.mp dsX11_countGains_0_ok (31, (.aload_n 0, 1)) (List.mem_of_getElem? (i := 18) rfl))
theorem dX11_countGains_32 : decode cX11_countGains 32 = .ok (.getfield 23, 3) := of_decide_eq_true (List.all_eq_true.mp dsX11_countGains_0_ok (32, (.getfield 23, 3)) (List.mem_of_getElem? (i := 19) rfl))
theorem dX11_countGains_35 : decode cX11_countGains 35 = .ok (.getfield 162, 3) := of_decide_eq_true (List.all_eq_true.mp dsX11_countGains_0_ok (35, (.getfield 162, 3)) (List.mem_of_getElem? (i := 20) rfl))
theorem dX11_countGains_38 : decode cX11_countGains 38 = .ok (.invokevirtual 198, 3) := of_decide_eq_true (List.all_eq_true.mp dsX11_countGains_0_ok (38, (.invokevirtual 198, 3)) (List.mem_of_getElem? (i := 21) rfl))
theorem dX11_countGains_41 : decode cX11_countGains 41 = .ok (.ifCond .eq 21, 3) := of_decide_eq_true (List.all_eq_true.mp dsX11_countGains_0_ok (41, (.ifCond .eq 21, 3)) (List.mem_of_getElem? (i := 22) rfl))
theorem dX11_countGains_44 : decode cX11_countGains 44 = .ok (.aload_n 0, 1) := of_decide_eq_true (List.all_eq_true.mp dsX11_countGains_0_ok (44, (.aload_n 0, 1)) (List.mem_of_getElem? (i := 23) rfl))
theorem dX11_countGains_45 : decode cX11_countGains 45 = .ok (.getfield 43, 3) := of_decide_eq_true (List.all_eq_true.mp dsX11_countGains_0_ok (45, (.getfield 43, 3)) (List.mem_of_getElem? (i := 24) rfl))
theorem dX11_countGains_48 : decode cX11_countGains 48 = .ok (.getfield 235, 3) := of_decide_eq_true (List.all_eq_true.mp dsX11_countGains_0_ok (48, (.getfield 235, 3)) (List.mem_of_getElem? (i := 25) rfl))
theorem dX11_countGains_51 : decode cX11_countGains 51 = .ok (.iload_n 1, 1) := of_decide_eq_true (List.all_eq_true.mp dsX11_countGains_0_ok (51, (.iload_n 1, 1)) (List.mem_of_getElem? (i := 26) rfl))
theorem dX11_countGains_52 : decode cX11_countGains 52 = .ok (.bipush 10, 2) := of_decide_eq_true (List.all_eq_true.mp dsX11_countGains_0_ok (52, (.bipush 10, 2)) (List.mem_of_getElem? (i := 27) rfl))
theorem dX11_countGains_54 : decode cX11_countGains 54 = .ok (.imul, 1) := of_decide_eq_true (List.all_eq_true.mp dsX11_countGains_0_ok (54, (.imul, 1)) (List.mem_of_getElem? (i := 28) rfl))
theorem dX11_countGains_55 : decode cX11_countGains 55 = .ok (.iload_n 2, 1) := of_decide_eq_true (List.all_eq_true.mp dsX11_countGains_0_ok (55, (.iload_n 2, 1)) (List.mem_of_getElem? (i := 29) rfl))
theorem dX11_countGains_56 : decode cX11_countGains 56 = .ok (.iadd, 1) := of_decide_eq_true (List.all_eq_true.mp dsX11_countGains_0_ok (56, (.iadd, 1)) (List.mem_of_getElem? (i := 30) rfl))
theorem dX11_countGains_57 : decode cX11_countGains 57 = .ok (.dup2, 1) := of_decide_eq_true (List.all_eq_true.mp dsX11_countGains_0_ok (57, (.dup2, 1)) (List.mem_of_getElem? (i := 31) rfl))
theorem dX11_countGains_58 : decode cX11_countGains 58 = .ok (.iaload, 1) := of_decide_eq_true (List.all_eq_true.mp dsX11_countGains_0_ok (58, (.iaload, 1)) (List.mem_of_getElem? (i := 32) rfl))
theorem dX11_countGains_59 : decode cX11_countGains 59 = .ok (.iconst 1, 1) := of_decide_eq_true (List.all_eq_true.mp dsX11_countGains_0_ok (59, (.iconst 1, 1)) (List.mem_of_getElem? (i := 33) rfl))
theorem dX11_countGains_60 : decode cX11_countGains 60 = .ok (.iadd, 1) := of_decide_eq_true (List.all_eq_true.mp dsX11_countGains_0_ok (60, (.iadd, 1)) (List.mem_of_getElem? (i := 34) rfl))
theorem dX11_countGains_61 : decode cX11_countGains 61 = .ok (.iastore, 1) := of_decide_eq_true (List.all_eq_true.mp dsX11_countGains_0_ok (61, (.iastore, 1)) (List.mem_of_getElem? (i := 35) rfl))
theorem dX11_countGains_62 : decode cX11_countGains 62 = .ok (.iinc 2 1, 3) := of_decide_eq_true (List.all_eq_true.mp dsX11_countGains_0_ok (62, (.iinc 2 1, 3)) (List.mem_of_getElem? (i := 36) rfl))
theorem dX11_countGains_65 : decode cX11_countGains 65 = .ok (.goto (-50), 3) := of_decide_eq_true (List.all_eq_true.mp dsX11_countGains_0_ok (65, (.goto (-50), 3)) (List.mem_of_getElem? (i := 37) rfl))
theorem dX11_countGains_68 : decode cX11_countGains 68 = .ok (.iinc 1 1, 3) := of_decide_eq_true (List.all_eq_true.mp dsX11_countGains_0_ok (68, (.iinc 1 1, 3)) (List.mem_of_getElem? (i := 38) rfl))
theorem dX11_countGains_71 : decode cX11_countGains 71 = .ok (.goto (-69), 3) := of_decide_eq_true (List.all_eq_true.mp dsX11_countGains_0_ok (71, (.goto (-69), 3)) (List.mem_of_getElem? (i := 39) rfl))
theorem dX11_countGains_74 : decode cX11_countGains 74 = .ok (.return_, 1) := of_decide_eq_true (List.all_eq_true.mp dsX11_countGains_0_ok (74, (.return_, 1)) (List.mem_of_getElem? (i := 40) rfl))
def fX11_countGains_b62 (N : Nat) (homeI : Nat → Int32) (walkI : Nat → Int32) (home_sharpsF : Nat → Int32) (home_hearsF : Nat → Int32) (home_hearsN : Nat) (k2 : ((Nat → Int32) × (Nat → Int32) × (Nat → Int32) × Int32) → Option ((Nat → Int32) × (Nat → Int32) × (Nat → Int32))) (k15 : ((Nat → Int32) × (Nat → Int32) × (Nat → Int32) × Int32 × Int32) → Option ((Nat → Int32) × (Nat → Int32) × (Nat → Int32))) : ((Nat → Int32) × (Nat → Int32) × (Nat → Int32) × Int32 × Int32) → Option ((Nat → Int32) × (Nat → Int32) × (Nat → Int32)) :=
  fun (course_valuesF_62, course_stackF_62, seating_gainsF_62, x1_62, x2_62) => k15 (course_valuesF_62, course_stackF_62, seating_gainsF_62, x1_62, x2_62 + 1)
def fX11_countGains_l15 (N : Nat) (homeI : Nat → Int32) (walkI : Nat → Int32) (home_sharpsF : Nat → Int32) (home_hearsF : Nat → Int32) (home_hearsN : Nat) (k2 : ((Nat → Int32) × (Nat → Int32) × (Nat → Int32) × Int32) → Option ((Nat → Int32) × (Nat → Int32) × (Nat → Int32))) (k15 : ((Nat → Int32) × (Nat → Int32) × (Nat → Int32) × Int32 × Int32) → Option ((Nat → Int32) × (Nat → Int32) × (Nat → Int32))) : ((Nat → Int32) × (Nat → Int32) × (Nat → Int32) × Int32 × Int32) → Option ((Nat → Int32) × (Nat → Int32) × (Nat → Int32)) :=
  fun (course_valuesF_15, course_stackF_15, seating_gainsF_15, x1_15, x2_15) => (if 10 ≤ x2_15 then k2 (course_valuesF_15, course_stackF_15, seating_gainsF_15, x1_15 + 1) else (xq_bd (fX0_hearsIn N walkI course_valuesF_15 homeI home_sharpsF home_hearsF course_stackF_15 home_hearsN x1_15 x2_15 (walkI 4)) fun (r_1_0, r_1_1, r_1_2) => (if r_1_0 = 0 then fX11_countGains_b62 N homeI walkI home_sharpsF home_hearsF home_hearsN k2 k15 (r_1_1, r_1_2, seating_gainsF_15, x1_15, x2_15) else (xq_bd (xq_ald 70 seating_gainsF_15 ((x1_15 * 10) + x2_15)) fun v_3 => (xq_bd (xq_ast 70 seating_gainsF_15 ((x1_15 * 10) + x2_15) (v_3 + 1)) fun g_4 => fX11_countGains_b62 N homeI walkI home_sharpsF home_hearsF home_hearsN k2 k15 (r_1_1, r_1_2, g_4, x1_15, x2_15))))))
def fX11_countGains_l2 (N : Nat) (homeI : Nat → Int32) (walkI : Nat → Int32) (home_sharpsF : Nat → Int32) (home_hearsF : Nat → Int32) (home_hearsN : Nat) (k2 : ((Nat → Int32) × (Nat → Int32) × (Nat → Int32) × Int32) → Option ((Nat → Int32) × (Nat → Int32) × (Nat → Int32))) : ((Nat → Int32) × (Nat → Int32) × (Nat → Int32) × Int32) → Option ((Nat → Int32) × (Nat → Int32) × (Nat → Int32)) :=
  fun (course_valuesF_2, course_stackF_2, seating_gainsF_2, x1_2) => (if (homeI 5) ≤ x1_2 then some ((course_valuesF_2, course_stackF_2, seating_gainsF_2)) else xq_loop (fX11_countGains_l15 N homeI walkI home_sharpsF home_hearsF home_hearsN k2) N (course_valuesF_2, course_stackF_2, seating_gainsF_2, x1_2, 0))
def fX11_countGains (N : Nat) (homeI : Nat → Int32) (walkI : Nat → Int32) (course_valuesF : Nat → Int32) (home_sharpsF : Nat → Int32) (home_hearsF : Nat → Int32) (course_stackF : Nat → Int32) (seating_gainsF : Nat → Int32) (home_hearsN : Nat)  : Option ((Nat → Int32) × (Nat → Int32) × (Nat → Int32)) :=
  xq_loop (fX11_countGains_l2 N homeI walkI home_sharpsF home_hearsF home_hearsN) N (course_valuesF, course_stackF, seating_gainsF, 0)
set_option maxHeartbeats 4000000 in
set_option maxRecDepth 100000 in
theorem kX11_countGains (l : Launch) (dC : Nat → ClassId) (dI : Nat → Nat → Nat) (cI cB cJ cZ cM : ClassId) (z : Nat) (ad : Nat → Nat) (N : Nat) (a_p0 : Nat) (dvI : Nat → Int32) (dvR : Nat → Nat) (homeI : Nat → Int32) (homeR : Nat → Nat) (walkI : Nat → Int32) (walkR : Nat → Nat) (courseI : Nat → Int32) (courseR : Nat → Nat) (course_valuesF : Nat → Int32) (home_sharpsF : Nat → Int32) (home_hearsF : Nat → Int32) (home_hearsN : Nat) (course_stackF : Nat → Int32) (seatingI : Nat → Int32) (seatingR : Nat → Nat) (seating_gainsF : Nat → Int32) {r0 : Nat → Int32} {r1 : Nat → Int32} {r2 : Nat → Int32} (hf : fX11_countGains N homeI walkI course_valuesF home_sharpsF home_hearsF course_stackF seating_gainsF home_hearsN = some (r0, r1, r2)) : xq_Ct l yX11_countGains wsX11_countGains { frames := 4, cells := 0, slots := 0, locals := 99 } (dC, dI) vwCl (xq_tys cI cB cJ cZ cM) z ad [.ref a_p0] [(a_p0, .inr (11, oX11 dvI dvR)), ((dvR 10), .inr (2, oX2 homeI homeR)), ((dvR 2), .inr (6, oX6 walkI walkR)), ((dvR 11), .inr (0, oX0 courseI (va_up courseR 0 (dvR 10)))), ((courseR 1), .inl (cI, 24, .inl course_valuesF)), ((homeR 9), .inl (cI, 7, .inl home_sharpsF)), ((homeR 14), .inl (cI, home_hearsN, .inl home_hearsF)), ((courseR 2), .inl (cI, 64, .inl course_stackF)), ((dvR 5), .inr (8, oX8 seatingI seatingR)), ((seatingR 0), .inl (cI, 70, .inl seating_gainsF))] [(a_p0, .inr (11, oX11 dvI dvR)), ((dvR 10), .inr (2, oX2 homeI homeR)), ((dvR 2), .inr (6, oX6 walkI walkR)), ((dvR 11), .inr (0, oX0 courseI (va_up courseR 0 (dvR 10)))), ((courseR 1), .inl (cI, 24, .inl r0)), ((homeR 9), .inl (cI, 7, .inl home_sharpsF)), ((homeR 14), .inl (cI, home_hearsN, .inl home_hearsF)), ((courseR 2), .inl (cI, 64, .inl r1)), ((dvR 5), .inr (8, oX8 seatingI seatingR)), ((seatingR 0), .inl (cI, 70, .inl r2))] none := by
  intro sz
  refine Met.ofW (cc := cX11_countGains) (maxL := 3) (ret := none) (by decide) rfl ?_
  intro p e s m args below meth c s₁ B hml hv
  obtain ⟨rfl, hsz, hP, hK, hD0, hE, hz⟩ := hv
  have hx := B.exec
  have hb := B.bytes
  have hr := B.returns
  have hts := atoms_spec (ws := wsX11_countGains) B.pre
  have hown : s.vm.findClass RX11 = some m.cls := findClass_of_methodNamed B.named
  have hlocks := B.notSynchronized
  subst hsz
  have hD := hD0.self (sz := s.heap.size)
  have hN := xq_Env.of hE hz hD0
  generalize hAe : va_A [(a_p0, .inr (11, oX11 dvI dvR)), ((dvR 10), .inr (2, oX2 homeI homeR)), ((dvR 2), .inr (6, oX6 walkI walkR)), ((dvR 11), .inr (0, oX0 courseI (va_up courseR 0 (dvR 10)))), ((courseR 1), .inl (cI, 24, .inl course_valuesF)), ((homeR 9), .inl (cI, 7, .inl home_sharpsF)), ((homeR 14), .inl (cI, home_hearsN, .inl home_hearsF)), ((courseR 2), .inl (cI, 64, .inl course_stackF)), ((dvR 5), .inr (8, oX8 seatingI seatingR)), ((seatingR 0), .inl (cI, 70, .inl seating_gainsF))] s.heap.size = A at hD hN ⊢
  have hA : ∀ q : Nat, s.heap.size ≤ q → A q := fun q h => by rw [← hAe]; exact Or.inr h
  clear hAe hD0
  have hS : va_S A s.heap s.heap [] := va_S.rf
  have hl := lv_entry ([.ref a_p0]) (n := 3) (Nat.le_of_ble_eq_true rfl)
  rw [lg_entry_eq]
  generalize (lg_sl ([.ref a_p0]) ++ List.replicate (3 - (lg_sl ([.ref a_p0])).length) Slot.unset).toArray = ls at hl ⊢
  have hl : lv_has ls 3 [(0, .ref a_p0)] := hl
  have hw0 := hts (.fieldLink RX11 67 "DistantVoice" "home" "LDistantVoice$House;") (by decide +kernel)
  have hinX11 : ∀ w ∈ wsX110, w ∈ wsX11_countGains := fun w h => List.mem_cons_of_mem _ (List.mem_append_left _ (List.mem_append_left _ (List.mem_append_left _ (List.mem_append_left _ (List.mem_append_right _ h)))))
  have hnf48 := va_Nw.use (A := [.ref a_p0].toArray) rfl (hN.1.1.1 ("DistantVoice", 144, "DistantVoice$House", "ears", "I", "DistantVoice") (List.mem_of_getElem? (i := 48) rfl))
  have hinX2 : ∀ w ∈ wsX20, w ∈ wsX11_countGains := fun w h => List.mem_cons_of_mem _ (List.mem_append_left _ (List.mem_append_left _ (List.mem_append_left _ (List.mem_append_right _ h))))
  have hw4 := hts (.fieldLink RX11 76 "DistantVoice" "course" "LDistantVoice$Course;") (by decide +kernel)
  have hw5 := hts (.fieldLink RX11 23 "DistantVoice" "walk" "LDistantVoice$Moment;") (by decide +kernel)
  have hnf17 := va_Nw.use (A := [.ref a_p0].toArray) rfl (hN.1.1.1 ("DistantVoice", 162, "DistantVoice$Moment", "hush", "I", "DistantVoice") (List.mem_of_getElem? (i := 17) rfl))
  have hinX6 : ∀ w ∈ wsX60, w ∈ wsX11_countGains := fun w h => List.mem_cons_of_mem _ (List.mem_append_left _ (List.mem_append_left _ (List.mem_append_right _ h)))
  have hw8 := hts (.fieldLink RX11 43 "DistantVoice" "seating" "LDistantVoice$Seating;") (by decide +kernel)
  have hnf28 := va_Nw.use (A := [.ref a_p0].toArray) rfl (hN.1.1.1 ("DistantVoice", 235, "DistantVoice$Seating", "gains", "[I", "DistantVoice") (List.mem_of_getElem? (i := 28) rfl))
  have hinX8 : ∀ w ∈ wsX80, w ∈ wsX11_countGains := fun w h => List.mem_cons_of_mem _ (List.mem_append_left _ (List.mem_append_right _ h))
  have l2 : ∀ n2 : Nat, ∀ (course_valuesF_2 : Nat → Int32) (course_stackF_2 : Nat → Int32) (seating_gainsF_2 : Nat → Int32) (x1_2 : Int32) (ls : Array Slot) (H : Heap) (locs : List Loc), xq_loop (fX11_countGains_l2 N homeI walkI home_sharpsF home_hearsF home_hearsN) n2 (course_valuesF_2, course_stackF_2, seating_gainsF_2, x1_2) = some (r0, r1, r2) → va_P (dC, dI) vwCl [(a_p0, .inr (11, oX11 dvI dvR)), ((dvR 10), .inr (2, oX2 homeI homeR)), ((dvR 2), .inr (6, oX6 walkI walkR)), ((dvR 11), .inr (0, oX0 courseI (va_up courseR 0 (dvR 10)))), ((courseR 1), .inl (cI, 24, .inl course_valuesF_2)), ((homeR 9), .inl (cI, 7, .inl home_sharpsF)), ((homeR 14), .inl (cI, home_hearsN, .inl home_hearsF)), ((courseR 2), .inl (cI, 64, .inl course_stackF_2)), ((dvR 5), .inr (8, oX8 seatingI seatingR)), ((seatingR 0), .inl (cI, 70, .inl seating_gainsF_2))] H → va_D A [(a_p0, .inr (11, oX11 dvI dvR)), ((dvR 10), .inr (2, oX2 homeI homeR)), ((dvR 2), .inr (6, oX6 walkI walkR)), ((dvR 11), .inr (0, oX0 courseI (va_up courseR 0 (dvR 10)))), ((courseR 1), .inl (cI, 24, .inl course_valuesF_2)), ((homeR 9), .inl (cI, 7, .inl home_sharpsF)), ((homeR 14), .inl (cI, home_hearsN, .inl home_hearsF)), ((courseR 2), .inl (cI, 64, .inl course_stackF_2)), ((dvR 5), .inr (8, oX8 seatingI seatingR)), ((seatingR 0), .inl (cI, 70, .inl seating_gainsF_2))] → va_S A s.heap H locs → lv_has ls 3 [(0, .ref a_p0), (1, .int x1_2)] → W p l e (headSpec wsX11_countGains { frames := 4, cells := 0, slots := 0, locals := 99 }).room s m [.ref a_p0].toArray below meth c H locs 0 0 (MQ below (xq_Q (dC, dI) vwCl (xq_tys cI cB cJ cZ cM) A [(a_p0, .inr (11, oX11 dvI dvR)), ((dvR 10), .inr (2, oX2 homeI homeR)), ((dvR 2), .inr (6, oX6 walkI walkR)), ((dvR 11), .inr (0, oX0 courseI (va_up courseR 0 (dvR 10)))), ((courseR 1), .inl (cI, 24, .inl r0)), ((homeR 9), .inl (cI, 7, .inl home_sharpsF)), ((homeR 14), .inl (cI, home_hearsN, .inl home_hearsF)), ((courseR 2), .inl (cI, 64, .inl r1)), ((dvR 5), .inr (8, oX8 seatingI seatingR)), ((seatingR 0), .inl (cI, 70, .inl r2))] none) [.ref a_p0].toArray s 0 0 A) (F0 m 2 ls []) := by
    intro n2
    induction n2 with
    | zero => intro course_valuesF_2 course_stackF_2 seating_gainsF_2 x1_2 ls H locs hf; cases (show none = some (r0, r1, r2) from hf)
    | succ n2 ih2 =>
      have l15 : ∀ n15 : Nat, ∀ (course_valuesF_15 : Nat → Int32) (course_stackF_15 : Nat → Int32) (seating_gainsF_15 : Nat → Int32) (x1_15 : Int32) (x2_15 : Int32) (ls : Array Slot) (H : Heap) (locs : List Loc), xq_loop (fX11_countGains_l15 N homeI walkI home_sharpsF home_hearsF home_hearsN (xq_loop (fX11_countGains_l2 N homeI walkI home_sharpsF home_hearsF home_hearsN) n2)) n15 (course_valuesF_15, course_stackF_15, seating_gainsF_15, x1_15, x2_15) = some (r0, r1, r2) → va_P (dC, dI) vwCl [(a_p0, .inr (11, oX11 dvI dvR)), ((dvR 10), .inr (2, oX2 homeI homeR)), ((dvR 2), .inr (6, oX6 walkI walkR)), ((dvR 11), .inr (0, oX0 courseI (va_up courseR 0 (dvR 10)))), ((courseR 1), .inl (cI, 24, .inl course_valuesF_15)), ((homeR 9), .inl (cI, 7, .inl home_sharpsF)), ((homeR 14), .inl (cI, home_hearsN, .inl home_hearsF)), ((courseR 2), .inl (cI, 64, .inl course_stackF_15)), ((dvR 5), .inr (8, oX8 seatingI seatingR)), ((seatingR 0), .inl (cI, 70, .inl seating_gainsF_15))] H → va_D A [(a_p0, .inr (11, oX11 dvI dvR)), ((dvR 10), .inr (2, oX2 homeI homeR)), ((dvR 2), .inr (6, oX6 walkI walkR)), ((dvR 11), .inr (0, oX0 courseI (va_up courseR 0 (dvR 10)))), ((courseR 1), .inl (cI, 24, .inl course_valuesF_15)), ((homeR 9), .inl (cI, 7, .inl home_sharpsF)), ((homeR 14), .inl (cI, home_hearsN, .inl home_hearsF)), ((courseR 2), .inl (cI, 64, .inl course_stackF_15)), ((dvR 5), .inr (8, oX8 seatingI seatingR)), ((seatingR 0), .inl (cI, 70, .inl seating_gainsF_15))] → va_S A s.heap H locs → lv_has ls 3 [(0, .ref a_p0), (1, .int x1_15), (2, .int x2_15)] → W p l e (headSpec wsX11_countGains { frames := 4, cells := 0, slots := 0, locals := 99 }).room s m [.ref a_p0].toArray below meth c H locs 0 0 (MQ below (xq_Q (dC, dI) vwCl (xq_tys cI cB cJ cZ cM) A [(a_p0, .inr (11, oX11 dvI dvR)), ((dvR 10), .inr (2, oX2 homeI homeR)), ((dvR 2), .inr (6, oX6 walkI walkR)), ((dvR 11), .inr (0, oX0 courseI (va_up courseR 0 (dvR 10)))), ((courseR 1), .inl (cI, 24, .inl r0)), ((homeR 9), .inl (cI, 7, .inl home_sharpsF)), ((homeR 14), .inl (cI, home_hearsN, .inl home_hearsF)), ((courseR 2), .inl (cI, 64, .inl r1)), ((dvR 5), .inr (8, oX8 seatingI seatingR)), ((seatingR 0), .inl (cI, 70, .inl r2))] none) [.ref a_p0].toArray s 0 0 A) (F0 m 15 ls []) := by
        intro n15
        induction n15 with
        | zero => intro course_valuesF_15 course_stackF_15 seating_gainsF_15 x1_15 x2_15 ls H locs hf; cases (show none = some (r0, r1, r2) from hf)
        | succ n15 ih15 =>
          have b62 : ∀ (course_valuesF_62 : Nat → Int32) (course_stackF_62 : Nat → Int32) (seating_gainsF_62 : Nat → Int32) (x1_62 : Int32) (x2_62 : Int32) (ls : Array Slot) (H : Heap) (locs : List Loc), fX11_countGains_b62 N homeI walkI home_sharpsF home_hearsF home_hearsN (xq_loop (fX11_countGains_l2 N homeI walkI home_sharpsF home_hearsF home_hearsN) n2) (xq_loop (fX11_countGains_l15 N homeI walkI home_sharpsF home_hearsF home_hearsN (xq_loop (fX11_countGains_l2 N homeI walkI home_sharpsF home_hearsF home_hearsN) n2)) n15) (course_valuesF_62, course_stackF_62, seating_gainsF_62, x1_62, x2_62) = some (r0, r1, r2) → va_P (dC, dI) vwCl [(a_p0, .inr (11, oX11 dvI dvR)), ((dvR 10), .inr (2, oX2 homeI homeR)), ((dvR 2), .inr (6, oX6 walkI walkR)), ((dvR 11), .inr (0, oX0 courseI (va_up courseR 0 (dvR 10)))), ((courseR 1), .inl (cI, 24, .inl course_valuesF_62)), ((homeR 9), .inl (cI, 7, .inl home_sharpsF)), ((homeR 14), .inl (cI, home_hearsN, .inl home_hearsF)), ((courseR 2), .inl (cI, 64, .inl course_stackF_62)), ((dvR 5), .inr (8, oX8 seatingI seatingR)), ((seatingR 0), .inl (cI, 70, .inl seating_gainsF_62))] H → va_D A [(a_p0, .inr (11, oX11 dvI dvR)), ((dvR 10), .inr (2, oX2 homeI homeR)), ((dvR 2), .inr (6, oX6 walkI walkR)), ((dvR 11), .inr (0, oX0 courseI (va_up courseR 0 (dvR 10)))), ((courseR 1), .inl (cI, 24, .inl course_valuesF_62)), ((homeR 9), .inl (cI, 7, .inl home_sharpsF)), ((homeR 14), .inl (cI, home_hearsN, .inl home_hearsF)), ((courseR 2), .inl (cI, 64, .inl course_stackF_62)), ((dvR 5), .inr (8, oX8 seatingI seatingR)), ((seatingR 0), .inl (cI, 70, .inl seating_gainsF_62))] → va_S A s.heap H locs → lv_has ls 3 [(0, .ref a_p0), (1, .int x1_62), (2, .int x2_62)] → W p l e (headSpec wsX11_countGains { frames := 4, cells := 0, slots := 0, locals := 99 }).room s m [.ref a_p0].toArray below meth c H locs 0 0 (MQ below (xq_Q (dC, dI) vwCl (xq_tys cI cB cJ cZ cM) A [(a_p0, .inr (11, oX11 dvI dvR)), ((dvR 10), .inr (2, oX2 homeI homeR)), ((dvR 2), .inr (6, oX6 walkI walkR)), ((dvR 11), .inr (0, oX0 courseI (va_up courseR 0 (dvR 10)))), ((courseR 1), .inl (cI, 24, .inl r0)), ((homeR 9), .inl (cI, 7, .inl home_sharpsF)), ((homeR 14), .inl (cI, home_hearsN, .inl home_hearsF)), ((courseR 2), .inl (cI, 64, .inl r1)), ((dvR 5), .inr (8, oX8 seatingI seatingR)), ((seatingR 0), .inl (cI, 70, .inl r2))] none) [.ref a_p0].toArray s 0 0 A) (F0 m 62 ls []) := by
            intro course_valuesF_62 course_stackF_62 seating_gainsF_62 x1_62 x2_62 ls H locs hf hP hD hS hl
            unfold fX11_countGains_b62 at hf
            refine lv_iinc (v := x2_62 + 1) (lv' := [(2, .int (x2_62 + 1)), (0, .ref a_p0), (1, .int x1_62)]) hx hb dX11_countGains_62 hl (k := 2) rfl (congrArg (fun q9 => x2_62 + q9) (by decide : Int32.ofInt 1 = 1)) (by decide) rfl (fun ls hl => ?_)
            refine lv_goto (tgt := 15) hx hb dX11_countGains_65 (by decide) ?_
            exact ih15 course_valuesF_62 course_stackF_62 seating_gainsF_62 x1_62 (x2_62 + 1) _ _ _ hf hP hD hS (lv_sub hl [1, 2, 0] rfl)
          intro course_valuesF_15 course_stackF_15 seating_gainsF_15 x1_15 x2_15 ls H locs hf hP hD hS hl
          have hf : fX11_countGains_l15 N homeI walkI home_sharpsF home_hearsF home_hearsN (xq_loop (fX11_countGains_l2 N homeI walkI home_sharpsF home_hearsF home_hearsN) n2) (xq_loop (fX11_countGains_l15 N homeI walkI home_sharpsF home_hearsF home_hearsN (xq_loop (fX11_countGains_l2 N homeI walkI home_sharpsF home_hearsF home_hearsN) n2)) n15) (course_valuesF_15, course_stackF_15, seating_gainsF_15, x1_15, x2_15) = some (r0, r1, r2) := hf
          unfold fX11_countGains_l15 at hf
          refine lv_iload_n hx hb dX11_countGains_15 rfl (lv_at hl 2 rfl) ?_
          refine lv_bipush (v := 10) hx hb dX11_countGains_16 (by decide) ?_
          refine lv_icmp_ge (tgt := 68) hx hb dX11_countGains_18 (by decide) (fun c_ => ?_) (fun c_ => ?_)
          · have hf := xq_pos hf c_
            refine lv_iinc (v := x1_15 + 1) (lv' := [(1, .int (x1_15 + 1)), (0, .ref a_p0), (2, .int x2_15)]) hx hb dX11_countGains_68 hl (k := 1) rfl (congrArg (fun q9 => x1_15 + q9) (by decide : Int32.ofInt 1 = 1)) (by decide) rfl (fun ls hl => ?_)
            refine lv_goto (tgt := 2) hx hb dX11_countGains_71 (by decide) ?_
            exact ih2 course_valuesF_15 course_stackF_15 seating_gainsF_15 (x1_15 + 1) _ _ _ hf hP hD hS (lv_sub hl [1, 0] rfl)
          · have hf := xq_neg hf c_
            refine lv_aload_n hx hb dX11_countGains_21 rfl (lv_at hl 0 rfl) ?_
            refine va_get (D := (dC, dI)) (ci := 11) (v := .ref ((dvR 11))) (C := RX11) (T := TX11) (N := 15) hx hb hts hinX11 hown hK hP 0 rfl rfl 11 (by decide) hw4 (fun _ h9 => h9) rfl dX11_countGains_22 ?_
            refine lv_aload_n hx hb dX11_countGains_25 rfl (lv_at hl 0 rfl) ?_
            refine va_get (D := (dC, dI)) (ci := 11) (v := .ref ((dvR 2))) (C := RX11) (T := TX11) (N := 15) hx hb hts hinX11 hown hK hP 0 rfl rfl 2 (by decide) hw5 (fun _ h9 => h9) rfl dX11_countGains_26 ?_
            refine lv_iload_n hx hb dX11_countGains_29 rfl (lv_at hl 1 rfl) ?_
            refine lv_iload_n hx hb dX11_countGains_30 rfl (lv_at hl 2 rfl) ?_
            refine lv_aload_n hx hb dX11_countGains_31 rfl (lv_at hl 0 rfl) ?_
            refine va_get (D := (dC, dI)) (ci := 11) (v := .ref ((dvR 2))) (C := RX11) (T := TX11) (N := 15) hx hb hts hinX11 hown hK hP 0 rfl rfl 2 (by decide) hw5 (fun _ h9 => h9) rfl dX11_countGains_32 ?_
            refine va_getN (D := (dC, dI)) (ci := 6) (v := .int (walkI 4)) (C := RX6) (T := TX6) (N := 8) hx hb hts hinX6 hown hK hP 2 rfl rfl 4 (by decide) hnf17 (fun _ h9 => h9) rfl dX11_countGains_35 ?_
            obtain ⟨⟨r_1_0, r_1_1, r_1_2⟩, h_2, hf⟩ := xq_bd_some hf
            refine xq_callV (As := [.ref ((dvR 2)), .int x1_15, .int x2_15, .int (walkI 4)]) (rest := []) (ci := 0) (q0 := 3) ⟨hx, hb, hml, hown, hts⟩ (kX0_hearsIn l dC dI cI cB cJ cZ cM z ad N ((dvR 2)) walkI walkR ((dvR 11)) courseI ((va_up courseR 0 (dvR 10))) course_valuesF_15 homeI homeR home_sharpsF home_hearsF home_hearsN course_stackF_15 x1_15 x2_15 (walkI 4) h_2) (cwV 4 hts gX11_countGains_X0_hearsIn rfl rfl rfl (by decide +kernel) ⟨Nat.le_of_ble_eq_true rfl, Nat.le_of_ble_eq_true rfl⟩) hN hK hP hD hS hA [2, 3, 4, 1, 5, 6, 7] (by decide) rfl rfl rfl rfl rfl rfl hl.1 rfl (Nat.le_of_ble_eq_true rfl) dX11_countGains_38 ⟨Nat.zero_le _, Nat.zero_le _⟩ (fun H locs hP hD hS => ?_)
            have hP : va_P (dC, dI) vwCl [(a_p0, .inr (11, oX11 dvI dvR)), ((dvR 10), .inr (2, oX2 homeI homeR)), ((dvR 2), .inr (6, oX6 walkI walkR)), ((dvR 11), .inr (0, oX0 courseI (va_up courseR 0 (dvR 10)))), ((courseR 1), .inl (cI, 24, .inl r_1_1)), ((homeR 9), .inl (cI, 7, .inl home_sharpsF)), ((homeR 14), .inl (cI, home_hearsN, .inl home_hearsF)), ((courseR 2), .inl (cI, 64, .inl r_1_2)), ((dvR 5), .inr (8, oX8 seatingI seatingR)), ((seatingR 0), .inl (cI, 70, .inl seating_gainsF_15))] H := hP
            have hD : va_D A [(a_p0, .inr (11, oX11 dvI dvR)), ((dvR 10), .inr (2, oX2 homeI homeR)), ((dvR 2), .inr (6, oX6 walkI walkR)), ((dvR 11), .inr (0, oX0 courseI (va_up courseR 0 (dvR 10)))), ((courseR 1), .inl (cI, 24, .inl r_1_1)), ((homeR 9), .inl (cI, 7, .inl home_sharpsF)), ((homeR 14), .inl (cI, home_hearsN, .inl home_hearsF)), ((courseR 2), .inl (cI, 64, .inl r_1_2)), ((dvR 5), .inr (8, oX8 seatingI seatingR)), ((seatingR 0), .inl (cI, 70, .inl seating_gainsF_15))] := hD
            refine W.eq (g2 := F0 m 41 ls [.int r_1_0]) rfl ?_
            refine lv_if_eq (tgt := 62) hx hb dX11_countGains_41 (by decide) (fun c_ => ?_) (fun c_ => ?_)
            · have hf := xq_pos hf c_
              exact b62 r_1_1 r_1_2 seating_gainsF_15 x1_15 x2_15 _ _ _ hf hP hD hS (lv_sub hl [0, 1, 2] rfl)
            · have hf := xq_neg hf c_
              refine lv_aload_n hx hb dX11_countGains_44 rfl (lv_at hl 0 rfl) ?_
              refine va_get (D := (dC, dI)) (ci := 11) (v := .ref ((dvR 5))) (C := RX11) (T := TX11) (N := 15) hx hb hts hinX11 hown hK hP 0 rfl rfl 5 (by decide) hw8 (fun _ h9 => h9) rfl dX11_countGains_45 ?_
              refine va_getN (D := (dC, dI)) (ci := 8) (v := .ref ((seatingR 0))) (C := RX8) (T := TX8) (N := 3) hx hb hts hinX8 hown hK hP 8 rfl rfl 0 (by decide) hnf28 (fun _ h9 => h9) rfl dX11_countGains_48 ?_
              refine lv_iload_n hx hb dX11_countGains_51 rfl (lv_at hl 1 rfl) ?_
              refine lv_bipush (v := 10) hx hb dX11_countGains_52 (by decide) ?_
              refine lv_imul hx hb dX11_countGains_54 ?_
              refine lv_iload_n hx hb dX11_countGains_55 rfl (lv_at hl 2 rfl) ?_
              refine lv_iadd hx hb dX11_countGains_56 ?_
              refine lv_dup2_11 hx hb dX11_countGains_57 rfl rfl ?_
              refine xq_iald hx hb hK hP 9 0 rfl rfl hf dX11_countGains_58 (fun v_3 hf => ?_)
              refine lv_iconst (v := 1) hx hb dX11_countGains_59 (by decide) ?_
              refine lv_iadd hx hb dX11_countGains_60 ?_
              refine xq_iast hx hb hK hP hD hS 9 0 rfl rfl hf dX11_countGains_61 (fun g_4 H locs hf hP hD hS => ?_)
              have hP : va_P (dC, dI) vwCl [(a_p0, .inr (11, oX11 dvI dvR)), ((dvR 10), .inr (2, oX2 homeI homeR)), ((dvR 2), .inr (6, oX6 walkI walkR)), ((dvR 11), .inr (0, oX0 courseI (va_up courseR 0 (dvR 10)))), ((courseR 1), .inl (cI, 24, .inl r_1_1)), ((homeR 9), .inl (cI, 7, .inl home_sharpsF)), ((homeR 14), .inl (cI, home_hearsN, .inl home_hearsF)), ((courseR 2), .inl (cI, 64, .inl r_1_2)), ((dvR 5), .inr (8, oX8 seatingI seatingR)), ((seatingR 0), .inl (cI, 70, .inl g_4))] H := hP
              have hD : va_D A [(a_p0, .inr (11, oX11 dvI dvR)), ((dvR 10), .inr (2, oX2 homeI homeR)), ((dvR 2), .inr (6, oX6 walkI walkR)), ((dvR 11), .inr (0, oX0 courseI (va_up courseR 0 (dvR 10)))), ((courseR 1), .inl (cI, 24, .inl r_1_1)), ((homeR 9), .inl (cI, 7, .inl home_sharpsF)), ((homeR 14), .inl (cI, home_hearsN, .inl home_hearsF)), ((courseR 2), .inl (cI, 64, .inl r_1_2)), ((dvR 5), .inr (8, oX8 seatingI seatingR)), ((seatingR 0), .inl (cI, 70, .inl g_4))] := hD
              exact b62 r_1_1 r_1_2 g_4 x1_15 x2_15 _ _ _ hf hP hD hS (lv_sub hl [0, 1, 2] rfl)
      intro course_valuesF_2 course_stackF_2 seating_gainsF_2 x1_2 ls H locs hf hP hD hS hl
      have hf : fX11_countGains_l2 N homeI walkI home_sharpsF home_hearsF home_hearsN (xq_loop (fX11_countGains_l2 N homeI walkI home_sharpsF home_hearsF home_hearsN) n2) (course_valuesF_2, course_stackF_2, seating_gainsF_2, x1_2) = some (r0, r1, r2) := hf
      unfold fX11_countGains_l2 at hf
      refine lv_iload_n hx hb dX11_countGains_2 rfl (lv_at hl 1 rfl) ?_
      refine lv_aload_n hx hb dX11_countGains_3 rfl (lv_at hl 0 rfl) ?_
      refine va_get (D := (dC, dI)) (ci := 11) (v := .ref ((dvR 10))) (C := RX11) (T := TX11) (N := 15) hx hb hts hinX11 hown hK hP 0 rfl rfl 10 (by decide) hw0 (fun _ h9 => h9) rfl dX11_countGains_4 ?_
      refine va_getN (D := (dC, dI)) (ci := 2) (v := .int (homeI 5)) (C := RX2) (T := TX2) (N := 19) hx hb hts hinX2 hown hK hP 1 rfl rfl 5 (by decide) hnf48 (fun _ h9 => h9) rfl dX11_countGains_7 ?_
      refine lv_icmp_ge (tgt := 74) hx hb dX11_countGains_10 (by decide) (fun c_ => ?_) (fun c_ => ?_)
      · have hf := xq_pos hf c_
        cases hf
        exact xq_vret hx hb hr hlocks hK hP hD hS dX11_countGains_74
      · have hf := xq_neg hf c_
        refine lv_iconst (v := 0) hx hb dX11_countGains_13 (by decide) ?_
        refine lv_istore_n (lv' := [(2, .int 0), (0, .ref a_p0), (1, .int x1_2)]) hx hb dX11_countGains_14 rfl hl (by decide) rfl (fun ls hl => ?_)
        exact l15 N course_valuesF_2 course_stackF_2 seating_gainsF_2 x1_2 0 _ _ _ hf hP hD hS (lv_sub hl [1, 2, 0] rfl)
  unfold fX11_countGains at hf
  refine lv_iconst (v := 0) hx hb dX11_countGains_0 (by decide) ?_
  refine lv_istore_n (lv' := [(1, .int 0), (0, .ref a_p0)]) hx hb dX11_countGains_1 rfl hl (by decide) rfl (fun ls hl => ?_)
  exact l2 N course_valuesF course_stackF seating_gainsF 0 _ _ _ hf hP hD hS (lv_sub hl [1, 0] rfl)
